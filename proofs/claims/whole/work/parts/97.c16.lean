-- X6_findBridges
set_option maxRecDepth 100000 in
theorem lt_X6_findBridges_26 (d : Nat) (hd : 3 ≤ d + 1) {r : Option am_V} {M' : am_M} {kc ks : Nat} {n : Nat} {x1 : Int32} {x2 : Int32} {x3 : Int32} {m : am_m} {t : am_m} (h : lp_X6_findBridges_26 n x1 x2 x3 m = some t) (hk : am_Go d 85 (70, [some (.inr (.inr (some (6, 0)))), some (.inl x1), some (.inl x2), none], [], am_mk t) r M' kc ks) : am_Go d 85 (26, [some (.inr (.inr (some (6, 0)))), some (.inl x1), some (.inl x2), some (.inl x3)], [], am_mk m) r M' kc ks := by
  have htb : am_tab 85 = at_85 := rfl
  induction n generalizing x3 m with
  | zero => cases h
  | succ n ih =>
    unfold lp_X6_findBridges_26 at h
    refine am_Go.n htb 3 (S' := (31, [some (.inr (.inr (some (6, 0)))), some (.inl x1), some (.inl x2), some (.inl x3)], [.inl (m.1 6 0 0), .inl x3], am_mk m)) rfl ?_
    by_cases hc4 : (m.1 6 0 0) ≤ x3
    · rw [if_pos hc4] at h
      refine am_Go.c1 htb (S' := (70, [some (.inr (.inr (some (6, 0)))), some (.inl x1), some (.inl x2), some (.inl x3)], [], am_mk m)) (if_pos hc4) ?_
      cases h
      exact am_Go.fg (by exact ⟨rfl, ⟨rfl, ⟨rfl, trivial⟩⟩⟩) hk
    · rw [if_neg hc4] at h
      refine am_Go.c1 htb (S' := (34, [some (.inr (.inr (some (6, 0)))), some (.inl x1), some (.inl x2), some (.inl x3)], [], am_mk m)) (if_neg hc4) ?_
      refine am_Go.n htb 3 (S' := (39, [some (.inr (.inr (some (6, 0)))), some (.inl x1), some (.inl x2), some (.inl x3)], [.inl x2, .inr (.inr (some (30, 0)))], am_mk m)) rfl ?_
      obtain ⟨hg5, h⟩ := am_ck_some h
      refine am_Go.c1 htb (S' := (40, [some (.inr (.inr (some (6, 0)))), some (.inl x1), some (.inl x2), some (.inl x3)], [.inl (m.1 30 0 x2.toNatClampNeg)], am_mk m)) (if_neg hg5) ?_
      refine am_Go.n htb 5 (S' := (45, [some (.inr (.inr (some (6, 0)))), some (.inl x1), some (.inl x2), some (.inl x3)], [.inl 1, .inl (((m.1 30 0 x2.toNatClampNeg) >>> (x3 &&& 31)) &&& (1 : Int32))], am_mk m)) rfl ?_
      obtain ⟨q12, h13, h⟩ := am_bd h
      refine am_Go.cut (S := (64, [some (.inr (.inr (some (6, 0)))), some (.inl x1), some (.inl x2), some (.inl x3)], [], am_mk q12)) ?_ (fun key => ?_)
      · refine am_Go.n htb 2 (S' := (26, [some (.inr (.inr (some (6, 0)))), some (.inl x1), some (.inl x2), some (.inl (x3 + 1))], [], am_mk q12)) rfl ?_
        first | exact ih h | exact ih h hk
      · have h := h13
        by_cases hc6 : (((m.1 30 0 x2.toNatClampNeg) >>> (x3 &&& 31)) &&& (1 : Int32)) ≠ (1 : Int32)
        · rw [if_pos hc6] at h
          refine am_Go.c1 htb (S' := (64, [some (.inr (.inr (some (6, 0)))), some (.inl x1), some (.inl x2), some (.inl x3)], [], am_mk m)) (if_pos hc6) ?_
          cases h
          exact am_Go.fg (by exact ⟨rfl, ⟨rfl, ⟨rfl, ⟨rfl, trivial⟩⟩⟩⟩) key
        · rw [if_neg hc6] at h
          refine am_Go.c1 htb (S' := (48, [some (.inr (.inr (some (6, 0)))), some (.inl x1), some (.inl x2), some (.inl x3)], [], am_mk m)) (if_neg hc6) ?_
          refine am_Go.n htb 3 (S' := (51, [some (.inr (.inr (some (6, 0)))), some (.inl x1), some (.inl x2), some (.inl x3)], [.inl x3, .inl x2, .inr (.inr (some (6, 0)))], am_mk m)) rfl ?_
          obtain ⟨r7, h8, h⟩ := am_bd h
          refine am_Go.cl htb rfl (ex_X6_circlesWithout d (by omega) x2 x3 m r7 h8) ?_
          show am_Go d 85 (54, [some (.inr (.inr (some (6, 0)))), some (.inl x1), some (.inl x2), some (.inl x3)], [.inl r7], am_mk m) _ _ _ _
          refine am_Go.n htb 1 (S' := (55, [some (.inr (.inr (some (6, 0)))), some (.inl x1), some (.inl x2), some (.inl x3)], [.inl x1, .inl r7], am_mk m)) rfl ?_
          by_cases hc9 : r7 ≤ x1
          · rw [if_pos hc9] at h
            refine am_Go.c1 htb (S' := (64, [some (.inr (.inr (some (6, 0)))), some (.inl x1), some (.inl x2), some (.inl x3)], [], am_mk m)) (if_pos hc9) ?_
            cases h
            exact am_Go.fg (by exact ⟨rfl, ⟨rfl, ⟨rfl, ⟨rfl, trivial⟩⟩⟩⟩) key
          · rw [if_neg hc9] at h
            refine am_Go.c1 htb (S' := (58, [some (.inr (.inr (some (6, 0)))), some (.inl x1), some (.inl x2), some (.inl x3)], [], am_mk m)) (if_neg hc9) ?_
            refine am_Go.n htb 3 (S' := (61, [some (.inr (.inr (some (6, 0)))), some (.inl x1), some (.inl x2), some (.inl x3)], [.inl x3, .inl x2, .inr (.inr (some (6, 0)))], am_mk m)) rfl ?_
            obtain ⟨r10, h11, h⟩ := am_bd h
            refine am_Go.cl htb rfl (ex_X6_addTwo d (by omega) x2 x3 m r10 h11) ?_
            show am_Go d 85 (64, [some (.inr (.inr (some (6, 0)))), some (.inl x1), some (.inl x2), some (.inl x3)], [], am_mk r10) _ _ _ _
            cases h
            exact am_Go.fg (by exact ⟨rfl, ⟨rfl, ⟨rfl, ⟨rfl, trivial⟩⟩⟩⟩) key
set_option maxRecDepth 100000 in
theorem lt_X6_findBridges_14 (d : Nat) (hd : 3 ≤ d + 1) {r : Option am_V} {M' : am_M} {kc ks : Nat} {n : Nat} {x1 : Int32} {x2 : Int32} {m : am_m} {t : am_m} (h : lp_X6_findBridges_14 n x1 x2 m = some t) (hk : am_Go d 85 (76, [some (.inr (.inr (some (6, 0)))), some (.inl x1), none, none], [], am_mk t) r M' kc ks) : am_Go d 85 (14, [some (.inr (.inr (some (6, 0)))), some (.inl x1), some (.inl x2), none], [], am_mk m) r M' kc ks := by
  have htb : am_tab 85 = at_85 := rfl
  induction n generalizing x2 m with
  | zero => cases h
  | succ n ih =>
    unfold lp_X6_findBridges_14 at h
    refine am_Go.n htb 3 (S' := (19, [some (.inr (.inr (some (6, 0)))), some (.inl x1), some (.inl x2), none], [.inl (m.1 6 0 0), .inl x2], am_mk m)) rfl ?_
    by_cases hc3 : (m.1 6 0 0) ≤ x2
    · rw [if_pos hc3] at h
      refine am_Go.c1 htb (S' := (76, [some (.inr (.inr (some (6, 0)))), some (.inl x1), some (.inl x2), none], [], am_mk m)) (if_pos hc3) ?_
      cases h
      exact am_Go.fg (by exact ⟨rfl, ⟨rfl, trivial⟩⟩) hk
    · rw [if_neg hc3] at h
      refine am_Go.c1 htb (S' := (22, [some (.inr (.inr (some (6, 0)))), some (.inl x1), some (.inl x2), none], [], am_mk m)) (if_neg hc3) ?_
      refine am_Go.n htb 4 (S' := (26, [some (.inr (.inr (some (6, 0)))), some (.inl x1), some (.inl x2), some (.inl (x2 + (1 : Int32)))], [], am_mk m)) rfl ?_
      obtain ⟨q14, h15, h⟩ := am_bd h
      refine lt_X6_findBridges_26 _ hd (h := h15) (hk := ?_)
      refine am_Go.n htb 2 (S' := (14, [some (.inr (.inr (some (6, 0)))), some (.inl x1), some (.inl (x2 + 1)), none], [], am_mk q14)) rfl ?_
      first | exact ih h | exact ih h hk
set_option maxRecDepth 100000 in
theorem ex_X6_findBridges (d : Nat) (hd : 3 ≤ d)  (m : am_m) (t : am_m) (h : fn_X6_findBridges  m = some t) : am_Ex am_cod d 85 [.inr (.inr (some (6, 0)))] (am_mk m) (none) (am_mk t) 0 0 := by
  obtain ⟨d, rfl⟩ : ∃ e, d = e + 1 := ⟨d - 1, by omega⟩
  have htb : am_tab 85 = at_85 := rfl
  refine ⟨Nat.le_of_ble_eq_true rfl, ?_⟩
  unfold fn_X6_findBridges at h
  show am_Go d 85 (0, [some (.inr (.inr (some (6, 0)))), none, none, none], [], am_mk m) _ _ 0 0
  refine am_Go.n htb 6 (S' := (8, [some (.inr (.inr (some (6, 0)))), none, none, none], [.inl (-1), .inl (-1), .inr (.inr (some (6, 0)))], am_mk (am_si m 6 0 7 0))) rfl ?_
  obtain ⟨r1, h2, h⟩ := am_bd h
  refine am_Go.cl htb rfl (ex_X6_circlesWithout d (by omega) (-1) (-1) (am_si m 6 0 7 0) r1 h2) ?_
  show am_Go d 85 (11, [some (.inr (.inr (some (6, 0)))), none, none, none], [.inl r1], am_mk (am_si m 6 0 7 0)) _ _ _ _
  refine am_Go.n htb 3 (S' := (14, [some (.inr (.inr (some (6, 0)))), some (.inl r1), some (.inl 0), none], [], am_mk (am_si m 6 0 7 0))) rfl ?_
  obtain ⟨q16, h17, h⟩ := am_bd h
  refine lt_X6_findBridges_14 _ hd (h := h17) (hk := ?_)
  cases h
  exact am_Go.rt htb rfl
-- X6_wereSeen
set_option maxRecDepth 100000 in
theorem lt_X6_wereSeen_2 (d : Nat) (hd : 1 ≤ d + 1) {r : Option am_V} {M' : am_M} {kc ks : Nat} {n : Nat} {x0 : Nat} {x1 : Int32} {x2 : Int32} {m : am_m} {t : Sum (Unit) (Int32)} (h : lp_X6_wereSeen_2 n x0 x1 x2 m = some t) (hk : ∀ t', t = .inl t' → am_Go d 87 (30, [some (.inr (.inr (some (8, x0)))), some (.inl x1), none], [], am_mk m) r M' kc ks) (hr : ∀ t', t = .inr t' → r = some (.inl t') ∧ M' = am_mk m ∧ kc = 0 ∧ ks = 0) : am_Go d 87 (2, [some (.inr (.inr (some (8, x0)))), some (.inl x1), some (.inl x2)], [], am_mk m) r M' kc ks := by
  have htb : am_tab 87 = at_87 := rfl
  induction n generalizing x2 with
  | zero => cases h
  | succ n ih =>
    unfold lp_X6_wereSeen_2 at h
    refine am_Go.n htb 3 (S' := (7, [some (.inr (.inr (some (8, x0)))), some (.inl x1), some (.inl x2)], [.inl (m.1 8 x0 1), .inl x2], am_mk m)) rfl ?_
    by_cases hc1 : (m.1 8 x0 1) ≤ x2
    · rw [if_pos hc1] at h
      refine am_Go.c1 htb (S' := (30, [some (.inr (.inr (some (8, x0)))), some (.inl x1), some (.inl x2)], [], am_mk m)) (if_pos hc1) ?_
      cases h
      exact am_Go.fg (by exact ⟨rfl, ⟨rfl, trivial⟩⟩) (hk _ rfl)
    · rw [if_neg hc1] at h
      refine am_Go.c1 htb (S' := (10, [some (.inr (.inr (some (8, x0)))), some (.inl x1), some (.inl x2)], [], am_mk m)) (if_neg hc1) ?_
      refine am_Go.n htb 3 (S' := (15, [some (.inr (.inr (some (8, x0)))), some (.inl x1), some (.inl x2)], [.inl x2, .inr (.inr (some (40, x0)))], am_mk m)) rfl ?_
      obtain ⟨hg2, h⟩ := am_ck_some h
      refine am_Go.c1 htb (S' := (16, [some (.inr (.inr (some (8, x0)))), some (.inl x1), some (.inl x2)], [.inl (m.1 40 x0 x2.toNatClampNeg)], am_mk m)) (if_neg hg2) ?_
      refine am_Go.n htb 3 (S' := (19, [some (.inr (.inr (some (8, x0)))), some (.inl x1), some (.inl x2)], [.inl x1, .inl ((m.1 40 x0 x2.toNatClampNeg) &&& x1)], am_mk m)) rfl ?_
      by_cases hc3 : ((m.1 40 x0 x2.toNatClampNeg) &&& x1) ≠ x1
      · rw [if_pos hc3] at h
        refine am_Go.c1 htb (S' := (24, [some (.inr (.inr (some (8, x0)))), some (.inl x1), some (.inl x2)], [], am_mk m)) (if_pos hc3) ?_
        refine am_Go.n htb 2 (S' := (2, [some (.inr (.inr (some (8, x0)))), some (.inl x1), some (.inl (x2 + 1))], [], am_mk m)) rfl ?_
        first | exact ih h | exact ih h hk | exact ih h hr | exact ih h hk hr
      · rw [if_neg hc3] at h
        refine am_Go.c1 htb (S' := (22, [some (.inr (.inr (some (8, x0)))), some (.inl x1), some (.inl x2)], [], am_mk m)) (if_neg hc3) ?_
        refine am_Go.n htb 1 (S' := (23, [some (.inr (.inr (some (8, x0)))), some (.inl x1), some (.inl x2)], [.inl 1], am_mk m)) rfl ?_
        cases h
        obtain ⟨rfl, rfl, rfl, rfl⟩ := hr _ rfl
        exact am_Go.rt htb rfl
set_option maxRecDepth 100000 in
theorem ex_X6_wereSeen (d : Nat) (hd : 1 ≤ d) (a1 : Nat) (a2 : Int32) (m : am_m) (t : Int32) (h : fn_X6_wereSeen a1 a2 m = some t) : am_Ex am_cod d 87 [.inr (.inr (some (8, a1))), .inl a2] (am_mk m) (some (.inl t)) (am_mk m) 0 0 := by
  obtain ⟨d, rfl⟩ : ∃ e, d = e + 1 := ⟨d - 1, by omega⟩
  have htb : am_tab 87 = at_87 := rfl
  refine ⟨Nat.le_of_ble_eq_true rfl, ?_⟩
  unfold fn_X6_wereSeen at h
  show am_Go d 87 (0, [some (.inr (.inr (some (8, a1)))), some (.inl a2), none], [], am_mk m) _ _ 0 0
  refine am_Go.n htb 2 (S' := (2, [some (.inr (.inr (some (8, a1)))), some (.inl a2), some (.inl 0)], [], am_mk m)) rfl ?_
  obtain ⟨w7, h5, h⟩ := am_bd h
  refine lt_X6_wereSeen_2 _ hd (h := h5) (hk := ?_) (hr := ?_)
  · intro q4 he
    subst he
    dsimp only at h
    refine am_Go.n htb 1 (S' := (31, [some (.inr (.inr (some (8, a1)))), some (.inl a2), none], [.inl 0], am_mk m)) rfl ?_
    cases h
    exact am_Go.rt htb rfl
  · intro rr6 he
    subst he
    cases h
    exact ⟨rfl, rfl, rfl, rfl⟩
-- X6_findDoubted
set_option maxRecDepth 100000 in
theorem lt_X6_findDoubted_19 (d : Nat) (hd : 2 ≤ d + 1) {r : Option am_V} {M' : am_M} {kc ks : Nat} {n : Nat} {x1 : Nat} {x2 : Int32} {x3 : Int32} {m : am_m} {t : am_m} (h : lp_X6_findDoubted_19 n x1 x2 x3 m = some t) (hk : am_Go d 86 (66, [some (.inr (.inr (some (6, 0)))), some (.inr (.inr (some (8, x1)))), some (.inl x2), none], [], am_mk t) r M' kc ks) : am_Go d 86 (19, [some (.inr (.inr (some (6, 0)))), some (.inr (.inr (some (8, x1)))), some (.inl x2), some (.inl x3)], [], am_mk m) r M' kc ks := by
  have htb : am_tab 86 = at_86 := rfl
  induction n generalizing x3 m with
  | zero => cases h
  | succ n ih =>
    unfold lp_X6_findDoubted_19 at h
    refine am_Go.n htb 3 (S' := (24, [some (.inr (.inr (some (6, 0)))), some (.inr (.inr (some (8, x1)))), some (.inl x2), some (.inl x3)], [.inl (m.1 6 0 0), .inl x3], am_mk m)) rfl ?_
    by_cases hc2 : (m.1 6 0 0) ≤ x3
    · rw [if_pos hc2] at h
      refine am_Go.c1 htb (S' := (66, [some (.inr (.inr (some (6, 0)))), some (.inr (.inr (some (8, x1)))), some (.inl x2), some (.inl x3)], [], am_mk m)) (if_pos hc2) ?_
      cases h
      exact am_Go.fg (by exact ⟨rfl, ⟨rfl, ⟨rfl, trivial⟩⟩⟩) hk
    · rw [if_neg hc2] at h
      refine am_Go.c1 htb (S' := (27, [some (.inr (.inr (some (6, 0)))), some (.inr (.inr (some (8, x1)))), some (.inl x2), some (.inl x3)], [], am_mk m)) (if_neg hc2) ?_
      refine am_Go.n htb 3 (S' := (32, [some (.inr (.inr (some (6, 0)))), some (.inr (.inr (some (8, x1)))), some (.inl x2), some (.inl x3)], [.inl x2, .inr (.inr (some (30, 0)))], am_mk m)) rfl ?_
      obtain ⟨hg3, h⟩ := am_ck_some h
      refine am_Go.c1 htb (S' := (33, [some (.inr (.inr (some (6, 0)))), some (.inr (.inr (some (8, x1)))), some (.inl x2), some (.inl x3)], [.inl (m.1 30 0 x2.toNatClampNeg)], am_mk m)) (if_neg hg3) ?_
      refine am_Go.n htb 4 (S' := (37, [some (.inr (.inr (some (6, 0)))), some (.inr (.inr (some (8, x1)))), some (.inl x2), some (.inl x3)], [.inl (((m.1 30 0 x2.toNatClampNeg) >>> (x3 &&& 31)) &&& (1 : Int32))], am_mk m)) rfl ?_
      obtain ⟨q10, h11, h⟩ := am_bd h
      refine am_Go.cut (S := (60, [some (.inr (.inr (some (6, 0)))), some (.inr (.inr (some (8, x1)))), some (.inl x2), some (.inl x3)], [], am_mk q10)) ?_ (fun key => ?_)
      · refine am_Go.n htb 2 (S' := (19, [some (.inr (.inr (some (6, 0)))), some (.inr (.inr (some (8, x1)))), some (.inl x2), some (.inl (x3 + 1))], [], am_mk q10)) rfl ?_
        first | exact ih h | exact ih h hk
      · have h := h11
        by_cases hc4 : (((m.1 30 0 x2.toNatClampNeg) >>> (x3 &&& 31)) &&& (1 : Int32)) ≠ 0
        · rw [if_pos hc4] at h
          refine am_Go.c1 htb (S' := (60, [some (.inr (.inr (some (6, 0)))), some (.inr (.inr (some (8, x1)))), some (.inl x2), some (.inl x3)], [], am_mk m)) (if_pos hc4) ?_
          cases h
          exact am_Go.fg (by exact ⟨rfl, ⟨rfl, ⟨rfl, ⟨rfl, trivial⟩⟩⟩⟩) key
        · rw [if_neg hc4] at h
          refine am_Go.c1 htb (S' := (40, [some (.inr (.inr (some (6, 0)))), some (.inr (.inr (some (8, x1)))), some (.inl x2), some (.inl x3)], [], am_mk m)) (if_neg hc4) ?_
          refine am_Go.n htb 8 (S' := (48, [some (.inr (.inr (some (6, 0)))), some (.inr (.inr (some (8, x1)))), some (.inl x2), some (.inl x3)], [.inl (((1 : Int32) <<< (x2 &&& 31)) ||| ((1 : Int32) <<< (x3 &&& 31))), .inr (.inr (some (8, x1)))], am_mk m)) rfl ?_
          obtain ⟨r5, h6, h⟩ := am_bd h
          refine am_Go.cl htb rfl (ex_X6_wereSeen d (by omega) x1 (((1 : Int32) <<< (x2 &&& 31)) ||| ((1 : Int32) <<< (x3 &&& 31))) m r5 h6) ?_
          show am_Go d 86 (51, [some (.inr (.inr (some (6, 0)))), some (.inr (.inr (some (8, x1)))), some (.inl x2), some (.inl x3)], [.inl r5], am_mk m) _ _ _ _
          by_cases hc7 : r5 = 0
          · rw [if_pos hc7] at h
            refine am_Go.c1 htb (S' := (60, [some (.inr (.inr (some (6, 0)))), some (.inr (.inr (some (8, x1)))), some (.inl x2), some (.inl x3)], [], am_mk m)) (if_pos hc7) ?_
            cases h
            exact am_Go.fg (by exact ⟨rfl, ⟨rfl, ⟨rfl, ⟨rfl, trivial⟩⟩⟩⟩) key
          · rw [if_neg hc7] at h
            refine am_Go.c1 htb (S' := (54, [some (.inr (.inr (some (6, 0)))), some (.inr (.inr (some (8, x1)))), some (.inl x2), some (.inl x3)], [], am_mk m)) (if_neg hc7) ?_
            refine am_Go.n htb 3 (S' := (57, [some (.inr (.inr (some (6, 0)))), some (.inr (.inr (some (8, x1)))), some (.inl x2), some (.inl x3)], [.inl x3, .inl x2, .inr (.inr (some (6, 0)))], am_mk m)) rfl ?_
            obtain ⟨r8, h9, h⟩ := am_bd h
            refine am_Go.cl htb rfl (ex_X6_addTwo d (by omega) x2 x3 m r8 h9) ?_
            show am_Go d 86 (60, [some (.inr (.inr (some (6, 0)))), some (.inr (.inr (some (8, x1)))), some (.inl x2), some (.inl x3)], [], am_mk r8) _ _ _ _
            cases h
            exact am_Go.fg (by exact ⟨rfl, ⟨rfl, ⟨rfl, ⟨rfl, trivial⟩⟩⟩⟩) key
set_option maxRecDepth 100000 in
theorem lt_X6_findDoubted_7 (d : Nat) (hd : 2 ≤ d + 1) {r : Option am_V} {M' : am_M} {kc ks : Nat} {n : Nat} {x1 : Nat} {x2 : Int32} {m : am_m} {t : am_m} (h : lp_X6_findDoubted_7 n x1 x2 m = some t) (hk : am_Go d 86 (72, [some (.inr (.inr (some (6, 0)))), some (.inr (.inr (some (8, x1)))), none, none], [], am_mk t) r M' kc ks) : am_Go d 86 (7, [some (.inr (.inr (some (6, 0)))), some (.inr (.inr (some (8, x1)))), some (.inl x2), none], [], am_mk m) r M' kc ks := by
  have htb : am_tab 86 = at_86 := rfl
  induction n generalizing x2 m with
  | zero => cases h
  | succ n ih =>
    unfold lp_X6_findDoubted_7 at h
    refine am_Go.n htb 3 (S' := (12, [some (.inr (.inr (some (6, 0)))), some (.inr (.inr (some (8, x1)))), some (.inl x2), none], [.inl (m.1 6 0 0), .inl x2], am_mk m)) rfl ?_
    by_cases hc1 : (m.1 6 0 0) ≤ x2
    · rw [if_pos hc1] at h
      refine am_Go.c1 htb (S' := (72, [some (.inr (.inr (some (6, 0)))), some (.inr (.inr (some (8, x1)))), some (.inl x2), none], [], am_mk m)) (if_pos hc1) ?_
      cases h
      exact am_Go.fg (by exact ⟨rfl, ⟨rfl, trivial⟩⟩) hk
    · rw [if_neg hc1] at h
      refine am_Go.c1 htb (S' := (15, [some (.inr (.inr (some (6, 0)))), some (.inr (.inr (some (8, x1)))), some (.inl x2), none], [], am_mk m)) (if_neg hc1) ?_
      refine am_Go.n htb 4 (S' := (19, [some (.inr (.inr (some (6, 0)))), some (.inr (.inr (some (8, x1)))), some (.inl x2), some (.inl (x2 + (1 : Int32)))], [], am_mk m)) rfl ?_
      obtain ⟨q12, h13, h⟩ := am_bd h
      refine lt_X6_findDoubted_19 _ hd (h := h13) (hk := ?_)
      refine am_Go.n htb 2 (S' := (7, [some (.inr (.inr (some (6, 0)))), some (.inr (.inr (some (8, x1)))), some (.inl (x2 + 1)), none], [], am_mk q12)) rfl ?_
      first | exact ih h | exact ih h hk
set_option maxRecDepth 100000 in
theorem ex_X6_findDoubted (d : Nat) (hd : 2 ≤ d) (a1 : Nat) (m : am_m) (t : am_m) (h : fn_X6_findDoubted a1 m = some t) : am_Ex am_cod d 86 [.inr (.inr (some (6, 0))), .inr (.inr (some (8, a1)))] (am_mk m) (none) (am_mk t) 0 0 := by
  obtain ⟨d, rfl⟩ : ∃ e, d = e + 1 := ⟨d - 1, by omega⟩
  have htb : am_tab 86 = at_86 := rfl
  refine ⟨Nat.le_of_ble_eq_true rfl, ?_⟩
  unfold fn_X6_findDoubted at h
  show am_Go d 86 (0, [some (.inr (.inr (some (6, 0)))), some (.inr (.inr (some (8, a1)))), none, none], [], am_mk m) _ _ 0 0
  refine am_Go.n htb 5 (S' := (7, [some (.inr (.inr (some (6, 0)))), some (.inr (.inr (some (8, a1)))), some (.inl 0), none], [], am_mk (am_si m 6 0 7 0))) rfl ?_
  obtain ⟨q14, h15, h⟩ := am_bd h
  refine lt_X6_findDoubted_7 _ hd (h := h15) (hk := ?_)
  cases h
  exact am_Go.rt htb rfl
-- X6_twoOf
set_option maxRecDepth 100000 in
theorem ex_X6_twoOf (d : Nat) (hd : 1 ≤ d) (a1 : Int32) (m : am_m) (t : Int32) (h : fn_X6_twoOf a1 m = some t) : am_Ex am_cod d 89 [.inr (.inr (some (6, 0))), .inl a1] (am_mk m) (some (.inl t)) (am_mk m) 0 0 := by
  obtain ⟨d, rfl⟩ : ∃ e, d = e + 1 := ⟨d - 1, by omega⟩
  have htb : am_tab 89 = at_89 := rfl
  refine ⟨Nat.le_of_ble_eq_true rfl, ?_⟩
  unfold fn_X6_twoOf at h
  show am_Go d 89 (0, [some (.inr (.inr (some (6, 0)))), some (.inl a1)], [], am_mk m) _ _ 0 0
  refine am_Go.n htb 2 (S' := (2, [some (.inr (.inr (some (6, 0)))), some (.inl a1)], [.inl (-1), .inl a1], am_mk m)) rfl ?_
  by_cases hc1 : a1 ≠ (-1 : Int32)
  · rw [if_pos hc1] at h
    refine am_Go.c1 htb (S' := (10, [some (.inr (.inr (some (6, 0)))), some (.inl a1)], [], am_mk m)) (if_pos hc1) ?_
    refine am_Go.n htb 1 (S' := (11, [some (.inr (.inr (some (6, 0)))), some (.inl a1)], [.inl a1], am_mk m)) rfl ?_
    by_cases hc2 : a1 < 0
    · rw [if_pos hc2] at h
      refine am_Go.c1 htb (S' := (31, [some (.inr (.inr (some (6, 0)))), some (.inl a1)], [], am_mk m)) (if_pos hc2) ?_
      refine am_Go.n htb 1 (S' := (32, [some (.inr (.inr (some (6, 0)))), some (.inl a1)], [.inl (-1)], am_mk m)) rfl ?_
      cases h
      exact am_Go.rt htb rfl
    · rw [if_neg hc2] at h
      refine am_Go.c1 htb (S' := (14, [some (.inr (.inr (some (6, 0)))), some (.inl a1)], [], am_mk m)) (if_neg hc2) ?_
      refine am_Go.n htb 3 (S' := (19, [some (.inr (.inr (some (6, 0)))), some (.inl a1)], [.inl (m.1 6 0 7), .inl a1], am_mk m)) rfl ?_
      by_cases hc3 : (m.1 6 0 7) ≤ a1
      · rw [if_pos hc3] at h
        refine am_Go.c1 htb (S' := (31, [some (.inr (.inr (some (6, 0)))), some (.inl a1)], [], am_mk m)) (if_pos hc3) ?_
        refine am_Go.n htb 1 (S' := (32, [some (.inr (.inr (some (6, 0)))), some (.inl a1)], [.inl (-1)], am_mk m)) rfl ?_
        cases h
        exact am_Go.rt htb rfl
      · rw [if_neg hc3] at h
        refine am_Go.c1 htb (S' := (22, [some (.inr (.inr (some (6, 0)))), some (.inl a1)], [], am_mk m)) (if_neg hc3) ?_
        refine am_Go.n htb 3 (S' := (27, [some (.inr (.inr (some (6, 0)))), some (.inl a1)], [.inl a1, .inr (.inr (some (33, 0)))], am_mk m)) rfl ?_
        obtain ⟨hg4, h⟩ := am_ck_some h
        refine am_Go.c1 htb (S' := (28, [some (.inr (.inr (some (6, 0)))), some (.inl a1)], [.inl (m.1 33 0 a1.toNatClampNeg)], am_mk m)) (if_neg hg4) ?_
        refine am_Go.n htb 1 (S' := (32, [some (.inr (.inr (some (6, 0)))), some (.inl a1)], [.inl (m.1 33 0 a1.toNatClampNeg)], am_mk m)) rfl ?_
        cases h
        exact am_Go.rt htb rfl
  · rw [if_neg hc1] at h
    refine am_Go.c1 htb (S' := (5, [some (.inr (.inr (some (6, 0)))), some (.inl a1)], [], am_mk m)) (if_neg hc1) ?_
    refine am_Go.n htb 2 (S' := (9, [some (.inr (.inr (some (6, 0)))), some (.inl a1)], [.inl (m.1 6 0 7)], am_mk m)) rfl ?_
    cases h
    exact am_Go.rt htb rfl
-- X6_fittingFor
set_option maxRecDepth 100000 in
theorem lt_X6_fittingFor_4 (d : Nat) (hd : 1 ≤ d + 1) {r : Option am_V} {M' : am_M} {kc ks : Nat} {n : Nat} {x1 : Int32} {x2 : Int32} {x3 : Int32} {m : am_m} {t : Int32} (h : lp_X6_fittingFor_4 n x1 x2 x3 m = some t) (hk : am_Go d 90 (37, [some (.inr (.inr (some (6, 0)))), some (.inl x1), some (.inl t), none], [], am_mk m) r M' kc ks) : am_Go d 90 (4, [some (.inr (.inr (some (6, 0)))), some (.inl x1), some (.inl x2), some (.inl x3)], [], am_mk m) r M' kc ks := by
  have htb : am_tab 90 = at_90 := rfl
  induction n generalizing x2 x3 with
  | zero => cases h
  | succ n ih =>
    unfold lp_X6_fittingFor_4 at h
    refine am_Go.n htb 3 (S' := (9, [some (.inr (.inr (some (6, 0)))), some (.inl x1), some (.inl x2), some (.inl x3)], [.inl (m.1 6 0 0), .inl x3], am_mk m)) rfl ?_
    by_cases hc1 : (m.1 6 0 0) ≤ x3
    · rw [if_pos hc1] at h
      refine am_Go.c1 htb (S' := (37, [some (.inr (.inr (some (6, 0)))), some (.inl x1), some (.inl x2), some (.inl x3)], [], am_mk m)) (if_pos hc1) ?_
      cases h
      exact am_Go.fg (by exact ⟨rfl, ⟨rfl, ⟨rfl, trivial⟩⟩⟩) hk
    · rw [if_neg hc1] at h
      refine am_Go.c1 htb (S' := (12, [some (.inr (.inr (some (6, 0)))), some (.inl x1), some (.inl x2), some (.inl x3)], [], am_mk m)) (if_neg hc1) ?_
      refine am_Go.n htb 4 (S' := (18, [some (.inr (.inr (some (6, 0)))), some (.inl x1), some (.inl x2), some (.inl x3)], [.inl x3, .inr (.inr (some (30, 0))), .inl x1], am_mk m)) rfl ?_
      obtain ⟨hg2, h⟩ := am_ck_some h
      refine am_Go.c1 htb (S' := (19, [some (.inr (.inr (some (6, 0)))), some (.inl x1), some (.inl x2), some (.inl x3)], [.inl (m.1 30 0 x3.toNatClampNeg), .inl x1], am_mk m)) (if_neg hg2) ?_
      refine am_Go.n htb 3 (S' := (22, [some (.inr (.inr (some (6, 0)))), some (.inl x1), some (.inl x2), some (.inl x3)], [.inl (x1 &&& ((m.1 30 0 x3.toNatClampNeg) ^^^ (-1 : Int32)))], am_mk m)) rfl ?_
      refine am_Go.cut (S := (31, [some (.inr (.inr (some (6, 0)))), some (.inl x1), some (.inl (if (x1 &&& ((m.1 30 0 x3.toNatClampNeg) ^^^ (-1 : Int32))) ≠ 0 then x2 else (x2 ||| ((1 : Int32) <<< (x3 &&& 31))))), some (.inl x3)], [], am_mk m)) ?_ (fun key => ?_)
      · refine am_Go.n htb 2 (S' := (4, [some (.inr (.inr (some (6, 0)))), some (.inl x1), some (.inl (if (x1 &&& ((m.1 30 0 x3.toNatClampNeg) ^^^ (-1 : Int32))) ≠ 0 then x2 else (x2 ||| ((1 : Int32) <<< (x3 &&& 31))))), some (.inl (x3 + 1))], [], am_mk m)) rfl ?_
        first | exact ih h | exact ih h hk
      · by_cases hc3 : (x1 &&& ((m.1 30 0 x3.toNatClampNeg) ^^^ (-1 : Int32))) ≠ 0
        · refine am_Go.c1 htb (S' := (31, [some (.inr (.inr (some (6, 0)))), some (.inl x1), some (.inl x2), some (.inl x3)], [], am_mk m)) (if_pos hc3) ?_
          simp only [if_pos hc3] at key
          exact am_Go.fg (by exact ⟨rfl, ⟨rfl, ⟨rfl, ⟨rfl, trivial⟩⟩⟩⟩) key
        · refine am_Go.c1 htb (S' := (25, [some (.inr (.inr (some (6, 0)))), some (.inl x1), some (.inl x2), some (.inl x3)], [], am_mk m)) (if_neg hc3) ?_
          refine am_Go.n htb 6 (S' := (31, [some (.inr (.inr (some (6, 0)))), some (.inl x1), some (.inl (x2 ||| ((1 : Int32) <<< (x3 &&& 31)))), some (.inl x3)], [], am_mk m)) rfl ?_
          simp only [if_neg hc3] at key
          exact am_Go.fg (by exact ⟨rfl, ⟨rfl, ⟨rfl, ⟨rfl, trivial⟩⟩⟩⟩) key
set_option maxRecDepth 100000 in
theorem ex_X6_fittingFor (d : Nat) (hd : 1 ≤ d) (a1 : Int32) (m : am_m) (t : Int32) (h : fn_X6_fittingFor a1 m = some t) : am_Ex am_cod d 90 [.inr (.inr (some (6, 0))), .inl a1] (am_mk m) (some (.inl t)) (am_mk m) 0 0 := by
  obtain ⟨d, rfl⟩ : ∃ e, d = e + 1 := ⟨d - 1, by omega⟩
  have htb : am_tab 90 = at_90 := rfl
  refine ⟨Nat.le_of_ble_eq_true rfl, ?_⟩
  unfold fn_X6_fittingFor at h
  show am_Go d 90 (0, [some (.inr (.inr (some (6, 0)))), some (.inl a1), none, none], [], am_mk m) _ _ 0 0
  refine am_Go.n htb 4 (S' := (4, [some (.inr (.inr (some (6, 0)))), some (.inl a1), some (.inl 0), some (.inl 0)], [], am_mk m)) rfl ?_
  obtain ⟨q4, h5, h⟩ := am_bd h
  refine lt_X6_fittingFor_4 _ hd (h := h5) (hk := ?_)
  refine am_Go.n htb 1 (S' := (38, [some (.inr (.inr (some (6, 0)))), some (.inl a1), some (.inl q4), none], [.inl q4], am_mk m)) rfl ?_
  cases h
  exact am_Go.rt htb rfl
-- X6_companionsAmong
set_option maxRecDepth 100000 in
theorem ex_X6_companionsAmong (d : Nat) (hd : 3 ≤ d) (a1 : Int32) (a2 : Int32) (m : am_m) (t : Int32) (h : fn_X6_companionsAmong a1 a2 m = some t) : am_Ex am_cod d 91 [.inr (.inr (some (6, 0))), .inl a1, .inl a2] (am_mk m) (some (.inl t)) (am_mk m) 0 0 := by
  obtain ⟨d, rfl⟩ : ∃ e, d = e + 1 := ⟨d - 1, by omega⟩
  have htb : am_tab 91 = at_91 := rfl
  refine ⟨Nat.le_of_ble_eq_true rfl, ?_⟩
  unfold fn_X6_companionsAmong at h
  show am_Go d 91 (0, [some (.inr (.inr (some (6, 0)))), some (.inl a1), some (.inl a2)], [], am_mk m) _ _ 0 0
  refine am_Go.n htb 2 (S' := (2, [some (.inr (.inr (some (6, 0)))), some (.inl a1), some (.inl a2)], [.inl a1, .inr (.inr (some (6, 0)))], am_mk m)) rfl ?_
  obtain ⟨r1, h2, h⟩ := am_bd h
  refine am_Go.cl htb rfl (ex_X6_mayOf d (by omega) a1 m r1 h2) ?_
  show am_Go d 91 (5, [some (.inr (.inr (some (6, 0)))), some (.inl a1), some (.inl a2)], [.inl r1], am_mk m) _ _ _ _
  refine am_Go.n htb 2 (S' := (7, [some (.inr (.inr (some (6, 0)))), some (.inl a1), some (.inl a2)], [.inl (r1 &&& a2)], am_mk m)) rfl ?_
  obtain ⟨r3, h4, h⟩ := am_bd h
  refine am_Go.cl htb rfl (ex_J6_bitCount_0f7a4 d (by omega) (r1 &&& a2) m r3 h4) ?_
  show am_Go d 91 (10, [some (.inr (.inr (some (6, 0)))), some (.inl a1), some (.inl a2)], [.inl r3], am_mk m) _ _ _ _
  cases h
  exact am_Go.rt htb rfl
-- X6_nearestHalf
set_option maxRecDepth 100000 in
theorem lt_X6_nearestHalf_8 (d : Nat) (hd : 4 ≤ d + 1) {r : Option am_V} {M' : am_M} {kc ks : Nat} {n : Nat} {x1 : Int32} {x2 : Int32} {x3 : Int32} {x4 : Int32} {m : am_m} {t : Int32} (h : lp_X6_nearestHalf_8 n x1 x2 x3 x4 m = some t) (hk : am_Go d 92 (58, [some (.inr (.inr (some (6, 0)))), some (.inl x1), some (.inl t), none, none, none], [], am_mk m) r M' kc ks) : am_Go d 92 (8, [some (.inr (.inr (some (6, 0)))), some (.inl x1), some (.inl x2), some (.inl x3), some (.inl x4), none], [], am_mk m) r M' kc ks := by
  have htb : am_tab 92 = at_92 := rfl
  induction n generalizing x2 x3 x4 with
  | zero => cases h
  | succ n ih =>
    unfold lp_X6_nearestHalf_8 at h
    refine am_Go.n htb 3 (S' := (14, [some (.inr (.inr (some (6, 0)))), some (.inl x1), some (.inl x2), some (.inl x3), some (.inl x4), none], [.inl (m.1 6 0 0), .inl x4], am_mk m)) rfl ?_
    by_cases hc1 : (m.1 6 0 0) ≤ x4
    · rw [if_pos hc1] at h
      refine am_Go.c1 htb (S' := (58, [some (.inr (.inr (some (6, 0)))), some (.inl x1), some (.inl x2), some (.inl x3), some (.inl x4), none], [], am_mk m)) (if_pos hc1) ?_
      cases h
      exact am_Go.fg (by exact ⟨rfl, ⟨rfl, ⟨rfl, trivial⟩⟩⟩) hk
    · rw [if_neg hc1] at h
      refine am_Go.c1 htb (S' := (17, [some (.inr (.inr (some (6, 0)))), some (.inl x1), some (.inl x2), some (.inl x3), some (.inl x4), none], [], am_mk m)) (if_neg hc1) ?_
      refine am_Go.n htb 1 (S' := (18, [some (.inr (.inr (some (6, 0)))), some (.inl x1), some (.inl x2), some (.inl x3), some (.inl x4), none], [.inl x1], am_mk m)) rfl ?_
      by_cases hc2 : x1 = 0
      · rw [if_pos hc2] at h
        refine am_Go.c1 htb (S' := (58, [some (.inr (.inr (some (6, 0)))), some (.inl x1), some (.inl x2), some (.inl x3), some (.inl x4), none], [], am_mk m)) (if_pos hc2) ?_
        cases h
        exact am_Go.fg (by exact ⟨rfl, ⟨rfl, ⟨rfl, trivial⟩⟩⟩) hk
      · rw [if_neg hc2] at h
        refine am_Go.c1 htb (S' := (21, [some (.inr (.inr (some (6, 0)))), some (.inl x1), some (.inl x2), some (.inl x3), some (.inl x4), none], [], am_mk m)) (if_neg hc2) ?_
        refine am_Go.n htb 4 (S' := (26, [some (.inr (.inr (some (6, 0)))), some (.inl x1), some (.inl x2), some (.inl x3), some (.inl x4), none], [.inl x1, .inl x4, .inr (.inr (some (6, 0))), .inl 2], am_mk m)) rfl ?_
        obtain ⟨r3, h4, h⟩ := am_bd h
        refine am_Go.cl htb rfl (ex_X6_companionsAmong d (by omega) x4 x1 m r3 h4) ?_
        show am_Go d 92 (29, [some (.inr (.inr (some (6, 0)))), some (.inl x1), some (.inl x2), some (.inl x3), some (.inl x4), none], [.inl r3, .inl 2], am_mk m) _ _ _ _
        refine am_Go.n htb 2 (S' := (31, [some (.inr (.inr (some (6, 0)))), some (.inl x1), some (.inl x2), some (.inl x3), some (.inl x4), none], [.inl x1, .inl ((2 : Int32) * r3)], am_mk m)) rfl ?_
        obtain ⟨r5, h6, h⟩ := am_bd h
        refine am_Go.cl htb rfl (ex_J6_bitCount_0f7a4 d (by omega) x1 m r5 h6) ?_
        show am_Go d 92 (34, [some (.inr (.inr (some (6, 0)))), some (.inl x1), some (.inl x2), some (.inl x3), some (.inl x4), none], [.inl r5, .inl ((2 : Int32) * r3)], am_mk m) _ _ _ _
        refine am_Go.n htb 1 (S' := (35, [some (.inr (.inr (some (6, 0)))), some (.inl x1), some (.inl x2), some (.inl x3), some (.inl x4), none], [.inl (((2 : Int32) * r3) - r5)], am_mk m)) rfl ?_
        obtain ⟨r7, h8, h⟩ := am_bd h
        refine am_Go.cl htb rfl (ex_J9_abs_0f7a4 d (by omega) (((2 : Int32) * r3) - r5) m r7 h8) ?_
        show am_Go d 92 (38, [some (.inr (.inr (some (6, 0)))), some (.inl x1), some (.inl x2), some (.inl x3), some (.inl x4), none], [.inl r7], am_mk m) _ _ _ _
        refine am_Go.n htb 3 (S' := (43, [some (.inr (.inr (some (6, 0)))), some (.inl x1), some (.inl x2), some (.inl x3), some (.inl x4), some (.inl r7)], [.inl x3, .inl r7], am_mk m)) rfl ?_
        refine am_Go.cut (S := (52, [some (.inr (.inr (some (6, 0)))), some (.inl x1), some (.inl (if x3 ≤ r7 then x2 else x4)), some (.inl (if x3 ≤ r7 then x3 else r7)), some (.inl x4), some (.inl r7)], [], am_mk m)) ?_ (fun key => ?_)
        · refine am_Go.n htb 2 (S' := (8, [some (.inr (.inr (some (6, 0)))), some (.inl x1), some (.inl (if x3 ≤ r7 then x2 else x4)), some (.inl (if x3 ≤ r7 then x3 else r7)), some (.inl (x4 + 1)), some (.inl r7)], [], am_mk m)) rfl ?_
          refine am_Go.fg (L0 := [some (.inr (.inr (some (6, 0)))), some (.inl x1), some (.inl (if x3 ≤ r7 then x2 else x4)), some (.inl (if x3 ≤ r7 then x3 else r7)), some (.inl (x4 + 1)), none]) (by exact ⟨rfl, ⟨rfl, ⟨rfl, ⟨rfl, ⟨rfl, trivial⟩⟩⟩⟩⟩) ?_
          first | exact ih h | exact ih h hk
        · by_cases hc9 : x3 ≤ r7
          · refine am_Go.c1 htb (S' := (52, [some (.inr (.inr (some (6, 0)))), some (.inl x1), some (.inl x2), some (.inl x3), some (.inl x4), some (.inl r7)], [], am_mk m)) (if_pos hc9) ?_
            simp only [if_pos hc9] at key
            exact am_Go.fg (by exact ⟨rfl, ⟨rfl, ⟨rfl, ⟨rfl, ⟨rfl, ⟨rfl, trivial⟩⟩⟩⟩⟩⟩) key
          · refine am_Go.c1 htb (S' := (46, [some (.inr (.inr (some (6, 0)))), some (.inl x1), some (.inl x2), some (.inl x3), some (.inl x4), some (.inl r7)], [], am_mk m)) (if_neg hc9) ?_
            refine am_Go.n htb 4 (S' := (52, [some (.inr (.inr (some (6, 0)))), some (.inl x1), some (.inl x4), some (.inl r7), some (.inl x4), some (.inl r7)], [], am_mk m)) rfl ?_
            simp only [if_neg hc9] at key
            exact am_Go.fg (by exact ⟨rfl, ⟨rfl, ⟨rfl, ⟨rfl, ⟨rfl, ⟨rfl, trivial⟩⟩⟩⟩⟩⟩) key
set_option maxRecDepth 100000 in
theorem ex_X6_nearestHalf (d : Nat) (hd : 4 ≤ d) (a1 : Int32) (m : am_m) (t : Int32) (h : fn_X6_nearestHalf a1 m = some t) : am_Ex am_cod d 92 [.inr (.inr (some (6, 0))), .inl a1] (am_mk m) (some (.inl t)) (am_mk m) 0 0 := by
  obtain ⟨d, rfl⟩ : ∃ e, d = e + 1 := ⟨d - 1, by omega⟩
  have htb : am_tab 92 = at_92 := rfl
  refine ⟨Nat.le_of_ble_eq_true rfl, ?_⟩
  unfold fn_X6_nearestHalf at h
  show am_Go d 92 (0, [some (.inr (.inr (some (6, 0)))), some (.inl a1), none, none, none, none], [], am_mk m) _ _ 0 0
  refine am_Go.n htb 6 (S' := (8, [some (.inr (.inr (some (6, 0)))), some (.inl a1), some (.inl (-1)), some (.inl 8), some (.inl 0), none], [], am_mk m)) rfl ?_
  obtain ⟨q10, h11, h⟩ := am_bd h
  refine lt_X6_nearestHalf_8 _ hd (h := h11) (hk := ?_)
  refine am_Go.n htb 1 (S' := (59, [some (.inr (.inr (some (6, 0)))), some (.inl a1), some (.inl q10), none, none, none], [.inl q10], am_mk m)) rfl ?_
  cases h
  exact am_Go.rt htb rfl
