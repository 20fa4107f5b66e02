-- X6_nearer
set_option maxRecDepth 100000 in
theorem lt_X6_nearer_2 (d : Nat) (hd : 1 ≤ d + 1) {r : Option am_V} {M' : am_M} {kc ks : Nat} {n : Nat} {x1 : Int32} {x2 : Int32} {m : am_m} {t : Sum (Unit) (Int32)} (h : lp_X6_nearer_2 n x1 x2 m = some t) (hk : ∀ t', t = .inl t' → am_Go d 82 (49, [some (.inr (.inr (some (6, 0)))), some (.inl x1), none], [], am_mk m) r M' kc ks) (hr : ∀ t', t = .inr t' → r = some (.inl t') ∧ M' = am_mk m ∧ kc = 0 ∧ ks = 0) : am_Go d 82 (2, [some (.inr (.inr (some (6, 0)))), some (.inl x1), some (.inl x2)], [], am_mk m) r M' kc ks := by
  have htb : am_tab 82 = at_82 := rfl
  induction n generalizing x2 with
  | zero => cases h
  | succ n ih =>
    unfold lp_X6_nearer_2 at h
    refine am_Go.n htb 3 (S' := (7, [some (.inr (.inr (some (6, 0)))), some (.inl x1), some (.inl x2)], [.inl (m.1 6 0 0), .inl x2], am_mk m)) rfl ?_
    by_cases hc1 : (m.1 6 0 0) ≤ x2
    · rw [if_pos hc1] at h
      refine am_Go.c1 htb (S' := (49, [some (.inr (.inr (some (6, 0)))), some (.inl x1), some (.inl x2)], [], am_mk m)) (if_pos hc1) ?_
      cases h
      exact am_Go.fg (by exact ⟨rfl, ⟨rfl, trivial⟩⟩) (hk _ rfl)
    · rw [if_neg hc1] at h
      refine am_Go.c1 htb (S' := (10, [some (.inr (.inr (some (6, 0)))), some (.inl x1), some (.inl x2)], [], am_mk m)) (if_neg hc1) ?_
      refine am_Go.n htb 3 (S' := (15, [some (.inr (.inr (some (6, 0)))), some (.inl x1), some (.inl x2)], [.inl x1, .inr (.inr (some (30, 0)))], am_mk m)) rfl ?_
      obtain ⟨hg2, h⟩ := am_ck_some h
      refine am_Go.c1 htb (S' := (16, [some (.inr (.inr (some (6, 0)))), some (.inl x1), some (.inl x2)], [.inl (m.1 30 0 x1.toNatClampNeg)], am_mk m)) (if_neg hg2) ?_
      refine am_Go.n htb 5 (S' := (21, [some (.inr (.inr (some (6, 0)))), some (.inl x1), some (.inl x2)], [.inl 1, .inl (((m.1 30 0 x1.toNatClampNeg) >>> (x2 &&& 31)) &&& (1 : Int32))], am_mk m)) rfl ?_
      by_cases hc3 : (((m.1 30 0 x1.toNatClampNeg) >>> (x2 &&& 31)) &&& (1 : Int32)) ≠ (1 : Int32)
      · rw [if_pos hc3] at h
        refine am_Go.c1 htb (S' := (43, [some (.inr (.inr (some (6, 0)))), some (.inl x1), some (.inl x2)], [], am_mk m)) (if_pos hc3) ?_
        refine am_Go.n htb 2 (S' := (2, [some (.inr (.inr (some (6, 0)))), some (.inl x1), some (.inl (x2 + 1))], [], am_mk m)) rfl ?_
        first | exact ih h | exact ih h hk | exact ih h hr | exact ih h hk hr
      · rw [if_neg hc3] at h
        refine am_Go.c1 htb (S' := (24, [some (.inr (.inr (some (6, 0)))), some (.inl x1), some (.inl x2)], [], am_mk m)) (if_neg hc3) ?_
        refine am_Go.n htb 3 (S' := (29, [some (.inr (.inr (some (6, 0)))), some (.inl x1), some (.inl x2)], [.inl x2, .inr (.inr (some (32, 0)))], am_mk m)) rfl ?_
        obtain ⟨hg4, h⟩ := am_ck_some h
        refine am_Go.c1 htb (S' := (30, [some (.inr (.inr (some (6, 0)))), some (.inl x1), some (.inl x2)], [.inl (m.1 32 0 x2.toNatClampNeg)], am_mk m)) (if_neg hg4) ?_
        refine am_Go.n htb 3 (S' := (35, [some (.inr (.inr (some (6, 0)))), some (.inl x1), some (.inl x2)], [.inl x1, .inr (.inr (some (32, 0))), .inl (m.1 32 0 x2.toNatClampNeg)], am_mk m)) rfl ?_
        obtain ⟨hg5, h⟩ := am_ck_some h
        refine am_Go.c1 htb (S' := (36, [some (.inr (.inr (some (6, 0)))), some (.inl x1), some (.inl x2)], [.inl (m.1 32 0 x1.toNatClampNeg), .inl (m.1 32 0 x2.toNatClampNeg)], am_mk m)) (if_neg hg5) ?_
        refine am_Go.n htb 2 (S' := (38, [some (.inr (.inr (some (6, 0)))), some (.inl x1), some (.inl x2)], [.inl ((m.1 32 0 x1.toNatClampNeg) - (1 : Int32)), .inl (m.1 32 0 x2.toNatClampNeg)], am_mk m)) rfl ?_
        by_cases hc6 : (m.1 32 0 x2.toNatClampNeg) ≠ ((m.1 32 0 x1.toNatClampNeg) - (1 : Int32))
        · rw [if_pos hc6] at h
          refine am_Go.c1 htb (S' := (43, [some (.inr (.inr (some (6, 0)))), some (.inl x1), some (.inl x2)], [], am_mk m)) (if_pos hc6) ?_
          refine am_Go.n htb 2 (S' := (2, [some (.inr (.inr (some (6, 0)))), some (.inl x1), some (.inl (x2 + 1))], [], am_mk m)) rfl ?_
          first | exact ih h | exact ih h hk | exact ih h hr | exact ih h hk hr
        · rw [if_neg hc6] at h
          refine am_Go.c1 htb (S' := (41, [some (.inr (.inr (some (6, 0)))), some (.inl x1), some (.inl x2)], [], am_mk m)) (if_neg hc6) ?_
          refine am_Go.n htb 1 (S' := (42, [some (.inr (.inr (some (6, 0)))), some (.inl x1), some (.inl x2)], [.inl x2], am_mk m)) rfl ?_
          cases h
          obtain ⟨rfl, rfl, rfl, rfl⟩ := hr _ rfl
          exact am_Go.rt htb rfl
set_option maxRecDepth 100000 in
theorem ex_X6_nearer (d : Nat) (hd : 1 ≤ d) (a1 : Int32) (m : am_m) (t : Int32) (h : fn_X6_nearer a1 m = some t) : am_Ex am_cod d 82 [.inr (.inr (some (6, 0))), .inl a1] (am_mk m) (some (.inl t)) (am_mk m) 0 0 := by
  obtain ⟨d, rfl⟩ : ∃ e, d = e + 1 := ⟨d - 1, by omega⟩
  have htb : am_tab 82 = at_82 := rfl
  refine ⟨Nat.le_of_ble_eq_true rfl, ?_⟩
  unfold fn_X6_nearer at h
  show am_Go d 82 (0, [some (.inr (.inr (some (6, 0)))), some (.inl a1), none], [], am_mk m) _ _ 0 0
  refine am_Go.n htb 2 (S' := (2, [some (.inr (.inr (some (6, 0)))), some (.inl a1), some (.inl 0)], [], am_mk m)) rfl ?_
  obtain ⟨w10, h8, h⟩ := am_bd h
  refine lt_X6_nearer_2 _ hd (h := h8) (hk := ?_) (hr := ?_)
  · intro q7 he
    subst he
    dsimp only at h
    refine am_Go.n htb 1 (S' := (50, [some (.inr (.inr (some (6, 0)))), some (.inl a1), none], [.inl (-1)], am_mk m)) rfl ?_
    cases h
    exact am_Go.rt htb rfl
  · intro rr9 he
    subst he
    cases h
    exact ⟨rfl, rfl, rfl, rfl⟩
-- X6_stepOf
set_option maxRecDepth 100000 in
theorem lt_X6_stepOf_6 (d : Nat) (hd : 2 ≤ d + 1) {r : Option am_V} {M' : am_M} {kc ks : Nat} {n : Nat} {x2 : Int32} {x3 : Int32} {x4 : Int32} {x5 : Int32} {m : am_m} {t : Int32} (h : lp_X6_stepOf_6 n x2 x3 x4 x5 m = some t) (hk : am_Go d 81 (45, [some (.inr (.inr (some (6, 0)))), none, some (.inl x2), some (.inl x3), some (.inl t), none], [], am_mk m) r M' kc ks) : am_Go d 81 (6, [some (.inr (.inr (some (6, 0)))), none, some (.inl x2), some (.inl x3), some (.inl x4), some (.inl x5)], [], am_mk m) r M' kc ks := by
  have htb : am_tab 81 = at_81 := rfl
  induction n generalizing x4 x5 with
  | zero => cases h
  | succ n ih =>
    unfold lp_X6_stepOf_6 at h
    refine am_Go.n htb 2 (S' := (9, [some (.inr (.inr (some (6, 0)))), none, some (.inl x2), some (.inl x3), some (.inl x4), some (.inl x5)], [.inl x3, .inl x5], am_mk m)) rfl ?_
    by_cases hc1 : x3 < x5
    · rw [if_pos hc1] at h
      refine am_Go.c1 htb (S' := (45, [some (.inr (.inr (some (6, 0)))), none, some (.inl x2), some (.inl x3), some (.inl x4), some (.inl x5)], [], am_mk m)) (if_pos hc1) ?_
      cases h
      exact am_Go.fg (by exact ⟨rfl, ⟨rfl, ⟨rfl, ⟨rfl, trivial⟩⟩⟩⟩) hk
    · rw [if_neg hc1] at h
      refine am_Go.c1 htb (S' := (12, [some (.inr (.inr (some (6, 0)))), none, some (.inl x2), some (.inl x3), some (.inl x4), some (.inl x5)], [], am_mk m)) (if_neg hc1) ?_
      refine am_Go.n htb 2 (S' := (15, [some (.inr (.inr (some (6, 0)))), none, some (.inl x2), some (.inl x3), some (.inl x4), some (.inl x5)], [.inl x4, .inr (.inr (some (6, 0)))], am_mk m)) rfl ?_
      obtain ⟨r2, h3, h⟩ := am_bd h
      refine am_Go.cl htb rfl (ex_X6_isThere d (by omega) x4 m r2 h3) ?_
      show am_Go d 81 (18, [some (.inr (.inr (some (6, 0)))), none, some (.inl x2), some (.inl x3), some (.inl x4), some (.inl x5)], [.inl r2], am_mk m) _ _ _ _
      obtain ⟨q8, h9, h⟩ := am_bd h
      refine am_Go.cut (S := (37, [some (.inr (.inr (some (6, 0)))), none, some (.inl x2), some (.inl x3), some (.inl x4), some (.inl x5)], [.inl q8], am_mk m)) ?_ (fun key => ?_)
      · refine am_Go.n htb 3 (S' := (6, [some (.inr (.inr (some (6, 0)))), none, some (.inl x2), some (.inl x3), some (.inl q8), some (.inl (x5 + 1))], [], am_mk m)) rfl ?_
        first | exact ih h | exact ih h hk
      · have h := h9
        by_cases hc4 : r2 = 0
        · rw [if_pos hc4] at h
          refine am_Go.c1 htb (S' := (36, [some (.inr (.inr (some (6, 0)))), none, some (.inl x2), some (.inl x3), some (.inl x4), some (.inl x5)], [], am_mk m)) (if_pos hc4) ?_
          refine am_Go.n htb 1 (S' := (37, [some (.inr (.inr (some (6, 0)))), none, some (.inl x2), some (.inl x3), some (.inl x4), some (.inl x5)], [.inl (-1)], am_mk m)) rfl ?_
          cases h
          exact am_Go.fg (by exact ⟨rfl, ⟨rfl, ⟨rfl, ⟨rfl, ⟨rfl, trivial⟩⟩⟩⟩⟩) key
        · rw [if_neg hc4] at h
          refine am_Go.c1 htb (S' := (21, [some (.inr (.inr (some (6, 0)))), none, some (.inl x2), some (.inl x3), some (.inl x4), some (.inl x5)], [], am_mk m)) (if_neg hc4) ?_
          refine am_Go.n htb 2 (S' := (24, [some (.inr (.inr (some (6, 0)))), none, some (.inl x2), some (.inl x3), some (.inl x4), some (.inl x5)], [.inl x2, .inl x4], am_mk m)) rfl ?_
          by_cases hc5 : x4 = x2
          · rw [if_pos hc5] at h
            refine am_Go.c1 htb (S' := (36, [some (.inr (.inr (some (6, 0)))), none, some (.inl x2), some (.inl x3), some (.inl x4), some (.inl x5)], [], am_mk m)) (if_pos hc5) ?_
            refine am_Go.n htb 1 (S' := (37, [some (.inr (.inr (some (6, 0)))), none, some (.inl x2), some (.inl x3), some (.inl x4), some (.inl x5)], [.inl (-1)], am_mk m)) rfl ?_
            cases h
            exact am_Go.fg (by exact ⟨rfl, ⟨rfl, ⟨rfl, ⟨rfl, ⟨rfl, trivial⟩⟩⟩⟩⟩) key
          · rw [if_neg hc5] at h
            refine am_Go.c1 htb (S' := (27, [some (.inr (.inr (some (6, 0)))), none, some (.inl x2), some (.inl x3), some (.inl x4), some (.inl x5)], [], am_mk m)) (if_neg hc5) ?_
            refine am_Go.n htb 2 (S' := (30, [some (.inr (.inr (some (6, 0)))), none, some (.inl x2), some (.inl x3), some (.inl x4), some (.inl x5)], [.inl x4, .inr (.inr (some (6, 0)))], am_mk m)) rfl ?_
            obtain ⟨r6, h7, h⟩ := am_bd h
            refine am_Go.cl htb rfl (ex_X6_nearer d (by omega) x4 m r6 h7) ?_
            show am_Go d 81 (33, [some (.inr (.inr (some (6, 0)))), none, some (.inl x2), some (.inl x3), some (.inl x4), some (.inl x5)], [.inl r6], am_mk m) _ _ _ _
            refine am_Go.n htb 1 (S' := (37, [some (.inr (.inr (some (6, 0)))), none, some (.inl x2), some (.inl x3), some (.inl x4), some (.inl x5)], [.inl r6], am_mk m)) rfl ?_
            cases h
            exact am_Go.fg (by exact ⟨rfl, ⟨rfl, ⟨rfl, ⟨rfl, ⟨rfl, trivial⟩⟩⟩⟩⟩) key
set_option maxRecDepth 100000 in
theorem ex_X6_stepOf (d : Nat) (hd : 2 ≤ d) (a1 : Int32) (a2 : Int32) (a3 : Int32) (m : am_m) (t : Int32) (h : fn_X6_stepOf a1 a2 a3 m = some t) : am_Ex am_cod d 81 [.inr (.inr (some (6, 0))), .inl a1, .inl a2, .inl a3] (am_mk m) (some (.inl t)) (am_mk m) 0 0 := by
  obtain ⟨d, rfl⟩ : ∃ e, d = e + 1 := ⟨d - 1, by omega⟩
  have htb : am_tab 81 = at_81 := rfl
  refine ⟨Nat.le_of_ble_eq_true rfl, ?_⟩
  unfold fn_X6_stepOf at h
  show am_Go d 81 (0, [some (.inr (.inr (some (6, 0)))), some (.inl a1), some (.inl a2), some (.inl a3), none, none], [], am_mk m) _ _ 0 0
  refine am_Go.n htb 4 (S' := (6, [some (.inr (.inr (some (6, 0)))), some (.inl a1), some (.inl a2), some (.inl a3), some (.inl a1), some (.inl 0)], [], am_mk m)) rfl ?_
  refine am_Go.fg (L0 := [some (.inr (.inr (some (6, 0)))), none, some (.inl a2), some (.inl a3), some (.inl a1), some (.inl 0)]) (by exact ⟨rfl, ⟨rfl, ⟨rfl, ⟨rfl, ⟨rfl, trivial⟩⟩⟩⟩⟩) ?_
  obtain ⟨q10, h11, h⟩ := am_bd h
  refine lt_X6_stepOf_6 _ hd (h := h11) (hk := ?_)
  refine am_Go.n htb 1 (S' := (47, [some (.inr (.inr (some (6, 0)))), none, some (.inl a2), some (.inl a3), some (.inl q10), none], [.inl q10], am_mk m)) rfl ?_
  cases h
  exact am_Go.rt htb rfl
-- X6_circleOf
set_option maxRecDepth 100000 in
theorem lt_X6_circleOf_20 (d : Nat) (hd : 1 ≤ d + 1) {r : Option am_V} {M' : am_M} {kc ks : Nat} {n : Nat} {x2 : Int32} {x3 : Int32} {x4 : Int32} {x5 : Int32} {x6 : Int32} {m : am_m} {t : Int32} (h : lp_X6_circleOf_20 n x2 x3 x4 x5 x6 m = some t) (hk : am_Go d 84 (102, [some (.inr (.inr (some (6, 0)))), none, some (.inl x2), some (.inl x3), some (.inl t), some (.inl x5), none, none], [], am_mk m) r M' kc ks) : am_Go d 84 (20, [some (.inr (.inr (some (6, 0)))), none, some (.inl x2), some (.inl x3), some (.inl x4), some (.inl x5), some (.inl x6), none], [], am_mk m) r M' kc ks := by
  have htb : am_tab 84 = at_84 := rfl
  induction n generalizing x4 x6 with
  | zero => cases h
  | succ n ih =>
    unfold lp_X6_circleOf_20 at h
    refine am_Go.n htb 3 (S' := (26, [some (.inr (.inr (some (6, 0)))), none, some (.inl x2), some (.inl x3), some (.inl x4), some (.inl x5), some (.inl x6), none], [.inl (m.1 6 0 0), .inl x6], am_mk m)) rfl ?_
    by_cases hc2 : (m.1 6 0 0) ≤ x6
    · rw [if_pos hc2] at h
      refine am_Go.c1 htb (S' := (102, [some (.inr (.inr (some (6, 0)))), none, some (.inl x2), some (.inl x3), some (.inl x4), some (.inl x5), some (.inl x6), none], [], am_mk m)) (if_pos hc2) ?_
      cases h
      exact am_Go.fg (by exact ⟨rfl, ⟨rfl, ⟨rfl, ⟨rfl, ⟨rfl, trivial⟩⟩⟩⟩⟩) hk
    · rw [if_neg hc2] at h
      refine am_Go.c1 htb (S' := (29, [some (.inr (.inr (some (6, 0)))), none, some (.inl x2), some (.inl x3), some (.inl x4), some (.inl x5), some (.inl x6), none], [], am_mk m)) (if_neg hc2) ?_
      refine am_Go.n htb 6 (S' := (37, [some (.inr (.inr (some (6, 0)))), none, some (.inl x2), some (.inl x3), some (.inl x4), some (.inl x5), some (.inl x6), none], [.inl 1, .inl ((x4 >>> (x6 &&& 31)) &&& (1 : Int32))], am_mk m)) rfl ?_
      obtain ⟨q13, h14, h⟩ := am_bd h
      refine am_Go.cut (S := (96, [some (.inr (.inr (some (6, 0)))), none, some (.inl x2), some (.inl x3), some (.inl q13), some (.inl x5), some (.inl x6), none], [], am_mk m)) ?_ (fun key => ?_)
      · refine am_Go.n htb 2 (S' := (20, [some (.inr (.inr (some (6, 0)))), none, some (.inl x2), some (.inl x3), some (.inl q13), some (.inl x5), some (.inl (x6 + 1)), none], [], am_mk m)) rfl ?_
        first | exact ih h | exact ih h hk
      · have h := h14
        by_cases hc3 : ((x4 >>> (x6 &&& 31)) &&& (1 : Int32)) ≠ (1 : Int32)
        · rw [if_pos hc3] at h
          refine am_Go.c1 htb (S' := (96, [some (.inr (.inr (some (6, 0)))), none, some (.inl x2), some (.inl x3), some (.inl x4), some (.inl x5), some (.inl x6), none], [], am_mk m)) (if_pos hc3) ?_
          cases h
          exact am_Go.fg (by exact ⟨rfl, ⟨rfl, ⟨rfl, ⟨rfl, ⟨rfl, ⟨rfl, trivial⟩⟩⟩⟩⟩⟩) key
        · rw [if_neg hc3] at h
          refine am_Go.c1 htb (S' := (40, [some (.inr (.inr (some (6, 0)))), none, some (.inl x2), some (.inl x3), some (.inl x4), some (.inl x5), some (.inl x6), none], [], am_mk m)) (if_neg hc3) ?_
          refine am_Go.n htb 3 (S' := (46, [some (.inr (.inr (some (6, 0)))), none, some (.inl x2), some (.inl x3), some (.inl x4), some (.inl x5), some (.inl x6), none], [.inl x6, .inr (.inr (some (30, 0)))], am_mk m)) rfl ?_
          obtain ⟨hg4, h⟩ := am_ck_some h
          refine am_Go.c1 htb (S' := (47, [some (.inr (.inr (some (6, 0)))), none, some (.inl x2), some (.inl x3), some (.inl x4), some (.inl x5), some (.inl x6), none], [.inl (m.1 30 0 x6.toNatClampNeg)], am_mk m)) (if_neg hg4) ?_
          refine am_Go.n htb 3 (S' := (52, [some (.inr (.inr (some (6, 0)))), none, some (.inl x2), some (.inl x3), some (.inl x4), some (.inl x5), some (.inl x6), some (.inl (m.1 30 0 x6.toNatClampNeg))], [.inl x2, .inl x6], am_mk m)) rfl ?_
          obtain ⟨q7, h12, h⟩ := am_bd h
          refine am_Go.cut (S := (69, [some (.inr (.inr (some (6, 0)))), none, some (.inl x2), some (.inl x3), some (.inl x4), some (.inl x5), some (.inl x6), some (.inl q7)], [], am_mk m)) ?_ (fun key => ?_)
          · refine am_Go.n htb 2 (S' := (72, [some (.inr (.inr (some (6, 0)))), none, some (.inl x2), some (.inl x3), some (.inl x4), some (.inl x5), some (.inl x6), some (.inl q7)], [.inl x3, .inl x6], am_mk m)) rfl ?_
            obtain ⟨q10, h11, h⟩ := am_bd h
            refine am_Go.cut (S := (89, [some (.inr (.inr (some (6, 0)))), none, some (.inl x2), some (.inl x3), some (.inl x4), some (.inl x5), some (.inl x6), some (.inl q10)], [], am_mk m)) ?_ (fun key => ?_)
            · refine am_Go.n htb 4 (S' := (96, [some (.inr (.inr (some (6, 0)))), none, some (.inl x2), some (.inl x3), some (.inl (x4 ||| q10)), some (.inl x5), some (.inl x6), some (.inl q10)], [], am_mk m)) rfl ?_
              cases h
              exact am_Go.fg (by exact ⟨rfl, ⟨rfl, ⟨rfl, ⟨rfl, ⟨rfl, ⟨rfl, trivial⟩⟩⟩⟩⟩⟩) key
            · have h := h11
              by_cases hc8 : x6 ≠ x3
              · rw [if_pos hc8] at h
                refine am_Go.c1 htb (S' := (89, [some (.inr (.inr (some (6, 0)))), none, some (.inl x2), some (.inl x3), some (.inl x4), some (.inl x5), some (.inl x6), some (.inl q7)], [], am_mk m)) (if_pos hc8) ?_
                cases h
                exact am_Go.fg (by exact ⟨rfl, ⟨rfl, ⟨rfl, ⟨rfl, ⟨rfl, ⟨rfl, ⟨rfl, trivial⟩⟩⟩⟩⟩⟩⟩) key
              · rw [if_neg hc8] at h
                refine am_Go.c1 htb (S' := (75, [some (.inr (.inr (some (6, 0)))), none, some (.inl x2), some (.inl x3), some (.inl x4), some (.inl x5), some (.inl x6), some (.inl q7)], [], am_mk m)) (if_neg hc8) ?_
                refine am_Go.n htb 1 (S' := (76, [some (.inr (.inr (some (6, 0)))), none, some (.inl x2), some (.inl x3), some (.inl x4), some (.inl x5), some (.inl x6), some (.inl q7)], [.inl x2], am_mk m)) rfl ?_
                by_cases hc9 : x2 < 0
                · rw [if_pos hc9] at h
                  refine am_Go.c1 htb (S' := (89, [some (.inr (.inr (some (6, 0)))), none, some (.inl x2), some (.inl x3), some (.inl x4), some (.inl x5), some (.inl x6), some (.inl q7)], [], am_mk m)) (if_pos hc9) ?_
                  cases h
                  exact am_Go.fg (by exact ⟨rfl, ⟨rfl, ⟨rfl, ⟨rfl, ⟨rfl, ⟨rfl, ⟨rfl, trivial⟩⟩⟩⟩⟩⟩⟩) key
                · rw [if_neg hc9] at h
                  refine am_Go.c1 htb (S' := (79, [some (.inr (.inr (some (6, 0)))), none, some (.inl x2), some (.inl x3), some (.inl x4), some (.inl x5), some (.inl x6), some (.inl q7)], [], am_mk m)) (if_neg hc9) ?_
                  refine am_Go.n htb 8 (S' := (89, [some (.inr (.inr (some (6, 0)))), none, some (.inl x2), some (.inl x3), some (.inl x4), some (.inl x5), some (.inl x6), some (.inl (q7 &&& (((1 : Int32) <<< (x2 &&& 31)) ^^^ (-1 : Int32))))], [], am_mk m)) rfl ?_
                  cases h
                  exact am_Go.fg (by exact ⟨rfl, ⟨rfl, ⟨rfl, ⟨rfl, ⟨rfl, ⟨rfl, ⟨rfl, trivial⟩⟩⟩⟩⟩⟩⟩) key
          · have h := h12
            by_cases hc5 : x6 ≠ x2
            · rw [if_pos hc5] at h
              refine am_Go.c1 htb (S' := (69, [some (.inr (.inr (some (6, 0)))), none, some (.inl x2), some (.inl x3), some (.inl x4), some (.inl x5), some (.inl x6), some (.inl (m.1 30 0 x6.toNatClampNeg))], [], am_mk m)) (if_pos hc5) ?_
              cases h
              exact am_Go.fg (by exact ⟨rfl, ⟨rfl, ⟨rfl, ⟨rfl, ⟨rfl, ⟨rfl, ⟨rfl, trivial⟩⟩⟩⟩⟩⟩⟩) key
            · rw [if_neg hc5] at h
              refine am_Go.c1 htb (S' := (55, [some (.inr (.inr (some (6, 0)))), none, some (.inl x2), some (.inl x3), some (.inl x4), some (.inl x5), some (.inl x6), some (.inl (m.1 30 0 x6.toNatClampNeg))], [], am_mk m)) (if_neg hc5) ?_
              refine am_Go.n htb 1 (S' := (56, [some (.inr (.inr (some (6, 0)))), none, some (.inl x2), some (.inl x3), some (.inl x4), some (.inl x5), some (.inl x6), some (.inl (m.1 30 0 x6.toNatClampNeg))], [.inl x3], am_mk m)) rfl ?_
              by_cases hc6 : x3 < 0
              · rw [if_pos hc6] at h
                refine am_Go.c1 htb (S' := (69, [some (.inr (.inr (some (6, 0)))), none, some (.inl x2), some (.inl x3), some (.inl x4), some (.inl x5), some (.inl x6), some (.inl (m.1 30 0 x6.toNatClampNeg))], [], am_mk m)) (if_pos hc6) ?_
                cases h
                exact am_Go.fg (by exact ⟨rfl, ⟨rfl, ⟨rfl, ⟨rfl, ⟨rfl, ⟨rfl, ⟨rfl, trivial⟩⟩⟩⟩⟩⟩⟩) key
              · rw [if_neg hc6] at h
                refine am_Go.c1 htb (S' := (59, [some (.inr (.inr (some (6, 0)))), none, some (.inl x2), some (.inl x3), some (.inl x4), some (.inl x5), some (.inl x6), some (.inl (m.1 30 0 x6.toNatClampNeg))], [], am_mk m)) (if_neg hc6) ?_
                refine am_Go.n htb 8 (S' := (69, [some (.inr (.inr (some (6, 0)))), none, some (.inl x2), some (.inl x3), some (.inl x4), some (.inl x5), some (.inl x6), some (.inl ((m.1 30 0 x6.toNatClampNeg) &&& (((1 : Int32) <<< (x3 &&& 31)) ^^^ (-1 : Int32))))], [], am_mk m)) rfl ?_
                cases h
                exact am_Go.fg (by exact ⟨rfl, ⟨rfl, ⟨rfl, ⟨rfl, ⟨rfl, ⟨rfl, ⟨rfl, trivial⟩⟩⟩⟩⟩⟩⟩) key
set_option maxRecDepth 100000 in
theorem lt_X6_circleOf_8 (d : Nat) (hd : 1 ≤ d + 1) {r : Option am_V} {M' : am_M} {kc ks : Nat} {n : Nat} {x2 : Int32} {x3 : Int32} {x4 : Int32} {x5 : Int32} {m : am_m} {t : Int32} (h : lp_X6_circleOf_8 n x2 x3 x4 x5 m = some t) (hk : am_Go d 84 (108, [some (.inr (.inr (some (6, 0)))), none, some (.inl x2), some (.inl x3), some (.inl t), none, none, none], [], am_mk m) r M' kc ks) : am_Go d 84 (8, [some (.inr (.inr (some (6, 0)))), none, some (.inl x2), some (.inl x3), some (.inl x4), some (.inl x5), none, none], [], am_mk m) r M' kc ks := by
  have htb : am_tab 84 = at_84 := rfl
  induction n generalizing x4 x5 with
  | zero => cases h
  | succ n ih =>
    unfold lp_X6_circleOf_8 at h
    refine am_Go.n htb 3 (S' := (14, [some (.inr (.inr (some (6, 0)))), none, some (.inl x2), some (.inl x3), some (.inl x4), some (.inl x5), none, none], [.inl (m.1 6 0 0), .inl x5], am_mk m)) rfl ?_
    by_cases hc1 : (m.1 6 0 0) ≤ x5
    · rw [if_pos hc1] at h
      refine am_Go.c1 htb (S' := (108, [some (.inr (.inr (some (6, 0)))), none, some (.inl x2), some (.inl x3), some (.inl x4), some (.inl x5), none, none], [], am_mk m)) (if_pos hc1) ?_
      cases h
      exact am_Go.fg (by exact ⟨rfl, ⟨rfl, ⟨rfl, ⟨rfl, trivial⟩⟩⟩⟩) hk
    · rw [if_neg hc1] at h
      refine am_Go.c1 htb (S' := (17, [some (.inr (.inr (some (6, 0)))), none, some (.inl x2), some (.inl x3), some (.inl x4), some (.inl x5), none, none], [], am_mk m)) (if_neg hc1) ?_
      refine am_Go.n htb 2 (S' := (20, [some (.inr (.inr (some (6, 0)))), none, some (.inl x2), some (.inl x3), some (.inl x4), some (.inl x5), some (.inl 0), none], [], am_mk m)) rfl ?_
      obtain ⟨q15, h16, h⟩ := am_bd h
      refine lt_X6_circleOf_20 _ hd (h := h16) (hk := ?_)
      refine am_Go.n htb 2 (S' := (8, [some (.inr (.inr (some (6, 0)))), none, some (.inl x2), some (.inl x3), some (.inl q15), some (.inl (x5 + 1)), none, none], [], am_mk m)) rfl ?_
      first | exact ih h | exact ih h hk
set_option maxRecDepth 100000 in
theorem ex_X6_circleOf (d : Nat) (hd : 1 ≤ d) (a1 : Int32) (a2 : Int32) (a3 : Int32) (m : am_m) (t : Int32) (h : fn_X6_circleOf a1 a2 a3 m = some t) : am_Ex am_cod d 84 [.inr (.inr (some (6, 0))), .inl a1, .inl a2, .inl a3] (am_mk m) (some (.inl t)) (am_mk m) 0 0 := by
  obtain ⟨d, rfl⟩ : ∃ e, d = e + 1 := ⟨d - 1, by omega⟩
  have htb : am_tab 84 = at_84 := rfl
  refine ⟨Nat.le_of_ble_eq_true rfl, ?_⟩
  unfold fn_X6_circleOf at h
  show am_Go d 84 (0, [some (.inr (.inr (some (6, 0)))), some (.inl a1), some (.inl a2), some (.inl a3), none, none, none, none], [], am_mk m) _ _ 0 0
  refine am_Go.n htb 6 (S' := (8, [some (.inr (.inr (some (6, 0)))), some (.inl a1), some (.inl a2), some (.inl a3), some (.inl ((1 : Int32) <<< (a1 &&& 31))), some (.inl 0), none, none], [], am_mk m)) rfl ?_
  refine am_Go.fg (L0 := [some (.inr (.inr (some (6, 0)))), none, some (.inl a2), some (.inl a3), some (.inl ((1 : Int32) <<< (a1 &&& 31))), some (.inl 0), none, none]) (by exact ⟨rfl, ⟨rfl, ⟨rfl, ⟨rfl, ⟨rfl, trivial⟩⟩⟩⟩⟩) ?_
  obtain ⟨q17, h18, h⟩ := am_bd h
  refine lt_X6_circleOf_8 _ hd (h := h18) (hk := ?_)
  refine am_Go.n htb 1 (S' := (110, [some (.inr (.inr (some (6, 0)))), none, some (.inl a2), some (.inl a3), some (.inl q17), none, none, none], [.inl q17], am_mk m)) rfl ?_
  cases h
  exact am_Go.rt htb rfl
-- X6_circlesWithout
set_option maxRecDepth 100000 in
theorem lt_X6_circlesWithout_11 (d : Nat) (hd : 2 ≤ d + 1) {r : Option am_V} {M' : am_M} {kc ks : Nat} {n : Nat} {x1 : Int32} {x2 : Int32} {x3 : Int32} {x4 : Int32} {x5 : Int32} {m : am_m} {t : Int32} (h : lp_X6_circlesWithout_11 n x1 x2 x3 x4 x5 m = some t) (hk : am_Go d 83 (52, [some (.inr (.inr (some (6, 0)))), some (.inl x1), some (.inl x2), none, some (.inl t), none], [], am_mk m) r M' kc ks) : am_Go d 83 (11, [some (.inr (.inr (some (6, 0)))), some (.inl x1), some (.inl x2), some (.inl x3), some (.inl x4), some (.inl x5)], [], am_mk m) r M' kc ks := by
  have htb : am_tab 83 = at_83 := rfl
  induction n generalizing x3 x4 x5 with
  | zero => cases h
  | succ n ih =>
    unfold lp_X6_circlesWithout_11 at h
    refine am_Go.n htb 3 (S' := (17, [some (.inr (.inr (some (6, 0)))), some (.inl x1), some (.inl x2), some (.inl x3), some (.inl x4), some (.inl x5)], [.inl (m.1 6 0 0), .inl x5], am_mk m)) rfl ?_
    by_cases hc3 : (m.1 6 0 0) ≤ x5
    · rw [if_pos hc3] at h
      refine am_Go.c1 htb (S' := (52, [some (.inr (.inr (some (6, 0)))), some (.inl x1), some (.inl x2), some (.inl x3), some (.inl x4), some (.inl x5)], [], am_mk m)) (if_pos hc3) ?_
      cases h
      exact am_Go.fg (by exact ⟨rfl, ⟨rfl, ⟨rfl, ⟨rfl, trivial⟩⟩⟩⟩) hk
    · rw [if_neg hc3] at h
      refine am_Go.c1 htb (S' := (20, [some (.inr (.inr (some (6, 0)))), some (.inl x1), some (.inl x2), some (.inl x3), some (.inl x4), some (.inl x5)], [], am_mk m)) (if_neg hc3) ?_
      refine am_Go.n htb 6 (S' := (27, [some (.inr (.inr (some (6, 0)))), some (.inl x1), some (.inl x2), some (.inl x3), some (.inl x4), some (.inl x5)], [.inl 1, .inl ((x3 >>> (x5 &&& 31)) &&& (1 : Int32))], am_mk m)) rfl ?_
      obtain ⟨q7, h8, h⟩ := am_bd h
      refine am_Go.cut (S := (46, [some (.inr (.inr (some (6, 0)))), some (.inl x1), some (.inl x2), some (.inl q7.1), some (.inl q7.2), some (.inl x5)], [], am_mk m)) ?_ (fun key => ?_)
      · refine am_Go.n htb 2 (S' := (11, [some (.inr (.inr (some (6, 0)))), some (.inl x1), some (.inl x2), some (.inl q7.1), some (.inl q7.2), some (.inl (x5 + 1))], [], am_mk m)) rfl ?_
        first | exact ih h | exact ih h hk
      · have h := h8
        by_cases hc4 : ((x3 >>> (x5 &&& 31)) &&& (1 : Int32)) ≠ (1 : Int32)
        · rw [if_pos hc4] at h
          refine am_Go.c1 htb (S' := (46, [some (.inr (.inr (some (6, 0)))), some (.inl x1), some (.inl x2), some (.inl x3), some (.inl x4), some (.inl x5)], [], am_mk m)) (if_pos hc4) ?_
          cases h
          exact am_Go.fg (by exact ⟨rfl, ⟨rfl, ⟨rfl, ⟨rfl, ⟨rfl, ⟨rfl, trivial⟩⟩⟩⟩⟩⟩) key
        · rw [if_neg hc4] at h
          refine am_Go.c1 htb (S' := (30, [some (.inr (.inr (some (6, 0)))), some (.inl x1), some (.inl x2), some (.inl x3), some (.inl x4), some (.inl x5)], [], am_mk m)) (if_neg hc4) ?_
          refine am_Go.n htb 5 (S' := (36, [some (.inr (.inr (some (6, 0)))), some (.inl x1), some (.inl x2), some (.inl x3), some (.inl x4), some (.inl x5)], [.inl x2, .inl x1, .inl x5, .inr (.inr (some (6, 0))), .inl x3], am_mk m)) rfl ?_
          obtain ⟨r5, h6, h⟩ := am_bd h
          refine am_Go.cl htb rfl (ex_X6_circleOf d (by omega) x5 x1 x2 m r5 h6) ?_
          show am_Go d 83 (39, [some (.inr (.inr (some (6, 0)))), some (.inl x1), some (.inl x2), some (.inl x3), some (.inl x4), some (.inl x5)], [.inl r5, .inl x3], am_mk m) _ _ _ _
          refine am_Go.n htb 5 (S' := (46, [some (.inr (.inr (some (6, 0)))), some (.inl x1), some (.inl x2), some (.inl (x3 &&& (r5 ^^^ (-1 : Int32)))), some (.inl (x4 + 1)), some (.inl x5)], [], am_mk m)) rfl ?_
          cases h
          exact am_Go.fg (by exact ⟨rfl, ⟨rfl, ⟨rfl, ⟨rfl, ⟨rfl, ⟨rfl, trivial⟩⟩⟩⟩⟩⟩) key
set_option maxRecDepth 100000 in
theorem ex_X6_circlesWithout (d : Nat) (hd : 2 ≤ d) (a1 : Int32) (a2 : Int32) (m : am_m) (t : Int32) (h : fn_X6_circlesWithout a1 a2 m = some t) : am_Ex am_cod d 83 [.inr (.inr (some (6, 0))), .inl a1, .inl a2] (am_mk m) (some (.inl t)) (am_mk m) 0 0 := by
  obtain ⟨d, rfl⟩ : ∃ e, d = e + 1 := ⟨d - 1, by omega⟩
  have htb : am_tab 83 = at_83 := rfl
  refine ⟨Nat.le_of_ble_eq_true rfl, ?_⟩
  unfold fn_X6_circlesWithout at h
  show am_Go d 83 (0, [some (.inr (.inr (some (6, 0)))), some (.inl a1), some (.inl a2), none, none, none], [], am_mk m) _ _ 0 0
  refine am_Go.n htb 1 (S' := (1, [some (.inr (.inr (some (6, 0)))), some (.inl a1), some (.inl a2), none, none, none], [.inr (.inr (some (6, 0)))], am_mk m)) rfl ?_
  obtain ⟨r1, h2, h⟩ := am_bd h
  refine am_Go.cl htb rfl (ex_X6_everybody d (by omega)  m r1 h2) ?_
  show am_Go d 83 (4, [some (.inr (.inr (some (6, 0)))), some (.inl a1), some (.inl a2), none, none, none], [.inl r1], am_mk m) _ _ _ _
  refine am_Go.n htb 5 (S' := (11, [some (.inr (.inr (some (6, 0)))), some (.inl a1), some (.inl a2), some (.inl r1), some (.inl 0), some (.inl 0)], [], am_mk m)) rfl ?_
  obtain ⟨q9, h10, h⟩ := am_bd h
  refine lt_X6_circlesWithout_11 _ hd (h := h10) (hk := ?_)
  refine am_Go.n htb 1 (S' := (54, [some (.inr (.inr (some (6, 0)))), some (.inl a1), some (.inl a2), none, some (.inl q9), none], [.inl q9], am_mk m)) rfl ?_
  cases h
  exact am_Go.rt htb rfl
-- X6_addTwo
set_option maxRecDepth 100000 in
theorem ex_X6_addTwo (d : Nat) (hd : 1 ≤ d) (a1 : Int32) (a2 : Int32) (m : am_m) (t : am_m) (h : fn_X6_addTwo a1 a2 m = some t) : am_Ex am_cod d 88 [.inr (.inr (some (6, 0))), .inl a1, .inl a2] (am_mk m) (none) (am_mk t) 0 0 := by
  obtain ⟨d, rfl⟩ : ∃ e, d = e + 1 := ⟨d - 1, by omega⟩
  have htb : am_tab 88 = at_88 := rfl
  refine ⟨Nat.le_of_ble_eq_true rfl, ?_⟩
  unfold fn_X6_addTwo at h
  show am_Go d 88 (0, [some (.inr (.inr (some (6, 0)))), some (.inl a1), some (.inl a2)], [], am_mk m) _ _ 0 0
  refine am_Go.n htb 3 (S' := (6, [some (.inr (.inr (some (6, 0)))), some (.inl a1), some (.inl a2)], [.inl 21, .inl (m.1 6 0 7)], am_mk m)) rfl ?_
  by_cases hc1 : (21 : Int32) ≤ (m.1 6 0 7)
  · rw [if_pos hc1] at h
    refine am_Go.c1 htb (S' := (34, [some (.inr (.inr (some (6, 0)))), some (.inl a1), some (.inl a2)], [], am_mk m)) (if_pos hc1) ?_
    cases h
    exact am_Go.rt htb rfl
  · rw [if_neg hc1] at h
    refine am_Go.c1 htb (S' := (9, [some (.inr (.inr (some (6, 0)))), some (.inl a1), some (.inl a2)], [], am_mk m)) (if_neg hc1) ?_
    refine am_Go.n htb 9 (S' := (23, [some (.inr (.inr (some (6, 0)))), some (.inl a1), some (.inl a2)], [.inl (((10 : Int32) * a1) + a2), .inl (m.1 6 0 7), .inr (.inr (some (33, 0)))], am_mk m)) rfl ?_
    obtain ⟨hg2, h⟩ := am_ck_some h
    refine am_Go.c1 htb (S' := (24, [some (.inr (.inr (some (6, 0)))), some (.inl a1), some (.inl a2)], [], am_mk (am_si m 33 0 (m.1 6 0 7).toNatClampNeg (((10 : Int32) * a1) + a2)))) (if_neg hg2) ?_
    refine am_Go.n htb 6 (S' := (34, [some (.inr (.inr (some (6, 0)))), some (.inl a1), some (.inl a2)], [], am_mk (am_si (am_si m 33 0 (m.1 6 0 7).toNatClampNeg (((10 : Int32) * a1) + a2)) 6 0 7 ((m.1 6 0 7) + (1 : Int32))))) rfl ?_
    cases h
    exact am_Go.rt htb rfl
