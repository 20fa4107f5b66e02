-- X6_everybody
set_option maxRecDepth 100000 in
theorem ex_X6_everybody (d : Nat) (hd : 1 ≤ d)  (m : am_m) (t : Int32) (h : fn_X6_everybody  m = some t) : am_Ex am_cod d 72 [.inr (.inr (some (6, 0)))] (am_mk m) (some (.inl t)) (am_mk m) 0 0 := by
  obtain ⟨d, rfl⟩ : ∃ e, d = e + 1 := ⟨d - 1, by omega⟩
  have htb : am_tab 72 = at_72 := rfl
  refine ⟨Nat.le_of_ble_eq_true rfl, ?_⟩
  unfold fn_X6_everybody at h
  show am_Go d 72 (0, [some (.inr (.inr (some (6, 0))))], [], am_mk m) _ _ 0 0
  refine am_Go.n htb 6 (S' := (8, [some (.inr (.inr (some (6, 0))))], [.inl (((1 : Int32) <<< ((m.1 6 0 0) &&& 31)) - (1 : Int32))], am_mk m)) rfl ?_
  cases h
  exact am_Go.rt htb rfl
-- X6_isTable
set_option maxRecDepth 100000 in
theorem lt_X6_isTable_2 (d : Nat) (hd : 2 ≤ d + 1) {r : Option am_V} {M' : am_M} {kc ks : Nat} {n : Nat} {x1 : Int32} {x2 : Int32} {m : am_m} {t : Sum (Unit) (Int32)} (h : lp_X6_isTable_2 n x1 x2 m = some t) (hk : ∀ t', t = .inl t' → am_Go d 73 (48, [some (.inr (.inr (some (6, 0)))), some (.inl x1), none, none], [], am_mk m) r M' kc ks) (hr : ∀ t', t = .inr t' → r = some (.inl t') ∧ M' = am_mk m ∧ kc = 0 ∧ ks = 0) : am_Go d 73 (2, [some (.inr (.inr (some (6, 0)))), some (.inl x1), some (.inl x2), none], [], am_mk m) r M' kc ks := by
  have htb : am_tab 73 = at_73 := rfl
  induction n generalizing x2 with
  | zero => cases h
  | succ n ih =>
    unfold lp_X6_isTable_2 at h
    refine am_Go.n htb 3 (S' := (7, [some (.inr (.inr (some (6, 0)))), some (.inl x1), some (.inl x2), none], [.inl (m.1 6 0 0), .inl x2], am_mk m)) rfl ?_
    by_cases hc1 : (m.1 6 0 0) ≤ x2
    · rw [if_pos hc1] at h
      refine am_Go.c1 htb (S' := (48, [some (.inr (.inr (some (6, 0)))), some (.inl x1), some (.inl x2), none], [], am_mk m)) (if_pos hc1) ?_
      cases h
      exact am_Go.fg (by exact ⟨rfl, ⟨rfl, trivial⟩⟩) (hk _ rfl)
    · rw [if_neg hc1] at h
      refine am_Go.c1 htb (S' := (10, [some (.inr (.inr (some (6, 0)))), some (.inl x1), some (.inl x2), none], [], am_mk m)) (if_neg hc1) ?_
      refine am_Go.n htb 14 (S' := (24, [some (.inr (.inr (some (6, 0)))), some (.inl x1), some (.inl x2), some (.inl (x1 &&& (((1 : Int32) <<< (x2 &&& 31)) ^^^ (-1 : Int32))))], [.inl 1, .inl ((x1 >>> (x2 &&& 31)) &&& (1 : Int32))], am_mk m)) rfl ?_
      by_cases hc2 : ((x1 >>> (x2 &&& 31)) &&& (1 : Int32)) ≠ (1 : Int32)
      · rw [if_pos hc2] at h
        refine am_Go.c1 htb (S' := (42, [some (.inr (.inr (some (6, 0)))), some (.inl x1), some (.inl x2), some (.inl (x1 &&& (((1 : Int32) <<< (x2 &&& 31)) ^^^ (-1 : Int32))))], [], am_mk m)) (if_pos hc2) ?_
        refine am_Go.n htb 2 (S' := (2, [some (.inr (.inr (some (6, 0)))), some (.inl x1), some (.inl (x2 + 1)), some (.inl (x1 &&& (((1 : Int32) <<< (x2 &&& 31)) ^^^ (-1 : Int32))))], [], am_mk m)) rfl ?_
        refine am_Go.fg (L0 := [some (.inr (.inr (some (6, 0)))), some (.inl x1), some (.inl (x2 + 1)), none]) (by exact ⟨rfl, ⟨rfl, ⟨rfl, trivial⟩⟩⟩) ?_
        first | exact ih h | exact ih h hk | exact ih h hr | exact ih h hk hr
      · rw [if_neg hc2] at h
        refine am_Go.c1 htb (S' := (27, [some (.inr (.inr (some (6, 0)))), some (.inl x1), some (.inl x2), some (.inl (x1 &&& (((1 : Int32) <<< (x2 &&& 31)) ^^^ (-1 : Int32))))], [], am_mk m)) (if_neg hc2) ?_
        refine am_Go.n htb 4 (S' := (33, [some (.inr (.inr (some (6, 0)))), some (.inl x1), some (.inl x2), some (.inl (x1 &&& (((1 : Int32) <<< (x2 &&& 31)) ^^^ (-1 : Int32))))], [.inl x2, .inr (.inr (some (30, 0))), .inl (x1 &&& (((1 : Int32) <<< (x2 &&& 31)) ^^^ (-1 : Int32)))], am_mk m)) rfl ?_
        obtain ⟨hg3, h⟩ := am_ck_some h
        refine am_Go.c1 htb (S' := (34, [some (.inr (.inr (some (6, 0)))), some (.inl x1), some (.inl x2), some (.inl (x1 &&& (((1 : Int32) <<< (x2 &&& 31)) ^^^ (-1 : Int32))))], [.inl (m.1 30 0 x2.toNatClampNeg), .inl (x1 &&& (((1 : Int32) <<< (x2 &&& 31)) ^^^ (-1 : Int32)))], am_mk m)) (if_neg hg3) ?_
        refine am_Go.n htb 3 (S' := (37, [some (.inr (.inr (some (6, 0)))), some (.inl x1), some (.inl x2), some (.inl (x1 &&& (((1 : Int32) <<< (x2 &&& 31)) ^^^ (-1 : Int32))))], [.inl ((x1 &&& (((1 : Int32) <<< (x2 &&& 31)) ^^^ (-1 : Int32))) &&& ((m.1 30 0 x2.toNatClampNeg) ^^^ (-1 : Int32)))], am_mk m)) rfl ?_
        by_cases hc4 : ((x1 &&& (((1 : Int32) <<< (x2 &&& 31)) ^^^ (-1 : Int32))) &&& ((m.1 30 0 x2.toNatClampNeg) ^^^ (-1 : Int32))) = 0
        · rw [if_pos hc4] at h
          refine am_Go.c1 htb (S' := (42, [some (.inr (.inr (some (6, 0)))), some (.inl x1), some (.inl x2), some (.inl (x1 &&& (((1 : Int32) <<< (x2 &&& 31)) ^^^ (-1 : Int32))))], [], am_mk m)) (if_pos hc4) ?_
          refine am_Go.n htb 2 (S' := (2, [some (.inr (.inr (some (6, 0)))), some (.inl x1), some (.inl (x2 + 1)), some (.inl (x1 &&& (((1 : Int32) <<< (x2 &&& 31)) ^^^ (-1 : Int32))))], [], am_mk m)) rfl ?_
          refine am_Go.fg (L0 := [some (.inr (.inr (some (6, 0)))), some (.inl x1), some (.inl (x2 + 1)), none]) (by exact ⟨rfl, ⟨rfl, ⟨rfl, trivial⟩⟩⟩) ?_
          first | exact ih h | exact ih h hk | exact ih h hr | exact ih h hk hr
        · rw [if_neg hc4] at h
          refine am_Go.c1 htb (S' := (40, [some (.inr (.inr (some (6, 0)))), some (.inl x1), some (.inl x2), some (.inl (x1 &&& (((1 : Int32) <<< (x2 &&& 31)) ^^^ (-1 : Int32))))], [], am_mk m)) (if_neg hc4) ?_
          refine am_Go.n htb 1 (S' := (41, [some (.inr (.inr (some (6, 0)))), some (.inl x1), some (.inl x2), some (.inl (x1 &&& (((1 : Int32) <<< (x2 &&& 31)) ^^^ (-1 : Int32))))], [.inl 0], am_mk m)) rfl ?_
          cases h
          obtain ⟨rfl, rfl, rfl, rfl⟩ := hr _ rfl
          exact am_Go.rt htb rfl
set_option maxRecDepth 100000 in
theorem ex_X6_isTable (d : Nat) (hd : 2 ≤ d) (a1 : Int32) (m : am_m) (t : Int32) (h : fn_X6_isTable a1 m = some t) : am_Ex am_cod d 73 [.inr (.inr (some (6, 0))), .inl a1] (am_mk m) (some (.inl t)) (am_mk m) 0 0 := by
  obtain ⟨d, rfl⟩ : ∃ e, d = e + 1 := ⟨d - 1, by omega⟩
  have htb : am_tab 73 = at_73 := rfl
  refine ⟨Nat.le_of_ble_eq_true rfl, ?_⟩
  unfold fn_X6_isTable at h
  show am_Go d 73 (0, [some (.inr (.inr (some (6, 0)))), some (.inl a1), none, none], [], am_mk m) _ _ 0 0
  refine am_Go.n htb 2 (S' := (2, [some (.inr (.inr (some (6, 0)))), some (.inl a1), some (.inl 0), none], [], am_mk m)) rfl ?_
  obtain ⟨w11, h6, h⟩ := am_bd h
  refine lt_X6_isTable_2 _ hd (h := h6) (hk := ?_) (hr := ?_)
  · intro q5 he
    subst he
    dsimp only at h
    refine am_Go.n htb 1 (S' := (49, [some (.inr (.inr (some (6, 0)))), some (.inl a1), none, none], [.inl a1], am_mk m)) rfl ?_
    obtain ⟨r7, h8, h⟩ := am_bd h
    refine am_Go.cl htb rfl (ex_J6_bitCount_0f7a4 d (by omega) a1 m r7 h8) ?_
    show am_Go d 73 (52, [some (.inr (.inr (some (6, 0)))), some (.inl a1), none, none], [.inl r7], am_mk m) _ _ _ _
    refine am_Go.n htb 1 (S' := (53, [some (.inr (.inr (some (6, 0)))), some (.inl a1), none, none], [.inl 2, .inl r7], am_mk m)) rfl ?_
    by_cases hc9 : r7 < (2 : Int32)
    · rw [if_pos hc9] at h
      refine am_Go.c1 htb (S' := (60, [some (.inr (.inr (some (6, 0)))), some (.inl a1), none, none], [], am_mk m)) (if_pos hc9) ?_
      refine am_Go.n htb 1 (S' := (61, [some (.inr (.inr (some (6, 0)))), some (.inl a1), none, none], [.inl 0], am_mk m)) rfl ?_
      cases h
      exact am_Go.rt htb rfl
    · rw [if_neg hc9] at h
      refine am_Go.c1 htb (S' := (56, [some (.inr (.inr (some (6, 0)))), some (.inl a1), none, none], [], am_mk m)) (if_neg hc9) ?_
      refine am_Go.n htb 2 (S' := (61, [some (.inr (.inr (some (6, 0)))), some (.inl a1), none, none], [.inl 1], am_mk m)) rfl ?_
      cases h
      exact am_Go.rt htb rfl
  · intro rr10 he
    subst he
    cases h
    exact ⟨rfl, rfl, rfl, rfl⟩
-- X6_largestTable
set_option maxRecDepth 100000 in
theorem lt_X6_largestTable_4 (d : Nat) (hd : 3 ≤ d + 1) {r : Option am_V} {M' : am_M} {kc ks : Nat} {n : Nat} {x1 : Int32} {x2 : Int32} {m : am_m} {t : Int32} (h : lp_X6_largestTable_4 n x1 x2 m = some t) (hk : am_Go d 74 (39, [some (.inr (.inr (some (6, 0)))), some (.inl t), none], [], am_mk m) r M' kc ks) : am_Go d 74 (4, [some (.inr (.inr (some (6, 0)))), some (.inl x1), some (.inl x2)], [], am_mk m) r M' kc ks := by
  have htb : am_tab 74 = at_74 := rfl
  induction n generalizing x1 x2 with
  | zero => cases h
  | succ n ih =>
    unfold lp_X6_largestTable_4 at h
    refine am_Go.n htb 2 (S' := (6, [some (.inr (.inr (some (6, 0)))), some (.inl x1), some (.inl x2)], [.inr (.inr (some (6, 0))), .inl x2], am_mk m)) rfl ?_
    obtain ⟨r1, h2, h⟩ := am_bd h
    refine am_Go.cl htb rfl (ex_X6_everybody d (by omega)  m r1 h2) ?_
    show am_Go d 74 (9, [some (.inr (.inr (some (6, 0)))), some (.inl x1), some (.inl x2)], [.inl r1, .inl x2], am_mk m) _ _ _ _
    by_cases hc3 : r1 < x2
    · rw [if_pos hc3] at h
      refine am_Go.c1 htb (S' := (39, [some (.inr (.inr (some (6, 0)))), some (.inl x1), some (.inl x2)], [], am_mk m)) (if_pos hc3) ?_
      cases h
      exact am_Go.fg (by exact ⟨rfl, ⟨rfl, trivial⟩⟩) hk
    · rw [if_neg hc3] at h
      refine am_Go.c1 htb (S' := (12, [some (.inr (.inr (some (6, 0)))), some (.inl x1), some (.inl x2)], [], am_mk m)) (if_neg hc3) ?_
      refine am_Go.n htb 1 (S' := (13, [some (.inr (.inr (some (6, 0)))), some (.inl x1), some (.inl x2)], [.inl x2], am_mk m)) rfl ?_
      obtain ⟨r4, h5, h⟩ := am_bd h
      refine am_Go.cl htb rfl (ex_J6_bitCount_0f7a4 d (by omega) x2 m r4 h5) ?_
      show am_Go d 74 (16, [some (.inr (.inr (some (6, 0)))), some (.inl x1), some (.inl x2)], [.inl r4], am_mk m) _ _ _ _
      refine am_Go.n htb 1 (S' := (17, [some (.inr (.inr (some (6, 0)))), some (.inl x1), some (.inl x2)], [.inl x1, .inl r4], am_mk m)) rfl ?_
      obtain ⟨r6, h7, h⟩ := am_bd h
      refine am_Go.cl htb rfl (ex_J6_bitCount_0f7a4 d (by omega) x1 m r6 h7) ?_
      show am_Go d 74 (20, [some (.inr (.inr (some (6, 0)))), some (.inl x1), some (.inl x2)], [.inl r6, .inl r4], am_mk m) _ _ _ _
      obtain ⟨q12, h13, h⟩ := am_bd h
      refine am_Go.cut (S := (33, [some (.inr (.inr (some (6, 0)))), some (.inl q12), some (.inl x2)], [], am_mk m)) ?_ (fun key => ?_)
      · refine am_Go.n htb 2 (S' := (4, [some (.inr (.inr (some (6, 0)))), some (.inl q12), some (.inl (x2 + 1))], [], am_mk m)) rfl ?_
        first | exact ih h | exact ih h hk
      · have h := h13
        by_cases hc8 : r4 ≤ r6
        · rw [if_pos hc8] at h
          refine am_Go.c1 htb (S' := (33, [some (.inr (.inr (some (6, 0)))), some (.inl x1), some (.inl x2)], [], am_mk m)) (if_pos hc8) ?_
          cases h
          exact am_Go.fg (by exact ⟨rfl, ⟨rfl, ⟨rfl, trivial⟩⟩⟩) key
        · rw [if_neg hc8] at h
          refine am_Go.c1 htb (S' := (23, [some (.inr (.inr (some (6, 0)))), some (.inl x1), some (.inl x2)], [], am_mk m)) (if_neg hc8) ?_
          refine am_Go.n htb 2 (S' := (25, [some (.inr (.inr (some (6, 0)))), some (.inl x1), some (.inl x2)], [.inl x2, .inr (.inr (some (6, 0)))], am_mk m)) rfl ?_
          obtain ⟨r9, h10, h⟩ := am_bd h
          refine am_Go.cl htb rfl (ex_X6_isTable d (by omega) x2 m r9 h10) ?_
          show am_Go d 74 (28, [some (.inr (.inr (some (6, 0)))), some (.inl x1), some (.inl x2)], [.inl r9], am_mk m) _ _ _ _
          by_cases hc11 : r9 = 0
          · rw [if_pos hc11] at h
            refine am_Go.c1 htb (S' := (33, [some (.inr (.inr (some (6, 0)))), some (.inl x1), some (.inl x2)], [], am_mk m)) (if_pos hc11) ?_
            cases h
            exact am_Go.fg (by exact ⟨rfl, ⟨rfl, ⟨rfl, trivial⟩⟩⟩) key
          · rw [if_neg hc11] at h
            refine am_Go.c1 htb (S' := (31, [some (.inr (.inr (some (6, 0)))), some (.inl x1), some (.inl x2)], [], am_mk m)) (if_neg hc11) ?_
            refine am_Go.n htb 2 (S' := (33, [some (.inr (.inr (some (6, 0)))), some (.inl x2), some (.inl x2)], [], am_mk m)) rfl ?_
            cases h
            exact am_Go.fg (by exact ⟨rfl, ⟨rfl, ⟨rfl, trivial⟩⟩⟩) key
set_option maxRecDepth 100000 in
theorem ex_X6_largestTable (d : Nat) (hd : 3 ≤ d)  (m : am_m) (t : Int32) (h : fn_X6_largestTable  m = some t) : am_Ex am_cod d 74 [.inr (.inr (some (6, 0)))] (am_mk m) (some (.inl t)) (am_mk m) 0 0 := by
  obtain ⟨d, rfl⟩ : ∃ e, d = e + 1 := ⟨d - 1, by omega⟩
  have htb : am_tab 74 = at_74 := rfl
  refine ⟨Nat.le_of_ble_eq_true rfl, ?_⟩
  unfold fn_X6_largestTable at h
  show am_Go d 74 (0, [some (.inr (.inr (some (6, 0)))), none, none], [], am_mk m) _ _ 0 0
  refine am_Go.n htb 4 (S' := (4, [some (.inr (.inr (some (6, 0)))), some (.inl 0), some (.inl 1)], [], am_mk m)) rfl ?_
  obtain ⟨q14, h15, h⟩ := am_bd h
  refine lt_X6_largestTable_4 _ hd (h := h15) (hk := ?_)
  refine am_Go.n htb 1 (S' := (40, [some (.inr (.inr (some (6, 0)))), some (.inl q14), none], [.inl q14], am_mk m)) rfl ?_
  cases h
  exact am_Go.rt htb rfl
-- X6_findParts
set_option maxRecDepth 100000 in
theorem lt_X6_findParts_31 (d : Nat) (hd : 3 ≤ d + 1) {r : Option am_V} {M' : am_M} {kc ks : Nat} {n : Nat} {x1 : Int32} {x2 : Int32} {x3 : Int32} {m : am_m} {t : am_m} (h : lp_X6_findParts_31 n x1 x2 x3 m = some t) (hk : am_Go d 76 (91, [some (.inr (.inr (some (6, 0)))), some (.inl x1), some (.inl x2), none], [], am_mk t) r M' kc ks) : am_Go d 76 (31, [some (.inr (.inr (some (6, 0)))), some (.inl x1), some (.inl x2), some (.inl x3)], [], am_mk m) r M' kc ks := by
  have htb : am_tab 76 = at_76 := rfl
  induction n generalizing x3 m with
  | zero => cases h
  | succ n ih =>
    unfold lp_X6_findParts_31 at h
    refine am_Go.n htb 1 (S' := (32, [some (.inr (.inr (some (6, 0)))), some (.inl x1), some (.inl x2), some (.inl x3)], [.inl x3], am_mk m)) rfl ?_
    by_cases hc8 : x3 ≤ 0
    · rw [if_pos hc8] at h
      refine am_Go.c1 htb (S' := (91, [some (.inr (.inr (some (6, 0)))), some (.inl x1), some (.inl x2), some (.inl x3)], [], am_mk m)) (if_pos hc8) ?_
      cases h
      exact am_Go.fg (by exact ⟨rfl, ⟨rfl, ⟨rfl, trivial⟩⟩⟩) hk
    · rw [if_neg hc8] at h
      refine am_Go.c1 htb (S' := (35, [some (.inr (.inr (some (6, 0)))), some (.inl x1), some (.inl x2), some (.inl x3)], [], am_mk m)) (if_neg hc8) ?_
      refine am_Go.n htb 3 (S' := (40, [some (.inr (.inr (some (6, 0)))), some (.inl x1), some (.inl x2), some (.inl x3)], [.inl x1, .inr (.inr (some (90, 0)))], am_mk m)) rfl ?_
      obtain ⟨hg9, h⟩ := am_ck_some h
      refine am_Go.c1 htb (S' := (41, [some (.inr (.inr (some (6, 0)))), some (.inl x1), some (.inl x2), some (.inl x3)], [.inl (m.1 90 0 x1.toNatClampNeg)], am_mk m)) (if_neg hg9) ?_
      by_cases hc10 : (m.1 90 0 x1.toNatClampNeg) ≠ 0
      · rw [if_pos hc10] at h
        refine am_Go.c1 htb (S' := (91, [some (.inr (.inr (some (6, 0)))), some (.inl x1), some (.inl x2), some (.inl x3)], [], am_mk m)) (if_pos hc10) ?_
        cases h
        exact am_Go.fg (by exact ⟨rfl, ⟨rfl, ⟨rfl, trivial⟩⟩⟩) hk
      · rw [if_neg hc10] at h
        refine am_Go.c1 htb (S' := (44, [some (.inr (.inr (some (6, 0)))), some (.inl x1), some (.inl x2), some (.inl x3)], [], am_mk m)) (if_neg hc10) ?_
        refine am_Go.n htb 6 (S' := (52, [some (.inr (.inr (some (6, 0)))), some (.inl x1), some (.inl x2), some (.inl x3)], [.inl (x3 &&& x2), .inl x1, .inr (.inr (some (90, 0)))], am_mk m)) rfl ?_
        obtain ⟨q17, h20, h⟩ := am_bd h
        refine am_Go.cut (S := (81, [some (.inr (.inr (some (6, 0)))), some (.inl x1), some (.inl x2), some (.inl x3)], [.inl q17, .inl x1, .inr (.inr (some (90, 0)))], am_mk m)) ?_ (fun key => ?_)
        · obtain ⟨hz19, h⟩ := am_gd_some h
          obtain ⟨hg18, h⟩ := am_ck_some h
          refine am_Go.o htb (am_o_zast) rfl (S' := (82, [some (.inr (.inr (some (6, 0)))), some (.inl x1), some (.inl x2), some (.inl x3)], [], am_mk (am_si m 90 0 x1.toNatClampNeg q17))) (am_zs (by decide) hz19 hg18) ?_
          refine am_Go.n htb 7 (S' := (31, [some (.inr (.inr (some (6, 0)))), some (.inl x1), some (.inl x2), some (.inl ((x3 - (1 : Int32)) &&& x1))], [], am_mk (am_si m 90 0 x1.toNatClampNeg q17))) rfl ?_
          first | exact ih h | exact ih h hk
        · have h := h20
          by_cases hc11 : (x3 &&& x2) = 0
          · rw [if_pos hc11] at h
            refine am_Go.c1 htb (S' := (80, [some (.inr (.inr (some (6, 0)))), some (.inl x1), some (.inl x2), some (.inl x3)], [.inl x1, .inr (.inr (some (90, 0)))], am_mk m)) (if_pos hc11) ?_
            refine am_Go.n htb 1 (S' := (81, [some (.inr (.inr (some (6, 0)))), some (.inl x1), some (.inl x2), some (.inl x3)], [.inl 0, .inl x1, .inr (.inr (some (90, 0)))], am_mk m)) rfl ?_
            cases h
            exact am_Go.fg (by exact ⟨rfl, ⟨rfl, ⟨rfl, ⟨rfl, trivial⟩⟩⟩⟩) key
          · rw [if_neg hc11] at h
            refine am_Go.c1 htb (S' := (55, [some (.inr (.inr (some (6, 0)))), some (.inl x1), some (.inl x2), some (.inl x3)], [.inl x1, .inr (.inr (some (90, 0)))], am_mk m)) (if_neg hc11) ?_
            refine am_Go.n htb 7 (S' := (64, [some (.inr (.inr (some (6, 0)))), some (.inl x1), some (.inl x2), some (.inl x3)], [.inl (x1 &&& (x3 ^^^ (-1 : Int32))), .inr (.inr (some (90, 0))), .inl x1, .inr (.inr (some (90, 0)))], am_mk m)) rfl ?_
            obtain ⟨hg12, h⟩ := am_ck_some h
            refine am_Go.c1 htb (S' := (65, [some (.inr (.inr (some (6, 0)))), some (.inl x1), some (.inl x2), some (.inl x3)], [.inl (m.1 90 0 (x1 &&& (x3 ^^^ (-1 : Int32))).toNatClampNeg), .inl x1, .inr (.inr (some (90, 0)))], am_mk m)) (if_neg hg12) ?_
            by_cases hc13 : (m.1 90 0 (x1 &&& (x3 ^^^ (-1 : Int32))).toNatClampNeg) = 0
            · rw [if_pos hc13] at h
              refine am_Go.c1 htb (S' := (80, [some (.inr (.inr (some (6, 0)))), some (.inl x1), some (.inl x2), some (.inl x3)], [.inl x1, .inr (.inr (some (90, 0)))], am_mk m)) (if_pos hc13) ?_
              refine am_Go.n htb 1 (S' := (81, [some (.inr (.inr (some (6, 0)))), some (.inl x1), some (.inl x2), some (.inl x3)], [.inl 0, .inl x1, .inr (.inr (some (90, 0)))], am_mk m)) rfl ?_
              cases h
              exact am_Go.fg (by exact ⟨rfl, ⟨rfl, ⟨rfl, ⟨rfl, trivial⟩⟩⟩⟩) key
            · rw [if_neg hc13] at h
              refine am_Go.c1 htb (S' := (68, [some (.inr (.inr (some (6, 0)))), some (.inl x1), some (.inl x2), some (.inl x3)], [.inl x1, .inr (.inr (some (90, 0)))], am_mk m)) (if_neg hc13) ?_
              refine am_Go.n htb 2 (S' := (70, [some (.inr (.inr (some (6, 0)))), some (.inl x1), some (.inl x2), some (.inl x3)], [.inl x3, .inr (.inr (some (6, 0))), .inl x1, .inr (.inr (some (90, 0)))], am_mk m)) rfl ?_
              obtain ⟨r14, h15, h⟩ := am_bd h
              refine am_Go.cl htb rfl (ex_X6_isTable d (by omega) x3 m r14 h15) ?_
              show am_Go d 76 (73, [some (.inr (.inr (some (6, 0)))), some (.inl x1), some (.inl x2), some (.inl x3)], [.inl r14, .inl x1, .inr (.inr (some (90, 0)))], am_mk m) _ _ _ _
              by_cases hc16 : r14 = 0
              · rw [if_pos hc16] at h
                refine am_Go.c1 htb (S' := (80, [some (.inr (.inr (some (6, 0)))), some (.inl x1), some (.inl x2), some (.inl x3)], [.inl x1, .inr (.inr (some (90, 0)))], am_mk m)) (if_pos hc16) ?_
                refine am_Go.n htb 1 (S' := (81, [some (.inr (.inr (some (6, 0)))), some (.inl x1), some (.inl x2), some (.inl x3)], [.inl 0, .inl x1, .inr (.inr (some (90, 0)))], am_mk m)) rfl ?_
                cases h
                exact am_Go.fg (by exact ⟨rfl, ⟨rfl, ⟨rfl, ⟨rfl, trivial⟩⟩⟩⟩) key
              · rw [if_neg hc16] at h
                refine am_Go.c1 htb (S' := (76, [some (.inr (.inr (some (6, 0)))), some (.inl x1), some (.inl x2), some (.inl x3)], [.inl x1, .inr (.inr (some (90, 0)))], am_mk m)) (if_neg hc16) ?_
                refine am_Go.n htb 2 (S' := (81, [some (.inr (.inr (some (6, 0)))), some (.inl x1), some (.inl x2), some (.inl x3)], [.inl 1, .inl x1, .inr (.inr (some (90, 0)))], am_mk m)) rfl ?_
                cases h
                exact am_Go.fg (by exact ⟨rfl, ⟨rfl, ⟨rfl, ⟨rfl, trivial⟩⟩⟩⟩) key
set_option maxRecDepth 100000 in
theorem lt_X6_findParts_9 (d : Nat) (hd : 3 ≤ d + 1) {r : Option am_V} {M' : am_M} {kc ks : Nat} {n : Nat} {x1 : Int32} {m : am_m} {t : am_m} (h : lp_X6_findParts_9 n x1 m = some t) (hk : am_Go d 76 (97, [some (.inr (.inr (some (6, 0)))), none, none, none], [], am_mk t) r M' kc ks) : am_Go d 76 (9, [some (.inr (.inr (some (6, 0)))), some (.inl x1), none, none], [], am_mk m) r M' kc ks := by
  have htb : am_tab 76 = at_76 := rfl
  induction n generalizing x1 m with
  | zero => cases h
  | succ n ih =>
    unfold lp_X6_findParts_9 at h
    refine am_Go.n htb 2 (S' := (11, [some (.inr (.inr (some (6, 0)))), some (.inl x1), none, none], [.inr (.inr (some (6, 0))), .inl x1], am_mk m)) rfl ?_
    obtain ⟨r3, h4, h⟩ := am_bd h
    refine am_Go.cl htb rfl (ex_X6_everybody d (by omega)  m r3 h4) ?_
    show am_Go d 76 (14, [some (.inr (.inr (some (6, 0)))), some (.inl x1), none, none], [.inl r3, .inl x1], am_mk m) _ _ _ _
    by_cases hc5 : r3 < x1
    · rw [if_pos hc5] at h
      refine am_Go.c1 htb (S' := (97, [some (.inr (.inr (some (6, 0)))), some (.inl x1), none, none], [], am_mk m)) (if_pos hc5) ?_
      cases h
      exact am_Go.fg (by exact ⟨rfl, trivial⟩) hk
    · rw [if_neg hc5] at h
      refine am_Go.c1 htb (S' := (17, [some (.inr (.inr (some (6, 0)))), some (.inl x1), none, none], [], am_mk m)) (if_neg hc5) ?_
      refine am_Go.n htb 9 (S' := (28, [some (.inr (.inr (some (6, 0)))), some (.inl x1), some (.inl (x1 &&& (-x1))), none], [.inl 0, .inl x1, .inr (.inr (some (90, 0)))], am_mk m)) rfl ?_
      obtain ⟨hg6, h⟩ := am_ck_some h
      refine am_Go.o htb (am_o_zast) rfl (S' := (29, [some (.inr (.inr (some (6, 0)))), some (.inl x1), some (.inl (x1 &&& (-x1))), none], [], am_mk (am_si m 90 0 x1.toNatClampNeg 0))) (am_zs (by decide) (by decide) hg6) ?_
      refine am_Go.n htb 2 (S' := (31, [some (.inr (.inr (some (6, 0)))), some (.inl x1), some (.inl (x1 &&& (-x1))), some (.inl x1)], [], am_mk (am_si m 90 0 x1.toNatClampNeg 0))) rfl ?_
      obtain ⟨q21, h22, h⟩ := am_bd h
      refine lt_X6_findParts_31 _ hd (h := h22) (hk := ?_)
      refine am_Go.n htb 2 (S' := (9, [some (.inr (.inr (some (6, 0)))), some (.inl (x1 + 1)), some (.inl (x1 &&& (-x1))), none], [], am_mk q21)) rfl ?_
      refine am_Go.fg (L0 := [some (.inr (.inr (some (6, 0)))), some (.inl (x1 + 1)), none, none]) (by exact ⟨rfl, ⟨rfl, trivial⟩⟩) ?_
      first | exact ih h | exact ih h hk
set_option maxRecDepth 100000 in
theorem ex_X6_findParts (d : Nat) (hd : 3 ≤ d)  (m : am_m) (t : am_m) (h : fn_X6_findParts  m = some t) : am_Ex am_cod d 76 [.inr (.inr (some (6, 0)))] (am_mk m) (none) (am_mk t) 0 0 := by
  obtain ⟨d, rfl⟩ : ∃ e, d = e + 1 := ⟨d - 1, by omega⟩
  have htb : am_tab 76 = at_76 := rfl
  refine ⟨Nat.le_of_ble_eq_true rfl, ?_⟩
  unfold fn_X6_findParts at h
  show am_Go d 76 (0, [some (.inr (.inr (some (6, 0)))), none, none, none], [], am_mk m) _ _ 0 0
  refine am_Go.n htb 4 (S' := (6, [some (.inr (.inr (some (6, 0)))), none, none, none], [.inl 1, .inl 0, .inr (.inr (some (90, 0)))], am_mk m)) rfl ?_
  obtain ⟨hg1, h⟩ := am_ck_some h
  refine am_Go.o htb (am_o_zast) rfl (S' := (7, [some (.inr (.inr (some (6, 0)))), none, none, none], [], am_mk (am_si m 90 0 (0 : Int32).toNatClampNeg 1))) (am_zs (by decide) (by decide) hg1) ?_
  refine am_Go.n htb 2 (S' := (9, [some (.inr (.inr (some (6, 0)))), some (.inl 1), none, none], [], am_mk (am_si m 90 0 (0 : Int32).toNatClampNeg 1))) rfl ?_
  obtain ⟨q23, h24, h⟩ := am_bd h
  refine lt_X6_findParts_9 _ hd (h := h24) (hk := ?_)
  cases h
  exact am_Go.rt htb rfl
-- X6_fewestOut
set_option maxRecDepth 100000 in
theorem lt_X6_fewestOut_11 (d : Nat) (hd : 4 ≤ d + 1) {r : Option am_V} {M' : am_M} {kc ks : Nat} {n : Nat} {x1 : Int32} {x2 : Int32} {m : am_m} {t : Int32} (h : lp_X6_fewestOut_11 n x1 x2 m = some t) (hk : am_Go d 75 (56, [some (.inr (.inr (some (6, 0)))), some (.inl t), none, none], [], am_mk m) r M' kc ks) : am_Go d 75 (11, [some (.inr (.inr (some (6, 0)))), some (.inl x1), some (.inl x2), none], [], am_mk m) r M' kc ks := by
  have htb : am_tab 75 = at_75 := rfl
  induction n generalizing x1 x2 with
  | zero => cases h
  | succ n ih =>
    unfold lp_X6_fewestOut_11 at h
    refine am_Go.n htb 2 (S' := (13, [some (.inr (.inr (some (6, 0)))), some (.inl x1), some (.inl x2), none], [.inr (.inr (some (6, 0))), .inl x2], am_mk m)) rfl ?_
    obtain ⟨r5, h6, h⟩ := am_bd h
    refine am_Go.cl htb rfl (ex_X6_everybody d (by omega)  m r5 h6) ?_
    show am_Go d 75 (16, [some (.inr (.inr (some (6, 0)))), some (.inl x1), some (.inl x2), none], [.inl r5, .inl x2], am_mk m) _ _ _ _
    by_cases hc7 : r5 < x2
    · rw [if_pos hc7] at h
      refine am_Go.c1 htb (S' := (56, [some (.inr (.inr (some (6, 0)))), some (.inl x1), some (.inl x2), none], [], am_mk m)) (if_pos hc7) ?_
      cases h
      exact am_Go.fg (by exact ⟨rfl, ⟨rfl, trivial⟩⟩) hk
    · rw [if_neg hc7] at h
      refine am_Go.c1 htb (S' := (19, [some (.inr (.inr (some (6, 0)))), some (.inl x1), some (.inl x2), none], [], am_mk m)) (if_neg hc7) ?_
      refine am_Go.n htb 1 (S' := (20, [some (.inr (.inr (some (6, 0)))), some (.inl x1), some (.inl x2), none], [.inr (.inr (some (6, 0)))], am_mk m)) rfl ?_
      obtain ⟨r8, h9, h⟩ := am_bd h
      refine am_Go.cl htb rfl (ex_X6_everybody d (by omega)  m r8 h9) ?_
      show am_Go d 75 (23, [some (.inr (.inr (some (6, 0)))), some (.inl x1), some (.inl x2), none], [.inl r8], am_mk m) _ _ _ _
      refine am_Go.n htb 6 (S' := (29, [some (.inr (.inr (some (6, 0)))), some (.inl x1), some (.inl x2), some (.inl (r8 &&& (x2 ^^^ (-1 : Int32))))], [.inl x2], am_mk m)) rfl ?_
      obtain ⟨r10, h11, h⟩ := am_bd h
      refine am_Go.cl htb rfl (ex_J6_bitCount_0f7a4 d (by omega) x2 m r10 h11) ?_
      show am_Go d 75 (32, [some (.inr (.inr (some (6, 0)))), some (.inl x1), some (.inl x2), some (.inl (r8 &&& (x2 ^^^ (-1 : Int32))))], [.inl r10], am_mk m) _ _ _ _
      refine am_Go.n htb 1 (S' := (33, [some (.inr (.inr (some (6, 0)))), some (.inl x1), some (.inl x2), some (.inl (r8 &&& (x2 ^^^ (-1 : Int32))))], [.inl x1, .inl r10], am_mk m)) rfl ?_
      obtain ⟨r12, h13, h⟩ := am_bd h
      refine am_Go.cl htb rfl (ex_J6_bitCount_0f7a4 d (by omega) x1 m r12 h13) ?_
      show am_Go d 75 (36, [some (.inr (.inr (some (6, 0)))), some (.inl x1), some (.inl x2), some (.inl (r8 &&& (x2 ^^^ (-1 : Int32))))], [.inl r12, .inl r10], am_mk m) _ _ _ _
      obtain ⟨q17, h18, h⟩ := am_bd h
      refine am_Go.cut (S := (50, [some (.inr (.inr (some (6, 0)))), some (.inl q17), some (.inl x2), some (.inl (r8 &&& (x2 ^^^ (-1 : Int32))))], [], am_mk m)) ?_ (fun key => ?_)
      · refine am_Go.n htb 2 (S' := (11, [some (.inr (.inr (some (6, 0)))), some (.inl q17), some (.inl (x2 + 1)), some (.inl (r8 &&& (x2 ^^^ (-1 : Int32))))], [], am_mk m)) rfl ?_
        refine am_Go.fg (L0 := [some (.inr (.inr (some (6, 0)))), some (.inl q17), some (.inl (x2 + 1)), none]) (by exact ⟨rfl, ⟨rfl, ⟨rfl, trivial⟩⟩⟩) ?_
        first | exact ih h | exact ih h hk
      · have h := h18
        by_cases hc14 : r12 ≤ r10
        · rw [if_pos hc14] at h
          refine am_Go.c1 htb (S' := (50, [some (.inr (.inr (some (6, 0)))), some (.inl x1), some (.inl x2), some (.inl (r8 &&& (x2 ^^^ (-1 : Int32))))], [], am_mk m)) (if_pos hc14) ?_
          cases h
          exact am_Go.fg (by exact ⟨rfl, ⟨rfl, ⟨rfl, ⟨rfl, trivial⟩⟩⟩⟩) key
        · rw [if_neg hc14] at h
          refine am_Go.c1 htb (S' := (39, [some (.inr (.inr (some (6, 0)))), some (.inl x1), some (.inl x2), some (.inl (r8 &&& (x2 ^^^ (-1 : Int32))))], [], am_mk m)) (if_neg hc14) ?_
          refine am_Go.n htb 3 (S' := (44, [some (.inr (.inr (some (6, 0)))), some (.inl x1), some (.inl x2), some (.inl (r8 &&& (x2 ^^^ (-1 : Int32))))], [.inl (r8 &&& (x2 ^^^ (-1 : Int32))), .inr (.inr (some (90, 0)))], am_mk m)) rfl ?_
          obtain ⟨hg15, h⟩ := am_ck_some h
          refine am_Go.c1 htb (S' := (45, [some (.inr (.inr (some (6, 0)))), some (.inl x1), some (.inl x2), some (.inl (r8 &&& (x2 ^^^ (-1 : Int32))))], [.inl (m.1 90 0 (r8 &&& (x2 ^^^ (-1 : Int32))).toNatClampNeg)], am_mk m)) (if_neg hg15) ?_
          by_cases hc16 : (m.1 90 0 (r8 &&& (x2 ^^^ (-1 : Int32))).toNatClampNeg) = 0
          · rw [if_pos hc16] at h
            refine am_Go.c1 htb (S' := (50, [some (.inr (.inr (some (6, 0)))), some (.inl x1), some (.inl x2), some (.inl (r8 &&& (x2 ^^^ (-1 : Int32))))], [], am_mk m)) (if_pos hc16) ?_
            cases h
            exact am_Go.fg (by exact ⟨rfl, ⟨rfl, ⟨rfl, ⟨rfl, trivial⟩⟩⟩⟩) key
          · rw [if_neg hc16] at h
            refine am_Go.c1 htb (S' := (48, [some (.inr (.inr (some (6, 0)))), some (.inl x1), some (.inl x2), some (.inl (r8 &&& (x2 ^^^ (-1 : Int32))))], [], am_mk m)) (if_neg hc16) ?_
            refine am_Go.n htb 2 (S' := (50, [some (.inr (.inr (some (6, 0)))), some (.inl x2), some (.inl x2), some (.inl (r8 &&& (x2 ^^^ (-1 : Int32))))], [], am_mk m)) rfl ?_
            cases h
            exact am_Go.fg (by exact ⟨rfl, ⟨rfl, ⟨rfl, ⟨rfl, trivial⟩⟩⟩⟩) key
set_option maxRecDepth 100000 in
theorem ex_X6_fewestOut (d : Nat) (hd : 4 ≤ d)  (m : am_m) (t : Int32 × am_m) (h : fn_X6_fewestOut  m = some t) : am_Ex am_cod d 75 [.inr (.inr (some (6, 0)))] (am_mk m) (some (.inl t.1)) (am_mk t.2) 0 0 := by
  obtain ⟨d, rfl⟩ : ∃ e, d = e + 1 := ⟨d - 1, by omega⟩
  have htb : am_tab 75 = at_75 := rfl
  refine ⟨Nat.le_of_ble_eq_true rfl, ?_⟩
  unfold fn_X6_fewestOut at h
  show am_Go d 75 (0, [some (.inr (.inr (some (6, 0)))), none, none, none], [], am_mk m) _ _ 0 0
  refine am_Go.n htb 1 (S' := (1, [some (.inr (.inr (some (6, 0)))), none, none, none], [.inr (.inr (some (6, 0)))], am_mk m)) rfl ?_
  obtain ⟨r1, h2, h⟩ := am_bd h
  refine am_Go.cl htb rfl (ex_X6_findParts d (by omega)  m r1 h2) ?_
  show am_Go d 75 (4, [some (.inr (.inr (some (6, 0)))), none, none, none], [], am_mk r1) _ _ _ _
  refine am_Go.n htb 1 (S' := (5, [some (.inr (.inr (some (6, 0)))), none, none, none], [.inr (.inr (some (6, 0)))], am_mk r1)) rfl ?_
  obtain ⟨r3, h4, h⟩ := am_bd h
  refine am_Go.cl htb rfl (ex_X6_everybody d (by omega)  r1 r3 h4) ?_
  show am_Go d 75 (8, [some (.inr (.inr (some (6, 0)))), none, none, none], [.inl r3], am_mk r1) _ _ _ _
  refine am_Go.n htb 3 (S' := (11, [some (.inr (.inr (some (6, 0)))), some (.inl r3), some (.inl 0), none], [], am_mk r1)) rfl ?_
  obtain ⟨q19, h20, h⟩ := am_bd h
  refine lt_X6_fewestOut_11 _ hd (h := h20) (hk := ?_)
  refine am_Go.n htb 1 (S' := (57, [some (.inr (.inr (some (6, 0)))), some (.inl q19), none, none], [.inl q19], am_mk r1)) rfl ?_
  cases h
  exact am_Go.rt htb rfl
