-- X2_begin
set_option maxRecDepth 100000 in
theorem ex_X2_begin (d : Nat) (hd : 15 ≤ d)  (m : am_m) (t : am_m) (h : fn_X2_begin  m = some t) : am_Ex am_cod d 24 [.inr (.inr (some (2, 0))), .inr (.inr (some (6, 0)))] (am_mk m) (none) (am_mk t) 0 0 := by
  obtain ⟨d, rfl⟩ : ∃ e, d = e + 1 := ⟨d - 1, by omega⟩
  have htb : am_tab 24 = at_24 := rfl
  refine ⟨Nat.le_of_ble_eq_true rfl, ?_⟩
  unfold fn_X2_begin at h
  show am_Go d 24 (0, [some (.inr (.inr (some (2, 0)))), some (.inr (.inr (some (6, 0))))], [], am_mk m) _ _ 0 0
  refine am_Go.n htb 12 (S' := (18, [some (.inr (.inr (some (2, 0)))), some (.inr (.inr (some (6, 0))))], [.inl 0, .inl 0, .inl 0, .inr (.inr (some (6, 0))), .inr (.inr (some (2, 0)))], am_mk (am_si (am_si m 2 0 1 (m.1 6 0 0)) 2 0 2 (-1)))) rfl ?_
  obtain ⟨r1, h2, h⟩ := am_bd h
  refine am_Go.cl htb rfl (am_Ex_mono (by omega) (am_pl_ok 10 _ _ _ _ _ h2)) ?_
  show am_Go d 24 (21, [some (.inr (.inr (some (2, 0)))), some (.inr (.inr (some (6, 0))))], [], am_mk r1) _ _ _ _
  cases h
  exact am_Go.rt htb rfl
-- X2_intoTables
set_option maxRecDepth 100000 in
theorem ex_X2_intoTables (d : Nat) (hd : 16 ≤ d)  (m : am_m) (t : am_m) (h : fn_X2_intoTables  m = some t) : am_Ex am_cod d 21 [.inr (.inr (some (2, 0))), .inr (.inr (some (6, 0)))] (am_mk m) (none) (am_mk t) 0 0 := by
  obtain ⟨d, rfl⟩ : ∃ e, d = e + 1 := ⟨d - 1, by omega⟩
  have htb : am_tab 21 = at_21 := rfl
  refine ⟨Nat.le_of_ble_eq_true rfl, ?_⟩
  unfold fn_X2_intoTables at h
  show am_Go d 21 (0, [some (.inr (.inr (some (2, 0)))), some (.inr (.inr (some (6, 0))))], [], am_mk m) _ _ 0 0
  refine am_Go.n htb 5 (S' := (7, [some (.inr (.inr (some (2, 0)))), some (.inr (.inr (some (6, 0))))], [.inr (.inr (some (6, 0))), .inr (.inr (some (2, 0)))], am_mk (am_si m 2 0 0 1))) rfl ?_
  obtain ⟨r1, h2, h⟩ := am_bd h
  refine am_Go.cl htb rfl (ex_X2_begin d (by omega)  (am_si m 2 0 0 1) r1 h2) ?_
  show am_Go d 21 (10, [some (.inr (.inr (some (2, 0)))), some (.inr (.inr (some (6, 0))))], [], am_mk r1) _ _ _ _
  cases h
  exact am_Go.rt htb rfl
-- X2_intoSets
set_option maxRecDepth 100000 in
theorem ex_X2_intoSets (d : Nat) (hd : 16 ≤ d)  (m : am_m) (t : am_m) (h : fn_X2_intoSets  m = some t) : am_Ex am_cod d 22 [.inr (.inr (some (2, 0))), .inr (.inr (some (6, 0)))] (am_mk m) (none) (am_mk t) 0 0 := by
  obtain ⟨d, rfl⟩ : ∃ e, d = e + 1 := ⟨d - 1, by omega⟩
  have htb : am_tab 22 = at_22 := rfl
  refine ⟨Nat.le_of_ble_eq_true rfl, ?_⟩
  unfold fn_X2_intoSets at h
  show am_Go d 22 (0, [some (.inr (.inr (some (2, 0)))), some (.inr (.inr (some (6, 0))))], [], am_mk m) _ _ 0 0
  refine am_Go.n htb 5 (S' := (7, [some (.inr (.inr (some (2, 0)))), some (.inr (.inr (some (6, 0))))], [.inr (.inr (some (6, 0))), .inr (.inr (some (2, 0)))], am_mk (am_si m 2 0 0 0))) rfl ?_
  obtain ⟨r1, h2, h⟩ := am_bd h
  refine am_Go.cl htb rfl (ex_X2_begin d (by omega)  (am_si m 2 0 0 0) r1 h2) ?_
  show am_Go d 22 (10, [some (.inr (.inr (some (2, 0)))), some (.inr (.inr (some (6, 0))))], [], am_mk r1) _ _ _ _
  cases h
  exact am_Go.rt htb rfl
-- X2_answer
set_option maxRecDepth 100000 in
theorem ex_X2_answer (d : Nat) (hd : 1 ≤ d) (a1 : Int32) (m : am_m) (t : Int32) (h : fn_X2_answer a1 m = some t) : am_Ex am_cod d 23 [.inr (.inr (some (2, 0))), .inl a1] (am_mk m) (some (.inl t)) (am_mk m) 0 0 := by
  obtain ⟨d, rfl⟩ : ∃ e, d = e + 1 := ⟨d - 1, by omega⟩
  have htb : am_tab 23 = at_23 := rfl
  refine ⟨Nat.le_of_ble_eq_true rfl, ?_⟩
  unfold fn_X2_answer at h
  show am_Go d 23 (0, [some (.inr (.inr (some (2, 0)))), some (.inl a1)], [], am_mk m) _ _ 0 0
  refine am_Go.n htb 3 (S' := (5, [some (.inr (.inr (some (2, 0)))), some (.inl a1)], [.inl (-1), .inl (m.1 2 0 2)], am_mk m)) rfl ?_
  by_cases hc1 : (m.1 2 0 2) = (-1 : Int32)
  · rw [if_pos hc1] at h
    refine am_Go.c1 htb (S' := (20, [some (.inr (.inr (some (2, 0)))), some (.inl a1)], [], am_mk m)) (if_pos hc1) ?_
    refine am_Go.n htb 1 (S' := (21, [some (.inr (.inr (some (2, 0)))), some (.inl a1)], [.inl (-1)], am_mk m)) rfl ?_
    cases h
    exact am_Go.rt htb rfl
  · rw [if_neg hc1] at h
    refine am_Go.c1 htb (S' := (8, [some (.inr (.inr (some (2, 0)))), some (.inl a1)], [], am_mk m)) (if_neg hc1) ?_
    refine am_Go.n htb 1 (S' := (9, [some (.inr (.inr (some (2, 0)))), some (.inl a1)], [.inl a1], am_mk m)) rfl ?_
    by_cases hc2 : a1 < 0
    · rw [if_pos hc2] at h
      refine am_Go.c1 htb (S' := (20, [some (.inr (.inr (some (2, 0)))), some (.inl a1)], [], am_mk m)) (if_pos hc2) ?_
      refine am_Go.n htb 1 (S' := (21, [some (.inr (.inr (some (2, 0)))), some (.inl a1)], [.inl (-1)], am_mk m)) rfl ?_
      cases h
      exact am_Go.rt htb rfl
    · rw [if_neg hc2] at h
      refine am_Go.c1 htb (S' := (12, [some (.inr (.inr (some (2, 0)))), some (.inl a1)], [], am_mk m)) (if_neg hc2) ?_
      refine am_Go.n htb 3 (S' := (17, [some (.inr (.inr (some (2, 0)))), some (.inl a1)], [.inl (m.1 2 0 1), .inl a1], am_mk m)) rfl ?_
      by_cases hc3 : a1 ≤ (m.1 2 0 1)
      · rw [if_pos hc3] at h
        refine am_Go.c1 htb (S' := (22, [some (.inr (.inr (some (2, 0)))), some (.inl a1)], [], am_mk m)) (if_pos hc3) ?_
        refine am_Go.n htb 1 (S' := (23, [some (.inr (.inr (some (2, 0)))), some (.inl a1)], [.inl a1], am_mk m)) rfl ?_
        by_cases hc4 : a1 ≠ 0
        · rw [if_pos hc4] at h
          refine am_Go.c1 htb (S' := (33, [some (.inr (.inr (some (2, 0)))), some (.inl a1)], [], am_mk m)) (if_pos hc4) ?_
          refine am_Go.n htb 5 (S' := (40, [some (.inr (.inr (some (2, 0)))), some (.inl a1)], [.inl (a1 - (1 : Int32)), .inr (.inr (some (23, 0)))], am_mk m)) rfl ?_
          obtain ⟨hg5, h⟩ := am_ck_some h
          refine am_Go.c1 htb (S' := (41, [some (.inr (.inr (some (2, 0)))), some (.inl a1)], [.inl (m.1 23 0 (a1 - (1 : Int32)).toNatClampNeg)], am_mk m)) (if_neg hg5) ?_
          cases h
          exact am_Go.rt htb rfl
        · rw [if_neg hc4] at h
          refine am_Go.c1 htb (S' := (26, [some (.inr (.inr (some (2, 0)))), some (.inl a1)], [], am_mk m)) (if_neg hc4) ?_
          refine am_Go.n htb 3 (S' := (41, [some (.inr (.inr (some (2, 0)))), some (.inl a1)], [.inl (m.1 2 0 2)], am_mk m)) rfl ?_
          cases h
          exact am_Go.rt htb rfl
      · rw [if_neg hc3] at h
        refine am_Go.c1 htb (S' := (20, [some (.inr (.inr (some (2, 0)))), some (.inl a1)], [], am_mk m)) (if_neg hc3) ?_
        refine am_Go.n htb 1 (S' := (21, [some (.inr (.inr (some (2, 0)))), some (.inl a1)], [.inl (-1)], am_mk m)) rfl ?_
        cases h
        exact am_Go.rt htb rfl
-- X3_clear
set_option maxRecDepth 100000 in
theorem ex_X3_clear (d : Nat) (hd : 1 ≤ d) (a0 : Nat) (m : am_m) (t : am_m) (h : fn_X3_clear a0 m = some t) : am_Ex am_cod d 29 [.inr (.inr (some (3, a0)))] (am_mk m) (none) (am_mk t) 0 0 := by
  obtain ⟨d, rfl⟩ : ∃ e, d = e + 1 := ⟨d - 1, by omega⟩
  have htb : am_tab 29 = at_29 := rfl
  refine ⟨Nat.le_of_ble_eq_true rfl, ?_⟩
  unfold fn_X3_clear at h
  show am_Go d 29 (0, [some (.inr (.inr (some (3, a0))))], [], am_mk m) _ _ 0 0
  refine am_Go.n htb 3 (S' := (5, [some (.inr (.inr (some (3, a0))))], [], am_mk (am_si m 3 a0 1 0))) rfl ?_
  cases h
  exact am_Go.rt htb rfl
-- X3_become
set_option maxRecDepth 100000 in
theorem ex_X3_become (d : Nat) (hd : 1 ≤ d) (a0 : Nat) (a1 : Nat) (m : am_m) (t : am_m) (h : fn_X3_become a0 a1 m = some t) : am_Ex am_cod d 30 [.inr (.inr (some (3, a0))), .inr (.inr (some (3, a1)))] (am_mk m) (none) (am_mk t) 0 0 := by
  obtain ⟨d, rfl⟩ : ∃ e, d = e + 1 := ⟨d - 1, by omega⟩
  have htb : am_tab 30 = at_30 := rfl
  refine ⟨Nat.le_of_ble_eq_true rfl, ?_⟩
  unfold fn_X3_become at h
  show am_Go d 30 (0, [some (.inr (.inr (some (3, a0)))), some (.inr (.inr (some (3, a1))))], [], am_mk m) _ _ 0 0
  refine am_Go.n htb 11 (S' := (21, [some (.inr (.inr (some (3, a0)))), some (.inr (.inr (some (3, a1))))], [.inl 208, .inl 0, .inr (.inr (some (24, a0))), .inl 0, .inr (.inr (some (24, a1)))], am_mk (am_si m 3 a0 1 (m.1 3 a1 1)))) rfl ?_
  obtain ⟨hz1, h⟩ := am_gd_some h
  refine am_Go.c1 htb (S' := (24, [some (.inr (.inr (some (3, a0)))), some (.inr (.inr (some (3, a1))))], [], am_mk (am_sc (am_si m 3 a0 1 (m.1 3 a1 1)) 24 a1 24 a0 (0 : Int32).toNatClampNeg (0 : Int32).toNatClampNeg (208 : Int32).toNatClampNeg))) (by first | exact if_neg hz1 | rfl) ?_
  cases h
  exact am_Go.rt htb rfl
-- X3_forgetOldest
set_option maxRecDepth 100000 in
theorem lt_X3_forgetOldest_3 (d : Nat) (hd : 1 ≤ d + 1) {r : Option am_V} {M' : am_M} {kc ks : Nat} {n : Nat} {x0 : Nat} {x1 : Int32} {m : am_m} {t : am_m} (h : lp_X3_forgetOldest_3 n x0 x1 m = some t) (hk : am_Go d 32 (31, [some (.inr (.inr (some (3, x0)))), none], [], am_mk t) r M' kc ks) : am_Go d 32 (3, [some (.inr (.inr (some (3, x0)))), some (.inl x1)], [], am_mk m) r M' kc ks := by
  have htb : am_tab 32 = at_32 := rfl
  induction n generalizing x1 m with
  | zero => cases h
  | succ n ih =>
    unfold lp_X3_forgetOldest_3 at h
    refine am_Go.n htb 2 (S' := (7, [some (.inr (.inr (some (3, x0)))), some (.inl x1)], [.inl 208, .inl x1], am_mk m)) rfl ?_
    by_cases hc1 : (208 : Int32) ≤ x1
    · rw [if_pos hc1] at h
      refine am_Go.c1 htb (S' := (31, [some (.inr (.inr (some (3, x0)))), some (.inl x1)], [], am_mk m)) (if_pos hc1) ?_
      cases h
      exact am_Go.fg (by exact ⟨rfl, trivial⟩) hk
    · rw [if_neg hc1] at h
      refine am_Go.c1 htb (S' := (10, [some (.inr (.inr (some (3, x0)))), some (.inl x1)], [], am_mk m)) (if_neg hc1) ?_
      refine am_Go.n htb 8 (S' := (23, [some (.inr (.inr (some (3, x0)))), some (.inl x1)], [.inl x1, .inr (.inr (some (24, x0))), .inl (x1 - (13 : Int32)), .inr (.inr (some (24, x0)))], am_mk m)) rfl ?_
      obtain ⟨hg2, h⟩ := am_ck_some h
      refine am_Go.c1 htb (S' := (24, [some (.inr (.inr (some (3, x0)))), some (.inl x1)], [.inl (m.1 24 x0 x1.toNatClampNeg), .inl (x1 - (13 : Int32)), .inr (.inr (some (24, x0)))], am_mk m)) (if_neg hg2) ?_
      obtain ⟨hg3, h⟩ := am_ck_some h
      refine am_Go.c1 htb (S' := (25, [some (.inr (.inr (some (3, x0)))), some (.inl x1)], [], am_mk (am_si m 24 x0 (x1 - (13 : Int32)).toNatClampNeg (m.1 24 x0 x1.toNatClampNeg)))) (if_neg hg3) ?_
      refine am_Go.n htb 2 (S' := (3, [some (.inr (.inr (some (3, x0)))), some (.inl (x1 + 1))], [], am_mk (am_si m 24 x0 (x1 - (13 : Int32)).toNatClampNeg (m.1 24 x0 x1.toNatClampNeg)))) rfl ?_
      first | exact ih h | exact ih h hk
set_option maxRecDepth 100000 in
theorem ex_X3_forgetOldest (d : Nat) (hd : 1 ≤ d) (a0 : Nat) (m : am_m) (t : am_m) (h : fn_X3_forgetOldest a0 m = some t) : am_Ex am_cod d 32 [.inr (.inr (some (3, a0)))] (am_mk m) (none) (am_mk t) 0 0 := by
  obtain ⟨d, rfl⟩ : ∃ e, d = e + 1 := ⟨d - 1, by omega⟩
  have htb : am_tab 32 = at_32 := rfl
  refine ⟨Nat.le_of_ble_eq_true rfl, ?_⟩
  unfold fn_X3_forgetOldest at h
  show am_Go d 32 (0, [some (.inr (.inr (some (3, a0)))), none], [], am_mk m) _ _ 0 0
  refine am_Go.n htb 2 (S' := (3, [some (.inr (.inr (some (3, a0)))), some (.inl 13)], [], am_mk m)) rfl ?_
  obtain ⟨q4, h5, h⟩ := am_bd h
  refine lt_X3_forgetOldest_3 _ hd (h := h5) (hk := ?_)
  refine am_Go.n htb 3 (S' := (37, [some (.inr (.inr (some (3, a0)))), none], [], am_mk (am_si q4 3 a0 1 15))) rfl ?_
  cases h
  exact am_Go.rt htb rfl
-- X8_weightOf
set_option maxRecDepth 100000 in
theorem ex_X8_weightOf (d : Nat) (hd : 2 ≤ d) (a0 : Nat) (a1 : Int32) (a2 : Int32) (m : am_m) (t : Int32) (h : fn_X8_weightOf a0 a1 a2 m = some t) : am_Ex am_cod d 104 [.inr (.inr (some (8, a0))), .inl a1, .inl a2] (am_mk m) (some (.inl t)) (am_mk m) 0 0 := by
  obtain ⟨d, rfl⟩ : ∃ e, d = e + 1 := ⟨d - 1, by omega⟩
  have htb : am_tab 104 = at_104 := rfl
  refine ⟨Nat.le_of_ble_eq_true rfl, ?_⟩
  unfold fn_X8_weightOf at h
  show am_Go d 104 (0, [some (.inr (.inr (some (8, a0)))), some (.inl a1), some (.inl a2)], [], am_mk m) _ _ 0 0
  refine am_Go.n htb 3 (S' := (3, [some (.inr (.inr (some (8, a0)))), some (.inl a1), some (.inl a2)], [.inl a2, .inl a1, .inr (.inr (some (8, a0)))], am_mk m)) rfl ?_
  obtain ⟨r1, h2, h⟩ := am_bd h
  refine am_Go.cl htb rfl (ex_X8_hasTwo d (by omega) a0 a1 a2 m r1 h2) ?_
  show am_Go d 104 (6, [some (.inr (.inr (some (8, a0)))), some (.inl a1), some (.inl a2)], [.inl r1], am_mk m) _ _ _ _
  by_cases hc3 : r1 = 0
  · rw [if_pos hc3] at h
    refine am_Go.c1 htb (S' := (23, [some (.inr (.inr (some (8, a0)))), some (.inl a1), some (.inl a2)], [], am_mk m)) (if_pos hc3) ?_
    refine am_Go.n htb 1 (S' := (24, [some (.inr (.inr (some (8, a0)))), some (.inl a1), some (.inl a2)], [.inl 0], am_mk m)) rfl ?_
    cases h
    exact am_Go.rt htb rfl
  · rw [if_neg hc3] at h
    refine am_Go.c1 htb (S' := (9, [some (.inr (.inr (some (8, a0)))), some (.inl a1), some (.inl a2)], [], am_mk m)) (if_neg hc3) ?_
    refine am_Go.n htb 7 (S' := (19, [some (.inr (.inr (some (8, a0)))), some (.inl a1), some (.inl a2)], [.inl ((a1 * (7 : Int32)) + a2), .inr (.inr (some (37, a0)))], am_mk m)) rfl ?_
    obtain ⟨hg4, h⟩ := am_ck_some h
    refine am_Go.c1 htb (S' := (20, [some (.inr (.inr (some (8, a0)))), some (.inl a1), some (.inl a2)], [.inl (m.1 37 a0 ((a1 * (7 : Int32)) + a2).toNatClampNeg)], am_mk m)) (if_neg hg4) ?_
    refine am_Go.n htb 1 (S' := (24, [some (.inr (.inr (some (8, a0)))), some (.inl a1), some (.inl a2)], [.inl (m.1 37 a0 ((a1 * (7 : Int32)) + a2).toNatClampNeg)], am_mk m)) rfl ?_
    cases h
    exact am_Go.rt htb rfl
-- X8_sinceOf
set_option maxRecDepth 100000 in
theorem ex_X8_sinceOf (d : Nat) (hd : 2 ≤ d) (a0 : Nat) (a1 : Int32) (a2 : Int32) (m : am_m) (t : Int32) (h : fn_X8_sinceOf a0 a1 a2 m = some t) : am_Ex am_cod d 105 [.inr (.inr (some (8, a0))), .inl a1, .inl a2] (am_mk m) (some (.inl t)) (am_mk m) 0 0 := by
  obtain ⟨d, rfl⟩ : ∃ e, d = e + 1 := ⟨d - 1, by omega⟩
  have htb : am_tab 105 = at_105 := rfl
  refine ⟨Nat.le_of_ble_eq_true rfl, ?_⟩
  unfold fn_X8_sinceOf at h
  show am_Go d 105 (0, [some (.inr (.inr (some (8, a0)))), some (.inl a1), some (.inl a2)], [], am_mk m) _ _ 0 0
  refine am_Go.n htb 3 (S' := (3, [some (.inr (.inr (some (8, a0)))), some (.inl a1), some (.inl a2)], [.inl a2, .inl a1, .inr (.inr (some (8, a0)))], am_mk m)) rfl ?_
  obtain ⟨r1, h2, h⟩ := am_bd h
  refine am_Go.cl htb rfl (ex_X8_hasTwo d (by omega) a0 a1 a2 m r1 h2) ?_
  show am_Go d 105 (6, [some (.inr (.inr (some (8, a0)))), some (.inl a1), some (.inl a2)], [.inl r1], am_mk m) _ _ _ _
  by_cases hc3 : r1 = 0
  · rw [if_pos hc3] at h
    refine am_Go.c1 htb (S' := (23, [some (.inr (.inr (some (8, a0)))), some (.inl a1), some (.inl a2)], [], am_mk m)) (if_pos hc3) ?_
    refine am_Go.n htb 1 (S' := (24, [some (.inr (.inr (some (8, a0)))), some (.inl a1), some (.inl a2)], [.inl 0], am_mk m)) rfl ?_
    cases h
    exact am_Go.rt htb rfl
  · rw [if_neg hc3] at h
    refine am_Go.c1 htb (S' := (9, [some (.inr (.inr (some (8, a0)))), some (.inl a1), some (.inl a2)], [], am_mk m)) (if_neg hc3) ?_
    refine am_Go.n htb 7 (S' := (19, [some (.inr (.inr (some (8, a0)))), some (.inl a1), some (.inl a2)], [.inl ((a1 * (7 : Int32)) + a2), .inr (.inr (some (38, a0)))], am_mk m)) rfl ?_
    obtain ⟨hg4, h⟩ := am_ck_some h
    refine am_Go.c1 htb (S' := (20, [some (.inr (.inr (some (8, a0)))), some (.inl a1), some (.inl a2)], [.inl (m.1 38 a0 ((a1 * (7 : Int32)) + a2).toNatClampNeg)], am_mk m)) (if_neg hg4) ?_
    refine am_Go.n htb 1 (S' := (24, [some (.inr (.inr (some (8, a0)))), some (.inl a1), some (.inl a2)], [.inl (m.1 38 a0 ((a1 * (7 : Int32)) + a2).toNatClampNeg)], am_mk m)) rfl ?_
    cases h
    exact am_Go.rt htb rfl
-- X3_keep
set_option maxRecDepth 100000 in
theorem ex_X3_keep (d : Nat) (hd : 3 ≤ d) (a0 : Nat) (a1 : Int32) (a2 : Int32) (a3 : Int32) (a4 : Nat) (m : am_m) (t : am_m) (h : fn_X3_keep a0 a1 a2 a3 a4 m = some t) : am_Ex am_cod d 31 [.inr (.inr (some (3, a0))), .inl a1, .inl a2, .inl a3, .inr (.inr (some (8, a4)))] (am_mk m) (none) (am_mk t) 0 0 := by
  obtain ⟨d, rfl⟩ : ∃ e, d = e + 1 := ⟨d - 1, by omega⟩
  have htb : am_tab 31 = at_31 := rfl
  refine ⟨Nat.le_of_ble_eq_true rfl, ?_⟩
  unfold fn_X3_keep at h
  show am_Go d 31 (0, [some (.inr (.inr (some (3, a0)))), some (.inl a1), some (.inl a2), some (.inl a3), some (.inr (.inr (some (8, a4)))), none], [], am_mk m) _ _ 0 0
  refine am_Go.n htb 3 (S' := (6, [some (.inr (.inr (some (3, a0)))), some (.inl a1), some (.inl a2), some (.inl a3), some (.inr (.inr (some (8, a4)))), none], [.inl 16, .inl (m.1 3 a0 1)], am_mk m)) rfl ?_
  obtain ⟨q4, h16, h⟩ := am_bd h
  refine am_Go.cut (S := (13, [some (.inr (.inr (some (3, a0)))), some (.inl a1), some (.inl a2), some (.inl a3), some (.inr (.inr (some (8, a4)))), none], [], am_mk q4)) ?_ (fun key => ?_)
  · refine am_Go.n htb 11 (S' := (31, [some (.inr (.inr (some (3, a0)))), some (.inl a1), some (.inl a2), some (.inl a3), some (.inr (.inr (some (8, a4)))), some (.inl ((q4.1 3 a0 1) * (13 : Int32)))], [.inl a1, .inl (((q4.1 3 a0 1) * (13 : Int32)) + (0 : Int32)), .inr (.inr (some (24, a0)))], am_mk q4)) rfl ?_
    obtain ⟨hg5, h⟩ := am_ck_some h
    refine am_Go.c1 htb (S' := (32, [some (.inr (.inr (some (3, a0)))), some (.inl a1), some (.inl a2), some (.inl a3), some (.inr (.inr (some (8, a4)))), some (.inl ((q4.1 3 a0 1) * (13 : Int32)))], [], am_mk (am_si q4 24 a0 (((q4.1 3 a0 1) * (13 : Int32)) + (0 : Int32)).toNatClampNeg a1))) (if_neg hg5) ?_
    refine am_Go.n htb 6 (S' := (41, [some (.inr (.inr (some (3, a0)))), some (.inl a1), some (.inl a2), some (.inl a3), some (.inr (.inr (some (8, a4)))), some (.inl ((q4.1 3 a0 1) * (13 : Int32)))], [.inl a2, .inl (((q4.1 3 a0 1) * (13 : Int32)) + (1 : Int32)), .inr (.inr (some (24, a0)))], am_mk (am_si q4 24 a0 (((q4.1 3 a0 1) * (13 : Int32)) + (0 : Int32)).toNatClampNeg a1))) rfl ?_
    obtain ⟨hg6, h⟩ := am_ck_some h
    refine am_Go.c1 htb (S' := (42, [some (.inr (.inr (some (3, a0)))), some (.inl a1), some (.inl a2), some (.inl a3), some (.inr (.inr (some (8, a4)))), some (.inl ((q4.1 3 a0 1) * (13 : Int32)))], [], am_mk (am_si (am_si q4 24 a0 (((q4.1 3 a0 1) * (13 : Int32)) + (0 : Int32)).toNatClampNeg a1) 24 a0 (((q4.1 3 a0 1) * (13 : Int32)) + (1 : Int32)).toNatClampNeg a2))) (if_neg hg6) ?_
    refine am_Go.n htb 6 (S' := (51, [some (.inr (.inr (some (3, a0)))), some (.inl a1), some (.inl a2), some (.inl a3), some (.inr (.inr (some (8, a4)))), some (.inl ((q4.1 3 a0 1) * (13 : Int32)))], [.inl a3, .inl (((q4.1 3 a0 1) * (13 : Int32)) + (2 : Int32)), .inr (.inr (some (24, a0)))], am_mk (am_si (am_si q4 24 a0 (((q4.1 3 a0 1) * (13 : Int32)) + (0 : Int32)).toNatClampNeg a1) 24 a0 (((q4.1 3 a0 1) * (13 : Int32)) + (1 : Int32)).toNatClampNeg a2))) rfl ?_
    obtain ⟨hg7, h⟩ := am_ck_some h
    refine am_Go.c1 htb (S' := (52, [some (.inr (.inr (some (3, a0)))), some (.inl a1), some (.inl a2), some (.inl a3), some (.inr (.inr (some (8, a4)))), some (.inl ((q4.1 3 a0 1) * (13 : Int32)))], [], am_mk (am_si (am_si (am_si q4 24 a0 (((q4.1 3 a0 1) * (13 : Int32)) + (0 : Int32)).toNatClampNeg a1) 24 a0 (((q4.1 3 a0 1) * (13 : Int32)) + (1 : Int32)).toNatClampNeg a2) 24 a0 (((q4.1 3 a0 1) * (13 : Int32)) + (2 : Int32)).toNatClampNeg a3))) (if_neg hg7) ?_
    refine am_Go.n htb 8 (S' := (64, [some (.inr (.inr (some (3, a0)))), some (.inl a1), some (.inl a2), some (.inl a3), some (.inr (.inr (some (8, a4)))), some (.inl ((q4.1 3 a0 1) * (13 : Int32)))], [.inl a3, .inl a2, .inr (.inr (some (8, a4))), .inl (((q4.1 3 a0 1) * (13 : Int32)) + (3 : Int32)), .inr (.inr (some (24, a0)))], am_mk (am_si (am_si (am_si q4 24 a0 (((q4.1 3 a0 1) * (13 : Int32)) + (0 : Int32)).toNatClampNeg a1) 24 a0 (((q4.1 3 a0 1) * (13 : Int32)) + (1 : Int32)).toNatClampNeg a2) 24 a0 (((q4.1 3 a0 1) * (13 : Int32)) + (2 : Int32)).toNatClampNeg a3))) rfl ?_
    obtain ⟨r8, h9, h⟩ := am_bd h
    refine am_Go.cl htb rfl (ex_X8_weightOf d (by omega) a4 a2 a3 (am_si (am_si (am_si q4 24 a0 (((q4.1 3 a0 1) * (13 : Int32)) + (0 : Int32)).toNatClampNeg a1) 24 a0 (((q4.1 3 a0 1) * (13 : Int32)) + (1 : Int32)).toNatClampNeg a2) 24 a0 (((q4.1 3 a0 1) * (13 : Int32)) + (2 : Int32)).toNatClampNeg a3) r8 h9) ?_
    show am_Go d 31 (67, [some (.inr (.inr (some (3, a0)))), some (.inl a1), some (.inl a2), some (.inl a3), some (.inr (.inr (some (8, a4)))), some (.inl ((q4.1 3 a0 1) * (13 : Int32)))], [.inl r8, .inl (((q4.1 3 a0 1) * (13 : Int32)) + (3 : Int32)), .inr (.inr (some (24, a0)))], am_mk (am_si (am_si (am_si q4 24 a0 (((q4.1 3 a0 1) * (13 : Int32)) + (0 : Int32)).toNatClampNeg a1) 24 a0 (((q4.1 3 a0 1) * (13 : Int32)) + (1 : Int32)).toNatClampNeg a2) 24 a0 (((q4.1 3 a0 1) * (13 : Int32)) + (2 : Int32)).toNatClampNeg a3)) _ _ _ _
    obtain ⟨hg10, h⟩ := am_ck_some h
    refine am_Go.c1 htb (S' := (68, [some (.inr (.inr (some (3, a0)))), some (.inl a1), some (.inl a2), some (.inl a3), some (.inr (.inr (some (8, a4)))), some (.inl ((q4.1 3 a0 1) * (13 : Int32)))], [], am_mk (am_si (am_si (am_si (am_si q4 24 a0 (((q4.1 3 a0 1) * (13 : Int32)) + (0 : Int32)).toNatClampNeg a1) 24 a0 (((q4.1 3 a0 1) * (13 : Int32)) + (1 : Int32)).toNatClampNeg a2) 24 a0 (((q4.1 3 a0 1) * (13 : Int32)) + (2 : Int32)).toNatClampNeg a3) 24 a0 (((q4.1 3 a0 1) * (13 : Int32)) + (3 : Int32)).toNatClampNeg r8))) (if_neg hg10) ?_
    refine am_Go.n htb 8 (S' := (80, [some (.inr (.inr (some (3, a0)))), some (.inl a1), some (.inl a2), some (.inl a3), some (.inr (.inr (some (8, a4)))), some (.inl ((q4.1 3 a0 1) * (13 : Int32)))], [.inl a3, .inl a2, .inr (.inr (some (8, a4))), .inl (((q4.1 3 a0 1) * (13 : Int32)) + (4 : Int32)), .inr (.inr (some (24, a0)))], am_mk (am_si (am_si (am_si (am_si q4 24 a0 (((q4.1 3 a0 1) * (13 : Int32)) + (0 : Int32)).toNatClampNeg a1) 24 a0 (((q4.1 3 a0 1) * (13 : Int32)) + (1 : Int32)).toNatClampNeg a2) 24 a0 (((q4.1 3 a0 1) * (13 : Int32)) + (2 : Int32)).toNatClampNeg a3) 24 a0 (((q4.1 3 a0 1) * (13 : Int32)) + (3 : Int32)).toNatClampNeg r8))) rfl ?_
    obtain ⟨r11, h12, h⟩ := am_bd h
    refine am_Go.cl htb rfl (ex_X8_sinceOf d (by omega) a4 a2 a3 (am_si (am_si (am_si (am_si q4 24 a0 (((q4.1 3 a0 1) * (13 : Int32)) + (0 : Int32)).toNatClampNeg a1) 24 a0 (((q4.1 3 a0 1) * (13 : Int32)) + (1 : Int32)).toNatClampNeg a2) 24 a0 (((q4.1 3 a0 1) * (13 : Int32)) + (2 : Int32)).toNatClampNeg a3) 24 a0 (((q4.1 3 a0 1) * (13 : Int32)) + (3 : Int32)).toNatClampNeg r8) r11 h12) ?_
    show am_Go d 31 (83, [some (.inr (.inr (some (3, a0)))), some (.inl a1), some (.inl a2), some (.inl a3), some (.inr (.inr (some (8, a4)))), some (.inl ((q4.1 3 a0 1) * (13 : Int32)))], [.inl r11, .inl (((q4.1 3 a0 1) * (13 : Int32)) + (4 : Int32)), .inr (.inr (some (24, a0)))], am_mk (am_si (am_si (am_si (am_si q4 24 a0 (((q4.1 3 a0 1) * (13 : Int32)) + (0 : Int32)).toNatClampNeg a1) 24 a0 (((q4.1 3 a0 1) * (13 : Int32)) + (1 : Int32)).toNatClampNeg a2) 24 a0 (((q4.1 3 a0 1) * (13 : Int32)) + (2 : Int32)).toNatClampNeg a3) 24 a0 (((q4.1 3 a0 1) * (13 : Int32)) + (3 : Int32)).toNatClampNeg r8)) _ _ _ _
    obtain ⟨hg13, h⟩ := am_ck_some h
    refine am_Go.c1 htb (S' := (84, [some (.inr (.inr (some (3, a0)))), some (.inl a1), some (.inl a2), some (.inl a3), some (.inr (.inr (some (8, a4)))), some (.inl ((q4.1 3 a0 1) * (13 : Int32)))], [], am_mk (am_si (am_si (am_si (am_si (am_si q4 24 a0 (((q4.1 3 a0 1) * (13 : Int32)) + (0 : Int32)).toNatClampNeg a1) 24 a0 (((q4.1 3 a0 1) * (13 : Int32)) + (1 : Int32)).toNatClampNeg a2) 24 a0 (((q4.1 3 a0 1) * (13 : Int32)) + (2 : Int32)).toNatClampNeg a3) 24 a0 (((q4.1 3 a0 1) * (13 : Int32)) + (3 : Int32)).toNatClampNeg r8) 24 a0 (((q4.1 3 a0 1) * (13 : Int32)) + (4 : Int32)).toNatClampNeg r11))) (if_neg hg13) ?_
    refine am_Go.n htb 9 (S' := (99, [some (.inr (.inr (some (3, a0)))), some (.inl a1), some (.inl a2), some (.inl a3), some (.inr (.inr (some (8, a4)))), some (.inl ((q4.1 3 a0 1) * (13 : Int32)))], [.inl (q4.1 39 a4 0), .inl (((q4.1 3 a0 1) * (13 : Int32)) + (5 : Int32)), .inr (.inr (some (24, a0)))], am_mk (am_si (am_si (am_si (am_si (am_si q4 24 a0 (((q4.1 3 a0 1) * (13 : Int32)) + (0 : Int32)).toNatClampNeg a1) 24 a0 (((q4.1 3 a0 1) * (13 : Int32)) + (1 : Int32)).toNatClampNeg a2) 24 a0 (((q4.1 3 a0 1) * (13 : Int32)) + (2 : Int32)).toNatClampNeg a3) 24 a0 (((q4.1 3 a0 1) * (13 : Int32)) + (3 : Int32)).toNatClampNeg r8) 24 a0 (((q4.1 3 a0 1) * (13 : Int32)) + (4 : Int32)).toNatClampNeg r11))) rfl ?_
    obtain ⟨hg14, h⟩ := am_ck_some h
    refine am_Go.c1 htb (S' := (100, [some (.inr (.inr (some (3, a0)))), some (.inl a1), some (.inl a2), some (.inl a3), some (.inr (.inr (some (8, a4)))), some (.inl ((q4.1 3 a0 1) * (13 : Int32)))], [], am_mk (am_si (am_si (am_si (am_si (am_si (am_si q4 24 a0 (((q4.1 3 a0 1) * (13 : Int32)) + (0 : Int32)).toNatClampNeg a1) 24 a0 (((q4.1 3 a0 1) * (13 : Int32)) + (1 : Int32)).toNatClampNeg a2) 24 a0 (((q4.1 3 a0 1) * (13 : Int32)) + (2 : Int32)).toNatClampNeg a3) 24 a0 (((q4.1 3 a0 1) * (13 : Int32)) + (3 : Int32)).toNatClampNeg r8) 24 a0 (((q4.1 3 a0 1) * (13 : Int32)) + (4 : Int32)).toNatClampNeg r11) 24 a0 (((q4.1 3 a0 1) * (13 : Int32)) + (5 : Int32)).toNatClampNeg (q4.1 39 a4 0)))) (if_neg hg14) ?_
    refine am_Go.n htb 9 (S' := (117, [some (.inr (.inr (some (3, a0)))), some (.inl a1), some (.inl a2), some (.inl a3), some (.inr (.inr (some (8, a4)))), some (.inl ((q4.1 3 a0 1) * (13 : Int32)))], [.inl 7, .inl (((q4.1 3 a0 1) * (13 : Int32)) + (6 : Int32)), .inr (.inr (some (24, a0))), .inl 0, .inr (.inr (some (36, a4)))], am_mk (am_si (am_si (am_si (am_si (am_si (am_si q4 24 a0 (((q4.1 3 a0 1) * (13 : Int32)) + (0 : Int32)).toNatClampNeg a1) 24 a0 (((q4.1 3 a0 1) * (13 : Int32)) + (1 : Int32)).toNatClampNeg a2) 24 a0 (((q4.1 3 a0 1) * (13 : Int32)) + (2 : Int32)).toNatClampNeg a3) 24 a0 (((q4.1 3 a0 1) * (13 : Int32)) + (3 : Int32)).toNatClampNeg r8) 24 a0 (((q4.1 3 a0 1) * (13 : Int32)) + (4 : Int32)).toNatClampNeg r11) 24 a0 (((q4.1 3 a0 1) * (13 : Int32)) + (5 : Int32)).toNatClampNeg (q4.1 39 a4 0)))) rfl ?_
    obtain ⟨hz15, h⟩ := am_gd_some h
    refine am_Go.c1 htb (S' := (120, [some (.inr (.inr (some (3, a0)))), some (.inl a1), some (.inl a2), some (.inl a3), some (.inr (.inr (some (8, a4)))), some (.inl ((q4.1 3 a0 1) * (13 : Int32)))], [], am_mk (am_sc (am_si (am_si (am_si (am_si (am_si (am_si q4 24 a0 (((q4.1 3 a0 1) * (13 : Int32)) + (0 : Int32)).toNatClampNeg a1) 24 a0 (((q4.1 3 a0 1) * (13 : Int32)) + (1 : Int32)).toNatClampNeg a2) 24 a0 (((q4.1 3 a0 1) * (13 : Int32)) + (2 : Int32)).toNatClampNeg a3) 24 a0 (((q4.1 3 a0 1) * (13 : Int32)) + (3 : Int32)).toNatClampNeg r8) 24 a0 (((q4.1 3 a0 1) * (13 : Int32)) + (4 : Int32)).toNatClampNeg r11) 24 a0 (((q4.1 3 a0 1) * (13 : Int32)) + (5 : Int32)).toNatClampNeg (q4.1 39 a4 0)) 36 a4 24 a0 (0 : Int32).toNatClampNeg (((q4.1 3 a0 1) * (13 : Int32)) + (6 : Int32)).toNatClampNeg (7 : Int32).toNatClampNeg))) (by first | exact if_neg hz15 | rfl) ?_
    refine am_Go.n htb 6 (S' := (130, [some (.inr (.inr (some (3, a0)))), some (.inl a1), some (.inl a2), some (.inl a3), some (.inr (.inr (some (8, a4)))), some (.inl ((q4.1 3 a0 1) * (13 : Int32)))], [], am_mk (am_si (am_sc (am_si (am_si (am_si (am_si (am_si (am_si q4 24 a0 (((q4.1 3 a0 1) * (13 : Int32)) + (0 : Int32)).toNatClampNeg a1) 24 a0 (((q4.1 3 a0 1) * (13 : Int32)) + (1 : Int32)).toNatClampNeg a2) 24 a0 (((q4.1 3 a0 1) * (13 : Int32)) + (2 : Int32)).toNatClampNeg a3) 24 a0 (((q4.1 3 a0 1) * (13 : Int32)) + (3 : Int32)).toNatClampNeg r8) 24 a0 (((q4.1 3 a0 1) * (13 : Int32)) + (4 : Int32)).toNatClampNeg r11) 24 a0 (((q4.1 3 a0 1) * (13 : Int32)) + (5 : Int32)).toNatClampNeg (q4.1 39 a4 0)) 36 a4 24 a0 (0 : Int32).toNatClampNeg (((q4.1 3 a0 1) * (13 : Int32)) + (6 : Int32)).toNatClampNeg (7 : Int32).toNatClampNeg) 3 a0 1 ((q4.1 3 a0 1) + (1 : Int32))))) rfl ?_
    cases h
    exact am_Go.rt htb rfl
  · have h := h16
    by_cases hc1 : (m.1 3 a0 1) < (16 : Int32)
    · rw [if_pos hc1] at h
      refine am_Go.c1 htb (S' := (13, [some (.inr (.inr (some (3, a0)))), some (.inl a1), some (.inl a2), some (.inl a3), some (.inr (.inr (some (8, a4)))), none], [], am_mk m)) (if_pos hc1) ?_
      cases h
      exact am_Go.fg (by exact ⟨rfl, ⟨rfl, ⟨rfl, ⟨rfl, ⟨rfl, trivial⟩⟩⟩⟩⟩) key
    · rw [if_neg hc1] at h
      refine am_Go.c1 htb (S' := (9, [some (.inr (.inr (some (3, a0)))), some (.inl a1), some (.inl a2), some (.inl a3), some (.inr (.inr (some (8, a4)))), none], [], am_mk m)) (if_neg hc1) ?_
      refine am_Go.n htb 1 (S' := (10, [some (.inr (.inr (some (3, a0)))), some (.inl a1), some (.inl a2), some (.inl a3), some (.inr (.inr (some (8, a4)))), none], [.inr (.inr (some (3, a0)))], am_mk m)) rfl ?_
      obtain ⟨r2, h3, h⟩ := am_bd h
      refine am_Go.cl htb rfl (ex_X3_forgetOldest d (by omega) a0 m r2 h3) ?_
      show am_Go d 31 (13, [some (.inr (.inr (some (3, a0)))), some (.inl a1), some (.inl a2), some (.inl a3), some (.inr (.inr (some (8, a4)))), none], [], am_mk r2) _ _ _ _
      cases h
      exact am_Go.fg (by exact ⟨rfl, ⟨rfl, ⟨rfl, ⟨rfl, ⟨rfl, trivial⟩⟩⟩⟩⟩) key
-- X8_setHarm
set_option maxRecDepth 100000 in
theorem ex_X8_setHarm (d : Nat) (hd : 2 ≤ d) (a0 : Nat) (a1 : Int32) (a2 : Int32) (a3 : Int32) (a4 : Int32) (m : am_m) (t : am_m) (h : fn_X8_setHarm a0 a1 a2 a3 a4 m = some t) : am_Ex am_cod d 106 [.inr (.inr (some (8, a0))), .inl a1, .inl a2, .inl a3, .inl a4] (am_mk m) (none) (am_mk t) 0 0 := by
  obtain ⟨d, rfl⟩ : ∃ e, d = e + 1 := ⟨d - 1, by omega⟩
  have htb : am_tab 106 = at_106 := rfl
  refine ⟨Nat.le_of_ble_eq_true rfl, ?_⟩
  unfold fn_X8_setHarm at h
  show am_Go d 106 (0, [some (.inr (.inr (some (8, a0)))), some (.inl a1), some (.inl a2), some (.inl a3), some (.inl a4)], [], am_mk m) _ _ 0 0
  refine am_Go.n htb 3 (S' := (3, [some (.inr (.inr (some (8, a0)))), some (.inl a1), some (.inl a2), some (.inl a3), some (.inl a4)], [.inl a2, .inl a1, .inr (.inr (some (8, a0)))], am_mk m)) rfl ?_
  obtain ⟨r1, h2, h⟩ := am_bd h
  refine am_Go.cl htb rfl (ex_X8_hasTwo d (by omega) a0 a1 a2 m r1 h2) ?_
  show am_Go d 106 (6, [some (.inr (.inr (some (8, a0)))), some (.inl a1), some (.inl a2), some (.inl a3), some (.inl a4)], [.inl r1], am_mk m) _ _ _ _
  by_cases hc3 : r1 = 0
  · rw [if_pos hc3] at h
    refine am_Go.c1 htb (S' := (34, [some (.inr (.inr (some (8, a0)))), some (.inl a1), some (.inl a2), some (.inl a3), some (.inl a4)], [], am_mk m)) (if_pos hc3) ?_
    cases h
    exact am_Go.rt htb rfl
  · rw [if_neg hc3] at h
    refine am_Go.c1 htb (S' := (9, [some (.inr (.inr (some (8, a0)))), some (.inl a1), some (.inl a2), some (.inl a3), some (.inl a4)], [], am_mk m)) (if_neg hc3) ?_
    refine am_Go.n htb 8 (S' := (20, [some (.inr (.inr (some (8, a0)))), some (.inl a1), some (.inl a2), some (.inl a3), some (.inl a4)], [.inl a3, .inl ((a1 * (7 : Int32)) + a2), .inr (.inr (some (37, a0)))], am_mk m)) rfl ?_
    obtain ⟨hg4, h⟩ := am_ck_some h
    refine am_Go.c1 htb (S' := (21, [some (.inr (.inr (some (8, a0)))), some (.inl a1), some (.inl a2), some (.inl a3), some (.inl a4)], [], am_mk (am_si m 37 a0 ((a1 * (7 : Int32)) + a2).toNatClampNeg a3))) (if_neg hg4) ?_
    refine am_Go.n htb 8 (S' := (33, [some (.inr (.inr (some (8, a0)))), some (.inl a1), some (.inl a2), some (.inl a3), some (.inl a4)], [.inl a4, .inl ((a1 * (7 : Int32)) + a2), .inr (.inr (some (38, a0)))], am_mk (am_si m 37 a0 ((a1 * (7 : Int32)) + a2).toNatClampNeg a3))) rfl ?_
    obtain ⟨hg5, h⟩ := am_ck_some h
    refine am_Go.c1 htb (S' := (34, [some (.inr (.inr (some (8, a0)))), some (.inl a1), some (.inl a2), some (.inl a3), some (.inl a4)], [], am_mk (am_si (am_si m 37 a0 ((a1 * (7 : Int32)) + a2).toNatClampNeg a3) 38 a0 ((a1 * (7 : Int32)) + a2).toNatClampNeg a4))) (if_neg hg5) ?_
    cases h
    exact am_Go.rt htb rfl
