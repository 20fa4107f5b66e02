-- J9_max_7cf53
set_option maxRecDepth 100000 in
theorem ex_J9_max_7cf53 (d : Nat) (hd : 1 ≤ d) (a1 : Int32) (a2 : Int32) (m : am_m) (t : Int32) (h : fn_J9_max_7cf53 a1 a2 m = some t) : am_Ex am_cod d 299 [.inl a1, .inl a2] (am_mk m) (some (.inl t)) (am_mk m) 0 0 := by
  obtain ⟨d, rfl⟩ : ∃ e, d = e + 1 := ⟨d - 1, by omega⟩
  have htb : am_tab 299 = at_299 := rfl
  refine ⟨Nat.le_of_ble_eq_true rfl, ?_⟩
  unfold fn_J9_max_7cf53 at h
  show am_Go d 299 (0, [some (.inl a1), some (.inl a2)], [], am_mk m) _ _ 0 0
  refine am_Go.n htb 2 (S' := (2, [some (.inl a1), some (.inl a2)], [.inl a2, .inl a1], am_mk m)) rfl ?_
  by_cases hc1 : a1 < a2
  · rw [if_pos hc1] at h
    refine am_Go.c1 htb (S' := (9, [some (.inl a1), some (.inl a2)], [], am_mk m)) (if_pos hc1) ?_
    refine am_Go.n htb 1 (S' := (10, [some (.inl a1), some (.inl a2)], [.inl a2], am_mk m)) rfl ?_
    cases h
    exact am_Go.rt htb rfl
  · rw [if_neg hc1] at h
    refine am_Go.c1 htb (S' := (5, [some (.inl a1), some (.inl a2)], [], am_mk m)) (if_neg hc1) ?_
    refine am_Go.n htb 2 (S' := (10, [some (.inl a1), some (.inl a2)], [.inl a1], am_mk m)) rfl ?_
    cases h
    exact am_Go.rt htb rfl
-- J9_min_7cf53
set_option maxRecDepth 100000 in
theorem ex_J9_min_7cf53 (d : Nat) (hd : 1 ≤ d) (a1 : Int32) (a2 : Int32) (m : am_m) (t : Int32) (h : fn_J9_min_7cf53 a1 a2 m = some t) : am_Ex am_cod d 300 [.inl a1, .inl a2] (am_mk m) (some (.inl t)) (am_mk m) 0 0 := by
  obtain ⟨d, rfl⟩ : ∃ e, d = e + 1 := ⟨d - 1, by omega⟩
  have htb : am_tab 300 = at_300 := rfl
  refine ⟨Nat.le_of_ble_eq_true rfl, ?_⟩
  unfold fn_J9_min_7cf53 at h
  show am_Go d 300 (0, [some (.inl a1), some (.inl a2)], [], am_mk m) _ _ 0 0
  refine am_Go.n htb 2 (S' := (2, [some (.inl a1), some (.inl a2)], [.inl a2, .inl a1], am_mk m)) rfl ?_
  by_cases hc1 : a2 < a1
  · rw [if_pos hc1] at h
    refine am_Go.c1 htb (S' := (9, [some (.inl a1), some (.inl a2)], [], am_mk m)) (if_pos hc1) ?_
    refine am_Go.n htb 1 (S' := (10, [some (.inl a1), some (.inl a2)], [.inl a2], am_mk m)) rfl ?_
    cases h
    exact am_Go.rt htb rfl
  · rw [if_neg hc1] at h
    refine am_Go.c1 htb (S' := (5, [some (.inl a1), some (.inl a2)], [], am_mk m)) (if_neg hc1) ?_
    refine am_Go.n htb 2 (S' := (10, [some (.inl a1), some (.inl a2)], [.inl a1], am_mk m)) rfl ?_
    cases h
    exact am_Go.rt htb rfl
-- J6_bitCount_0f7a4
set_option maxRecDepth 100000 in
theorem ex_J6_bitCount_0f7a4 (d : Nat) (hd : 1 ≤ d) (a1 : Int32) (m : am_m) (t : Int32) (h : fn_J6_bitCount_0f7a4 a1 m = some t) : am_Ex am_cod d 297 [.inl a1] (am_mk m) (some (.inl t)) (am_mk m) 0 0 := by
  obtain ⟨d, rfl⟩ : ∃ e, d = e + 1 := ⟨d - 1, by omega⟩
  have htb : am_tab 297 = at_297 := rfl
  refine ⟨Nat.le_of_ble_eq_true rfl, ?_⟩
  unfold fn_J6_bitCount_0f7a4 at h
  show am_Go d 297 (0, [some (.inl a1)], [], am_mk m) _ _ 0 0
  refine am_Go.n htb 41 (S' := (52, [some (.inl (((((((a1 - (((a1.toUInt32 >>> ((1 : Int32).toUInt32 &&& Int32.toUInt32 31)).toInt32) &&& (1431655765 : Int32))) &&& (858993459 : Int32)) + ((((a1 - (((a1.toUInt32 >>> ((1 : Int32).toUInt32 &&& Int32.toUInt32 31)).toInt32) &&& (1431655765 : Int32))).toUInt32 >>> ((2 : Int32).toUInt32 &&& Int32.toUInt32 31)).toInt32) &&& (858993459 : Int32))) + (((((a1 - (((a1.toUInt32 >>> ((1 : Int32).toUInt32 &&& Int32.toUInt32 31)).toInt32) &&& (1431655765 : Int32))) &&& (858993459 : Int32)) + ((((a1 - (((a1.toUInt32 >>> ((1 : Int32).toUInt32 &&& Int32.toUInt32 31)).toInt32) &&& (1431655765 : Int32))).toUInt32 >>> ((2 : Int32).toUInt32 &&& Int32.toUInt32 31)).toInt32) &&& (858993459 : Int32))).toUInt32 >>> ((4 : Int32).toUInt32 &&& Int32.toUInt32 31)).toInt32)) &&& (252645135 : Int32)) + (((((((a1 - (((a1.toUInt32 >>> ((1 : Int32).toUInt32 &&& Int32.toUInt32 31)).toInt32) &&& (1431655765 : Int32))) &&& (858993459 : Int32)) + ((((a1 - (((a1.toUInt32 >>> ((1 : Int32).toUInt32 &&& Int32.toUInt32 31)).toInt32) &&& (1431655765 : Int32))).toUInt32 >>> ((2 : Int32).toUInt32 &&& Int32.toUInt32 31)).toInt32) &&& (858993459 : Int32))) + (((((a1 - (((a1.toUInt32 >>> ((1 : Int32).toUInt32 &&& Int32.toUInt32 31)).toInt32) &&& (1431655765 : Int32))) &&& (858993459 : Int32)) + ((((a1 - (((a1.toUInt32 >>> ((1 : Int32).toUInt32 &&& Int32.toUInt32 31)).toInt32) &&& (1431655765 : Int32))).toUInt32 >>> ((2 : Int32).toUInt32 &&& Int32.toUInt32 31)).toInt32) &&& (858993459 : Int32))).toUInt32 >>> ((4 : Int32).toUInt32 &&& Int32.toUInt32 31)).toInt32)) &&& (252645135 : Int32)).toUInt32 >>> ((8 : Int32).toUInt32 &&& Int32.toUInt32 31)).toInt32)) + ((((((((a1 - (((a1.toUInt32 >>> ((1 : Int32).toUInt32 &&& Int32.toUInt32 31)).toInt32) &&& (1431655765 : Int32))) &&& (858993459 : Int32)) + ((((a1 - (((a1.toUInt32 >>> ((1 : Int32).toUInt32 &&& Int32.toUInt32 31)).toInt32) &&& (1431655765 : Int32))).toUInt32 >>> ((2 : Int32).toUInt32 &&& Int32.toUInt32 31)).toInt32) &&& (858993459 : Int32))) + (((((a1 - (((a1.toUInt32 >>> ((1 : Int32).toUInt32 &&& Int32.toUInt32 31)).toInt32) &&& (1431655765 : Int32))) &&& (858993459 : Int32)) + ((((a1 - (((a1.toUInt32 >>> ((1 : Int32).toUInt32 &&& Int32.toUInt32 31)).toInt32) &&& (1431655765 : Int32))).toUInt32 >>> ((2 : Int32).toUInt32 &&& Int32.toUInt32 31)).toInt32) &&& (858993459 : Int32))).toUInt32 >>> ((4 : Int32).toUInt32 &&& Int32.toUInt32 31)).toInt32)) &&& (252645135 : Int32)) + (((((((a1 - (((a1.toUInt32 >>> ((1 : Int32).toUInt32 &&& Int32.toUInt32 31)).toInt32) &&& (1431655765 : Int32))) &&& (858993459 : Int32)) + ((((a1 - (((a1.toUInt32 >>> ((1 : Int32).toUInt32 &&& Int32.toUInt32 31)).toInt32) &&& (1431655765 : Int32))).toUInt32 >>> ((2 : Int32).toUInt32 &&& Int32.toUInt32 31)).toInt32) &&& (858993459 : Int32))) + (((((a1 - (((a1.toUInt32 >>> ((1 : Int32).toUInt32 &&& Int32.toUInt32 31)).toInt32) &&& (1431655765 : Int32))) &&& (858993459 : Int32)) + ((((a1 - (((a1.toUInt32 >>> ((1 : Int32).toUInt32 &&& Int32.toUInt32 31)).toInt32) &&& (1431655765 : Int32))).toUInt32 >>> ((2 : Int32).toUInt32 &&& Int32.toUInt32 31)).toInt32) &&& (858993459 : Int32))).toUInt32 >>> ((4 : Int32).toUInt32 &&& Int32.toUInt32 31)).toInt32)) &&& (252645135 : Int32)).toUInt32 >>> ((8 : Int32).toUInt32 &&& Int32.toUInt32 31)).toInt32)).toUInt32 >>> ((16 : Int32).toUInt32 &&& Int32.toUInt32 31)).toInt32)))], [.inl ((((((((a1 - (((a1.toUInt32 >>> ((1 : Int32).toUInt32 &&& Int32.toUInt32 31)).toInt32) &&& (1431655765 : Int32))) &&& (858993459 : Int32)) + ((((a1 - (((a1.toUInt32 >>> ((1 : Int32).toUInt32 &&& Int32.toUInt32 31)).toInt32) &&& (1431655765 : Int32))).toUInt32 >>> ((2 : Int32).toUInt32 &&& Int32.toUInt32 31)).toInt32) &&& (858993459 : Int32))) + (((((a1 - (((a1.toUInt32 >>> ((1 : Int32).toUInt32 &&& Int32.toUInt32 31)).toInt32) &&& (1431655765 : Int32))) &&& (858993459 : Int32)) + ((((a1 - (((a1.toUInt32 >>> ((1 : Int32).toUInt32 &&& Int32.toUInt32 31)).toInt32) &&& (1431655765 : Int32))).toUInt32 >>> ((2 : Int32).toUInt32 &&& Int32.toUInt32 31)).toInt32) &&& (858993459 : Int32))).toUInt32 >>> ((4 : Int32).toUInt32 &&& Int32.toUInt32 31)).toInt32)) &&& (252645135 : Int32)) + (((((((a1 - (((a1.toUInt32 >>> ((1 : Int32).toUInt32 &&& Int32.toUInt32 31)).toInt32) &&& (1431655765 : Int32))) &&& (858993459 : Int32)) + ((((a1 - (((a1.toUInt32 >>> ((1 : Int32).toUInt32 &&& Int32.toUInt32 31)).toInt32) &&& (1431655765 : Int32))).toUInt32 >>> ((2 : Int32).toUInt32 &&& Int32.toUInt32 31)).toInt32) &&& (858993459 : Int32))) + (((((a1 - (((a1.toUInt32 >>> ((1 : Int32).toUInt32 &&& Int32.toUInt32 31)).toInt32) &&& (1431655765 : Int32))) &&& (858993459 : Int32)) + ((((a1 - (((a1.toUInt32 >>> ((1 : Int32).toUInt32 &&& Int32.toUInt32 31)).toInt32) &&& (1431655765 : Int32))).toUInt32 >>> ((2 : Int32).toUInt32 &&& Int32.toUInt32 31)).toInt32) &&& (858993459 : Int32))).toUInt32 >>> ((4 : Int32).toUInt32 &&& Int32.toUInt32 31)).toInt32)) &&& (252645135 : Int32)).toUInt32 >>> ((8 : Int32).toUInt32 &&& Int32.toUInt32 31)).toInt32)) + ((((((((a1 - (((a1.toUInt32 >>> ((1 : Int32).toUInt32 &&& Int32.toUInt32 31)).toInt32) &&& (1431655765 : Int32))) &&& (858993459 : Int32)) + ((((a1 - (((a1.toUInt32 >>> ((1 : Int32).toUInt32 &&& Int32.toUInt32 31)).toInt32) &&& (1431655765 : Int32))).toUInt32 >>> ((2 : Int32).toUInt32 &&& Int32.toUInt32 31)).toInt32) &&& (858993459 : Int32))) + (((((a1 - (((a1.toUInt32 >>> ((1 : Int32).toUInt32 &&& Int32.toUInt32 31)).toInt32) &&& (1431655765 : Int32))) &&& (858993459 : Int32)) + ((((a1 - (((a1.toUInt32 >>> ((1 : Int32).toUInt32 &&& Int32.toUInt32 31)).toInt32) &&& (1431655765 : Int32))).toUInt32 >>> ((2 : Int32).toUInt32 &&& Int32.toUInt32 31)).toInt32) &&& (858993459 : Int32))).toUInt32 >>> ((4 : Int32).toUInt32 &&& Int32.toUInt32 31)).toInt32)) &&& (252645135 : Int32)) + (((((((a1 - (((a1.toUInt32 >>> ((1 : Int32).toUInt32 &&& Int32.toUInt32 31)).toInt32) &&& (1431655765 : Int32))) &&& (858993459 : Int32)) + ((((a1 - (((a1.toUInt32 >>> ((1 : Int32).toUInt32 &&& Int32.toUInt32 31)).toInt32) &&& (1431655765 : Int32))).toUInt32 >>> ((2 : Int32).toUInt32 &&& Int32.toUInt32 31)).toInt32) &&& (858993459 : Int32))) + (((((a1 - (((a1.toUInt32 >>> ((1 : Int32).toUInt32 &&& Int32.toUInt32 31)).toInt32) &&& (1431655765 : Int32))) &&& (858993459 : Int32)) + ((((a1 - (((a1.toUInt32 >>> ((1 : Int32).toUInt32 &&& Int32.toUInt32 31)).toInt32) &&& (1431655765 : Int32))).toUInt32 >>> ((2 : Int32).toUInt32 &&& Int32.toUInt32 31)).toInt32) &&& (858993459 : Int32))).toUInt32 >>> ((4 : Int32).toUInt32 &&& Int32.toUInt32 31)).toInt32)) &&& (252645135 : Int32)).toUInt32 >>> ((8 : Int32).toUInt32 &&& Int32.toUInt32 31)).toInt32)).toUInt32 >>> ((16 : Int32).toUInt32 &&& Int32.toUInt32 31)).toInt32)) &&& (63 : Int32))], am_mk m)) rfl ?_
  cases h
  exact am_Go.rt htb rfl
-- J9_abs_0f7a4
set_option maxRecDepth 100000 in
theorem ex_J9_abs_0f7a4 (d : Nat) (hd : 1 ≤ d) (a1 : Int32) (m : am_m) (t : Int32) (h : fn_J9_abs_0f7a4 a1 m = some t) : am_Ex am_cod d 298 [.inl a1] (am_mk m) (some (.inl t)) (am_mk m) 0 0 := by
  obtain ⟨d, rfl⟩ : ∃ e, d = e + 1 := ⟨d - 1, by omega⟩
  have htb : am_tab 298 = at_298 := rfl
  refine ⟨Nat.le_of_ble_eq_true rfl, ?_⟩
  unfold fn_J9_abs_0f7a4 at h
  show am_Go d 298 (0, [some (.inl a1)], [], am_mk m) _ _ 0 0
  refine am_Go.n htb 1 (S' := (1, [some (.inl a1)], [.inl a1], am_mk m)) rfl ?_
  by_cases hc1 : 0 ≤ a1
  · rw [if_pos hc1] at h
    refine am_Go.c1 htb (S' := (9, [some (.inl a1)], [], am_mk m)) (if_pos hc1) ?_
    refine am_Go.n htb 1 (S' := (10, [some (.inl a1)], [.inl a1], am_mk m)) rfl ?_
    cases h
    exact am_Go.rt htb rfl
  · rw [if_neg hc1] at h
    refine am_Go.c1 htb (S' := (4, [some (.inl a1)], [], am_mk m)) (if_neg hc1) ?_
    refine am_Go.n htb 3 (S' := (10, [some (.inl a1)], [.inl (-a1)], am_mk m)) rfl ?_
    cases h
    exact am_Go.rt htb rfl
-- X10_in
set_option maxRecDepth 100000 in
theorem ex_X10_in (d : Nat) (hd : 1 ≤ d) (a1 : Int64) (a2 : Int64) (a3 : Int64) (m : am_m) (t : Int32) (h : fn_X10_in a1 a2 a3 m = some t) : am_Ex am_cod d 171 [.inr (.inl a1), .inr (.inl a2), .inr (.inl a3)] (am_mk m) (some (.inl t)) (am_mk m) 0 0 := by
  obtain ⟨d, rfl⟩ : ∃ e, d = e + 1 := ⟨d - 1, by omega⟩
  have htb : am_tab 171 = at_171 := rfl
  refine ⟨Nat.le_of_ble_eq_true rfl, ?_⟩
  unfold fn_X10_in at h
  show am_Go d 171 (0, [some (.inr (.inl a1)), none, some (.inr (.inl a2)), none, some (.inr (.inl a3)), none], [], am_mk m) _ _ 0 0
  refine am_Go.n htb 3 (S' := (3, [some (.inr (.inl a1)), none, some (.inr (.inl a2)), none, some (.inr (.inl a3)), none], [.inl (lg_cmp a1 a2)], am_mk m)) rfl ?_
  by_cases hc1 : (lg_cmp a1 a2) < 0
  · rw [if_pos hc1] at h
    refine am_Go.c1 htb (S' := (17, [some (.inr (.inl a1)), none, some (.inr (.inl a2)), none, some (.inr (.inl a3)), none], [], am_mk m)) (if_pos hc1) ?_
    refine am_Go.n htb 1 (S' := (18, [some (.inr (.inl a1)), none, some (.inr (.inl a2)), none, some (.inr (.inl a3)), none], [.inl 0], am_mk m)) rfl ?_
    cases h
    exact am_Go.rt htb rfl
  · rw [if_neg hc1] at h
    refine am_Go.c1 htb (S' := (6, [some (.inr (.inl a1)), none, some (.inr (.inl a2)), none, some (.inr (.inl a3)), none], [], am_mk m)) (if_neg hc1) ?_
    refine am_Go.n htb 3 (S' := (10, [some (.inr (.inl a1)), none, some (.inr (.inl a2)), none, some (.inr (.inl a3)), none], [.inl (lg_cmp a1 a3)], am_mk m)) rfl ?_
    by_cases hc2 : 0 < (lg_cmp a1 a3)
    · rw [if_pos hc2] at h
      refine am_Go.c1 htb (S' := (17, [some (.inr (.inl a1)), none, some (.inr (.inl a2)), none, some (.inr (.inl a3)), none], [], am_mk m)) (if_pos hc2) ?_
      refine am_Go.n htb 1 (S' := (18, [some (.inr (.inl a1)), none, some (.inr (.inl a2)), none, some (.inr (.inl a3)), none], [.inl 0], am_mk m)) rfl ?_
      cases h
      exact am_Go.rt htb rfl
    · rw [if_neg hc2] at h
      refine am_Go.c1 htb (S' := (13, [some (.inr (.inl a1)), none, some (.inr (.inl a2)), none, some (.inr (.inl a3)), none], [], am_mk m)) (if_neg hc2) ?_
      refine am_Go.n htb 2 (S' := (18, [some (.inr (.inl a1)), none, some (.inr (.inl a2)), none, some (.inr (.inl a3)), none], [.inl 1], am_mk m)) rfl ?_
      cases h
      exact am_Go.rt htb rfl
-- X10_is
set_option maxRecDepth 100000 in
theorem ex_X10_is (d : Nat) (hd : 1 ≤ d) (a1 : Int32) (a2 : Int32) (m : am_m) (t : Int32) (h : fn_X10_is a1 a2 m = some t) : am_Ex am_cod d 172 [.inl a1, .inl a2] (am_mk m) (some (.inl t)) (am_mk m) 0 0 := by
  obtain ⟨d, rfl⟩ : ∃ e, d = e + 1 := ⟨d - 1, by omega⟩
  have htb : am_tab 172 = at_172 := rfl
  refine ⟨Nat.le_of_ble_eq_true rfl, ?_⟩
  unfold fn_X10_is at h
  show am_Go d 172 (0, [some (.inl a1), some (.inl a2)], [], am_mk m) _ _ 0 0
  refine am_Go.n htb 6 (S' := (6, [some (.inl a1), some (.inl a2)], [.inl 1, .inl ((a1 >>> (a2 &&& 31)) &&& (1 : Int32))], am_mk m)) rfl ?_
  by_cases hc1 : ((a1 >>> (a2 &&& 31)) &&& (1 : Int32)) ≠ (1 : Int32)
  · rw [if_pos hc1] at h
    refine am_Go.c1 htb (S' := (13, [some (.inl a1), some (.inl a2)], [], am_mk m)) (if_pos hc1) ?_
    refine am_Go.n htb 1 (S' := (14, [some (.inl a1), some (.inl a2)], [.inl 0], am_mk m)) rfl ?_
    cases h
    exact am_Go.rt htb rfl
  · rw [if_neg hc1] at h
    refine am_Go.c1 htb (S' := (9, [some (.inl a1), some (.inl a2)], [], am_mk m)) (if_neg hc1) ?_
    refine am_Go.n htb 2 (S' := (14, [some (.inl a1), some (.inl a2)], [.inl 1], am_mk m)) rfl ?_
    cases h
    exact am_Go.rt htb rfl
-- X10_ones
set_option maxRecDepth 100000 in
theorem lt_X10_ones_4 (d : Nat) (hd : 1 ≤ d + 1) {r : Option am_V} {M' : am_M} {kc ks : Nat} {n : Nat} {x0 : Int32} {x1 : Int32} {x2 : Int32} {m : am_m} {t : Int32} (h : lp_X10_ones_4 n x0 x1 x2 m = some t) (hk : am_Go d 173 (24, [some (.inl x0), some (.inl t), none], [], am_mk m) r M' kc ks) : am_Go d 173 (4, [some (.inl x0), some (.inl x1), some (.inl x2)], [], am_mk m) r M' kc ks := by
  have htb : am_tab 173 = at_173 := rfl
  induction n generalizing x1 x2 with
  | zero => cases h
  | succ n ih =>
    unfold lp_X10_ones_4 at h
    refine am_Go.n htb 2 (S' := (7, [some (.inl x0), some (.inl x1), some (.inl x2)], [.inl 7, .inl x2], am_mk m)) rfl ?_
    by_cases hc1 : (7 : Int32) ≤ x2
    · rw [if_pos hc1] at h
      refine am_Go.c1 htb (S' := (24, [some (.inl x0), some (.inl x1), some (.inl x2)], [], am_mk m)) (if_pos hc1) ?_
      cases h
      exact am_Go.fg (by exact ⟨rfl, ⟨rfl, trivial⟩⟩) hk
    · rw [if_neg hc1] at h
      refine am_Go.c1 htb (S' := (10, [some (.inl x0), some (.inl x1), some (.inl x2)], [], am_mk m)) (if_neg hc1) ?_
      refine am_Go.n htb 10 (S' := (4, [some (.inl x0), some (.inl (x1 + ((x0 >>> (x2 &&& 31)) &&& (1 : Int32)))), some (.inl (x2 + 1))], [], am_mk m)) rfl ?_
      first | exact ih h | exact ih h hk
set_option maxRecDepth 100000 in
theorem ex_X10_ones (d : Nat) (hd : 1 ≤ d) (a1 : Int32) (m : am_m) (t : Int32) (h : fn_X10_ones a1 m = some t) : am_Ex am_cod d 173 [.inl a1] (am_mk m) (some (.inl t)) (am_mk m) 0 0 := by
  obtain ⟨d, rfl⟩ : ∃ e, d = e + 1 := ⟨d - 1, by omega⟩
  have htb : am_tab 173 = at_173 := rfl
  refine ⟨Nat.le_of_ble_eq_true rfl, ?_⟩
  unfold fn_X10_ones at h
  show am_Go d 173 (0, [some (.inl a1), none, none], [], am_mk m) _ _ 0 0
  refine am_Go.n htb 4 (S' := (4, [some (.inl a1), some (.inl 0), some (.inl 0)], [], am_mk m)) rfl ?_
  obtain ⟨q2, h3, h⟩ := am_bd h
  refine lt_X10_ones_4 _ hd (h := h3) (hk := ?_)
  refine am_Go.n htb 1 (S' := (25, [some (.inl a1), some (.inl q2), none], [.inl q2], am_mk m)) rfl ?_
  cases h
  exact am_Go.rt htb rfl
-- X10_bounded
set_option maxRecDepth 100000 in
theorem ex_X10_bounded (d : Nat) (hd : 1 ≤ d) (a1 : Int64) (a2 : Int32) (a3 : Int32) (m : am_m) (t : Int32) (h : fn_X10_bounded a1 a2 a3 m = some t) : am_Ex am_cod d 174 [.inr (.inl a1), .inl a2, .inl a3] (am_mk m) (some (.inl t)) (am_mk m) 0 0 := by
  obtain ⟨d, rfl⟩ : ∃ e, d = e + 1 := ⟨d - 1, by omega⟩
  have htb : am_tab 174 = at_174 := rfl
  refine ⟨Nat.le_of_ble_eq_true rfl, ?_⟩
  unfold fn_X10_bounded at h
  show am_Go d 174 (0, [some (.inr (.inl a1)), none, some (.inl a2), some (.inl a3)], [], am_mk m) _ _ 0 0
  refine am_Go.n htb 4 (S' := (4, [some (.inr (.inl a1)), none, some (.inl a2), some (.inl a3)], [.inl (lg_cmp a1 a2.toInt64)], am_mk m)) rfl ?_
  by_cases hc1 : 0 ≤ (lg_cmp a1 a2.toInt64)
  · rw [if_pos hc1] at h
    refine am_Go.c1 htb (S' := (11, [some (.inr (.inl a1)), none, some (.inl a2), some (.inl a3)], [], am_mk m)) (if_pos hc1) ?_
    refine am_Go.n htb 4 (S' := (15, [some (.inr (.inl a1)), none, some (.inl a2), some (.inl a3)], [.inl (lg_cmp a1 a3.toInt64)], am_mk m)) rfl ?_
    by_cases hc2 : (lg_cmp a1 a3.toInt64) ≤ 0
    · rw [if_pos hc2] at h
      refine am_Go.c1 htb (S' := (22, [some (.inr (.inl a1)), none, some (.inl a2), some (.inl a3)], [], am_mk m)) (if_pos hc2) ?_
      refine am_Go.n htb 2 (S' := (24, [some (.inr (.inl a1)), none, some (.inl a2), some (.inl a3)], [.inl a1.toInt32], am_mk m)) rfl ?_
      cases h
      exact am_Go.rt htb rfl
    · rw [if_neg hc2] at h
      refine am_Go.c1 htb (S' := (18, [some (.inr (.inl a1)), none, some (.inl a2), some (.inl a3)], [], am_mk m)) (if_neg hc2) ?_
      refine am_Go.n htb 2 (S' := (24, [some (.inr (.inl a1)), none, some (.inl a2), some (.inl a3)], [.inl a3], am_mk m)) rfl ?_
      cases h
      exact am_Go.rt htb rfl
  · rw [if_neg hc1] at h
    refine am_Go.c1 htb (S' := (7, [some (.inr (.inl a1)), none, some (.inl a2), some (.inl a3)], [], am_mk m)) (if_neg hc1) ?_
    refine am_Go.n htb 2 (S' := (24, [some (.inr (.inl a1)), none, some (.inl a2), some (.inl a3)], [.inl a2], am_mk m)) rfl ?_
    cases h
    exact am_Go.rt htb rfl
-- X10_tell
set_option maxRecDepth 100000 in
theorem ex_X10_tell (d : Nat) (hd : 1 ≤ d) (a1 : Int32) (m : am_m) (t : Int32 × am_m) (h : fn_X10_tell a1 m = some t) : am_Ex am_cod d 175 [.inr (.inr (some (10, 0))), .inl a1] (am_mk m) (some (.inl t.1)) (am_mk t.2) 0 0 := by
  obtain ⟨d, rfl⟩ : ∃ e, d = e + 1 := ⟨d - 1, by omega⟩
  have htb : am_tab 175 = at_175 := rfl
  refine ⟨Nat.le_of_ble_eq_true rfl, ?_⟩
  unfold fn_X10_tell at h
  show am_Go d 175 (0, [some (.inr (.inr (some (10, 0)))), some (.inl a1)], [], am_mk m) _ _ 0 0
  refine am_Go.n htb 2 (S' := (2, [some (.inr (.inr (some (10, 0)))), some (.inl a1)], [.inl a1, .inr (.inr (some (10, 0)))], am_mk m)) rfl ?_
  refine am_Go.cut (S := (10, [some (.inr (.inr (some (10, 0)))), some (.inl a1)], [.inl (if 0 ≤ a1 then (0 : Int32) else a1), .inr (.inr (some (10, 0)))], am_mk m)) ?_ (fun key => ?_)
  · refine am_Go.n htb 2 (S' := (14, [some (.inr (.inr (some (10, 0)))), some (.inl a1)], [.inl a1], am_mk (am_si m 10 0 1 (if 0 ≤ a1 then (0 : Int32) else a1)))) rfl ?_
    by_cases hc2 : 0 ≤ a1
    · rw [if_pos hc2] at h
      refine am_Go.c1 htb (S' := (28, [some (.inr (.inr (some (10, 0)))), some (.inl a1)], [], am_mk (am_si m 10 0 1 (if 0 ≤ a1 then (0 : Int32) else a1)))) (if_pos hc2) ?_
      refine am_Go.n htb 1 (S' := (29, [some (.inr (.inr (some (10, 0)))), some (.inl a1)], [.inl a1], am_mk (am_si m 10 0 1 (if 0 ≤ a1 then (0 : Int32) else a1)))) rfl ?_
      cases h
      exact am_Go.rt htb rfl
    · rw [if_neg hc2] at h
      refine am_Go.c1 htb (S' := (17, [some (.inr (.inr (some (10, 0)))), some (.inl a1)], [], am_mk (am_si m 10 0 1 (if 0 ≤ a1 then (0 : Int32) else a1)))) (if_neg hc2) ?_
      refine am_Go.n htb 5 (S' := (24, [some (.inr (.inr (some (10, 0)))), some (.inl a1)], [.inl (-a1), .inr (.inr (some (43, 0))), .inl (-a1), .inr (.inr (some (43, 0)))], am_mk (am_si m 10 0 1 (if 0 ≤ a1 then (0 : Int32) else a1)))) rfl ?_
      obtain ⟨hg3, h⟩ := am_ck_some h
      refine am_Go.c1 htb (S' := (25, [some (.inr (.inr (some (10, 0)))), some (.inl a1)], [.inl (m.1 43 0 (-a1).toNatClampNeg), .inl (-a1), .inr (.inr (some (43, 0)))], am_mk (am_si m 10 0 1 (if 0 ≤ a1 then (0 : Int32) else a1)))) (if_neg hg3) ?_
      refine am_Go.n htb 2 (S' := (27, [some (.inr (.inr (some (10, 0)))), some (.inl a1)], [.inl ((m.1 43 0 (-a1).toNatClampNeg) + (1 : Int32)), .inl (-a1), .inr (.inr (some (43, 0)))], am_mk (am_si m 10 0 1 (if 0 ≤ a1 then (0 : Int32) else a1)))) rfl ?_
      obtain ⟨hg4, h⟩ := am_ck_some h
      refine am_Go.c1 htb (S' := (28, [some (.inr (.inr (some (10, 0)))), some (.inl a1)], [], am_mk (am_si (am_si m 10 0 1 (if 0 ≤ a1 then (0 : Int32) else a1)) 43 0 (-a1).toNatClampNeg ((m.1 43 0 (-a1).toNatClampNeg) + (1 : Int32))))) (if_neg hg4) ?_
      refine am_Go.n htb 1 (S' := (29, [some (.inr (.inr (some (10, 0)))), some (.inl a1)], [.inl a1], am_mk (am_si (am_si m 10 0 1 (if 0 ≤ a1 then (0 : Int32) else a1)) 43 0 (-a1).toNatClampNeg ((m.1 43 0 (-a1).toNatClampNeg) + (1 : Int32))))) rfl ?_
      cases h
      exact am_Go.rt htb rfl
  · by_cases hc1 : 0 ≤ a1
    · refine am_Go.c1 htb (S' := (9, [some (.inr (.inr (some (10, 0)))), some (.inl a1)], [.inr (.inr (some (10, 0)))], am_mk m)) (if_pos hc1) ?_
      refine am_Go.n htb 1 (S' := (10, [some (.inr (.inr (some (10, 0)))), some (.inl a1)], [.inl 0, .inr (.inr (some (10, 0)))], am_mk m)) rfl ?_
      simp only [if_pos hc1] at key
      exact am_Go.fg (by exact ⟨rfl, ⟨rfl, trivial⟩⟩) key
    · refine am_Go.c1 htb (S' := (5, [some (.inr (.inr (some (10, 0)))), some (.inl a1)], [.inr (.inr (some (10, 0)))], am_mk m)) (if_neg hc1) ?_
      refine am_Go.n htb 2 (S' := (10, [some (.inr (.inr (some (10, 0)))), some (.inl a1)], [.inl a1, .inr (.inr (some (10, 0)))], am_mk m)) rfl ?_
      simp only [if_neg hc1] at key
      exact am_Go.fg (by exact ⟨rfl, ⟨rfl, trivial⟩⟩) key
-- X10_change
set_option maxRecDepth 100000 in
theorem ex_X10_change (d : Nat) (hd : 1 ≤ d) (a1 : Int32) (a2 : Int32) (m : am_m) (t : Int32 × am_m) (h : fn_X10_change a1 a2 m = some t) : am_Ex am_cod d 176 [.inr (.inr (some (10, 0))), .inl a1, .inl a2] (am_mk m) (some (.inl t.1)) (am_mk t.2) 0 0 := by
  obtain ⟨d, rfl⟩ : ∃ e, d = e + 1 := ⟨d - 1, by omega⟩
  have htb : am_tab 176 = at_176 := rfl
  refine ⟨Nat.le_of_ble_eq_true rfl, ?_⟩
  unfold fn_X10_change at h
  show am_Go d 176 (0, [some (.inr (.inr (some (10, 0)))), some (.inl a1), some (.inl a2), none], [], am_mk m) _ _ 0 0
  refine am_Go.n htb 3 (S' := (5, [some (.inr (.inr (some (10, 0)))), some (.inl a1), some (.inl a2), none], [.inl a1, .inr (.inr (some (44, 0)))], am_mk m)) rfl ?_
  obtain ⟨hg1, h⟩ := am_ck_some h
  refine am_Go.c1 htb (S' := (6, [some (.inr (.inr (some (10, 0)))), some (.inl a1), some (.inl a2), none], [.inl (m.1 44 0 a1.toNatClampNeg)], am_mk m)) (if_neg hg1) ?_
  refine am_Go.n htb 5 (S' := (13, [some (.inr (.inr (some (10, 0)))), some (.inl a1), some (.inl a2), some (.inl (m.1 44 0 a1.toNatClampNeg))], [.inl a2, .inl a1, .inr (.inr (some (44, 0)))], am_mk m)) rfl ?_
  obtain ⟨hg2, h⟩ := am_ck_some h
  refine am_Go.c1 htb (S' := (14, [some (.inr (.inr (some (10, 0)))), some (.inl a1), some (.inl a2), some (.inl (m.1 44 0 a1.toNatClampNeg))], [], am_mk (am_si m 44 0 a1.toNatClampNeg a2))) (if_neg hg2) ?_
  refine am_Go.n htb 4 (S' := (20, [some (.inr (.inr (some (10, 0)))), some (.inl a1), some (.inl a2), some (.inl (m.1 44 0 a1.toNatClampNeg))], [.inl (m.1 44 0 a1.toNatClampNeg)], am_mk (am_si (am_si m 44 0 a1.toNatClampNeg a2) 10 0 1 0))) rfl ?_
  cases h
  exact am_Go.rt htb rfl
-- X10_lasting
set_option maxRecDepth 100000 in
theorem ex_X10_lasting (d : Nat) (hd : 2 ≤ d) (a1 : Int32) (m : am_m) (t : Int32 × am_m) (h : fn_X10_lasting a1 m = some t) : am_Ex am_cod d 177 [.inr (.inr (some (10, 0))), .inl a1] (am_mk m) (some (.inl t.1)) (am_mk t.2) 0 0 := by
  obtain ⟨d, rfl⟩ : ∃ e, d = e + 1 := ⟨d - 1, by omega⟩
  have htb : am_tab 177 = at_177 := rfl
  refine ⟨Nat.le_of_ble_eq_true rfl, ?_⟩
  unfold fn_X10_lasting at h
  show am_Go d 177 (0, [some (.inr (.inr (some (10, 0)))), some (.inl a1)], [], am_mk m) _ _ 0 0
  refine am_Go.n htb 2 (S' := (2, [some (.inr (.inr (some (10, 0)))), some (.inl a1)], [.inl a1, .inr (.inr (some (10, 0)))], am_mk m)) rfl ?_
  refine am_Go.cut (S := (13, [some (.inr (.inr (some (10, 0)))), some (.inl a1)], [.inl (if 0 ≤ a1 then (0 : Int32) else (m.1 10 0 8)), .inr (.inr (some (10, 0)))], am_mk m)) ?_ (fun key => ?_)
  · refine am_Go.n htb 3 (S' := (18, [some (.inr (.inr (some (10, 0)))), some (.inl a1)], [.inl a1, .inr (.inr (some (10, 0)))], am_mk (am_si m 10 0 8 (if 0 ≤ a1 then (0 : Int32) else (m.1 10 0 8))))) rfl ?_
    obtain ⟨r2, h3, h⟩ := am_bd h
    refine am_Go.cl htb rfl (ex_X10_tell d (by omega) a1 (am_si m 10 0 8 (if 0 ≤ a1 then (0 : Int32) else (m.1 10 0 8))) r2 h3) ?_
    show am_Go d 177 (21, [some (.inr (.inr (some (10, 0)))), some (.inl a1)], [.inl r2.1], am_mk r2.2) _ _ _ _
    cases h
    exact am_Go.rt htb rfl
  · by_cases hc1 : 0 ≤ a1
    · refine am_Go.c1 htb (S' := (12, [some (.inr (.inr (some (10, 0)))), some (.inl a1)], [.inr (.inr (some (10, 0)))], am_mk m)) (if_pos hc1) ?_
      refine am_Go.n htb 1 (S' := (13, [some (.inr (.inr (some (10, 0)))), some (.inl a1)], [.inl 0, .inr (.inr (some (10, 0)))], am_mk m)) rfl ?_
      simp only [if_pos hc1] at key
      exact am_Go.fg (by exact ⟨rfl, ⟨rfl, trivial⟩⟩) key
    · refine am_Go.c1 htb (S' := (5, [some (.inr (.inr (some (10, 0)))), some (.inl a1)], [.inr (.inr (some (10, 0)))], am_mk m)) (if_neg hc1) ?_
      refine am_Go.n htb 3 (S' := (13, [some (.inr (.inr (some (10, 0)))), some (.inl a1)], [.inl (m.1 10 0 8), .inr (.inr (some (10, 0)))], am_mk m)) rfl ?_
      simp only [if_neg hc1] at key
      exact am_Go.fg (by exact ⟨rfl, ⟨rfl, trivial⟩⟩) key
-- X10_keepAll
set_option maxRecDepth 100000 in
theorem lt_X10_keepAll_2 (d : Nat) (hd : 1 ≤ d + 1) {r : Option am_V} {M' : am_M} {kc ks : Nat} {n : Nat} {x1 : Int32} {x2 : Int32} {m : am_m} {t : am_m} (h : lp_X10_keepAll_2 n x1 x2 m = some t) (hk : am_Go d 178 (33, [some (.inr (.inr (some (10, 0)))), some (.inl x1), none], [], am_mk t) r M' kc ks) : am_Go d 178 (2, [some (.inr (.inr (some (10, 0)))), some (.inl x1), some (.inl x2)], [], am_mk m) r M' kc ks := by
  have htb : am_tab 178 = at_178 := rfl
  induction n generalizing x2 m with
  | zero => cases h
  | succ n ih =>
    unfold lp_X10_keepAll_2 at h
    refine am_Go.n htb 2 (S' := (5, [some (.inr (.inr (some (10, 0)))), some (.inl x1), some (.inl x2)], [.inl 108, .inl x2], am_mk m)) rfl ?_
    by_cases hc1 : (108 : Int32) ≤ x2
    · rw [if_pos hc1] at h
      refine am_Go.c1 htb (S' := (33, [some (.inr (.inr (some (10, 0)))), some (.inl x1), some (.inl x2)], [], am_mk m)) (if_pos hc1) ?_
      cases h
      exact am_Go.fg (by exact ⟨rfl, ⟨rfl, trivial⟩⟩) hk
    · rw [if_neg hc1] at h
      refine am_Go.c1 htb (S' := (8, [some (.inr (.inr (some (10, 0)))), some (.inl x1), some (.inl x2)], [], am_mk m)) (if_neg hc1) ?_
      refine am_Go.n htb 12 (S' := (25, [some (.inr (.inr (some (10, 0)))), some (.inl x1), some (.inl x2)], [.inl ((4 : Int32) + x2), .inr (.inr (some (44, 0))), .inl (((108 : Int32) * x1) + x2), .inr (.inr (some (46, 0)))], am_mk m)) rfl ?_
      obtain ⟨hg2, h⟩ := am_ck_some h
      refine am_Go.c1 htb (S' := (26, [some (.inr (.inr (some (10, 0)))), some (.inl x1), some (.inl x2)], [.inl (m.1 44 0 ((4 : Int32) + x2).toNatClampNeg), .inl (((108 : Int32) * x1) + x2), .inr (.inr (some (46, 0)))], am_mk m)) (if_neg hg2) ?_
      obtain ⟨hg3, h⟩ := am_ck_some h
      refine am_Go.c1 htb (S' := (27, [some (.inr (.inr (some (10, 0)))), some (.inl x1), some (.inl x2)], [], am_mk (am_si m 46 0 (((108 : Int32) * x1) + x2).toNatClampNeg (m.1 44 0 ((4 : Int32) + x2).toNatClampNeg)))) (if_neg hg3) ?_
      refine am_Go.n htb 2 (S' := (2, [some (.inr (.inr (some (10, 0)))), some (.inl x1), some (.inl (x2 + 1))], [], am_mk (am_si m 46 0 (((108 : Int32) * x1) + x2).toNatClampNeg (m.1 44 0 ((4 : Int32) + x2).toNatClampNeg)))) rfl ?_
      first | exact ih h | exact ih h hk
set_option maxRecDepth 100000 in
theorem ex_X10_keepAll (d : Nat) (hd : 1 ≤ d) (a1 : Int32) (m : am_m) (t : am_m) (h : fn_X10_keepAll a1 m = some t) : am_Ex am_cod d 178 [.inr (.inr (some (10, 0))), .inl a1] (am_mk m) (none) (am_mk t) 0 0 := by
  obtain ⟨d, rfl⟩ : ∃ e, d = e + 1 := ⟨d - 1, by omega⟩
  have htb : am_tab 178 = at_178 := rfl
  refine ⟨Nat.le_of_ble_eq_true rfl, ?_⟩
  unfold fn_X10_keepAll at h
  show am_Go d 178 (0, [some (.inr (.inr (some (10, 0)))), some (.inl a1), none], [], am_mk m) _ _ 0 0
  refine am_Go.n htb 2 (S' := (2, [some (.inr (.inr (some (10, 0)))), some (.inl a1), some (.inl 0)], [], am_mk m)) rfl ?_
  obtain ⟨q4, h5, h⟩ := am_bd h
  refine lt_X10_keepAll_2 _ hd (h := h5) (hk := ?_)
  cases h
  exact am_Go.rt htb rfl
-- X10_putBack
set_option maxRecDepth 100000 in
theorem lt_X10_putBack_2 (d : Nat) (hd : 1 ≤ d + 1) {r : Option am_V} {M' : am_M} {kc ks : Nat} {n : Nat} {x1 : Int32} {x2 : Int32} {m : am_m} {t : am_m} (h : lp_X10_putBack_2 n x1 x2 m = some t) (hk : am_Go d 179 (33, [some (.inr (.inr (some (10, 0)))), some (.inl x1), none], [], am_mk t) r M' kc ks) : am_Go d 179 (2, [some (.inr (.inr (some (10, 0)))), some (.inl x1), some (.inl x2)], [], am_mk m) r M' kc ks := by
  have htb : am_tab 179 = at_179 := rfl
  induction n generalizing x2 m with
  | zero => cases h
  | succ n ih =>
    unfold lp_X10_putBack_2 at h
    refine am_Go.n htb 2 (S' := (5, [some (.inr (.inr (some (10, 0)))), some (.inl x1), some (.inl x2)], [.inl 108, .inl x2], am_mk m)) rfl ?_
    by_cases hc1 : (108 : Int32) ≤ x2
    · rw [if_pos hc1] at h
      refine am_Go.c1 htb (S' := (33, [some (.inr (.inr (some (10, 0)))), some (.inl x1), some (.inl x2)], [], am_mk m)) (if_pos hc1) ?_
      cases h
      exact am_Go.fg (by exact ⟨rfl, ⟨rfl, trivial⟩⟩) hk
    · rw [if_neg hc1] at h
      refine am_Go.c1 htb (S' := (8, [some (.inr (.inr (some (10, 0)))), some (.inl x1), some (.inl x2)], [], am_mk m)) (if_neg hc1) ?_
      refine am_Go.n htb 12 (S' := (25, [some (.inr (.inr (some (10, 0)))), some (.inl x1), some (.inl x2)], [.inl (((108 : Int32) * x1) + x2), .inr (.inr (some (46, 0))), .inl ((4 : Int32) + x2), .inr (.inr (some (44, 0)))], am_mk m)) rfl ?_
      obtain ⟨hg2, h⟩ := am_ck_some h
      refine am_Go.c1 htb (S' := (26, [some (.inr (.inr (some (10, 0)))), some (.inl x1), some (.inl x2)], [.inl (m.1 46 0 (((108 : Int32) * x1) + x2).toNatClampNeg), .inl ((4 : Int32) + x2), .inr (.inr (some (44, 0)))], am_mk m)) (if_neg hg2) ?_
      obtain ⟨hg3, h⟩ := am_ck_some h
      refine am_Go.c1 htb (S' := (27, [some (.inr (.inr (some (10, 0)))), some (.inl x1), some (.inl x2)], [], am_mk (am_si m 44 0 ((4 : Int32) + x2).toNatClampNeg (m.1 46 0 (((108 : Int32) * x1) + x2).toNatClampNeg)))) (if_neg hg3) ?_
      refine am_Go.n htb 2 (S' := (2, [some (.inr (.inr (some (10, 0)))), some (.inl x1), some (.inl (x2 + 1))], [], am_mk (am_si m 44 0 ((4 : Int32) + x2).toNatClampNeg (m.1 46 0 (((108 : Int32) * x1) + x2).toNatClampNeg)))) rfl ?_
      first | exact ih h | exact ih h hk
set_option maxRecDepth 100000 in
theorem ex_X10_putBack (d : Nat) (hd : 1 ≤ d) (a1 : Int32) (m : am_m) (t : am_m) (h : fn_X10_putBack a1 m = some t) : am_Ex am_cod d 179 [.inr (.inr (some (10, 0))), .inl a1] (am_mk m) (none) (am_mk t) 0 0 := by
  obtain ⟨d, rfl⟩ : ∃ e, d = e + 1 := ⟨d - 1, by omega⟩
  have htb : am_tab 179 = at_179 := rfl
  refine ⟨Nat.le_of_ble_eq_true rfl, ?_⟩
  unfold fn_X10_putBack at h
  show am_Go d 179 (0, [some (.inr (.inr (some (10, 0)))), some (.inl a1), none], [], am_mk m) _ _ 0 0
  refine am_Go.n htb 2 (S' := (2, [some (.inr (.inr (some (10, 0)))), some (.inl a1), some (.inl 0)], [], am_mk m)) rfl ?_
  obtain ⟨q4, h5, h⟩ := am_bd h
  refine lt_X10_putBack_2 _ hd (h := h5) (hk := ?_)
  cases h
  exact am_Go.rt htb rfl
-- X10_remember
set_option maxRecDepth 100000 in
theorem lt_X10_remember_11 (d : Nat) (hd : 2 ≤ d + 1) {r : Option am_V} {M' : am_M} {kc ks : Nat} {n : Nat} {x1 : Int32} {x2 : Int32} {m : am_m} {t : am_m} (h : lp_X10_remember_11 n x1 x2 m = some t) (hk : am_Go d 180 (39, [some (.inr (.inr (some (10, 0)))), some (.inl x1), none], [], am_mk t) r M' kc ks) : am_Go d 180 (11, [some (.inr (.inr (some (10, 0)))), some (.inl x1), some (.inl x2)], [], am_mk m) r M' kc ks := by
  have htb : am_tab 180 = at_180 := rfl
  induction n generalizing x2 m with
  | zero => cases h
  | succ n ih =>
    unfold lp_X10_remember_11 at h
    refine am_Go.n htb 2 (S' := (15, [some (.inr (.inr (some (10, 0)))), some (.inl x1), some (.inl x2)], [.inl 1620, .inl x2], am_mk m)) rfl ?_
    by_cases hc2 : (1620 : Int32) ≤ x2
    · rw [if_pos hc2] at h
      refine am_Go.c1 htb (S' := (39, [some (.inr (.inr (some (10, 0)))), some (.inl x1), some (.inl x2)], [], am_mk m)) (if_pos hc2) ?_
      cases h
      exact am_Go.fg (by exact ⟨rfl, ⟨rfl, trivial⟩⟩) hk
    · rw [if_neg hc2] at h
      refine am_Go.c1 htb (S' := (18, [some (.inr (.inr (some (10, 0)))), some (.inl x1), some (.inl x2)], [], am_mk m)) (if_neg hc2) ?_
      refine am_Go.n htb 8 (S' := (31, [some (.inr (.inr (some (10, 0)))), some (.inl x1), some (.inl x2)], [.inl (x2 + (108 : Int32)), .inr (.inr (some (46, 0))), .inl x2, .inr (.inr (some (46, 0)))], am_mk m)) rfl ?_
      obtain ⟨hg3, h⟩ := am_ck_some h
      refine am_Go.c1 htb (S' := (32, [some (.inr (.inr (some (10, 0)))), some (.inl x1), some (.inl x2)], [.inl (m.1 46 0 (x2 + (108 : Int32)).toNatClampNeg), .inl x2, .inr (.inr (some (46, 0)))], am_mk m)) (if_neg hg3) ?_
      obtain ⟨hg4, h⟩ := am_ck_some h
      refine am_Go.c1 htb (S' := (33, [some (.inr (.inr (some (10, 0)))), some (.inl x1), some (.inl x2)], [], am_mk (am_si m 46 0 x2.toNatClampNeg (m.1 46 0 (x2 + (108 : Int32)).toNatClampNeg)))) (if_neg hg4) ?_
      refine am_Go.n htb 2 (S' := (11, [some (.inr (.inr (some (10, 0)))), some (.inl x1), some (.inl (x2 + 1))], [], am_mk (am_si m 46 0 x2.toNatClampNeg (m.1 46 0 (x2 + (108 : Int32)).toNatClampNeg)))) rfl ?_
      first | exact ih h | exact ih h hk
set_option maxRecDepth 100000 in
theorem lt_X10_remember_41 (d : Nat) (hd : 2 ≤ d + 1) {r : Option am_V} {M' : am_M} {kc ks : Nat} {n : Nat} {x1 : Int32} {x2 : Int32} {m : am_m} {t : am_m} (h : lp_X10_remember_41 n x1 x2 m = some t) (hk : am_Go d 180 (67, [some (.inr (.inr (some (10, 0)))), some (.inl x1), none], [], am_mk t) r M' kc ks) : am_Go d 180 (41, [some (.inr (.inr (some (10, 0)))), some (.inl x1), some (.inl x2)], [], am_mk m) r M' kc ks := by
  have htb : am_tab 180 = at_180 := rfl
  induction n generalizing x2 m with
  | zero => cases h
  | succ n ih =>
    unfold lp_X10_remember_41 at h
    refine am_Go.n htb 2 (S' := (44, [some (.inr (.inr (some (10, 0)))), some (.inl x1), some (.inl x2)], [.inl 15, .inl x2], am_mk m)) rfl ?_
    by_cases hc7 : (15 : Int32) ≤ x2
    · rw [if_pos hc7] at h
      refine am_Go.c1 htb (S' := (67, [some (.inr (.inr (some (10, 0)))), some (.inl x1), some (.inl x2)], [], am_mk m)) (if_pos hc7) ?_
      cases h
      exact am_Go.fg (by exact ⟨rfl, ⟨rfl, trivial⟩⟩) hk
    · rw [if_neg hc7] at h
      refine am_Go.c1 htb (S' := (47, [some (.inr (.inr (some (10, 0)))), some (.inl x1), some (.inl x2)], [], am_mk m)) (if_neg hc7) ?_
      refine am_Go.n htb 8 (S' := (59, [some (.inr (.inr (some (10, 0)))), some (.inl x1), some (.inl x2)], [.inl (x2 + (1 : Int32)), .inr (.inr (some (47, 0))), .inl x2, .inr (.inr (some (47, 0)))], am_mk m)) rfl ?_
      obtain ⟨hg8, h⟩ := am_ck_some h
      refine am_Go.c1 htb (S' := (60, [some (.inr (.inr (some (10, 0)))), some (.inl x1), some (.inl x2)], [.inl (m.1 47 0 (x2 + (1 : Int32)).toNatClampNeg), .inl x2, .inr (.inr (some (47, 0)))], am_mk m)) (if_neg hg8) ?_
      obtain ⟨hg9, h⟩ := am_ck_some h
      refine am_Go.c1 htb (S' := (61, [some (.inr (.inr (some (10, 0)))), some (.inl x1), some (.inl x2)], [], am_mk (am_si m 47 0 x2.toNatClampNeg (m.1 47 0 (x2 + (1 : Int32)).toNatClampNeg)))) (if_neg hg9) ?_
      refine am_Go.n htb 2 (S' := (41, [some (.inr (.inr (some (10, 0)))), some (.inl x1), some (.inl (x2 + 1))], [], am_mk (am_si m 47 0 x2.toNatClampNeg (m.1 47 0 (x2 + (1 : Int32)).toNatClampNeg)))) rfl ?_
      first | exact ih h | exact ih h hk
set_option maxRecDepth 100000 in
theorem ex_X10_remember (d : Nat) (hd : 2 ≤ d) (a1 : Int32) (m : am_m) (t : am_m) (h : fn_X10_remember a1 m = some t) : am_Ex am_cod d 180 [.inr (.inr (some (10, 0))), .inl a1] (am_mk m) (none) (am_mk t) 0 0 := by
  obtain ⟨d, rfl⟩ : ∃ e, d = e + 1 := ⟨d - 1, by omega⟩
  have htb : am_tab 180 = at_180 := rfl
  refine ⟨Nat.le_of_ble_eq_true rfl, ?_⟩
  unfold fn_X10_remember at h
  show am_Go d 180 (0, [some (.inr (.inr (some (10, 0)))), some (.inl a1), none], [], am_mk m) _ _ 0 0
  refine am_Go.n htb 3 (S' := (6, [some (.inr (.inr (some (10, 0)))), some (.inl a1), none], [.inl 16, .inl (m.1 10 0 8)], am_mk m)) rfl ?_
  obtain ⟨q12, h16, h⟩ := am_bd h
  refine am_Go.cut (S := (77, [some (.inr (.inr (some (10, 0)))), some (.inl a1), none], [], am_mk q12)) ?_ (fun key => ?_)
  · refine am_Go.n htb 3 (S' := (82, [some (.inr (.inr (some (10, 0)))), some (.inl a1), none], [.inl (q12.1 10 0 8), .inr (.inr (some (10, 0)))], am_mk q12)) rfl ?_
    obtain ⟨r13, h14, h⟩ := am_bd h
    refine am_Go.cl htb rfl (ex_X10_keepAll d (by omega) (q12.1 10 0 8) q12 r13 h14) ?_
    show am_Go d 180 (85, [some (.inr (.inr (some (10, 0)))), some (.inl a1), none], [], am_mk r13) _ _ _ _
    refine am_Go.n htb 5 (S' := (94, [some (.inr (.inr (some (10, 0)))), some (.inl a1), none], [.inl a1, .inl (r13.1 10 0 8), .inr (.inr (some (47, 0)))], am_mk r13)) rfl ?_
    obtain ⟨hg15, h⟩ := am_ck_some h
    refine am_Go.c1 htb (S' := (95, [some (.inr (.inr (some (10, 0)))), some (.inl a1), none], [], am_mk (am_si r13 47 0 (r13.1 10 0 8).toNatClampNeg a1))) (if_neg hg15) ?_
    refine am_Go.n htb 6 (S' := (105, [some (.inr (.inr (some (10, 0)))), some (.inl a1), none], [], am_mk (am_si (am_si r13 47 0 (r13.1 10 0 8).toNatClampNeg a1) 10 0 8 ((r13.1 10 0 8) + (1 : Int32))))) rfl ?_
    cases h
    exact am_Go.rt htb rfl
  · have h := h16
    by_cases hc1 : (m.1 10 0 8) ≠ (16 : Int32)
    · rw [if_pos hc1] at h
      refine am_Go.c1 htb (S' := (77, [some (.inr (.inr (some (10, 0)))), some (.inl a1), none], [], am_mk m)) (if_pos hc1) ?_
      cases h
      exact am_Go.fg (by exact ⟨rfl, ⟨rfl, trivial⟩⟩) key
    · rw [if_neg hc1] at h
      refine am_Go.c1 htb (S' := (9, [some (.inr (.inr (some (10, 0)))), some (.inl a1), none], [], am_mk m)) (if_neg hc1) ?_
      refine am_Go.n htb 2 (S' := (11, [some (.inr (.inr (some (10, 0)))), some (.inl a1), some (.inl 0)], [], am_mk m)) rfl ?_
      obtain ⟨q5, h6, h⟩ := am_bd h
      refine lt_X10_remember_11 _ hd (h := h6) (hk := ?_)
      refine am_Go.n htb 2 (S' := (41, [some (.inr (.inr (some (10, 0)))), some (.inl a1), some (.inl 0)], [], am_mk q5)) rfl ?_
      obtain ⟨q10, h11, h⟩ := am_bd h
      refine lt_X10_remember_41 _ hd (h := h11) (hk := ?_)
      refine am_Go.n htb 6 (S' := (77, [some (.inr (.inr (some (10, 0)))), some (.inl a1), none], [], am_mk (am_si q10 10 0 8 ((q10.1 10 0 8) - (1 : Int32))))) rfl ?_
      cases h
      exact am_Go.fg (by exact ⟨rfl, ⟨rfl, trivial⟩⟩) key
-- X10_undo
set_option maxRecDepth 100000 in
theorem ex_X10_undo (d : Nat) (hd : 2 ≤ d)  (m : am_m) (t : Int32 × am_m) (h : fn_X10_undo  m = some t) : am_Ex am_cod d 181 [.inr (.inr (some (10, 0)))] (am_mk m) (some (.inl t.1)) (am_mk t.2) 0 0 := by
  obtain ⟨d, rfl⟩ : ∃ e, d = e + 1 := ⟨d - 1, by omega⟩
  have htb : am_tab 181 = at_181 := rfl
  refine ⟨Nat.le_of_ble_eq_true rfl, ?_⟩
  unfold fn_X10_undo at h
  show am_Go d 181 (0, [some (.inr (.inr (some (10, 0))))], [], am_mk m) _ _ 0 0
  refine am_Go.n htb 5 (S' := (9, [some (.inr (.inr (some (10, 0))))], [.inl (m.1 10 0 8)], am_mk (am_si m 10 0 0 0))) rfl ?_
  by_cases hc1 : (m.1 10 0 8) ≠ 0
  · rw [if_pos hc1] at h
    refine am_Go.c1 htb (S' := (19, [some (.inr (.inr (some (10, 0))))], [], am_mk (am_si m 10 0 0 0))) (if_pos hc1) ?_
    refine am_Go.n htb 9 (S' := (34, [some (.inr (.inr (some (10, 0))))], [.inl ((m.1 10 0 8) - (1 : Int32)), .inr (.inr (some (10, 0)))], am_mk (am_si (am_si m 10 0 0 0) 10 0 8 ((m.1 10 0 8) - (1 : Int32))))) rfl ?_
    obtain ⟨r2, h3, h⟩ := am_bd h
    refine am_Go.cl htb rfl (ex_X10_putBack d (by omega) ((m.1 10 0 8) - (1 : Int32)) (am_si (am_si m 10 0 0 0) 10 0 8 ((m.1 10 0 8) - (1 : Int32))) r2 h3) ?_
    show am_Go d 181 (37, [some (.inr (.inr (some (10, 0))))], [], am_mk r2) _ _ _ _
    refine am_Go.n htb 5 (S' := (46, [some (.inr (.inr (some (10, 0))))], [.inl (r2.1 10 0 8), .inr (.inr (some (47, 0))), .inr (.inr (some (10, 0)))], am_mk r2)) rfl ?_
    obtain ⟨hg4, h⟩ := am_ck_some h
    refine am_Go.c1 htb (S' := (47, [some (.inr (.inr (some (10, 0))))], [.inl (r2.1 47 0 (r2.1 10 0 8).toNatClampNeg), .inr (.inr (some (10, 0)))], am_mk r2)) (if_neg hg4) ?_
    obtain ⟨r5, h6, h⟩ := am_bd h
    refine am_Go.cl htb rfl (ex_X10_tell d (by omega) (r2.1 47 0 (r2.1 10 0 8).toNatClampNeg) r2 r5 h6) ?_
    show am_Go d 181 (50, [some (.inr (.inr (some (10, 0))))], [.inl r5.1], am_mk r5.2) _ _ _ _
    cases h
    exact am_Go.rt htb rfl
  · rw [if_neg hc1] at h
    refine am_Go.c1 htb (S' := (12, [some (.inr (.inr (some (10, 0))))], [], am_mk (am_si m 10 0 0 0))) (if_neg hc1) ?_
    refine am_Go.n htb 2 (S' := (15, [some (.inr (.inr (some (10, 0))))], [.inl (-3), .inr (.inr (some (10, 0)))], am_mk (am_si m 10 0 0 0))) rfl ?_
    obtain ⟨r7, h8, h⟩ := am_bd h
    refine am_Go.cl htb rfl (ex_X10_tell d (by omega) (-3) (am_si m 10 0 0 0) r7 h8) ?_
    show am_Go d 181 (18, [some (.inr (.inr (some (10, 0))))], [.inl r7.1], am_mk r7.2) _ _ _ _
    cases h
    exact am_Go.rt htb rfl
-- X10_image
set_option maxRecDepth 100000 in
theorem lt_X10_image_23 (d : Nat) (hd : 2 ≤ d + 1) {r : Option am_V} {M' : am_M} {kc ks : Nat} {n : Nat} {x1 : Int32} {x2 : Int32} {m : am_m} {t : am_m} (h : lp_X10_image_23 n x1 x2 m = some t) (hk : am_Go d 182 (54, [some (.inr (.inr (some (10, 0)))), some (.inl x1), none], [], am_mk t) r M' kc ks) : am_Go d 182 (23, [some (.inr (.inr (some (10, 0)))), some (.inl x1), some (.inl x2)], [], am_mk m) r M' kc ks := by
  have htb : am_tab 182 = at_182 := rfl
  induction n generalizing x2 m with
  | zero => cases h
  | succ n ih =>
    unfold lp_X10_image_23 at h
    refine am_Go.n htb 2 (S' := (27, [some (.inr (.inr (some (10, 0)))), some (.inl x1), some (.inl x2)], [.inl 5518, .inl x2], am_mk m)) rfl ?_
    by_cases hc4 : (5518 : Int32) ≤ x2
    · rw [if_pos hc4] at h
      refine am_Go.c1 htb (S' := (54, [some (.inr (.inr (some (10, 0)))), some (.inl x1), some (.inl x2)], [], am_mk m)) (if_pos hc4) ?_
      cases h
      exact am_Go.fg (by exact ⟨rfl, ⟨rfl, trivial⟩⟩) hk
    · rw [if_neg hc4] at h
      refine am_Go.c1 htb (S' := (30, [some (.inr (.inr (some (10, 0)))), some (.inl x1), some (.inl x2)], [], am_mk m)) (if_neg hc4) ?_
      refine am_Go.n htb 10 (S' := (46, [some (.inr (.inr (some (10, 0)))), some (.inl x1), some (.inl x2)], [.inl x2, .inr (.inr (some (44, 0))), .inl (((5518 : Int32) * x1) + x2), .inr (.inr (some (45, 0)))], am_mk m)) rfl ?_
      obtain ⟨hg5, h⟩ := am_ck_some h
      refine am_Go.c1 htb (S' := (47, [some (.inr (.inr (some (10, 0)))), some (.inl x1), some (.inl x2)], [.inl (m.1 44 0 x2.toNatClampNeg), .inl (((5518 : Int32) * x1) + x2), .inr (.inr (some (45, 0)))], am_mk m)) (if_neg hg5) ?_
      obtain ⟨hg6, h⟩ := am_ck_some h
      refine am_Go.c1 htb (S' := (48, [some (.inr (.inr (some (10, 0)))), some (.inl x1), some (.inl x2)], [], am_mk (am_si m 45 0 (((5518 : Int32) * x1) + x2).toNatClampNeg (m.1 44 0 x2.toNatClampNeg)))) (if_neg hg6) ?_
      refine am_Go.n htb 2 (S' := (23, [some (.inr (.inr (some (10, 0)))), some (.inl x1), some (.inl (x2 + 1))], [], am_mk (am_si m 45 0 (((5518 : Int32) * x1) + x2).toNatClampNeg (m.1 44 0 x2.toNatClampNeg)))) rfl ?_
      first | exact ih h | exact ih h hk
set_option maxRecDepth 100000 in
theorem ex_X10_image (d : Nat) (hd : 2 ≤ d) (a1 : Int32) (m : am_m) (t : Int32 × am_m) (h : fn_X10_image a1 m = some t) : am_Ex am_cod d 182 [.inr (.inr (some (10, 0))), .inl a1] (am_mk m) (some (.inl t.1)) (am_mk t.2) 0 0 := by
  obtain ⟨d, rfl⟩ : ∃ e, d = e + 1 := ⟨d - 1, by omega⟩
  have htb : am_tab 182 = at_182 := rfl
  refine ⟨Nat.le_of_ble_eq_true rfl, ?_⟩
  unfold fn_X10_image at h
  show am_Go d 182 (0, [some (.inr (.inr (some (10, 0)))), some (.inl a1), none], [], am_mk m) _ _ 0 0
  refine am_Go.n htb 7 (S' := (9, [some (.inr (.inr (some (10, 0)))), some (.inl a1), none], [.inr (.inl 1), .inr (.inl 0), .inr (.inl a1.toInt64)], am_mk (am_si m 10 0 0 0))) rfl ?_
  obtain ⟨r1, h2, h⟩ := am_bd h
  refine am_Go.cl htb rfl (ex_X10_in d (by omega) a1.toInt64 0 1 (am_si m 10 0 0 0) r1 h2) ?_
  show am_Go d 182 (12, [some (.inr (.inr (some (10, 0)))), some (.inl a1), none], [.inl r1], am_mk (am_si m 10 0 0 0)) _ _ _ _
  by_cases hc3 : r1 ≠ 0
  · rw [if_pos hc3] at h
    refine am_Go.c1 htb (S' := (21, [some (.inr (.inr (some (10, 0)))), some (.inl a1), none], [], am_mk (am_si m 10 0 0 0))) (if_pos hc3) ?_
    refine am_Go.n htb 2 (S' := (23, [some (.inr (.inr (some (10, 0)))), some (.inl a1), some (.inl 0)], [], am_mk (am_si m 10 0 0 0))) rfl ?_
    obtain ⟨q7, h8, h⟩ := am_bd h
    refine lt_X10_image_23 _ hd (h := h8) (hk := ?_)
    refine am_Go.n htb 4 (S' := (60, [some (.inr (.inr (some (10, 0)))), some (.inl a1), none], [.inl 1, .inl a1, .inr (.inr (some (91, 0)))], am_mk q7)) rfl ?_
    obtain ⟨hg9, h⟩ := am_ck_some h
    refine am_Go.o htb (am_o_zast) rfl (S' := (61, [some (.inr (.inr (some (10, 0)))), some (.inl a1), none], [], am_mk (am_si q7 91 0 a1.toNatClampNeg 1))) (am_zs (by decide) (by decide) hg9) ?_
    refine am_Go.n htb 2 (S' := (63, [some (.inr (.inr (some (10, 0)))), some (.inl a1), none], [.inl 0, .inr (.inr (some (10, 0)))], am_mk (am_si q7 91 0 a1.toNatClampNeg 1))) rfl ?_
    obtain ⟨r11, h12, h⟩ := am_bd h
    refine am_Go.cl htb rfl (ex_X10_tell d (by omega) 0 (am_si q7 91 0 a1.toNatClampNeg 1) r11 h12) ?_
    show am_Go d 182 (66, [some (.inr (.inr (some (10, 0)))), some (.inl a1), none], [.inl r11.1], am_mk r11.2) _ _ _ _
    cases h
    exact am_Go.rt htb rfl
  · rw [if_neg hc3] at h
    refine am_Go.c1 htb (S' := (15, [some (.inr (.inr (some (10, 0)))), some (.inl a1), none], [], am_mk (am_si m 10 0 0 0))) (if_neg hc3) ?_
    refine am_Go.n htb 2 (S' := (17, [some (.inr (.inr (some (10, 0)))), some (.inl a1), none], [.inl (-1), .inr (.inr (some (10, 0)))], am_mk (am_si m 10 0 0 0))) rfl ?_
    obtain ⟨r13, h14, h⟩ := am_bd h
    refine am_Go.cl htb rfl (ex_X10_tell d (by omega) (-1) (am_si m 10 0 0 0) r13 h14) ?_
    show am_Go d 182 (20, [some (.inr (.inr (some (10, 0)))), some (.inl a1), none], [.inl r13.1], am_mk r13.2) _ _ _ _
    cases h
    exact am_Go.rt htb rfl
-- X10_back
set_option maxRecDepth 100000 in
theorem lt_X10_back_39 (d : Nat) (hd : 3 ≤ d + 1) {r : Option am_V} {M' : am_M} {kc ks : Nat} {n : Nat} {x1 : Int32} {x2 : Int32} {m : am_m} {t : am_m} (h : lp_X10_back_39 n x1 x2 m = some t) (hk : am_Go d 183 (70, [some (.inr (.inr (some (10, 0)))), some (.inl x1), none], [], am_mk t) r M' kc ks) : am_Go d 183 (39, [some (.inr (.inr (some (10, 0)))), some (.inl x1), some (.inl x2)], [], am_mk m) r M' kc ks := by
  have htb : am_tab 183 = at_183 := rfl
  induction n generalizing x2 m with
  | zero => cases h
  | succ n ih =>
    unfold lp_X10_back_39 at h
    refine am_Go.n htb 2 (S' := (43, [some (.inr (.inr (some (10, 0)))), some (.inl x1), some (.inl x2)], [.inl 5518, .inl x2], am_mk m)) rfl ?_
    by_cases hc6 : (5518 : Int32) ≤ x2
    · rw [if_pos hc6] at h
      refine am_Go.c1 htb (S' := (70, [some (.inr (.inr (some (10, 0)))), some (.inl x1), some (.inl x2)], [], am_mk m)) (if_pos hc6) ?_
      cases h
      exact am_Go.fg (by exact ⟨rfl, ⟨rfl, trivial⟩⟩) hk
    · rw [if_neg hc6] at h
      refine am_Go.c1 htb (S' := (46, [some (.inr (.inr (some (10, 0)))), some (.inl x1), some (.inl x2)], [], am_mk m)) (if_neg hc6) ?_
      refine am_Go.n htb 10 (S' := (62, [some (.inr (.inr (some (10, 0)))), some (.inl x1), some (.inl x2)], [.inl (((5518 : Int32) * x1) + x2), .inr (.inr (some (45, 0))), .inl x2, .inr (.inr (some (44, 0)))], am_mk m)) rfl ?_
      obtain ⟨hg7, h⟩ := am_ck_some h
      refine am_Go.c1 htb (S' := (63, [some (.inr (.inr (some (10, 0)))), some (.inl x1), some (.inl x2)], [.inl (m.1 45 0 (((5518 : Int32) * x1) + x2).toNatClampNeg), .inl x2, .inr (.inr (some (44, 0)))], am_mk m)) (if_neg hg7) ?_
      obtain ⟨hg8, h⟩ := am_ck_some h
      refine am_Go.c1 htb (S' := (64, [some (.inr (.inr (some (10, 0)))), some (.inl x1), some (.inl x2)], [], am_mk (am_si m 44 0 x2.toNatClampNeg (m.1 45 0 (((5518 : Int32) * x1) + x2).toNatClampNeg)))) (if_neg hg8) ?_
      refine am_Go.n htb 2 (S' := (39, [some (.inr (.inr (some (10, 0)))), some (.inl x1), some (.inl (x2 + 1))], [], am_mk (am_si m 44 0 x2.toNatClampNeg (m.1 45 0 (((5518 : Int32) * x1) + x2).toNatClampNeg)))) rfl ?_
      first | exact ih h | exact ih h hk
set_option maxRecDepth 100000 in
theorem ex_X10_back (d : Nat) (hd : 3 ≤ d) (a1 : Int32) (m : am_m) (t : Int32 × am_m) (h : fn_X10_back a1 m = some t) : am_Ex am_cod d 183 [.inr (.inr (some (10, 0))), .inl a1] (am_mk m) (some (.inl t.1)) (am_mk t.2) 0 0 := by
  obtain ⟨d, rfl⟩ : ∃ e, d = e + 1 := ⟨d - 1, by omega⟩
  have htb : am_tab 183 = at_183 := rfl
  refine ⟨Nat.le_of_ble_eq_true rfl, ?_⟩
  unfold fn_X10_back at h
  show am_Go d 183 (0, [some (.inr (.inr (some (10, 0)))), some (.inl a1), none], [], am_mk m) _ _ 0 0
  refine am_Go.n htb 7 (S' := (9, [some (.inr (.inr (some (10, 0)))), some (.inl a1), none], [.inr (.inl 1), .inr (.inl 0), .inr (.inl a1.toInt64)], am_mk (am_si m 10 0 0 0))) rfl ?_
  obtain ⟨r1, h2, h⟩ := am_bd h
  refine am_Go.cl htb rfl (ex_X10_in d (by omega) a1.toInt64 0 1 (am_si m 10 0 0 0) r1 h2) ?_
  show am_Go d 183 (12, [some (.inr (.inr (some (10, 0)))), some (.inl a1), none], [.inl r1], am_mk (am_si m 10 0 0 0)) _ _ _ _
  by_cases hc3 : r1 ≠ 0
  · rw [if_pos hc3] at h
    refine am_Go.c1 htb (S' := (21, [some (.inr (.inr (some (10, 0)))), some (.inl a1), none], [], am_mk (am_si m 10 0 0 0))) (if_pos hc3) ?_
    refine am_Go.n htb 3 (S' := (26, [some (.inr (.inr (some (10, 0)))), some (.inl a1), none], [.inl a1, .inr (.inr (some (91, 0)))], am_mk (am_si m 10 0 0 0))) rfl ?_
    obtain ⟨hg4, h⟩ := am_ck_some h
    refine am_Go.c1 htb (S' := (27, [some (.inr (.inr (some (10, 0)))), some (.inl a1), none], [.inl (m.1 91 0 a1.toNatClampNeg)], am_mk (am_si m 10 0 0 0))) (if_neg hg4) ?_
    by_cases hc5 : (m.1 91 0 a1.toNatClampNeg) ≠ 0
    · rw [if_pos hc5] at h
      refine am_Go.c1 htb (S' := (37, [some (.inr (.inr (some (10, 0)))), some (.inl a1), none], [], am_mk (am_si m 10 0 0 0))) (if_pos hc5) ?_
      refine am_Go.n htb 2 (S' := (39, [some (.inr (.inr (some (10, 0)))), some (.inl a1), some (.inl 0)], [], am_mk (am_si m 10 0 0 0))) rfl ?_
      obtain ⟨q9, h10, h⟩ := am_bd h
      refine lt_X10_back_39 _ hd (h := h10) (hk := ?_)
      refine am_Go.n htb 2 (S' := (72, [some (.inr (.inr (some (10, 0)))), some (.inl a1), none], [.inl 0, .inr (.inr (some (10, 0)))], am_mk q9)) rfl ?_
      obtain ⟨r11, h12, h⟩ := am_bd h
      refine am_Go.cl htb rfl (ex_X10_lasting d (by omega) 0 q9 r11 h12) ?_
      show am_Go d 183 (75, [some (.inr (.inr (some (10, 0)))), some (.inl a1), none], [.inl r11.1], am_mk r11.2) _ _ _ _
      cases h
      exact am_Go.rt htb rfl
    · rw [if_neg hc5] at h
      refine am_Go.c1 htb (S' := (30, [some (.inr (.inr (some (10, 0)))), some (.inl a1), none], [], am_mk (am_si m 10 0 0 0))) (if_neg hc5) ?_
      refine am_Go.n htb 2 (S' := (33, [some (.inr (.inr (some (10, 0)))), some (.inl a1), none], [.inl (-2), .inr (.inr (some (10, 0)))], am_mk (am_si m 10 0 0 0))) rfl ?_
      obtain ⟨r13, h14, h⟩ := am_bd h
      refine am_Go.cl htb rfl (ex_X10_tell d (by omega) (-2) (am_si m 10 0 0 0) r13 h14) ?_
      show am_Go d 183 (36, [some (.inr (.inr (some (10, 0)))), some (.inl a1), none], [.inl r13.1], am_mk r13.2) _ _ _ _
      cases h
      exact am_Go.rt htb rfl
  · rw [if_neg hc3] at h
    refine am_Go.c1 htb (S' := (15, [some (.inr (.inr (some (10, 0)))), some (.inl a1), none], [], am_mk (am_si m 10 0 0 0))) (if_neg hc3) ?_
    refine am_Go.n htb 2 (S' := (17, [some (.inr (.inr (some (10, 0)))), some (.inl a1), none], [.inl (-1), .inr (.inr (some (10, 0)))], am_mk (am_si m 10 0 0 0))) rfl ?_
    obtain ⟨r15, h16, h⟩ := am_bd h
    refine am_Go.cl htb rfl (ex_X10_tell d (by omega) (-1) (am_si m 10 0 0 0) r15 h16) ?_
    show am_Go d 183 (20, [some (.inr (.inr (some (10, 0)))), some (.inl a1), none], [.inl r15.1], am_mk r15.2) _ _ _ _
    cases h
    exact am_Go.rt htb rfl
-- X10_isFolk
set_option maxRecDepth 100000 in
theorem ex_X10_isFolk (d : Nat) (hd : 2 ≤ d) (a1 : Int32) (m : am_m) (t : Int32) (h : fn_X10_isFolk a1 m = some t) : am_Ex am_cod d 184 [.inr (.inr (some (10, 0))), .inl a1] (am_mk m) (some (.inl t)) (am_mk m) 0 0 := by
  obtain ⟨d, rfl⟩ : ∃ e, d = e + 1 := ⟨d - 1, by omega⟩
  have htb : am_tab 184 = at_184 := rfl
  refine ⟨Nat.le_of_ble_eq_true rfl, ?_⟩
  unfold fn_X10_isFolk at h
  show am_Go d 184 (0, [some (.inr (.inr (some (10, 0)))), some (.inl a1)], [], am_mk m) _ _ 0 0
  refine am_Go.n htb 10 (S' := (12, [some (.inr (.inr (some (10, 0)))), some (.inl a1)], [.inr (.inl (((m.1 44 0 0).toInt64) - (1 : Int64))), .inr (.inl 0), .inr (.inl a1.toInt64)], am_mk m)) rfl ?_
  obtain ⟨r1, h2, h⟩ := am_bd h
  refine am_Go.cl htb rfl (ex_X10_in d (by omega) a1.toInt64 0 (((m.1 44 0 0).toInt64) - (1 : Int64)) m r1 h2) ?_
  show am_Go d 184 (15, [some (.inr (.inr (some (10, 0)))), some (.inl a1)], [.inl r1], am_mk m) _ _ _ _
  obtain ⟨hz3, h⟩ := am_gd_some h
  cases h
  exact am_Go.rt htb (if_pos hz3)
-- X10_all
set_option maxRecDepth 100000 in
theorem ex_X10_all (d : Nat) (hd : 1 ≤ d)  (m : am_m) (t : Int32) (h : fn_X10_all  m = some t) : am_Ex am_cod d 185 [.inr (.inr (some (10, 0)))] (am_mk m) (some (.inl t)) (am_mk m) 0 0 := by
  obtain ⟨d, rfl⟩ : ∃ e, d = e + 1 := ⟨d - 1, by omega⟩
  have htb : am_tab 185 = at_185 := rfl
  refine ⟨Nat.le_of_ble_eq_true rfl, ?_⟩
  unfold fn_X10_all at h
  show am_Go d 185 (0, [some (.inr (.inr (some (10, 0))))], [], am_mk m) _ _ 0 0
  refine am_Go.n htb 8 (S' := (10, [some (.inr (.inr (some (10, 0))))], [.inl (((1 : Int32) <<< ((m.1 44 0 0) &&& 31)) - (1 : Int32))], am_mk m)) rfl ?_
  cases h
  exact am_Go.rt htb rfl
-- X10_areThere
set_option maxRecDepth 100000 in
theorem ex_X10_areThere (d : Nat) (hd : 2 ≤ d) (a1 : Int32) (m : am_m) (t : Int32) (h : fn_X10_areThere a1 m = some t) : am_Ex am_cod d 186 [.inr (.inr (some (10, 0))), .inl a1] (am_mk m) (some (.inl t)) (am_mk m) 0 0 := by
  obtain ⟨d, rfl⟩ : ∃ e, d = e + 1 := ⟨d - 1, by omega⟩
  have htb : am_tab 186 = at_186 := rfl
  refine ⟨Nat.le_of_ble_eq_true rfl, ?_⟩
  unfold fn_X10_areThere at h
  show am_Go d 186 (0, [some (.inr (.inr (some (10, 0)))), some (.inl a1)], [], am_mk m) _ _ 0 0
  refine am_Go.n htb 2 (S' := (2, [some (.inr (.inr (some (10, 0)))), some (.inl a1)], [.inr (.inr (some (10, 0))), .inl a1], am_mk m)) rfl ?_
  obtain ⟨r1, h2, h⟩ := am_bd h
  refine am_Go.cl htb rfl (ex_X10_all d (by omega)  m r1 h2) ?_
  show am_Go d 186 (5, [some (.inr (.inr (some (10, 0)))), some (.inl a1)], [.inl r1, .inl a1], am_mk m) _ _ _ _
  refine am_Go.n htb 3 (S' := (8, [some (.inr (.inr (some (10, 0)))), some (.inl a1)], [.inl (a1 &&& (r1 ^^^ (-1 : Int32)))], am_mk m)) rfl ?_
  by_cases hc3 : (a1 &&& (r1 ^^^ (-1 : Int32))) ≠ 0
  · rw [if_pos hc3] at h
    refine am_Go.c1 htb (S' := (15, [some (.inr (.inr (some (10, 0)))), some (.inl a1)], [], am_mk m)) (if_pos hc3) ?_
    refine am_Go.n htb 1 (S' := (16, [some (.inr (.inr (some (10, 0)))), some (.inl a1)], [.inl 0], am_mk m)) rfl ?_
    cases h
    exact am_Go.rt htb rfl
  · rw [if_neg hc3] at h
    refine am_Go.c1 htb (S' := (11, [some (.inr (.inr (some (10, 0)))), some (.inl a1)], [], am_mk m)) (if_neg hc3) ?_
    refine am_Go.n htb 2 (S' := (16, [some (.inr (.inr (some (10, 0)))), some (.inl a1)], [.inl 1], am_mk m)) rfl ?_
    cases h
    exact am_Go.rt htb rfl
-- X10_isSet
set_option maxRecDepth 100000 in
theorem ex_X10_isSet (d : Nat) (hd : 2 ≤ d) (a1 : Int32) (m : am_m) (t : Int32) (h : fn_X10_isSet a1 m = some t) : am_Ex am_cod d 187 [.inl a1] (am_mk m) (some (.inl t)) (am_mk m) 0 0 := by
  obtain ⟨d, rfl⟩ : ∃ e, d = e + 1 := ⟨d - 1, by omega⟩
  have htb : am_tab 187 = at_187 := rfl
  refine ⟨Nat.le_of_ble_eq_true rfl, ?_⟩
  unfold fn_X10_isSet at h
  show am_Go d 187 (0, [some (.inl a1)], [], am_mk m) _ _ 0 0
  refine am_Go.n htb 4 (S' := (6, [some (.inl a1)], [.inr (.inl 127), .inr (.inl 0), .inr (.inl a1.toInt64)], am_mk m)) rfl ?_
  obtain ⟨r1, h2, h⟩ := am_bd h
  refine am_Go.cl htb rfl (ex_X10_in d (by omega) a1.toInt64 0 127 m r1 h2) ?_
  show am_Go d 187 (9, [some (.inl a1)], [.inl r1], am_mk m) _ _ _ _
  obtain ⟨hz3, h⟩ := am_gd_some h
  cases h
  exact am_Go.rt htb (if_pos hz3)
-- X10_weightOf
set_option maxRecDepth 100000 in
theorem ex_X10_weightOf (d : Nat) (hd : 1 ≤ d) (a1 : Int32) (a2 : Int32) (m : am_m) (t : Int32) (h : fn_X10_weightOf a1 a2 m = some t) : am_Ex am_cod d 188 [.inr (.inr (some (10, 0))), .inl a1, .inl a2] (am_mk m) (some (.inl t)) (am_mk m) 0 0 := by
  obtain ⟨d, rfl⟩ : ∃ e, d = e + 1 := ⟨d - 1, by omega⟩
  have htb : am_tab 188 = at_188 := rfl
  refine ⟨Nat.le_of_ble_eq_true rfl, ?_⟩
  unfold fn_X10_weightOf at h
  show am_Go d 188 (0, [some (.inr (.inr (some (10, 0)))), some (.inl a1), some (.inl a2)], [], am_mk m) _ _ 0 0
  refine am_Go.n htb 9 (S' := (13, [some (.inr (.inr (some (10, 0)))), some (.inl a1), some (.inl a2)], [.inl (((14 : Int32) + ((7 : Int32) * a1)) + a2), .inr (.inr (some (44, 0)))], am_mk m)) rfl ?_
  obtain ⟨hg1, h⟩ := am_ck_some h
  refine am_Go.c1 htb (S' := (14, [some (.inr (.inr (some (10, 0)))), some (.inl a1), some (.inl a2)], [.inl (m.1 44 0 (((14 : Int32) + ((7 : Int32) * a1)) + a2).toNatClampNeg)], am_mk m)) (if_neg hg1) ?_
  cases h
  exact am_Go.rt htb rfl
-- X10_harmsOf
set_option maxRecDepth 100000 in
theorem lt_X10_harmsOf_4 (d : Nat) (hd : 1 ≤ d + 1) {r : Option am_V} {M' : am_M} {kc ks : Nat} {n : Nat} {x1 : Int32} {x2 : Int32} {m : am_m} {t : Int32} (h : lp_X10_harmsOf_4 n x1 x2 m = some t) (hk : am_Go d 189 (36, [some (.inr (.inr (some (10, 0)))), some (.inl t), none], [], am_mk m) r M' kc ks) : am_Go d 189 (4, [some (.inr (.inr (some (10, 0)))), some (.inl x1), some (.inl x2)], [], am_mk m) r M' kc ks := by
  have htb : am_tab 189 = at_189 := rfl
  induction n generalizing x1 x2 with
  | zero => cases h
  | succ n ih =>
    unfold lp_X10_harmsOf_4 at h
    refine am_Go.n htb 2 (S' := (7, [some (.inr (.inr (some (10, 0)))), some (.inl x1), some (.inl x2)], [.inl 49, .inl x2], am_mk m)) rfl ?_
    by_cases hc1 : (49 : Int32) ≤ x2
    · rw [if_pos hc1] at h
      refine am_Go.c1 htb (S' := (36, [some (.inr (.inr (some (10, 0)))), some (.inl x1), some (.inl x2)], [], am_mk m)) (if_pos hc1) ?_
      cases h
      exact am_Go.fg (by exact ⟨rfl, ⟨rfl, trivial⟩⟩) hk
    · rw [if_neg hc1] at h
      refine am_Go.c1 htb (S' := (10, [some (.inr (.inr (some (10, 0)))), some (.inl x1), some (.inl x2)], [], am_mk m)) (if_neg hc1) ?_
      refine am_Go.n htb 6 (S' := (19, [some (.inr (.inr (some (10, 0)))), some (.inl x1), some (.inl x2)], [.inl ((14 : Int32) + x2), .inr (.inr (some (44, 0))), .inl x1], am_mk m)) rfl ?_
      obtain ⟨hg2, h⟩ := am_ck_some h
      refine am_Go.c1 htb (S' := (20, [some (.inr (.inr (some (10, 0)))), some (.inl x1), some (.inl x2)], [.inl (m.1 44 0 ((14 : Int32) + x2).toNatClampNeg), .inl x1], am_mk m)) (if_neg hg2) ?_
      refine am_Go.cut (S := (28, [some (.inr (.inr (some (10, 0)))), some (.inl x1), some (.inl x2)], [.inl (if (m.1 44 0 ((14 : Int32) + x2).toNatClampNeg) ≤ 0 then (0 : Int32) else (1 : Int32)), .inl x1], am_mk m)) ?_ (fun key => ?_)
      · refine am_Go.n htb 4 (S' := (4, [some (.inr (.inr (some (10, 0)))), some (.inl (x1 + (if (m.1 44 0 ((14 : Int32) + x2).toNatClampNeg) ≤ 0 then (0 : Int32) else (1 : Int32)))), some (.inl (x2 + 1))], [], am_mk m)) rfl ?_
        first | exact ih h | exact ih h hk
      · by_cases hc3 : (m.1 44 0 ((14 : Int32) + x2).toNatClampNeg) ≤ 0
        · refine am_Go.c1 htb (S' := (27, [some (.inr (.inr (some (10, 0)))), some (.inl x1), some (.inl x2)], [.inl x1], am_mk m)) (if_pos hc3) ?_
          refine am_Go.n htb 1 (S' := (28, [some (.inr (.inr (some (10, 0)))), some (.inl x1), some (.inl x2)], [.inl 0, .inl x1], am_mk m)) rfl ?_
          simp only [if_pos hc3] at key
          exact am_Go.fg (by exact ⟨rfl, ⟨rfl, ⟨rfl, trivial⟩⟩⟩) key
        · refine am_Go.c1 htb (S' := (23, [some (.inr (.inr (some (10, 0)))), some (.inl x1), some (.inl x2)], [.inl x1], am_mk m)) (if_neg hc3) ?_
          refine am_Go.n htb 2 (S' := (28, [some (.inr (.inr (some (10, 0)))), some (.inl x1), some (.inl x2)], [.inl 1, .inl x1], am_mk m)) rfl ?_
          simp only [if_neg hc3] at key
          exact am_Go.fg (by exact ⟨rfl, ⟨rfl, ⟨rfl, trivial⟩⟩⟩) key
set_option maxRecDepth 100000 in
theorem ex_X10_harmsOf (d : Nat) (hd : 1 ≤ d)  (m : am_m) (t : Int32) (h : fn_X10_harmsOf  m = some t) : am_Ex am_cod d 189 [.inr (.inr (some (10, 0)))] (am_mk m) (some (.inl t)) (am_mk m) 0 0 := by
  obtain ⟨d, rfl⟩ : ∃ e, d = e + 1 := ⟨d - 1, by omega⟩
  have htb : am_tab 189 = at_189 := rfl
  refine ⟨Nat.le_of_ble_eq_true rfl, ?_⟩
  unfold fn_X10_harmsOf at h
  show am_Go d 189 (0, [some (.inr (.inr (some (10, 0)))), none, none], [], am_mk m) _ _ 0 0
  refine am_Go.n htb 4 (S' := (4, [some (.inr (.inr (some (10, 0)))), some (.inl 0), some (.inl 0)], [], am_mk m)) rfl ?_
  obtain ⟨q4, h5, h⟩ := am_bd h
  refine lt_X10_harmsOf_4 _ hd (h := h5) (hk := ?_)
  refine am_Go.n htb 1 (S' := (37, [some (.inr (.inr (some (10, 0)))), some (.inl q4), none], [.inl q4], am_mk m)) rfl ?_
  cases h
  exact am_Go.rt htb rfl
-- X10_starving
set_option maxRecDepth 100000 in
theorem lt_X10_starving_4 (d : Nat) (hd : 1 ≤ d + 1) {r : Option am_V} {M' : am_M} {kc ks : Nat} {n : Nat} {x1 : Int32} {x2 : Int32} {m : am_m} {t : Int32} (h : lp_X10_starving_4 n x1 x2 m = some t) (hk : am_Go d 190 (40, [some (.inr (.inr (some (10, 0)))), some (.inl t), none], [], am_mk m) r M' kc ks) : am_Go d 190 (4, [some (.inr (.inr (some (10, 0)))), some (.inl x1), some (.inl x2)], [], am_mk m) r M' kc ks := by
  have htb : am_tab 190 = at_190 := rfl
  induction n generalizing x1 x2 with
  | zero => cases h
  | succ n ih =>
    unfold lp_X10_starving_4 at h
    refine am_Go.n htb 5 (S' := (11, [some (.inr (.inr (some (10, 0)))), some (.inl x1), some (.inl x2)], [.inl (m.1 44 0 0), .inl x2], am_mk m)) rfl ?_
    by_cases hc1 : (m.1 44 0 0) ≤ x2
    · rw [if_pos hc1] at h
      refine am_Go.c1 htb (S' := (40, [some (.inr (.inr (some (10, 0)))), some (.inl x1), some (.inl x2)], [], am_mk m)) (if_pos hc1) ?_
      cases h
      exact am_Go.fg (by exact ⟨rfl, ⟨rfl, trivial⟩⟩) hk
    · rw [if_neg hc1] at h
      refine am_Go.c1 htb (S' := (14, [some (.inr (.inr (some (10, 0)))), some (.inl x1), some (.inl x2)], [], am_mk m)) (if_neg hc1) ?_
      refine am_Go.n htb 6 (S' := (23, [some (.inr (.inr (some (10, 0)))), some (.inl x1), some (.inl x2)], [.inl ((7 : Int32) + x2), .inr (.inr (some (44, 0))), .inl x1], am_mk m)) rfl ?_
      obtain ⟨hg2, h⟩ := am_ck_some h
      refine am_Go.c1 htb (S' := (24, [some (.inr (.inr (some (10, 0)))), some (.inl x1), some (.inl x2)], [.inl (m.1 44 0 ((7 : Int32) + x2).toNatClampNeg), .inl x1], am_mk m)) (if_neg hg2) ?_
      refine am_Go.cut (S := (32, [some (.inr (.inr (some (10, 0)))), some (.inl x1), some (.inl x2)], [.inl (if (m.1 44 0 ((7 : Int32) + x2).toNatClampNeg) ≠ 0 then (0 : Int32) else (1 : Int32)), .inl x1], am_mk m)) ?_ (fun key => ?_)
      · refine am_Go.n htb 4 (S' := (4, [some (.inr (.inr (some (10, 0)))), some (.inl (x1 + (if (m.1 44 0 ((7 : Int32) + x2).toNatClampNeg) ≠ 0 then (0 : Int32) else (1 : Int32)))), some (.inl (x2 + 1))], [], am_mk m)) rfl ?_
        first | exact ih h | exact ih h hk
      · by_cases hc3 : (m.1 44 0 ((7 : Int32) + x2).toNatClampNeg) ≠ 0
        · refine am_Go.c1 htb (S' := (31, [some (.inr (.inr (some (10, 0)))), some (.inl x1), some (.inl x2)], [.inl x1], am_mk m)) (if_pos hc3) ?_
          refine am_Go.n htb 1 (S' := (32, [some (.inr (.inr (some (10, 0)))), some (.inl x1), some (.inl x2)], [.inl 0, .inl x1], am_mk m)) rfl ?_
          simp only [if_pos hc3] at key
          exact am_Go.fg (by exact ⟨rfl, ⟨rfl, ⟨rfl, trivial⟩⟩⟩) key
        · refine am_Go.c1 htb (S' := (27, [some (.inr (.inr (some (10, 0)))), some (.inl x1), some (.inl x2)], [.inl x1], am_mk m)) (if_neg hc3) ?_
          refine am_Go.n htb 2 (S' := (32, [some (.inr (.inr (some (10, 0)))), some (.inl x1), some (.inl x2)], [.inl 1, .inl x1], am_mk m)) rfl ?_
          simp only [if_neg hc3] at key
          exact am_Go.fg (by exact ⟨rfl, ⟨rfl, ⟨rfl, trivial⟩⟩⟩) key
set_option maxRecDepth 100000 in
theorem ex_X10_starving (d : Nat) (hd : 1 ≤ d)  (m : am_m) (t : Int32) (h : fn_X10_starving  m = some t) : am_Ex am_cod d 190 [.inr (.inr (some (10, 0)))] (am_mk m) (some (.inl t)) (am_mk m) 0 0 := by
  obtain ⟨d, rfl⟩ : ∃ e, d = e + 1 := ⟨d - 1, by omega⟩
  have htb : am_tab 190 = at_190 := rfl
  refine ⟨Nat.le_of_ble_eq_true rfl, ?_⟩
  unfold fn_X10_starving at h
  show am_Go d 190 (0, [some (.inr (.inr (some (10, 0)))), none, none], [], am_mk m) _ _ 0 0
  refine am_Go.n htb 4 (S' := (4, [some (.inr (.inr (some (10, 0)))), some (.inl 0), some (.inl 0)], [], am_mk m)) rfl ?_
  obtain ⟨q4, h5, h⟩ := am_bd h
  refine lt_X10_starving_4 _ hd (h := h5) (hk := ?_)
  refine am_Go.n htb 1 (S' := (41, [some (.inr (.inr (some (10, 0)))), some (.inl q4), none], [.inl q4], am_mk m)) rfl ?_
  cases h
  exact am_Go.rt htb rfl
-- X10_folk
set_option maxRecDepth 100000 in
theorem ex_X10_folk (d : Nat) (hd : 3 ≤ d) (a1 : Int32) (m : am_m) (t : Int32 × am_m) (h : fn_X10_folk a1 m = some t) : am_Ex am_cod d 191 [.inr (.inr (some (10, 0))), .inl a1] (am_mk m) (some (.inl t.1)) (am_mk t.2) 0 0 := by
  obtain ⟨d, rfl⟩ : ∃ e, d = e + 1 := ⟨d - 1, by omega⟩
  have htb : am_tab 191 = at_191 := rfl
  refine ⟨Nat.le_of_ble_eq_true rfl, ?_⟩
  unfold fn_X10_folk at h
  show am_Go d 191 (0, [some (.inr (.inr (some (10, 0)))), some (.inl a1), none], [], am_mk m) _ _ 0 0
  refine am_Go.n htb 7 (S' := (11, [some (.inr (.inr (some (10, 0)))), some (.inl a1), none], [.inr (.inl 9), .inr (.inl 0), .inr (.inl a1.toInt64)], am_mk (am_si m 10 0 0 0))) rfl ?_
  obtain ⟨r1, h2, h⟩ := am_bd h
  refine am_Go.cl htb rfl (ex_X10_in d (by omega) a1.toInt64 0 9 (am_si m 10 0 0 0) r1 h2) ?_
  show am_Go d 191 (14, [some (.inr (.inr (some (10, 0)))), some (.inl a1), none], [.inl r1], am_mk (am_si m 10 0 0 0)) _ _ _ _
  by_cases hc3 : r1 ≠ 0
  · rw [if_pos hc3] at h
    refine am_Go.c1 htb (S' := (23, [some (.inr (.inr (some (10, 0)))), some (.inl a1), none], [], am_mk (am_si m 10 0 0 0))) (if_pos hc3) ?_
    refine am_Go.n htb 7 (S' := (33, [some (.inr (.inr (some (10, 0)))), some (.inl a1), some (.inl (m.1 44 0 0))], [.inl 7, .inl (m.1 44 0 0)], am_mk (am_si m 10 0 0 0))) rfl ?_
    by_cases hc4 : (m.1 44 0 0) ≠ (7 : Int32)
    · rw [if_pos hc4] at h
      refine am_Go.c1 htb (S' := (43, [some (.inr (.inr (some (10, 0)))), some (.inl a1), some (.inl (m.1 44 0 0))], [], am_mk (am_si m 10 0 0 0))) (if_pos hc4) ?_
      refine am_Go.n htb 6 (S' := (52, [some (.inr (.inr (some (10, 0)))), some (.inl a1), some (.inl (m.1 44 0 0))], [.inl a1, .inl ((7 : Int32) + (m.1 44 0 0)), .inr (.inr (some (44, 0)))], am_mk (am_si m 10 0 0 0))) rfl ?_
      obtain ⟨hg5, h⟩ := am_ck_some h
      refine am_Go.c1 htb (S' := (53, [some (.inr (.inr (some (10, 0)))), some (.inl a1), some (.inl (m.1 44 0 0))], [], am_mk (am_si (am_si m 10 0 0 0) 44 0 ((7 : Int32) + (m.1 44 0 0)).toNatClampNeg a1))) (if_neg hg5) ?_
      refine am_Go.n htb 10 (S' := (65, [some (.inr (.inr (some (10, 0)))), some (.inl a1), some (.inl (m.1 44 0 0))], [.inl (m.1 44 0 0), .inr (.inr (some (10, 0)))], am_mk (am_si (am_si (am_si m 10 0 0 0) 44 0 ((7 : Int32) + (m.1 44 0 0)).toNatClampNeg a1) 44 0 0 (((am_si (am_si m 10 0 0 0) 44 0 ((7 : Int32) + (m.1 44 0 0)).toNatClampNeg a1).1 44 0 0) + (1 : Int32))))) rfl ?_
      obtain ⟨r6, h7, h⟩ := am_bd h
      refine am_Go.cl htb rfl (ex_X10_lasting d (by omega) (m.1 44 0 0) (am_si (am_si (am_si m 10 0 0 0) 44 0 ((7 : Int32) + (m.1 44 0 0)).toNatClampNeg a1) 44 0 0 (((am_si (am_si m 10 0 0 0) 44 0 ((7 : Int32) + (m.1 44 0 0)).toNatClampNeg a1).1 44 0 0) + (1 : Int32))) r6 h7) ?_
      show am_Go d 191 (68, [some (.inr (.inr (some (10, 0)))), some (.inl a1), some (.inl (m.1 44 0 0))], [.inl r6.1], am_mk r6.2) _ _ _ _
      cases h
      exact am_Go.rt htb rfl
    · rw [if_neg hc4] at h
      refine am_Go.c1 htb (S' := (36, [some (.inr (.inr (some (10, 0)))), some (.inl a1), some (.inl (m.1 44 0 0))], [], am_mk (am_si m 10 0 0 0))) (if_neg hc4) ?_
      refine am_Go.n htb 2 (S' := (39, [some (.inr (.inr (some (10, 0)))), some (.inl a1), some (.inl (m.1 44 0 0))], [.inl (-5), .inr (.inr (some (10, 0)))], am_mk (am_si m 10 0 0 0))) rfl ?_
      obtain ⟨r8, h9, h⟩ := am_bd h
      refine am_Go.cl htb rfl (ex_X10_tell d (by omega) (-5) (am_si m 10 0 0 0) r8 h9) ?_
      show am_Go d 191 (42, [some (.inr (.inr (some (10, 0)))), some (.inl a1), some (.inl (m.1 44 0 0))], [.inl r8.1], am_mk r8.2) _ _ _ _
      cases h
      exact am_Go.rt htb rfl
  · rw [if_neg hc3] at h
    refine am_Go.c1 htb (S' := (17, [some (.inr (.inr (some (10, 0)))), some (.inl a1), none], [], am_mk (am_si m 10 0 0 0))) (if_neg hc3) ?_
    refine am_Go.n htb 2 (S' := (19, [some (.inr (.inr (some (10, 0)))), some (.inl a1), none], [.inl (-1), .inr (.inr (some (10, 0)))], am_mk (am_si m 10 0 0 0))) rfl ?_
    obtain ⟨r10, h11, h⟩ := am_bd h
    refine am_Go.cl htb rfl (ex_X10_tell d (by omega) (-1) (am_si m 10 0 0 0) r10 h11) ?_
    show am_Go d 191 (22, [some (.inr (.inr (some (10, 0)))), some (.inl a1), none], [.inl r10.1], am_mk r10.2) _ _ _ _
    cases h
    exact am_Go.rt htb rfl
-- X10_harmsBy
set_option maxRecDepth 100000 in
theorem lt_X10_harmsBy_5 (d : Nat) (hd : 2 ≤ d + 1) {r : Option am_V} {M' : am_M} {kc ks : Nat} {n : Nat} {x1 : Int32} {x2 : Int32} {x3 : Int32} {x4 : Int32} {m : am_m} {t : Int32} (h : lp_X10_harmsBy_5 n x1 x2 x3 x4 m = some t) (hk : am_Go d 192 (54, [some (.inr (.inr (some (10, 0)))), some (.inl x1), some (.inl x2), some (.inl t), none], [], am_mk m) r M' kc ks) : am_Go d 192 (5, [some (.inr (.inr (some (10, 0)))), some (.inl x1), some (.inl x2), some (.inl x3), some (.inl x4)], [], am_mk m) r M' kc ks := by
  have htb : am_tab 192 = at_192 := rfl
  induction n generalizing x3 x4 with
  | zero => cases h
  | succ n ih =>
    unfold lp_X10_harmsBy_5 at h
    refine am_Go.n htb 5 (S' := (13, [some (.inr (.inr (some (10, 0)))), some (.inl x1), some (.inl x2), some (.inl x3), some (.inl x4)], [.inl (m.1 44 0 0), .inl x4], am_mk m)) rfl ?_
    by_cases hc1 : (m.1 44 0 0) ≤ x4
    · rw [if_pos hc1] at h
      refine am_Go.c1 htb (S' := (54, [some (.inr (.inr (some (10, 0)))), some (.inl x1), some (.inl x2), some (.inl x3), some (.inl x4)], [], am_mk m)) (if_pos hc1) ?_
      cases h
      exact am_Go.fg (by exact ⟨rfl, ⟨rfl, ⟨rfl, ⟨rfl, trivial⟩⟩⟩⟩) hk
    · rw [if_neg hc1] at h
      refine am_Go.c1 htb (S' := (16, [some (.inr (.inr (some (10, 0)))), some (.inl x1), some (.inl x2), some (.inl x3), some (.inl x4)], [], am_mk m)) (if_neg hc1) ?_
      refine am_Go.n htb 2 (S' := (18, [some (.inr (.inr (some (10, 0)))), some (.inl x1), some (.inl x2), some (.inl x3), some (.inl x4)], [.inl x2, .inl x3], am_mk m)) rfl ?_
      obtain ⟨q7, h9, h⟩ := am_bd h
      refine am_Go.cut (S := (38, [some (.inr (.inr (some (10, 0)))), some (.inl x1), some (.inl x2), some (.inl x3), some (.inl x4)], [.inl q7, .inl x3], am_mk m)) ?_ (fun key => ?_)
      · refine am_Go.cut (S := (46, [some (.inr (.inr (some (10, 0)))), some (.inl x1), some (.inl x2), some (.inl x3), some (.inl x4)], [.inl (if q7 ≤ 0 then (0 : Int32) else (1 : Int32)), .inl x3], am_mk m)) ?_ (fun key => ?_)
        · refine am_Go.n htb 4 (S' := (5, [some (.inr (.inr (some (10, 0)))), some (.inl x1), some (.inl x2), some (.inl (x3 + (if q7 ≤ 0 then (0 : Int32) else (1 : Int32)))), some (.inl (x4 + 1))], [], am_mk m)) rfl ?_
          first | exact ih h | exact ih h hk
        · by_cases hc8 : q7 ≤ 0
          · refine am_Go.c1 htb (S' := (45, [some (.inr (.inr (some (10, 0)))), some (.inl x1), some (.inl x2), some (.inl x3), some (.inl x4)], [.inl x3], am_mk m)) (if_pos hc8) ?_
            refine am_Go.n htb 1 (S' := (46, [some (.inr (.inr (some (10, 0)))), some (.inl x1), some (.inl x2), some (.inl x3), some (.inl x4)], [.inl 0, .inl x3], am_mk m)) rfl ?_
            simp only [if_pos hc8] at key
            exact am_Go.fg (by exact ⟨rfl, ⟨rfl, ⟨rfl, ⟨rfl, ⟨rfl, trivial⟩⟩⟩⟩⟩) key
          · refine am_Go.c1 htb (S' := (41, [some (.inr (.inr (some (10, 0)))), some (.inl x1), some (.inl x2), some (.inl x3), some (.inl x4)], [.inl x3], am_mk m)) (if_neg hc8) ?_
            refine am_Go.n htb 2 (S' := (46, [some (.inr (.inr (some (10, 0)))), some (.inl x1), some (.inl x2), some (.inl x3), some (.inl x4)], [.inl 1, .inl x3], am_mk m)) rfl ?_
            simp only [if_neg hc8] at key
            exact am_Go.fg (by exact ⟨rfl, ⟨rfl, ⟨rfl, ⟨rfl, ⟨rfl, trivial⟩⟩⟩⟩⟩) key
      · have h := h9
        by_cases hc2 : x2 = 0
        · rw [if_pos hc2] at h
          refine am_Go.c1 htb (S' := (31, [some (.inr (.inr (some (10, 0)))), some (.inl x1), some (.inl x2), some (.inl x3), some (.inl x4)], [.inl x3], am_mk m)) (if_pos hc2) ?_
          refine am_Go.n htb 3 (S' := (35, [some (.inr (.inr (some (10, 0)))), some (.inl x1), some (.inl x2), some (.inl x3), some (.inl x4)], [.inl x1, .inl x4, .inr (.inr (some (10, 0))), .inl x3], am_mk m)) rfl ?_
          obtain ⟨r3, h4, h⟩ := am_bd h
          refine am_Go.cl htb rfl (ex_X10_weightOf d (by omega) x4 x1 m r3 h4) ?_
          show am_Go d 192 (38, [some (.inr (.inr (some (10, 0)))), some (.inl x1), some (.inl x2), some (.inl x3), some (.inl x4)], [.inl r3, .inl x3], am_mk m) _ _ _ _
          cases h
          exact am_Go.fg (by exact ⟨rfl, ⟨rfl, ⟨rfl, ⟨rfl, ⟨rfl, trivial⟩⟩⟩⟩⟩) key
        · rw [if_neg hc2] at h
          refine am_Go.c1 htb (S' := (21, [some (.inr (.inr (some (10, 0)))), some (.inl x1), some (.inl x2), some (.inl x3), some (.inl x4)], [.inl x3], am_mk m)) (if_neg hc2) ?_
          refine am_Go.n htb 3 (S' := (25, [some (.inr (.inr (some (10, 0)))), some (.inl x1), some (.inl x2), some (.inl x3), some (.inl x4)], [.inl x4, .inl x1, .inr (.inr (some (10, 0))), .inl x3], am_mk m)) rfl ?_
          obtain ⟨r5, h6, h⟩ := am_bd h
          refine am_Go.cl htb rfl (ex_X10_weightOf d (by omega) x1 x4 m r5 h6) ?_
          show am_Go d 192 (28, [some (.inr (.inr (some (10, 0)))), some (.inl x1), some (.inl x2), some (.inl x3), some (.inl x4)], [.inl r5, .inl x3], am_mk m) _ _ _ _
          refine am_Go.n htb 1 (S' := (38, [some (.inr (.inr (some (10, 0)))), some (.inl x1), some (.inl x2), some (.inl x3), some (.inl x4)], [.inl r5, .inl x3], am_mk m)) rfl ?_
          cases h
          exact am_Go.fg (by exact ⟨rfl, ⟨rfl, ⟨rfl, ⟨rfl, ⟨rfl, trivial⟩⟩⟩⟩⟩) key
set_option maxRecDepth 100000 in
theorem ex_X10_harmsBy (d : Nat) (hd : 2 ≤ d) (a1 : Int32) (a2 : Int32) (m : am_m) (t : Int32) (h : fn_X10_harmsBy a1 a2 m = some t) : am_Ex am_cod d 192 [.inr (.inr (some (10, 0))), .inl a1, .inl a2] (am_mk m) (some (.inl t)) (am_mk m) 0 0 := by
  obtain ⟨d, rfl⟩ : ∃ e, d = e + 1 := ⟨d - 1, by omega⟩
  have htb : am_tab 192 = at_192 := rfl
  refine ⟨Nat.le_of_ble_eq_true rfl, ?_⟩
  unfold fn_X10_harmsBy at h
  show am_Go d 192 (0, [some (.inr (.inr (some (10, 0)))), some (.inl a1), some (.inl a2), none, none], [], am_mk m) _ _ 0 0
  refine am_Go.n htb 4 (S' := (5, [some (.inr (.inr (some (10, 0)))), some (.inl a1), some (.inl a2), some (.inl 0), some (.inl 0)], [], am_mk m)) rfl ?_
  obtain ⟨q10, h11, h⟩ := am_bd h
  refine lt_X10_harmsBy_5 _ hd (h := h11) (hk := ?_)
  refine am_Go.n htb 1 (S' := (55, [some (.inr (.inr (some (10, 0)))), some (.inl a1), some (.inl a2), some (.inl q10), none], [.inl q10], am_mk m)) rfl ?_
  cases h
  exact am_Go.rt htb rfl
-- X10_reckon
set_option maxHeartbeats 10000000 in
set_option maxRecDepth 100000 in
theorem ex_X10_reckon (d : Nat) (hd : 1 ≤ d) (a1 : Int32) (a2 : Int64) (a3 : Int64) (m : am_m) (t : Int64 × am_m) (h : fn_X10_reckon a1 a2 a3 m = some t) : am_Ex am_cod d 232 [.inr (.inr (some (10, 0))), .inl a1, .inr (.inl a2), .inr (.inl a3)] (am_mk m) (some (.inr (.inl t.1))) (am_mk t.2) 0 0 := by
  obtain ⟨d, rfl⟩ : ∃ e, d = e + 1 := ⟨d - 1, by omega⟩
  have htb : am_tab 232 = at_232 := rfl
  refine ⟨Nat.le_of_ble_eq_true rfl, ?_⟩
  unfold fn_X10_reckon at h
  show am_Go d 232 (0, [some (.inr (.inr (some (10, 0)))), some (.inl a1), some (.inr (.inl a2)), none, some (.inr (.inl a3)), none], [], am_mk m) _ _ 0 0
  refine am_Go.n htb 1 (S' := (1, [some (.inr (.inr (some (10, 0)))), some (.inl a1), some (.inr (.inl a2)), none, some (.inr (.inl a3)), none], [.inl a1], am_mk m)) rfl ?_
  by_cases hs1 : a1 = 20
  · rw [if_pos hs1] at h
    refine am_Go.o htb (am_o_sw [(20, 44), (21, 49), (22, 54), (23, 59), (24, 91), (25, 123), (26, 136)] 149) rfl (S' := (44, [some (.inr (.inr (some (10, 0)))), some (.inl a1), some (.inr (.inl a2)), none, some (.inr (.inl a3)), none], [], am_mk m)) (am_sw_eq (by simp only [am_sw, if_pos hs1])) ?_
    refine am_Go.n htb 3 (S' := (48, [some (.inr (.inr (some (10, 0)))), some (.inl a1), some (.inr (.inl a2)), none, some (.inr (.inl a3)), none], [.inr (.inl (a2 + a3))], am_mk m)) rfl ?_
    cases h
    exact am_Go.rt htb rfl
  · rw [if_neg hs1] at h
    by_cases hs2 : a1 = 21
    · rw [if_pos hs2] at h
      refine am_Go.o htb (am_o_sw [(20, 44), (21, 49), (22, 54), (23, 59), (24, 91), (25, 123), (26, 136)] 149) rfl (S' := (49, [some (.inr (.inr (some (10, 0)))), some (.inl a1), some (.inr (.inl a2)), none, some (.inr (.inl a3)), none], [], am_mk m)) (am_sw_eq (by simp only [am_sw, if_neg hs1, if_pos hs2])) ?_
      refine am_Go.n htb 3 (S' := (53, [some (.inr (.inr (some (10, 0)))), some (.inl a1), some (.inr (.inl a2)), none, some (.inr (.inl a3)), none], [.inr (.inl (a2 - a3))], am_mk m)) rfl ?_
      cases h
      exact am_Go.rt htb rfl
    · rw [if_neg hs2] at h
      by_cases hs3 : a1 = 22
      · rw [if_pos hs3] at h
        refine am_Go.o htb (am_o_sw [(20, 44), (21, 49), (22, 54), (23, 59), (24, 91), (25, 123), (26, 136)] 149) rfl (S' := (54, [some (.inr (.inr (some (10, 0)))), some (.inl a1), some (.inr (.inl a2)), none, some (.inr (.inl a3)), none], [], am_mk m)) (am_sw_eq (by simp only [am_sw, if_neg hs1, if_neg hs2, if_pos hs3])) ?_
        refine am_Go.n htb 3 (S' := (58, [some (.inr (.inr (some (10, 0)))), some (.inl a1), some (.inr (.inl a2)), none, some (.inr (.inl a3)), none], [.inr (.inl (a2 * a3))], am_mk m)) rfl ?_
        cases h
        exact am_Go.rt htb rfl
      · rw [if_neg hs3] at h
        by_cases hs4 : a1 = 23
        · rw [if_pos hs4] at h
          refine am_Go.o htb (am_o_sw [(20, 44), (21, 49), (22, 54), (23, 59), (24, 91), (25, 123), (26, 136)] 149) rfl (S' := (59, [some (.inr (.inr (some (10, 0)))), some (.inl a1), some (.inr (.inl a2)), none, some (.inr (.inl a3)), none], [], am_mk m)) (am_sw_eq (by simp only [am_sw, if_neg hs1, if_neg hs2, if_neg hs3, if_pos hs4])) ?_
          refine am_Go.n htb 4 (S' := (64, [some (.inr (.inr (some (10, 0)))), some (.inl a1), some (.inr (.inl a2)), none, some (.inr (.inl a3)), none], [.inl (lg_cmp a3 (0 : Int64)), .inr (.inr (some (10, 0)))], am_mk m)) rfl ?_
          refine am_Go.cut (S := (72, [some (.inr (.inr (some (10, 0)))), some (.inl a1), some (.inr (.inl a2)), none, some (.inr (.inl a3)), none], [.inl (if (lg_cmp a3 (0 : Int64)) ≠ 0 then (0 : Int32) else (1 : Int32)), .inr (.inr (some (10, 0)))], am_mk m)) ?_ (fun key => ?_)
          · obtain ⟨hz6, h⟩ := am_gd_some h
            refine am_Go.o htb (am_o_pf 10 38 2) rfl (S' := (75, [some (.inr (.inr (some (10, 0)))), some (.inl a1), some (.inr (.inl a2)), none, some (.inr (.inl a3)), none], [], am_mk (am_si m 10 0 38 (if (lg_cmp a3 (0 : Int64)) ≠ 0 then (0 : Int32) else (1 : Int32))))) (am_pfz hz6) ?_
            refine am_Go.n htb 2 (S' := (79, [some (.inr (.inr (some (10, 0)))), some (.inl a1), some (.inr (.inl a2)), none, some (.inr (.inl a3)), none], [.inl (if (lg_cmp a3 (0 : Int64)) ≠ 0 then (0 : Int32) else (1 : Int32))], am_mk (am_si m 10 0 38 (if (lg_cmp a3 (0 : Int64)) ≠ 0 then (0 : Int32) else (1 : Int32))))) rfl ?_
            by_cases hc7 : (if (lg_cmp a3 (0 : Int64)) ≠ 0 then (0 : Int32) else (1 : Int32)) = 0
            · rw [if_pos hc7] at h
              refine am_Go.c1 htb (S' := (86, [some (.inr (.inr (some (10, 0)))), some (.inl a1), some (.inr (.inl a2)), none, some (.inr (.inl a3)), none], [], am_mk (am_si m 10 0 38 (if (lg_cmp a3 (0 : Int64)) ≠ 0 then (0 : Int32) else (1 : Int32))))) (if_pos hc7) ?_
              refine am_Go.n htb 2 (S' := (89, [some (.inr (.inr (some (10, 0)))), some (.inl a1), some (.inr (.inl a2)), none, some (.inr (.inl a3)), none], [.inr (.inl a3), .inr (.inl a2)], am_mk (am_si m 10 0 38 (if (lg_cmp a3 (0 : Int64)) ≠ 0 then (0 : Int32) else (1 : Int32))))) rfl ?_
              obtain ⟨hz8, h⟩ := am_gd_some h
              refine am_Go.c1 htb (S' := (90, [some (.inr (.inr (some (10, 0)))), some (.inl a1), some (.inr (.inl a2)), none, some (.inr (.inl a3)), none], [.inr (.inl (a2 / a3))], am_mk (am_si m 10 0 38 (if (lg_cmp a3 (0 : Int64)) ≠ 0 then (0 : Int32) else (1 : Int32))))) (if_neg hz8) ?_
              cases h
              exact am_Go.rt htb rfl
            · rw [if_neg hc7] at h
              refine am_Go.c1 htb (S' := (82, [some (.inr (.inr (some (10, 0)))), some (.inl a1), some (.inr (.inl a2)), none, some (.inr (.inl a3)), none], [], am_mk (am_si m 10 0 38 (if (lg_cmp a3 (0 : Int64)) ≠ 0 then (0 : Int32) else (1 : Int32))))) (if_neg hc7) ?_
              refine am_Go.n htb 2 (S' := (90, [some (.inr (.inr (some (10, 0)))), some (.inl a1), some (.inr (.inl a2)), none, some (.inr (.inl a3)), none], [.inr (.inl 0)], am_mk (am_si m 10 0 38 (if (lg_cmp a3 (0 : Int64)) ≠ 0 then (0 : Int32) else (1 : Int32))))) rfl ?_
              cases h
              exact am_Go.rt htb rfl
          · by_cases hc5 : (lg_cmp a3 (0 : Int64)) ≠ 0
            · refine am_Go.c1 htb (S' := (71, [some (.inr (.inr (some (10, 0)))), some (.inl a1), some (.inr (.inl a2)), none, some (.inr (.inl a3)), none], [.inr (.inr (some (10, 0)))], am_mk m)) (if_pos hc5) ?_
              refine am_Go.n htb 1 (S' := (72, [some (.inr (.inr (some (10, 0)))), some (.inl a1), some (.inr (.inl a2)), none, some (.inr (.inl a3)), none], [.inl 0, .inr (.inr (some (10, 0)))], am_mk m)) rfl ?_
              simp only [if_pos hc5] at key
              exact am_Go.fg (by exact ⟨rfl, ⟨rfl, ⟨rfl, ⟨rfl, trivial⟩⟩⟩⟩) key
            · refine am_Go.c1 htb (S' := (67, [some (.inr (.inr (some (10, 0)))), some (.inl a1), some (.inr (.inl a2)), none, some (.inr (.inl a3)), none], [.inr (.inr (some (10, 0)))], am_mk m)) (if_neg hc5) ?_
              refine am_Go.n htb 2 (S' := (72, [some (.inr (.inr (some (10, 0)))), some (.inl a1), some (.inr (.inl a2)), none, some (.inr (.inl a3)), none], [.inl 1, .inr (.inr (some (10, 0)))], am_mk m)) rfl ?_
              simp only [if_neg hc5] at key
              exact am_Go.fg (by exact ⟨rfl, ⟨rfl, ⟨rfl, ⟨rfl, trivial⟩⟩⟩⟩) key
        · rw [if_neg hs4] at h
          by_cases hs9 : a1 = 24
          · rw [if_pos hs9] at h
            refine am_Go.o htb (am_o_sw [(20, 44), (21, 49), (22, 54), (23, 59), (24, 91), (25, 123), (26, 136)] 149) rfl (S' := (91, [some (.inr (.inr (some (10, 0)))), some (.inl a1), some (.inr (.inl a2)), none, some (.inr (.inl a3)), none], [], am_mk m)) (am_sw_eq (by simp only [am_sw, if_neg hs1, if_neg hs2, if_neg hs3, if_neg hs4, if_pos hs9])) ?_
            refine am_Go.n htb 4 (S' := (96, [some (.inr (.inr (some (10, 0)))), some (.inl a1), some (.inr (.inl a2)), none, some (.inr (.inl a3)), none], [.inl (lg_cmp a3 (0 : Int64)), .inr (.inr (some (10, 0)))], am_mk m)) rfl ?_
            refine am_Go.cut (S := (104, [some (.inr (.inr (some (10, 0)))), some (.inl a1), some (.inr (.inl a2)), none, some (.inr (.inl a3)), none], [.inl (if (lg_cmp a3 (0 : Int64)) ≠ 0 then (0 : Int32) else (1 : Int32)), .inr (.inr (some (10, 0)))], am_mk m)) ?_ (fun key => ?_)
            · obtain ⟨hz11, h⟩ := am_gd_some h
              refine am_Go.o htb (am_o_pf 10 38 2) rfl (S' := (107, [some (.inr (.inr (some (10, 0)))), some (.inl a1), some (.inr (.inl a2)), none, some (.inr (.inl a3)), none], [], am_mk (am_si m 10 0 38 (if (lg_cmp a3 (0 : Int64)) ≠ 0 then (0 : Int32) else (1 : Int32))))) (am_pfz hz11) ?_
              refine am_Go.n htb 2 (S' := (111, [some (.inr (.inr (some (10, 0)))), some (.inl a1), some (.inr (.inl a2)), none, some (.inr (.inl a3)), none], [.inl (if (lg_cmp a3 (0 : Int64)) ≠ 0 then (0 : Int32) else (1 : Int32))], am_mk (am_si m 10 0 38 (if (lg_cmp a3 (0 : Int64)) ≠ 0 then (0 : Int32) else (1 : Int32))))) rfl ?_
              by_cases hc12 : (if (lg_cmp a3 (0 : Int64)) ≠ 0 then (0 : Int32) else (1 : Int32)) = 0
              · rw [if_pos hc12] at h
                refine am_Go.c1 htb (S' := (118, [some (.inr (.inr (some (10, 0)))), some (.inl a1), some (.inr (.inl a2)), none, some (.inr (.inl a3)), none], [], am_mk (am_si m 10 0 38 (if (lg_cmp a3 (0 : Int64)) ≠ 0 then (0 : Int32) else (1 : Int32))))) (if_pos hc12) ?_
                refine am_Go.n htb 2 (S' := (121, [some (.inr (.inr (some (10, 0)))), some (.inl a1), some (.inr (.inl a2)), none, some (.inr (.inl a3)), none], [.inr (.inl a3), .inr (.inl a2)], am_mk (am_si m 10 0 38 (if (lg_cmp a3 (0 : Int64)) ≠ 0 then (0 : Int32) else (1 : Int32))))) rfl ?_
                obtain ⟨hz13, h⟩ := am_gd_some h
                refine am_Go.c1 htb (S' := (122, [some (.inr (.inr (some (10, 0)))), some (.inl a1), some (.inr (.inl a2)), none, some (.inr (.inl a3)), none], [.inr (.inl (a2 - a2 / a3 * a3))], am_mk (am_si m 10 0 38 (if (lg_cmp a3 (0 : Int64)) ≠ 0 then (0 : Int32) else (1 : Int32))))) (if_neg hz13) ?_
                cases h
                exact am_Go.rt htb rfl
              · rw [if_neg hc12] at h
                refine am_Go.c1 htb (S' := (114, [some (.inr (.inr (some (10, 0)))), some (.inl a1), some (.inr (.inl a2)), none, some (.inr (.inl a3)), none], [], am_mk (am_si m 10 0 38 (if (lg_cmp a3 (0 : Int64)) ≠ 0 then (0 : Int32) else (1 : Int32))))) (if_neg hc12) ?_
                refine am_Go.n htb 2 (S' := (122, [some (.inr (.inr (some (10, 0)))), some (.inl a1), some (.inr (.inl a2)), none, some (.inr (.inl a3)), none], [.inr (.inl 0)], am_mk (am_si m 10 0 38 (if (lg_cmp a3 (0 : Int64)) ≠ 0 then (0 : Int32) else (1 : Int32))))) rfl ?_
                cases h
                exact am_Go.rt htb rfl
            · by_cases hc10 : (lg_cmp a3 (0 : Int64)) ≠ 0
              · refine am_Go.c1 htb (S' := (103, [some (.inr (.inr (some (10, 0)))), some (.inl a1), some (.inr (.inl a2)), none, some (.inr (.inl a3)), none], [.inr (.inr (some (10, 0)))], am_mk m)) (if_pos hc10) ?_
                refine am_Go.n htb 1 (S' := (104, [some (.inr (.inr (some (10, 0)))), some (.inl a1), some (.inr (.inl a2)), none, some (.inr (.inl a3)), none], [.inl 0, .inr (.inr (some (10, 0)))], am_mk m)) rfl ?_
                simp only [if_pos hc10] at key
                exact am_Go.fg (by exact ⟨rfl, ⟨rfl, ⟨rfl, ⟨rfl, trivial⟩⟩⟩⟩) key
              · refine am_Go.c1 htb (S' := (99, [some (.inr (.inr (some (10, 0)))), some (.inl a1), some (.inr (.inl a2)), none, some (.inr (.inl a3)), none], [.inr (.inr (some (10, 0)))], am_mk m)) (if_neg hc10) ?_
                refine am_Go.n htb 2 (S' := (104, [some (.inr (.inr (some (10, 0)))), some (.inl a1), some (.inr (.inl a2)), none, some (.inr (.inl a3)), none], [.inl 1, .inr (.inr (some (10, 0)))], am_mk m)) rfl ?_
                simp only [if_neg hc10] at key
                exact am_Go.fg (by exact ⟨rfl, ⟨rfl, ⟨rfl, ⟨rfl, trivial⟩⟩⟩⟩) key
          · rw [if_neg hs9] at h
            by_cases hs14 : a1 = 25
            · rw [if_pos hs14] at h
              refine am_Go.o htb (am_o_sw [(20, 44), (21, 49), (22, 54), (23, 59), (24, 91), (25, 123), (26, 136)] 149) rfl (S' := (123, [some (.inr (.inr (some (10, 0)))), some (.inl a1), some (.inr (.inl a2)), none, some (.inr (.inl a3)), none], [], am_mk m)) (am_sw_eq (by simp only [am_sw, if_neg hs1, if_neg hs2, if_neg hs3, if_neg hs4, if_neg hs9, if_pos hs14])) ?_
              refine am_Go.n htb 3 (S' := (127, [some (.inr (.inr (some (10, 0)))), some (.inl a1), some (.inr (.inl a2)), none, some (.inr (.inl a3)), none], [.inl (lg_cmp a2 a3)], am_mk m)) rfl ?_
              by_cases hc15 : 0 ≤ (lg_cmp a2 a3)
              · rw [if_pos hc15] at h
                refine am_Go.c1 htb (S' := (134, [some (.inr (.inr (some (10, 0)))), some (.inl a1), some (.inr (.inl a2)), none, some (.inr (.inl a3)), none], [], am_mk m)) (if_pos hc15) ?_
                refine am_Go.n htb 1 (S' := (135, [some (.inr (.inr (some (10, 0)))), some (.inl a1), some (.inr (.inl a2)), none, some (.inr (.inl a3)), none], [.inr (.inl 0)], am_mk m)) rfl ?_
                cases h
                exact am_Go.rt htb rfl
              · rw [if_neg hc15] at h
                refine am_Go.c1 htb (S' := (130, [some (.inr (.inr (some (10, 0)))), some (.inl a1), some (.inr (.inl a2)), none, some (.inr (.inl a3)), none], [], am_mk m)) (if_neg hc15) ?_
                refine am_Go.n htb 2 (S' := (135, [some (.inr (.inr (some (10, 0)))), some (.inl a1), some (.inr (.inl a2)), none, some (.inr (.inl a3)), none], [.inr (.inl 1)], am_mk m)) rfl ?_
                cases h
                exact am_Go.rt htb rfl
            · rw [if_neg hs14] at h
              by_cases hs16 : a1 = 26
              · rw [if_pos hs16] at h
                refine am_Go.o htb (am_o_sw [(20, 44), (21, 49), (22, 54), (23, 59), (24, 91), (25, 123), (26, 136)] 149) rfl (S' := (136, [some (.inr (.inr (some (10, 0)))), some (.inl a1), some (.inr (.inl a2)), none, some (.inr (.inl a3)), none], [], am_mk m)) (am_sw_eq (by simp only [am_sw, if_neg hs1, if_neg hs2, if_neg hs3, if_neg hs4, if_neg hs9, if_neg hs14, if_pos hs16])) ?_
                refine am_Go.n htb 3 (S' := (140, [some (.inr (.inr (some (10, 0)))), some (.inl a1), some (.inr (.inl a2)), none, some (.inr (.inl a3)), none], [.inl (lg_cmp a2 a3)], am_mk m)) rfl ?_
                by_cases hc17 : (lg_cmp a2 a3) ≤ 0
                · rw [if_pos hc17] at h
                  refine am_Go.c1 htb (S' := (147, [some (.inr (.inr (some (10, 0)))), some (.inl a1), some (.inr (.inl a2)), none, some (.inr (.inl a3)), none], [], am_mk m)) (if_pos hc17) ?_
                  refine am_Go.n htb 1 (S' := (148, [some (.inr (.inr (some (10, 0)))), some (.inl a1), some (.inr (.inl a2)), none, some (.inr (.inl a3)), none], [.inr (.inl 0)], am_mk m)) rfl ?_
                  cases h
                  exact am_Go.rt htb rfl
                · rw [if_neg hc17] at h
                  refine am_Go.c1 htb (S' := (143, [some (.inr (.inr (some (10, 0)))), some (.inl a1), some (.inr (.inl a2)), none, some (.inr (.inl a3)), none], [], am_mk m)) (if_neg hc17) ?_
                  refine am_Go.n htb 2 (S' := (148, [some (.inr (.inr (some (10, 0)))), some (.inl a1), some (.inr (.inl a2)), none, some (.inr (.inl a3)), none], [.inr (.inl 1)], am_mk m)) rfl ?_
                  cases h
                  exact am_Go.rt htb rfl
              · rw [if_neg hs16] at h
                refine am_Go.o htb (am_o_sw [(20, 44), (21, 49), (22, 54), (23, 59), (24, 91), (25, 123), (26, 136)] 149) rfl (S' := (149, [some (.inr (.inr (some (10, 0)))), some (.inl a1), some (.inr (.inl a2)), none, some (.inr (.inl a3)), none], [], am_mk m)) (am_sw_eq (by simp only [am_sw, if_neg hs1, if_neg hs2, if_neg hs3, if_neg hs4, if_neg hs9, if_neg hs14, if_neg hs16, if_false])) ?_
                refine am_Go.n htb 3 (S' := (153, [some (.inr (.inr (some (10, 0)))), some (.inl a1), some (.inr (.inl a2)), none, some (.inr (.inl a3)), none], [.inl (lg_cmp a2 a3)], am_mk m)) rfl ?_
                by_cases hc18 : (lg_cmp a2 a3) ≠ 0
                · rw [if_pos hc18] at h
                  refine am_Go.c1 htb (S' := (160, [some (.inr (.inr (some (10, 0)))), some (.inl a1), some (.inr (.inl a2)), none, some (.inr (.inl a3)), none], [], am_mk m)) (if_pos hc18) ?_
                  refine am_Go.n htb 1 (S' := (161, [some (.inr (.inr (some (10, 0)))), some (.inl a1), some (.inr (.inl a2)), none, some (.inr (.inl a3)), none], [.inr (.inl 0)], am_mk m)) rfl ?_
                  cases h
                  exact am_Go.rt htb rfl
                · rw [if_neg hc18] at h
                  refine am_Go.c1 htb (S' := (156, [some (.inr (.inr (some (10, 0)))), some (.inl a1), some (.inr (.inl a2)), none, some (.inr (.inl a3)), none], [], am_mk m)) (if_neg hc18) ?_
                  refine am_Go.n htb 2 (S' := (161, [some (.inr (.inr (some (10, 0)))), some (.inl a1), some (.inr (.inl a2)), none, some (.inr (.inl a3)), none], [.inr (.inl 1)], am_mk m)) rfl ?_
                  cases h
                  exact am_Go.rt htb rfl
-- X10_reckonAll
set_option maxHeartbeats 10000000 in
set_option maxRecDepth 100000 in
theorem lt_X10_reckonAll_10 (d : Nat) (hd : 3 ≤ d + 1) {r : Option am_V} {M' : am_M} {kc ks : Nat} {n : Nat} {x2 : Int32} {x3 : Int32} {x4 : Int32} {m : am_m} {t : Int32 × am_m} (h : lp_X10_reckonAll_10 n x2 x3 x4 m = some t) (hk : am_Go d 233 (350, [some (.inr (.inr (some (10, 0)))), none, some (.inl x2), some (.inl t.1), none, none, none], [], am_mk t.2) r M' kc ks) : am_Go d 233 (10, [some (.inr (.inr (some (10, 0)))), none, some (.inl x2), some (.inl x3), some (.inl x4), none, none], [], am_mk m) r M' kc ks := by
  have htb : am_tab 233 = at_233 := rfl
  induction n generalizing x3 x4 m with
  | zero => cases h
  | succ n ih =>
    unfold lp_X10_reckonAll_10 at h
    refine am_Go.n htb 2 (S' := (13, [some (.inr (.inr (some (10, 0)))), none, some (.inl x2), some (.inl x3), some (.inl x4), none, none], [.inl x2, .inl x4], am_mk m)) rfl ?_
    by_cases hc1 : x2 ≤ x4
    · rw [if_pos hc1] at h
      refine am_Go.c1 htb (S' := (350, [some (.inr (.inr (some (10, 0)))), none, some (.inl x2), some (.inl x3), some (.inl x4), none, none], [], am_mk m)) (if_pos hc1) ?_
      cases h
      exact am_Go.fg (by exact ⟨rfl, ⟨rfl, ⟨rfl, trivial⟩⟩⟩) hk
    · rw [if_neg hc1] at h
      refine am_Go.c1 htb (S' := (16, [some (.inr (.inr (some (10, 0)))), none, some (.inl x2), some (.inl x3), some (.inl x4), none, none], [], am_mk m)) (if_neg hc1) ?_
      refine am_Go.n htb 2 (S' := (20, [some (.inr (.inr (some (10, 0)))), none, some (.inl x2), some (.inl x3), some (.inl x4), none, none], [.inl (m.1 10 0 38)], am_mk m)) rfl ?_
      by_cases hc2 : (m.1 10 0 38) ≠ 0
      · rw [if_pos hc2] at h
        refine am_Go.c1 htb (S' := (350, [some (.inr (.inr (some (10, 0)))), none, some (.inl x2), some (.inl x3), some (.inl x4), none, none], [], am_mk m)) (if_pos hc2) ?_
        cases h
        exact am_Go.fg (by exact ⟨rfl, ⟨rfl, ⟨rfl, trivial⟩⟩⟩) hk
      · rw [if_neg hc2] at h
        refine am_Go.c1 htb (S' := (23, [some (.inr (.inr (some (10, 0)))), none, some (.inl x2), some (.inl x3), some (.inl x4), none, none], [], am_mk m)) (if_neg hc2) ?_
        refine am_Go.n htb 2 (S' := (27, [some (.inr (.inr (some (10, 0)))), none, some (.inl x2), some (.inl x3), some (.inl x4), none, none], [.inl (m.1 10 0 20)], am_mk m)) rfl ?_
        obtain ⟨q6, h49, h⟩ := am_bd h
        refine am_Go.cut (S := (57, [some (.inr (.inr (some (10, 0)))), none, some (.inl x2), some (.inl x3), some (.inl x4), none, none], [.inl q6], am_mk m)) ?_ (fun key => ?_)
        · refine am_Go.n htb 3 (S' := (63, [some (.inr (.inr (some (10, 0)))), none, some (.inl x2), some (.inl x3), some (.inl x4), some (.inl q6), none], [.inl (m.1 10 0 20)], am_mk m)) rfl ?_
          obtain ⟨q10, h48, h⟩ := am_bd h
          refine am_Go.cut (S := (95, [some (.inr (.inr (some (10, 0)))), none, some (.inl x2), some (.inl x3), some (.inl x4), some (.inl q6), none], [.inl q10], am_mk m)) ?_ (fun key => ?_)
          · refine am_Go.n htb 4 (S' := (104, [some (.inr (.inr (some (10, 0)))), none, some (.inl x2), some (.inl x3), some (.inl (x4 + 1)), some (.inl q6), some (.inl q10)], [.inl 20, .inl q6], am_mk m)) rfl ?_
            obtain ⟨q46, h47, h⟩ := am_bd h
            refine am_Go.cut (S := (347, [some (.inr (.inr (some (10, 0)))), none, some (.inl x2), some (.inl q46.1), some (.inl q46.2.1), some (.inl q6), some (.inl q10)], [], am_mk q46.2.2)) ?_ (fun key => ?_)
            · refine am_Go.n htb 1 (S' := (10, [some (.inr (.inr (some (10, 0)))), none, some (.inl x2), some (.inl q46.1), some (.inl q46.2.1), some (.inl q6), some (.inl q10)], [], am_mk q46.2.2)) rfl ?_
              refine am_Go.fg (L0 := [some (.inr (.inr (some (10, 0)))), none, some (.inl x2), some (.inl q46.1), some (.inl q46.2.1), none, none]) (by exact ⟨rfl, ⟨rfl, ⟨rfl, ⟨rfl, trivial⟩⟩⟩⟩) ?_
              first | exact ih h | exact ih h hk
            · have h := h47
              by_cases hc11 : (20 : Int32) ≤ q6
              · rw [if_pos hc11] at h
                refine am_Go.c1 htb (S' := (208, [some (.inr (.inr (some (10, 0)))), none, some (.inl x2), some (.inl x3), some (.inl (x4 + 1)), some (.inl q6), some (.inl q10)], [], am_mk m)) (if_pos hc11) ?_
                refine am_Go.n htb 2 (S' := (212, [some (.inr (.inr (some (10, 0)))), none, some (.inl x2), some (.inl x3), some (.inl (x4 + 1)), some (.inl q6), some (.inl q10)], [.inl 28, .inl q6], am_mk m)) rfl ?_
                by_cases hc12 : (28 : Int32) ≤ q6
                · rw [if_pos hc12] at h
                  refine am_Go.c1 htb (S' := (285, [some (.inr (.inr (some (10, 0)))), none, some (.inl x2), some (.inl x3), some (.inl (x4 + 1)), some (.inl q6), some (.inl q10)], [], am_mk m)) (if_pos hc12) ?_
                  refine am_Go.n htb 2 (S' := (289, [some (.inr (.inr (some (10, 0)))), none, some (.inl x2), some (.inl x3), some (.inl (x4 + 1)), some (.inl q6), some (.inl q10)], [.inl 28, .inl q6], am_mk m)) rfl ?_
                  by_cases hc13 : q6 ≠ (28 : Int32)
                  · rw [if_pos hc13] at h
                    refine am_Go.c1 htb (S' := (313, [some (.inr (.inr (some (10, 0)))), none, some (.inl x2), some (.inl x3), some (.inl (x4 + 1)), some (.inl q6), some (.inl q10)], [], am_mk m)) (if_pos hc13) ?_
                    refine am_Go.n htb 5 (S' := (320, [some (.inr (.inr (some (10, 0)))), none, some (.inl x2), some (.inl x3), some (.inl (x4 + 1)), some (.inl q6), some (.inl q10)], [.inl (x3 - (1 : Int32)), .inr (.inr (some (87, 0)))], am_mk m)) rfl ?_
                    obtain ⟨hg14, h⟩ := am_ck_some h
                    refine am_Go.c1 htb (S' := (321, [some (.inr (.inr (some (10, 0)))), none, some (.inl x2), some (.inl x3), some (.inl (x4 + 1)), some (.inl q6), some (.inl q10)], [.inr (.inl (m.2.1 87 0 (x3 - (1 : Int32)).toNatClampNeg))], am_mk m)) (if_neg hg14) ?_
                    refine am_Go.n htb 2 (S' := (325, [some (.inr (.inr (some (10, 0)))), none, some (.inl x2), some (.inl x3), some (.inl (x4 + 1)), some (.inl q6), some (.inl q10)], [.inl 29, .inl q6, .inr (.inl (m.2.1 87 0 (x3 - (1 : Int32)).toNatClampNeg))], am_mk m)) rfl ?_
                    refine am_Go.cut (S := (333, [some (.inr (.inr (some (10, 0)))), none, some (.inl x2), some (.inl x3), some (.inl (x4 + 1)), some (.inl q6), some (.inl q10)], [.inr (.inl (if q6 ≠ (29 : Int32) then (1 : Int64) else (0 : Int64))), .inr (.inl (m.2.1 87 0 (x3 - (1 : Int32)).toNatClampNeg))], am_mk m)) ?_ (fun key => ?_)
                    · refine am_Go.n htb 1 (S' := (334, [some (.inr (.inr (some (10, 0)))), none, some (.inl x2), some (.inl x3), some (.inl (x4 + 1)), some (.inl q6), some (.inl q10)], [.inl (lg_cmp (m.2.1 87 0 (x3 - (1 : Int32)).toNatClampNeg) (if q6 ≠ (29 : Int32) then (1 : Int64) else (0 : Int64)))], am_mk m)) rfl ?_
                      by_cases hc16 : (lg_cmp (m.2.1 87 0 (x3 - (1 : Int32)).toNatClampNeg) (if q6 ≠ (29 : Int32) then (1 : Int64) else (0 : Int64))) ≠ 0
                      · rw [if_pos hc16] at h
                        refine am_Go.c1 htb (S' := (344, [some (.inr (.inr (some (10, 0)))), none, some (.inl x2), some (.inl x3), some (.inl (x4 + 1)), some (.inl q6), some (.inl q10)], [], am_mk m)) (if_pos hc16) ?_
                        refine am_Go.o htb (am_o_inc 3 (-1)) rfl (S' := (347, [some (.inr (.inr (some (10, 0)))), none, some (.inl x2), some (.inl (x3 - 1)), some (.inl (x4 + 1)), some (.inl q6), some (.inl q10)], [], am_mk m)) (am_incn rfl rfl) ?_
                        cases h
                        exact am_Go.fg (by exact ⟨rfl, ⟨rfl, ⟨rfl, ⟨rfl, ⟨rfl, ⟨rfl, trivial⟩⟩⟩⟩⟩⟩) key
                      · rw [if_neg hc16] at h
                        refine am_Go.c1 htb (S' := (337, [some (.inr (.inr (some (10, 0)))), none, some (.inl x2), some (.inl x3), some (.inl (x4 + 1)), some (.inl q6), some (.inl q10)], [], am_mk m)) (if_neg hc16) ?_
                        refine am_Go.n htb 3 (S' := (347, [some (.inr (.inr (some (10, 0)))), none, some (.inl x2), some (.inl x3), some (.inl q10), some (.inl q6), some (.inl q10)], [], am_mk m)) rfl ?_
                        cases h
                        exact am_Go.fg (by exact ⟨rfl, ⟨rfl, ⟨rfl, ⟨rfl, ⟨rfl, ⟨rfl, trivial⟩⟩⟩⟩⟩⟩) key
                    · by_cases hc15 : q6 ≠ (29 : Int32)
                      · refine am_Go.c1 htb (S' := (332, [some (.inr (.inr (some (10, 0)))), none, some (.inl x2), some (.inl x3), some (.inl (x4 + 1)), some (.inl q6), some (.inl q10)], [.inr (.inl (m.2.1 87 0 (x3 - (1 : Int32)).toNatClampNeg))], am_mk m)) (if_pos hc15) ?_
                        refine am_Go.n htb 1 (S' := (333, [some (.inr (.inr (some (10, 0)))), none, some (.inl x2), some (.inl x3), some (.inl (x4 + 1)), some (.inl q6), some (.inl q10)], [.inr (.inl 1), .inr (.inl (m.2.1 87 0 (x3 - (1 : Int32)).toNatClampNeg))], am_mk m)) rfl ?_
                        simp only [if_pos hc15] at key
                        exact am_Go.fg (by exact ⟨rfl, ⟨rfl, ⟨rfl, ⟨rfl, ⟨rfl, ⟨rfl, trivial⟩⟩⟩⟩⟩⟩) key
                      · refine am_Go.c1 htb (S' := (328, [some (.inr (.inr (some (10, 0)))), none, some (.inl x2), some (.inl x3), some (.inl (x4 + 1)), some (.inl q6), some (.inl q10)], [.inr (.inl (m.2.1 87 0 (x3 - (1 : Int32)).toNatClampNeg))], am_mk m)) (if_neg hc15) ?_
                        refine am_Go.n htb 2 (S' := (333, [some (.inr (.inr (some (10, 0)))), none, some (.inl x2), some (.inl x3), some (.inl (x4 + 1)), some (.inl q6), some (.inl q10)], [.inr (.inl 0), .inr (.inl (m.2.1 87 0 (x3 - (1 : Int32)).toNatClampNeg))], am_mk m)) rfl ?_
                        simp only [if_neg hc15] at key
                        exact am_Go.fg (by exact ⟨rfl, ⟨rfl, ⟨rfl, ⟨rfl, ⟨rfl, ⟨rfl, trivial⟩⟩⟩⟩⟩⟩) key
                  · rw [if_neg hc13] at h
                    refine am_Go.c1 htb (S' := (292, [some (.inr (.inr (some (10, 0)))), none, some (.inl x2), some (.inl x3), some (.inl (x4 + 1)), some (.inl q6), some (.inl q10)], [], am_mk m)) (if_neg hc13) ?_
                    refine am_Go.n htb 11 (S' := (307, [some (.inr (.inr (some (10, 0)))), none, some (.inl x2), some (.inl x3), some (.inl (x4 + 1)), some (.inl q6), some (.inl q10)], [.inl (x3 - (1 : Int32)), .inr (.inr (some (87, 0))), .inr (.inl 1), .inl (x3 - (1 : Int32)), .inr (.inr (some (87, 0)))], am_mk m)) rfl ?_
                    obtain ⟨hg17, h⟩ := am_ck_some h
                    refine am_Go.c1 htb (S' := (308, [some (.inr (.inr (some (10, 0)))), none, some (.inl x2), some (.inl x3), some (.inl (x4 + 1)), some (.inl q6), some (.inl q10)], [.inr (.inl (m.2.1 87 0 (x3 - (1 : Int32)).toNatClampNeg)), .inr (.inl 1), .inl (x3 - (1 : Int32)), .inr (.inr (some (87, 0)))], am_mk m)) (if_neg hg17) ?_
                    refine am_Go.n htb 1 (S' := (309, [some (.inr (.inr (some (10, 0)))), none, some (.inl x2), some (.inl x3), some (.inl (x4 + 1)), some (.inl q6), some (.inl q10)], [.inr (.inl ((1 : Int64) - (m.2.1 87 0 (x3 - (1 : Int32)).toNatClampNeg))), .inl (x3 - (1 : Int32)), .inr (.inr (some (87, 0)))], am_mk m)) rfl ?_
                    obtain ⟨hg18, h⟩ := am_ck_some h
                    refine am_Go.c1 htb (S' := (310, [some (.inr (.inr (some (10, 0)))), none, some (.inl x2), some (.inl x3), some (.inl (x4 + 1)), some (.inl q6), some (.inl q10)], [], am_mk (am_sg m 87 0 (x3 - (1 : Int32)).toNatClampNeg ((1 : Int64) - (m.2.1 87 0 (x3 - (1 : Int32)).toNatClampNeg))))) (if_neg hg18) ?_
                    refine am_Go.n htb 1 (S' := (347, [some (.inr (.inr (some (10, 0)))), none, some (.inl x2), some (.inl x3), some (.inl (x4 + 1)), some (.inl q6), some (.inl q10)], [], am_mk (am_sg m 87 0 (x3 - (1 : Int32)).toNatClampNeg ((1 : Int64) - (m.2.1 87 0 (x3 - (1 : Int32)).toNatClampNeg))))) rfl ?_
                    cases h
                    exact am_Go.fg (by exact ⟨rfl, ⟨rfl, ⟨rfl, ⟨rfl, ⟨rfl, ⟨rfl, trivial⟩⟩⟩⟩⟩⟩) key
                · rw [if_neg hc12] at h
                  refine am_Go.c1 htb (S' := (215, [some (.inr (.inr (some (10, 0)))), none, some (.inl x2), some (.inl x3), some (.inl (x4 + 1)), some (.inl q6), some (.inl q10)], [], am_mk m)) (if_neg hc12) ?_
                  refine am_Go.o htb (am_o_inc 3 (-1)) rfl (S' := (218, [some (.inr (.inr (some (10, 0)))), none, some (.inl x2), some (.inl (x3 - 1)), some (.inl (x4 + 1)), some (.inl q6), some (.inl q10)], [], am_mk m)) (am_incn rfl rfl) ?_
                  refine am_Go.n htb 12 (S' := (235, [some (.inr (.inr (some (10, 0)))), none, some (.inl x2), some (.inl (x3 - 1)), some (.inl (x4 + 1)), some (.inl q6), some (.inl q10)], [.inl ((x3 - 1) - (1 : Int32)), .inr (.inr (some (87, 0))), .inl q6, .inr (.inr (some (10, 0))), .inl ((x3 - 1) - (1 : Int32)), .inr (.inr (some (87, 0)))], am_mk m)) rfl ?_
                  obtain ⟨hg19, h⟩ := am_ck_some h
                  refine am_Go.c1 htb (S' := (236, [some (.inr (.inr (some (10, 0)))), none, some (.inl x2), some (.inl (x3 - 1)), some (.inl (x4 + 1)), some (.inl q6), some (.inl q10)], [.inr (.inl (m.2.1 87 0 ((x3 - 1) - (1 : Int32)).toNatClampNeg)), .inl q6, .inr (.inr (some (10, 0))), .inl ((x3 - 1) - (1 : Int32)), .inr (.inr (some (87, 0)))], am_mk m)) (if_neg hg19) ?_
                  refine am_Go.n htb 3 (S' := (241, [some (.inr (.inr (some (10, 0)))), none, some (.inl x2), some (.inl (x3 - 1)), some (.inl (x4 + 1)), some (.inl q6), some (.inl q10)], [.inl (x3 - 1), .inr (.inr (some (87, 0))), .inr (.inl (m.2.1 87 0 ((x3 - 1) - (1 : Int32)).toNatClampNeg)), .inl q6, .inr (.inr (some (10, 0))), .inl ((x3 - 1) - (1 : Int32)), .inr (.inr (some (87, 0)))], am_mk m)) rfl ?_
                  obtain ⟨hg20, h⟩ := am_ck_some h
                  refine am_Go.c1 htb (S' := (242, [some (.inr (.inr (some (10, 0)))), none, some (.inl x2), some (.inl (x3 - 1)), some (.inl (x4 + 1)), some (.inl q6), some (.inl q10)], [.inr (.inl (m.2.1 87 0 (x3 - 1).toNatClampNeg)), .inr (.inl (m.2.1 87 0 ((x3 - 1) - (1 : Int32)).toNatClampNeg)), .inl q6, .inr (.inr (some (10, 0))), .inl ((x3 - 1) - (1 : Int32)), .inr (.inr (some (87, 0)))], am_mk m)) (if_neg hg20) ?_
                  obtain ⟨r21, h22, h⟩ := am_bd h
                  refine am_Go.cl htb rfl (ex_X10_reckon d (by omega) q6 (m.2.1 87 0 ((x3 - 1) - (1 : Int32)).toNatClampNeg) (m.2.1 87 0 (x3 - 1).toNatClampNeg) m r21 h22) ?_
                  show am_Go d 233 (245, [some (.inr (.inr (some (10, 0)))), none, some (.inl x2), some (.inl (x3 - 1)), some (.inl (x4 + 1)), some (.inl q6), some (.inl q10)], [.inr (.inl r21.1), .inl ((x3 - 1) - (1 : Int32)), .inr (.inr (some (87, 0)))], am_mk r21.2) _ _ _ _
                  obtain ⟨hg23, h⟩ := am_ck_some h
                  refine am_Go.c1 htb (S' := (246, [some (.inr (.inr (some (10, 0)))), none, some (.inl x2), some (.inl (x3 - 1)), some (.inl (x4 + 1)), some (.inl q6), some (.inl q10)], [], am_mk (am_sg r21.2 87 0 ((x3 - 1) - (1 : Int32)).toNatClampNeg r21.1))) (if_neg hg23) ?_
                  refine am_Go.n htb 3 (S' := (251, [some (.inr (.inr (some (10, 0)))), none, some (.inl x2), some (.inl (x3 - 1)), some (.inl (x4 + 1)), some (.inl q6), some (.inl q10)], [.inl (r21.2.1 10 0 38), .inr (.inr (some (10, 0)))], am_mk (am_sg r21.2 87 0 ((x3 - 1) - (1 : Int32)).toNatClampNeg r21.1))) rfl ?_
                  obtain ⟨q29, h31, h⟩ := am_bd h
                  refine am_Go.cut (S := (279, [some (.inr (.inr (some (10, 0)))), none, some (.inl x2), some (.inl (x3 - 1)), some (.inl (x4 + 1)), some (.inl q6), some (.inl q10)], [.inl q29, .inr (.inr (some (10, 0)))], am_mk (am_sg r21.2 87 0 ((x3 - 1) - (1 : Int32)).toNatClampNeg r21.1))) ?_ (fun key => ?_)
                  · obtain ⟨hz30, h⟩ := am_gd_some h
                    refine am_Go.o htb (am_o_pf 10 38 2) rfl (S' := (282, [some (.inr (.inr (some (10, 0)))), none, some (.inl x2), some (.inl (x3 - 1)), some (.inl (x4 + 1)), some (.inl q6), some (.inl q10)], [], am_mk (am_si (am_sg r21.2 87 0 ((x3 - 1) - (1 : Int32)).toNatClampNeg r21.1) 10 0 38 q29))) (am_pfz hz30) ?_
                    refine am_Go.n htb 1 (S' := (347, [some (.inr (.inr (some (10, 0)))), none, some (.inl x2), some (.inl (x3 - 1)), some (.inl (x4 + 1)), some (.inl q6), some (.inl q10)], [], am_mk (am_si (am_sg r21.2 87 0 ((x3 - 1) - (1 : Int32)).toNatClampNeg r21.1) 10 0 38 q29))) rfl ?_
                    cases h
                    exact am_Go.fg (by exact ⟨rfl, ⟨rfl, ⟨rfl, ⟨rfl, ⟨rfl, ⟨rfl, trivial⟩⟩⟩⟩⟩⟩) key
                  · have h := h31
                    by_cases hc24 : (r21.2.1 10 0 38) ≠ 0
                    · rw [if_pos hc24] at h
                      refine am_Go.c1 htb (S' := (274, [some (.inr (.inr (some (10, 0)))), none, some (.inl x2), some (.inl (x3 - 1)), some (.inl (x4 + 1)), some (.inl q6), some (.inl q10)], [.inr (.inr (some (10, 0)))], am_mk (am_sg r21.2 87 0 ((x3 - 1) - (1 : Int32)).toNatClampNeg r21.1))) (if_pos hc24) ?_
                      refine am_Go.n htb 2 (S' := (279, [some (.inr (.inr (some (10, 0)))), none, some (.inl x2), some (.inl (x3 - 1)), some (.inl (x4 + 1)), some (.inl q6), some (.inl q10)], [.inl 1, .inr (.inr (some (10, 0)))], am_mk (am_sg r21.2 87 0 ((x3 - 1) - (1 : Int32)).toNatClampNeg r21.1))) rfl ?_
                      cases h
                      exact am_Go.fg (by exact ⟨rfl, ⟨rfl, ⟨rfl, ⟨rfl, ⟨rfl, ⟨rfl, trivial⟩⟩⟩⟩⟩⟩) key
                    · rw [if_neg hc24] at h
                      refine am_Go.c1 htb (S' := (254, [some (.inr (.inr (some (10, 0)))), none, some (.inl x2), some (.inl (x3 - 1)), some (.inl (x4 + 1)), some (.inl q6), some (.inl q10)], [.inr (.inr (some (10, 0)))], am_mk (am_sg r21.2 87 0 ((x3 - 1) - (1 : Int32)).toNatClampNeg r21.1))) (if_neg hc24) ?_
                      refine am_Go.n htb 5 (S' := (261, [some (.inr (.inr (some (10, 0)))), none, some (.inl x2), some (.inl (x3 - 1)), some (.inl (x4 + 1)), some (.inl q6), some (.inl q10)], [.inl ((x3 - 1) - (1 : Int32)), .inr (.inr (some (87, 0))), .inr (.inr (some (10, 0)))], am_mk (am_sg r21.2 87 0 ((x3 - 1) - (1 : Int32)).toNatClampNeg r21.1))) rfl ?_
                      obtain ⟨hg25, h⟩ := am_ck_some h
                      refine am_Go.c1 htb (S' := (262, [some (.inr (.inr (some (10, 0)))), none, some (.inl x2), some (.inl (x3 - 1)), some (.inl (x4 + 1)), some (.inl q6), some (.inl q10)], [.inr (.inl ((am_sg r21.2 87 0 ((x3 - 1) - (1 : Int32)).toNatClampNeg r21.1).2.1 87 0 ((x3 - 1) - (1 : Int32)).toNatClampNeg)), .inr (.inr (some (10, 0)))], am_mk (am_sg r21.2 87 0 ((x3 - 1) - (1 : Int32)).toNatClampNeg r21.1))) (if_neg hg25) ?_
                      refine am_Go.n htb 2 (S' := (268, [some (.inr (.inr (some (10, 0)))), none, some (.inl x2), some (.inl (x3 - 1)), some (.inl (x4 + 1)), some (.inl q6), some (.inl q10)], [.inr (.inl 1000000000), .inr (.inl (-1000000000)), .inr (.inl ((am_sg r21.2 87 0 ((x3 - 1) - (1 : Int32)).toNatClampNeg r21.1).2.1 87 0 ((x3 - 1) - (1 : Int32)).toNatClampNeg)), .inr (.inr (some (10, 0)))], am_mk (am_sg r21.2 87 0 ((x3 - 1) - (1 : Int32)).toNatClampNeg r21.1))) rfl ?_
                      obtain ⟨r26, h27, h⟩ := am_bd h
                      refine am_Go.cl htb rfl (ex_X10_in d (by omega) ((am_sg r21.2 87 0 ((x3 - 1) - (1 : Int32)).toNatClampNeg r21.1).2.1 87 0 ((x3 - 1) - (1 : Int32)).toNatClampNeg) (-1000000000) 1000000000 (am_sg r21.2 87 0 ((x3 - 1) - (1 : Int32)).toNatClampNeg r21.1) r26 h27) ?_
                      show am_Go d 233 (271, [some (.inr (.inr (some (10, 0)))), none, some (.inl x2), some (.inl (x3 - 1)), some (.inl (x4 + 1)), some (.inl q6), some (.inl q10)], [.inl r26, .inr (.inr (some (10, 0)))], am_mk (am_sg r21.2 87 0 ((x3 - 1) - (1 : Int32)).toNatClampNeg r21.1)) _ _ _ _
                      by_cases hc28 : r26 ≠ 0
                      · rw [if_pos hc28] at h
                        refine am_Go.c1 htb (S' := (278, [some (.inr (.inr (some (10, 0)))), none, some (.inl x2), some (.inl (x3 - 1)), some (.inl (x4 + 1)), some (.inl q6), some (.inl q10)], [.inr (.inr (some (10, 0)))], am_mk (am_sg r21.2 87 0 ((x3 - 1) - (1 : Int32)).toNatClampNeg r21.1))) (if_pos hc28) ?_
                        refine am_Go.n htb 1 (S' := (279, [some (.inr (.inr (some (10, 0)))), none, some (.inl x2), some (.inl (x3 - 1)), some (.inl (x4 + 1)), some (.inl q6), some (.inl q10)], [.inl 0, .inr (.inr (some (10, 0)))], am_mk (am_sg r21.2 87 0 ((x3 - 1) - (1 : Int32)).toNatClampNeg r21.1))) rfl ?_
                        cases h
                        exact am_Go.fg (by exact ⟨rfl, ⟨rfl, ⟨rfl, ⟨rfl, ⟨rfl, ⟨rfl, trivial⟩⟩⟩⟩⟩⟩) key
                      · rw [if_neg hc28] at h
                        refine am_Go.c1 htb (S' := (274, [some (.inr (.inr (some (10, 0)))), none, some (.inl x2), some (.inl (x3 - 1)), some (.inl (x4 + 1)), some (.inl q6), some (.inl q10)], [.inr (.inr (some (10, 0)))], am_mk (am_sg r21.2 87 0 ((x3 - 1) - (1 : Int32)).toNatClampNeg r21.1))) (if_neg hc28) ?_
                        refine am_Go.n htb 2 (S' := (279, [some (.inr (.inr (some (10, 0)))), none, some (.inl x2), some (.inl (x3 - 1)), some (.inl (x4 + 1)), some (.inl q6), some (.inl q10)], [.inl 1, .inr (.inr (some (10, 0)))], am_mk (am_sg r21.2 87 0 ((x3 - 1) - (1 : Int32)).toNatClampNeg r21.1))) rfl ?_
                        cases h
                        exact am_Go.fg (by exact ⟨rfl, ⟨rfl, ⟨rfl, ⟨rfl, ⟨rfl, ⟨rfl, trivial⟩⟩⟩⟩⟩⟩) key
              · rw [if_neg hc11] at h
                refine am_Go.c1 htb (S' := (107, [some (.inr (.inr (some (10, 0)))), none, some (.inl x2), some (.inl x3), some (.inl (x4 + 1)), some (.inl q6), some (.inl q10)], [], am_mk m)) (if_neg hc11) ?_
                refine am_Go.n htb 4 (S' := (114, [some (.inr (.inr (some (10, 0)))), none, some (.inl x2), some (.inl x3), some (.inl (x4 + 1)), some (.inl q6), some (.inl q10)], [.inl q6, .inl x3, .inr (.inr (some (87, 0)))], am_mk m)) rfl ?_
                obtain ⟨q43, h45, h⟩ := am_bd h
                refine am_Go.cut (S := (201, [some (.inr (.inr (some (10, 0)))), none, some (.inl x2), some (.inl x3), some (.inl (x4 + 1)), some (.inl q6), some (.inl q10)], [.inr (.inl q43), .inl x3, .inr (.inr (some (87, 0)))], am_mk m)) ?_ (fun key => ?_)
                · obtain ⟨hg44, h⟩ := am_ck_some h
                  refine am_Go.c1 htb (S' := (202, [some (.inr (.inr (some (10, 0)))), none, some (.inl x2), some (.inl x3), some (.inl (x4 + 1)), some (.inl q6), some (.inl q10)], [], am_mk (am_sg m 87 0 x3.toNatClampNeg q43))) (if_neg hg44) ?_
                  refine am_Go.n htb 2 (S' := (347, [some (.inr (.inr (some (10, 0)))), none, some (.inl x2), some (.inl (x3 + 1)), some (.inl (x4 + 1)), some (.inl q6), some (.inl q10)], [], am_mk (am_sg m 87 0 x3.toNatClampNeg q43))) rfl ?_
                  cases h
                  exact am_Go.fg (by exact ⟨rfl, ⟨rfl, ⟨rfl, ⟨rfl, ⟨rfl, ⟨rfl, trivial⟩⟩⟩⟩⟩⟩) key
                · have h := h45
                  by_cases hc32 : q6 ≠ 0
                  · rw [if_pos hc32] at h
                    refine am_Go.c1 htb (S' := (123, [some (.inr (.inr (some (10, 0)))), none, some (.inl x2), some (.inl x3), some (.inl (x4 + 1)), some (.inl q6), some (.inl q10)], [.inl x3, .inr (.inr (some (87, 0)))], am_mk m)) (if_pos hc32) ?_
                    refine am_Go.n htb 2 (S' := (127, [some (.inr (.inr (some (10, 0)))), none, some (.inl x2), some (.inl x3), some (.inl (x4 + 1)), some (.inl q6), some (.inl q10)], [.inl (m.1 10 0 20), .inl x3, .inr (.inr (some (87, 0)))], am_mk m)) rfl ?_
                    by_cases hc33 : (m.1 10 0 20) ≠ 0
                    · rw [if_pos hc33] at h
                      refine am_Go.c1 htb (S' := (140, [some (.inr (.inr (some (10, 0)))), none, some (.inl x2), some (.inl x3), some (.inl (x4 + 1)), some (.inl q6), some (.inl q10)], [.inl x3, .inr (.inr (some (87, 0)))], am_mk m)) (if_pos hc33) ?_
                      refine am_Go.n htb 2 (S' := (144, [some (.inr (.inr (some (10, 0)))), none, some (.inl x2), some (.inl x3), some (.inl (x4 + 1)), some (.inl q6), some (.inl q10)], [.inl 6, .inl q6, .inl x3, .inr (.inr (some (87, 0)))], am_mk m)) rfl ?_
                      by_cases hc34 : (6 : Int32) ≤ q6
                      · rw [if_pos hc34] at h
                        refine am_Go.c1 htb (S' := (157, [some (.inr (.inr (some (10, 0)))), none, some (.inl x2), some (.inl x3), some (.inl (x4 + 1)), some (.inl q6), some (.inl q10)], [.inl x3, .inr (.inr (some (87, 0)))], am_mk m)) (if_pos hc34) ?_
                        refine am_Go.n htb 2 (S' := (160, [some (.inr (.inr (some (10, 0)))), none, some (.inl x2), some (.inl x3), some (.inl (x4 + 1)), some (.inl q6), some (.inl q10)], [.inl q10, .inr (.inr (some (10, 0))), .inl x3, .inr (.inr (some (87, 0)))], am_mk m)) rfl ?_
                        obtain ⟨r35, h36, h⟩ := am_bd h
                        refine am_Go.cl htb rfl (ex_X10_isFolk d (by omega) q10 m r35 h36) ?_
                        show am_Go d 233 (163, [some (.inr (.inr (some (10, 0)))), none, some (.inl x2), some (.inl x3), some (.inl (x4 + 1)), some (.inl q6), some (.inl q10)], [.inl r35, .inl x3, .inr (.inr (some (87, 0)))], am_mk m) _ _ _ _
                        by_cases hc37 : r35 ≠ 0
                        · rw [if_pos hc37] at h
                          refine am_Go.c1 htb (S' := (172, [some (.inr (.inr (some (10, 0)))), none, some (.inl x2), some (.inl x3), some (.inl (x4 + 1)), some (.inl q6), some (.inl q10)], [.inl x3, .inr (.inr (some (87, 0)))], am_mk m)) (if_pos hc37) ?_
                          refine am_Go.n htb 2 (S' := (176, [some (.inr (.inr (some (10, 0)))), none, some (.inl x2), some (.inl x3), some (.inl (x4 + 1)), some (.inl q6), some (.inl q10)], [.inl 6, .inl q6, .inl x3, .inr (.inr (some (87, 0)))], am_mk m)) rfl ?_
                          by_cases hc38 : q6 ≠ (6 : Int32)
                          · rw [if_pos hc38] at h
                            refine am_Go.c1 htb (S' := (193, [some (.inr (.inr (some (10, 0)))), none, some (.inl x2), some (.inl x3), some (.inl (x4 + 1)), some (.inl q6), some (.inl q10)], [.inl x3, .inr (.inr (some (87, 0)))], am_mk m)) (if_pos hc38) ?_
                            refine am_Go.n htb 3 (S' := (199, [some (.inr (.inr (some (10, 0)))), none, some (.inl x2), some (.inl x3), some (.inl (x4 + 1)), some (.inl q6), some (.inl q10)], [.inl q10, .inr (.inr (some (62, 0))), .inl x3, .inr (.inr (some (87, 0)))], am_mk m)) rfl ?_
                            obtain ⟨hg39, h⟩ := am_ck_some h
                            refine am_Go.c1 htb (S' := (200, [some (.inr (.inr (some (10, 0)))), none, some (.inl x2), some (.inl x3), some (.inl (x4 + 1)), some (.inl q6), some (.inl q10)], [.inl (m.1 62 0 q10.toNatClampNeg), .inl x3, .inr (.inr (some (87, 0)))], am_mk m)) (if_neg hg39) ?_
                            refine am_Go.n htb 1 (S' := (201, [some (.inr (.inr (some (10, 0)))), none, some (.inl x2), some (.inl x3), some (.inl (x4 + 1)), some (.inl q6), some (.inl q10)], [.inr (.inl ((m.1 62 0 q10.toNatClampNeg).toInt64)), .inl x3, .inr (.inr (some (87, 0)))], am_mk m)) rfl ?_
                            cases h
                            exact am_Go.fg (by exact ⟨rfl, ⟨rfl, ⟨rfl, ⟨rfl, ⟨rfl, ⟨rfl, trivial⟩⟩⟩⟩⟩⟩) key
                          · rw [if_neg hc38] at h
                            refine am_Go.c1 htb (S' := (179, [some (.inr (.inr (some (10, 0)))), none, some (.inl x2), some (.inl x3), some (.inl (x4 + 1)), some (.inl q6), some (.inl q10)], [.inl x3, .inr (.inr (some (87, 0)))], am_mk m)) (if_neg hc38) ?_
                            refine am_Go.n htb 5 (S' := (188, [some (.inr (.inr (some (10, 0)))), none, some (.inl x2), some (.inl x3), some (.inl (x4 + 1)), some (.inl q6), some (.inl q10)], [.inl ((7 : Int32) + q10), .inr (.inr (some (44, 0))), .inl x3, .inr (.inr (some (87, 0)))], am_mk m)) rfl ?_
                            obtain ⟨hg40, h⟩ := am_ck_some h
                            refine am_Go.c1 htb (S' := (189, [some (.inr (.inr (some (10, 0)))), none, some (.inl x2), some (.inl x3), some (.inl (x4 + 1)), some (.inl q6), some (.inl q10)], [.inl (m.1 44 0 ((7 : Int32) + q10).toNatClampNeg), .inl x3, .inr (.inr (some (87, 0)))], am_mk m)) (if_neg hg40) ?_
                            refine am_Go.n htb 2 (S' := (201, [some (.inr (.inr (some (10, 0)))), none, some (.inl x2), some (.inl x3), some (.inl (x4 + 1)), some (.inl q6), some (.inl q10)], [.inr (.inl ((m.1 44 0 ((7 : Int32) + q10).toNatClampNeg).toInt64)), .inl x3, .inr (.inr (some (87, 0)))], am_mk m)) rfl ?_
                            cases h
                            exact am_Go.fg (by exact ⟨rfl, ⟨rfl, ⟨rfl, ⟨rfl, ⟨rfl, ⟨rfl, trivial⟩⟩⟩⟩⟩⟩) key
                        · rw [if_neg hc37] at h
                          refine am_Go.c1 htb (S' := (166, [some (.inr (.inr (some (10, 0)))), none, some (.inl x2), some (.inl x3), some (.inl (x4 + 1)), some (.inl q6), some (.inl q10)], [.inl x3, .inr (.inr (some (87, 0)))], am_mk m)) (if_neg hc37) ?_
                          refine am_Go.n htb 2 (S' := (201, [some (.inr (.inr (some (10, 0)))), none, some (.inl x2), some (.inl x3), some (.inl (x4 + 1)), some (.inl q6), some (.inl q10)], [.inr (.inl (-1)), .inl x3, .inr (.inr (some (87, 0)))], am_mk m)) rfl ?_
                          cases h
                          exact am_Go.fg (by exact ⟨rfl, ⟨rfl, ⟨rfl, ⟨rfl, ⟨rfl, ⟨rfl, trivial⟩⟩⟩⟩⟩⟩) key
                      · rw [if_neg hc34] at h
                        refine am_Go.c1 htb (S' := (147, [some (.inr (.inr (some (10, 0)))), none, some (.inl x2), some (.inl x3), some (.inl (x4 + 1)), some (.inl q6), some (.inl q10)], [.inl x3, .inr (.inr (some (87, 0)))], am_mk m)) (if_neg hc34) ?_
                        refine am_Go.n htb 3 (S' := (153, [some (.inr (.inr (some (10, 0)))), none, some (.inl x2), some (.inl x3), some (.inl (x4 + 1)), some (.inl q6), some (.inl q10)], [.inl q6, .inr (.inr (some (86, 0))), .inl x3, .inr (.inr (some (87, 0)))], am_mk m)) rfl ?_
                        obtain ⟨hg41, h⟩ := am_ck_some h
                        refine am_Go.c1 htb (S' := (154, [some (.inr (.inr (some (10, 0)))), none, some (.inl x2), some (.inl x3), some (.inl (x4 + 1)), some (.inl q6), some (.inl q10)], [.inr (.inl (m.2.1 86 0 q6.toNatClampNeg)), .inl x3, .inr (.inr (some (87, 0)))], am_mk m)) (if_neg hg41) ?_
                        refine am_Go.n htb 1 (S' := (201, [some (.inr (.inr (some (10, 0)))), none, some (.inl x2), some (.inl x3), some (.inl (x4 + 1)), some (.inl q6), some (.inl q10)], [.inr (.inl (m.2.1 86 0 q6.toNatClampNeg)), .inl x3, .inr (.inr (some (87, 0)))], am_mk m)) rfl ?_
                        cases h
                        exact am_Go.fg (by exact ⟨rfl, ⟨rfl, ⟨rfl, ⟨rfl, ⟨rfl, ⟨rfl, trivial⟩⟩⟩⟩⟩⟩) key
                    · rw [if_neg hc33] at h
                      refine am_Go.c1 htb (S' := (130, [some (.inr (.inr (some (10, 0)))), none, some (.inl x2), some (.inl x3), some (.inl (x4 + 1)), some (.inl q6), some (.inl q10)], [.inl x3, .inr (.inr (some (87, 0)))], am_mk m)) (if_neg hc33) ?_
                      refine am_Go.n htb 3 (S' := (136, [some (.inr (.inr (some (10, 0)))), none, some (.inl x2), some (.inl x3), some (.inl (x4 + 1)), some (.inl q6), some (.inl q10)], [.inl q6, .inr (.inr (some (85, 0))), .inl x3, .inr (.inr (some (87, 0)))], am_mk m)) rfl ?_
                      obtain ⟨hg42, h⟩ := am_ck_some h
                      refine am_Go.c1 htb (S' := (137, [some (.inr (.inr (some (10, 0)))), none, some (.inl x2), some (.inl x3), some (.inl (x4 + 1)), some (.inl q6), some (.inl q10)], [.inr (.inl (m.2.1 85 0 q6.toNatClampNeg)), .inl x3, .inr (.inr (some (87, 0)))], am_mk m)) (if_neg hg42) ?_
                      refine am_Go.n htb 1 (S' := (201, [some (.inr (.inr (some (10, 0)))), none, some (.inl x2), some (.inl x3), some (.inl (x4 + 1)), some (.inl q6), some (.inl q10)], [.inr (.inl (m.2.1 85 0 q6.toNatClampNeg)), .inl x3, .inr (.inr (some (87, 0)))], am_mk m)) rfl ?_
                      cases h
                      exact am_Go.fg (by exact ⟨rfl, ⟨rfl, ⟨rfl, ⟨rfl, ⟨rfl, ⟨rfl, trivial⟩⟩⟩⟩⟩⟩) key
                  · rw [if_neg hc32] at h
                    refine am_Go.c1 htb (S' := (117, [some (.inr (.inr (some (10, 0)))), none, some (.inl x2), some (.inl x3), some (.inl (x4 + 1)), some (.inl q6), some (.inl q10)], [.inl x3, .inr (.inr (some (87, 0)))], am_mk m)) (if_neg hc32) ?_
                    refine am_Go.n htb 3 (S' := (201, [some (.inr (.inr (some (10, 0)))), none, some (.inl x2), some (.inl x3), some (.inl (x4 + 1)), some (.inl q6), some (.inl q10)], [.inr (.inl q10.toInt64), .inl x3, .inr (.inr (some (87, 0)))], am_mk m)) rfl ?_
                    cases h
                    exact am_Go.fg (by exact ⟨rfl, ⟨rfl, ⟨rfl, ⟨rfl, ⟨rfl, ⟨rfl, trivial⟩⟩⟩⟩⟩⟩) key
          · have h := h48
            by_cases hc7 : (m.1 10 0 20) = 0
            · rw [if_pos hc7] at h
              refine am_Go.c1 htb (S' := (76, [some (.inr (.inr (some (10, 0)))), none, some (.inl x2), some (.inl x3), some (.inl x4), some (.inl q6), none], [], am_mk m)) (if_pos hc7) ?_
              refine am_Go.n htb 12 (S' := (94, [some (.inr (.inr (some (10, 0)))), none, some (.inl x2), some (.inl x3), some (.inl x4), some (.inl q6), none], [.inl ((((m.1 10 0 34) + (98 : Int32)) + ((2 : Int32) * x4)) + (1 : Int32)), .inr (.inr (some (44, 0)))], am_mk m)) rfl ?_
              obtain ⟨hg8, h⟩ := am_ck_some h
              refine am_Go.c1 htb (S' := (95, [some (.inr (.inr (some (10, 0)))), none, some (.inl x2), some (.inl x3), some (.inl x4), some (.inl q6), none], [.inl (m.1 44 0 ((((m.1 10 0 34) + (98 : Int32)) + ((2 : Int32) * x4)) + (1 : Int32)).toNatClampNeg)], am_mk m)) (if_neg hg8) ?_
              cases h
              exact am_Go.fg (by exact ⟨rfl, ⟨rfl, ⟨rfl, ⟨rfl, ⟨rfl, trivial⟩⟩⟩⟩⟩) key
            · rw [if_neg hc7] at h
              refine am_Go.c1 htb (S' := (66, [some (.inr (.inr (some (10, 0)))), none, some (.inl x2), some (.inl x3), some (.inl x4), some (.inl q6), none], [], am_mk m)) (if_neg hc7) ?_
              refine am_Go.n htb 3 (S' := (72, [some (.inr (.inr (some (10, 0)))), none, some (.inl x2), some (.inl x3), some (.inl x4), some (.inl q6), none], [.inl x4, .inr (.inr (some (53, 0)))], am_mk m)) rfl ?_
              obtain ⟨hg9, h⟩ := am_ck_some h
              refine am_Go.c1 htb (S' := (73, [some (.inr (.inr (some (10, 0)))), none, some (.inl x2), some (.inl x3), some (.inl x4), some (.inl q6), none], [.inl (m.1 53 0 x4.toNatClampNeg)], am_mk m)) (if_neg hg9) ?_
              refine am_Go.n htb 1 (S' := (95, [some (.inr (.inr (some (10, 0)))), none, some (.inl x2), some (.inl x3), some (.inl x4), some (.inl q6), none], [.inl (m.1 53 0 x4.toNatClampNeg)], am_mk m)) rfl ?_
              cases h
              exact am_Go.fg (by exact ⟨rfl, ⟨rfl, ⟨rfl, ⟨rfl, ⟨rfl, trivial⟩⟩⟩⟩⟩) key
        · have h := h49
          by_cases hc3 : (m.1 10 0 20) = 0
          · rw [if_pos hc3] at h
            refine am_Go.c1 htb (S' := (40, [some (.inr (.inr (some (10, 0)))), none, some (.inl x2), some (.inl x3), some (.inl x4), none, none], [], am_mk m)) (if_pos hc3) ?_
            refine am_Go.n htb 10 (S' := (56, [some (.inr (.inr (some (10, 0)))), none, some (.inl x2), some (.inl x3), some (.inl x4), none, none], [.inl (((m.1 10 0 34) + (98 : Int32)) + ((2 : Int32) * x4)), .inr (.inr (some (44, 0)))], am_mk m)) rfl ?_
            obtain ⟨hg4, h⟩ := am_ck_some h
            refine am_Go.c1 htb (S' := (57, [some (.inr (.inr (some (10, 0)))), none, some (.inl x2), some (.inl x3), some (.inl x4), none, none], [.inl (m.1 44 0 (((m.1 10 0 34) + (98 : Int32)) + ((2 : Int32) * x4)).toNatClampNeg)], am_mk m)) (if_neg hg4) ?_
            cases h
            exact am_Go.fg (by exact ⟨rfl, ⟨rfl, ⟨rfl, ⟨rfl, trivial⟩⟩⟩⟩) key
          · rw [if_neg hc3] at h
            refine am_Go.c1 htb (S' := (30, [some (.inr (.inr (some (10, 0)))), none, some (.inl x2), some (.inl x3), some (.inl x4), none, none], [], am_mk m)) (if_neg hc3) ?_
            refine am_Go.n htb 3 (S' := (36, [some (.inr (.inr (some (10, 0)))), none, some (.inl x2), some (.inl x3), some (.inl x4), none, none], [.inl x4, .inr (.inr (some (52, 0)))], am_mk m)) rfl ?_
            obtain ⟨hg5, h⟩ := am_ck_some h
            refine am_Go.c1 htb (S' := (37, [some (.inr (.inr (some (10, 0)))), none, some (.inl x2), some (.inl x3), some (.inl x4), none, none], [.inl (m.1 52 0 x4.toNatClampNeg)], am_mk m)) (if_neg hg5) ?_
            refine am_Go.n htb 1 (S' := (57, [some (.inr (.inr (some (10, 0)))), none, some (.inl x2), some (.inl x3), some (.inl x4), none, none], [.inl (m.1 52 0 x4.toNatClampNeg)], am_mk m)) rfl ?_
            cases h
            exact am_Go.fg (by exact ⟨rfl, ⟨rfl, ⟨rfl, ⟨rfl, trivial⟩⟩⟩⟩) key
set_option maxRecDepth 100000 in
theorem ex_X10_reckonAll (d : Nat) (hd : 3 ≤ d) (a1 : Int32) (a2 : Int32) (m : am_m) (t : am_m) (h : fn_X10_reckonAll a1 a2 m = some t) : am_Ex am_cod d 233 [.inr (.inr (some (10, 0))), .inl a1, .inl a2] (am_mk m) (none) (am_mk t) 0 0 := by
  obtain ⟨d, rfl⟩ : ∃ e, d = e + 1 := ⟨d - 1, by omega⟩
  have htb : am_tab 233 = at_233 := rfl
  refine ⟨Nat.le_of_ble_eq_true rfl, ?_⟩
  unfold fn_X10_reckonAll at h
  show am_Go d 233 (0, [some (.inr (.inr (some (10, 0)))), some (.inl a1), some (.inl a2), none, none, none, none], [], am_mk m) _ _ 0 0
  refine am_Go.n htb 7 (S' := (10, [some (.inr (.inr (some (10, 0)))), some (.inl a1), some (.inl a2), some (.inl 0), some (.inl a1), none, none], [], am_mk (am_si m 10 0 38 0))) rfl ?_
  refine am_Go.fg (L0 := [some (.inr (.inr (some (10, 0)))), none, some (.inl a2), some (.inl 0), some (.inl a1), none, none]) (by exact ⟨rfl, ⟨rfl, ⟨rfl, ⟨rfl, trivial⟩⟩⟩⟩) ?_
  obtain ⟨q50, h51, h⟩ := am_bd h
  refine lt_X10_reckonAll_10 _ hd (h := h51) (hk := ?_)
  refine am_Go.n htb 2 (S' := (352, [some (.inr (.inr (some (10, 0)))), none, some (.inl a2), some (.inl q50.1), none, none, none], [.inl q50.1, .inr (.inr (some (10, 0)))], am_mk q50.2)) rfl ?_
  refine am_Go.cut (S := (365, [some (.inr (.inr (some (10, 0)))), none, some (.inl a2), some (.inl q50.1), none, none, none], [.inr (.inl (if q50.1 ≤ 0 then (0 : Int64) else (q50.2.2.1 87 0 0))), .inr (.inr (some (10, 0)))], am_mk q50.2)) ?_ (fun key => ?_)
  · refine am_Go.n htb 1 (S' := (368, [some (.inr (.inr (some (10, 0)))), none, some (.inl a2), some (.inl q50.1), none, none, none], [], am_mk (am_sg q50.2 10 0 39 (if q50.1 ≤ 0 then (0 : Int64) else (q50.2.2.1 87 0 0))))) rfl ?_
    cases h
    exact am_Go.rt htb rfl
  · by_cases hc52 : q50.1 ≤ 0
    · refine am_Go.c1 htb (S' := (364, [some (.inr (.inr (some (10, 0)))), none, some (.inl a2), some (.inl q50.1), none, none, none], [.inr (.inr (some (10, 0)))], am_mk q50.2)) (if_pos hc52) ?_
      refine am_Go.n htb 1 (S' := (365, [some (.inr (.inr (some (10, 0)))), none, some (.inl a2), some (.inl q50.1), none, none, none], [.inr (.inl 0), .inr (.inr (some (10, 0)))], am_mk q50.2)) rfl ?_
      simp only [if_pos hc52] at key
      exact am_Go.fg (by exact ⟨rfl, ⟨rfl, ⟨rfl, trivial⟩⟩⟩) key
    · refine am_Go.c1 htb (S' := (355, [some (.inr (.inr (some (10, 0)))), none, some (.inl a2), some (.inl q50.1), none, none, none], [.inr (.inr (some (10, 0)))], am_mk q50.2)) (if_neg hc52) ?_
      refine am_Go.n htb 5 (S' := (365, [some (.inr (.inr (some (10, 0)))), none, some (.inl a2), some (.inl q50.1), none, none, none], [.inr (.inl (q50.2.2.1 87 0 0)), .inr (.inr (some (10, 0)))], am_mk q50.2)) rfl ?_
      simp only [if_neg hc52] at key
      exact am_Go.fg (by exact ⟨rfl, ⟨rfl, ⟨rfl, trivial⟩⟩⟩) key
