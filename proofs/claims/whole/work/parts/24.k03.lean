-- X10_newHarms
set_option maxRecDepth 100000 in
theorem kp_X10_newHarms (a1 : Int32) (m : am_m) (t : Int32 × am_m) (h : fn_X10_newHarms a1 m = some t) : am_kp [(10, 0), (10, 34), (10, 38), (10, 46), (57, 0), (58, 0), (92, 0), (93, 0)] [(10, 39), (10, 40), (85, 0), (87, 0)] 0 m t.2 := by
  unfold fn_X10_newHarms at h
  obtain ⟨r1, h2, h⟩ := am_bd h
  by_cases hc3 : r1 ≠ 0
  · rw [if_pos hc3] at h
    obtain ⟨r4, h5, h⟩ := am_bd h
    have k_r4 : am_kp [(10, 0), (10, 34), (10, 38), (10, 46), (57, 0), (58, 0), (92, 0), (93, 0)] [(10, 39), (10, 40), (85, 0), (87, 0)] 0 m r4 := am_kp.tr (am_kp.si am_kp.rf rfl) (am_kp.mono (kp_X10_layMay  (am_si m 10 0 0 0) r4 h5) rfl)
    obtain ⟨r6, h7, h⟩ := am_bd h
    have k_r6 : am_kp [(10, 0), (10, 34), (10, 38), (10, 46), (57, 0), (58, 0), (92, 0), (93, 0)] [(10, 39), (10, 40), (85, 0), (87, 0)] 0 m r6 := am_kp.tr k_r4 (am_kp.mono (kp_X10_findParts 0 r4 r6 h7) rfl)
    by_cases hc8 : (r6.1 10 0 46) ≠ (100000000 : Int32)
    · rw [if_pos hc8] at h
      by_cases hc9 : a1 ≠ 0
      · rw [if_pos hc9] at h
        obtain ⟨hg10, h⟩ := am_ck_some h
        cases h
        exact k_r6
      · rw [if_neg hc9] at h
        cases h
        exact k_r6
    · rw [if_neg hc8] at h
      cases h
      exact k_r6
  · rw [if_neg hc3] at h
    cases h
    exact (am_kp.si am_kp.rf rfl)
-- X10_layParts
set_option maxRecDepth 100000 in
theorem kl_X10_layParts_38 {n : Nat} {x1 : Int32} {x2 : Int32} {m : am_m} {t : am_m} (h : lp_X10_layParts_38 n x1 x2 m = some t) : am_kp [(94, 0), (95, 0)] [] 0 m t := by
  induction n generalizing x2 m with
  | zero => cases h
  | succ n ih =>
    unfold lp_X10_layParts_38 at h
    by_cases hc11 : x1 < x2
    · rw [if_pos hc11] at h
      cases h
      exact am_kp.rf
    · rw [if_neg hc11] at h
      obtain ⟨hg12, h⟩ := am_ck_some h
      obtain ⟨q19, h20, h⟩ := am_bd h
      obtain ⟨hz22, h⟩ := am_gd_some h
      obtain ⟨hg21, h⟩ := am_ck_some h
      exact am_kp.tr (am_kp.si am_kp.rf rfl) (ih h)
set_option maxRecDepth 100000 in
theorem kl_X10_layParts_2 {n : Nat} {x1 : Int32} {m : am_m} {t : am_m} (h : lp_X10_layParts_2 n x1 m = some t) : am_kp [(94, 0), (95, 0)] [] 0 m t := by
  induction n generalizing x1 m with
  | zero => cases h
  | succ n ih =>
    unfold lp_X10_layParts_2 at h
    obtain ⟨r1, h2, h⟩ := am_bd h
    by_cases hc3 : r1 < x1
    · rw [if_pos hc3] at h
      cases h
      exact am_kp.rf
    · rw [if_neg hc3] at h
      obtain ⟨r4, h5, h⟩ := am_bd h
      obtain ⟨hz7, h⟩ := am_gd_some h
      obtain ⟨hg6, h⟩ := am_ck_some h
      obtain ⟨hz10, h⟩ := am_gd_some h
      obtain ⟨hg9, h⟩ := am_ck_some h
      obtain ⟨q23, h24, h⟩ := am_bd h
      have k_q23 : am_kp [(94, 0), (95, 0)] [] 0 m q23 := am_kp.tr (am_kp.si (am_kp.si am_kp.rf rfl) rfl) (kl_X10_layParts_38 (h := h24))
      exact am_kp.tr k_q23 (ih h)
set_option maxRecDepth 100000 in
theorem kp_X10_layParts  (m : am_m) (t : am_m) (h : fn_X10_layParts  m = some t) : am_kp [(94, 0), (95, 0)] [] 0 m t := by
  unfold fn_X10_layParts at h
  obtain ⟨q25, h26, h⟩ := am_bd h
  have k_q25 : am_kp [(94, 0), (95, 0)] [] 0 m q25 := am_kp.tr am_kp.rf (kl_X10_layParts_2 (h := h26))
  cases h
  exact k_q25
-- X10_leftOut
set_option maxRecDepth 100000 in
theorem kp_X10_leftOut (a1 : Int32) (m : am_m) (t : Int32 × am_m) (h : fn_X10_leftOut a1 m = some t) : am_kp [(10, 0), (10, 34), (10, 38), (92, 0), (93, 0), (94, 0), (95, 0)] [(10, 39), (10, 40), (85, 0), (87, 0)] 0 m t.2 := by
  unfold fn_X10_leftOut at h
  obtain ⟨r1, h2, h⟩ := am_bd h
  by_cases hc3 : r1 ≠ 0
  · rw [if_pos hc3] at h
    obtain ⟨r4, h5, h⟩ := am_bd h
    have k_r4 : am_kp [(10, 0), (10, 34), (10, 38), (92, 0), (93, 0), (94, 0), (95, 0)] [(10, 39), (10, 40), (85, 0), (87, 0)] 0 m r4 := am_kp.tr (am_kp.si am_kp.rf rfl) (am_kp.mono (kp_X10_layMay  (am_si m 10 0 0 0) r4 h5) rfl)
    obtain ⟨r6, h7, h⟩ := am_bd h
    have k_r6 : am_kp [(10, 0), (10, 34), (10, 38), (92, 0), (93, 0), (94, 0), (95, 0)] [(10, 39), (10, 40), (85, 0), (87, 0)] 0 m r6 := am_kp.tr k_r4 (am_kp.mono (kp_X10_layParts  r4 r6 h7) rfl)
    obtain ⟨q22, h23, h⟩ := am_bd h
    by_cases hc24 : a1 ≠ 0
    · rw [if_pos hc24] at h
      cases h
      exact k_r6
    · rw [if_neg hc24] at h
      cases h
      exact k_r6
  · rw [if_neg hc3] at h
    cases h
    exact (am_kp.si am_kp.rf rfl)
-- X10_suffered
set_option maxRecDepth 100000 in
theorem kl_X10_suffered_5 {n : Nat} {x1 : Int32} {x2 : Int32} {x3 : Int32} {x4 : Int32} {m : am_m} {t : Int32 × am_m} (h : lp_X10_suffered_5 n x1 x2 x3 x4 m = some t) : am_kp [(10, 34), (10, 38)] [(10, 39), (10, 40), (85, 0), (87, 0)] 0 m t.2 := by
  induction n generalizing x3 x4 m with
  | zero => cases h
  | succ n ih =>
    unfold lp_X10_suffered_5 at h
    by_cases hc1 : (m.1 44 0 0) ≤ x4
    · rw [if_pos hc1] at h
      cases h
      exact am_kp.rf
    · rw [if_neg hc1] at h
      obtain ⟨q8, h9, h⟩ := am_bd h
      have k_q8 : am_kp [(10, 34), (10, 38)] [(10, 39), (10, 40), (85, 0), (87, 0)] 0 m q8.2 := by
        have h := h9
        by_cases hc2 : x4 = x1
        · rw [if_pos hc2] at h
          cases h
          exact am_kp.rf
        · rw [if_neg hc2] at h
          obtain ⟨r3, h4, h⟩ := am_bd h
          by_cases hc5 : r3 = 0
          · rw [if_pos hc5] at h
            cases h
            exact am_kp.rf
          · rw [if_neg hc5] at h
            obtain ⟨r6, h7, h⟩ := am_bd h
            have k_r6 : am_kp [(10, 34), (10, 38)] [(10, 39), (10, 40), (85, 0), (87, 0)] 0 m r6.2 := am_kp.tr am_kp.rf (am_kp.mono (kp_X10_countsAs x4 x1 m r6 h7) rfl)
            cases h
            exact k_r6
      exact am_kp.tr k_q8 (ih h)
set_option maxRecDepth 100000 in
theorem kp_X10_suffered (a1 : Int32) (a2 : Int32) (m : am_m) (t : Int32 × am_m) (h : fn_X10_suffered a1 a2 m = some t) : am_kp [(10, 34), (10, 38)] [(10, 39), (10, 40), (85, 0), (87, 0)] 0 m t.2 := by
  unfold fn_X10_suffered at h
  obtain ⟨q10, h11, h⟩ := am_bd h
  have k_q10 : am_kp [(10, 34), (10, 38)] [(10, 39), (10, 40), (85, 0), (87, 0)] 0 m q10.2 := am_kp.tr am_kp.rf (kl_X10_suffered_5 (h := h11))
  cases h
  exact k_q10
-- X10_seat
set_option maxRecDepth 100000 in
theorem kl_X10_seat_60 {n : Nat} {x1 : Int32} {x2 : Int32} {x3 : Int32} {x4 : Int32} {x5 : Int32} {x6 : Int32} {m : am_m} {t : Int32 × am_m} (h : lp_X10_seat_60 n x1 x2 x3 x4 x5 x6 m = some t) : am_kp [(10, 0), (10, 34), (10, 38)] [(10, 39), (10, 40), (85, 0), (87, 0)] 0 m t.2 := by
  induction n generalizing x5 x6 m with
  | zero => cases h
  | succ n ih =>
    unfold lp_X10_seat_60 at h
    by_cases hc13 : (m.1 44 0 0) ≤ x6
    · rw [if_pos hc13] at h
      cases h
      exact am_kp.rf
    · rw [if_neg hc13] at h
      obtain ⟨r14, h15, h⟩ := am_bd h
      by_cases hc16 : r14 = 0
      · rw [if_pos hc16] at h
        cases h
        exact am_kp.rf
      · rw [if_neg hc16] at h
        obtain ⟨r17, h18, h⟩ := am_bd h
        have k_r17 : am_kp [(10, 0), (10, 34), (10, 38)] [(10, 39), (10, 40), (85, 0), (87, 0)] 0 m r17.2 := am_kp.tr am_kp.rf (am_kp.mono (kp_X10_suffered x6 x1 m r17 h18) rfl)
        obtain ⟨r19, h20, h⟩ := am_bd h
        have k_r19 : am_kp [(10, 0), (10, 34), (10, 38)] [(10, 39), (10, 40), (85, 0), (87, 0)] 0 m r19.2 := am_kp.tr k_r17 (am_kp.mono (kp_X10_suffered x4 x1 r17.2 r19 h20) rfl)
        obtain ⟨q28, h29, h⟩ := am_bd h
        exact am_kp.tr k_r19 (ih h)
set_option maxRecDepth 100000 in
theorem kl_X10_seat_43 {n : Nat} {x1 : Int32} {x2 : Int32} {x3 : Int32} {x4 : Int32} {m : am_m} {t : Int32 × am_m} (h : lp_X10_seat_43 n x1 x2 x3 x4 m = some t) : am_kp [(10, 0), (10, 34), (10, 38)] [(10, 39), (10, 40), (85, 0), (87, 0)] 0 m t.2 := by
  induction n generalizing x3 x4 m with
  | zero => cases h
  | succ n ih =>
    unfold lp_X10_seat_43 at h
    by_cases hc12 : (m.1 44 0 0) ≤ x4
    · rw [if_pos hc12] at h
      cases h
      exact am_kp.rf
    · rw [if_neg hc12] at h
      obtain ⟨q30, h31, h⟩ := am_bd h
      have k_q30 : am_kp [(10, 0), (10, 34), (10, 38)] [(10, 39), (10, 40), (85, 0), (87, 0)] 0 m q30.2 := am_kp.tr am_kp.rf (kl_X10_seat_60 (h := h31))
      obtain ⟨r32, h33, h⟩ := am_bd h
      obtain ⟨q36, h37, h⟩ := am_bd h
      exact am_kp.tr k_q30 (ih h)
set_option maxRecDepth 100000 in
theorem kp_X10_seat (a1 : Int32) (a2 : Int32) (m : am_m) (t : Int32 × am_m) (h : fn_X10_seat a1 a2 m = some t) : am_kp [(10, 0), (10, 34), (10, 38)] [(10, 39), (10, 40), (85, 0), (87, 0)] 0 m t.2 := by
  unfold fn_X10_seat at h
  obtain ⟨r1, h2, h⟩ := am_bd h
  by_cases hc3 : r1 = 0
  · rw [if_pos hc3] at h
    cases h
    exact (am_kp.si am_kp.rf rfl)
  · rw [if_neg hc3] at h
    obtain ⟨r4, h5, h⟩ := am_bd h
    by_cases hc6 : r4 = 0
    · rw [if_pos hc6] at h
      cases h
      exact (am_kp.si am_kp.rf rfl)
    · rw [if_neg hc6] at h
      obtain ⟨r7, h8, h⟩ := am_bd h
      obtain ⟨r9, h10, h⟩ := am_bd h
      by_cases hc11 : r9 ≠ 0
      · rw [if_pos hc11] at h
        obtain ⟨q38, h39, h⟩ := am_bd h
        have k_q38 : am_kp [(10, 0), (10, 34), (10, 38)] [(10, 39), (10, 40), (85, 0), (87, 0)] 0 m q38.2 := am_kp.tr (am_kp.si am_kp.rf rfl) (kl_X10_seat_43 (h := h39))
        cases h
        exact k_q38
      · rw [if_neg hc11] at h
        cases h
        exact (am_kp.si am_kp.rf rfl)
-- X10_layFar
set_option maxRecDepth 100000 in
theorem kl_X10_layFar_2 {n : Nat} {x1 : Int32} {x2 : Int32} {m : am_m} {t : am_m} (h : lp_X10_layFar_2 n x1 x2 m = some t) : am_kp [(59, 0)] [] 0 m t := by
  induction n generalizing x2 m with
  | zero => cases h
  | succ n ih =>
    unfold lp_X10_layFar_2 at h
    by_cases hc1 : (m.1 44 0 0) ≤ x2
    · rw [if_pos hc1] at h
      cases h
      exact am_kp.rf
    · rw [if_neg hc1] at h
      obtain ⟨hg3, h⟩ := am_ck_some h
      exact am_kp.tr (am_kp.si am_kp.rf rfl) (ih h)
set_option maxRecDepth 100000 in
theorem kl_X10_layFar_59 {n : Nat} {x2 : Int32} {x3 : Int32} {x4 : Int32} {m : am_m} {t : am_m} (h : lp_X10_layFar_59 n x2 x3 x4 m = some t) : am_kp [(59, 0)] [] 0 m t := by
  induction n generalizing x4 m with
  | zero => cases h
  | succ n ih =>
    unfold lp_X10_layFar_59 at h
    by_cases hc8 : (m.1 44 0 0) ≤ x4
    · rw [if_pos hc8] at h
      cases h
      exact am_kp.rf
    · rw [if_neg hc8] at h
      obtain ⟨hg9, h⟩ := am_ck_some h
      obtain ⟨q17, h18, h⟩ := am_bd h
      obtain ⟨hg19, h⟩ := am_ck_some h
      exact am_kp.tr (am_kp.si am_kp.rf rfl) (ih h)
set_option maxRecDepth 100000 in
theorem kl_X10_layFar_46 {n : Nat} {x2 : Int32} {x3 : Int32} {m : am_m} {t : am_m} (h : lp_X10_layFar_46 n x2 x3 m = some t) : am_kp [(59, 0)] [] 0 m t := by
  induction n generalizing x3 m with
  | zero => cases h
  | succ n ih =>
    unfold lp_X10_layFar_46 at h
    by_cases hc7 : (m.1 44 0 0) ≤ x3
    · rw [if_pos hc7] at h
      cases h
      exact am_kp.rf
    · rw [if_neg hc7] at h
      obtain ⟨q20, h21, h⟩ := am_bd h
      have k_q20 : am_kp [(59, 0)] [] 0 m q20 := am_kp.tr am_kp.rf (kl_X10_layFar_59 (h := h21))
      exact am_kp.tr k_q20 (ih h)
set_option maxRecDepth 100000 in
theorem kl_X10_layFar_38 {n : Nat} {x2 : Int32} {m : am_m} {t : am_m} (h : lp_X10_layFar_38 n x2 m = some t) : am_kp [(59, 0)] [] 0 m t := by
  induction n generalizing x2 m with
  | zero => cases h
  | succ n ih =>
    unfold lp_X10_layFar_38 at h
    by_cases hc6 : (7 : Int32) ≤ x2
    · rw [if_pos hc6] at h
      cases h
      exact am_kp.rf
    · rw [if_neg hc6] at h
      obtain ⟨q22, h23, h⟩ := am_bd h
      have k_q22 : am_kp [(59, 0)] [] 0 m q22 := am_kp.tr am_kp.rf (kl_X10_layFar_46 (h := h23))
      exact am_kp.tr k_q22 (ih h)
set_option maxRecDepth 100000 in
theorem kp_X10_layFar (a1 : Int32) (m : am_m) (t : am_m) (h : fn_X10_layFar a1 m = some t) : am_kp [(59, 0)] [] 0 m t := by
  unfold fn_X10_layFar at h
  obtain ⟨q4, h5, h⟩ := am_bd h
  have k_q4 : am_kp [(59, 0)] [] 0 m q4 := am_kp.tr am_kp.rf (kl_X10_layFar_2 (h := h5))
  obtain ⟨q24, h25, h⟩ := am_bd h
  have k_q24 : am_kp [(59, 0)] [] 0 m q24 := am_kp.tr k_q4 (kl_X10_layFar_38 (h := h25))
  cases h
  exact k_q24
-- X10_chain
set_option maxRecDepth 100000 in
theorem kp_X10_chain (a1 : Int32) (a2 : Int32) (a3 : Int32) (m : am_m) (t : Int32 × am_m) (h : fn_X10_chain a1 a2 a3 m = some t) : am_kp [(10, 0), (10, 34), (10, 38), (59, 0), (92, 0), (93, 0)] [(10, 39), (10, 40), (85, 0), (87, 0)] 0 m t.2 := by
  unfold fn_X10_chain at h
  obtain ⟨r1, h2, h⟩ := am_bd h
  by_cases hc3 : r1 = 0
  · rw [if_pos hc3] at h
    cases h
    exact (am_kp.si am_kp.rf rfl)
  · rw [if_neg hc3] at h
    obtain ⟨r4, h5, h⟩ := am_bd h
    by_cases hc6 : r4 = 0
    · rw [if_pos hc6] at h
      cases h
      exact (am_kp.si am_kp.rf rfl)
    · rw [if_neg hc6] at h
      by_cases hc7 : (-1 : Int32) ≤ a3
      · rw [if_pos hc7] at h
        obtain ⟨r8, h9, h⟩ := am_bd h
        have k_r8 : am_kp [(10, 0), (10, 34), (10, 38), (59, 0), (92, 0), (93, 0)] [(10, 39), (10, 40), (85, 0), (87, 0)] 0 m r8 := am_kp.tr (am_kp.si am_kp.rf rfl) (am_kp.mono (kp_X10_layMay  (am_si m 10 0 0 0) r8 h9) rfl)
        obtain ⟨r10, h11, h⟩ := am_bd h
        have k_r10 : am_kp [(10, 0), (10, 34), (10, 38), (59, 0), (92, 0), (93, 0)] [(10, 39), (10, 40), (85, 0), (87, 0)] 0 m r10 := am_kp.tr k_r8 (am_kp.mono (kp_X10_layFar a2 r8 r10 h11) rfl)
        obtain ⟨hg12, h⟩ := am_ck_some h
        by_cases hc13 : (r10.1 59 0 a1.toNatClampNeg) = (100000000 : Int32)
        · rw [if_pos hc13] at h
          obtain ⟨hg14, h⟩ := am_ck_some h
          by_cases hc15 : (r10.1 59 0 a1.toNatClampNeg) ≠ (100000000 : Int32)
          · rw [if_pos hc15] at h
            obtain ⟨hg16, h⟩ := am_ck_some h
            cases h
            exact k_r10
          · rw [if_neg hc15] at h
            cases h
            exact k_r10
        · rw [if_neg hc13] at h
          by_cases hc17 : a3 ≠ (-1 : Int32)
          · rw [if_pos hc17] at h
            obtain ⟨hg18, h⟩ := am_ck_some h
            by_cases hc19 : a3 < (r10.1 59 0 a1.toNatClampNeg)
            · rw [if_pos hc19] at h
              obtain ⟨q28, h29, h⟩ := am_bd h
              cases h
              exact k_r10
            · rw [if_neg hc19] at h
              cases h
              exact k_r10
          · rw [if_neg hc17] at h
            obtain ⟨hg30, h⟩ := am_ck_some h
            by_cases hc31 : (r10.1 59 0 a1.toNatClampNeg) ≠ (100000000 : Int32)
            · rw [if_pos hc31] at h
              obtain ⟨hg32, h⟩ := am_ck_some h
              cases h
              exact k_r10
            · rw [if_neg hc31] at h
              cases h
              exact k_r10
      · rw [if_neg hc7] at h
        cases h
        exact (am_kp.si am_kp.rf rfl)
-- X10_circles
set_option maxRecDepth 100000 in
theorem kp_X10_circles  (m : am_m) (t : Int32 × am_m) (h : fn_X10_circles  m = some t) : am_kp [(10, 0), (10, 34), (10, 38), (92, 0), (93, 0)] [(10, 39), (10, 40), (85, 0), (87, 0)] 0 m t.2 := by
  unfold fn_X10_circles at h
  obtain ⟨r1, h2, h⟩ := am_bd h
  have k_r1 : am_kp [(10, 0), (10, 34), (10, 38), (92, 0), (93, 0)] [(10, 39), (10, 40), (85, 0), (87, 0)] 0 m r1 := am_kp.tr (am_kp.si am_kp.rf rfl) (am_kp.mono (kp_X10_layMay  (am_si m 10 0 0 0) r1 h2) rfl)
  obtain ⟨r3, h4, h⟩ := am_bd h
  cases h
  exact k_r1
-- X10_isBridge
set_option maxRecDepth 100000 in
theorem kp_X10_isBridge (a1 : Int32) (a2 : Int32) (m : am_m) (t : Int32 × am_m) (h : fn_X10_isBridge a1 a2 m = some t) : am_kp [(92, 0)] [] 0 m t.2 := by
  unfold fn_X10_isBridge at h
  obtain ⟨r1, h2, h⟩ := am_bd h
  obtain ⟨hg3, h⟩ := am_ck_some h
  obtain ⟨hg5, h⟩ := am_ck_some h
  obtain ⟨r7, h8, h⟩ := am_bd h
  obtain ⟨hg10, h⟩ := am_ck_some h
  obtain ⟨hg12, h⟩ := am_ck_some h
  obtain ⟨hz14, h⟩ := am_gd_some h
  cases h
  exact (am_kp.si (am_kp.si (am_kp.si (am_kp.si am_kp.rf rfl) rfl) rfl) rfl)
-- X10_bridges
set_option maxRecDepth 100000 in
theorem kl_X10_bridges_33 {n : Nat} {x1 : Int32} {x2 : Int32} {x3 : Int32} {x4 : Int32} {x5 : Int32} {m : am_m} {t : Int32 × Int32 × am_m} (h : lp_X10_bridges_33 n x1 x2 x3 x4 x5 m = some t) : am_kp [(10, 0), (10, 34), (10, 38), (92, 0), (93, 0)] [(10, 39), (10, 40), (85, 0), (87, 0)] 0 m t.2.2 := by
  induction n generalizing x2 x3 x5 m with
  | zero => cases h
  | succ n ih =>
    unfold lp_X10_bridges_33 at h
    by_cases hc4 : (m.1 44 0 0) ≤ x5
    · rw [if_pos hc4] at h
      cases h
      exact am_kp.rf
    · rw [if_neg hc4] at h
      obtain ⟨hg5, h⟩ := am_ck_some h
      obtain ⟨q11, h12, h⟩ := am_bd h
      have k_q11 : am_kp [(10, 0), (10, 34), (10, 38), (92, 0), (93, 0)] [(10, 39), (10, 40), (85, 0), (87, 0)] 0 m q11.2.2 := by
        have h := h12
        by_cases hc6 : (m.1 92 0 (((7 : Int32) * x4) + x5).toNatClampNeg) = 0
        · rw [if_pos hc6] at h
          cases h
          exact am_kp.rf
        · rw [if_neg hc6] at h
          obtain ⟨r7, h8, h⟩ := am_bd h
          have k_r7 : am_kp [(10, 0), (10, 34), (10, 38), (92, 0), (93, 0)] [(10, 39), (10, 40), (85, 0), (87, 0)] 0 m r7.2 := am_kp.tr am_kp.rf (am_kp.mono (kp_X10_isBridge x4 x5 m r7 h8) rfl)
          by_cases hc9 : r7.1 = 0
          · rw [if_pos hc9] at h
            cases h
            exact k_r7
          · rw [if_neg hc9] at h
            cases h
            exact k_r7
      exact am_kp.tr k_q11 (ih h)
set_option maxRecDepth 100000 in
theorem kl_X10_bridges_16 {n : Nat} {x1 : Int32} {x2 : Int32} {x3 : Int32} {x4 : Int32} {m : am_m} {t : Int32 × Int32 × am_m} (h : lp_X10_bridges_16 n x1 x2 x3 x4 m = some t) : am_kp [(10, 0), (10, 34), (10, 38), (92, 0), (93, 0)] [(10, 39), (10, 40), (85, 0), (87, 0)] 0 m t.2.2 := by
  induction n generalizing x2 x3 x4 m with
  | zero => cases h
  | succ n ih =>
    unfold lp_X10_bridges_16 at h
    by_cases hc3 : (m.1 44 0 0) ≤ x4
    · rw [if_pos hc3] at h
      cases h
      exact am_kp.rf
    · rw [if_neg hc3] at h
      obtain ⟨q13, h14, h⟩ := am_bd h
      have k_q13 : am_kp [(10, 0), (10, 34), (10, 38), (92, 0), (93, 0)] [(10, 39), (10, 40), (85, 0), (87, 0)] 0 m q13.2.2 := am_kp.tr am_kp.rf (kl_X10_bridges_33 (h := h14))
      exact am_kp.tr k_q13 (ih h)
set_option maxRecDepth 100000 in
theorem kp_X10_bridges (a1 : Int32) (m : am_m) (t : Int32 × am_m) (h : fn_X10_bridges a1 m = some t) : am_kp [(10, 0), (10, 34), (10, 38), (92, 0), (93, 0)] [(10, 39), (10, 40), (85, 0), (87, 0)] 0 m t.2 := by
  unfold fn_X10_bridges at h
  obtain ⟨r1, h2, h⟩ := am_bd h
  have k_r1 : am_kp [(10, 0), (10, 34), (10, 38), (92, 0), (93, 0)] [(10, 39), (10, 40), (85, 0), (87, 0)] 0 m r1 := am_kp.tr (am_kp.si am_kp.rf rfl) (am_kp.mono (kp_X10_layMay  (am_si m 10 0 0 0) r1 h2) rfl)
  obtain ⟨q15, h16, h⟩ := am_bd h
  have k_q15 : am_kp [(10, 0), (10, 34), (10, 38), (92, 0), (93, 0)] [(10, 39), (10, 40), (85, 0), (87, 0)] 0 m q15.2.2 := am_kp.tr k_r1 (kl_X10_bridges_16 (h := h16))
  by_cases hc17 : a1 ≠ (-1 : Int32)
  · rw [if_pos hc17] at h
    cases h
    exact k_q15
  · rw [if_neg hc17] at h
    cases h
    exact k_q15
-- X10_sat
set_option maxRecDepth 100000 in
theorem kp_X10_sat (a1 : Int32) (m : am_m) (t : Int32 × am_m) (h : fn_X10_sat a1 m = some t) : am_kp [(10, 0), (10, 1), (43, 0), (44, 0)] [] 0 m t.2 := by
  unfold fn_X10_sat at h
  obtain ⟨r1, h2, h⟩ := am_bd h
  by_cases hc3 : r1 = 0
  · rw [if_pos hc3] at h
    obtain ⟨r4, h5, h⟩ := am_bd h
    have k_r4 : am_kp [(10, 0), (10, 1), (43, 0), (44, 0)] [] 0 m r4.2 := am_kp.tr (am_kp.si am_kp.rf rfl) (am_kp.mono (kp_X10_tell (-1) (am_si m 10 0 0 0) r4 h5) rfl)
    cases h
    exact k_r4
  · rw [if_neg hc3] at h
    obtain ⟨r6, h7, h⟩ := am_bd h
    by_cases hc8 : (2 : Int32) ≤ r6
    · rw [if_pos hc8] at h
      obtain ⟨r9, h10, h⟩ := am_bd h
      by_cases hc11 : r9 ≠ 0
      · rw [if_pos hc11] at h
        by_cases hc12 : (m.1 44 0 1) ≠ (6 : Int32)
        · rw [if_pos hc12] at h
          obtain ⟨hg13, h⟩ := am_ck_some h
          obtain ⟨r14, h15, h⟩ := am_bd h
          have k_r14 : am_kp [(10, 0), (10, 1), (43, 0), (44, 0)] [] 0 m r14.2 := am_kp.tr (am_kp.si (am_kp.si (am_kp.si am_kp.rf rfl) rfl) rfl) (am_kp.mono (kp_X10_tell ((m.1 44 0 1) + (1 : Int32)) (am_si (am_si (am_si m 10 0 0 0) 44 0 ((112 : Int32) + (m.1 44 0 1)).toNatClampNeg a1) 44 0 1 (((am_si (am_si m 10 0 0 0) 44 0 ((112 : Int32) + (m.1 44 0 1)).toNatClampNeg a1).1 44 0 1) + (1 : Int32))) r14 h15) rfl)
          cases h
          exact k_r14
        · rw [if_neg hc12] at h
          obtain ⟨r16, h17, h⟩ := am_bd h
          have k_r16 : am_kp [(10, 0), (10, 1), (43, 0), (44, 0)] [] 0 m r16.2 := am_kp.tr (am_kp.si am_kp.rf rfl) (am_kp.mono (kp_X10_tell (-5) (am_si m 10 0 0 0) r16 h17) rfl)
          cases h
          exact k_r16
      · rw [if_neg hc11] at h
        obtain ⟨r18, h19, h⟩ := am_bd h
        have k_r18 : am_kp [(10, 0), (10, 1), (43, 0), (44, 0)] [] 0 m r18.2 := am_kp.tr (am_kp.si am_kp.rf rfl) (am_kp.mono (kp_X10_tell (-2) (am_si m 10 0 0 0) r18 h19) rfl)
        cases h
        exact k_r18
    · rw [if_neg hc8] at h
      obtain ⟨r20, h21, h⟩ := am_bd h
      have k_r20 : am_kp [(10, 0), (10, 1), (43, 0), (44, 0)] [] 0 m r20.2 := am_kp.tr (am_kp.si am_kp.rf rfl) (am_kp.mono (kp_X10_tell (-1) (am_si m 10 0 0 0) r20 h21) rfl)
      cases h
      exact k_r20
-- X10_forget
set_option maxRecDepth 100000 in
theorem kp_X10_forget  (m : am_m) (t : Int32 × am_m) (h : fn_X10_forget  m = some t) : am_kp [(10, 0), (44, 0)] [] 0 m t.2 := by
  unfold fn_X10_forget at h
  cases h
  exact (am_kp.si (am_kp.si am_kp.rf rfl) rfl)
-- X10_doubted
set_option maxRecDepth 100000 in
theorem kp_X10_doubted (a1 : Int32) (m : am_m) (t : Int32 × am_m) (h : fn_X10_doubted a1 m = some t) : am_kp [(10, 0), (10, 34), (10, 38), (92, 0), (93, 0)] [(10, 39), (10, 40), (85, 0), (87, 0)] 0 m t.2 := by
  unfold fn_X10_doubted at h
  obtain ⟨r1, h2, h⟩ := am_bd h
  have k_r1 : am_kp [(10, 0), (10, 34), (10, 38), (92, 0), (93, 0)] [(10, 39), (10, 40), (85, 0), (87, 0)] 0 m r1 := am_kp.tr (am_kp.si am_kp.rf rfl) (am_kp.mono (kp_X10_layMay  (am_si m 10 0 0 0) r1 h2) rfl)
  obtain ⟨q15, h16, h⟩ := am_bd h
  by_cases hc17 : a1 ≠ (-1 : Int32)
  · rw [if_pos hc17] at h
    cases h
    exact k_r1
  · rw [if_neg hc17] at h
    cases h
    exact k_r1
-- X10_fitting
set_option maxRecDepth 100000 in
theorem kp_X10_fitting (a1 : Int32) (m : am_m) (t : Int32 × am_m) (h : fn_X10_fitting a1 m = some t) : am_kp [(10, 0), (10, 34), (10, 38), (92, 0), (93, 0)] [(10, 39), (10, 40), (85, 0), (87, 0)] 0 m t.2 := by
  unfold fn_X10_fitting at h
  obtain ⟨r1, h2, h⟩ := am_bd h
  by_cases hc3 : r1 = 0
  · rw [if_pos hc3] at h
    cases h
    exact (am_kp.si am_kp.rf rfl)
  · rw [if_neg hc3] at h
    obtain ⟨r4, h5, h⟩ := am_bd h
    by_cases hc6 : r4 ≠ 0
    · rw [if_pos hc6] at h
      obtain ⟨r7, h8, h⟩ := am_bd h
      have k_r7 : am_kp [(10, 0), (10, 34), (10, 38), (92, 0), (93, 0)] [(10, 39), (10, 40), (85, 0), (87, 0)] 0 m r7 := am_kp.tr (am_kp.si am_kp.rf rfl) (am_kp.mono (kp_X10_layMay  (am_si m 10 0 0 0) r7 h8) rfl)
      obtain ⟨r9, h10, h⟩ := am_bd h
      cases h
      exact k_r7
    · rw [if_neg hc6] at h
      cases h
      exact (am_kp.si am_kp.rf rfl)
-- X10_ask
set_option maxRecDepth 100000 in
theorem kp_X10_ask (a1 : Int32) (a2 : Int32) (m : am_m) (t : Int32 × am_m) (h : fn_X10_ask a1 a2 m = some t) : am_kp [(10, 0), (10, 34), (10, 38), (92, 0), (93, 0)] [(10, 39), (10, 40), (85, 0), (87, 0)] 0 m t.2 := by
  unfold fn_X10_ask at h
  obtain ⟨r1, h2, h⟩ := am_bd h
  by_cases hc3 : r1 = 0
  · rw [if_pos hc3] at h
    cases h
    exact (am_kp.si am_kp.rf rfl)
  · rw [if_neg hc3] at h
    obtain ⟨r4, h5, h⟩ := am_bd h
    by_cases hc6 : r4 = 0
    · rw [if_pos hc6] at h
      cases h
      exact (am_kp.si am_kp.rf rfl)
    · rw [if_neg hc6] at h
      obtain ⟨r7, h8, h⟩ := am_bd h
      by_cases hc9 : r7 ≠ 0
      · rw [if_pos hc9] at h
        obtain ⟨r10, h11, h⟩ := am_bd h
        have k_r10 : am_kp [(10, 0), (10, 34), (10, 38), (92, 0), (93, 0)] [(10, 39), (10, 40), (85, 0), (87, 0)] 0 m r10 := am_kp.tr (am_kp.si am_kp.rf rfl) (am_kp.mono (kp_X10_layMay  (am_si m 10 0 0 0) r10 h11) rfl)
        obtain ⟨r12, h13, h⟩ := am_bd h
        obtain ⟨q25, h26, h⟩ := am_bd h
        by_cases hc27 : q25 = (-1 : Int32)
        · rw [if_pos hc27] at h
          cases h
          exact k_r10
        · rw [if_neg hc27] at h
          by_cases hc28 : a2 ≠ 0
          · rw [if_pos hc28] at h
            obtain ⟨r29, h30, h⟩ := am_bd h
            obtain ⟨r31, h32, h⟩ := am_bd h
            cases h
            exact k_r10
          · rw [if_neg hc28] at h
            cases h
            exact k_r10
      · rw [if_neg hc9] at h
        cases h
        exact (am_kp.si am_kp.rf rfl)
-- X10_lasts
set_option maxRecDepth 100000 in
theorem kl_X10_lasts_23 {n : Nat} {x1 : Int32} {x2 : Int32} {m : am_m} {t : Int32 × am_m} (h : lp_X10_lasts_23 n x1 x2 m = some t) : am_kp [(10, 0), (10, 34), (10, 38), (44, 0), (46, 0), (56, 0)] [(10, 39), (10, 40), (85, 0), (87, 0)] 0 m t.2 := by
  induction n generalizing x2 m with
  | zero => cases h
  | succ n ih =>
    unfold lp_X10_lasts_23 at h
    by_cases hc6 : (100 : Int32) < x2
    · rw [if_pos hc6] at h
      cases h
      exact am_kp.rf
    · rw [if_neg hc6] at h
      obtain ⟨hg7, h⟩ := am_ck_some h
      by_cases hc8 : (m.1 44 0 ((7 : Int32) + x1).toNatClampNeg) ≤ 0
      · rw [if_pos hc8] at h
        cases h
        exact am_kp.rf
      · rw [if_neg hc8] at h
        obtain ⟨r9, h10, h⟩ := am_bd h
        have k_r9 : am_kp [(10, 0), (10, 34), (10, 38), (44, 0), (46, 0), (56, 0)] [(10, 39), (10, 40), (85, 0), (87, 0)] 0 m r9 := am_kp.tr am_kp.rf (am_kp.mono (kp_X10_passIt  m r9 h10) rfl)
        exact am_kp.tr k_r9 (ih h)
set_option maxRecDepth 100000 in
theorem kp_X10_lasts (a1 : Int32) (m : am_m) (t : Int32 × am_m) (h : fn_X10_lasts a1 m = some t) : am_kp [(10, 0), (10, 34), (10, 38), (44, 0), (46, 0), (56, 0)] [(10, 39), (10, 40), (85, 0), (87, 0)] 0 m t.2 := by
  unfold fn_X10_lasts at h
  obtain ⟨r1, h2, h⟩ := am_bd h
  by_cases hc3 : r1 ≠ 0
  · rw [if_pos hc3] at h
    obtain ⟨r4, h5, h⟩ := am_bd h
    have k_r4 : am_kp [(10, 0), (10, 34), (10, 38), (44, 0), (46, 0), (56, 0)] [(10, 39), (10, 40), (85, 0), (87, 0)] 0 m r4 := am_kp.tr (am_kp.si am_kp.rf rfl) (am_kp.mono (kp_X10_keepAll 16 (am_si m 10 0 0 0) r4 h5) rfl)
    obtain ⟨q11, h12, h⟩ := am_bd h
    have k_q11 : am_kp [(10, 0), (10, 34), (10, 38), (44, 0), (46, 0), (56, 0)] [(10, 39), (10, 40), (85, 0), (87, 0)] 0 m q11.2 := am_kp.tr k_r4 (kl_X10_lasts_23 (h := h12))
    obtain ⟨r13, h14, h⟩ := am_bd h
    have k_r13 : am_kp [(10, 0), (10, 34), (10, 38), (44, 0), (46, 0), (56, 0)] [(10, 39), (10, 40), (85, 0), (87, 0)] 0 m r13 := am_kp.tr k_q11 (am_kp.mono (kp_X10_putBack 16 q11.2 r13 h14) rfl)
    by_cases hc15 : q11.1 ≤ (100 : Int32)
    · rw [if_pos hc15] at h
      cases h
      exact k_r13
    · rw [if_neg hc15] at h
      cases h
      exact k_r13
  · rw [if_neg hc3] at h
    cases h
    exact (am_kp.si am_kp.rf rfl)
-- X10_fedBy
set_option maxRecDepth 100000 in
theorem kl_X10_fedBy_68 {n : Nat} {x2 : Int32} {x3 : Int32} {m : am_m} {t : am_m} (h : lp_X10_fedBy_68 n x2 x3 m = some t) : am_kp [(10, 0), (10, 34), (10, 38), (60, 0), (92, 0), (93, 0)] [(10, 39), (10, 40), (85, 0), (87, 0)] 0 m t := by
  induction n generalizing x3 m with
  | zero => cases h
  | succ n ih =>
    unfold lp_X10_fedBy_68 at h
    obtain ⟨r11, h12, h⟩ := am_bd h
    by_cases hc13 : r11 < x3
    · rw [if_pos hc13] at h
      cases h
      exact am_kp.rf
    · rw [if_neg hc13] at h
      obtain ⟨hg15, h⟩ := am_ck_some h
      exact am_kp.tr (am_kp.si am_kp.rf rfl) (ih h)
set_option maxRecDepth 100000 in
theorem kl_X10_fedBy_112 {n : Nat} {x2 : Int32} {x3 : Int32} {x4 : Int32} {m : am_m} {t : am_m} (h : lp_X10_fedBy_112 n x2 x3 x4 m = some t) : am_kp [(10, 0), (10, 34), (10, 38), (60, 0), (92, 0), (93, 0)] [(10, 39), (10, 40), (85, 0), (87, 0)] 0 m t := by
  induction n generalizing x4 m with
  | zero => cases h
  | succ n ih =>
    unfold lp_X10_fedBy_112 at h
    obtain ⟨r21, h22, h⟩ := am_bd h
    by_cases hc23 : r21 < x4
    · rw [if_pos hc23] at h
      cases h
      exact am_kp.rf
    · rw [if_neg hc23] at h
      obtain ⟨hg24, h⟩ := am_ck_some h
      by_cases hc25 : (100000000 : Int32) ≤ (m.1 60 0 x3.toNatClampNeg)
      · rw [if_pos hc25] at h
        cases h
        exact am_kp.rf
      · rw [if_neg hc25] at h
        obtain ⟨r26, h27, h⟩ := am_bd h
        obtain ⟨q37, h38, h⟩ := am_bd h
        have k_q37 : am_kp [(10, 0), (10, 34), (10, 38), (60, 0), (92, 0), (93, 0)] [(10, 39), (10, 40), (85, 0), (87, 0)] 0 m q37 := by
          have h := h38
          by_cases hc28 : r26 = 0
          · rw [if_pos hc28] at h
            cases h
            exact am_kp.rf
          · rw [if_neg hc28] at h
            obtain ⟨hg29, h⟩ := am_ck_some h
            obtain ⟨hg30, h⟩ := am_ck_some h
            obtain ⟨q34, h35, h⟩ := am_bd h
            obtain ⟨hg36, h⟩ := am_ck_some h
            cases h
            exact (am_kp.si am_kp.rf rfl)
        exact am_kp.tr k_q37 (ih h)
set_option maxRecDepth 100000 in
theorem kl_X10_fedBy_101 {n : Nat} {x2 : Int32} {x3 : Int32} {m : am_m} {t : am_m} (h : lp_X10_fedBy_101 n x2 x3 m = some t) : am_kp [(10, 0), (10, 34), (10, 38), (60, 0), (92, 0), (93, 0)] [(10, 39), (10, 40), (85, 0), (87, 0)] 0 m t := by
  induction n generalizing x3 m with
  | zero => cases h
  | succ n ih =>
    unfold lp_X10_fedBy_101 at h
    obtain ⟨r18, h19, h⟩ := am_bd h
    by_cases hc20 : r18 < x3
    · rw [if_pos hc20] at h
      cases h
      exact am_kp.rf
    · rw [if_neg hc20] at h
      obtain ⟨q39, h40, h⟩ := am_bd h
      have k_q39 : am_kp [(10, 0), (10, 34), (10, 38), (60, 0), (92, 0), (93, 0)] [(10, 39), (10, 40), (85, 0), (87, 0)] 0 m q39 := am_kp.tr am_kp.rf (kl_X10_fedBy_112 (h := h40))
      exact am_kp.tr k_q39 (ih h)
set_option maxRecDepth 100000 in
theorem kp_X10_fedBy (a1 : Int32) (m : am_m) (t : Int32 × am_m) (h : fn_X10_fedBy a1 m = some t) : am_kp [(10, 0), (10, 34), (10, 38), (60, 0), (92, 0), (93, 0)] [(10, 39), (10, 40), (85, 0), (87, 0)] 0 m t.2 := by
  unfold fn_X10_fedBy at h
  obtain ⟨r1, h2, h⟩ := am_bd h
  by_cases hc3 : r1 ≠ 0
  · rw [if_pos hc3] at h
    obtain ⟨r4, h5, h⟩ := am_bd h
    have k_r4 : am_kp [(10, 0), (10, 34), (10, 38), (60, 0), (92, 0), (93, 0)] [(10, 39), (10, 40), (85, 0), (87, 0)] 0 m r4 := am_kp.tr (am_kp.si am_kp.rf rfl) (am_kp.mono (kp_X10_layMay  (am_si m 10 0 0 0) r4 h5) rfl)
    obtain ⟨q9, h10, h⟩ := am_bd h
    obtain ⟨q16, h17, h⟩ := am_bd h
    have k_q16 : am_kp [(10, 0), (10, 34), (10, 38), (60, 0), (92, 0), (93, 0)] [(10, 39), (10, 40), (85, 0), (87, 0)] 0 m q16 := am_kp.tr k_r4 (kl_X10_fedBy_68 (h := h17))
    obtain ⟨q41, h42, h⟩ := am_bd h
    have k_q41 : am_kp [(10, 0), (10, 34), (10, 38), (60, 0), (92, 0), (93, 0)] [(10, 39), (10, 40), (85, 0), (87, 0)] 0 m q41 := am_kp.tr k_q16 (kl_X10_fedBy_101 (h := h42))
    obtain ⟨q52, h53, h⟩ := am_bd h
    by_cases hc54 : q52 ≠ (100000000 : Int32)
    · rw [if_pos hc54] at h
      cases h
      exact k_q41
    · rw [if_neg hc54] at h
      cases h
      exact k_q41
  · rw [if_neg hc3] at h
    cases h
    exact (am_kp.si am_kp.rf rfl)
-- X10_few
set_option maxRecDepth 100000 in
theorem kl_X10_few_35 {n : Nat} {x1 : Int32} {x2 : Int32} {x3 : Int32} {m : am_m} {t : am_m} (h : lp_X10_few_35 n x1 x2 x3 m = some t) : am_kp [(10, 0)] [(88, 0)] 0 m t := by
  induction n generalizing x3 m with
  | zero => cases h
  | succ n ih =>
    unfold lp_X10_few_35 at h
    by_cases hc7 : (21 : Int32) ≤ x3
    · rw [if_pos hc7] at h
      cases h
      exact am_kp.rf
    · rw [if_neg hc7] at h
      obtain ⟨hg9, h⟩ := am_ck_some h
      exact am_kp.tr (am_kp.sg am_kp.rf rfl) (ih h)
set_option maxRecDepth 100000 in
theorem kl_X10_few_85 {n : Nat} {x1 : Int32} {x2 : Int32} {x3 : Int32} {x4 : Int32} {x5 : Int32} {m : am_m} {t : am_m} (h : lp_X10_few_85 n x1 x2 x3 x4 x5 m = some t) : am_kp [(10, 0)] [(88, 0)] 0 m t := by
  induction n generalizing x5 m with
  | zero => cases h
  | succ n ih =>
    unfold lp_X10_few_85 at h
    by_cases hc13 : x5 < 0
    · rw [if_pos hc13] at h
      cases h
      exact am_kp.rf
    · rw [if_neg hc13] at h
      obtain ⟨hg14, h⟩ := am_ck_some h
      obtain ⟨hg15, h⟩ := am_ck_some h
      obtain ⟨hg16, h⟩ := am_ck_some h
      obtain ⟨hg17, h⟩ := am_ck_some h
      exact am_kp.tr (am_kp.sg (am_kp.sg am_kp.rf rfl) rfl) (ih h)
set_option maxRecDepth 100000 in
theorem kl_X10_few_74 {n : Nat} {x1 : Int32} {x2 : Int32} {x3 : Int32} {x4 : Int32} {m : am_m} {t : am_m} (h : lp_X10_few_74 n x1 x2 x3 x4 m = some t) : am_kp [(10, 0)] [(88, 0)] 0 m t := by
  induction n generalizing x4 m with
  | zero => cases h
  | succ n ih =>
    unfold lp_X10_few_74 at h
    by_cases hc12 : x2 ≤ x4
    · rw [if_pos hc12] at h
      cases h
      exact am_kp.rf
    · rw [if_neg hc12] at h
      obtain ⟨q18, h19, h⟩ := am_bd h
      have k_q18 : am_kp [(10, 0)] [(88, 0)] 0 m q18 := am_kp.tr am_kp.rf (kl_X10_few_85 (h := h19))
      exact am_kp.tr k_q18 (ih h)
set_option maxRecDepth 100000 in
theorem kp_X10_few (a1 : Int32) (a2 : Int32) (m : am_m) (t : Int64 × am_m) (h : fn_X10_few a1 a2 m = some t) : am_kp [(10, 0)] [(88, 0)] 0 m t.2 := by
  unfold fn_X10_few at h
  obtain ⟨r1, h2, h⟩ := am_bd h
  by_cases hc3 : r1 = 0
  · rw [if_pos hc3] at h
    cases h
    exact (am_kp.si am_kp.rf rfl)
  · rw [if_neg hc3] at h
    obtain ⟨r4, h5, h⟩ := am_bd h
    by_cases hc6 : r4 ≠ 0
    · rw [if_pos hc6] at h
      obtain ⟨q10, h11, h⟩ := am_bd h
      have k_q10 : am_kp [(10, 0)] [(88, 0)] 0 m q10 := am_kp.tr (am_kp.si am_kp.rf rfl) (kl_X10_few_35 (h := h11))
      obtain ⟨q20, h21, h⟩ := am_bd h
      have k_q20 : am_kp [(10, 0)] [(88, 0)] 0 m q20 := am_kp.tr k_q10 (kl_X10_few_74 (h := h21))
      obtain ⟨q24, h25, h⟩ := am_bd h
      cases h
      exact k_q20
    · rw [if_neg hc6] at h
      cases h
      exact (am_kp.si am_kp.rf rfl)
-- X10_compare
set_option maxRecDepth 100000 in
theorem kp_X10_compare (a1 : Int32) (m : am_m) (t : Int32 × am_m) (h : fn_X10_compare a1 m = some t) : am_kp [(10, 0), (10, 34), (10, 38), (44, 0), (92, 0), (93, 0)] [(10, 39), (10, 40), (85, 0), (87, 0)] 0 m t.2 := by
  unfold fn_X10_compare at h
  obtain ⟨r1, h2, h⟩ := am_bd h
  by_cases hc3 : r1 ≠ 0
  · rw [if_pos hc3] at h
    obtain ⟨r4, h5, h⟩ := am_bd h
    have k_r4 : am_kp [(10, 0), (10, 34), (10, 38), (44, 0), (92, 0), (93, 0)] [(10, 39), (10, 40), (85, 0), (87, 0)] 0 m r4 := am_kp.tr (am_kp.si (am_kp.si am_kp.rf rfl) rfl) (am_kp.mono (kp_X10_layMay  (am_si (am_si m 10 0 0 0) 44 0 3 a1) r4 h5) rfl)
    obtain ⟨r6, h7, h⟩ := am_bd h
    obtain ⟨r8, h9, h⟩ := am_bd h
    cases h
    exact (am_kp.si k_r4 rfl)
  · rw [if_neg hc3] at h
    cases h
    exact (am_kp.si am_kp.rf rfl)
-- X10_readSum
set_option maxRecDepth 100000 in
theorem kp_X10_readSum (a1 : Int32) (m : am_m) (t : am_m) (h : fn_X10_readSum a1 m = some t) : am_kp [(10, 14), (10, 15), (10, 16), (10, 18), (10, 19), (10, 23), (10, 26), (10, 29), (10, 30), (52, 0), (53, 0), (54, 0), (55, 0), (61, 0)] [(10, 17)] 0 m t := by
  unfold fn_X10_readSum at h
  obtain ⟨hg1, h⟩ := am_ck_some h
  obtain ⟨q5, h6, h⟩ := am_bd h
  have k_q5 : am_kp [(10, 14), (10, 15), (10, 16), (10, 18), (10, 19), (10, 23), (10, 26), (10, 29), (10, 30), (52, 0), (53, 0), (54, 0), (55, 0), (61, 0)] [(10, 17)] 0 m q5 := by
    have h := h6
    by_cases hc2 : (m.1 10 0 19) ≠ 0
    · rw [if_pos hc2] at h
      cases h
      exact (am_kp.si am_kp.rf rfl)
    · rw [if_neg hc2] at h
      obtain ⟨r3, h4, h⟩ := am_bd h
      have k_r3 : am_kp [(10, 14), (10, 15), (10, 16), (10, 18), (10, 19), (10, 23), (10, 26), (10, 29), (10, 30), (52, 0), (53, 0), (54, 0), (55, 0), (61, 0)] [(10, 17)] 0 m r3 := am_kp.tr (am_kp.si am_kp.rf rfl) (am_kp.mono (kp_X10_readExpression 0 (am_si m 61 0 a1.toNatClampNeg (m.1 10 0 23)) r3 h4) rfl)
      cases h
      exact k_r3
  obtain ⟨hg7, h⟩ := am_ck_some h
  cases h
  exact (am_kp.si k_q5 rfl)
-- X10_readBehind
set_option maxRecDepth 100000 in
theorem kp_X10_readBehind (a1 : Int64) (a2 : Int32) (m : am_m) (t : am_m) (h : fn_X10_readBehind a1 a2 m = some t) : am_kp [(10, 14), (10, 15), (10, 16), (10, 18), (10, 19), (10, 23), (10, 26), (10, 29), (10, 30), (52, 0), (53, 0), (54, 0), (55, 0), (61, 0)] [(10, 17)] 0 m t := by
  unfold fn_X10_readBehind at h
  obtain ⟨q6, h7, h⟩ := am_bd h
  have k_q6 : am_kp [(10, 14), (10, 15), (10, 16), (10, 18), (10, 19), (10, 23), (10, 26), (10, 29), (10, 30), (52, 0), (53, 0), (54, 0), (55, 0), (61, 0)] [(10, 17)] 0 m q6 := by
    have h := h7
    by_cases hc1 : (m.1 10 0 19) ≠ 0
    · rw [if_pos hc1] at h
      cases h
      exact am_kp.rf
    · rw [if_neg hc1] at h
      obtain ⟨r2, h3, h⟩ := am_bd h
      obtain ⟨r4, h5, h⟩ := am_bd h
      have k_r4 : am_kp [(10, 14), (10, 15), (10, 16), (10, 18), (10, 19), (10, 23), (10, 26), (10, 29), (10, 30), (52, 0), (53, 0), (54, 0), (55, 0), (61, 0)] [(10, 17)] 0 m r4 := am_kp.tr am_kp.rf (am_kp.mono (kp_X10_must r2 m r4 h5) rfl)
      cases h
      exact k_r4
  obtain ⟨r8, h9, h⟩ := am_bd h
  have k_r8 : am_kp [(10, 14), (10, 15), (10, 16), (10, 18), (10, 19), (10, 23), (10, 26), (10, 29), (10, 30), (52, 0), (53, 0), (54, 0), (55, 0), (61, 0)] [(10, 17)] 0 m r8 := am_kp.tr k_q6 (am_kp.mono (kp_X10_readSum a2 q6 r8 h9) rfl)
  cases h
  exact k_r8
-- X10_readOrder
set_option maxRecDepth 100000 in
theorem kl_X10_readOrder_85 {n : Nat} {x1 : Int32} {x2 : Int32} {x3 : Int32} {m : am_m} {t : am_m} (h : lp_X10_readOrder_85 n x1 x2 x3 m = some t) : am_kp [(10, 14), (10, 15), (10, 16), (10, 18), (10, 19), (10, 21), (10, 23), (10, 26), (10, 29), (10, 30), (52, 0), (53, 0), (54, 0), (55, 0), (61, 0)] [(10, 17)] 0 m t := by
  induction n generalizing x3 m with
  | zero => cases h
  | succ n ih =>
    unfold lp_X10_readOrder_85 at h
    by_cases hc15 : (10 : Int32) ≤ x3
    · rw [if_pos hc15] at h
      cases h
      exact am_kp.rf
    · rw [if_neg hc15] at h
      obtain ⟨hg16, h⟩ := am_ck_some h
      exact am_kp.tr (am_kp.si am_kp.rf rfl) (ih h)
set_option maxRecDepth 100000 in
theorem kp_X10_readOrder  (m : am_m) (t : am_m) (h : fn_X10_readOrder  m = some t) : am_kp [(10, 14), (10, 15), (10, 16), (10, 18), (10, 19), (10, 21), (10, 23), (10, 26), (10, 29), (10, 30), (52, 0), (53, 0), (54, 0), (55, 0), (61, 0)] [(10, 17)] 0 m t := by
  unfold fn_X10_readOrder at h
  obtain ⟨q6, h7, h⟩ := am_bd h
  obtain ⟨q10, h11, h⟩ := am_bd h
  obtain ⟨r12, h13, h⟩ := am_bd h
  have k_r12 : am_kp [(10, 14), (10, 15), (10, 16), (10, 18), (10, 19), (10, 21), (10, 23), (10, 26), (10, 29), (10, 30), (52, 0), (53, 0), (54, 0), (55, 0), (61, 0)] [(10, 17)] 0 m r12 := am_kp.tr am_kp.rf (am_kp.mono (kp_X10_must q10 m r12 h13) rfl)
  by_cases hc14 : (r12.1 10 0 19) = 0
  · rw [if_pos hc14] at h
    obtain ⟨q17, h18, h⟩ := am_bd h
    have k_q17 : am_kp [(10, 14), (10, 15), (10, 16), (10, 18), (10, 19), (10, 21), (10, 23), (10, 26), (10, 29), (10, 30), (52, 0), (53, 0), (54, 0), (55, 0), (61, 0)] [(10, 17)] 0 m q17 := am_kp.tr (am_kp.si k_r12 rfl) (kl_X10_readOrder_85 (h := h18))
    obtain ⟨hg19, h⟩ := am_ck_some h
    obtain ⟨q23, h24, h⟩ := am_bd h
    have k_q23 : am_kp [(10, 14), (10, 15), (10, 16), (10, 18), (10, 19), (10, 21), (10, 23), (10, 26), (10, 29), (10, 30), (52, 0), (53, 0), (54, 0), (55, 0), (61, 0)] [(10, 17)] 0 m q23 := by
      have h := h24
      by_cases hc20 : q6 = (3 : Int32)
      · rw [if_pos hc20] at h
        cases h
        exact (am_kp.si k_q17 rfl)
      · rw [if_neg hc20] at h
        obtain ⟨r21, h22, h⟩ := am_bd h
        have k_r21 : am_kp [(10, 14), (10, 15), (10, 16), (10, 18), (10, 19), (10, 21), (10, 23), (10, 26), (10, 29), (10, 30), (52, 0), (53, 0), (54, 0), (55, 0), (61, 0)] [(10, 17)] 0 m r21 := am_kp.tr (am_kp.si k_q17 rfl) (am_kp.mono (kp_X10_readSum (((10 : Int32) * (r12.1 10 0 21)) + (1 : Int32)) (am_si q17 61 0 ((10 : Int32) * (r12.1 10 0 21)).toNatClampNeg q6) r21 h22) rfl)
        cases h
        exact k_r21
    obtain ⟨q31, h32, h⟩ := am_bd h
    have k_q31 : am_kp [(10, 14), (10, 15), (10, 16), (10, 18), (10, 19), (10, 21), (10, 23), (10, 26), (10, 29), (10, 30), (52, 0), (53, 0), (54, 0), (55, 0), (61, 0)] [(10, 17)] 0 m q31 := by
      have h := h32
      by_cases hc25 : q6 = 0
      · rw [if_pos hc25] at h
        obtain ⟨r26, h27, h⟩ := am_bd h
        have k_r26 : am_kp [(10, 14), (10, 15), (10, 16), (10, 18), (10, 19), (10, 21), (10, 23), (10, 26), (10, 29), (10, 30), (52, 0), (53, 0), (54, 0), (55, 0), (61, 0)] [(10, 17)] 0 m r26 := am_kp.tr k_q23 (am_kp.mono (kp_X10_readBehind 655 (((10 : Int32) * (r12.1 10 0 21)) + (3 : Int32)) q23 r26 h27) rfl)
        cases h
        exact k_r26
      · rw [if_neg hc25] at h
        by_cases hc28 : q6 ≠ (2 : Int32)
        · rw [if_pos hc28] at h
          cases h
          exact k_q23
        · rw [if_neg hc28] at h
          obtain ⟨r29, h30, h⟩ := am_bd h
          have k_r29 : am_kp [(10, 14), (10, 15), (10, 16), (10, 18), (10, 19), (10, 21), (10, 23), (10, 26), (10, 29), (10, 30), (52, 0), (53, 0), (54, 0), (55, 0), (61, 0)] [(10, 17)] 0 m r29 := am_kp.tr k_q23 (am_kp.mono (kp_X10_readBehind 655 (((10 : Int32) * (r12.1 10 0 21)) + (3 : Int32)) q23 r29 h30) rfl)
          cases h
          exact k_r29
    obtain ⟨q36, h37, h⟩ := am_bd h
    have k_q36 : am_kp [(10, 14), (10, 15), (10, 16), (10, 18), (10, 19), (10, 21), (10, 23), (10, 26), (10, 29), (10, 30), (52, 0), (53, 0), (54, 0), (55, 0), (61, 0)] [(10, 17)] 0 m q36 := by
      have h := h37
      by_cases hc33 : q6 ≠ 0
      · rw [if_pos hc33] at h
        cases h
        exact k_q31
      · rw [if_neg hc33] at h
        obtain ⟨r34, h35, h⟩ := am_bd h
        have k_r34 : am_kp [(10, 14), (10, 15), (10, 16), (10, 18), (10, 19), (10, 21), (10, 23), (10, 26), (10, 29), (10, 30), (52, 0), (53, 0), (54, 0), (55, 0), (61, 0)] [(10, 17)] 0 m r34 := am_kp.tr k_q31 (am_kp.mono (kp_X10_readBehind 89 (((10 : Int32) * (r12.1 10 0 21)) + (5 : Int32)) q31 r34 h35) rfl)
        cases h
        exact k_r34
    obtain ⟨hg38, h⟩ := am_ck_some h
    obtain ⟨q48, h49, h⟩ := am_bd h
    have k_q48 : am_kp [(10, 14), (10, 15), (10, 16), (10, 18), (10, 19), (10, 21), (10, 23), (10, 26), (10, 29), (10, 30), (52, 0), (53, 0), (54, 0), (55, 0), (61, 0)] [(10, 17)] 0 m q48 := by
      have h := h49
      by_cases hc39 : (q36.1 10 0 19) ≠ 0
      · rw [if_pos hc39] at h
        cases h
        exact (am_kp.si k_q36 rfl)
      · rw [if_neg hc39] at h
        obtain ⟨r40, h41, h⟩ := am_bd h
        by_cases hc42 : r40 = 0
        · rw [if_pos hc42] at h
          cases h
          exact (am_kp.si k_q36 rfl)
        · rw [if_neg hc42] at h
          obtain ⟨r43, h44, h⟩ := am_bd h
          have k_r43 : am_kp [(10, 14), (10, 15), (10, 16), (10, 18), (10, 19), (10, 21), (10, 23), (10, 26), (10, 29), (10, 30), (52, 0), (53, 0), (54, 0), (55, 0), (61, 0)] [(10, 17)] 0 m r43 := am_kp.tr (am_kp.si k_q36 rfl) (am_kp.mono (kp_X10_next  (am_si q36 61 0 (((10 : Int32) * (r12.1 10 0 21)) + (9 : Int32)).toNatClampNeg 1) r43 h44) rfl)
          obtain ⟨r45, h46, h⟩ := am_bd h
          have k_r45 : am_kp [(10, 14), (10, 15), (10, 16), (10, 18), (10, 19), (10, 21), (10, 23), (10, 26), (10, 29), (10, 30), (52, 0), (53, 0), (54, 0), (55, 0), (61, 0)] [(10, 17)] 0 m r45.2 := am_kp.tr k_r43 (am_kp.mono (kp_X10_number 1 20 r43 r45 h46) rfl)
          obtain ⟨hg47, h⟩ := am_ck_some h
          cases h
          exact (am_kp.si k_r45 rfl)
    obtain ⟨hg50, h⟩ := am_ck_some h
    obtain ⟨q59, h60, h⟩ := am_bd h
    have k_q59 : am_kp [(10, 14), (10, 15), (10, 16), (10, 18), (10, 19), (10, 21), (10, 23), (10, 26), (10, 29), (10, 30), (52, 0), (53, 0), (54, 0), (55, 0), (61, 0)] [(10, 17)] 0 m q59 := by
      have h := h60
      by_cases hc51 : (q48.1 10 0 19) ≠ 0
      · rw [if_pos hc51] at h
        cases h
        exact (am_kp.si k_q48 rfl)
      · rw [if_neg hc51] at h
        obtain ⟨r52, h53, h⟩ := am_bd h
        by_cases hc54 : r52 = 0
        · rw [if_pos hc54] at h
          cases h
          exact (am_kp.si k_q48 rfl)
        · rw [if_neg hc54] at h
          obtain ⟨r55, h56, h⟩ := am_bd h
          have k_r55 : am_kp [(10, 14), (10, 15), (10, 16), (10, 18), (10, 19), (10, 21), (10, 23), (10, 26), (10, 29), (10, 30), (52, 0), (53, 0), (54, 0), (55, 0), (61, 0)] [(10, 17)] 0 m r55 := am_kp.tr (am_kp.si k_q48 rfl) (am_kp.mono (kp_X10_next  (am_si q48 61 0 (((10 : Int32) * (r12.1 10 0 21)) + (7 : Int32)).toNatClampNeg (q48.1 10 0 23)) r55 h56) rfl)
          obtain ⟨r57, h58, h⟩ := am_bd h
          have k_r57 : am_kp [(10, 14), (10, 15), (10, 16), (10, 18), (10, 19), (10, 21), (10, 23), (10, 26), (10, 29), (10, 30), (52, 0), (53, 0), (54, 0), (55, 0), (61, 0)] [(10, 17)] 0 m r57 := am_kp.tr k_r55 (am_kp.mono (kp_X10_readExpression 1 r55 r57 h58) rfl)
          cases h
          exact k_r57
    obtain ⟨hg61, h⟩ := am_ck_some h
    cases h
    exact (am_kp.si k_q59 rfl)
  · rw [if_neg hc14] at h
    cases h
    exact k_r12
-- X10_sumOf
set_option maxRecDepth 100000 in
theorem kp_X10_sumOf (a1 : Int32) (m : am_m) (t : Int32 × am_m) (h : fn_X10_sumOf a1 m = some t) : am_kp [(10, 20), (10, 38), (10, 58)] [(10, 39), (87, 0)] 0 m t.2 := by
  unfold fn_X10_sumOf at h
  by_cases hc1 : (m.1 10 0 58) ≠ 0
  · rw [if_pos hc1] at h
    cases h
    exact am_kp.rf
  · rw [if_neg hc1] at h
    obtain ⟨hg2, h⟩ := am_ck_some h
    obtain ⟨hg3, h⟩ := am_ck_some h
    by_cases hc4 : (m.1 61 0 a1.toNatClampNeg) ≠ (m.1 61 0 (a1 + (1 : Int32)).toNatClampNeg)
    · rw [if_pos hc4] at h
      obtain ⟨hg5, h⟩ := am_ck_some h
      obtain ⟨hg6, h⟩ := am_ck_some h
      obtain ⟨r7, h8, h⟩ := am_bd h
      have k_r7 : am_kp [(10, 20), (10, 38), (10, 58)] [(10, 39), (87, 0)] 0 m r7 := am_kp.tr (am_kp.si am_kp.rf rfl) (am_kp.mono (kp_X10_reckonAll (m.1 61 0 a1.toNatClampNeg) (m.1 61 0 (a1 + (1 : Int32)).toNatClampNeg) (am_si m 10 0 20 1) r7 h8) rfl)
      obtain ⟨hz9, h⟩ := am_gd_some h
      cases h
      exact (am_kp.si (am_kp.si k_r7 rfl) rfl)
    · rw [if_neg hc4] at h
      cases h
      exact am_kp.rf
-- X10_act
set_option maxRecDepth 100000 in
theorem kp_X10_act (a1 : Int32) (a2 : Int32) (a3 : Int32) (a4 : Int32) (m : am_m) (t : Int32 × am_m) (h : fn_X10_act a1 a2 a3 a4 m = some t) : am_kp [(10, 8), (10, 34), (10, 38), (44, 0), (46, 0), (47, 0), (56, 0), (92, 0), (93, 0)] [(10, 39), (10, 40), (85, 0), (87, 0)] 0 m t.2 := by
  unfold fn_X10_act at h
  by_cases hs1 : a1 = 0
  · rw [if_pos hs1] at h
    obtain ⟨r2, h3, h⟩ := am_bd h
    have k_r2 : am_kp [(10, 8), (10, 34), (10, 38), (44, 0), (46, 0), (47, 0), (56, 0), (92, 0), (93, 0)] [(10, 39), (10, 40), (85, 0), (87, 0)] 0 m r2.2 := am_kp.tr am_kp.rf (am_kp.mono (kp_X10_harmNow a2 a3 a4 m r2 h3) rfl)
    cases h
    exact k_r2
  · rw [if_neg hs1] at h
    by_cases hs4 : a1 = 1
    · rw [if_pos hs4] at h
      obtain ⟨r5, h6, h⟩ := am_bd h
      have k_r5 : am_kp [(10, 8), (10, 34), (10, 38), (44, 0), (46, 0), (47, 0), (56, 0), (92, 0), (93, 0)] [(10, 39), (10, 40), (85, 0), (87, 0)] 0 m r5.2 := am_kp.tr am_kp.rf (am_kp.mono (kp_X10_feastNow a2 m r5 h6) rfl)
      cases h
      exact k_r5
    · rw [if_neg hs4] at h
      by_cases hs7 : a1 = 2
      · rw [if_pos hs7] at h
        obtain ⟨r8, h9, h⟩ := am_bd h
        have k_r8 : am_kp [(10, 8), (10, 34), (10, 38), (44, 0), (46, 0), (47, 0), (56, 0), (92, 0), (93, 0)] [(10, 39), (10, 40), (85, 0), (87, 0)] 0 m r8.2 := am_kp.tr am_kp.rf (am_kp.mono (kp_X10_pardonNow a2 a3 m r8 h9) rfl)
        cases h
        exact k_r8
      · rw [if_neg hs7] at h
        obtain ⟨r10, h11, h⟩ := am_bd h
        have k_r10 : am_kp [(10, 8), (10, 34), (10, 38), (44, 0), (46, 0), (47, 0), (56, 0), (92, 0), (93, 0)] [(10, 39), (10, 40), (85, 0), (87, 0)] 0 m r10.2 := am_kp.tr am_kp.rf (am_kp.mono (kp_X10_passNow  m r10 h11) rfl)
        cases h
        exact k_r10
-- X10_run
set_option maxRecDepth 100000 in
theorem kl_X10_run_63 {n : Nat} {x1 : Int32} {x2 : Int32} {m : am_m} {t : am_m} (h : lp_X10_run_63 n x1 x2 m = some t) : am_kp [(10, 8), (10, 20), (10, 34), (10, 38), (10, 55), (10, 56), (10, 58), (44, 0), (46, 0), (47, 0), (56, 0), (62, 0), (92, 0), (93, 0)] [(10, 39), (10, 40), (85, 0), (86, 0), (87, 0)] 0 m t := by
  induction n generalizing x2 m with
  | zero => cases h
  | succ n ih =>
    unfold lp_X10_run_63 at h
    by_cases hc7 : (m.1 44 0 0) ≤ x2
    · rw [if_pos hc7] at h
      cases h
      exact am_kp.rf
    · rw [if_neg hc7] at h
      obtain ⟨r8, h9, h⟩ := am_bd h
      obtain ⟨hg10, h⟩ := am_ck_some h
      exact am_kp.tr (am_kp.si am_kp.rf rfl) (ih h)
set_option maxRecDepth 100000 in
theorem kp_X10_run (a1 : Int32) (m : am_m) (t : Int32 × am_m) (h : fn_X10_run a1 m = some t) : am_kp [(10, 8), (10, 20), (10, 34), (10, 38), (10, 55), (10, 56), (10, 58), (44, 0), (46, 0), (47, 0), (56, 0), (62, 0), (92, 0), (93, 0)] [(10, 39), (10, 40), (85, 0), (86, 0), (87, 0)] 0 m t.2 := by
  unfold fn_X10_run at h
  obtain ⟨r1, h2, h⟩ := am_bd h
  obtain ⟨r3, h4, h⟩ := am_bd h
  obtain ⟨r5, h6, h⟩ := am_bd h
  have k_r5 : am_kp [(10, 8), (10, 20), (10, 34), (10, 38), (10, 55), (10, 56), (10, 58), (44, 0), (46, 0), (47, 0), (56, 0), (62, 0), (92, 0), (93, 0)] [(10, 39), (10, 40), (85, 0), (86, 0), (87, 0)] 0 m r5 := am_kp.tr (am_kp.sg (am_kp.sg (am_kp.sg (am_kp.sg (am_kp.sg am_kp.rf rfl) rfl) rfl) rfl) rfl) (am_kp.mono (kp_X10_layMay  (am_sg (am_sg (am_sg (am_sg (am_sg m 86 0 1 ((m.1 44 0 4).toInt64)) 86 0 2 ((m.1 10 0 55).toInt64)) 86 0 3 ((m.1 10 0 56).toInt64)) 86 0 4 r1.toInt64) 86 0 5 r3.toInt64) r5 h6) rfl)
  obtain ⟨q11, h12, h⟩ := am_bd h
  have k_q11 : am_kp [(10, 8), (10, 20), (10, 34), (10, 38), (10, 55), (10, 56), (10, 58), (44, 0), (46, 0), (47, 0), (56, 0), (62, 0), (92, 0), (93, 0)] [(10, 39), (10, 40), (85, 0), (86, 0), (87, 0)] 0 m q11 := am_kp.tr k_r5 (kl_X10_run_63 (h := h12))
  obtain ⟨hg13, h⟩ := am_ck_some h
  obtain ⟨hg14, h⟩ := am_ck_some h
  by_cases hc15 : (q11.1 61 0 (a1 + (8 : Int32)).toNatClampNeg) ≤ (q11.1 61 0 (a1 + (7 : Int32)).toNatClampNeg)
  · rw [if_pos hc15] at h
    obtain ⟨r16, h17, h⟩ := am_bd h
    have k_r16 : am_kp [(10, 8), (10, 20), (10, 34), (10, 38), (10, 55), (10, 56), (10, 58), (44, 0), (46, 0), (47, 0), (56, 0), (62, 0), (92, 0), (93, 0)] [(10, 39), (10, 40), (85, 0), (86, 0), (87, 0)] 0 m r16.2 := am_kp.tr (am_kp.si k_q11 rfl) (am_kp.mono (kp_X10_sumOf (a1 + (1 : Int32)) (am_si q11 10 0 58 0) r16 h17) rfl)
    obtain ⟨r18, h19, h⟩ := am_bd h
    have k_r18 : am_kp [(10, 8), (10, 20), (10, 34), (10, 38), (10, 55), (10, 56), (10, 58), (44, 0), (46, 0), (47, 0), (56, 0), (62, 0), (92, 0), (93, 0)] [(10, 39), (10, 40), (85, 0), (86, 0), (87, 0)] 0 m r18.2 := am_kp.tr k_r16 (am_kp.mono (kp_X10_sumOf (a1 + (3 : Int32)) r16.2 r18 h19) rfl)
    obtain ⟨r20, h21, h⟩ := am_bd h
    have k_r20 : am_kp [(10, 8), (10, 20), (10, 34), (10, 38), (10, 55), (10, 56), (10, 58), (44, 0), (46, 0), (47, 0), (56, 0), (62, 0), (92, 0), (93, 0)] [(10, 39), (10, 40), (85, 0), (86, 0), (87, 0)] 0 m r20.2 := am_kp.tr k_r18 (am_kp.mono (kp_X10_sumOf (a1 + (5 : Int32)) r18.2 r20 h21) rfl)
    by_cases hc22 : (r20.2.1 10 0 58) = 0
    · rw [if_pos hc22] at h
      obtain ⟨hg23, h⟩ := am_ck_some h
      obtain ⟨r24, h25, h⟩ := am_bd h
      have k_r24 : am_kp [(10, 8), (10, 20), (10, 34), (10, 38), (10, 55), (10, 56), (10, 58), (44, 0), (46, 0), (47, 0), (56, 0), (62, 0), (92, 0), (93, 0)] [(10, 39), (10, 40), (85, 0), (86, 0), (87, 0)] 0 m r24.2 := am_kp.tr k_r20 (am_kp.mono (kp_X10_act (r20.2.1 61 0 a1.toNatClampNeg) r16.1 r18.1 r20.1 r20.2 r24 h25) rfl)
      by_cases hc26 : 0 ≤ r24.1
      · rw [if_pos hc26] at h
        obtain ⟨hg27, h⟩ := am_ck_some h
        cases h
        exact (am_kp.si (am_kp.si k_r24 rfl) rfl)
      · rw [if_neg hc26] at h
        cases h
        exact k_r24
    · rw [if_neg hc22] at h
      cases h
      exact k_r20
  · rw [if_neg hc15] at h
    obtain ⟨r29, h30, h⟩ := am_bd h
    have k_r29 : am_kp [(10, 8), (10, 20), (10, 34), (10, 38), (10, 55), (10, 56), (10, 58), (44, 0), (46, 0), (47, 0), (56, 0), (62, 0), (92, 0), (93, 0)] [(10, 39), (10, 40), (85, 0), (86, 0), (87, 0)] 0 m r29.2 := am_kp.tr (am_kp.si k_q11 rfl) (am_kp.mono (kp_X10_sumOf (a1 + (7 : Int32)) (am_si q11 10 0 58 0) r29 h30) rfl)
    by_cases hc31 : (r29.2.1 10 0 58) ≠ 0
    · rw [if_pos hc31] at h
      cases h
      exact k_r29
    · rw [if_neg hc31] at h
      by_cases hc32 : r29.1 ≠ 0
      · rw [if_pos hc32] at h
        obtain ⟨r33, h34, h⟩ := am_bd h
        have k_r33 : am_kp [(10, 8), (10, 20), (10, 34), (10, 38), (10, 55), (10, 56), (10, 58), (44, 0), (46, 0), (47, 0), (56, 0), (62, 0), (92, 0), (93, 0)] [(10, 39), (10, 40), (85, 0), (86, 0), (87, 0)] 0 m r33.2 := am_kp.tr k_r29 (am_kp.mono (kp_X10_sumOf (a1 + (1 : Int32)) r29.2 r33 h34) rfl)
        obtain ⟨r35, h36, h⟩ := am_bd h
        have k_r35 : am_kp [(10, 8), (10, 20), (10, 34), (10, 38), (10, 55), (10, 56), (10, 58), (44, 0), (46, 0), (47, 0), (56, 0), (62, 0), (92, 0), (93, 0)] [(10, 39), (10, 40), (85, 0), (86, 0), (87, 0)] 0 m r35.2 := am_kp.tr k_r33 (am_kp.mono (kp_X10_sumOf (a1 + (3 : Int32)) r33.2 r35 h36) rfl)
        obtain ⟨r37, h38, h⟩ := am_bd h
        have k_r37 : am_kp [(10, 8), (10, 20), (10, 34), (10, 38), (10, 55), (10, 56), (10, 58), (44, 0), (46, 0), (47, 0), (56, 0), (62, 0), (92, 0), (93, 0)] [(10, 39), (10, 40), (85, 0), (86, 0), (87, 0)] 0 m r37.2 := am_kp.tr k_r35 (am_kp.mono (kp_X10_sumOf (a1 + (5 : Int32)) r35.2 r37 h38) rfl)
        by_cases hc39 : (r37.2.1 10 0 58) = 0
        · rw [if_pos hc39] at h
          obtain ⟨hg40, h⟩ := am_ck_some h
          obtain ⟨r41, h42, h⟩ := am_bd h
          have k_r41 : am_kp [(10, 8), (10, 20), (10, 34), (10, 38), (10, 55), (10, 56), (10, 58), (44, 0), (46, 0), (47, 0), (56, 0), (62, 0), (92, 0), (93, 0)] [(10, 39), (10, 40), (85, 0), (86, 0), (87, 0)] 0 m r41.2 := am_kp.tr k_r37 (am_kp.mono (kp_X10_act (r37.2.1 61 0 a1.toNatClampNeg) r33.1 r35.1 r37.1 r37.2 r41 h42) rfl)
          by_cases hc43 : 0 ≤ r41.1
          · rw [if_pos hc43] at h
            obtain ⟨hg44, h⟩ := am_ck_some h
            cases h
            exact (am_kp.si (am_kp.si k_r41 rfl) rfl)
          · rw [if_neg hc43] at h
            cases h
            exact k_r41
        · rw [if_neg hc39] at h
          cases h
          exact k_r37
      · rw [if_neg hc32] at h
        cases h
        exact k_r29
-- X10_giveBack
set_option maxRecDepth 100000 in
theorem kl_X10_giveBack_8 {n : Nat} {x1 : Int32} {x2 : Int32} {m : am_m} {t : am_m} (h : lp_X10_giveBack_8 n x1 x2 m = some t) : am_kp [(10, 8), (44, 0), (46, 0), (47, 0)] [] 0 m t := by
  induction n generalizing x2 m with
  | zero => cases h
  | succ n ih =>
    unfold lp_X10_giveBack_8 at h
    by_cases hc3 : (1728 : Int32) ≤ x2
    · rw [if_pos hc3] at h
      cases h
      exact am_kp.rf
    · rw [if_neg hc3] at h
      obtain ⟨hg4, h⟩ := am_ck_some h
      obtain ⟨hg5, h⟩ := am_ck_some h
      exact am_kp.tr (am_kp.si am_kp.rf rfl) (ih h)
set_option maxRecDepth 100000 in
theorem kl_X10_giveBack_35 {n : Nat} {x1 : Int32} {x2 : Int32} {m : am_m} {t : am_m} (h : lp_X10_giveBack_35 n x1 x2 m = some t) : am_kp [(10, 8), (44, 0), (46, 0), (47, 0)] [] 0 m t := by
  induction n generalizing x2 m with
  | zero => cases h
  | succ n ih =>
    unfold lp_X10_giveBack_35 at h
    by_cases hc8 : (16 : Int32) ≤ x2
    · rw [if_pos hc8] at h
      cases h
      exact am_kp.rf
    · rw [if_neg hc8] at h
      obtain ⟨hg9, h⟩ := am_ck_some h
      obtain ⟨hg10, h⟩ := am_ck_some h
      exact am_kp.tr (am_kp.si am_kp.rf rfl) (ih h)
set_option maxRecDepth 100000 in
theorem kp_X10_giveBack (a1 : Int32) (m : am_m) (t : am_m) (h : fn_X10_giveBack a1 m = some t) : am_kp [(10, 8), (44, 0), (46, 0), (47, 0)] [] 0 m t := by
  unfold fn_X10_giveBack at h
  obtain ⟨r1, h2, h⟩ := am_bd h
  have k_r1 : am_kp [(10, 8), (44, 0), (46, 0), (47, 0)] [] 0 m r1 := am_kp.tr am_kp.rf (am_kp.mono (kp_X10_putBack 17 m r1 h2) rfl)
  obtain ⟨q6, h7, h⟩ := am_bd h
  have k_q6 : am_kp [(10, 8), (44, 0), (46, 0), (47, 0)] [] 0 m q6 := am_kp.tr k_r1 (kl_X10_giveBack_8 (h := h7))
  obtain ⟨q11, h12, h⟩ := am_bd h
  have k_q11 : am_kp [(10, 8), (44, 0), (46, 0), (47, 0)] [] 0 m q11 := am_kp.tr k_q6 (kl_X10_giveBack_35 (h := h12))
  cases h
  exact (am_kp.si k_q11 rfl)
-- X10_orders
set_option maxRecDepth 100000 in
theorem kl_X10_orders_19 {n : Nat} {m : am_m} {t : am_m} (h : lp_X10_orders_19 n  m = some t) : am_kp [(10, 0), (10, 1), (10, 8), (10, 13), (10, 14), (10, 15), (10, 16), (10, 18), (10, 19), (10, 20), (10, 21), (10, 23), (10, 26), (10, 29), (10, 30), (10, 34), (10, 38), (10, 55), (10, 56), (10, 57), (10, 58), (43, 0), (44, 0), (46, 0), (47, 0), (48, 0), (49, 0), (52, 0), (53, 0), (54, 0), (55, 0), (56, 0), (61, 0), (62, 0), (92, 0), (93, 0)] [(10, 17), (10, 39), (10, 40), (85, 0), (86, 0), (87, 0)] 0 m t := by
  induction n generalizing m with
  | zero => cases h
  | succ n ih =>
    unfold lp_X10_orders_19 at h
    by_cases hc5 : (m.1 10 0 19) ≠ 0
    · rw [if_pos hc5] at h
      cases h
      exact am_kp.rf
    · rw [if_neg hc5] at h
      obtain ⟨r6, h7, h⟩ := am_bd h
      by_cases hc8 : r6 = 0
      · rw [if_pos hc8] at h
        cases h
        exact am_kp.rf
      · rw [if_neg hc8] at h
        obtain ⟨r9, h10, h⟩ := am_bd h
        have k_r9 : am_kp [(10, 0), (10, 1), (10, 8), (10, 13), (10, 14), (10, 15), (10, 16), (10, 18), (10, 19), (10, 20), (10, 21), (10, 23), (10, 26), (10, 29), (10, 30), (10, 34), (10, 38), (10, 55), (10, 56), (10, 57), (10, 58), (43, 0), (44, 0), (46, 0), (47, 0), (48, 0), (49, 0), (52, 0), (53, 0), (54, 0), (55, 0), (56, 0), (61, 0), (62, 0), (92, 0), (93, 0)] [(10, 17), (10, 39), (10, 40), (85, 0), (86, 0), (87, 0)] 0 m r9 := am_kp.tr am_kp.rf (am_kp.mono (kp_X10_next  m r9 h10) rfl)
        obtain ⟨r11, h12, h⟩ := am_bd h
        have k_r11 : am_kp [(10, 0), (10, 1), (10, 8), (10, 13), (10, 14), (10, 15), (10, 16), (10, 18), (10, 19), (10, 20), (10, 21), (10, 23), (10, 26), (10, 29), (10, 30), (10, 34), (10, 38), (10, 55), (10, 56), (10, 57), (10, 58), (43, 0), (44, 0), (46, 0), (47, 0), (48, 0), (49, 0), (52, 0), (53, 0), (54, 0), (55, 0), (56, 0), (61, 0), (62, 0), (92, 0), (93, 0)] [(10, 17), (10, 39), (10, 40), (85, 0), (86, 0), (87, 0)] 0 m r11 := am_kp.tr k_r9 (am_kp.mono (kp_X10_readOrder  r9 r11 h12) rfl)
        exact am_kp.tr k_r11 (ih h)
set_option maxRecDepth 100000 in
theorem kl_X10_orders_77 {n : Nat} {x1 : Int32} {x2 : Int32} {m : am_m} {t : am_m} (h : lp_X10_orders_77 n x1 x2 m = some t) : am_kp [(10, 0), (10, 1), (10, 8), (10, 13), (10, 14), (10, 15), (10, 16), (10, 18), (10, 19), (10, 20), (10, 21), (10, 23), (10, 26), (10, 29), (10, 30), (10, 34), (10, 38), (10, 55), (10, 56), (10, 57), (10, 58), (43, 0), (44, 0), (46, 0), (47, 0), (48, 0), (49, 0), (52, 0), (53, 0), (54, 0), (55, 0), (56, 0), (61, 0), (62, 0), (92, 0), (93, 0)] [(10, 17), (10, 39), (10, 40), (85, 0), (86, 0), (87, 0)] 0 m t := by
  induction n generalizing x2 m with
  | zero => cases h
  | succ n ih =>
    unfold lp_X10_orders_77 at h
    by_cases hc20 : (1728 : Int32) ≤ x2
    · rw [if_pos hc20] at h
      cases h
      exact am_kp.rf
    · rw [if_neg hc20] at h
      obtain ⟨hg21, h⟩ := am_ck_some h
      obtain ⟨hg22, h⟩ := am_ck_some h
      exact am_kp.tr (am_kp.si am_kp.rf rfl) (ih h)
set_option maxRecDepth 100000 in
theorem kl_X10_orders_104 {n : Nat} {x1 : Int32} {x2 : Int32} {m : am_m} {t : am_m} (h : lp_X10_orders_104 n x1 x2 m = some t) : am_kp [(10, 0), (10, 1), (10, 8), (10, 13), (10, 14), (10, 15), (10, 16), (10, 18), (10, 19), (10, 20), (10, 21), (10, 23), (10, 26), (10, 29), (10, 30), (10, 34), (10, 38), (10, 55), (10, 56), (10, 57), (10, 58), (43, 0), (44, 0), (46, 0), (47, 0), (48, 0), (49, 0), (52, 0), (53, 0), (54, 0), (55, 0), (56, 0), (61, 0), (62, 0), (92, 0), (93, 0)] [(10, 17), (10, 39), (10, 40), (85, 0), (86, 0), (87, 0)] 0 m t := by
  induction n generalizing x2 m with
  | zero => cases h
  | succ n ih =>
    unfold lp_X10_orders_104 at h
    by_cases hc25 : (16 : Int32) ≤ x2
    · rw [if_pos hc25] at h
      cases h
      exact am_kp.rf
    · rw [if_neg hc25] at h
      obtain ⟨hg26, h⟩ := am_ck_some h
      obtain ⟨hg27, h⟩ := am_ck_some h
      exact am_kp.tr (am_kp.si am_kp.rf rfl) (ih h)
set_option maxRecDepth 100000 in
theorem kl_X10_orders_150 {n : Nat} {x1 : Int32} {x2 : Int32} {x3 : Int32} {m : am_m} {t : Sum (am_m) (Int32 × am_m)} (h : lp_X10_orders_150 n x1 x2 x3 m = some t) : (∀ t', t = .inl t' → am_kp [(10, 0), (10, 1), (10, 8), (10, 13), (10, 14), (10, 15), (10, 16), (10, 18), (10, 19), (10, 20), (10, 21), (10, 23), (10, 26), (10, 29), (10, 30), (10, 34), (10, 38), (10, 55), (10, 56), (10, 57), (10, 58), (43, 0), (44, 0), (46, 0), (47, 0), (48, 0), (49, 0), (52, 0), (53, 0), (54, 0), (55, 0), (56, 0), (61, 0), (62, 0), (92, 0), (93, 0)] [(10, 17), (10, 39), (10, 40), (85, 0), (86, 0), (87, 0)] 0 m t') ∧ (∀ t', t = .inr t' → am_kp [(10, 0), (10, 1), (10, 8), (10, 13), (10, 14), (10, 15), (10, 16), (10, 18), (10, 19), (10, 20), (10, 21), (10, 23), (10, 26), (10, 29), (10, 30), (10, 34), (10, 38), (10, 55), (10, 56), (10, 57), (10, 58), (43, 0), (44, 0), (46, 0), (47, 0), (48, 0), (49, 0), (52, 0), (53, 0), (54, 0), (55, 0), (56, 0), (61, 0), (62, 0), (92, 0), (93, 0)] [(10, 17), (10, 39), (10, 40), (85, 0), (86, 0), (87, 0)] 0 m t'.2) := by
  induction n generalizing x3 m with
  | zero => cases h
  | succ n ih =>
    unfold lp_X10_orders_150 at h
    obtain ⟨hg31, h⟩ := am_ck_some h
    by_cases hc32 : (m.1 61 0 (((10 : Int32) * x2) + (9 : Int32)).toNatClampNeg) ≤ x3
    · rw [if_pos hc32] at h
      cases h
      exact ⟨fun _ he => (by cases he; exact am_kp.rf), fun _ he => (by cases he)⟩
    · rw [if_neg hc32] at h
      obtain ⟨r33, h34, h⟩ := am_bd h
      have k_r33 : am_kp [(10, 0), (10, 1), (10, 8), (10, 13), (10, 14), (10, 15), (10, 16), (10, 18), (10, 19), (10, 20), (10, 21), (10, 23), (10, 26), (10, 29), (10, 30), (10, 34), (10, 38), (10, 55), (10, 56), (10, 57), (10, 58), (43, 0), (44, 0), (46, 0), (47, 0), (48, 0), (49, 0), (52, 0), (53, 0), (54, 0), (55, 0), (56, 0), (61, 0), (62, 0), (92, 0), (93, 0)] [(10, 17), (10, 39), (10, 40), (85, 0), (86, 0), (87, 0)] 0 m r33.2 := am_kp.tr am_kp.rf (am_kp.mono (kp_X10_run ((10 : Int32) * x2) m r33 h34) rfl)
      by_cases hc35 : 0 ≤ r33.1
      · rw [if_pos hc35] at h
        exact ⟨fun t' he => am_kp.tr k_r33 ((ih h).1 t' he), fun t' he => am_kp.tr k_r33 ((ih h).2 t' he)⟩
      · rw [if_neg hc35] at h
        obtain ⟨r36, h37, h⟩ := am_bd h
        have k_r36 : am_kp [(10, 0), (10, 1), (10, 8), (10, 13), (10, 14), (10, 15), (10, 16), (10, 18), (10, 19), (10, 20), (10, 21), (10, 23), (10, 26), (10, 29), (10, 30), (10, 34), (10, 38), (10, 55), (10, 56), (10, 57), (10, 58), (43, 0), (44, 0), (46, 0), (47, 0), (48, 0), (49, 0), (52, 0), (53, 0), (54, 0), (55, 0), (56, 0), (61, 0), (62, 0), (92, 0), (93, 0)] [(10, 17), (10, 39), (10, 40), (85, 0), (86, 0), (87, 0)] 0 m r36 := am_kp.tr k_r33 (am_kp.mono (kp_X10_giveBack x1 r33.2 r36 h37) rfl)
        obtain ⟨r38, h39, h⟩ := am_bd h
        have k_r38 : am_kp [(10, 0), (10, 1), (10, 8), (10, 13), (10, 14), (10, 15), (10, 16), (10, 18), (10, 19), (10, 20), (10, 21), (10, 23), (10, 26), (10, 29), (10, 30), (10, 34), (10, 38), (10, 55), (10, 56), (10, 57), (10, 58), (43, 0), (44, 0), (46, 0), (47, 0), (48, 0), (49, 0), (52, 0), (53, 0), (54, 0), (55, 0), (56, 0), (61, 0), (62, 0), (92, 0), (93, 0)] [(10, 17), (10, 39), (10, 40), (85, 0), (86, 0), (87, 0)] 0 m r38.2 := am_kp.tr (am_kp.si k_r36 rfl) (am_kp.mono (kp_X10_tell (-3) (am_si r36 10 0 57 x2) r38 h39) rfl)
        cases h
        exact ⟨fun _ he => (by cases he), fun _ he => (by cases he; exact k_r38)⟩
set_option maxRecDepth 100000 in
theorem kl_X10_orders_140 {n : Nat} {x1 : Int32} {x2 : Int32} {m : am_m} {t : Sum (am_m) (Int32 × am_m)} (h : lp_X10_orders_140 n x1 x2 m = some t) : (∀ t', t = .inl t' → am_kp [(10, 0), (10, 1), (10, 8), (10, 13), (10, 14), (10, 15), (10, 16), (10, 18), (10, 19), (10, 20), (10, 21), (10, 23), (10, 26), (10, 29), (10, 30), (10, 34), (10, 38), (10, 55), (10, 56), (10, 57), (10, 58), (43, 0), (44, 0), (46, 0), (47, 0), (48, 0), (49, 0), (52, 0), (53, 0), (54, 0), (55, 0), (56, 0), (61, 0), (62, 0), (92, 0), (93, 0)] [(10, 17), (10, 39), (10, 40), (85, 0), (86, 0), (87, 0)] 0 m t') ∧ (∀ t', t = .inr t' → am_kp [(10, 0), (10, 1), (10, 8), (10, 13), (10, 14), (10, 15), (10, 16), (10, 18), (10, 19), (10, 20), (10, 21), (10, 23), (10, 26), (10, 29), (10, 30), (10, 34), (10, 38), (10, 55), (10, 56), (10, 57), (10, 58), (43, 0), (44, 0), (46, 0), (47, 0), (48, 0), (49, 0), (52, 0), (53, 0), (54, 0), (55, 0), (56, 0), (61, 0), (62, 0), (92, 0), (93, 0)] [(10, 17), (10, 39), (10, 40), (85, 0), (86, 0), (87, 0)] 0 m t'.2) := by
  induction n generalizing x2 m with
  | zero => cases h
  | succ n ih =>
    unfold lp_X10_orders_140 at h
    by_cases hc30 : (m.1 10 0 21) ≤ x2
    · rw [if_pos hc30] at h
      cases h
      exact ⟨fun _ he => (by cases he; exact am_kp.rf), fun _ he => (by cases he)⟩
    · rw [if_neg hc30] at h
      obtain ⟨w43, h41, h⟩ := am_bd h
      rcases w43 with q40 | rr42
      · have k_q40 : am_kp [(10, 0), (10, 1), (10, 8), (10, 13), (10, 14), (10, 15), (10, 16), (10, 18), (10, 19), (10, 20), (10, 21), (10, 23), (10, 26), (10, 29), (10, 30), (10, 34), (10, 38), (10, 55), (10, 56), (10, 57), (10, 58), (43, 0), (44, 0), (46, 0), (47, 0), (48, 0), (49, 0), (52, 0), (53, 0), (54, 0), (55, 0), (56, 0), (61, 0), (62, 0), (92, 0), (93, 0)] [(10, 17), (10, 39), (10, 40), (85, 0), (86, 0), (87, 0)] 0 m q40 := am_kp.tr am_kp.rf ((kl_X10_orders_150 (h := h41)).1 _ rfl)
        dsimp only at h
        exact ⟨fun t' he => am_kp.tr k_q40 ((ih h).1 t' he), fun t' he => am_kp.tr k_q40 ((ih h).2 t' he)⟩
      · cases h
        exact ⟨fun _ he => (by cases he), fun _ he => (by cases he; exact am_kp.tr am_kp.rf ((kl_X10_orders_150 (h := h41)).2 _ rfl))⟩
set_option maxRecDepth 100000 in
theorem kp_X10_orders  (m : am_m) (t : Int32 × am_m) (h : fn_X10_orders  m = some t) : am_kp [(10, 0), (10, 1), (10, 8), (10, 13), (10, 14), (10, 15), (10, 16), (10, 18), (10, 19), (10, 20), (10, 21), (10, 23), (10, 26), (10, 29), (10, 30), (10, 34), (10, 38), (10, 55), (10, 56), (10, 57), (10, 58), (43, 0), (44, 0), (46, 0), (47, 0), (48, 0), (49, 0), (52, 0), (53, 0), (54, 0), (55, 0), (56, 0), (61, 0), (62, 0), (92, 0), (93, 0)] [(10, 17), (10, 39), (10, 40), (85, 0), (86, 0), (87, 0)] 0 m t.2 := by
  unfold fn_X10_orders at h
  obtain ⟨r1, h2, h⟩ := am_bd h
  have k_r1 : am_kp [(10, 0), (10, 1), (10, 8), (10, 13), (10, 14), (10, 15), (10, 16), (10, 18), (10, 19), (10, 20), (10, 21), (10, 23), (10, 26), (10, 29), (10, 30), (10, 34), (10, 38), (10, 55), (10, 56), (10, 57), (10, 58), (43, 0), (44, 0), (46, 0), (47, 0), (48, 0), (49, 0), (52, 0), (53, 0), (54, 0), (55, 0), (56, 0), (61, 0), (62, 0), (92, 0), (93, 0)] [(10, 17), (10, 39), (10, 40), (85, 0), (86, 0), (87, 0)] 0 m r1 := am_kp.tr (am_kp.si (am_kp.si am_kp.rf rfl) rfl) (am_kp.mono (kp_X10_beginText 1 (am_si (am_si m 10 0 0 0) 10 0 57 (-1)) r1 h2) rfl)
  obtain ⟨r3, h4, h⟩ := am_bd h
  have k_r3 : am_kp [(10, 0), (10, 1), (10, 8), (10, 13), (10, 14), (10, 15), (10, 16), (10, 18), (10, 19), (10, 20), (10, 21), (10, 23), (10, 26), (10, 29), (10, 30), (10, 34), (10, 38), (10, 55), (10, 56), (10, 57), (10, 58), (43, 0), (44, 0), (46, 0), (47, 0), (48, 0), (49, 0), (52, 0), (53, 0), (54, 0), (55, 0), (56, 0), (61, 0), (62, 0), (92, 0), (93, 0)] [(10, 17), (10, 39), (10, 40), (85, 0), (86, 0), (87, 0)] 0 m r3 := am_kp.tr k_r1 (am_kp.mono (kp_X10_readOrder  r1 r3 h4) rfl)
  obtain ⟨q13, h14, h⟩ := am_bd h
  have k_q13 : am_kp [(10, 0), (10, 1), (10, 8), (10, 13), (10, 14), (10, 15), (10, 16), (10, 18), (10, 19), (10, 20), (10, 21), (10, 23), (10, 26), (10, 29), (10, 30), (10, 34), (10, 38), (10, 55), (10, 56), (10, 57), (10, 58), (43, 0), (44, 0), (46, 0), (47, 0), (48, 0), (49, 0), (52, 0), (53, 0), (54, 0), (55, 0), (56, 0), (61, 0), (62, 0), (92, 0), (93, 0)] [(10, 17), (10, 39), (10, 40), (85, 0), (86, 0), (87, 0)] 0 m q13 := am_kp.tr k_r3 (kl_X10_orders_19 (h := h14))
  obtain ⟨r15, h16, h⟩ := am_bd h
  have k_r15 : am_kp [(10, 0), (10, 1), (10, 8), (10, 13), (10, 14), (10, 15), (10, 16), (10, 18), (10, 19), (10, 20), (10, 21), (10, 23), (10, 26), (10, 29), (10, 30), (10, 34), (10, 38), (10, 55), (10, 56), (10, 57), (10, 58), (43, 0), (44, 0), (46, 0), (47, 0), (48, 0), (49, 0), (52, 0), (53, 0), (54, 0), (55, 0), (56, 0), (61, 0), (62, 0), (92, 0), (93, 0)] [(10, 17), (10, 39), (10, 40), (85, 0), (86, 0), (87, 0)] 0 m r15 := am_kp.tr k_q13 (am_kp.mono (kp_X10_endText  q13 r15 h16) rfl)
  by_cases hc17 : (r15.1 10 0 19) = 0
  · rw [if_pos hc17] at h
    obtain ⟨r18, h19, h⟩ := am_bd h
    have k_r18 : am_kp [(10, 0), (10, 1), (10, 8), (10, 13), (10, 14), (10, 15), (10, 16), (10, 18), (10, 19), (10, 20), (10, 21), (10, 23), (10, 26), (10, 29), (10, 30), (10, 34), (10, 38), (10, 55), (10, 56), (10, 57), (10, 58), (43, 0), (44, 0), (46, 0), (47, 0), (48, 0), (49, 0), (52, 0), (53, 0), (54, 0), (55, 0), (56, 0), (61, 0), (62, 0), (92, 0), (93, 0)] [(10, 17), (10, 39), (10, 40), (85, 0), (86, 0), (87, 0)] 0 m r18 := am_kp.tr k_r15 (am_kp.mono (kp_X10_keepAll 17 r15 r18 h19) rfl)
    obtain ⟨q23, h24, h⟩ := am_bd h
    have k_q23 : am_kp [(10, 0), (10, 1), (10, 8), (10, 13), (10, 14), (10, 15), (10, 16), (10, 18), (10, 19), (10, 20), (10, 21), (10, 23), (10, 26), (10, 29), (10, 30), (10, 34), (10, 38), (10, 55), (10, 56), (10, 57), (10, 58), (43, 0), (44, 0), (46, 0), (47, 0), (48, 0), (49, 0), (52, 0), (53, 0), (54, 0), (55, 0), (56, 0), (61, 0), (62, 0), (92, 0), (93, 0)] [(10, 17), (10, 39), (10, 40), (85, 0), (86, 0), (87, 0)] 0 m q23 := am_kp.tr k_r18 (kl_X10_orders_77 (h := h24))
    obtain ⟨q28, h29, h⟩ := am_bd h
    have k_q28 : am_kp [(10, 0), (10, 1), (10, 8), (10, 13), (10, 14), (10, 15), (10, 16), (10, 18), (10, 19), (10, 20), (10, 21), (10, 23), (10, 26), (10, 29), (10, 30), (10, 34), (10, 38), (10, 55), (10, 56), (10, 57), (10, 58), (43, 0), (44, 0), (46, 0), (47, 0), (48, 0), (49, 0), (52, 0), (53, 0), (54, 0), (55, 0), (56, 0), (61, 0), (62, 0), (92, 0), (93, 0)] [(10, 17), (10, 39), (10, 40), (85, 0), (86, 0), (87, 0)] 0 m q28 := am_kp.tr k_q23 (kl_X10_orders_104 (h := h29))
    obtain ⟨w49, h45, h⟩ := am_bd h
    rcases w49 with q44 | rr48
    · have k_q44 : am_kp [(10, 0), (10, 1), (10, 8), (10, 13), (10, 14), (10, 15), (10, 16), (10, 18), (10, 19), (10, 20), (10, 21), (10, 23), (10, 26), (10, 29), (10, 30), (10, 34), (10, 38), (10, 55), (10, 56), (10, 57), (10, 58), (43, 0), (44, 0), (46, 0), (47, 0), (48, 0), (49, 0), (52, 0), (53, 0), (54, 0), (55, 0), (56, 0), (61, 0), (62, 0), (92, 0), (93, 0)] [(10, 17), (10, 39), (10, 40), (85, 0), (86, 0), (87, 0)] 0 m q44 := am_kp.tr (am_kp.si (am_kp.si k_q28 rfl) rfl) ((kl_X10_orders_140 (h := h45)).1 _ rfl)
      dsimp only at h
      obtain ⟨r46, h47, h⟩ := am_bd h
      have k_r46 : am_kp [(10, 0), (10, 1), (10, 8), (10, 13), (10, 14), (10, 15), (10, 16), (10, 18), (10, 19), (10, 20), (10, 21), (10, 23), (10, 26), (10, 29), (10, 30), (10, 34), (10, 38), (10, 55), (10, 56), (10, 57), (10, 58), (43, 0), (44, 0), (46, 0), (47, 0), (48, 0), (49, 0), (52, 0), (53, 0), (54, 0), (55, 0), (56, 0), (61, 0), (62, 0), (92, 0), (93, 0)] [(10, 17), (10, 39), (10, 40), (85, 0), (86, 0), (87, 0)] 0 m r46.2 := am_kp.tr k_q44 (am_kp.mono (kp_X10_tell (q44.1 10 0 55) q44 r46 h47) rfl)
      cases h
      exact k_r46
    · cases h
      exact am_kp.tr (am_kp.si (am_kp.si k_q28 rfl) rfl) ((kl_X10_orders_140 (h := h45)).2 _ rfl)
  · rw [if_neg hc17] at h
    obtain ⟨r50, h51, h⟩ := am_bd h
    have k_r50 : am_kp [(10, 0), (10, 1), (10, 8), (10, 13), (10, 14), (10, 15), (10, 16), (10, 18), (10, 19), (10, 20), (10, 21), (10, 23), (10, 26), (10, 29), (10, 30), (10, 34), (10, 38), (10, 55), (10, 56), (10, 57), (10, 58), (43, 0), (44, 0), (46, 0), (47, 0), (48, 0), (49, 0), (52, 0), (53, 0), (54, 0), (55, 0), (56, 0), (61, 0), (62, 0), (92, 0), (93, 0)] [(10, 17), (10, 39), (10, 40), (85, 0), (86, 0), (87, 0)] 0 m r50.2 := am_kp.tr k_r15 (am_kp.mono (kp_X10_tell (-6) r15 r50 h51) rfl)
    cases h
    exact k_r50
-- X10_stopped
set_option maxRecDepth 100000 in
theorem kp_X10_stopped  (m : am_m) (t : Int32 × am_m) (h : fn_X10_stopped  m = some t) : am_kp [(10, 0)] [] 0 m t.2 := by
  unfold fn_X10_stopped at h
  cases h
  exact (am_kp.si am_kp.rf rfl)
-- X10_draw
set_option maxRecDepth 100000 in
theorem kp_X10_draw (a1 : Int32) (m : am_m) (t : Int32 × am_m) (h : fn_X10_draw a1 m = some t) : am_kp [] [(10, 59)] 0 m t.2 := by
  unfold fn_X10_draw at h
  obtain ⟨hz1, h⟩ := am_gd_some h
  cases h
  exact (am_kp.sg am_kp.rf rfl)
-- X10_seasons
set_option maxRecDepth 100000 in
theorem kl_X10_seasons_65 {n : Nat} {x2 : Int32} {x3 : Int32} {m : am_m} {t : am_m} (h : lp_X10_seasons_65 n x2 x3 m = some t) : am_kp [(10, 0), (10, 1), (10, 34), (10, 38), (10, 61), (43, 0), (44, 0), (46, 0), (56, 0), (63, 0)] [(10, 39), (10, 40), (10, 59), (85, 0), (87, 0)] 0 m t := by
  induction n generalizing x3 m with
  | zero => cases h
  | succ n ih =>
    unfold lp_X10_seasons_65 at h
    by_cases hc12 : x2 ≤ x3
    · rw [if_pos hc12] at h
      cases h
      exact am_kp.rf
    · rw [if_neg hc12] at h
      by_cases hc13 : (999 : Int32) ≤ (m.1 44 0 4)
      · rw [if_pos hc13] at h
        cases h
        exact am_kp.rf
      · rw [if_neg hc13] at h
        obtain ⟨r14, h15, h⟩ := am_bd h
        have k_r14 : am_kp [(10, 0), (10, 1), (10, 34), (10, 38), (10, 61), (43, 0), (44, 0), (46, 0), (56, 0), (63, 0)] [(10, 39), (10, 40), (10, 59), (85, 0), (87, 0)] 0 m r14.2 := am_kp.tr am_kp.rf (am_kp.mono (kp_X10_draw (m.1 44 0 0) m r14 h15) rfl)
        obtain ⟨r16, h17, h⟩ := am_bd h
        have k_r16 : am_kp [(10, 0), (10, 1), (10, 34), (10, 38), (10, 61), (43, 0), (44, 0), (46, 0), (56, 0), (63, 0)] [(10, 39), (10, 40), (10, 59), (85, 0), (87, 0)] 0 m r16.2 := am_kp.tr k_r14 (am_kp.mono (kp_X10_draw (r14.2.1 44 0 0) r14.2 r16 h17) rfl)
        obtain ⟨r18, h19, h⟩ := am_bd h
        have k_r18 : am_kp [(10, 0), (10, 1), (10, 34), (10, 38), (10, 61), (43, 0), (44, 0), (46, 0), (56, 0), (63, 0)] [(10, 39), (10, 40), (10, 59), (85, 0), (87, 0)] 0 m r18.2 := am_kp.tr k_r16 (am_kp.mono (kp_X10_draw 9 r16.2 r18 h19) rfl)
        obtain ⟨r20, h21, h⟩ := am_bd h
        have k_r20 : am_kp [(10, 0), (10, 1), (10, 34), (10, 38), (10, 61), (43, 0), (44, 0), (46, 0), (56, 0), (63, 0)] [(10, 39), (10, 40), (10, 59), (85, 0), (87, 0)] 0 m r20.2 := am_kp.tr k_r18 (am_kp.mono (kp_X10_draw 4 r18.2 r20 h21) rfl)
        obtain ⟨q41, h42, h⟩ := am_bd h
        have k_q41 : am_kp [(10, 0), (10, 1), (10, 34), (10, 38), (10, 61), (43, 0), (44, 0), (46, 0), (56, 0), (63, 0)] [(10, 39), (10, 40), (10, 59), (85, 0), (87, 0)] 0 m q41 := by
          have h := h42
          by_cases hc22 : r14.1 = r16.1
          · rw [if_pos hc22] at h
            cases h
            exact k_r20
          · rw [if_neg hc22] at h
            obtain ⟨q29, h30, h⟩ := am_bd h
            have k_q29 : am_kp [(10, 0), (10, 1), (10, 34), (10, 38), (10, 61), (43, 0), (44, 0), (46, 0), (56, 0), (63, 0)] [(10, 39), (10, 40), (10, 59), (85, 0), (87, 0)] 0 m q29 := by
              have h := h30
              by_cases hc23 : (2 : Int32) ≤ r20.1
              · rw [if_pos hc23] at h
                cases h
                exact k_r20
              · rw [if_neg hc23] at h
                obtain ⟨r24, h25, h⟩ := am_bd h
                by_cases hc26 : r24 = (r18.1 + (1 : Int32))
                · rw [if_pos hc26] at h
                  cases h
                  exact k_r20
                · rw [if_neg hc26] at h
                  obtain ⟨r27, h28, h⟩ := am_bd h
                  have k_r27 : am_kp [(10, 0), (10, 1), (10, 34), (10, 38), (10, 61), (43, 0), (44, 0), (46, 0), (56, 0), (63, 0)] [(10, 39), (10, 40), (10, 59), (85, 0), (87, 0)] 0 m r27 := am_kp.tr k_r20 (am_kp.mono (kp_X10_setHarm r14.1 r16.1 (r18.1 + (1 : Int32)) r20.2 r27 h28) rfl)
                  cases h
                  exact k_r27
            obtain ⟨q37, h38, h⟩ := am_bd h
            have k_q37 : am_kp [(10, 0), (10, 1), (10, 34), (10, 38), (10, 61), (43, 0), (44, 0), (46, 0), (56, 0), (63, 0)] [(10, 39), (10, 40), (10, 59), (85, 0), (87, 0)] 0 m q37 := by
              have h := h38
              by_cases hc31 : r20.1 ≠ (2 : Int32)
              · rw [if_pos hc31] at h
                cases h
                exact k_q29
              · rw [if_neg hc31] at h
                obtain ⟨r32, h33, h⟩ := am_bd h
                have k_r32 : am_kp [(10, 0), (10, 1), (10, 34), (10, 38), (10, 61), (43, 0), (44, 0), (46, 0), (56, 0), (63, 0)] [(10, 39), (10, 40), (10, 59), (85, 0), (87, 0)] 0 m r32.2 := am_kp.tr k_q29 (am_kp.mono (kp_X10_maySit r14.1 r16.1 q29 r32 h33) rfl)
                by_cases hc34 : r32.1 = 0
                · rw [if_pos hc34] at h
                  cases h
                  exact k_r32
                · rw [if_neg hc34] at h
                  obtain ⟨r35, h36, h⟩ := am_bd h
                  have k_r35 : am_kp [(10, 0), (10, 1), (10, 34), (10, 38), (10, 61), (43, 0), (44, 0), (46, 0), (56, 0), (63, 0)] [(10, 39), (10, 40), (10, 59), (85, 0), (87, 0)] 0 m r35 := am_kp.tr k_r32 (am_kp.mono (kp_X10_feastIt (((1 : Int32) <<< (r14.1 &&& 31)) ||| ((1 : Int32) <<< (r16.1 &&& 31))) r32.2 r35 h36) rfl)
                  cases h
                  exact k_r35
            by_cases hc39 : r20.1 ≠ (3 : Int32)
            · rw [if_pos hc39] at h
              cases h
              exact k_q37
            · rw [if_neg hc39] at h
              obtain ⟨hg40, h⟩ := am_ck_some h
              cases h
              exact (am_kp.si k_q37 rfl)
        obtain ⟨r43, h44, h⟩ := am_bd h
        have k_r43 : am_kp [(10, 0), (10, 1), (10, 34), (10, 38), (10, 61), (43, 0), (44, 0), (46, 0), (56, 0), (63, 0)] [(10, 39), (10, 40), (10, 59), (85, 0), (87, 0)] 0 m r43 := am_kp.tr k_q41 (am_kp.mono (kp_X10_passIt  q41 r43 h44) rfl)
        exact am_kp.tr k_r43 (ih h)
set_option maxRecDepth 100000 in
theorem kl_X10_seasons_224 {n : Nat} {x3 : Int32} {m : am_m} {t : am_m} (h : lp_X10_seasons_224 n x3 m = some t) : am_kp [(10, 0), (10, 1), (10, 34), (10, 38), (10, 61), (43, 0), (44, 0), (46, 0), (56, 0), (63, 0)] [(10, 39), (10, 40), (10, 59), (85, 0), (87, 0)] 0 m t := by
  induction n generalizing x3 m with
  | zero => cases h
  | succ n ih =>
    unfold lp_X10_seasons_224 at h
    by_cases hc47 : (108 : Int32) ≤ x3
    · rw [if_pos hc47] at h
      cases h
      exact am_kp.rf
    · rw [if_neg hc47] at h
      obtain ⟨hg48, h⟩ := am_ck_some h
      obtain ⟨hg49, h⟩ := am_ck_some h
      exact am_kp.tr (am_kp.si am_kp.rf rfl) (ih h)
set_option maxRecDepth 100000 in
theorem kp_X10_seasons (a1 : Int32) (a2 : Int32) (m : am_m) (t : Int32 × am_m) (h : fn_X10_seasons a1 a2 m = some t) : am_kp [(10, 0), (10, 1), (10, 34), (10, 38), (10, 61), (43, 0), (44, 0), (46, 0), (56, 0), (63, 0)] [(10, 39), (10, 40), (10, 59), (85, 0), (87, 0)] 0 m t.2 := by
  unfold fn_X10_seasons at h
  obtain ⟨r1, h2, h⟩ := am_bd h
  by_cases hc3 : r1 = 0
  · rw [if_pos hc3] at h
    obtain ⟨r4, h5, h⟩ := am_bd h
    have k_r4 : am_kp [(10, 0), (10, 1), (10, 34), (10, 38), (10, 61), (43, 0), (44, 0), (46, 0), (56, 0), (63, 0)] [(10, 39), (10, 40), (10, 59), (85, 0), (87, 0)] 0 m r4.2 := am_kp.tr (am_kp.si am_kp.rf rfl) (am_kp.mono (kp_X10_tell (-1) (am_si m 10 0 0 0) r4 h5) rfl)
    cases h
    exact k_r4
  · rw [if_neg hc3] at h
    obtain ⟨r6, h7, h⟩ := am_bd h
    by_cases hc8 : r6 ≠ 0
    · rw [if_pos hc8] at h
      by_cases hc9 : (m.1 44 0 0) ≠ 0
      · rw [if_pos hc9] at h
        obtain ⟨r10, h11, h⟩ := am_bd h
        have k_r10 : am_kp [(10, 0), (10, 1), (10, 34), (10, 38), (10, 61), (43, 0), (44, 0), (46, 0), (56, 0), (63, 0)] [(10, 39), (10, 40), (10, 59), (85, 0), (87, 0)] 0 m r10 := am_kp.tr (am_kp.si am_kp.rf rfl) (am_kp.mono (kp_X10_keepAll 16 (am_si m 10 0 0 0) r10 h11) rfl)
        obtain ⟨q45, h46, h⟩ := am_bd h
        have k_q45 : am_kp [(10, 0), (10, 1), (10, 34), (10, 38), (10, 61), (43, 0), (44, 0), (46, 0), (56, 0), (63, 0)] [(10, 39), (10, 40), (10, 59), (85, 0), (87, 0)] 0 m q45 := am_kp.tr (am_kp.sg k_r10 rfl) (kl_X10_seasons_65 (h := h46))
        obtain ⟨q50, h51, h⟩ := am_bd h
        have k_q50 : am_kp [(10, 0), (10, 1), (10, 34), (10, 38), (10, 61), (43, 0), (44, 0), (46, 0), (56, 0), (63, 0)] [(10, 39), (10, 40), (10, 59), (85, 0), (87, 0)] 0 m q50 := am_kp.tr k_q45 (kl_X10_seasons_224 (h := h51))
        obtain ⟨r52, h53, h⟩ := am_bd h
        obtain ⟨r54, h55, h⟩ := am_bd h
        have k_r54 : am_kp [(10, 0), (10, 1), (10, 34), (10, 38), (10, 61), (43, 0), (44, 0), (46, 0), (56, 0), (63, 0)] [(10, 39), (10, 40), (10, 59), (85, 0), (87, 0)] 0 m r54 := am_kp.tr (am_kp.si k_q50 rfl) (am_kp.mono (kp_X10_putBack 16 (am_si q50 10 0 61 (q50.1 44 0 0)) r54 h55) rfl)
        obtain ⟨r56, h57, h⟩ := am_bd h
        have k_r56 : am_kp [(10, 0), (10, 1), (10, 34), (10, 38), (10, 61), (43, 0), (44, 0), (46, 0), (56, 0), (63, 0)] [(10, 39), (10, 40), (10, 59), (85, 0), (87, 0)] 0 m r56.2 := am_kp.tr k_r54 (am_kp.mono (kp_X10_tell r52 r54 r56 h57) rfl)
        cases h
        exact k_r56
      · rw [if_neg hc9] at h
        obtain ⟨r58, h59, h⟩ := am_bd h
        have k_r58 : am_kp [(10, 0), (10, 1), (10, 34), (10, 38), (10, 61), (43, 0), (44, 0), (46, 0), (56, 0), (63, 0)] [(10, 39), (10, 40), (10, 59), (85, 0), (87, 0)] 0 m r58.2 := am_kp.tr (am_kp.si am_kp.rf rfl) (am_kp.mono (kp_X10_tell (-3) (am_si m 10 0 0 0) r58 h59) rfl)
        cases h
        exact k_r58
    · rw [if_neg hc8] at h
      obtain ⟨r60, h61, h⟩ := am_bd h
      have k_r60 : am_kp [(10, 0), (10, 1), (10, 34), (10, 38), (10, 61), (43, 0), (44, 0), (46, 0), (56, 0), (63, 0)] [(10, 39), (10, 40), (10, 59), (85, 0), (87, 0)] 0 m r60.2 := am_kp.tr (am_kp.si am_kp.rf rfl) (am_kp.mono (kp_X10_tell (-1) (am_si m 10 0 0 0) r60 h61) rfl)
      cases h
      exact k_r60
-- X10_drawn
set_option maxRecDepth 100000 in
theorem kp_X10_drawn (a1 : Int32) (a2 : Int32) (m : am_m) (t : Int32 × am_m) (h : fn_X10_drawn a1 a2 m = some t) : am_kp [(10, 0)] [] 0 m t.2 := by
  unfold fn_X10_drawn at h
  obtain ⟨r1, h2, h⟩ := am_bd h
  by_cases hc3 : r1 = 0
  · rw [if_pos hc3] at h
    cases h
    exact (am_kp.si am_kp.rf rfl)
  · rw [if_neg hc3] at h
    by_cases hc4 : a2 = (-1 : Int32)
    · rw [if_pos hc4] at h
      by_cases hc5 : a1 ≠ a2
      · rw [if_pos hc5] at h
        by_cases hc6 : a2 ≠ (-1 : Int32)
        · rw [if_pos hc6] at h
          obtain ⟨hg7, h⟩ := am_ck_some h
          cases h
          exact (am_kp.si am_kp.rf rfl)
        · rw [if_neg hc6] at h
          obtain ⟨hg8, h⟩ := am_ck_some h
          cases h
          exact (am_kp.si am_kp.rf rfl)
      · rw [if_neg hc5] at h
        cases h
        exact (am_kp.si am_kp.rf rfl)
    · rw [if_neg hc4] at h
      obtain ⟨r9, h10, h⟩ := am_bd h
      by_cases hc11 : r9 = 0
      · rw [if_pos hc11] at h
        cases h
        exact (am_kp.si am_kp.rf rfl)
      · rw [if_neg hc11] at h
        by_cases hc12 : a1 ≠ a2
        · rw [if_pos hc12] at h
          by_cases hc13 : a2 ≠ (-1 : Int32)
          · rw [if_pos hc13] at h
            obtain ⟨hg14, h⟩ := am_ck_some h
            cases h
            exact (am_kp.si am_kp.rf rfl)
          · rw [if_neg hc13] at h
            obtain ⟨hg15, h⟩ := am_ck_some h
            cases h
            exact (am_kp.si am_kp.rf rfl)
        · rw [if_neg hc12] at h
          cases h
          exact (am_kp.si am_kp.rf rfl)
-- X10_count
set_option maxRecDepth 100000 in
theorem kp_X10_count (a1 : Int32) (m : am_m) (t : Int32 × am_m) (h : fn_X10_count a1 m = some t) : am_kp [(10, 0)] [] 0 m t.2 := by
  unfold fn_X10_count at h
  by_cases hs1 : a1 = 0
  · rw [if_pos hs1] at h
    cases h
    exact (am_kp.si am_kp.rf rfl)
  · rw [if_neg hs1] at h
    by_cases hs2 : a1 = 1
    · rw [if_pos hs2] at h
      obtain ⟨r3, h4, h⟩ := am_bd h
      cases h
      exact (am_kp.si am_kp.rf rfl)
    · rw [if_neg hs2] at h
      by_cases hs5 : a1 = 2
      · rw [if_pos hs5] at h
        obtain ⟨r6, h7, h⟩ := am_bd h
        cases h
        exact (am_kp.si am_kp.rf rfl)
      · rw [if_neg hs5] at h
        by_cases hs8 : a1 = 3
        · rw [if_pos hs8] at h
          cases h
          exact (am_kp.si am_kp.rf rfl)
        · rw [if_neg hs8] at h
          by_cases hs9 : a1 = 4
          · rw [if_pos hs9] at h
            cases h
            exact (am_kp.si am_kp.rf rfl)
          · rw [if_neg hs9] at h
            by_cases hs10 : a1 = 5
            · rw [if_pos hs10] at h
              cases h
              exact (am_kp.si am_kp.rf rfl)
            · rw [if_neg hs10] at h
              by_cases hs11 : a1 = 6
              · rw [if_pos hs11] at h
                cases h
                exact (am_kp.si am_kp.rf rfl)
              · rw [if_neg hs11] at h
                by_cases hs12 : a1 = 7
                · rw [if_pos hs12] at h
                  cases h
                  exact (am_kp.si am_kp.rf rfl)
                · rw [if_neg hs12] at h
                  by_cases hs13 : a1 = 8
                  · rw [if_pos hs13] at h
                    cases h
                    exact (am_kp.si am_kp.rf rfl)
                  · rw [if_neg hs13] at h
                    by_cases hs14 : a1 = 9
                    · rw [if_pos hs14] at h
                      cases h
                      exact (am_kp.si am_kp.rf rfl)
                    · rw [if_neg hs14] at h
                      by_cases hs15 : a1 = 10
                      · rw [if_pos hs15] at h
                        cases h
                        exact (am_kp.si am_kp.rf rfl)
                      · rw [if_neg hs15] at h
                        by_cases hs16 : a1 = 11
                        · rw [if_pos hs16] at h
                          cases h
                          exact (am_kp.si am_kp.rf rfl)
                        · rw [if_neg hs16] at h
                          by_cases hs17 : a1 = 12
                          · rw [if_pos hs17] at h
                            cases h
                            exact (am_kp.si am_kp.rf rfl)
                          · rw [if_neg hs17] at h
                            obtain ⟨r18, h19, h⟩ := am_bd h
                            by_cases hc20 : r18 = 0
                            · rw [if_pos hc20] at h
                              cases h
                              exact (am_kp.si am_kp.rf rfl)
                            · rw [if_neg hc20] at h
                              obtain ⟨hg21, h⟩ := am_ck_some h
                              cases h
                              exact (am_kp.si am_kp.rf rfl)
-- X10_status
set_option maxRecDepth 100000 in
theorem kp_X10_status  (m : am_m) (t : Int32 × am_m) (h : fn_X10_status  m = some t) : am_kp [(10, 0)] [] 0 m t.2 := by
  unfold fn_X10_status at h
  cases h
  exact (am_kp.si am_kp.rf rfl)
