-- X10_change
set_option maxRecDepth 100000 in
theorem kp_X10_change (a1 : Int32) (a2 : Int32) (m : am_m) (t : Int32 × am_m) (h : fn_X10_change a1 a2 m = some t) : am_kp [(10, 1), (44, 0)] [] 0 m t.2 := by
  unfold fn_X10_change at h
  obtain ⟨hg1, h⟩ := am_ck_some h
  obtain ⟨hg2, h⟩ := am_ck_some h
  cases h
  exact (am_kp.si (am_kp.si am_kp.rf rfl) rfl)
-- X10_lasting
set_option maxRecDepth 100000 in
theorem kp_X10_lasting (a1 : Int32) (m : am_m) (t : Int32 × am_m) (h : fn_X10_lasting a1 m = some t) : am_kp [(10, 1), (10, 8), (43, 0)] [] 0 m t.2 := by
  unfold fn_X10_lasting at h
  obtain ⟨r2, h3, h⟩ := am_bd h
  have k_r2 : am_kp [(10, 1), (10, 8), (43, 0)] [] 0 m r2.2 := am_kp.tr (am_kp.si am_kp.rf rfl) (am_kp.mono (kp_X10_tell a1 (am_si m 10 0 8 (if 0 ≤ a1 then (0 : Int32) else (m.1 10 0 8))) r2 h3) rfl)
  cases h
  exact k_r2
-- X10_keepAll
set_option maxRecDepth 100000 in
theorem kl_X10_keepAll_2 {n : Nat} {x1 : Int32} {x2 : Int32} {m : am_m} {t : am_m} (h : lp_X10_keepAll_2 n x1 x2 m = some t) : am_kp [(46, 0)] [] 0 m t := by
  induction n generalizing x2 m with
  | zero => cases h
  | succ n ih =>
    unfold lp_X10_keepAll_2 at h
    by_cases hc1 : (108 : Int32) ≤ x2
    · rw [if_pos hc1] at h
      cases h
      exact am_kp.rf
    · rw [if_neg hc1] at h
      obtain ⟨hg2, h⟩ := am_ck_some h
      obtain ⟨hg3, h⟩ := am_ck_some h
      exact am_kp.tr (am_kp.si am_kp.rf rfl) (ih h)
set_option maxRecDepth 100000 in
theorem kp_X10_keepAll (a1 : Int32) (m : am_m) (t : am_m) (h : fn_X10_keepAll a1 m = some t) : am_kp [(46, 0)] [] 0 m t := by
  unfold fn_X10_keepAll at h
  obtain ⟨q4, h5, h⟩ := am_bd h
  have k_q4 : am_kp [(46, 0)] [] 0 m q4 := am_kp.tr am_kp.rf (kl_X10_keepAll_2 (h := h5))
  cases h
  exact k_q4
-- X10_putBack
set_option maxRecDepth 100000 in
theorem kl_X10_putBack_2 {n : Nat} {x1 : Int32} {x2 : Int32} {m : am_m} {t : am_m} (h : lp_X10_putBack_2 n x1 x2 m = some t) : am_kp [(44, 0)] [] 0 m t := by
  induction n generalizing x2 m with
  | zero => cases h
  | succ n ih =>
    unfold lp_X10_putBack_2 at h
    by_cases hc1 : (108 : Int32) ≤ x2
    · rw [if_pos hc1] at h
      cases h
      exact am_kp.rf
    · rw [if_neg hc1] at h
      obtain ⟨hg2, h⟩ := am_ck_some h
      obtain ⟨hg3, h⟩ := am_ck_some h
      exact am_kp.tr (am_kp.si am_kp.rf rfl) (ih h)
set_option maxRecDepth 100000 in
theorem kp_X10_putBack (a1 : Int32) (m : am_m) (t : am_m) (h : fn_X10_putBack a1 m = some t) : am_kp [(44, 0)] [] 0 m t := by
  unfold fn_X10_putBack at h
  obtain ⟨q4, h5, h⟩ := am_bd h
  have k_q4 : am_kp [(44, 0)] [] 0 m q4 := am_kp.tr am_kp.rf (kl_X10_putBack_2 (h := h5))
  cases h
  exact k_q4
-- X10_remember
set_option maxRecDepth 100000 in
theorem kl_X10_remember_11 {n : Nat} {x1 : Int32} {x2 : Int32} {m : am_m} {t : am_m} (h : lp_X10_remember_11 n x1 x2 m = some t) : am_kp [(10, 8), (46, 0), (47, 0)] [] 0 m t := by
  induction n generalizing x2 m with
  | zero => cases h
  | succ n ih =>
    unfold lp_X10_remember_11 at h
    by_cases hc2 : (1620 : Int32) ≤ x2
    · rw [if_pos hc2] at h
      cases h
      exact am_kp.rf
    · rw [if_neg hc2] at h
      obtain ⟨hg3, h⟩ := am_ck_some h
      obtain ⟨hg4, h⟩ := am_ck_some h
      exact am_kp.tr (am_kp.si am_kp.rf rfl) (ih h)
set_option maxRecDepth 100000 in
theorem kl_X10_remember_41 {n : Nat} {x1 : Int32} {x2 : Int32} {m : am_m} {t : am_m} (h : lp_X10_remember_41 n x1 x2 m = some t) : am_kp [(10, 8), (46, 0), (47, 0)] [] 0 m t := by
  induction n generalizing x2 m with
  | zero => cases h
  | succ n ih =>
    unfold lp_X10_remember_41 at h
    by_cases hc7 : (15 : Int32) ≤ x2
    · rw [if_pos hc7] at h
      cases h
      exact am_kp.rf
    · rw [if_neg hc7] at h
      obtain ⟨hg8, h⟩ := am_ck_some h
      obtain ⟨hg9, h⟩ := am_ck_some h
      exact am_kp.tr (am_kp.si am_kp.rf rfl) (ih h)
set_option maxRecDepth 100000 in
theorem kp_X10_remember (a1 : Int32) (m : am_m) (t : am_m) (h : fn_X10_remember a1 m = some t) : am_kp [(10, 8), (46, 0), (47, 0)] [] 0 m t := by
  unfold fn_X10_remember at h
  obtain ⟨q12, h13, h⟩ := am_bd h
  have k_q12 : am_kp [(10, 8), (46, 0), (47, 0)] [] 0 m q12 := by
    have h := h13
    by_cases hc1 : (m.1 10 0 8) ≠ (16 : Int32)
    · rw [if_pos hc1] at h
      cases h
      exact am_kp.rf
    · rw [if_neg hc1] at h
      obtain ⟨q5, h6, h⟩ := am_bd h
      have k_q5 : am_kp [(10, 8), (46, 0), (47, 0)] [] 0 m q5 := am_kp.tr am_kp.rf (kl_X10_remember_11 (h := h6))
      obtain ⟨q10, h11, h⟩ := am_bd h
      have k_q10 : am_kp [(10, 8), (46, 0), (47, 0)] [] 0 m q10 := am_kp.tr k_q5 (kl_X10_remember_41 (h := h11))
      cases h
      exact (am_kp.si k_q10 rfl)
  obtain ⟨r14, h15, h⟩ := am_bd h
  have k_r14 : am_kp [(10, 8), (46, 0), (47, 0)] [] 0 m r14 := am_kp.tr k_q12 (am_kp.mono (kp_X10_keepAll (q12.1 10 0 8) q12 r14 h15) rfl)
  obtain ⟨hg16, h⟩ := am_ck_some h
  cases h
  exact (am_kp.si (am_kp.si k_r14 rfl) rfl)
-- X10_undo
set_option maxRecDepth 100000 in
theorem kp_X10_undo  (m : am_m) (t : Int32 × am_m) (h : fn_X10_undo  m = some t) : am_kp [(10, 0), (10, 1), (10, 8), (43, 0), (44, 0)] [] 0 m t.2 := by
  unfold fn_X10_undo at h
  by_cases hc1 : (m.1 10 0 8) ≠ 0
  · rw [if_pos hc1] at h
    obtain ⟨r2, h3, h⟩ := am_bd h
    have k_r2 : am_kp [(10, 0), (10, 1), (10, 8), (43, 0), (44, 0)] [] 0 m r2 := am_kp.tr (am_kp.si (am_kp.si am_kp.rf rfl) rfl) (am_kp.mono (kp_X10_putBack ((m.1 10 0 8) - (1 : Int32)) (am_si (am_si m 10 0 0 0) 10 0 8 ((m.1 10 0 8) - (1 : Int32))) r2 h3) rfl)
    obtain ⟨hg4, h⟩ := am_ck_some h
    obtain ⟨r5, h6, h⟩ := am_bd h
    have k_r5 : am_kp [(10, 0), (10, 1), (10, 8), (43, 0), (44, 0)] [] 0 m r5.2 := am_kp.tr k_r2 (am_kp.mono (kp_X10_tell (r2.1 47 0 (r2.1 10 0 8).toNatClampNeg) r2 r5 h6) rfl)
    cases h
    exact k_r5
  · rw [if_neg hc1] at h
    obtain ⟨r7, h8, h⟩ := am_bd h
    have k_r7 : am_kp [(10, 0), (10, 1), (10, 8), (43, 0), (44, 0)] [] 0 m r7.2 := am_kp.tr (am_kp.si am_kp.rf rfl) (am_kp.mono (kp_X10_tell (-3) (am_si m 10 0 0 0) r7 h8) rfl)
    cases h
    exact k_r7
-- X10_image
set_option maxRecDepth 100000 in
theorem kl_X10_image_23 {n : Nat} {x1 : Int32} {x2 : Int32} {m : am_m} {t : am_m} (h : lp_X10_image_23 n x1 x2 m = some t) : am_kp [(10, 0), (10, 1), (43, 0), (45, 0), (91, 0)] [] 0 m t := by
  induction n generalizing x2 m with
  | zero => cases h
  | succ n ih =>
    unfold lp_X10_image_23 at h
    by_cases hc4 : (5518 : Int32) ≤ x2
    · rw [if_pos hc4] at h
      cases h
      exact am_kp.rf
    · rw [if_neg hc4] at h
      obtain ⟨hg5, h⟩ := am_ck_some h
      obtain ⟨hg6, h⟩ := am_ck_some h
      exact am_kp.tr (am_kp.si am_kp.rf rfl) (ih h)
set_option maxRecDepth 100000 in
theorem kp_X10_image (a1 : Int32) (m : am_m) (t : Int32 × am_m) (h : fn_X10_image a1 m = some t) : am_kp [(10, 0), (10, 1), (43, 0), (45, 0), (91, 0)] [] 0 m t.2 := by
  unfold fn_X10_image at h
  obtain ⟨r1, h2, h⟩ := am_bd h
  by_cases hc3 : r1 ≠ 0
  · rw [if_pos hc3] at h
    obtain ⟨q7, h8, h⟩ := am_bd h
    have k_q7 : am_kp [(10, 0), (10, 1), (43, 0), (45, 0), (91, 0)] [] 0 m q7 := am_kp.tr (am_kp.si am_kp.rf rfl) (kl_X10_image_23 (h := h8))
    obtain ⟨hg9, h⟩ := am_ck_some h
    obtain ⟨r11, h12, h⟩ := am_bd h
    have k_r11 : am_kp [(10, 0), (10, 1), (43, 0), (45, 0), (91, 0)] [] 0 m r11.2 := am_kp.tr (am_kp.si k_q7 rfl) (am_kp.mono (kp_X10_tell 0 (am_si q7 91 0 a1.toNatClampNeg 1) r11 h12) rfl)
    cases h
    exact k_r11
  · rw [if_neg hc3] at h
    obtain ⟨r13, h14, h⟩ := am_bd h
    have k_r13 : am_kp [(10, 0), (10, 1), (43, 0), (45, 0), (91, 0)] [] 0 m r13.2 := am_kp.tr (am_kp.si am_kp.rf rfl) (am_kp.mono (kp_X10_tell (-1) (am_si m 10 0 0 0) r13 h14) rfl)
    cases h
    exact k_r13
-- X10_back
set_option maxRecDepth 100000 in
theorem kl_X10_back_39 {n : Nat} {x1 : Int32} {x2 : Int32} {m : am_m} {t : am_m} (h : lp_X10_back_39 n x1 x2 m = some t) : am_kp [(10, 0), (10, 1), (10, 8), (43, 0), (44, 0)] [] 0 m t := by
  induction n generalizing x2 m with
  | zero => cases h
  | succ n ih =>
    unfold lp_X10_back_39 at h
    by_cases hc6 : (5518 : Int32) ≤ x2
    · rw [if_pos hc6] at h
      cases h
      exact am_kp.rf
    · rw [if_neg hc6] at h
      obtain ⟨hg7, h⟩ := am_ck_some h
      obtain ⟨hg8, h⟩ := am_ck_some h
      exact am_kp.tr (am_kp.si am_kp.rf rfl) (ih h)
set_option maxRecDepth 100000 in
theorem kp_X10_back (a1 : Int32) (m : am_m) (t : Int32 × am_m) (h : fn_X10_back a1 m = some t) : am_kp [(10, 0), (10, 1), (10, 8), (43, 0), (44, 0)] [] 0 m t.2 := by
  unfold fn_X10_back at h
  obtain ⟨r1, h2, h⟩ := am_bd h
  by_cases hc3 : r1 ≠ 0
  · rw [if_pos hc3] at h
    obtain ⟨hg4, h⟩ := am_ck_some h
    by_cases hc5 : (m.1 91 0 a1.toNatClampNeg) ≠ 0
    · rw [if_pos hc5] at h
      obtain ⟨q9, h10, h⟩ := am_bd h
      have k_q9 : am_kp [(10, 0), (10, 1), (10, 8), (43, 0), (44, 0)] [] 0 m q9 := am_kp.tr (am_kp.si am_kp.rf rfl) (kl_X10_back_39 (h := h10))
      obtain ⟨r11, h12, h⟩ := am_bd h
      have k_r11 : am_kp [(10, 0), (10, 1), (10, 8), (43, 0), (44, 0)] [] 0 m r11.2 := am_kp.tr k_q9 (am_kp.mono (kp_X10_lasting 0 q9 r11 h12) rfl)
      cases h
      exact k_r11
    · rw [if_neg hc5] at h
      obtain ⟨r13, h14, h⟩ := am_bd h
      have k_r13 : am_kp [(10, 0), (10, 1), (10, 8), (43, 0), (44, 0)] [] 0 m r13.2 := am_kp.tr (am_kp.si am_kp.rf rfl) (am_kp.mono (kp_X10_tell (-2) (am_si m 10 0 0 0) r13 h14) rfl)
      cases h
      exact k_r13
  · rw [if_neg hc3] at h
    obtain ⟨r15, h16, h⟩ := am_bd h
    have k_r15 : am_kp [(10, 0), (10, 1), (10, 8), (43, 0), (44, 0)] [] 0 m r15.2 := am_kp.tr (am_kp.si am_kp.rf rfl) (am_kp.mono (kp_X10_tell (-1) (am_si m 10 0 0 0) r15 h16) rfl)
    cases h
    exact k_r15
-- X10_folk
set_option maxRecDepth 100000 in
theorem kp_X10_folk (a1 : Int32) (m : am_m) (t : Int32 × am_m) (h : fn_X10_folk a1 m = some t) : am_kp [(10, 0), (10, 1), (10, 8), (43, 0), (44, 0)] [] 0 m t.2 := by
  unfold fn_X10_folk at h
  obtain ⟨r1, h2, h⟩ := am_bd h
  by_cases hc3 : r1 ≠ 0
  · rw [if_pos hc3] at h
    by_cases hc4 : (m.1 44 0 0) ≠ (7 : Int32)
    · rw [if_pos hc4] at h
      obtain ⟨hg5, h⟩ := am_ck_some h
      obtain ⟨r6, h7, h⟩ := am_bd h
      have k_r6 : am_kp [(10, 0), (10, 1), (10, 8), (43, 0), (44, 0)] [] 0 m r6.2 := am_kp.tr (am_kp.si (am_kp.si (am_kp.si am_kp.rf rfl) rfl) rfl) (am_kp.mono (kp_X10_lasting (m.1 44 0 0) (am_si (am_si (am_si m 10 0 0 0) 44 0 ((7 : Int32) + (m.1 44 0 0)).toNatClampNeg a1) 44 0 0 (((am_si (am_si m 10 0 0 0) 44 0 ((7 : Int32) + (m.1 44 0 0)).toNatClampNeg a1).1 44 0 0) + (1 : Int32))) r6 h7) rfl)
      cases h
      exact k_r6
    · rw [if_neg hc4] at h
      obtain ⟨r8, h9, h⟩ := am_bd h
      have k_r8 : am_kp [(10, 0), (10, 1), (10, 8), (43, 0), (44, 0)] [] 0 m r8.2 := am_kp.tr (am_kp.si am_kp.rf rfl) (am_kp.mono (kp_X10_tell (-5) (am_si m 10 0 0 0) r8 h9) rfl)
      cases h
      exact k_r8
  · rw [if_neg hc3] at h
    obtain ⟨r10, h11, h⟩ := am_bd h
    have k_r10 : am_kp [(10, 0), (10, 1), (10, 8), (43, 0), (44, 0)] [] 0 m r10.2 := am_kp.tr (am_kp.si am_kp.rf rfl) (am_kp.mono (kp_X10_tell (-1) (am_si m 10 0 0 0) r10 h11) rfl)
    cases h
    exact k_r10
-- X10_reckon
set_option maxRecDepth 100000 in
theorem kp_X10_reckon (a1 : Int32) (a2 : Int64) (a3 : Int64) (m : am_m) (t : Int64 × am_m) (h : fn_X10_reckon a1 a2 a3 m = some t) : am_kp [(10, 38)] [] 0 m t.2 := by
  unfold fn_X10_reckon at h
  by_cases hs1 : a1 = 20
  · rw [if_pos hs1] at h
    cases h
    exact am_kp.rf
  · rw [if_neg hs1] at h
    by_cases hs2 : a1 = 21
    · rw [if_pos hs2] at h
      cases h
      exact am_kp.rf
    · rw [if_neg hs2] at h
      by_cases hs3 : a1 = 22
      · rw [if_pos hs3] at h
        cases h
        exact am_kp.rf
      · rw [if_neg hs3] at h
        by_cases hs4 : a1 = 23
        · rw [if_pos hs4] at h
          obtain ⟨hz6, h⟩ := am_gd_some h
          by_cases hc7 : (if (lg_cmp a3 (0 : Int64)) ≠ 0 then (0 : Int32) else (1 : Int32)) = 0
          · rw [if_pos hc7] at h
            obtain ⟨hz8, h⟩ := am_gd_some h
            cases h
            exact (am_kp.si am_kp.rf rfl)
          · rw [if_neg hc7] at h
            cases h
            exact (am_kp.si am_kp.rf rfl)
        · rw [if_neg hs4] at h
          by_cases hs9 : a1 = 24
          · rw [if_pos hs9] at h
            obtain ⟨hz11, h⟩ := am_gd_some h
            by_cases hc12 : (if (lg_cmp a3 (0 : Int64)) ≠ 0 then (0 : Int32) else (1 : Int32)) = 0
            · rw [if_pos hc12] at h
              obtain ⟨hz13, h⟩ := am_gd_some h
              cases h
              exact (am_kp.si am_kp.rf rfl)
            · rw [if_neg hc12] at h
              cases h
              exact (am_kp.si am_kp.rf rfl)
          · rw [if_neg hs9] at h
            by_cases hs14 : a1 = 25
            · rw [if_pos hs14] at h
              by_cases hc15 : 0 ≤ (lg_cmp a2 a3)
              · rw [if_pos hc15] at h
                cases h
                exact am_kp.rf
              · rw [if_neg hc15] at h
                cases h
                exact am_kp.rf
            · rw [if_neg hs14] at h
              by_cases hs16 : a1 = 26
              · rw [if_pos hs16] at h
                by_cases hc17 : (lg_cmp a2 a3) ≤ 0
                · rw [if_pos hc17] at h
                  cases h
                  exact am_kp.rf
                · rw [if_neg hc17] at h
                  cases h
                  exact am_kp.rf
              · rw [if_neg hs16] at h
                by_cases hc18 : (lg_cmp a2 a3) ≠ 0
                · rw [if_pos hc18] at h
                  cases h
                  exact am_kp.rf
                · rw [if_neg hc18] at h
                  cases h
                  exact am_kp.rf
-- X10_reckonAll
set_option maxRecDepth 100000 in
theorem kl_X10_reckonAll_10 {n : Nat} {x2 : Int32} {x3 : Int32} {x4 : Int32} {m : am_m} {t : Int32 × am_m} (h : lp_X10_reckonAll_10 n x2 x3 x4 m = some t) : am_kp [(10, 38)] [(10, 39), (87, 0)] 0 m t.2 := by
  induction n generalizing x3 x4 m with
  | zero => cases h
  | succ n ih =>
    unfold lp_X10_reckonAll_10 at h
    by_cases hc1 : x2 ≤ x4
    · rw [if_pos hc1] at h
      cases h
      exact am_kp.rf
    · rw [if_neg hc1] at h
      by_cases hc2 : (m.1 10 0 38) ≠ 0
      · rw [if_pos hc2] at h
        cases h
        exact am_kp.rf
      · rw [if_neg hc2] at h
        obtain ⟨q6, h7, h⟩ := am_bd h
        obtain ⟨q11, h12, h⟩ := am_bd h
        obtain ⟨q48, h49, h⟩ := am_bd h
        have k_q48 : am_kp [(10, 38)] [(10, 39), (87, 0)] 0 m q48.2.2 := by
          have h := h49
          by_cases hc13 : (20 : Int32) ≤ q6
          · rw [if_pos hc13] at h
            by_cases hc14 : (28 : Int32) ≤ q6
            · rw [if_pos hc14] at h
              by_cases hc15 : q6 ≠ (28 : Int32)
              · rw [if_pos hc15] at h
                obtain ⟨hg16, h⟩ := am_ck_some h
                by_cases hc18 : (lg_cmp (m.2.1 87 0 (x3 - (1 : Int32)).toNatClampNeg) (if q6 ≠ (29 : Int32) then (1 : Int64) else (0 : Int64))) ≠ 0
                · rw [if_pos hc18] at h
                  cases h
                  exact am_kp.rf
                · rw [if_neg hc18] at h
                  cases h
                  exact am_kp.rf
              · rw [if_neg hc15] at h
                obtain ⟨hg19, h⟩ := am_ck_some h
                obtain ⟨hg20, h⟩ := am_ck_some h
                cases h
                exact (am_kp.sg am_kp.rf rfl)
            · rw [if_neg hc14] at h
              obtain ⟨hg21, h⟩ := am_ck_some h
              obtain ⟨hg22, h⟩ := am_ck_some h
              obtain ⟨r23, h24, h⟩ := am_bd h
              have k_r23 : am_kp [(10, 38)] [(10, 39), (87, 0)] 0 m r23.2 := am_kp.tr am_kp.rf (am_kp.mono (kp_X10_reckon q6 (m.2.1 87 0 ((x3 - 1) - (1 : Int32)).toNatClampNeg) (m.2.1 87 0 (x3 - 1).toNatClampNeg) m r23 h24) rfl)
              obtain ⟨hg25, h⟩ := am_ck_some h
              obtain ⟨q31, h32, h⟩ := am_bd h
              obtain ⟨hz33, h⟩ := am_gd_some h
              cases h
              exact (am_kp.si (am_kp.sg k_r23 rfl) rfl)
          · rw [if_neg hc13] at h
            obtain ⟨q45, h46, h⟩ := am_bd h
            obtain ⟨hg47, h⟩ := am_ck_some h
            cases h
            exact (am_kp.sg am_kp.rf rfl)
        exact am_kp.tr k_q48 (ih h)
set_option maxRecDepth 100000 in
theorem kp_X10_reckonAll (a1 : Int32) (a2 : Int32) (m : am_m) (t : am_m) (h : fn_X10_reckonAll a1 a2 m = some t) : am_kp [(10, 38)] [(10, 39), (87, 0)] 0 m t := by
  unfold fn_X10_reckonAll at h
  obtain ⟨q50, h51, h⟩ := am_bd h
  have k_q50 : am_kp [(10, 38)] [(10, 39), (87, 0)] 0 m q50.2 := am_kp.tr (am_kp.si am_kp.rf rfl) (kl_X10_reckonAll_10 (h := h51))
  cases h
  exact (am_kp.sg k_q50 rfl)
-- X10_isSo
set_option maxRecDepth 100000 in
theorem kp_X10_isSo (a1 : Int32) (m : am_m) (t : Int32 × am_m) (h : fn_X10_isSo a1 m = some t) : am_kp [(10, 38)] [(10, 39), (10, 40), (87, 0)] 0 m t.2 := by
  unfold fn_X10_isSo at h
  obtain ⟨hg1, h⟩ := am_ck_some h
  obtain ⟨hg2, h⟩ := am_ck_some h
  by_cases hc3 : (m.1 44 0 (a1 + (6 : Int32)).toNatClampNeg) ≤ (m.1 44 0 (a1 + (5 : Int32)).toNatClampNeg)
  · rw [if_pos hc3] at h
    obtain ⟨hg4, h⟩ := am_ck_some h
    by_cases hc5 : (m.1 44 0 a1.toNatClampNeg) = (3 : Int32)
    · rw [if_pos hc5] at h
      cases h
      exact am_kp.rf
    · rw [if_neg hc5] at h
      obtain ⟨hg6, h⟩ := am_ck_some h
      obtain ⟨hg7, h⟩ := am_ck_some h
      obtain ⟨r8, h9, h⟩ := am_bd h
      have k_r8 : am_kp [(10, 38)] [(10, 39), (10, 40), (87, 0)] 0 m r8 := am_kp.tr am_kp.rf (am_kp.mono (kp_X10_reckonAll (m.1 44 0 (a1 + (3 : Int32)).toNatClampNeg) (m.1 44 0 (a1 + (4 : Int32)).toNatClampNeg) m r8 h9) rfl)
      by_cases hc10 : (r8.1 10 0 38) ≠ 0
      · rw [if_pos hc10] at h
        cases h
        exact (am_kp.sg k_r8 rfl)
      · rw [if_neg hc10] at h
        cases h
        exact (am_kp.sg k_r8 rfl)
  · rw [if_neg hc3] at h
    obtain ⟨hg11, h⟩ := am_ck_some h
    obtain ⟨hg12, h⟩ := am_ck_some h
    obtain ⟨r13, h14, h⟩ := am_bd h
    have k_r13 : am_kp [(10, 38)] [(10, 39), (10, 40), (87, 0)] 0 m r13 := am_kp.tr am_kp.rf (am_kp.mono (kp_X10_reckonAll (m.1 44 0 (a1 + (5 : Int32)).toNatClampNeg) (m.1 44 0 (a1 + (6 : Int32)).toNatClampNeg) m r13 h14) rfl)
    by_cases hc15 : (r13.1 10 0 38) ≠ 0
    · rw [if_pos hc15] at h
      cases h
      exact k_r13
    · rw [if_neg hc15] at h
      by_cases hc16 : (lg_cmp (r13.2.1 10 0 39) (0 : Int64)) ≠ 0
      · rw [if_pos hc16] at h
        obtain ⟨hg17, h⟩ := am_ck_some h
        by_cases hc18 : (r13.1 44 0 a1.toNatClampNeg) = (3 : Int32)
        · rw [if_pos hc18] at h
          cases h
          exact k_r13
        · rw [if_neg hc18] at h
          obtain ⟨hg19, h⟩ := am_ck_some h
          obtain ⟨hg20, h⟩ := am_ck_some h
          obtain ⟨r21, h22, h⟩ := am_bd h
          have k_r21 : am_kp [(10, 38)] [(10, 39), (10, 40), (87, 0)] 0 m r21 := am_kp.tr k_r13 (am_kp.mono (kp_X10_reckonAll (r13.1 44 0 (a1 + (3 : Int32)).toNatClampNeg) (r13.1 44 0 (a1 + (4 : Int32)).toNatClampNeg) r13 r21 h22) rfl)
          by_cases hc23 : (r21.1 10 0 38) ≠ 0
          · rw [if_pos hc23] at h
            cases h
            exact (am_kp.sg k_r21 rfl)
          · rw [if_neg hc23] at h
            cases h
            exact (am_kp.sg k_r21 rfl)
      · rw [if_neg hc16] at h
        cases h
        exact k_r13
-- X10_tells
set_option maxRecDepth 100000 in
theorem kl_X10_tells_180 {n : Nat} {x1 : Int32} {x7 : Int64} {x9 : Int32} {m : am_m} {t : Int64 × am_m} (h : lp_X10_tells_180 n x1 x7 x9 m = some t) : am_kp [(10, 34), (10, 38)] [(10, 39), (10, 40), (85, 0), (87, 0)] 0 m t.2 := by
  induction n generalizing x7 x9 m with
  | zero => cases h
  | succ n ih =>
    unfold lp_X10_tells_180 at h
    obtain ⟨hg15, h⟩ := am_ck_some h
    by_cases hc16 : (m.1 44 0 ((m.1 10 0 34) + (1 : Int32)).toNatClampNeg) ≤ x9
    · rw [if_pos hc16] at h
      cases h
      exact am_kp.rf
    · rw [if_neg hc16] at h
      obtain ⟨hg17, h⟩ := am_ck_some h
      obtain ⟨q23, h24, h⟩ := am_bd h
      have k_q23 : am_kp [(10, 34), (10, 38)] [(10, 39), (10, 40), (85, 0), (87, 0)] 0 m q23.2 := by
        have h := h24
        by_cases hc18 : (m.1 44 0 (((m.1 10 0 34) + (2 : Int32)) + ((8 : Int32) * x9)).toNatClampNeg) ≠ x1
        · rw [if_pos hc18] at h
          cases h
          exact am_kp.rf
        · rw [if_neg hc18] at h
          obtain ⟨r19, h20, h⟩ := am_bd h
          have k_r19 : am_kp [(10, 34), (10, 38)] [(10, 39), (10, 40), (85, 0), (87, 0)] 0 m r19.2 := am_kp.tr am_kp.rf (am_kp.mono (kp_X10_isSo (((m.1 10 0 34) + (2 : Int32)) + ((8 : Int32) * x9)) m r19 h20) rfl)
          by_cases hc21 : r19.1 = 0
          · rw [if_pos hc21] at h
            cases h
            exact k_r19
          · rw [if_neg hc21] at h
            cases h
            exact k_r19
      exact am_kp.tr k_q23 (ih h)
set_option maxRecDepth 100000 in
theorem kp_X10_tells (a1 : Int32) (a2 : Int32) (a3 : Int32) (a4 : Int32) (a5 : Int64) (m : am_m) (t : Int64 × am_m) (h : fn_X10_tells a1 a2 a3 a4 a5 m = some t) : am_kp [(10, 34), (10, 38)] [(10, 39), (10, 40), (85, 0), (87, 0)] 0 m t.2 := by
  unfold fn_X10_tells at h
  by_cases hc1 : (m.1 44 0 3) ≠ (-1 : Int32)
  · rw [if_pos hc1] at h
    obtain ⟨q5, h6, h⟩ := am_bd h
    obtain ⟨q12, h13, h⟩ := am_bd h
    obtain ⟨hg14, h⟩ := am_ck_some h
    obtain ⟨q25, h26, h⟩ := am_bd h
    have k_q25 : am_kp [(10, 34), (10, 38)] [(10, 39), (10, 40), (85, 0), (87, 0)] 0 m q25.2 := am_kp.tr (am_kp.sg (am_kp.sg (am_kp.sg (am_kp.sg (am_kp.sg (am_kp.sg (am_kp.sg (am_kp.sg (am_kp.si am_kp.rf rfl) rfl) rfl) rfl) rfl) rfl) rfl) rfl) rfl) (kl_X10_tells_180 (h := h26))
    cases h
    exact k_q25
  · rw [if_neg hc1] at h
    cases h
    exact am_kp.rf
-- X10_hungersBy
set_option maxRecDepth 100000 in
theorem kp_X10_hungersBy (a1 : Int32) (m : am_m) (t : Int32 × am_m) (h : fn_X10_hungersBy a1 m = some t) : am_kp [(10, 34), (10, 38)] [(10, 39), (10, 40), (85, 0), (87, 0)] 0 m t.2 := by
  unfold fn_X10_hungersBy at h
  obtain ⟨r1, h2, h⟩ := am_bd h
  have k_r1 : am_kp [(10, 34), (10, 38)] [(10, 39), (10, 40), (85, 0), (87, 0)] 0 m r1.2 := am_kp.tr am_kp.rf (am_kp.mono (kp_X10_tells 2 a1 (-1) (-1) 1 m r1 h2) rfl)
  obtain ⟨r3, h4, h⟩ := am_bd h
  cases h
  exact k_r1
-- X10_barsOff
set_option maxRecDepth 100000 in
theorem kp_X10_barsOff (a1 : Int32) (a2 : Int32) (m : am_m) (t : Int32 × am_m) (h : fn_X10_barsOff a1 a2 m = some t) : am_kp [(10, 34), (10, 38)] [(10, 39), (10, 40), (85, 0), (87, 0)] 0 m t.2 := by
  unfold fn_X10_barsOff at h
  obtain ⟨r1, h2, h⟩ := am_bd h
  have k_r1 : am_kp [(10, 34), (10, 38)] [(10, 39), (10, 40), (85, 0), (87, 0)] 0 m r1.2 := am_kp.tr am_kp.rf (am_kp.mono (kp_X10_tells 3 a1 a2 (-1) 0 m r1 h2) rfl)
  by_cases hc3 : (lg_cmp r1.1 (1 : Int64)) ≠ 0
  · rw [if_pos hc3] at h
    cases h
    exact k_r1
  · rw [if_neg hc3] at h
    cases h
    exact k_r1
-- X10_countsAs
set_option maxRecDepth 100000 in
theorem kp_X10_countsAs (a1 : Int32) (a2 : Int32) (m : am_m) (t : Int32 × am_m) (h : fn_X10_countsAs a1 a2 m = some t) : am_kp [(10, 34), (10, 38)] [(10, 39), (10, 40), (85, 0), (87, 0)] 0 m t.2 := by
  unfold fn_X10_countsAs at h
  obtain ⟨r1, h2, h⟩ := am_bd h
  obtain ⟨r3, h4, h⟩ := am_bd h
  have k_r3 : am_kp [(10, 34), (10, 38)] [(10, 39), (10, 40), (85, 0), (87, 0)] 0 m r3.2 := am_kp.tr am_kp.rf (am_kp.mono (kp_X10_tells 0 a1 a2 (-1) r1.toInt64 m r3 h4) rfl)
  obtain ⟨r5, h6, h⟩ := am_bd h
  cases h
  exact k_r3
-- X10_maySit
set_option maxRecDepth 100000 in
theorem kp_X10_maySit (a1 : Int32) (a2 : Int32) (m : am_m) (t : Int32 × am_m) (h : fn_X10_maySit a1 a2 m = some t) : am_kp [(10, 34), (10, 38)] [(10, 39), (10, 40), (85, 0), (87, 0)] 0 m t.2 := by
  unfold fn_X10_maySit at h
  obtain ⟨r1, h2, h⟩ := am_bd h
  have k_r1 : am_kp [(10, 34), (10, 38)] [(10, 39), (10, 40), (85, 0), (87, 0)] 0 m r1.2 := am_kp.tr am_kp.rf (am_kp.mono (kp_X10_countsAs a1 a2 m r1 h2) rfl)
  obtain ⟨r3, h4, h⟩ := am_bd h
  have k_r3 : am_kp [(10, 34), (10, 38)] [(10, 39), (10, 40), (85, 0), (87, 0)] 0 m r3.2 := am_kp.tr k_r1 (am_kp.mono (kp_X10_countsAs a2 a1 r1.2 r3 h4) rfl)
  by_cases hc5 : (r1.1 + r3.1) ≤ 0
  · rw [if_pos hc5] at h
    cases h
    exact k_r3
  · rw [if_neg hc5] at h
    obtain ⟨r6, h7, h⟩ := am_bd h
    have k_r6 : am_kp [(10, 34), (10, 38)] [(10, 39), (10, 40), (85, 0), (87, 0)] 0 m r6.2 := am_kp.tr k_r3 (am_kp.mono (kp_X10_barsOff a1 a2 r3.2 r6 h7) rfl)
    by_cases hc8 : r6.1 ≠ 0
    · rw [if_pos hc8] at h
      cases h
      exact k_r6
    · rw [if_neg hc8] at h
      obtain ⟨r9, h10, h⟩ := am_bd h
      have k_r9 : am_kp [(10, 34), (10, 38)] [(10, 39), (10, 40), (85, 0), (87, 0)] 0 m r9.2 := am_kp.tr k_r6 (am_kp.mono (kp_X10_barsOff a2 a1 r6.2 r9 h10) rfl)
      by_cases hc11 : r9.1 ≠ 0
      · rw [if_pos hc11] at h
        cases h
        exact k_r9
      · rw [if_neg hc11] at h
        cases h
        exact k_r9
-- X10_layMay
set_option maxRecDepth 100000 in
theorem kl_X10_layMay_14 {n : Nat} {x1 : Int32} {x2 : Int32} {m : am_m} {t : am_m} (h : lp_X10_layMay_14 n x1 x2 m = some t) : am_kp [(10, 34), (10, 38), (92, 0), (93, 0)] [(10, 39), (10, 40), (85, 0), (87, 0)] 0 m t := by
  induction n generalizing x2 m with
  | zero => cases h
  | succ n ih =>
    unfold lp_X10_layMay_14 at h
    by_cases hc2 : (m.1 44 0 0) ≤ x2
    · rw [if_pos hc2] at h
      cases h
      exact am_kp.rf
    · rw [if_neg hc2] at h
      obtain ⟨q7, h8, h⟩ := am_bd h
      have k_q7 : am_kp [(10, 34), (10, 38), (92, 0), (93, 0)] [(10, 39), (10, 40), (85, 0), (87, 0)] 0 m q7.2 := by
        have h := h8
        by_cases hc3 : x1 = x2
        · rw [if_pos hc3] at h
          cases h
          exact am_kp.rf
        · rw [if_neg hc3] at h
          obtain ⟨r4, h5, h⟩ := am_bd h
          have k_r4 : am_kp [(10, 34), (10, 38), (92, 0), (93, 0)] [(10, 39), (10, 40), (85, 0), (87, 0)] 0 m r4.2 := am_kp.tr am_kp.rf (am_kp.mono (kp_X10_maySit x1 x2 m r4 h5) rfl)
          by_cases hc6 : r4.1 = 0
          · rw [if_pos hc6] at h
            cases h
            exact k_r4
          · rw [if_neg hc6] at h
            cases h
            exact k_r4
      obtain ⟨hz10, h⟩ := am_gd_some h
      obtain ⟨hg9, h⟩ := am_ck_some h
      obtain ⟨q18, h19, h⟩ := am_bd h
      have k_q18 : am_kp [(10, 34), (10, 38), (92, 0), (93, 0)] [(10, 39), (10, 40), (85, 0), (87, 0)] 0 m q18.2 := by
        have h := h19
        by_cases hc11 : x1 = x2
        · rw [if_pos hc11] at h
          cases h
          exact (am_kp.si k_q7 rfl)
        · rw [if_neg hc11] at h
          obtain ⟨r12, h13, h⟩ := am_bd h
          have k_r12 : am_kp [(10, 34), (10, 38), (92, 0), (93, 0)] [(10, 39), (10, 40), (85, 0), (87, 0)] 0 m r12.2 := am_kp.tr (am_kp.si k_q7 rfl) (am_kp.mono (kp_X10_barsOff x1 x2 (am_si q7.2 92 0 (((7 : Int32) * x1) + x2).toNatClampNeg q7.1) r12 h13) rfl)
          by_cases hc14 : r12.1 ≠ 0
          · rw [if_pos hc14] at h
            cases h
            exact k_r12
          · rw [if_neg hc14] at h
            obtain ⟨r15, h16, h⟩ := am_bd h
            have k_r15 : am_kp [(10, 34), (10, 38), (92, 0), (93, 0)] [(10, 39), (10, 40), (85, 0), (87, 0)] 0 m r15.2 := am_kp.tr k_r12 (am_kp.mono (kp_X10_barsOff x2 x1 r12.2 r15 h16) rfl)
            by_cases hc17 : r15.1 = 0
            · rw [if_pos hc17] at h
              cases h
              exact k_r15
            · rw [if_neg hc17] at h
              cases h
              exact k_r15
      obtain ⟨hz21, h⟩ := am_gd_some h
      obtain ⟨hg20, h⟩ := am_ck_some h
      exact am_kp.tr (am_kp.si k_q18 rfl) (ih h)
set_option maxRecDepth 100000 in
theorem kl_X10_layMay_2 {n : Nat} {x1 : Int32} {m : am_m} {t : am_m} (h : lp_X10_layMay_2 n x1 m = some t) : am_kp [(10, 34), (10, 38), (92, 0), (93, 0)] [(10, 39), (10, 40), (85, 0), (87, 0)] 0 m t := by
  induction n generalizing x1 m with
  | zero => cases h
  | succ n ih =>
    unfold lp_X10_layMay_2 at h
    by_cases hc1 : (m.1 44 0 0) ≤ x1
    · rw [if_pos hc1] at h
      cases h
      exact am_kp.rf
    · rw [if_neg hc1] at h
      obtain ⟨q22, h23, h⟩ := am_bd h
      have k_q22 : am_kp [(10, 34), (10, 38), (92, 0), (93, 0)] [(10, 39), (10, 40), (85, 0), (87, 0)] 0 m q22 := am_kp.tr am_kp.rf (kl_X10_layMay_14 (h := h23))
      exact am_kp.tr k_q22 (ih h)
set_option maxRecDepth 100000 in
theorem kp_X10_layMay  (m : am_m) (t : am_m) (h : fn_X10_layMay  m = some t) : am_kp [(10, 34), (10, 38), (92, 0), (93, 0)] [(10, 39), (10, 40), (85, 0), (87, 0)] 0 m t := by
  unfold fn_X10_layMay at h
  obtain ⟨q24, h25, h⟩ := am_bd h
  have k_q24 : am_kp [(10, 34), (10, 38), (92, 0), (93, 0)] [(10, 39), (10, 40), (85, 0), (87, 0)] 0 m q24 := am_kp.tr am_kp.rf (kl_X10_layMay_2 (h := h25))
  cases h
  exact k_q24
-- X10_of
set_option maxRecDepth 100000 in
theorem kp_X10_of (a1 : Int32) (a2 : Int32) (m : am_m) (t : Int32 × am_m) (h : fn_X10_of a1 a2 m = some t) : am_kp [(10, 0), (10, 34), (10, 38), (92, 0), (93, 0)] [(10, 39), (10, 40), (85, 0), (87, 0)] 0 m t.2 := by
  unfold fn_X10_of at h
  obtain ⟨r1, h2, h⟩ := am_bd h
  by_cases hc3 : r1 ≠ 0
  · rw [if_pos hc3] at h
    by_cases hs4 : a2 = 0
    · rw [if_pos hs4] at h
      obtain ⟨hg5, h⟩ := am_ck_some h
      cases h
      exact (am_kp.si am_kp.rf rfl)
    · rw [if_neg hs4] at h
      by_cases hs6 : a2 = 1
      · rw [if_pos hs6] at h
        obtain ⟨r7, h8, h⟩ := am_bd h
        have k_r7 : am_kp [(10, 0), (10, 34), (10, 38), (92, 0), (93, 0)] [(10, 39), (10, 40), (85, 0), (87, 0)] 0 m r7 := am_kp.tr (am_kp.si am_kp.rf rfl) (am_kp.mono (kp_X10_layMay  (am_si m 10 0 0 0) r7 h8) rfl)
        obtain ⟨r9, h10, h⟩ := am_bd h
        cases h
        exact k_r7
      · rw [if_neg hs6] at h
        by_cases hs11 : a2 = 2
        · rw [if_pos hs11] at h
          obtain ⟨r12, h13, h⟩ := am_bd h
          have k_r12 : am_kp [(10, 0), (10, 34), (10, 38), (92, 0), (93, 0)] [(10, 39), (10, 40), (85, 0), (87, 0)] 0 m r12.2 := am_kp.tr (am_kp.si am_kp.rf rfl) (am_kp.mono (kp_X10_hungersBy a1 (am_si m 10 0 0 0) r12 h13) rfl)
          cases h
          exact k_r12
        · rw [if_neg hs11] at h
          by_cases hs14 : a2 = 3
          · rw [if_pos hs14] at h
            obtain ⟨r15, h16, h⟩ := am_bd h
            cases h
            exact (am_kp.si am_kp.rf rfl)
          · rw [if_neg hs14] at h
            by_cases hs17 : a2 = 4
            · rw [if_pos hs17] at h
              obtain ⟨r18, h19, h⟩ := am_bd h
              cases h
              exact (am_kp.si am_kp.rf rfl)
            · rw [if_neg hs17] at h
              cases h
              exact (am_kp.si am_kp.rf rfl)
  · rw [if_neg hc3] at h
    cases h
    exact (am_kp.si am_kp.rf rfl)
-- X10_asks
set_option maxRecDepth 100000 in
theorem kp_X10_asks (a1 : Int32) (a2 : Int32) (a3 : Int32) (m : am_m) (t : Int32 × am_m) (h : fn_X10_asks a1 a2 a3 m = some t) : am_kp [(10, 0), (10, 34), (10, 38)] [(10, 39), (10, 40), (85, 0), (87, 0)] 0 m t.2 := by
  unfold fn_X10_asks at h
  obtain ⟨r1, h2, h⟩ := am_bd h
  by_cases hc3 : r1 = 0
  · rw [if_pos hc3] at h
    cases h
    exact (am_kp.si am_kp.rf rfl)
  · rw [if_neg hc3] at h
    obtain ⟨r4, h5, h⟩ := am_bd h
    by_cases hc6 : r4 = 0
    · rw [if_pos hc6] at h
      cases h
      exact (am_kp.si am_kp.rf rfl)
    · rw [if_neg hc6] at h
      by_cases hc7 : a1 ≠ a2
      · rw [if_pos hc7] at h
        by_cases hs8 : a3 = 0
        · rw [if_pos hs8] at h
          obtain ⟨r9, h10, h⟩ := am_bd h
          cases h
          exact (am_kp.si am_kp.rf rfl)
        · rw [if_neg hs8] at h
          by_cases hs11 : a3 = 1
          · rw [if_pos hs11] at h
            obtain ⟨r12, h13, h⟩ := am_bd h
            by_cases hc14 : r12 ≠ 0
            · rw [if_pos hc14] at h
              obtain ⟨hg15, h⟩ := am_ck_some h
              cases h
              exact (am_kp.si am_kp.rf rfl)
            · rw [if_neg hc14] at h
              cases h
              exact (am_kp.si am_kp.rf rfl)
          · rw [if_neg hs11] at h
            by_cases hs16 : a3 = 2
            · rw [if_pos hs16] at h
              obtain ⟨r17, h18, h⟩ := am_bd h
              have k_r17 : am_kp [(10, 0), (10, 34), (10, 38)] [(10, 39), (10, 40), (85, 0), (87, 0)] 0 m r17.2 := am_kp.tr (am_kp.si am_kp.rf rfl) (am_kp.mono (kp_X10_countsAs a1 a2 (am_si m 10 0 0 0) r17 h18) rfl)
              cases h
              exact k_r17
            · rw [if_neg hs16] at h
              by_cases hs19 : a3 = 3
              · rw [if_pos hs19] at h
                obtain ⟨r20, h21, h⟩ := am_bd h
                have k_r20 : am_kp [(10, 0), (10, 34), (10, 38)] [(10, 39), (10, 40), (85, 0), (87, 0)] 0 m r20.2 := am_kp.tr (am_kp.si am_kp.rf rfl) (am_kp.mono (kp_X10_barsOff a1 a2 (am_si m 10 0 0 0) r20 h21) rfl)
                by_cases hc22 : r20.1 = 0
                · rw [if_pos hc22] at h
                  cases h
                  exact k_r20
                · rw [if_neg hc22] at h
                  cases h
                  exact k_r20
              · rw [if_neg hs19] at h
                by_cases hs23 : a3 = 4
                · rw [if_pos hs23] at h
                  obtain ⟨r24, h25, h⟩ := am_bd h
                  have k_r24 : am_kp [(10, 0), (10, 34), (10, 38)] [(10, 39), (10, 40), (85, 0), (87, 0)] 0 m r24.2 := am_kp.tr (am_kp.si am_kp.rf rfl) (am_kp.mono (kp_X10_maySit a1 a2 (am_si m 10 0 0 0) r24 h25) rfl)
                  by_cases hc26 : r24.1 = 0
                  · rw [if_pos hc26] at h
                    cases h
                    exact k_r24
                  · rw [if_neg hc26] at h
                    cases h
                    exact k_r24
                · rw [if_neg hs23] at h
                  cases h
                  exact (am_kp.si am_kp.rf rfl)
      · rw [if_neg hc7] at h
        cases h
        exact (am_kp.si am_kp.rf rfl)
-- X10_terms
set_option maxRecDepth 100000 in
theorem kp_X10_terms (a1 : Int32) (a2 : Int32) (m : am_m) (t : Int32 × am_m) (h : fn_X10_terms a1 a2 m = some t) : am_kp [(10, 0), (10, 1), (10, 8), (43, 0), (44, 0)] [] 0 m t.2 := by
  unfold fn_X10_terms at h
  obtain ⟨q11, h12, h⟩ := am_bd h
  by_cases hc13 : q11 ≠ 0
  · rw [if_pos hc13] at h
    obtain ⟨r14, h15, h⟩ := am_bd h
    have k_r14 : am_kp [(10, 0), (10, 1), (10, 8), (43, 0), (44, 0)] [] 0 m r14.2 := am_kp.tr (am_kp.si (am_kp.si am_kp.rf rfl) rfl) (am_kp.mono (kp_X10_change ((4 : Int32) + a1) a2 (am_si (am_si m 10 0 0 0) 10 0 8 0) r14 h15) rfl)
    cases h
    exact k_r14
  · rw [if_neg hc13] at h
    obtain ⟨r16, h17, h⟩ := am_bd h
    have k_r16 : am_kp [(10, 0), (10, 1), (10, 8), (43, 0), (44, 0)] [] 0 m r16.2 := am_kp.tr (am_kp.si am_kp.rf rfl) (am_kp.mono (kp_X10_tell (-1) (am_si m 10 0 0 0) r16 h17) rfl)
    cases h
    exact k_r16
-- X10_setHarm
set_option maxRecDepth 100000 in
theorem kp_X10_setHarm (a1 : Int32) (a2 : Int32) (a3 : Int32) (m : am_m) (t : am_m) (h : fn_X10_setHarm a1 a2 a3 m = some t) : am_kp [(44, 0)] [] 0 m t := by
  unfold fn_X10_setHarm at h
  obtain ⟨hg1, h⟩ := am_ck_some h
  obtain ⟨hg2, h⟩ := am_ck_some h
  cases h
  exact (am_kp.si (am_kp.si am_kp.rf rfl) rfl)
-- X10_row
set_option maxRecDepth 100000 in
theorem kl_X10_row_35 {n : Nat} {x1 : Int32} {x2 : Int32} {x3 : Int32} {m : am_m} {t : Int32 × am_m} (h : lp_X10_row_35 n x1 x2 x3 m = some t) : am_kp [(10, 0), (10, 1), (10, 8), (10, 11), (10, 13), (43, 0), (44, 0)] [] 0 m t.2 := by
  induction n generalizing x2 x3 m with
  | zero => cases h
  | succ n ih =>
    unfold lp_X10_row_35 at h
    by_cases hc2 : x1 ≤ x3
    · rw [if_pos hc2] at h
      cases h
      exact am_kp.rf
    · rw [if_neg hc2] at h
      obtain ⟨q24, h25, h⟩ := am_bd h
      have k_q24 : am_kp [(10, 0), (10, 1), (10, 8), (10, 11), (10, 13), (43, 0), (44, 0)] [] 0 m q24.2 := by
        have h := h25
        by_cases hc3 : x1 ≤ (x3 + (2 : Int32))
        · rw [if_pos hc3] at h
          cases h
          exact (am_kp.si am_kp.rf rfl)
        · rw [if_neg hc3] at h
          obtain ⟨hg4, h⟩ := am_ck_some h
          obtain ⟨r5, h6, h⟩ := am_bd h
          by_cases hc7 : r5 = 0
          · rw [if_pos hc7] at h
            cases h
            exact (am_kp.si am_kp.rf rfl)
          · rw [if_neg hc7] at h
            obtain ⟨hg8, h⟩ := am_ck_some h
            obtain ⟨r9, h10, h⟩ := am_bd h
            by_cases hc11 : r9 = 0
            · rw [if_pos hc11] at h
              cases h
              exact (am_kp.si am_kp.rf rfl)
            · rw [if_neg hc11] at h
              obtain ⟨hg12, h⟩ := am_ck_some h
              obtain ⟨hg13, h⟩ := am_ck_some h
              by_cases hc14 : (m.1 50 0 x3.toNatClampNeg) = (m.1 50 0 (x3 + (1 : Int32)).toNatClampNeg)
              · rw [if_pos hc14] at h
                cases h
                exact (am_kp.si am_kp.rf rfl)
              · rw [if_neg hc14] at h
                obtain ⟨hg15, h⟩ := am_ck_some h
                obtain ⟨r16, h17, h⟩ := am_bd h
                by_cases hc18 : r16 = 0
                · rw [if_pos hc18] at h
                  cases h
                  exact (am_kp.si am_kp.rf rfl)
                · rw [if_neg hc18] at h
                  obtain ⟨hg19, h⟩ := am_ck_some h
                  obtain ⟨hg20, h⟩ := am_ck_some h
                  obtain ⟨hg21, h⟩ := am_ck_some h
                  obtain ⟨r22, h23, h⟩ := am_bd h
                  have k_r22 : am_kp [(10, 0), (10, 1), (10, 8), (10, 11), (10, 13), (43, 0), (44, 0)] [] 0 m r22 := am_kp.tr am_kp.rf (am_kp.mono (kp_X10_setHarm (m.1 50 0 x3.toNatClampNeg) (m.1 50 0 (x3 + (1 : Int32)).toNatClampNeg) (m.1 50 0 (x3 + (2 : Int32)).toNatClampNeg) m r22 h23) rfl)
                  cases h
                  exact k_r22
      exact am_kp.tr k_q24 (ih h)
set_option maxRecDepth 100000 in
theorem kp_X10_row  (m : am_m) (t : Int32 × am_m) (h : fn_X10_row  m = some t) : am_kp [(10, 0), (10, 1), (10, 8), (10, 11), (10, 13), (43, 0), (44, 0)] [] 0 m t.2 := by
  unfold fn_X10_row at h
  by_cases hc1 : (m.1 10 0 13) ≠ 0
  · rw [if_pos hc1] at h
    obtain ⟨q26, h27, h⟩ := am_bd h
    have k_q26 : am_kp [(10, 0), (10, 1), (10, 8), (10, 11), (10, 13), (43, 0), (44, 0)] [] 0 m q26.2 := am_kp.tr (am_kp.si (am_kp.si (am_kp.si am_kp.rf rfl) rfl) rfl) (kl_X10_row_35 (h := h27))
    obtain ⟨r28, h29, h⟩ := am_bd h
    have k_r28 : am_kp [(10, 0), (10, 1), (10, 8), (10, 11), (10, 13), (43, 0), (44, 0)] [] 0 m r28.2 := am_kp.tr k_q26 (am_kp.mono (kp_X10_lasting q26.1 q26.2 r28 h29) rfl)
    cases h
    exact k_r28
  · rw [if_neg hc1] at h
    obtain ⟨r30, h31, h⟩ := am_bd h
    have k_r30 : am_kp [(10, 0), (10, 1), (10, 8), (10, 11), (10, 13), (43, 0), (44, 0)] [] 0 m r30.2 := am_kp.tr (am_kp.si (am_kp.si am_kp.rf rfl) rfl) (am_kp.mono (kp_X10_tell (-6) (am_si (am_si m 10 0 0 0) 10 0 13 0) r30 h31) rfl)
    cases h
    exact k_r30
-- X10_crumbs
set_option maxRecDepth 100000 in
theorem kp_X10_crumbs  (m : am_m) (t : Int32 × am_m) (h : fn_X10_crumbs  m = some t) : am_kp [(10, 0)] [] 0 m t.2 := by
  unfold fn_X10_crumbs at h
  cases h
  exact (am_kp.si am_kp.rf rfl)
-- X10_four
set_option maxRecDepth 100000 in
theorem kl_X10_four_3 {n : Nat} {x1 : Int32} {x2 : Int32} {m : am_m} {t : am_m} (h : lp_X10_four_3 n x1 x2 m = some t) : am_kp [(10, 13), (50, 0)] [] 0 m t := by
  induction n generalizing x2 m with
  | zero => cases h
  | succ n ih =>
    unfold lp_X10_four_3 at h
    by_cases hc1 : x2 < 0
    · rw [if_pos hc1] at h
      cases h
      exact am_kp.rf
    · rw [if_neg hc1] at h
      obtain ⟨hg2, h⟩ := am_ck_some h
      exact am_kp.tr (am_kp.si (am_kp.si am_kp.rf rfl) rfl) (ih h)
set_option maxRecDepth 100000 in
theorem kp_X10_four (a1 : Int32) (m : am_m) (t : am_m) (h : fn_X10_four a1 m = some t) : am_kp [(10, 13), (50, 0)] [] 0 m t := by
  unfold fn_X10_four at h
  obtain ⟨q3, h4, h⟩ := am_bd h
  have k_q3 : am_kp [(10, 13), (50, 0)] [] 0 m q3 := am_kp.tr am_kp.rf (kl_X10_four_3 (h := h4))
  cases h
  exact k_q3
-- X10_feed
set_option maxRecDepth 100000 in
theorem kp_X10_feed (a1 : Int32) (a2 : Int32) (a3 : Int32) (a4 : Int32) (a5 : Int32) (m : am_m) (t : Int32 × am_m) (h : fn_X10_feed a1 a2 a3 a4 a5 m = some t) : am_kp [(10, 0), (10, 13), (50, 0)] [] 0 m t.2 := by
  unfold fn_X10_feed at h
  by_cases hc1 : ((m.1 10 0 13) + (20 : Int32)) ≤ (400 : Int32)
  · rw [if_pos hc1] at h
    obtain ⟨r2, h3, h⟩ := am_bd h
    have k_r2 : am_kp [(10, 0), (10, 13), (50, 0)] [] 0 m r2 := am_kp.tr (am_kp.si am_kp.rf rfl) (am_kp.mono (kp_X10_four a1 (am_si m 10 0 0 0) r2 h3) rfl)
    obtain ⟨r4, h5, h⟩ := am_bd h
    have k_r4 : am_kp [(10, 0), (10, 13), (50, 0)] [] 0 m r4 := am_kp.tr k_r2 (am_kp.mono (kp_X10_four a2 r2 r4 h5) rfl)
    obtain ⟨r6, h7, h⟩ := am_bd h
    have k_r6 : am_kp [(10, 0), (10, 13), (50, 0)] [] 0 m r6 := am_kp.tr k_r4 (am_kp.mono (kp_X10_four a3 r4 r6 h7) rfl)
    obtain ⟨r8, h9, h⟩ := am_bd h
    have k_r8 : am_kp [(10, 0), (10, 13), (50, 0)] [] 0 m r8 := am_kp.tr k_r6 (am_kp.mono (kp_X10_four a4 r6 r8 h9) rfl)
    obtain ⟨r10, h11, h⟩ := am_bd h
    have k_r10 : am_kp [(10, 0), (10, 13), (50, 0)] [] 0 m r10 := am_kp.tr k_r8 (am_kp.mono (kp_X10_four a5 r8 r10 h11) rfl)
    cases h
    exact k_r10
  · rw [if_neg hc1] at h
    cases h
    exact (am_kp.si am_kp.rf rfl)
-- X10_end
set_option maxRecDepth 100000 in
theorem kp_X10_end (a1 : Int32) (m : am_m) (t : Int32 × am_m) (h : fn_X10_end a1 m = some t) : am_kp [(10, 0), (10, 13)] [] 0 m t.2 := by
  unfold fn_X10_end at h
  by_cases hc1 : a1 < 0
  · rw [if_pos hc1] at h
    cases h
    exact (am_kp.si am_kp.rf rfl)
  · rw [if_neg hc1] at h
    by_cases hc2 : a1 ≤ (m.1 10 0 13)
    · rw [if_pos hc2] at h
      cases h
      exact (am_kp.si (am_kp.si am_kp.rf rfl) rfl)
    · rw [if_neg hc2] at h
      cases h
      exact (am_kp.si am_kp.rf rfl)
-- X10_next
set_option maxRecDepth 100000 in
theorem kl_X10_next_8 {n : Nat} {m : am_m} {t : am_m} (h : lp_X10_next_8 n  m = some t) : am_kp [(10, 14), (10, 15), (10, 16)] [(10, 17)] 0 m t := by
  induction n generalizing m with
  | zero => cases h
  | succ n ih =>
    unfold lp_X10_next_8 at h
    by_cases hc1 : (m.1 10 0 13) ≤ (m.1 10 0 14)
    · rw [if_pos hc1] at h
      cases h
      exact am_kp.rf
    · rw [if_neg hc1] at h
      obtain ⟨hg2, h⟩ := am_ck_some h
      by_cases hc3 : (m.1 50 0 (m.1 10 0 14).toNatClampNeg) ≠ (32 : Int32)
      · rw [if_pos hc3] at h
        cases h
        exact am_kp.rf
      · rw [if_neg hc3] at h
        exact am_kp.tr (am_kp.si am_kp.rf rfl) (ih h)
set_option maxRecDepth 100000 in
theorem kl_X10_next_149 {n : Nat} {m : am_m} {t : am_m} (h : lp_X10_next_149 n  m = some t) : am_kp [(10, 14), (10, 15), (10, 16)] [(10, 17)] 0 m t := by
  induction n generalizing m with
  | zero => cases h
  | succ n ih =>
    unfold lp_X10_next_149 at h
    by_cases hc21 : (m.1 10 0 16) ≠ (1 : Int32)
    · rw [if_pos hc21] at h
      cases h
      exact am_kp.rf
    · rw [if_neg hc21] at h
      by_cases hc22 : (m.1 10 0 13) ≤ (m.1 10 0 15)
      · rw [if_pos hc22] at h
        cases h
        exact am_kp.rf
      · rw [if_neg hc22] at h
        obtain ⟨hg23, h⟩ := am_ck_some h
        obtain ⟨r24, h25, h⟩ := am_bd h
        by_cases hc26 : r24 = 0
        · rw [if_pos hc26] at h
          cases h
          exact am_kp.rf
        · rw [if_neg hc26] at h
          obtain ⟨q29, h30, h⟩ := am_bd h
          exact am_kp.tr (am_kp.si (am_kp.sg am_kp.rf rfl) rfl) (ih h)
set_option maxRecDepth 100000 in
theorem kl_X10_next_243 {n : Nat} {m : am_m} {t : am_m} (h : lp_X10_next_243 n  m = some t) : am_kp [(10, 14), (10, 15), (10, 16)] [(10, 17)] 0 m t := by
  induction n generalizing m with
  | zero => cases h
  | succ n ih =>
    unfold lp_X10_next_243 at h
    by_cases hc33 : (m.1 10 0 16) ≠ (2 : Int32)
    · rw [if_pos hc33] at h
      cases h
      exact am_kp.rf
    · rw [if_neg hc33] at h
      by_cases hc34 : (m.1 10 0 13) ≤ (m.1 10 0 15)
      · rw [if_pos hc34] at h
        cases h
        exact am_kp.rf
      · rw [if_neg hc34] at h
        obtain ⟨hg35, h⟩ := am_ck_some h
        obtain ⟨r36, h37, h⟩ := am_bd h
        by_cases hc38 : r36 = 0
        · rw [if_pos hc38] at h
          cases h
          exact am_kp.rf
        · rw [if_neg hc38] at h
          obtain ⟨q41, h42, h⟩ := am_bd h
          exact am_kp.tr (am_kp.si (am_kp.sg am_kp.rf rfl) rfl) (ih h)
set_option maxRecDepth 100000 in
theorem kp_X10_next  (m : am_m) (t : am_m) (h : fn_X10_next  m = some t) : am_kp [(10, 14), (10, 15), (10, 16)] [(10, 17)] 0 m t := by
  unfold fn_X10_next at h
  obtain ⟨q4, h5, h⟩ := am_bd h
  have k_q4 : am_kp [(10, 14), (10, 15), (10, 16)] [(10, 17)] 0 m q4 := am_kp.tr (am_kp.si am_kp.rf rfl) (kl_X10_next_8 (h := h5))
  obtain ⟨q15, h16, h⟩ := am_bd h
  obtain ⟨q19, h20, h⟩ := am_bd h
  have k_q19 : am_kp [(10, 14), (10, 15), (10, 16)] [(10, 17)] 0 m q19 := by
    have h := h20
    by_cases hc17 : q15 ≠ (3 : Int32)
    · rw [if_pos hc17] at h
      cases h
      exact (am_kp.si (am_kp.sg (am_kp.si k_q4 rfl) rfl) rfl)
    · rw [if_neg hc17] at h
      obtain ⟨hg18, h⟩ := am_ck_some h
      cases h
      exact (am_kp.si (am_kp.sg (am_kp.si (am_kp.sg (am_kp.si k_q4 rfl) rfl) rfl) rfl) rfl)
  obtain ⟨q31, h32, h⟩ := am_bd h
  have k_q31 : am_kp [(10, 14), (10, 15), (10, 16)] [(10, 17)] 0 m q31 := am_kp.tr k_q19 (kl_X10_next_149 (h := h32))
  obtain ⟨q43, h44, h⟩ := am_bd h
  have k_q43 : am_kp [(10, 14), (10, 15), (10, 16)] [(10, 17)] 0 m q43 := am_kp.tr k_q31 (kl_X10_next_243 (h := h44))
  cases h
  exact k_q43
-- X10_begin
set_option maxRecDepth 100000 in
theorem kp_X10_begin  (m : am_m) (t : am_m) (h : fn_X10_begin  m = some t) : am_kp [(10, 14), (10, 15), (10, 16), (10, 18), (10, 19)] [(10, 17)] 0 m t := by
  unfold fn_X10_begin at h
  obtain ⟨r1, h2, h⟩ := am_bd h
  have k_r1 : am_kp [(10, 14), (10, 15), (10, 16), (10, 18), (10, 19)] [(10, 17)] 0 m r1 := am_kp.tr (am_kp.si (am_kp.si (am_kp.si am_kp.rf rfl) rfl) rfl) (am_kp.mono (kp_X10_next  (am_si (am_si (am_si m 10 0 15 0) 10 0 19 0) 10 0 18 (-1)) r1 h2) rfl)
  cases h
  exact k_r1
-- X10_must
set_option maxRecDepth 100000 in
theorem kp_X10_must (a1 : Int32) (m : am_m) (t : am_m) (h : fn_X10_must a1 m = some t) : am_kp [(10, 14), (10, 15), (10, 16), (10, 18), (10, 19)] [(10, 17)] 0 m t := by
  unfold fn_X10_must at h
  obtain ⟨q3, h4, h⟩ := am_bd h
  have k_q3 : am_kp [(10, 14), (10, 15), (10, 16), (10, 18), (10, 19)] [(10, 17)] 0 m q3 := by
    have h := h4
    by_cases hc1 : (m.1 10 0 19) ≠ 0
    · rw [if_pos hc1] at h
      cases h
      exact am_kp.rf
    · rw [if_neg hc1] at h
      by_cases hc2 : a1 ≠ 0
      · rw [if_pos hc2] at h
        cases h
        exact am_kp.rf
      · rw [if_neg hc2] at h
        cases h
        exact (am_kp.si (am_kp.si am_kp.rf rfl) rfl)
  by_cases hc5 : (q3.1 10 0 19) ≠ 0
  · rw [if_pos hc5] at h
    cases h
    exact k_q3
  · rw [if_neg hc5] at h
    obtain ⟨r6, h7, h⟩ := am_bd h
    have k_r6 : am_kp [(10, 14), (10, 15), (10, 16), (10, 18), (10, 19)] [(10, 17)] 0 m r6 := am_kp.tr k_q3 (am_kp.mono (kp_X10_next  q3 r6 h7) rfl)
    cases h
    exact k_r6
-- X10_number
set_option maxRecDepth 100000 in
theorem kp_X10_number (a1 : Int64) (a2 : Int64) (m : am_m) (t : Int32 × am_m) (h : fn_X10_number a1 a2 m = some t) : am_kp [(10, 14), (10, 15), (10, 16), (10, 18), (10, 19)] [(10, 17)] 0 m t.2 := by
  unfold fn_X10_number at h
  obtain ⟨q5, h6, h⟩ := am_bd h
  obtain ⟨r7, h8, h⟩ := am_bd h
  have k_r7 : am_kp [(10, 14), (10, 15), (10, 16), (10, 18), (10, 19)] [(10, 17)] 0 m r7 := am_kp.tr am_kp.rf (am_kp.mono (kp_X10_must q5 m r7 h8) rfl)
  cases h
  exact k_r7
-- X10_fault
set_option maxRecDepth 100000 in
theorem kp_X10_fault  (m : am_m) (t : Int32 × am_m) (h : fn_X10_fault  m = some t) : am_kp [(10, 0)] [] 0 m t.2 := by
  unfold fn_X10_fault at h
  cases h
  exact (am_kp.si am_kp.rf rfl)
-- X10_emit
set_option maxRecDepth 100000 in
theorem kp_X10_emit (a1 : Int32) (a2 : Int32) (m : am_m) (t : am_m) (h : fn_X10_emit a1 a2 m = some t) : am_kp [(10, 23), (52, 0), (53, 0)] [] 0 m t := by
  unfold fn_X10_emit at h
  obtain ⟨hg1, h⟩ := am_ck_some h
  obtain ⟨hg2, h⟩ := am_ck_some h
  cases h
  exact (am_kp.si (am_kp.si (am_kp.si am_kp.rf rfl) rfl) rfl)
-- X10_push
set_option maxRecDepth 100000 in
theorem kp_X10_push (a1 : Int32) (a2 : Int32) (m : am_m) (t : am_m) (h : fn_X10_push a1 a2 m = some t) : am_kp [(10, 29), (54, 0), (55, 0)] [] 0 m t := by
  unfold fn_X10_push at h
  obtain ⟨hg1, h⟩ := am_ck_some h
  obtain ⟨hg2, h⟩ := am_ck_some h
  cases h
  exact (am_kp.si (am_kp.si (am_kp.si am_kp.rf rfl) rfl) rfl)
-- X10_settle
set_option maxRecDepth 100000 in
theorem kl_X10_settle_0 {n : Nat} {x1 : Int32} {m : am_m} {t : am_m} (h : lp_X10_settle_0 n x1 m = some t) : am_kp [(10, 23), (10, 29), (52, 0), (53, 0)] [] 0 m t := by
  induction n generalizing m with
  | zero => cases h
  | succ n ih =>
    unfold lp_X10_settle_0 at h
    by_cases hc1 : (m.1 10 0 29) ≤ 0
    · rw [if_pos hc1] at h
      cases h
      exact am_kp.rf
    · rw [if_neg hc1] at h
      obtain ⟨hg2, h⟩ := am_ck_some h
      obtain ⟨r3, h4, h⟩ := am_bd h
      by_cases hc5 : r3 < x1
      · rw [if_pos hc5] at h
        cases h
        exact am_kp.rf
      · rw [if_neg hc5] at h
        obtain ⟨hg6, h⟩ := am_ck_some h
        by_cases hc7 : (m.1 54 0 ((m.1 10 0 29) - (1 : Int32)).toNatClampNeg) = (29 : Int32)
        · rw [if_pos hc7] at h
          obtain ⟨hg8, h⟩ := am_ck_some h
          obtain ⟨hg9, h⟩ := am_ck_some h
          exact am_kp.tr (am_kp.si (am_kp.si am_kp.rf rfl) rfl) (ih h)
        · rw [if_neg hc7] at h
          obtain ⟨hg10, h⟩ := am_ck_some h
          by_cases hc11 : (m.1 54 0 ((m.1 10 0 29) - (1 : Int32)).toNatClampNeg) ≠ (30 : Int32)
          · rw [if_pos hc11] at h
            obtain ⟨hg12, h⟩ := am_ck_some h
            obtain ⟨r13, h14, h⟩ := am_bd h
            have k_r13 : am_kp [(10, 23), (10, 29), (52, 0), (53, 0)] [] 0 m r13 := am_kp.tr (am_kp.si am_kp.rf rfl) (am_kp.mono (kp_X10_emit (m.1 54 0 ((m.1 10 0 29) - (1 : Int32)).toNatClampNeg) 0 (am_si m 10 0 29 ((m.1 10 0 29) - (1 : Int32))) r13 h14) rfl)
            exact am_kp.tr k_r13 (ih h)
          · rw [if_neg hc11] at h
            obtain ⟨hg15, h⟩ := am_ck_some h
            obtain ⟨hg16, h⟩ := am_ck_some h
            exact am_kp.tr (am_kp.si (am_kp.si am_kp.rf rfl) rfl) (ih h)
set_option maxRecDepth 100000 in
theorem kp_X10_settle (a1 : Int32) (m : am_m) (t : am_m) (h : fn_X10_settle a1 m = some t) : am_kp [(10, 23), (10, 29), (52, 0), (53, 0)] [] 0 m t := by
  unfold fn_X10_settle at h
  obtain ⟨q17, h18, h⟩ := am_bd h
  have k_q17 : am_kp [(10, 23), (10, 29), (52, 0), (53, 0)] [] 0 m q17 := am_kp.tr am_kp.rf (kl_X10_settle_0 (h := h18))
  cases h
  exact k_q17
-- X10_openBracket
set_option maxRecDepth 100000 in
theorem kp_X10_openBracket (a1 : Int32) (m : am_m) (t : am_m) (h : fn_X10_openBracket a1 m = some t) : am_kp [(10, 14), (10, 15), (10, 16), (10, 18), (10, 19), (10, 29), (10, 30), (54, 0), (55, 0)] [(10, 17)] 0 m t := by
  unfold fn_X10_openBracket at h
  obtain ⟨r2, h3, h⟩ := am_bd h
  have k_r2 : am_kp [(10, 14), (10, 15), (10, 16), (10, 18), (10, 19), (10, 29), (10, 30), (54, 0), (55, 0)] [(10, 17)] 0 m r2 := am_kp.tr am_kp.rf (am_kp.mono (kp_X10_must (if (8 : Int32) ≤ (m.1 10 0 30) then (0 : Int32) else (1 : Int32)) m r2 h3) rfl)
  by_cases hc4 : (r2.1 10 0 19) ≠ 0
  · rw [if_pos hc4] at h
    cases h
    exact k_r2
  · rw [if_neg hc4] at h
    obtain ⟨r5, h6, h⟩ := am_bd h
    have k_r5 : am_kp [(10, 14), (10, 15), (10, 16), (10, 18), (10, 19), (10, 29), (10, 30), (54, 0), (55, 0)] [(10, 17)] 0 m r5 := am_kp.tr (am_kp.si k_r2 rfl) (am_kp.mono (kp_X10_push a1 0 (am_si r2 10 0 30 ((r2.1 10 0 30) + (1 : Int32))) r5 h6) rfl)
    cases h
    exact k_r5
-- X10_leaf
set_option maxRecDepth 100000 in
theorem kp_X10_leaf (a1 : Int32) (a2 : Int32) (a3 : Int32) (m : am_m) (t : am_m) (h : fn_X10_leaf a1 a2 a3 m = some t) : am_kp [(10, 14), (10, 15), (10, 16), (10, 18), (10, 19), (10, 23), (10, 26), (52, 0), (53, 0)] [(10, 17)] 0 m t := by
  unfold fn_X10_leaf at h
  obtain ⟨q3, h4, h⟩ := am_bd h
  obtain ⟨r5, h6, h⟩ := am_bd h
  have k_r5 : am_kp [(10, 14), (10, 15), (10, 16), (10, 18), (10, 19), (10, 23), (10, 26), (52, 0), (53, 0)] [(10, 17)] 0 m r5 := am_kp.tr am_kp.rf (am_kp.mono (kp_X10_must q3 m r5 h6) rfl)
  by_cases hc7 : (r5.1 10 0 19) ≠ 0
  · rw [if_pos hc7] at h
    cases h
    exact k_r5
  · rw [if_neg hc7] at h
    obtain ⟨r8, h9, h⟩ := am_bd h
    have k_r8 : am_kp [(10, 14), (10, 15), (10, 16), (10, 18), (10, 19), (10, 23), (10, 26), (52, 0), (53, 0)] [(10, 17)] 0 m r8 := am_kp.tr k_r5 (am_kp.mono (kp_X10_emit a2 a3 r5 r8 h9) rfl)
    cases h
    exact (am_kp.si k_r8 rfl)
-- X10_readPart
set_option maxRecDepth 100000 in
theorem kp_X10_readPart  (m : am_m) (t : Int32 × am_m) (h : fn_X10_readPart  m = some t) : am_kp [(10, 14), (10, 15), (10, 16), (10, 18), (10, 19), (10, 23), (10, 26), (10, 29), (10, 30), (52, 0), (53, 0), (54, 0), (55, 0)] [(10, 17)] 0 m t.2 := by
  unfold fn_X10_readPart at h
  obtain ⟨r1, h2, h⟩ := am_bd h
  by_cases hc3 : r1 = 0
  · rw [if_pos hc3] at h
    obtain ⟨q9, h10, h⟩ := am_bd h
    obtain ⟨q13, h14, h⟩ := am_bd h
    obtain ⟨q17, h18, h⟩ := am_bd h
    obtain ⟨r21, h22, h⟩ := am_bd h
    have k_r21 : am_kp [(10, 14), (10, 15), (10, 16), (10, 18), (10, 19), (10, 23), (10, 26), (10, 29), (10, 30), (52, 0), (53, 0), (54, 0), (55, 0)] [(10, 17)] 0 m r21 := am_kp.tr am_kp.rf (am_kp.mono (kp_X10_leaf q17 (if q9 ≠ (-1 : Int32) then q9 else (0 : Int32)) (if q13 = 0 then (0 : Int32) else ((m.2.1 10 0 17).toInt32)) m r21 h22) rfl)
    by_cases hc23 : (r21.1 10 0 20) = 0
    · rw [if_pos hc23] at h
      cases h
      exact k_r21
    · rw [if_neg hc23] at h
      by_cases hc24 : q9 < (6 : Int32)
      · rw [if_pos hc24] at h
        cases h
        exact k_r21
      · rw [if_neg hc24] at h
        by_cases hc25 : (r21.1 10 0 19) ≠ 0
        · rw [if_pos hc25] at h
          cases h
          exact k_r21
        · rw [if_neg hc25] at h
          obtain ⟨r26, h27, h⟩ := am_bd h
          have k_r26 : am_kp [(10, 14), (10, 15), (10, 16), (10, 18), (10, 19), (10, 23), (10, 26), (10, 29), (10, 30), (52, 0), (53, 0), (54, 0), (55, 0)] [(10, 17)] 0 m r26.2 := am_kp.tr k_r21 (am_kp.mono (kp_X10_number 0 6 r21 r26 h27) rfl)
          obtain ⟨hg28, h⟩ := am_ck_some h
          cases h
          exact (am_kp.si k_r26 rfl)
  · rw [if_neg hc3] at h
    obtain ⟨r29, h30, h⟩ := am_bd h
    have k_r29 : am_kp [(10, 14), (10, 15), (10, 16), (10, 18), (10, 19), (10, 23), (10, 26), (10, 29), (10, 30), (52, 0), (53, 0), (54, 0), (55, 0)] [(10, 17)] 0 m r29 := am_kp.tr am_kp.rf (am_kp.mono (kp_X10_openBracket 32 m r29 h30) rfl)
    cases h
    exact k_r29
-- X10_readPlain
set_option maxRecDepth 100000 in
theorem kp_X10_readPlain  (m : am_m) (t : Int32 × am_m) (h : fn_X10_readPlain  m = some t) : am_kp [(10, 14), (10, 15), (10, 16), (10, 18), (10, 19), (10, 23), (10, 26), (10, 29), (10, 30), (52, 0), (53, 0), (54, 0), (55, 0)] [(10, 17)] 0 m t.2 := by
  unfold fn_X10_readPlain at h
  obtain ⟨r1, h2, h⟩ := am_bd h
  by_cases hc3 : r1 = 0
  · rw [if_pos hc3] at h
    obtain ⟨r4, h5, h⟩ := am_bd h
    by_cases hc6 : r4 = 0
    · rw [if_pos hc6] at h
      obtain ⟨r7, h8, h⟩ := am_bd h
      have k_r7 : am_kp [(10, 14), (10, 15), (10, 16), (10, 18), (10, 19), (10, 23), (10, 26), (10, 29), (10, 30), (52, 0), (53, 0), (54, 0), (55, 0)] [(10, 17)] 0 m r7.2 := am_kp.tr am_kp.rf (am_kp.mono (kp_X10_readPart  m r7 h8) rfl)
      cases h
      exact k_r7
    · rw [if_neg hc6] at h
      obtain ⟨r9, h10, h⟩ := am_bd h
      have k_r9 : am_kp [(10, 14), (10, 15), (10, 16), (10, 18), (10, 19), (10, 23), (10, 26), (10, 29), (10, 30), (52, 0), (53, 0), (54, 0), (55, 0)] [(10, 17)] 0 m r9 := am_kp.tr am_kp.rf (am_kp.mono (kp_X10_openBracket 31 m r9 h10) rfl)
      cases h
      exact k_r9
  · rw [if_neg hc3] at h
    obtain ⟨r11, h12, h⟩ := am_bd h
    have k_r11 : am_kp [(10, 14), (10, 15), (10, 16), (10, 18), (10, 19), (10, 23), (10, 26), (10, 29), (10, 30), (52, 0), (53, 0), (54, 0), (55, 0)] [(10, 17)] 0 m r11 := am_kp.tr am_kp.rf (am_kp.mono (kp_X10_push 28 0 m r11 h12) rfl)
    obtain ⟨r13, h14, h⟩ := am_bd h
    have k_r13 : am_kp [(10, 14), (10, 15), (10, 16), (10, 18), (10, 19), (10, 23), (10, 26), (10, 29), (10, 30), (52, 0), (53, 0), (54, 0), (55, 0)] [(10, 17)] 0 m r13 := am_kp.tr k_r11 (am_kp.mono (kp_X10_next  r11 r13 h14) rfl)
    cases h
    exact k_r13
-- X10_behindSum
set_option maxRecDepth 100000 in
theorem kp_X10_behindSum (a1 : Int32) (m : am_m) (t : Int32 × am_m) (h : fn_X10_behindSum a1 m = some t) : am_kp [(10, 14), (10, 15), (10, 16), (10, 18), (10, 19), (10, 23), (10, 29), (10, 30), (52, 0), (53, 0), (54, 0), (55, 0)] [(10, 17)] 0 m t.2 := by
  unfold fn_X10_behindSum at h
  obtain ⟨r1, h2, h⟩ := am_bd h
  obtain ⟨q16, h17, h⟩ := am_bd h
  by_cases hc18 : q16 = (-1 : Int32)
  · rw [if_pos hc18] at h
    obtain ⟨r19, h20, h⟩ := am_bd h
    by_cases hc21 : r19 ≠ (32 : Int32)
    · rw [if_pos hc21] at h
      by_cases hc22 : r19 ≠ (-1 : Int32)
      · rw [if_pos hc22] at h
        obtain ⟨r23, h24, h⟩ := am_bd h
        by_cases hc25 : r23 = 0
        · rw [if_pos hc25] at h
          obtain ⟨r26, h27, h⟩ := am_bd h
          obtain ⟨q32, h33, h⟩ := am_bd h
          obtain ⟨q38, h39, h⟩ := am_bd h
          obtain ⟨r40, h41, h⟩ := am_bd h
          have k_r40 : am_kp [(10, 14), (10, 15), (10, 16), (10, 18), (10, 19), (10, 23), (10, 29), (10, 30), (52, 0), (53, 0), (54, 0), (55, 0)] [(10, 17)] 0 m r40 := am_kp.tr am_kp.rf (am_kp.mono (kp_X10_must q38 m r40 h41) rfl)
          by_cases hc42 : (r40.1 10 0 19) ≠ 0
          · rw [if_pos hc42] at h
            cases h
            exact k_r40
          · rw [if_neg hc42] at h
            obtain ⟨r43, h44, h⟩ := am_bd h
            have k_r43 : am_kp [(10, 14), (10, 15), (10, 16), (10, 18), (10, 19), (10, 23), (10, 29), (10, 30), (52, 0), (53, 0), (54, 0), (55, 0)] [(10, 17)] 0 m r43 := am_kp.tr k_r40 (am_kp.mono (kp_X10_settle 5 r40 r43 h44) rfl)
            obtain ⟨r45, h46, h⟩ := am_bd h
            have k_r45 : am_kp [(10, 14), (10, 15), (10, 16), (10, 18), (10, 19), (10, 23), (10, 29), (10, 30), (52, 0), (53, 0), (54, 0), (55, 0)] [(10, 17)] 0 m r45 := am_kp.tr k_r43 (am_kp.mono (kp_X10_push q32 0 r43 r45 h46) rfl)
            cases h
            exact k_r45
        · rw [if_neg hc25] at h
          cases h
          exact am_kp.rf
      · rw [if_neg hc22] at h
        by_cases hc47 : a1 ≠ 0
        · rw [if_pos hc47] at h
          obtain ⟨r48, h49, h⟩ := am_bd h
          by_cases hc50 : r48 = 0
          · rw [if_pos hc50] at h
            obtain ⟨r51, h52, h⟩ := am_bd h
            obtain ⟨q57, h58, h⟩ := am_bd h
            obtain ⟨q63, h64, h⟩ := am_bd h
            obtain ⟨r65, h66, h⟩ := am_bd h
            have k_r65 : am_kp [(10, 14), (10, 15), (10, 16), (10, 18), (10, 19), (10, 23), (10, 29), (10, 30), (52, 0), (53, 0), (54, 0), (55, 0)] [(10, 17)] 0 m r65 := am_kp.tr am_kp.rf (am_kp.mono (kp_X10_must q63 m r65 h66) rfl)
            by_cases hc67 : (r65.1 10 0 19) ≠ 0
            · rw [if_pos hc67] at h
              cases h
              exact k_r65
            · rw [if_neg hc67] at h
              obtain ⟨r68, h69, h⟩ := am_bd h
              have k_r68 : am_kp [(10, 14), (10, 15), (10, 16), (10, 18), (10, 19), (10, 23), (10, 29), (10, 30), (52, 0), (53, 0), (54, 0), (55, 0)] [(10, 17)] 0 m r68 := am_kp.tr k_r65 (am_kp.mono (kp_X10_settle 5 r65 r68 h69) rfl)
              obtain ⟨r70, h71, h⟩ := am_bd h
              have k_r70 : am_kp [(10, 14), (10, 15), (10, 16), (10, 18), (10, 19), (10, 23), (10, 29), (10, 30), (52, 0), (53, 0), (54, 0), (55, 0)] [(10, 17)] 0 m r70 := am_kp.tr k_r68 (am_kp.mono (kp_X10_push q57 0 r68 r70 h71) rfl)
              cases h
              exact k_r70
          · rw [if_neg hc50] at h
            cases h
            exact am_kp.rf
        · rw [if_neg hc47] at h
          cases h
          exact am_kp.rf
    · rw [if_neg hc21] at h
      obtain ⟨r72, h73, h⟩ := am_bd h
      obtain ⟨r74, h75, h⟩ := am_bd h
      have k_r74 : am_kp [(10, 14), (10, 15), (10, 16), (10, 18), (10, 19), (10, 23), (10, 29), (10, 30), (52, 0), (53, 0), (54, 0), (55, 0)] [(10, 17)] 0 m r74 := am_kp.tr am_kp.rf (am_kp.mono (kp_X10_must r72 m r74 h75) rfl)
      by_cases hc76 : (r74.1 10 0 19) ≠ 0
      · rw [if_pos hc76] at h
        cases h
        exact k_r74
      · rw [if_neg hc76] at h
        obtain ⟨r77, h78, h⟩ := am_bd h
        have k_r77 : am_kp [(10, 14), (10, 15), (10, 16), (10, 18), (10, 19), (10, 23), (10, 29), (10, 30), (52, 0), (53, 0), (54, 0), (55, 0)] [(10, 17)] 0 m r77 := am_kp.tr k_r74 (am_kp.mono (kp_X10_settle 5 r74 r77 h78) rfl)
        cases h
        exact (am_kp.si (am_kp.si k_r77 rfl) rfl)
  · rw [if_neg hc18] at h
    obtain ⟨r79, h80, h⟩ := am_bd h
    obtain ⟨r81, h82, h⟩ := am_bd h
    have k_r81 : am_kp [(10, 14), (10, 15), (10, 16), (10, 18), (10, 19), (10, 23), (10, 29), (10, 30), (52, 0), (53, 0), (54, 0), (55, 0)] [(10, 17)] 0 m r81 := am_kp.tr am_kp.rf (am_kp.mono (kp_X10_settle r79 m r81 h82) rfl)
    obtain ⟨r83, h84, h⟩ := am_bd h
    have k_r83 : am_kp [(10, 14), (10, 15), (10, 16), (10, 18), (10, 19), (10, 23), (10, 29), (10, 30), (52, 0), (53, 0), (54, 0), (55, 0)] [(10, 17)] 0 m r83 := am_kp.tr k_r81 (am_kp.mono (kp_X10_push q16 0 r81 r83 h84) rfl)
    obtain ⟨r85, h86, h⟩ := am_bd h
    have k_r85 : am_kp [(10, 14), (10, 15), (10, 16), (10, 18), (10, 19), (10, 23), (10, 29), (10, 30), (52, 0), (53, 0), (54, 0), (55, 0)] [(10, 17)] 0 m r85 := am_kp.tr k_r83 (am_kp.mono (kp_X10_next  r83 r85 h86) rfl)
    cases h
    exact k_r85
-- X10_behindTest
set_option maxRecDepth 100000 in
theorem kp_X10_behindTest  (m : am_m) (t : Int32 × am_m) (h : fn_X10_behindTest  m = some t) : am_kp [(10, 14), (10, 15), (10, 16), (10, 18), (10, 19), (10, 23), (10, 29), (10, 30), (52, 0), (53, 0), (54, 0), (55, 0)] [(10, 17)] 0 m t.2 := by
  unfold fn_X10_behindTest at h
  obtain ⟨r1, h2, h⟩ := am_bd h
  by_cases hc3 : r1 ≠ 0
  · rw [if_pos hc3] at h
    obtain ⟨r5, h6, h⟩ := am_bd h
    have k_r5 : am_kp [(10, 14), (10, 15), (10, 16), (10, 18), (10, 19), (10, 23), (10, 29), (10, 30), (52, 0), (53, 0), (54, 0), (55, 0)] [(10, 17)] 0 m r5 := am_kp.tr am_kp.rf (am_kp.mono (kp_X10_settle (if r1 = 0 then (1 : Int32) else (2 : Int32)) m r5 h6) rfl)
    obtain ⟨r8, h9, h⟩ := am_bd h
    have k_r8 : am_kp [(10, 14), (10, 15), (10, 16), (10, 18), (10, 19), (10, 23), (10, 29), (10, 30), (52, 0), (53, 0), (54, 0), (55, 0)] [(10, 17)] 0 m r8 := am_kp.tr k_r5 (am_kp.mono (kp_X10_push (if r1 = 0 then (30 : Int32) else (29 : Int32)) (r5.1 10 0 23) r5 r8 h9) rfl)
    obtain ⟨r11, h12, h⟩ := am_bd h
    have k_r11 : am_kp [(10, 14), (10, 15), (10, 16), (10, 18), (10, 19), (10, 23), (10, 29), (10, 30), (52, 0), (53, 0), (54, 0), (55, 0)] [(10, 17)] 0 m r11 := am_kp.tr k_r8 (am_kp.mono (kp_X10_emit (if r1 = 0 then (30 : Int32) else (29 : Int32)) 0 r8 r11 h12) rfl)
    obtain ⟨r13, h14, h⟩ := am_bd h
    have k_r13 : am_kp [(10, 14), (10, 15), (10, 16), (10, 18), (10, 19), (10, 23), (10, 29), (10, 30), (52, 0), (53, 0), (54, 0), (55, 0)] [(10, 17)] 0 m r13 := am_kp.tr k_r11 (am_kp.mono (kp_X10_next  r11 r13 h14) rfl)
    cases h
    exact k_r13
  · rw [if_neg hc3] at h
    obtain ⟨r15, h16, h⟩ := am_bd h
    by_cases hc17 : r15 = 0
    · rw [if_pos hc17] at h
      obtain ⟨r18, h19, h⟩ := am_bd h
      by_cases hc20 : r18 ≠ (-1 : Int32)
      · rw [if_pos hc20] at h
        obtain ⟨r21, h22, h⟩ := am_bd h
        obtain ⟨r23, h24, h⟩ := am_bd h
        have k_r23 : am_kp [(10, 14), (10, 15), (10, 16), (10, 18), (10, 19), (10, 23), (10, 29), (10, 30), (52, 0), (53, 0), (54, 0), (55, 0)] [(10, 17)] 0 m r23 := am_kp.tr am_kp.rf (am_kp.mono (kp_X10_must r21 m r23 h24) rfl)
        by_cases hc25 : (r23.1 10 0 19) ≠ 0
        · rw [if_pos hc25] at h
          cases h
          exact k_r23
        · rw [if_neg hc25] at h
          obtain ⟨r26, h27, h⟩ := am_bd h
          have k_r26 : am_kp [(10, 14), (10, 15), (10, 16), (10, 18), (10, 19), (10, 23), (10, 29), (10, 30), (52, 0), (53, 0), (54, 0), (55, 0)] [(10, 17)] 0 m r26 := am_kp.tr k_r23 (am_kp.mono (kp_X10_settle 1 r23 r26 h27) rfl)
          cases h
          exact (am_kp.si (am_kp.si k_r26 rfl) rfl)
      · rw [if_neg hc20] at h
        cases h
        exact am_kp.rf
    · rw [if_neg hc17] at h
      obtain ⟨r29, h30, h⟩ := am_bd h
      have k_r29 : am_kp [(10, 14), (10, 15), (10, 16), (10, 18), (10, 19), (10, 23), (10, 29), (10, 30), (52, 0), (53, 0), (54, 0), (55, 0)] [(10, 17)] 0 m r29 := am_kp.tr am_kp.rf (am_kp.mono (kp_X10_settle (if r1 = 0 then (1 : Int32) else (2 : Int32)) m r29 h30) rfl)
      obtain ⟨r32, h33, h⟩ := am_bd h
      have k_r32 : am_kp [(10, 14), (10, 15), (10, 16), (10, 18), (10, 19), (10, 23), (10, 29), (10, 30), (52, 0), (53, 0), (54, 0), (55, 0)] [(10, 17)] 0 m r32 := am_kp.tr k_r29 (am_kp.mono (kp_X10_push (if r1 = 0 then (30 : Int32) else (29 : Int32)) (r29.1 10 0 23) r29 r32 h33) rfl)
      obtain ⟨r35, h36, h⟩ := am_bd h
      have k_r35 : am_kp [(10, 14), (10, 15), (10, 16), (10, 18), (10, 19), (10, 23), (10, 29), (10, 30), (52, 0), (53, 0), (54, 0), (55, 0)] [(10, 17)] 0 m r35 := am_kp.tr k_r32 (am_kp.mono (kp_X10_emit (if r1 = 0 then (30 : Int32) else (29 : Int32)) 0 r32 r35 h36) rfl)
      obtain ⟨r37, h38, h⟩ := am_bd h
      have k_r37 : am_kp [(10, 14), (10, 15), (10, 16), (10, 18), (10, 19), (10, 23), (10, 29), (10, 30), (52, 0), (53, 0), (54, 0), (55, 0)] [(10, 17)] 0 m r37 := am_kp.tr k_r35 (am_kp.mono (kp_X10_next  r35 r37 h38) rfl)
      cases h
      exact k_r37
-- X10_readExpression
set_option maxRecDepth 100000 in
theorem kl_X10_readExpression_20 {n : Nat} {x1 : Int32} {x2 : Int32} {m : am_m} {t : am_m} (h : lp_X10_readExpression_20 n x1 x2 m = some t) : am_kp [(10, 14), (10, 15), (10, 16), (10, 18), (10, 19), (10, 23), (10, 26), (10, 29), (10, 30), (52, 0), (53, 0), (54, 0), (55, 0)] [(10, 17)] 0 m t := by
  induction n generalizing x2 m with
  | zero => cases h
  | succ n ih =>
    unfold lp_X10_readExpression_20 at h
    by_cases hc2 : (m.1 10 0 19) ≠ 0
    · rw [if_pos hc2] at h
      cases h
      exact am_kp.rf
    · rw [if_neg hc2] at h
      by_cases hc3 : x2 = (4 : Int32)
      · rw [if_pos hc3] at h
        cases h
        exact am_kp.rf
      · rw [if_neg hc3] at h
        obtain ⟨q15, h16, h⟩ := am_bd h
        have k_q15 : am_kp [(10, 14), (10, 15), (10, 16), (10, 18), (10, 19), (10, 23), (10, 26), (10, 29), (10, 30), (52, 0), (53, 0), (54, 0), (55, 0)] [(10, 17)] 0 m q15.2 := by
          have h := h16
          by_cases hc4 : x2 ≠ 0
          · rw [if_pos hc4] at h
            by_cases hc5 : x2 ≠ (1 : Int32)
            · rw [if_pos hc5] at h
              by_cases hc6 : x2 ≠ (3 : Int32)
              · rw [if_pos hc6] at h
                obtain ⟨r7, h8, h⟩ := am_bd h
                have k_r7 : am_kp [(10, 14), (10, 15), (10, 16), (10, 18), (10, 19), (10, 23), (10, 26), (10, 29), (10, 30), (52, 0), (53, 0), (54, 0), (55, 0)] [(10, 17)] 0 m r7.2 := am_kp.tr am_kp.rf (am_kp.mono (kp_X10_behindTest  m r7 h8) rfl)
                cases h
                exact k_r7
              · rw [if_neg hc6] at h
                obtain ⟨r9, h10, h⟩ := am_bd h
                have k_r9 : am_kp [(10, 14), (10, 15), (10, 16), (10, 18), (10, 19), (10, 23), (10, 26), (10, 29), (10, 30), (52, 0), (53, 0), (54, 0), (55, 0)] [(10, 17)] 0 m r9.2 := am_kp.tr am_kp.rf (am_kp.mono (kp_X10_behindSum x1 m r9 h10) rfl)
                cases h
                exact k_r9
            · rw [if_neg hc5] at h
              obtain ⟨r11, h12, h⟩ := am_bd h
              have k_r11 : am_kp [(10, 14), (10, 15), (10, 16), (10, 18), (10, 19), (10, 23), (10, 26), (10, 29), (10, 30), (52, 0), (53, 0), (54, 0), (55, 0)] [(10, 17)] 0 m r11.2 := am_kp.tr am_kp.rf (am_kp.mono (kp_X10_readPart  m r11 h12) rfl)
              cases h
              exact k_r11
          · rw [if_neg hc4] at h
            obtain ⟨r13, h14, h⟩ := am_bd h
            have k_r13 : am_kp [(10, 14), (10, 15), (10, 16), (10, 18), (10, 19), (10, 23), (10, 26), (10, 29), (10, 30), (52, 0), (53, 0), (54, 0), (55, 0)] [(10, 17)] 0 m r13.2 := am_kp.tr am_kp.rf (am_kp.mono (kp_X10_readPlain  m r13 h14) rfl)
            cases h
            exact k_r13
        exact am_kp.tr k_q15 (ih h)
set_option maxRecDepth 100000 in
theorem kp_X10_readExpression (a1 : Int32) (m : am_m) (t : am_m) (h : fn_X10_readExpression a1 m = some t) : am_kp [(10, 14), (10, 15), (10, 16), (10, 18), (10, 19), (10, 23), (10, 26), (10, 29), (10, 30), (52, 0), (53, 0), (54, 0), (55, 0)] [(10, 17)] 0 m t := by
  unfold fn_X10_readExpression at h
  obtain ⟨q17, h18, h⟩ := am_bd h
  have k_q17 : am_kp [(10, 14), (10, 15), (10, 16), (10, 18), (10, 19), (10, 23), (10, 26), (10, 29), (10, 30), (52, 0), (53, 0), (54, 0), (55, 0)] [(10, 17)] 0 m q17 := am_kp.tr (am_kp.si (am_kp.si am_kp.rf rfl) rfl) (kl_X10_readExpression_20 (h := h18))
  obtain ⟨r19, h20, h⟩ := am_bd h
  have k_r19 : am_kp [(10, 14), (10, 15), (10, 16), (10, 18), (10, 19), (10, 23), (10, 26), (10, 29), (10, 30), (52, 0), (53, 0), (54, 0), (55, 0)] [(10, 17)] 0 m r19 := am_kp.tr k_q17 (am_kp.mono (kp_X10_settle 1 q17 r19 h20) rfl)
  cases h
  exact k_r19
-- X10_beginText
set_option maxRecDepth 100000 in
theorem kp_X10_beginText (a1 : Int32) (m : am_m) (t : am_m) (h : fn_X10_beginText a1 m = some t) : am_kp [(10, 14), (10, 15), (10, 16), (10, 18), (10, 19), (10, 20), (10, 21), (10, 23), (10, 26)] [(10, 17)] 0 m t := by
  unfold fn_X10_beginText at h
  obtain ⟨hz1, h⟩ := am_gd_some h
  obtain ⟨r2, h3, h⟩ := am_bd h
  have k_r2 : am_kp [(10, 14), (10, 15), (10, 16), (10, 18), (10, 19), (10, 20), (10, 21), (10, 23), (10, 26)] [(10, 17)] 0 m r2 := am_kp.tr (am_kp.si am_kp.rf rfl) (am_kp.mono (kp_X10_begin  (am_si m 10 0 20 a1) r2 h3) rfl)
  cases h
  exact (am_kp.si (am_kp.si (am_kp.si k_r2 rfl) rfl) rfl)
-- X10_endText
set_option maxRecDepth 100000 in
theorem kp_X10_endText  (m : am_m) (t : am_m) (h : fn_X10_endText  m = some t) : am_kp [(10, 13), (10, 14), (10, 15), (10, 16), (10, 18), (10, 19), (10, 20)] [(10, 17)] 0 m t := by
  unfold fn_X10_endText at h
  obtain ⟨q5, h6, h⟩ := am_bd h
  have k_q5 : am_kp [(10, 13), (10, 14), (10, 15), (10, 16), (10, 18), (10, 19), (10, 20)] [(10, 17)] 0 m q5 := by
    have h := h6
    by_cases hc1 : (m.1 10 0 19) ≠ 0
    · rw [if_pos hc1] at h
      cases h
      exact am_kp.rf
    · rw [if_neg hc1] at h
      by_cases hc2 : (m.1 10 0 16) = 0
      · rw [if_pos hc2] at h
        cases h
        exact am_kp.rf
      · rw [if_neg hc2] at h
        obtain ⟨r3, h4, h⟩ := am_bd h
        have k_r3 : am_kp [(10, 13), (10, 14), (10, 15), (10, 16), (10, 18), (10, 19), (10, 20)] [(10, 17)] 0 m r3 := am_kp.tr am_kp.rf (am_kp.mono (kp_X10_must 0 m r3 h4) rfl)
        cases h
        exact k_r3
  cases h
  exact (am_kp.si (am_kp.si k_q5 rfl) rfl)
-- X10_readLaw
set_option maxRecDepth 100000 in
theorem kl_X10_readLaw_75 {n : Nat} {x1 : Int32} {x2 : Int32} {x3 : Int32} {m : am_m} {t : am_m} (h : lp_X10_readLaw_75 n x1 x2 x3 m = some t) : am_kp [(10, 14), (10, 15), (10, 16), (10, 18), (10, 19), (10, 21), (10, 23), (10, 26), (10, 29), (10, 30), (51, 0), (52, 0), (53, 0), (54, 0), (55, 0)] [(10, 17)] 0 m t := by
  induction n generalizing x3 m with
  | zero => cases h
  | succ n ih =>
    unfold lp_X10_readLaw_75 at h
    by_cases hc15 : (8 : Int32) ≤ x3
    · rw [if_pos hc15] at h
      cases h
      exact am_kp.rf
    · rw [if_neg hc15] at h
      obtain ⟨hg16, h⟩ := am_ck_some h
      exact am_kp.tr (am_kp.si am_kp.rf rfl) (ih h)
set_option maxRecDepth 100000 in
theorem kp_X10_readLaw  (m : am_m) (t : am_m) (h : fn_X10_readLaw  m = some t) : am_kp [(10, 14), (10, 15), (10, 16), (10, 18), (10, 19), (10, 21), (10, 23), (10, 26), (10, 29), (10, 30), (51, 0), (52, 0), (53, 0), (54, 0), (55, 0)] [(10, 17)] 0 m t := by
  unfold fn_X10_readLaw at h
  obtain ⟨q6, h7, h⟩ := am_bd h
  obtain ⟨q10, h11, h⟩ := am_bd h
  obtain ⟨r12, h13, h⟩ := am_bd h
  have k_r12 : am_kp [(10, 14), (10, 15), (10, 16), (10, 18), (10, 19), (10, 21), (10, 23), (10, 26), (10, 29), (10, 30), (51, 0), (52, 0), (53, 0), (54, 0), (55, 0)] [(10, 17)] 0 m r12 := am_kp.tr am_kp.rf (am_kp.mono (kp_X10_must q10 m r12 h13) rfl)
  by_cases hc14 : (r12.1 10 0 19) = 0
  · rw [if_pos hc14] at h
    obtain ⟨q17, h18, h⟩ := am_bd h
    have k_q17 : am_kp [(10, 14), (10, 15), (10, 16), (10, 18), (10, 19), (10, 21), (10, 23), (10, 26), (10, 29), (10, 30), (51, 0), (52, 0), (53, 0), (54, 0), (55, 0)] [(10, 17)] 0 m q17 := am_kp.tr k_r12 (kl_X10_readLaw_75 (h := h18))
    obtain ⟨hg19, h⟩ := am_ck_some h
    obtain ⟨hg20, h⟩ := am_ck_some h
    obtain ⟨q24, h25, h⟩ := am_bd h
    have k_q24 : am_kp [(10, 14), (10, 15), (10, 16), (10, 18), (10, 19), (10, 21), (10, 23), (10, 26), (10, 29), (10, 30), (51, 0), (52, 0), (53, 0), (54, 0), (55, 0)] [(10, 17)] 0 m q24 := by
      have h := h25
      by_cases hc21 : q6 = (3 : Int32)
      · rw [if_pos hc21] at h
        cases h
        exact (am_kp.si (am_kp.si (am_kp.si k_q17 rfl) rfl) rfl)
      · rw [if_neg hc21] at h
        obtain ⟨r22, h23, h⟩ := am_bd h
        have k_r22 : am_kp [(10, 14), (10, 15), (10, 16), (10, 18), (10, 19), (10, 21), (10, 23), (10, 26), (10, 29), (10, 30), (51, 0), (52, 0), (53, 0), (54, 0), (55, 0)] [(10, 17)] 0 m r22 := am_kp.tr (am_kp.si (am_kp.si (am_kp.si k_q17 rfl) rfl) rfl) (am_kp.mono (kp_X10_readExpression 0 (am_si (am_si (am_si q17 51 0 ((8 : Int32) * (r12.1 10 0 21)).toNatClampNeg q6) 10 0 21 ((q17.1 10 0 21) + (1 : Int32))) 51 0 (((8 : Int32) * (r12.1 10 0 21)) + (3 : Int32)).toNatClampNeg (q17.1 10 0 23)) r22 h23) rfl)
        cases h
        exact k_r22
    obtain ⟨hg26, h⟩ := am_ck_some h
    obtain ⟨hg27, h⟩ := am_ck_some h
    obtain ⟨q36, h37, h⟩ := am_bd h
    have k_q36 : am_kp [(10, 14), (10, 15), (10, 16), (10, 18), (10, 19), (10, 21), (10, 23), (10, 26), (10, 29), (10, 30), (51, 0), (52, 0), (53, 0), (54, 0), (55, 0)] [(10, 17)] 0 m q36 := by
      have h := h37
      by_cases hc28 : (q24.1 10 0 19) ≠ 0
      · rw [if_pos hc28] at h
        cases h
        exact (am_kp.si (am_kp.si k_q24 rfl) rfl)
      · rw [if_neg hc28] at h
        obtain ⟨r29, h30, h⟩ := am_bd h
        by_cases hc31 : r29 = 0
        · rw [if_pos hc31] at h
          cases h
          exact (am_kp.si (am_kp.si k_q24 rfl) rfl)
        · rw [if_neg hc31] at h
          obtain ⟨r32, h33, h⟩ := am_bd h
          have k_r32 : am_kp [(10, 14), (10, 15), (10, 16), (10, 18), (10, 19), (10, 21), (10, 23), (10, 26), (10, 29), (10, 30), (51, 0), (52, 0), (53, 0), (54, 0), (55, 0)] [(10, 17)] 0 m r32 := am_kp.tr (am_kp.si (am_kp.si k_q24 rfl) rfl) (am_kp.mono (kp_X10_next  (am_si (am_si q24 51 0 (((8 : Int32) * (r12.1 10 0 21)) + (4 : Int32)).toNatClampNeg (q24.1 10 0 23)) 51 0 (((8 : Int32) * (r12.1 10 0 21)) + (5 : Int32)).toNatClampNeg (q24.1 10 0 23)) r32 h33) rfl)
          obtain ⟨r34, h35, h⟩ := am_bd h
          have k_r34 : am_kp [(10, 14), (10, 15), (10, 16), (10, 18), (10, 19), (10, 21), (10, 23), (10, 26), (10, 29), (10, 30), (51, 0), (52, 0), (53, 0), (54, 0), (55, 0)] [(10, 17)] 0 m r34 := am_kp.tr k_r32 (am_kp.mono (kp_X10_readExpression 1 r32 r34 h35) rfl)
          cases h
          exact k_r34
    obtain ⟨hg38, h⟩ := am_ck_some h
    cases h
    exact (am_kp.si k_q36 rfl)
  · rw [if_neg hc14] at h
    cases h
    exact k_r12
-- X10_law
set_option maxRecDepth 100000 in
theorem kl_X10_law_37 {n : Nat} {m : am_m} {t : am_m} (h : lp_X10_law_37 n  m = some t) : am_kp [(10, 0), (10, 1), (10, 13), (10, 14), (10, 15), (10, 16), (10, 18), (10, 19), (10, 20), (10, 21), (10, 23), (10, 26), (10, 29), (10, 30), (43, 0), (44, 0), (51, 0), (52, 0), (53, 0), (54, 0), (55, 0)] [(10, 17)] 0 m t := by
  induction n generalizing m with
  | zero => cases h
  | succ n ih =>
    unfold lp_X10_law_37 at h
    by_cases hc6 : (m.1 10 0 19) ≠ 0
    · rw [if_pos hc6] at h
      cases h
      exact am_kp.rf
    · rw [if_neg hc6] at h
      obtain ⟨r7, h8, h⟩ := am_bd h
      by_cases hc9 : r7 = 0
      · rw [if_pos hc9] at h
        cases h
        exact am_kp.rf
      · rw [if_neg hc9] at h
        obtain ⟨r10, h11, h⟩ := am_bd h
        have k_r10 : am_kp [(10, 0), (10, 1), (10, 13), (10, 14), (10, 15), (10, 16), (10, 18), (10, 19), (10, 20), (10, 21), (10, 23), (10, 26), (10, 29), (10, 30), (43, 0), (44, 0), (51, 0), (52, 0), (53, 0), (54, 0), (55, 0)] [(10, 17)] 0 m r10 := am_kp.tr am_kp.rf (am_kp.mono (kp_X10_next  m r10 h11) rfl)
        obtain ⟨r12, h13, h⟩ := am_bd h
        have k_r12 : am_kp [(10, 0), (10, 1), (10, 13), (10, 14), (10, 15), (10, 16), (10, 18), (10, 19), (10, 20), (10, 21), (10, 23), (10, 26), (10, 29), (10, 30), (43, 0), (44, 0), (51, 0), (52, 0), (53, 0), (54, 0), (55, 0)] [(10, 17)] 0 m r12 := am_kp.tr k_r10 (am_kp.mono (kp_X10_readLaw  r10 r12 h13) rfl)
        exact am_kp.tr k_r12 (ih h)
set_option maxRecDepth 100000 in
theorem kl_X10_law_110 {n : Nat} {x1 : Int32} {x2 : Int32} {m : am_m} {t : am_m} (h : lp_X10_law_110 n x1 x2 m = some t) : am_kp [(10, 0), (10, 1), (10, 13), (10, 14), (10, 15), (10, 16), (10, 18), (10, 19), (10, 20), (10, 21), (10, 23), (10, 26), (10, 29), (10, 30), (43, 0), (44, 0), (51, 0), (52, 0), (53, 0), (54, 0), (55, 0)] [(10, 17)] 0 m t := by
  induction n generalizing x2 m with
  | zero => cases h
  | succ n ih =>
    unfold lp_X10_law_110 at h
    by_cases hc20 : ((8 : Int32) * (m.1 10 0 21)) ≤ x2
    · rw [if_pos hc20] at h
      cases h
      exact am_kp.rf
    · rw [if_neg hc20] at h
      obtain ⟨hg21, h⟩ := am_ck_some h
      obtain ⟨hg22, h⟩ := am_ck_some h
      exact am_kp.tr (am_kp.si am_kp.rf rfl) (ih h)
set_option maxRecDepth 100000 in
theorem kl_X10_law_145 {n : Nat} {x1 : Int32} {x2 : Int32} {m : am_m} {t : am_m} (h : lp_X10_law_145 n x1 x2 m = some t) : am_kp [(10, 0), (10, 1), (10, 13), (10, 14), (10, 15), (10, 16), (10, 18), (10, 19), (10, 20), (10, 21), (10, 23), (10, 26), (10, 29), (10, 30), (43, 0), (44, 0), (51, 0), (52, 0), (53, 0), (54, 0), (55, 0)] [(10, 17)] 0 m t := by
  induction n generalizing x2 m with
  | zero => cases h
  | succ n ih =>
    unfold lp_X10_law_145 at h
    by_cases hc25 : (m.1 10 0 23) ≤ x2
    · rw [if_pos hc25] at h
      cases h
      exact am_kp.rf
    · rw [if_neg hc25] at h
      obtain ⟨hg26, h⟩ := am_ck_some h
      obtain ⟨hg27, h⟩ := am_ck_some h
      obtain ⟨hg28, h⟩ := am_ck_some h
      obtain ⟨hg29, h⟩ := am_ck_some h
      exact am_kp.tr (am_kp.si (am_kp.si am_kp.rf rfl) rfl) (ih h)
set_option maxRecDepth 100000 in
theorem kp_X10_law  (m : am_m) (t : Int32 × am_m) (h : fn_X10_law  m = some t) : am_kp [(10, 0), (10, 1), (10, 13), (10, 14), (10, 15), (10, 16), (10, 18), (10, 19), (10, 20), (10, 21), (10, 23), (10, 26), (10, 29), (10, 30), (43, 0), (44, 0), (51, 0), (52, 0), (53, 0), (54, 0), (55, 0)] [(10, 17)] 0 m t.2 := by
  unfold fn_X10_law at h
  by_cases hc1 : (m.1 44 0 2) ≠ (6 : Int32)
  · rw [if_pos hc1] at h
    obtain ⟨r2, h3, h⟩ := am_bd h
    have k_r2 : am_kp [(10, 0), (10, 1), (10, 13), (10, 14), (10, 15), (10, 16), (10, 18), (10, 19), (10, 20), (10, 21), (10, 23), (10, 26), (10, 29), (10, 30), (43, 0), (44, 0), (51, 0), (52, 0), (53, 0), (54, 0), (55, 0)] [(10, 17)] 0 m r2 := am_kp.tr (am_kp.si am_kp.rf rfl) (am_kp.mono (kp_X10_beginText 0 (am_si m 10 0 0 0) r2 h3) rfl)
    obtain ⟨r4, h5, h⟩ := am_bd h
    have k_r4 : am_kp [(10, 0), (10, 1), (10, 13), (10, 14), (10, 15), (10, 16), (10, 18), (10, 19), (10, 20), (10, 21), (10, 23), (10, 26), (10, 29), (10, 30), (43, 0), (44, 0), (51, 0), (52, 0), (53, 0), (54, 0), (55, 0)] [(10, 17)] 0 m r4 := am_kp.tr k_r2 (am_kp.mono (kp_X10_readLaw  r2 r4 h5) rfl)
    obtain ⟨q14, h15, h⟩ := am_bd h
    have k_q14 : am_kp [(10, 0), (10, 1), (10, 13), (10, 14), (10, 15), (10, 16), (10, 18), (10, 19), (10, 20), (10, 21), (10, 23), (10, 26), (10, 29), (10, 30), (43, 0), (44, 0), (51, 0), (52, 0), (53, 0), (54, 0), (55, 0)] [(10, 17)] 0 m q14 := am_kp.tr k_r4 (kl_X10_law_37 (h := h15))
    obtain ⟨r16, h17, h⟩ := am_bd h
    have k_r16 : am_kp [(10, 0), (10, 1), (10, 13), (10, 14), (10, 15), (10, 16), (10, 18), (10, 19), (10, 20), (10, 21), (10, 23), (10, 26), (10, 29), (10, 30), (43, 0), (44, 0), (51, 0), (52, 0), (53, 0), (54, 0), (55, 0)] [(10, 17)] 0 m r16 := am_kp.tr k_q14 (am_kp.mono (kp_X10_endText  q14 r16 h17) rfl)
    by_cases hc18 : (r16.1 10 0 19) = 0
    · rw [if_pos hc18] at h
      obtain ⟨hg19, h⟩ := am_ck_some h
      obtain ⟨q23, h24, h⟩ := am_bd h
      have k_q23 : am_kp [(10, 0), (10, 1), (10, 13), (10, 14), (10, 15), (10, 16), (10, 18), (10, 19), (10, 20), (10, 21), (10, 23), (10, 26), (10, 29), (10, 30), (43, 0), (44, 0), (51, 0), (52, 0), (53, 0), (54, 0), (55, 0)] [(10, 17)] 0 m q23 := am_kp.tr (am_kp.si k_r16 rfl) (kl_X10_law_110 (h := h24))
      obtain ⟨q30, h31, h⟩ := am_bd h
      have k_q30 : am_kp [(10, 0), (10, 1), (10, 13), (10, 14), (10, 15), (10, 16), (10, 18), (10, 19), (10, 20), (10, 21), (10, 23), (10, 26), (10, 29), (10, 30), (43, 0), (44, 0), (51, 0), (52, 0), (53, 0), (54, 0), (55, 0)] [(10, 17)] 0 m q30 := am_kp.tr k_q23 (kl_X10_law_145 (h := h31))
      obtain ⟨r32, h33, h⟩ := am_bd h
      have k_r32 : am_kp [(10, 0), (10, 1), (10, 13), (10, 14), (10, 15), (10, 16), (10, 18), (10, 19), (10, 20), (10, 21), (10, 23), (10, 26), (10, 29), (10, 30), (43, 0), (44, 0), (51, 0), (52, 0), (53, 0), (54, 0), (55, 0)] [(10, 17)] 0 m r32.2 := am_kp.tr (am_kp.si k_q30 rfl) (am_kp.mono (kp_X10_tell (((q30.1 44 0 2) + (1 : Int32)) - (1 : Int32)) (am_si q30 44 0 2 ((q30.1 44 0 2) + (1 : Int32))) r32 h33) rfl)
      cases h
      exact k_r32
    · rw [if_neg hc18] at h
      obtain ⟨r34, h35, h⟩ := am_bd h
      have k_r34 : am_kp [(10, 0), (10, 1), (10, 13), (10, 14), (10, 15), (10, 16), (10, 18), (10, 19), (10, 20), (10, 21), (10, 23), (10, 26), (10, 29), (10, 30), (43, 0), (44, 0), (51, 0), (52, 0), (53, 0), (54, 0), (55, 0)] [(10, 17)] 0 m r34.2 := am_kp.tr k_r16 (am_kp.mono (kp_X10_tell (-6) r16 r34 h35) rfl)
      cases h
      exact k_r34
  · rw [if_neg hc1] at h
    obtain ⟨r36, h37, h⟩ := am_bd h
    have k_r36 : am_kp [(10, 0), (10, 1), (10, 13), (10, 14), (10, 15), (10, 16), (10, 18), (10, 19), (10, 20), (10, 21), (10, 23), (10, 26), (10, 29), (10, 30), (43, 0), (44, 0), (51, 0), (52, 0), (53, 0), (54, 0), (55, 0)] [(10, 17)] 0 m r36.2 := am_kp.tr (am_kp.si (am_kp.si am_kp.rf rfl) rfl) (am_kp.mono (kp_X10_tell (-5) (am_si (am_si m 10 0 0 0) 10 0 13 0) r36 h37) rfl)
    cases h
    exact k_r36
-- X10_force
set_option maxRecDepth 100000 in
theorem kp_X10_force (a1 : Int32) (m : am_m) (t : Int32 × am_m) (h : fn_X10_force a1 m = some t) : am_kp [(10, 0), (10, 1), (43, 0), (44, 0)] [] 0 m t.2 := by
  unfold fn_X10_force at h
  obtain ⟨r1, h2, h⟩ := am_bd h
  by_cases hc3 : r1 = 0
  · rw [if_pos hc3] at h
    obtain ⟨r4, h5, h⟩ := am_bd h
    have k_r4 : am_kp [(10, 0), (10, 1), (43, 0), (44, 0)] [] 0 m r4.2 := am_kp.tr (am_kp.si am_kp.rf rfl) (am_kp.mono (kp_X10_tell (-2) (am_si m 10 0 0 0) r4 h5) rfl)
    cases h
    exact k_r4
  · rw [if_neg hc3] at h
    obtain ⟨r6, h7, h⟩ := am_bd h
    have k_r6 : am_kp [(10, 0), (10, 1), (43, 0), (44, 0)] [] 0 m r6.2 := am_kp.tr (am_kp.si am_kp.rf rfl) (am_kp.mono (kp_X10_change 3 a1 (am_si m 10 0 0 0) r6 h7) rfl)
    cases h
    exact k_r6
-- X10_feedsAt
set_option maxRecDepth 100000 in
theorem kp_X10_feedsAt (a1 : Int32) (a2 : Int32) (m : am_m) (t : Int32 × am_m) (h : fn_X10_feedsAt a1 a2 m = some t) : am_kp [(10, 34), (10, 38)] [(10, 39), (10, 40), (85, 0), (87, 0)] 0 m t.2 := by
  unfold fn_X10_feedsAt at h
  obtain ⟨r1, h2, h⟩ := am_bd h
  have k_r1 : am_kp [(10, 34), (10, 38)] [(10, 39), (10, 40), (85, 0), (87, 0)] 0 m r1.2 := am_kp.tr am_kp.rf (am_kp.mono (kp_X10_tells 1 a1 (-1) a2 2 m r1 h2) rfl)
  obtain ⟨r3, h4, h⟩ := am_bd h
  cases h
  exact k_r1
-- X10_harmNow
set_option maxRecDepth 100000 in
theorem kp_X10_harmNow (a1 : Int32) (a2 : Int32) (a3 : Int32) (m : am_m) (t : Int32 × am_m) (h : fn_X10_harmNow a1 a2 a3 m = some t) : am_kp [(10, 8), (44, 0), (46, 0), (47, 0)] [] 0 m t.2 := by
  unfold fn_X10_harmNow at h
  obtain ⟨r1, h2, h⟩ := am_bd h
  by_cases hc3 : r1 = 0
  · rw [if_pos hc3] at h
    cases h
    exact am_kp.rf
  · rw [if_neg hc3] at h
    by_cases hc4 : a1 ≠ a2
    · rw [if_pos hc4] at h
      obtain ⟨r5, h6, h⟩ := am_bd h
      by_cases hc7 : r5 = 0
      · rw [if_pos hc7] at h
        cases h
        exact am_kp.rf
      · rw [if_neg hc7] at h
        obtain ⟨r8, h9, h⟩ := am_bd h
        by_cases hc10 : r8 ≠ 0
        · rw [if_pos hc10] at h
          obtain ⟨r11, h12, h⟩ := am_bd h
          by_cases hc13 : r11 ≠ a3
          · rw [if_pos hc13] at h
            obtain ⟨r14, h15, h⟩ := am_bd h
            have k_r14 : am_kp [(10, 8), (44, 0), (46, 0), (47, 0)] [] 0 m r14 := am_kp.tr am_kp.rf (am_kp.mono (kp_X10_remember 0 m r14 h15) rfl)
            obtain ⟨r16, h17, h⟩ := am_bd h
            have k_r16 : am_kp [(10, 8), (44, 0), (46, 0), (47, 0)] [] 0 m r16 := am_kp.tr k_r14 (am_kp.mono (kp_X10_setHarm a1 a2 a3 r14 r16 h17) rfl)
            cases h
            exact k_r16
          · rw [if_neg hc13] at h
            cases h
            exact am_kp.rf
        · rw [if_neg hc10] at h
          cases h
          exact am_kp.rf
    · rw [if_neg hc4] at h
      cases h
      exact am_kp.rf
-- X10_harm
set_option maxRecDepth 100000 in
theorem kp_X10_harm (a1 : Int32) (a2 : Int32) (a3 : Int32) (m : am_m) (t : Int32 × am_m) (h : fn_X10_harm a1 a2 a3 m = some t) : am_kp [(10, 0), (10, 1), (10, 8), (43, 0), (44, 0), (46, 0), (47, 0)] [] 0 m t.2 := by
  unfold fn_X10_harm at h
  obtain ⟨r1, h2, h⟩ := am_bd h
  have k_r1 : am_kp [(10, 0), (10, 1), (10, 8), (43, 0), (44, 0), (46, 0), (47, 0)] [] 0 m r1.2 := am_kp.tr (am_kp.si am_kp.rf rfl) (am_kp.mono (kp_X10_harmNow a1 a2 a3 (am_si m 10 0 0 0) r1 h2) rfl)
  obtain ⟨r3, h4, h⟩ := am_bd h
  have k_r3 : am_kp [(10, 0), (10, 1), (10, 8), (43, 0), (44, 0), (46, 0), (47, 0)] [] 0 m r3.2 := am_kp.tr k_r1 (am_kp.mono (kp_X10_tell r1.1 r1.2 r3 h4) rfl)
  cases h
  exact k_r3
-- X10_feastIt
set_option maxRecDepth 100000 in
theorem kl_X10_feastIt_2 {n : Nat} {x1 : Int32} {x2 : Int32} {m : am_m} {t : am_m} (h : lp_X10_feastIt_2 n x1 x2 m = some t) : am_kp [(10, 34), (10, 38), (44, 0), (56, 0)] [(10, 39), (10, 40), (85, 0), (87, 0)] 0 m t := by
  induction n generalizing x2 m with
  | zero => cases h
  | succ n ih =>
    unfold lp_X10_feastIt_2 at h
    by_cases hc1 : (m.1 44 0 0) ≤ x2
    · rw [if_pos hc1] at h
      cases h
      exact am_kp.rf
    · rw [if_neg hc1] at h
      obtain ⟨r2, h3, h⟩ := am_bd h
      obtain ⟨q9, h10, h⟩ := am_bd h
      have k_q9 : am_kp [(10, 34), (10, 38), (44, 0), (56, 0)] [(10, 39), (10, 40), (85, 0), (87, 0)] 0 m q9.2 := by
        have h := h10
        by_cases hc4 : r2 = 0
        · rw [if_pos hc4] at h
          cases h
          exact am_kp.rf
        · rw [if_neg hc4] at h
          obtain ⟨r5, h6, h⟩ := am_bd h
          obtain ⟨r7, h8, h⟩ := am_bd h
          have k_r7 : am_kp [(10, 34), (10, 38), (44, 0), (56, 0)] [(10, 39), (10, 40), (85, 0), (87, 0)] 0 m r7.2 := am_kp.tr am_kp.rf (am_kp.mono (kp_X10_feedsAt x2 r5 m r7 h8) rfl)
          cases h
          exact k_r7
      obtain ⟨hg11, h⟩ := am_ck_some h
      exact am_kp.tr (am_kp.si k_q9 rfl) (ih h)
set_option maxRecDepth 100000 in
theorem kl_X10_feastIt_47 {n : Nat} {x2 : Int32} {m : am_m} {t : am_m} (h : lp_X10_feastIt_47 n x2 m = some t) : am_kp [(10, 34), (10, 38), (44, 0), (56, 0)] [(10, 39), (10, 40), (85, 0), (87, 0)] 0 m t := by
  induction n generalizing x2 m with
  | zero => cases h
  | succ n ih =>
    unfold lp_X10_feastIt_47 at h
    by_cases hc14 : (m.1 44 0 0) ≤ x2
    · rw [if_pos hc14] at h
      cases h
      exact am_kp.rf
    · rw [if_neg hc14] at h
      obtain ⟨hg15, h⟩ := am_ck_some h
      obtain ⟨hg16, h⟩ := am_ck_some h
      obtain ⟨r17, h18, h⟩ := am_bd h
      obtain ⟨hg19, h⟩ := am_ck_some h
      exact am_kp.tr (am_kp.si am_kp.rf rfl) (ih h)
set_option maxRecDepth 100000 in
theorem kp_X10_feastIt (a1 : Int32) (m : am_m) (t : am_m) (h : fn_X10_feastIt a1 m = some t) : am_kp [(10, 34), (10, 38), (44, 0), (56, 0)] [(10, 39), (10, 40), (85, 0), (87, 0)] 0 m t := by
  unfold fn_X10_feastIt at h
  obtain ⟨q12, h13, h⟩ := am_bd h
  have k_q12 : am_kp [(10, 34), (10, 38), (44, 0), (56, 0)] [(10, 39), (10, 40), (85, 0), (87, 0)] 0 m q12 := am_kp.tr am_kp.rf (kl_X10_feastIt_2 (h := h13))
  obtain ⟨q20, h21, h⟩ := am_bd h
  have k_q20 : am_kp [(10, 34), (10, 38), (44, 0), (56, 0)] [(10, 39), (10, 40), (85, 0), (87, 0)] 0 m q20 := am_kp.tr k_q12 (kl_X10_feastIt_47 (h := h21))
  cases h
  exact k_q20
-- X10_feastNow
set_option maxRecDepth 100000 in
theorem kp_X10_feastNow (a1 : Int32) (m : am_m) (t : Int32 × am_m) (h : fn_X10_feastNow a1 m = some t) : am_kp [(10, 8), (10, 34), (10, 38), (44, 0), (46, 0), (47, 0), (56, 0), (92, 0), (93, 0)] [(10, 39), (10, 40), (85, 0), (87, 0)] 0 m t.2 := by
  unfold fn_X10_feastNow at h
  obtain ⟨r1, h2, h⟩ := am_bd h
  by_cases hc3 : r1 ≠ 0
  · rw [if_pos hc3] at h
    obtain ⟨r4, h5, h⟩ := am_bd h
    by_cases hc6 : r4 ≠ 0
    · rw [if_pos hc6] at h
      obtain ⟨r7, h8, h⟩ := am_bd h
      have k_r7 : am_kp [(10, 8), (10, 34), (10, 38), (44, 0), (46, 0), (47, 0), (56, 0), (92, 0), (93, 0)] [(10, 39), (10, 40), (85, 0), (87, 0)] 0 m r7 := am_kp.tr am_kp.rf (am_kp.mono (kp_X10_layMay  m r7 h8) rfl)
      obtain ⟨r9, h10, h⟩ := am_bd h
      by_cases hc11 : r9 ≠ 0
      · rw [if_pos hc11] at h
        obtain ⟨r12, h13, h⟩ := am_bd h
        have k_r12 : am_kp [(10, 8), (10, 34), (10, 38), (44, 0), (46, 0), (47, 0), (56, 0), (92, 0), (93, 0)] [(10, 39), (10, 40), (85, 0), (87, 0)] 0 m r12 := am_kp.tr k_r7 (am_kp.mono (kp_X10_remember 1 r7 r12 h13) rfl)
        obtain ⟨r14, h15, h⟩ := am_bd h
        have k_r14 : am_kp [(10, 8), (10, 34), (10, 38), (44, 0), (46, 0), (47, 0), (56, 0), (92, 0), (93, 0)] [(10, 39), (10, 40), (85, 0), (87, 0)] 0 m r14 := am_kp.tr k_r12 (am_kp.mono (kp_X10_feastIt a1 r12 r14 h15) rfl)
        obtain ⟨r16, h17, h⟩ := am_bd h
        cases h
        exact k_r14
      · rw [if_neg hc11] at h
        cases h
        exact k_r7
    · rw [if_neg hc6] at h
      cases h
      exact am_kp.rf
  · rw [if_neg hc3] at h
    cases h
    exact am_kp.rf
-- X10_feast
set_option maxRecDepth 100000 in
theorem kp_X10_feast (a1 : Int32) (m : am_m) (t : Int32 × am_m) (h : fn_X10_feast a1 m = some t) : am_kp [(10, 0), (10, 1), (10, 8), (10, 34), (10, 38), (43, 0), (44, 0), (46, 0), (47, 0), (56, 0), (92, 0), (93, 0)] [(10, 39), (10, 40), (85, 0), (87, 0)] 0 m t.2 := by
  unfold fn_X10_feast at h
  obtain ⟨r1, h2, h⟩ := am_bd h
  have k_r1 : am_kp [(10, 0), (10, 1), (10, 8), (10, 34), (10, 38), (43, 0), (44, 0), (46, 0), (47, 0), (56, 0), (92, 0), (93, 0)] [(10, 39), (10, 40), (85, 0), (87, 0)] 0 m r1.2 := am_kp.tr (am_kp.si am_kp.rf rfl) (am_kp.mono (kp_X10_feastNow a1 (am_si m 10 0 0 0) r1 h2) rfl)
  obtain ⟨r3, h4, h⟩ := am_bd h
  have k_r3 : am_kp [(10, 0), (10, 1), (10, 8), (10, 34), (10, 38), (43, 0), (44, 0), (46, 0), (47, 0), (56, 0), (92, 0), (93, 0)] [(10, 39), (10, 40), (85, 0), (87, 0)] 0 m r3.2 := am_kp.tr k_r1 (am_kp.mono (kp_X10_tell r1.1 r1.2 r3 h4) rfl)
  cases h
  exact k_r3
-- X10_pardonNow
set_option maxRecDepth 100000 in
theorem kp_X10_pardonNow (a1 : Int32) (a2 : Int32) (m : am_m) (t : Int32 × am_m) (h : fn_X10_pardonNow a1 a2 m = some t) : am_kp [(10, 8), (44, 0), (46, 0), (47, 0)] [] 0 m t.2 := by
  unfold fn_X10_pardonNow at h
  by_cases hc1 : a1 ≠ a2
  · rw [if_pos hc1] at h
    obtain ⟨r2, h3, h⟩ := am_bd h
    by_cases hc4 : r2 = 0
    · rw [if_pos hc4] at h
      cases h
      exact am_kp.rf
    · rw [if_neg hc4] at h
      obtain ⟨r5, h6, h⟩ := am_bd h
      by_cases hc7 : r5 ≠ 0
      · rw [if_pos hc7] at h
        obtain ⟨r8, h9, h⟩ := am_bd h
        by_cases hc10 : r8 ≠ 0
        · rw [if_pos hc10] at h
          obtain ⟨r11, h12, h⟩ := am_bd h
          have k_r11 : am_kp [(10, 8), (44, 0), (46, 0), (47, 0)] [] 0 m r11 := am_kp.tr am_kp.rf (am_kp.mono (kp_X10_remember 2 m r11 h12) rfl)
          obtain ⟨hg13, h⟩ := am_ck_some h
          cases h
          exact (am_kp.si k_r11 rfl)
        · rw [if_neg hc10] at h
          cases h
          exact am_kp.rf
      · rw [if_neg hc7] at h
        cases h
        exact am_kp.rf
  · rw [if_neg hc1] at h
    cases h
    exact am_kp.rf
-- X10_pardon
set_option maxRecDepth 100000 in
theorem kp_X10_pardon (a1 : Int32) (a2 : Int32) (m : am_m) (t : Int32 × am_m) (h : fn_X10_pardon a1 a2 m = some t) : am_kp [(10, 0), (10, 1), (10, 8), (43, 0), (44, 0), (46, 0), (47, 0)] [] 0 m t.2 := by
  unfold fn_X10_pardon at h
  obtain ⟨r1, h2, h⟩ := am_bd h
  have k_r1 : am_kp [(10, 0), (10, 1), (10, 8), (43, 0), (44, 0), (46, 0), (47, 0)] [] 0 m r1.2 := am_kp.tr (am_kp.si am_kp.rf rfl) (am_kp.mono (kp_X10_pardonNow a1 a2 (am_si m 10 0 0 0) r1 h2) rfl)
  obtain ⟨r3, h4, h⟩ := am_bd h
  have k_r3 : am_kp [(10, 0), (10, 1), (10, 8), (43, 0), (44, 0), (46, 0), (47, 0)] [] 0 m r3.2 := am_kp.tr k_r1 (am_kp.mono (kp_X10_tell r1.1 r1.2 r3 h4) rfl)
  cases h
  exact k_r3
-- X10_passIt
set_option maxRecDepth 100000 in
theorem kl_X10_passIt_2 {n : Nat} {x1 : Int32} {m : am_m} {t : am_m} (h : lp_X10_passIt_2 n x1 m = some t) : am_kp [(10, 34), (10, 38), (44, 0), (56, 0)] [(10, 39), (10, 40), (85, 0), (87, 0)] 0 m t := by
  induction n generalizing x1 m with
  | zero => cases h
  | succ n ih =>
    unfold lp_X10_passIt_2 at h
    by_cases hc1 : (m.1 44 0 0) ≤ x1
    · rw [if_pos hc1] at h
      cases h
      exact am_kp.rf
    · rw [if_neg hc1] at h
      obtain ⟨r2, h3, h⟩ := am_bd h
      have k_r2 : am_kp [(10, 34), (10, 38), (44, 0), (56, 0)] [(10, 39), (10, 40), (85, 0), (87, 0)] 0 m r2.2 := am_kp.tr am_kp.rf (am_kp.mono (kp_X10_hungersBy x1 m r2 h3) rfl)
      obtain ⟨hg4, h⟩ := am_ck_some h
      exact am_kp.tr (am_kp.si k_r2 rfl) (ih h)
set_option maxRecDepth 100000 in
theorem kl_X10_passIt_31 {n : Nat} {x1 : Int32} {m : am_m} {t : am_m} (h : lp_X10_passIt_31 n x1 m = some t) : am_kp [(10, 34), (10, 38), (44, 0), (56, 0)] [(10, 39), (10, 40), (85, 0), (87, 0)] 0 m t := by
  induction n generalizing x1 m with
  | zero => cases h
  | succ n ih =>
    unfold lp_X10_passIt_31 at h
    by_cases hc7 : (m.1 44 0 0) ≤ x1
    · rw [if_pos hc7] at h
      cases h
      exact am_kp.rf
    · rw [if_neg hc7] at h
      obtain ⟨hg8, h⟩ := am_ck_some h
      obtain ⟨hg9, h⟩ := am_ck_some h
      obtain ⟨r10, h11, h⟩ := am_bd h
      obtain ⟨hg12, h⟩ := am_ck_some h
      exact am_kp.tr (am_kp.si am_kp.rf rfl) (ih h)
set_option maxRecDepth 100000 in
theorem kp_X10_passIt  (m : am_m) (t : am_m) (h : fn_X10_passIt  m = some t) : am_kp [(10, 34), (10, 38), (44, 0), (56, 0)] [(10, 39), (10, 40), (85, 0), (87, 0)] 0 m t := by
  unfold fn_X10_passIt at h
  obtain ⟨q5, h6, h⟩ := am_bd h
  have k_q5 : am_kp [(10, 34), (10, 38), (44, 0), (56, 0)] [(10, 39), (10, 40), (85, 0), (87, 0)] 0 m q5 := am_kp.tr am_kp.rf (kl_X10_passIt_2 (h := h6))
  obtain ⟨q13, h14, h⟩ := am_bd h
  have k_q13 : am_kp [(10, 34), (10, 38), (44, 0), (56, 0)] [(10, 39), (10, 40), (85, 0), (87, 0)] 0 m q13 := am_kp.tr k_q5 (kl_X10_passIt_31 (h := h14))
  cases h
  exact (am_kp.si k_q13 rfl)
-- X10_passNow
set_option maxRecDepth 100000 in
theorem kp_X10_passNow  (m : am_m) (t : Int32 × am_m) (h : fn_X10_passNow  m = some t) : am_kp [(10, 8), (10, 34), (10, 38), (44, 0), (46, 0), (47, 0), (56, 0)] [(10, 39), (10, 40), (85, 0), (87, 0)] 0 m t.2 := by
  unfold fn_X10_passNow at h
  by_cases hc1 : (m.1 44 0 4) ≠ (999 : Int32)
  · rw [if_pos hc1] at h
    obtain ⟨r2, h3, h⟩ := am_bd h
    have k_r2 : am_kp [(10, 8), (10, 34), (10, 38), (44, 0), (46, 0), (47, 0), (56, 0)] [(10, 39), (10, 40), (85, 0), (87, 0)] 0 m r2 := am_kp.tr am_kp.rf (am_kp.mono (kp_X10_remember 3 m r2 h3) rfl)
    obtain ⟨r4, h5, h⟩ := am_bd h
    have k_r4 : am_kp [(10, 8), (10, 34), (10, 38), (44, 0), (46, 0), (47, 0), (56, 0)] [(10, 39), (10, 40), (85, 0), (87, 0)] 0 m r4 := am_kp.tr k_r2 (am_kp.mono (kp_X10_passIt  r2 r4 h5) rfl)
    obtain ⟨r6, h7, h⟩ := am_bd h
    cases h
    exact k_r4
  · rw [if_neg hc1] at h
    cases h
    exact am_kp.rf
-- X10_pass
set_option maxRecDepth 100000 in
theorem kp_X10_pass  (m : am_m) (t : Int32 × am_m) (h : fn_X10_pass  m = some t) : am_kp [(10, 0), (10, 1), (10, 8), (10, 34), (10, 38), (43, 0), (44, 0), (46, 0), (47, 0), (56, 0)] [(10, 39), (10, 40), (85, 0), (87, 0)] 0 m t.2 := by
  unfold fn_X10_pass at h
  obtain ⟨r1, h2, h⟩ := am_bd h
  have k_r1 : am_kp [(10, 0), (10, 1), (10, 8), (10, 34), (10, 38), (43, 0), (44, 0), (46, 0), (47, 0), (56, 0)] [(10, 39), (10, 40), (85, 0), (87, 0)] 0 m r1.2 := am_kp.tr (am_kp.si am_kp.rf rfl) (am_kp.mono (kp_X10_passNow  (am_si m 10 0 0 0) r1 h2) rfl)
  obtain ⟨r3, h4, h⟩ := am_bd h
  have k_r3 : am_kp [(10, 0), (10, 1), (10, 8), (10, 34), (10, 38), (43, 0), (44, 0), (46, 0), (47, 0), (56, 0)] [(10, 39), (10, 40), (85, 0), (87, 0)] 0 m r3.2 := am_kp.tr k_r1 (am_kp.mono (kp_X10_tell r1.1 r1.2 r3 h4) rfl)
  cases h
  exact k_r3
-- X10_largest
set_option maxRecDepth 100000 in
theorem kp_X10_largest (a1 : Int32) (m : am_m) (t : Int32 × am_m) (h : fn_X10_largest a1 m = some t) : am_kp [(10, 0), (10, 34), (10, 38), (92, 0), (93, 0)] [(10, 39), (10, 40), (85, 0), (87, 0)] 0 m t.2 := by
  unfold fn_X10_largest at h
  obtain ⟨r1, h2, h⟩ := am_bd h
  have k_r1 : am_kp [(10, 0), (10, 34), (10, 38), (92, 0), (93, 0)] [(10, 39), (10, 40), (85, 0), (87, 0)] 0 m r1 := am_kp.tr (am_kp.si am_kp.rf rfl) (am_kp.mono (kp_X10_layMay  (am_si m 10 0 0 0) r1 h2) rfl)
  obtain ⟨r3, h4, h⟩ := am_bd h
  by_cases hc5 : r3 = 0
  · rw [if_pos hc5] at h
    cases h
    exact k_r1
  · rw [if_neg hc5] at h
    obtain ⟨r6, h7, h⟩ := am_bd h
    by_cases hc8 : r6 ≠ 0
    · rw [if_pos hc8] at h
      by_cases hc9 : a1 ≠ 0
      · rw [if_pos hc9] at h
        cases h
        exact k_r1
      · rw [if_neg hc9] at h
        obtain ⟨r10, h11, h⟩ := am_bd h
        cases h
        exact k_r1
    · rw [if_neg hc8] at h
      cases h
      exact k_r1
-- X10_findParts
set_option maxRecDepth 100000 in
theorem kl_X10_findParts_111 {n : Nat} {x1 : Int32} {x2 : Int32} {x3 : Int32} {x4 : Int32} {m : am_m} {t : am_m} (h : lp_X10_findParts_111 n x1 x2 x3 x4 m = some t) : am_kp [(10, 46), (57, 0), (58, 0)] [] 0 m t := by
  induction n generalizing x4 m with
  | zero => cases h
  | succ n ih =>
    unfold lp_X10_findParts_111 at h
    by_cases hc18 : x2 ≤ x4
    · rw [if_pos hc18] at h
      cases h
      exact am_kp.rf
    · rw [if_neg hc18] at h
      by_cases hc19 : (m.1 10 0 46) ≤ x3
      · rw [if_pos hc19] at h
        cases h
        exact am_kp.rf
      · rw [if_neg hc19] at h
        obtain ⟨hg20, h⟩ := am_ck_some h
        obtain ⟨hg21, h⟩ := am_ck_some h
        exact am_kp.tr (am_kp.si am_kp.rf rfl) (ih h)
set_option maxRecDepth 100000 in
theorem kl_X10_findParts_32 {n : Nat} {x1 : Int32} {x2 : Int32} {m : am_m} {t : am_m} (h : lp_X10_findParts_32 n x1 x2 m = some t) : am_kp [(10, 46), (57, 0), (58, 0)] [] 0 m t := by
  induction n generalizing x2 m with
  | zero => cases h
  | succ n ih =>
    unfold lp_X10_findParts_32 at h
    by_cases hc4 : x2 < 0
    · rw [if_pos hc4] at h
      cases h
      exact am_kp.rf
    · rw [if_neg hc4] at h
      obtain ⟨hg5, h⟩ := am_ck_some h
      obtain ⟨hg6, h⟩ := am_ck_some h
      by_cases hc7 : x2 = (m.1 44 0 0)
      · rw [if_pos hc7] at h
        exact am_kp.tr (am_kp.si am_kp.rf rfl) (ih h)
      · rw [if_neg hc7] at h
        obtain ⟨hg8, h⟩ := am_ck_some h
        obtain ⟨r9, h10, h⟩ := am_bd h
        by_cases hc11 : ((am_si m 57 0 x2.toNatClampNeg ((m.1 57 0 x2.toNatClampNeg) + (1 : Int32))).1 57 0 x2.toNatClampNeg) ≤ r9
        · rw [if_pos hc11] at h
          obtain ⟨hg12, h⟩ := am_ck_some h
          obtain ⟨q16, h17, h⟩ := am_bd h
          obtain ⟨q22, h23, h⟩ := am_bd h
          have k_q22 : am_kp [(10, 46), (57, 0), (58, 0)] [] 0 m q22 := am_kp.tr (am_kp.si (am_kp.si am_kp.rf rfl) rfl) (kl_X10_findParts_111 (h := h23))
          exact am_kp.tr (am_kp.si k_q22 rfl) (ih h)
        · rw [if_neg hc11] at h
          exact am_kp.tr (am_kp.si am_kp.rf rfl) (ih h)
set_option maxRecDepth 100000 in
theorem kp_X10_findParts (a1 : Int32) (m : am_m) (t : am_m) (h : fn_X10_findParts a1 m = some t) : am_kp [(10, 46), (57, 0), (58, 0)] [] 0 m t := by
  unfold fn_X10_findParts at h
  obtain ⟨q2, h3, h⟩ := am_bd h
  have k_q2 : am_kp [(10, 46), (57, 0), (58, 0)] [] 0 m q2.2 := by
    have h := h3
    by_cases hc1 : (m.1 44 0 0) ≠ 0
    · rw [if_pos hc1] at h
      cases h
      exact (am_kp.si (am_kp.si am_kp.rf rfl) rfl)
    · rw [if_neg hc1] at h
      cases h
      exact (am_kp.si (am_kp.si (am_kp.si am_kp.rf rfl) rfl) rfl)
  obtain ⟨q25, h26, h⟩ := am_bd h
  have k_q25 : am_kp [(10, 46), (57, 0), (58, 0)] [] 0 m q25 := am_kp.tr k_q2 (kl_X10_findParts_32 (h := h26))
  cases h
  exact k_q25
-- X10_tables
set_option maxRecDepth 100000 in
theorem kp_X10_tables (a1 : Int32) (m : am_m) (t : Int32 × am_m) (h : fn_X10_tables a1 m = some t) : am_kp [(10, 0), (10, 34), (10, 38), (10, 46), (57, 0), (58, 0), (92, 0), (93, 0)] [(10, 39), (10, 40), (85, 0), (87, 0)] 0 m t.2 := by
  unfold fn_X10_tables at h
  obtain ⟨r1, h2, h⟩ := am_bd h
  by_cases hc3 : r1 ≠ 0
  · rw [if_pos hc3] at h
    obtain ⟨r4, h5, h⟩ := am_bd h
    have k_r4 : am_kp [(10, 0), (10, 34), (10, 38), (10, 46), (57, 0), (58, 0), (92, 0), (93, 0)] [(10, 39), (10, 40), (85, 0), (87, 0)] 0 m r4 := am_kp.tr (am_kp.si am_kp.rf rfl) (am_kp.mono (kp_X10_layMay  (am_si m 10 0 0 0) r4 h5) rfl)
    obtain ⟨r6, h7, h⟩ := am_bd h
    have k_r6 : am_kp [(10, 0), (10, 34), (10, 38), (10, 46), (57, 0), (58, 0), (92, 0), (93, 0)] [(10, 39), (10, 40), (85, 0), (87, 0)] 0 m r6 := am_kp.tr k_r4 (am_kp.mono (kp_X10_findParts 1 r4 r6 h7) rfl)
    by_cases hc8 : (r6.1 10 0 46) ≠ (100000000 : Int32)
    · rw [if_pos hc8] at h
      by_cases hc9 : a1 ≠ 0
      · rw [if_pos hc9] at h
        obtain ⟨hg10, h⟩ := am_ck_some h
        cases h
        exact k_r6
      · rw [if_neg hc9] at h
        cases h
        exact k_r6
    · rw [if_neg hc8] at h
      cases h
      exact k_r6
  · rw [if_neg hc3] at h
    cases h
    exact (am_kp.si am_kp.rf rfl)
