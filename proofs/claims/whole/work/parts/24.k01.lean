-- X5_clear
set_option maxRecDepth 100000 in
theorem kp_X5_clear (a0 : Nat) (m : am_m) (t : am_m) (h : fn_X5_clear a0 m = some t) : am_kp [(5, 2), (5, 3), (5, 4)] [] 0 m t := by
  unfold fn_X5_clear at h
  cases h
  exact (am_kp.si (am_kp.si (am_kp.si am_kp.rf rfl) rfl) rfl)
-- X4_readWhole
set_option maxRecDepth 100000 in
theorem kl_X4_readWhole_39 {n : Nat} {x3 : Int32} {m : am_m} {t : Sum (am_m) (Int32 × am_m)} (h : lp_X4_readWhole_39 n x3 m = some t) : (∀ t', t = .inl t' → am_kp [(4, 4), (4, 5), (4, 6), (4, 7), (4, 8), (4, 9), (4, 10), (5, 2), (5, 3), (5, 4), (7, 1), (25, 0), (26, 0), (27, 0), (28, 0), (29, 0)] [] 0 m t') ∧ (∀ t', t = .inr t' → am_kp [(4, 4), (4, 5), (4, 6), (4, 7), (4, 8), (4, 9), (4, 10), (5, 2), (5, 3), (5, 4), (7, 1), (25, 0), (26, 0), (27, 0), (28, 0), (29, 0)] [] 0 m t'.2) := by
  induction n generalizing x3 m with
  | zero => cases h
  | succ n ih =>
    unfold lp_X4_readWhole_39 at h
    by_cases hc8 : (12 : Int32) ≤ x3
    · rw [if_pos hc8] at h
      cases h
      exact ⟨fun _ he => (by cases he; exact am_kp.rf), fun _ he => (by cases he)⟩
    · rw [if_neg hc8] at h
      obtain ⟨r9, h10, h⟩ := am_bd h
      have k_r9 : am_kp [(4, 4), (4, 5), (4, 6), (4, 7), (4, 8), (4, 9), (4, 10), (5, 2), (5, 3), (5, 4), (7, 1), (25, 0), (26, 0), (27, 0), (28, 0), (29, 0)] [] 0 m r9.2 := am_kp.tr am_kp.rf (am_kp.mono (kp_X4_readClause  m r9 h10) rfl)
      by_cases hc11 : r9.1 ≠ 0
      · rw [if_pos hc11] at h
        by_cases hc12 : (r9.2.1 4 0 6) ≠ (257 : Int32)
        · rw [if_pos hc12] at h
          obtain ⟨r13, h14, h⟩ := am_bd h
          have k_r13 : am_kp [(4, 4), (4, 5), (4, 6), (4, 7), (4, 8), (4, 9), (4, 10), (5, 2), (5, 3), (5, 4), (7, 1), (25, 0), (26, 0), (27, 0), (28, 0), (29, 0)] [] 0 m r13.2 := am_kp.tr k_r9 (am_kp.mono (kp_X4_took 59 r9.2 r13 h14) rfl)
          by_cases hc15 : r13.1 ≠ 0
          · rw [if_pos hc15] at h
            exact ⟨fun t' he => am_kp.tr k_r13 ((ih h).1 t' he), fun t' he => am_kp.tr k_r13 ((ih h).2 t' he)⟩
          · rw [if_neg hc15] at h
            cases h
            exact ⟨fun _ he => (by cases he), fun _ he => (by cases he; exact k_r13)⟩
        · rw [if_neg hc12] at h
          cases h
          exact ⟨fun _ he => (by cases he), fun _ he => (by cases he; exact k_r9)⟩
      · rw [if_neg hc11] at h
        cases h
        exact ⟨fun _ he => (by cases he), fun _ he => (by cases he; exact k_r9)⟩
set_option maxRecDepth 100000 in
theorem kp_X4_readWhole (a2 : Int32) (m : am_m) (t : Int32 × am_m) (h : fn_X4_readWhole a2 m = some t) : am_kp [(4, 4), (4, 5), (4, 6), (4, 7), (4, 8), (4, 9), (4, 10), (5, 2), (5, 3), (5, 4), (7, 1), (25, 0), (26, 0), (27, 0), (28, 0), (29, 0)] [] 0 m t.2 := by
  unfold fn_X4_readWhole at h
  obtain ⟨r1, h2, h⟩ := am_bd h
  have k_r1 : am_kp [(4, 4), (4, 5), (4, 6), (4, 7), (4, 8), (4, 9), (4, 10), (5, 2), (5, 3), (5, 4), (7, 1), (25, 0), (26, 0), (27, 0), (28, 0), (29, 0)] [] 0 m r1 := am_kp.tr am_kp.rf (am_kp.mono (kp_X4_split  m r1 h2) rfl)
  obtain ⟨r3, h4, h⟩ := am_bd h
  have k_r3 : am_kp [(4, 4), (4, 5), (4, 6), (4, 7), (4, 8), (4, 9), (4, 10), (5, 2), (5, 3), (5, 4), (7, 1), (25, 0), (26, 0), (27, 0), (28, 0), (29, 0)] [] 0 m r3 := am_kp.tr (am_kp.si k_r1 rfl) (am_kp.mono (kp_X5_clear 0 (am_si r1 7 0 1 0) r3 h4) rfl)
  obtain ⟨hz5, h⟩ := am_gd_some h
  obtain ⟨r6, h7, h⟩ := am_bd h
  have k_r6 : am_kp [(4, 4), (4, 5), (4, 6), (4, 7), (4, 8), (4, 9), (4, 10), (5, 2), (5, 3), (5, 4), (7, 1), (25, 0), (26, 0), (27, 0), (28, 0), (29, 0)] [] 0 m r6 := am_kp.tr (am_kp.si (am_kp.si (am_kp.si k_r3 rfl) rfl) rfl) (am_kp.mono (kp_X4_goTo 0 (am_si (am_si (am_si r3 4 0 8 0) 4 0 9 a2) 4 0 10 (-1)) r6 h7) rfl)
  obtain ⟨w22, h17, h⟩ := am_bd h
  rcases w22 with q16 | rr21
  · have k_q16 : am_kp [(4, 4), (4, 5), (4, 6), (4, 7), (4, 8), (4, 9), (4, 10), (5, 2), (5, 3), (5, 4), (7, 1), (25, 0), (26, 0), (27, 0), (28, 0), (29, 0)] [] 0 m q16 := am_kp.tr k_r6 ((kl_X4_readWhole_39 (h := h17)).1 _ rfl)
    dsimp only at h
    obtain ⟨r18, h19, h⟩ := am_bd h
    have k_r18 : am_kp [(4, 4), (4, 5), (4, 6), (4, 7), (4, 8), (4, 9), (4, 10), (5, 2), (5, 3), (5, 4), (7, 1), (25, 0), (26, 0), (27, 0), (28, 0), (29, 0)] [] 0 m r18.2 := am_kp.tr k_q16 (am_kp.mono (kp_X4_failed  q16 r18 h19) rfl)
    obtain ⟨hz20, h⟩ := am_gd_some h
    cases h
    exact k_r18
  · cases h
    exact am_kp.tr k_r6 ((kl_X4_readWhole_39 (h := h17)).2 _ rfl)
-- X6_lookAt
set_option maxRecDepth 100000 in
theorem kl_X6_lookAt_15 {n : Nat} {x2 : Int32} {m : am_m} {t : am_m} (h : lp_X6_lookAt_15 n x2 m = some t) : am_kp [(6, 0), (20, 0), (30, 0)] [(80, 0)] 0 m t := by
  induction n generalizing x2 m with
  | zero => cases h
  | succ n ih =>
    unfold lp_X6_lookAt_15 at h
    by_cases hc5 : (m.1 6 0 0) ≤ x2
    · rw [if_pos hc5] at h
      cases h
      exact am_kp.rf
    · rw [if_neg hc5] at h
      obtain ⟨hg6, h⟩ := am_ck_some h
      exact am_kp.tr (am_kp.si am_kp.rf rfl) (ih h)
set_option maxRecDepth 100000 in
theorem kl_X6_lookAt_50 {n : Nat} {x2 : Int32} {x3 : Int32} {m : am_m} {t : am_m} (h : lp_X6_lookAt_50 n x2 x3 m = some t) : am_kp [(6, 0), (20, 0), (30, 0)] [(80, 0)] 0 m t := by
  induction n generalizing x3 m with
  | zero => cases h
  | succ n ih =>
    unfold lp_X6_lookAt_50 at h
    by_cases hc10 : (m.1 6 0 0) ≤ x3
    · rw [if_pos hc10] at h
      cases h
      exact am_kp.rf
    · rw [if_neg hc10] at h
      obtain ⟨r11, h12, h⟩ := am_bd h
      have k_r11 : am_kp [(6, 0), (20, 0), (30, 0)] [(80, 0)] 0 m r11.2 := am_kp.tr am_kp.rf (am_kp.mono (kp_X1_maySit x2 x3 m r11 h12) rfl)
      obtain ⟨q18, h19, h⟩ := am_bd h
      have k_q18 : am_kp [(6, 0), (20, 0), (30, 0)] [(80, 0)] 0 m q18 := by
        have h := h19
        by_cases hc13 : r11.1 = 0
        · rw [if_pos hc13] at h
          cases h
          exact k_r11
        · rw [if_neg hc13] at h
          obtain ⟨hg14, h⟩ := am_ck_some h
          obtain ⟨hg15, h⟩ := am_ck_some h
          obtain ⟨hg16, h⟩ := am_ck_some h
          obtain ⟨hg17, h⟩ := am_ck_some h
          cases h
          exact (am_kp.si (am_kp.si k_r11 rfl) rfl)
      exact am_kp.tr k_q18 (ih h)
set_option maxRecDepth 100000 in
theorem kl_X6_lookAt_38 {n : Nat} {x2 : Int32} {m : am_m} {t : am_m} (h : lp_X6_lookAt_38 n x2 m = some t) : am_kp [(6, 0), (20, 0), (30, 0)] [(80, 0)] 0 m t := by
  induction n generalizing x2 m with
  | zero => cases h
  | succ n ih =>
    unfold lp_X6_lookAt_38 at h
    by_cases hc9 : (m.1 6 0 0) ≤ x2
    · rw [if_pos hc9] at h
      cases h
      exact am_kp.rf
    · rw [if_neg hc9] at h
      obtain ⟨q20, h21, h⟩ := am_bd h
      have k_q20 : am_kp [(6, 0), (20, 0), (30, 0)] [(80, 0)] 0 m q20 := am_kp.tr am_kp.rf (kl_X6_lookAt_50 (h := h21))
      exact am_kp.tr k_q20 (ih h)
set_option maxRecDepth 100000 in
theorem kp_X6_lookAt  (m : am_m) (t : am_m) (h : fn_X6_lookAt  m = some t) : am_kp [(6, 0), (20, 0), (30, 0)] [(80, 0)] 0 m t := by
  unfold fn_X6_lookAt at h
  obtain ⟨r1, h2, h⟩ := am_bd h
  obtain ⟨r3, h4, h⟩ := am_bd h
  obtain ⟨q7, h8, h⟩ := am_bd h
  have k_q7 : am_kp [(6, 0), (20, 0), (30, 0)] [(80, 0)] 0 m q7 := am_kp.tr (am_kp.si am_kp.rf rfl) (kl_X6_lookAt_15 (h := h8))
  obtain ⟨q22, h23, h⟩ := am_bd h
  have k_q22 : am_kp [(6, 0), (20, 0), (30, 0)] [(80, 0)] 0 m q22 := am_kp.tr k_q7 (kl_X6_lookAt_38 (h := h23))
  cases h
  exact k_q22
-- X6_lookAtBars
set_option maxRecDepth 100000 in
theorem kl_X6_lookAtBars_2 {n : Nat} {x2 : Int32} {m : am_m} {t : am_m} (h : lp_X6_lookAtBars_2 n x2 m = some t) : am_kp [(20, 0), (31, 0)] [(80, 0)] 0 m t := by
  induction n generalizing x2 m with
  | zero => cases h
  | succ n ih =>
    unfold lp_X6_lookAtBars_2 at h
    by_cases hc1 : (m.1 6 0 0) ≤ x2
    · rw [if_pos hc1] at h
      cases h
      exact am_kp.rf
    · rw [if_neg hc1] at h
      obtain ⟨hg2, h⟩ := am_ck_some h
      exact am_kp.tr (am_kp.si am_kp.rf rfl) (ih h)
set_option maxRecDepth 100000 in
theorem kl_X6_lookAtBars_37 {n : Nat} {x2 : Int32} {x3 : Int32} {m : am_m} {t : am_m} (h : lp_X6_lookAtBars_37 n x2 x3 m = some t) : am_kp [(20, 0), (31, 0)] [(80, 0)] 0 m t := by
  induction n generalizing x3 m with
  | zero => cases h
  | succ n ih =>
    unfold lp_X6_lookAtBars_37 at h
    by_cases hc6 : (m.1 6 0 0) ≤ x3
    · rw [if_pos hc6] at h
      cases h
      exact am_kp.rf
    · rw [if_neg hc6] at h
      obtain ⟨r7, h8, h⟩ := am_bd h
      have k_r7 : am_kp [(20, 0), (31, 0)] [(80, 0)] 0 m r7.2 := am_kp.tr am_kp.rf (am_kp.mono (kp_X1_isBarred x2 x3 m r7 h8) rfl)
      obtain ⟨q21, h22, h⟩ := am_bd h
      have k_q21 : am_kp [(20, 0), (31, 0)] [(80, 0)] 0 m q21 := by
        have h := h22
        by_cases hc9 : r7.1 ≠ 0
        · rw [if_pos hc9] at h
          obtain ⟨hg10, h⟩ := am_ck_some h
          obtain ⟨hg11, h⟩ := am_ck_some h
          obtain ⟨hg12, h⟩ := am_ck_some h
          obtain ⟨hg13, h⟩ := am_ck_some h
          cases h
          exact (am_kp.si (am_kp.si k_r7 rfl) rfl)
        · rw [if_neg hc9] at h
          obtain ⟨r14, h15, h⟩ := am_bd h
          have k_r14 : am_kp [(20, 0), (31, 0)] [(80, 0)] 0 m r14.2 := am_kp.tr k_r7 (am_kp.mono (kp_X1_isBarred x3 x2 r7.2 r14 h15) rfl)
          by_cases hc16 : r14.1 = 0
          · rw [if_pos hc16] at h
            cases h
            exact k_r14
          · rw [if_neg hc16] at h
            obtain ⟨hg17, h⟩ := am_ck_some h
            obtain ⟨hg18, h⟩ := am_ck_some h
            obtain ⟨hg19, h⟩ := am_ck_some h
            obtain ⟨hg20, h⟩ := am_ck_some h
            cases h
            exact (am_kp.si (am_kp.si k_r14 rfl) rfl)
      exact am_kp.tr k_q21 (ih h)
set_option maxRecDepth 100000 in
theorem kl_X6_lookAtBars_25 {n : Nat} {x2 : Int32} {m : am_m} {t : am_m} (h : lp_X6_lookAtBars_25 n x2 m = some t) : am_kp [(20, 0), (31, 0)] [(80, 0)] 0 m t := by
  induction n generalizing x2 m with
  | zero => cases h
  | succ n ih =>
    unfold lp_X6_lookAtBars_25 at h
    by_cases hc5 : (m.1 6 0 0) ≤ x2
    · rw [if_pos hc5] at h
      cases h
      exact am_kp.rf
    · rw [if_neg hc5] at h
      obtain ⟨q23, h24, h⟩ := am_bd h
      have k_q23 : am_kp [(20, 0), (31, 0)] [(80, 0)] 0 m q23 := am_kp.tr am_kp.rf (kl_X6_lookAtBars_37 (h := h24))
      exact am_kp.tr k_q23 (ih h)
set_option maxRecDepth 100000 in
theorem kp_X6_lookAtBars  (m : am_m) (t : am_m) (h : fn_X6_lookAtBars  m = some t) : am_kp [(20, 0), (31, 0)] [(80, 0)] 0 m t := by
  unfold fn_X6_lookAtBars at h
  obtain ⟨q3, h4, h⟩ := am_bd h
  have k_q3 : am_kp [(20, 0), (31, 0)] [(80, 0)] 0 m q3 := am_kp.tr am_kp.rf (kl_X6_lookAtBars_2 (h := h4))
  obtain ⟨q25, h26, h⟩ := am_bd h
  have k_q25 : am_kp [(20, 0), (31, 0)] [(80, 0)] 0 m q25 := am_kp.tr k_q3 (kl_X6_lookAtBars_25 (h := h26))
  cases h
  exact k_q25
-- X6_findParts
set_option maxRecDepth 100000 in
theorem kl_X6_findParts_31 {n : Nat} {x1 : Int32} {x2 : Int32} {x3 : Int32} {m : am_m} {t : am_m} (h : lp_X6_findParts_31 n x1 x2 x3 m = some t) : am_kp [(90, 0)] [] 0 m t := by
  induction n generalizing x3 m with
  | zero => cases h
  | succ n ih =>
    unfold lp_X6_findParts_31 at h
    by_cases hc8 : x3 ≤ 0
    · rw [if_pos hc8] at h
      cases h
      exact am_kp.rf
    · rw [if_neg hc8] at h
      obtain ⟨hg9, h⟩ := am_ck_some h
      by_cases hc10 : (m.1 90 0 x1.toNatClampNeg) ≠ 0
      · rw [if_pos hc10] at h
        cases h
        exact am_kp.rf
      · rw [if_neg hc10] at h
        obtain ⟨q17, h18, h⟩ := am_bd h
        obtain ⟨hz20, h⟩ := am_gd_some h
        obtain ⟨hg19, h⟩ := am_ck_some h
        exact am_kp.tr (am_kp.si am_kp.rf rfl) (ih h)
set_option maxRecDepth 100000 in
theorem kl_X6_findParts_9 {n : Nat} {x1 : Int32} {m : am_m} {t : am_m} (h : lp_X6_findParts_9 n x1 m = some t) : am_kp [(90, 0)] [] 0 m t := by
  induction n generalizing x1 m with
  | zero => cases h
  | succ n ih =>
    unfold lp_X6_findParts_9 at h
    obtain ⟨r3, h4, h⟩ := am_bd h
    by_cases hc5 : r3 < x1
    · rw [if_pos hc5] at h
      cases h
      exact am_kp.rf
    · rw [if_neg hc5] at h
      obtain ⟨hg6, h⟩ := am_ck_some h
      obtain ⟨q21, h22, h⟩ := am_bd h
      have k_q21 : am_kp [(90, 0)] [] 0 m q21 := am_kp.tr (am_kp.si am_kp.rf rfl) (kl_X6_findParts_31 (h := h22))
      exact am_kp.tr k_q21 (ih h)
set_option maxRecDepth 100000 in
theorem kp_X6_findParts  (m : am_m) (t : am_m) (h : fn_X6_findParts  m = some t) : am_kp [(90, 0)] [] 0 m t := by
  unfold fn_X6_findParts at h
  obtain ⟨hg1, h⟩ := am_ck_some h
  obtain ⟨q23, h24, h⟩ := am_bd h
  have k_q23 : am_kp [(90, 0)] [] 0 m q23 := am_kp.tr (am_kp.si am_kp.rf rfl) (kl_X6_findParts_9 (h := h24))
  cases h
  exact k_q23
-- X6_fewestOut
set_option maxRecDepth 100000 in
theorem kp_X6_fewestOut  (m : am_m) (t : Int32 × am_m) (h : fn_X6_fewestOut  m = some t) : am_kp [(90, 0)] [] 0 m t.2 := by
  unfold fn_X6_fewestOut at h
  obtain ⟨r1, h2, h⟩ := am_bd h
  have k_r1 : am_kp [(90, 0)] [] 0 m r1 := am_kp.tr am_kp.rf (am_kp.mono (kp_X6_findParts  m r1 h2) rfl)
  obtain ⟨r3, h4, h⟩ := am_bd h
  obtain ⟨q19, h20, h⟩ := am_bd h
  cases h
  exact k_r1
-- X6_addTable
set_option maxRecDepth 100000 in
theorem kl_X6_addTable_3 {n : Nat} {x1 : Int32} {x2 : Int32} {m : am_m} {t : am_m} (h : lp_X6_addTable_3 n x1 x2 m = some t) : am_kp [(34, 0)] [] 0 m t := by
  induction n generalizing x2 m with
  | zero => cases h
  | succ n ih =>
    unfold lp_X6_addTable_3 at h
    by_cases hc1 : x2 < 0
    · rw [if_pos hc1] at h
      cases h
      exact am_kp.rf
    · rw [if_neg hc1] at h
      obtain ⟨q14, h15, h⟩ := am_bd h
      have k_q14 : am_kp [(34, 0)] [] 0 m q14 := by
        have h := h15
        by_cases hc2 : (127 : Int32) < (x2 ||| x1)
        · rw [if_pos hc2] at h
          cases h
          exact am_kp.rf
        · rw [if_neg hc2] at h
          obtain ⟨hg3, h⟩ := am_ck_some h
          by_cases hc4 : (m.1 34 0 x2.toNatClampNeg) = (-1 : Int32)
          · rw [if_pos hc4] at h
            cases h
            exact am_kp.rf
          · rw [if_neg hc4] at h
            obtain ⟨hg5, h⟩ := am_ck_some h
            obtain ⟨hg6, h⟩ := am_ck_some h
            obtain ⟨q11, h12, h⟩ := am_bd h
            obtain ⟨hg13, h⟩ := am_ck_some h
            cases h
            exact (am_kp.si am_kp.rf rfl)
      exact am_kp.tr k_q14 (ih h)
set_option maxRecDepth 100000 in
theorem kp_X6_addTable (a1 : Int32) (m : am_m) (t : am_m) (h : fn_X6_addTable a1 m = some t) : am_kp [(34, 0)] [] 0 m t := by
  unfold fn_X6_addTable at h
  obtain ⟨q16, h17, h⟩ := am_bd h
  have k_q16 : am_kp [(34, 0)] [] 0 m q16 := am_kp.tr am_kp.rf (kl_X6_addTable_3 (h := h17))
  cases h
  exact k_q16
-- X6_fewestFeeding
set_option maxRecDepth 100000 in
theorem kl_X6_fewestFeeding_2 {n : Nat} {x1 : Int32} {x2 : Int32} {m : am_m} {t : am_m} (h : lp_X6_fewestFeeding_2 n x1 x2 m = some t) : am_kp [(34, 0)] [] 0 m t := by
  induction n generalizing x2 m with
  | zero => cases h
  | succ n ih =>
    unfold lp_X6_fewestFeeding_2 at h
    by_cases hc1 : (127 : Int32) < x2
    · rw [if_pos hc1] at h
      cases h
      exact am_kp.rf
    · rw [if_neg hc1] at h
      obtain ⟨hg2, h⟩ := am_ck_some h
      exact am_kp.tr (am_kp.si am_kp.rf rfl) (ih h)
set_option maxRecDepth 100000 in
theorem kl_X6_fewestFeeding_30 {n : Nat} {x1 : Int32} {x2 : Int32} {m : am_m} {t : am_m} (h : lp_X6_fewestFeeding_30 n x1 x2 m = some t) : am_kp [(34, 0)] [] 0 m t := by
  induction n generalizing x2 m with
  | zero => cases h
  | succ n ih =>
    unfold lp_X6_fewestFeeding_30 at h
    obtain ⟨r5, h6, h⟩ := am_bd h
    by_cases hc7 : r5 < x2
    · rw [if_pos hc7] at h
      cases h
      exact am_kp.rf
    · rw [if_neg hc7] at h
      obtain ⟨r8, h9, h⟩ := am_bd h
      obtain ⟨q13, h14, h⟩ := am_bd h
      have k_q13 : am_kp [(34, 0)] [] 0 m q13 := by
        have h := h14
        by_cases hc10 : r8 = 0
        · rw [if_pos hc10] at h
          cases h
          exact am_kp.rf
        · rw [if_neg hc10] at h
          obtain ⟨r11, h12, h⟩ := am_bd h
          have k_r11 : am_kp [(34, 0)] [] 0 m r11 := am_kp.tr am_kp.rf (am_kp.mono (kp_X6_addTable (x2 &&& x1) m r11 h12) rfl)
          cases h
          exact k_r11
      exact am_kp.tr k_q13 (ih h)
set_option maxRecDepth 100000 in
theorem kp_X6_fewestFeeding (a1 : Int32) (m : am_m) (t : Int32 × am_m) (h : fn_X6_fewestFeeding a1 m = some t) : am_kp [(34, 0)] [] 0 m t.2 := by
  unfold fn_X6_fewestFeeding at h
  obtain ⟨q3, h4, h⟩ := am_bd h
  have k_q3 : am_kp [(34, 0)] [] 0 m q3 := am_kp.tr am_kp.rf (kl_X6_fewestFeeding_2 (h := h4))
  obtain ⟨q15, h16, h⟩ := am_bd h
  have k_q15 : am_kp [(34, 0)] [] 0 m q15 := am_kp.tr (am_kp.si k_q3 rfl) (kl_X6_fewestFeeding_30 (h := h16))
  by_cases hc17 : a1 < 0
  · rw [if_pos hc17] at h
    cases h
    exact k_q15
  · rw [if_neg hc17] at h
    by_cases hc18 : (127 : Int32) < a1
    · rw [if_pos hc18] at h
      cases h
      exact k_q15
    · rw [if_neg hc18] at h
      obtain ⟨hg19, h⟩ := am_ck_some h
      cases h
      exact k_q15
-- X6_stepsTo
set_option maxRecDepth 100000 in
theorem kl_X6_stepsTo_20 {n : Nat} {x1 : Int32} {x2 : Int32} {x3 : Int32} {m : am_m} {t : am_m} (h : lp_X6_stepsTo_20 n x1 x2 x3 m = some t) : am_kp [(32, 0)] [] 0 m t := by
  induction n generalizing x3 m with
  | zero => cases h
  | succ n ih =>
    unfold lp_X6_stepsTo_20 at h
    by_cases hc7 : (m.1 6 0 0) ≤ x3
    · rw [if_pos hc7] at h
      cases h
      exact am_kp.rf
    · rw [if_neg hc7] at h
      obtain ⟨hg8, h⟩ := am_ck_some h
      exact am_kp.tr (am_kp.si am_kp.rf rfl) (ih h)
set_option maxRecDepth 100000 in
theorem kl_X6_stepsTo_61 {n : Nat} {x1 : Int32} {x3 : Int32} {x4 : Int32} {m : am_m} {t : am_m} (h : lp_X6_stepsTo_61 n x1 x3 x4 m = some t) : am_kp [(32, 0)] [] 0 m t := by
  induction n generalizing x4 m with
  | zero => cases h
  | succ n ih =>
    unfold lp_X6_stepsTo_61 at h
    by_cases hc13 : (m.1 6 0 0) ≤ x4
    · rw [if_pos hc13] at h
      cases h
      exact am_kp.rf
    · rw [if_neg hc13] at h
      obtain ⟨hg14, h⟩ := am_ck_some h
      obtain ⟨q20, h21, h⟩ := am_bd h
      have k_q20 : am_kp [(32, 0)] [] 0 m q20 := by
        have h := h21
        by_cases hc15 : (m.1 32 0 x4.toNatClampNeg) ≠ (-1 : Int32)
        · rw [if_pos hc15] at h
          cases h
          exact am_kp.rf
        · rw [if_neg hc15] at h
          obtain ⟨r16, h17, h⟩ := am_bd h
          by_cases hc18 : r16 = 0
          · rw [if_pos hc18] at h
            cases h
            exact am_kp.rf
          · rw [if_neg hc18] at h
            obtain ⟨hg19, h⟩ := am_ck_some h
            cases h
            exact (am_kp.si am_kp.rf rfl)
      exact am_kp.tr k_q20 (ih h)
set_option maxRecDepth 100000 in
theorem kl_X6_stepsTo_50 {n : Nat} {x1 : Int32} {x3 : Int32} {m : am_m} {t : am_m} (h : lp_X6_stepsTo_50 n x1 x3 m = some t) : am_kp [(32, 0)] [] 0 m t := by
  induction n generalizing x3 m with
  | zero => cases h
  | succ n ih =>
    unfold lp_X6_stepsTo_50 at h
    by_cases hc12 : (m.1 6 0 0) ≤ x3
    · rw [if_pos hc12] at h
      cases h
      exact am_kp.rf
    · rw [if_neg hc12] at h
      obtain ⟨q22, h23, h⟩ := am_bd h
      have k_q22 : am_kp [(32, 0)] [] 0 m q22 := am_kp.tr am_kp.rf (kl_X6_stepsTo_61 (h := h23))
      exact am_kp.tr k_q22 (ih h)
set_option maxRecDepth 100000 in
theorem kp_X6_stepsTo (a1 : Int32) (a2 : Int32) (m : am_m) (t : Int32 × am_m) (h : fn_X6_stepsTo a1 a2 m = some t) : am_kp [(32, 0)] [] 0 m t.2 := by
  unfold fn_X6_stepsTo at h
  obtain ⟨r1, h2, h⟩ := am_bd h
  by_cases hc3 : r1 = 0
  · rw [if_pos hc3] at h
    cases h
    exact am_kp.rf
  · rw [if_neg hc3] at h
    obtain ⟨r4, h5, h⟩ := am_bd h
    by_cases hc6 : r4 ≠ 0
    · rw [if_pos hc6] at h
      obtain ⟨q9, h10, h⟩ := am_bd h
      have k_q9 : am_kp [(32, 0)] [] 0 m q9 := am_kp.tr am_kp.rf (kl_X6_stepsTo_20 (h := h10))
      obtain ⟨hg11, h⟩ := am_ck_some h
      obtain ⟨q24, h25, h⟩ := am_bd h
      have k_q24 : am_kp [(32, 0)] [] 0 m q24 := am_kp.tr (am_kp.si k_q9 rfl) (kl_X6_stepsTo_50 (h := h25))
      obtain ⟨hg26, h⟩ := am_ck_some h
      cases h
      exact k_q24
    · rw [if_neg hc6] at h
      cases h
      exact am_kp.rf
-- X6_addTwo
set_option maxRecDepth 100000 in
theorem kp_X6_addTwo (a1 : Int32) (a2 : Int32) (m : am_m) (t : am_m) (h : fn_X6_addTwo a1 a2 m = some t) : am_kp [(6, 7), (33, 0)] [] 0 m t := by
  unfold fn_X6_addTwo at h
  by_cases hc1 : (21 : Int32) ≤ (m.1 6 0 7)
  · rw [if_pos hc1] at h
    cases h
    exact am_kp.rf
  · rw [if_neg hc1] at h
    obtain ⟨hg2, h⟩ := am_ck_some h
    cases h
    exact (am_kp.si (am_kp.si am_kp.rf rfl) rfl)
-- X6_findBridges
set_option maxRecDepth 100000 in
theorem kl_X6_findBridges_26 {n : Nat} {x1 : Int32} {x2 : Int32} {x3 : Int32} {m : am_m} {t : am_m} (h : lp_X6_findBridges_26 n x1 x2 x3 m = some t) : am_kp [(6, 7), (33, 0)] [] 0 m t := by
  induction n generalizing x3 m with
  | zero => cases h
  | succ n ih =>
    unfold lp_X6_findBridges_26 at h
    by_cases hc4 : (m.1 6 0 0) ≤ x3
    · rw [if_pos hc4] at h
      cases h
      exact am_kp.rf
    · rw [if_neg hc4] at h
      obtain ⟨hg5, h⟩ := am_ck_some h
      obtain ⟨q12, h13, h⟩ := am_bd h
      have k_q12 : am_kp [(6, 7), (33, 0)] [] 0 m q12 := by
        have h := h13
        by_cases hc6 : (((m.1 30 0 x2.toNatClampNeg) >>> (x3 &&& 31)) &&& (1 : Int32)) ≠ (1 : Int32)
        · rw [if_pos hc6] at h
          cases h
          exact am_kp.rf
        · rw [if_neg hc6] at h
          obtain ⟨r7, h8, h⟩ := am_bd h
          by_cases hc9 : r7 ≤ x1
          · rw [if_pos hc9] at h
            cases h
            exact am_kp.rf
          · rw [if_neg hc9] at h
            obtain ⟨r10, h11, h⟩ := am_bd h
            have k_r10 : am_kp [(6, 7), (33, 0)] [] 0 m r10 := am_kp.tr am_kp.rf (am_kp.mono (kp_X6_addTwo x2 x3 m r10 h11) rfl)
            cases h
            exact k_r10
      exact am_kp.tr k_q12 (ih h)
set_option maxRecDepth 100000 in
theorem kl_X6_findBridges_14 {n : Nat} {x1 : Int32} {x2 : Int32} {m : am_m} {t : am_m} (h : lp_X6_findBridges_14 n x1 x2 m = some t) : am_kp [(6, 7), (33, 0)] [] 0 m t := by
  induction n generalizing x2 m with
  | zero => cases h
  | succ n ih =>
    unfold lp_X6_findBridges_14 at h
    by_cases hc3 : (m.1 6 0 0) ≤ x2
    · rw [if_pos hc3] at h
      cases h
      exact am_kp.rf
    · rw [if_neg hc3] at h
      obtain ⟨q14, h15, h⟩ := am_bd h
      have k_q14 : am_kp [(6, 7), (33, 0)] [] 0 m q14 := am_kp.tr am_kp.rf (kl_X6_findBridges_26 (h := h15))
      exact am_kp.tr k_q14 (ih h)
set_option maxRecDepth 100000 in
theorem kp_X6_findBridges  (m : am_m) (t : am_m) (h : fn_X6_findBridges  m = some t) : am_kp [(6, 7), (33, 0)] [] 0 m t := by
  unfold fn_X6_findBridges at h
  obtain ⟨r1, h2, h⟩ := am_bd h
  obtain ⟨q16, h17, h⟩ := am_bd h
  have k_q16 : am_kp [(6, 7), (33, 0)] [] 0 m q16 := am_kp.tr (am_kp.si am_kp.rf rfl) (kl_X6_findBridges_14 (h := h17))
  cases h
  exact k_q16
-- X6_findDoubted
set_option maxRecDepth 100000 in
theorem kl_X6_findDoubted_19 {n : Nat} {x1 : Nat} {x2 : Int32} {x3 : Int32} {m : am_m} {t : am_m} (h : lp_X6_findDoubted_19 n x1 x2 x3 m = some t) : am_kp [(6, 7), (33, 0)] [] 0 m t := by
  induction n generalizing x3 m with
  | zero => cases h
  | succ n ih =>
    unfold lp_X6_findDoubted_19 at h
    by_cases hc2 : (m.1 6 0 0) ≤ x3
    · rw [if_pos hc2] at h
      cases h
      exact am_kp.rf
    · rw [if_neg hc2] at h
      obtain ⟨hg3, h⟩ := am_ck_some h
      obtain ⟨q10, h11, h⟩ := am_bd h
      have k_q10 : am_kp [(6, 7), (33, 0)] [] 0 m q10 := by
        have h := h11
        by_cases hc4 : (((m.1 30 0 x2.toNatClampNeg) >>> (x3 &&& 31)) &&& (1 : Int32)) ≠ 0
        · rw [if_pos hc4] at h
          cases h
          exact am_kp.rf
        · rw [if_neg hc4] at h
          obtain ⟨r5, h6, h⟩ := am_bd h
          by_cases hc7 : r5 = 0
          · rw [if_pos hc7] at h
            cases h
            exact am_kp.rf
          · rw [if_neg hc7] at h
            obtain ⟨r8, h9, h⟩ := am_bd h
            have k_r8 : am_kp [(6, 7), (33, 0)] [] 0 m r8 := am_kp.tr am_kp.rf (am_kp.mono (kp_X6_addTwo x2 x3 m r8 h9) rfl)
            cases h
            exact k_r8
      exact am_kp.tr k_q10 (ih h)
set_option maxRecDepth 100000 in
theorem kl_X6_findDoubted_7 {n : Nat} {x1 : Nat} {x2 : Int32} {m : am_m} {t : am_m} (h : lp_X6_findDoubted_7 n x1 x2 m = some t) : am_kp [(6, 7), (33, 0)] [] 0 m t := by
  induction n generalizing x2 m with
  | zero => cases h
  | succ n ih =>
    unfold lp_X6_findDoubted_7 at h
    by_cases hc1 : (m.1 6 0 0) ≤ x2
    · rw [if_pos hc1] at h
      cases h
      exact am_kp.rf
    · rw [if_neg hc1] at h
      obtain ⟨q12, h13, h⟩ := am_bd h
      have k_q12 : am_kp [(6, 7), (33, 0)] [] 0 m q12 := am_kp.tr am_kp.rf (kl_X6_findDoubted_19 (h := h13))
      exact am_kp.tr k_q12 (ih h)
set_option maxRecDepth 100000 in
theorem kp_X6_findDoubted (a1 : Nat) (m : am_m) (t : am_m) (h : fn_X6_findDoubted a1 m = some t) : am_kp [(6, 7), (33, 0)] [] 0 m t := by
  unfold fn_X6_findDoubted at h
  obtain ⟨q14, h15, h⟩ := am_bd h
  have k_q14 : am_kp [(6, 7), (33, 0)] [] 0 m q14 := am_kp.tr (am_kp.si am_kp.rf rfl) (kl_X6_findDoubted_7 (h := h15))
  cases h
  exact k_q14
-- X7_take
set_option maxRecDepth 100000 in
theorem kl_X7_take_3 {n : Nat} {x1 : Int32} {x2 : Int32} {m : am_m} {t : am_m} (h : lp_X7_take_3 n x1 x2 m = some t) : am_kp [(7, 1), (35, 0)] [] 0 m t := by
  induction n generalizing x2 m with
  | zero => cases h
  | succ n ih =>
    unfold lp_X7_take_3 at h
    by_cases hc1 : x2 < 0
    · rw [if_pos hc1] at h
      cases h
      exact am_kp.rf
    · rw [if_neg hc1] at h
      obtain ⟨q4, h5, h⟩ := am_bd h
      have k_q4 : am_kp [(7, 1), (35, 0)] [] 0 m q4 := by
        have h := h5
        by_cases hc2 : (400 : Int32) ≤ (m.1 7 0 1)
        · rw [if_pos hc2] at h
          cases h
          exact am_kp.rf
        · rw [if_neg hc2] at h
          obtain ⟨hg3, h⟩ := am_ck_some h
          cases h
          exact (am_kp.si (am_kp.si am_kp.rf rfl) rfl)
      exact am_kp.tr k_q4 (ih h)
set_option maxRecDepth 100000 in
theorem kp_X7_take (a1 : Int32) (m : am_m) (t : am_m) (h : fn_X7_take a1 m = some t) : am_kp [(7, 1), (35, 0)] [] 0 m t := by
  unfold fn_X7_take at h
  obtain ⟨q6, h7, h⟩ := am_bd h
  have k_q6 : am_kp [(7, 1), (35, 0)] [] 0 m q6 := am_kp.tr am_kp.rf (kl_X7_take_3 (h := h7))
  cases h
  exact k_q6
-- X8_become
set_option maxRecDepth 100000 in
theorem kl_X8_become_108 {n : Nat} {x0 : Nat} {x1 : Nat} {x2 : Int32} {m : am_m} {t : am_m} (h : lp_X8_become_108 n x0 x1 x2 m = some t) : am_kp [(8, 0), (8, 1), (8, 2), (8, 3), (36, 0), (37, 0), (38, 0), (39, 0), (40, 0)] [] 2 m t := by
  induction n generalizing x2 m with
  | zero => cases h
  | succ n ih =>
    unfold lp_X8_become_108 at h
    by_cases hc6 : (6 : Int32) ≤ x2
    · rw [if_pos hc6] at h
      cases h
      exact am_kp.rf
    · rw [if_neg hc6] at h
      obtain ⟨hg7, h⟩ := am_ck_some h
      obtain ⟨hg8, h⟩ := am_ck_some h
      exact am_kp.tr (am_kp.ss am_kp.rf rfl) (ih h)
set_option maxRecDepth 100000 in
theorem kp_X8_become (a0 : Nat) (a1 : Nat) (m : am_m) (t : am_m) (h : fn_X8_become a0 a1 m = some t) : am_kp [(8, 0), (8, 1), (8, 2), (8, 3), (36, 0), (37, 0), (38, 0), (39, 0), (40, 0)] [] 2 m t := by
  unfold fn_X8_become at h
  obtain ⟨hz1, h⟩ := am_gd_some h
  obtain ⟨hz2, h⟩ := am_gd_some h
  obtain ⟨hz3, h⟩ := am_gd_some h
  obtain ⟨hz4, h⟩ := am_gd_some h
  obtain ⟨hz5, h⟩ := am_gd_some h
  obtain ⟨q9, h10, h⟩ := am_bd h
  have k_q9 : am_kp [(8, 0), (8, 1), (8, 2), (8, 3), (36, 0), (37, 0), (38, 0), (39, 0), (40, 0)] [] 2 m q9 := am_kp.tr (am_kp.sc (am_kp.sc (am_kp.sc (am_kp.sc (am_kp.sc (am_kp.si (am_kp.si (am_kp.si (am_kp.si am_kp.rf rfl) rfl) rfl) rfl) rfl) rfl) rfl) rfl) rfl) (kl_X8_become_108 (h := h10))
  cases h
  exact k_q9
-- X9_told
set_option maxRecDepth 100000 in
theorem kp_X9_told (a1 : Int32) (m : am_m) (t : Int32 × am_m) (h : fn_X9_told a1 m = some t) : am_kp [(9, 17), (42, 0)] [] 0 m t.2 := by
  unfold fn_X9_told at h
  obtain ⟨r1, h2, h⟩ := am_bd h
  by_cases hc3 : 0 ≤ a1
  · rw [if_pos hc3] at h
    cases h
    exact (am_kp.si am_kp.rf rfl)
  · rw [if_neg hc3] at h
    by_cases hc4 : a1 ≤ (-7 : Int32)
    · rw [if_pos hc4] at h
      cases h
      exact (am_kp.si am_kp.rf rfl)
    · rw [if_neg hc4] at h
      obtain ⟨hg5, h⟩ := am_ck_some h
      obtain ⟨hg6, h⟩ := am_ck_some h
      cases h
      exact (am_kp.si (am_kp.si am_kp.rf rfl) rfl)
-- X9_folk
set_option maxRecDepth 100000 in
theorem kp_X9_folk (a1 : Int32) (m : am_m) (t : Int32 × am_m) (h : fn_X9_folk a1 m = some t) : am_kp [(3, 1), (8, 0), (9, 17), (36, 0), (42, 0)] [] 0 m t.2 := by
  unfold fn_X9_folk at h
  by_cases hc1 : a1 < 0
  · rw [if_pos hc1] at h
    obtain ⟨r2, h3, h⟩ := am_bd h
    have k_r2 : am_kp [(3, 1), (8, 0), (9, 17), (36, 0), (42, 0)] [] 0 m r2.2 := am_kp.tr am_kp.rf (am_kp.mono (kp_X9_told (-1) m r2 h3) rfl)
    cases h
    exact k_r2
  · rw [if_neg hc1] at h
    by_cases hc4 : a1 ≤ (9 : Int32)
    · rw [if_pos hc4] at h
      by_cases hc5 : (m.1 8 0 0) < (7 : Int32)
      · rw [if_pos hc5] at h
        obtain ⟨hg6, h⟩ := am_ck_some h
        obtain ⟨r7, h8, h⟩ := am_bd h
        have k_r7 : am_kp [(3, 1), (8, 0), (9, 17), (36, 0), (42, 0)] [] 0 m r7 := am_kp.tr (am_kp.si (am_kp.si am_kp.rf rfl) rfl) (am_kp.mono (kp_X3_clear 0 (am_si (am_si m 36 0 (m.1 8 0 0).toNatClampNeg a1) 8 0 0 ((m.1 8 0 0) + (1 : Int32))) r7 h8) rfl)
        obtain ⟨r9, h10, h⟩ := am_bd h
        have k_r9 : am_kp [(3, 1), (8, 0), (9, 17), (36, 0), (42, 0)] [] 0 m r9.2 := am_kp.tr k_r7 (am_kp.mono (kp_X9_told (m.1 8 0 0) r7 r9 h10) rfl)
        cases h
        exact k_r9
      · rw [if_neg hc5] at h
        obtain ⟨r11, h12, h⟩ := am_bd h
        have k_r11 : am_kp [(3, 1), (8, 0), (9, 17), (36, 0), (42, 0)] [] 0 m r11.2 := am_kp.tr am_kp.rf (am_kp.mono (kp_X9_told (-5) m r11 h12) rfl)
        cases h
        exact k_r11
    · rw [if_neg hc4] at h
      obtain ⟨r13, h14, h⟩ := am_bd h
      have k_r13 : am_kp [(3, 1), (8, 0), (9, 17), (36, 0), (42, 0)] [] 0 m r13.2 := am_kp.tr am_kp.rf (am_kp.mono (kp_X9_told (-1) m r13 h14) rfl)
      cases h
      exact k_r13
-- X9_askLive
set_option maxRecDepth 100000 in
theorem kp_X9_askLive  (m : am_m) (t : am_m) (h : fn_X9_askLive  m = some t) : am_kp [] [] 1 m t := by
  unfold fn_X9_askLive at h
  obtain ⟨r1, h2, h⟩ := am_bd h
  obtain ⟨r3, h4, h⟩ := am_bd h
  have k_r3 : am_kp [] [] 1 m r3 := am_kp.tr am_kp.rf (am_kp.mono (kp_X1_look 0 r1 m r3 h4) rfl)
  cases h
  exact k_r3
-- X9_of
set_option maxRecDepth 100000 in
theorem kp_X9_of (a1 : Int32) (a2 : Int32) (m : am_m) (t : Int32 × am_m) (h : fn_X9_of a1 a2 m = some t) : am_kp [(20, 0)] [(80, 0)] 1 m t.2 := by
  unfold fn_X9_of at h
  obtain ⟨r1, h2, h⟩ := am_bd h
  by_cases hc3 : r1 ≠ 0
  · rw [if_pos hc3] at h
    obtain ⟨r4, h5, h⟩ := am_bd h
    have k_r4 : am_kp [(20, 0)] [(80, 0)] 1 m r4 := am_kp.tr am_kp.rf (am_kp.mono (kp_X9_askLive  m r4 h5) rfl)
    by_cases hs6 : a2 = 0
    · rw [if_pos hs6] at h
      obtain ⟨r7, h8, h⟩ := am_bd h
      cases h
      exact k_r4
    · rw [if_neg hs6] at h
      by_cases hs9 : a2 = 1
      · rw [if_pos hs9] at h
        obtain ⟨r10, h11, h⟩ := am_bd h
        have k_r10 : am_kp [(20, 0)] [(80, 0)] 1 m r10.2 := am_kp.tr k_r4 (am_kp.mono (kp_X1_companions a1 r4 r10 h11) rfl)
        cases h
        exact k_r10
      · rw [if_neg hs9] at h
        by_cases hs12 : a2 = 2
        · rw [if_pos hs12] at h
          obtain ⟨r13, h14, h⟩ := am_bd h
          obtain ⟨r15, h16, h⟩ := am_bd h
          have k_r15 : am_kp [(20, 0)] [(80, 0)] 1 m r15.2 := am_kp.tr k_r4 (am_kp.mono (kp_X1_hungerOf a1 r13 (r4.1 39 0 0) r4 r15 h16) rfl)
          cases h
          exact k_r15
        · rw [if_neg hs12] at h
          by_cases hs17 : a2 = 3
          · rw [if_pos hs17] at h
            obtain ⟨r18, h19, h⟩ := am_bd h
            cases h
            exact k_r4
          · rw [if_neg hs17] at h
            by_cases hs20 : a2 = 4
            · rw [if_pos hs20] at h
              obtain ⟨r21, h22, h⟩ := am_bd h
              cases h
              exact k_r4
            · rw [if_neg hs20] at h
              cases h
              exact k_r4
  · rw [if_neg hc3] at h
    cases h
    exact am_kp.rf
-- X9_asks
set_option maxRecDepth 100000 in
theorem kp_X9_asks (a1 : Int32) (a2 : Int32) (a3 : Int32) (m : am_m) (t : Int32 × am_m) (h : fn_X9_asks a1 a2 a3 m = some t) : am_kp [(20, 0)] [(80, 0)] 1 m t.2 := by
  unfold fn_X9_asks at h
  obtain ⟨r1, h2, h⟩ := am_bd h
  by_cases hc3 : r1 ≠ 0
  · rw [if_pos hc3] at h
    obtain ⟨r4, h5, h⟩ := am_bd h
    have k_r4 : am_kp [(20, 0)] [(80, 0)] 1 m r4 := am_kp.tr am_kp.rf (am_kp.mono (kp_X9_askLive  m r4 h5) rfl)
    by_cases hs6 : a3 = 0
    · rw [if_pos hs6] at h
      obtain ⟨r7, h8, h⟩ := am_bd h
      cases h
      exact k_r4
    · rw [if_neg hs6] at h
      by_cases hs9 : a3 = 1
      · rw [if_pos hs9] at h
        obtain ⟨r10, h11, h⟩ := am_bd h
        by_cases hc12 : r10 ≤ 0
        · rw [if_pos hc12] at h
          cases h
          exact k_r4
        · rw [if_neg hc12] at h
          obtain ⟨r13, h14, h⟩ := am_bd h
          cases h
          exact k_r4
      · rw [if_neg hs9] at h
        by_cases hs15 : a3 = 2
        · rw [if_pos hs15] at h
          obtain ⟨r16, h17, h⟩ := am_bd h
          have k_r16 : am_kp [(20, 0)] [(80, 0)] 1 m r16.2 := am_kp.tr k_r4 (am_kp.mono (kp_X1_countsOf a1 a2 r4 r16 h17) rfl)
          cases h
          exact k_r16
        · rw [if_neg hs15] at h
          by_cases hs18 : a3 = 3
          · rw [if_pos hs18] at h
            obtain ⟨r19, h20, h⟩ := am_bd h
            have k_r19 : am_kp [(20, 0)] [(80, 0)] 1 m r19.2 := am_kp.tr k_r4 (am_kp.mono (kp_X1_isBarred a1 a2 r4 r19 h20) rfl)
            by_cases hc21 : r19.1 = 0
            · rw [if_pos hc21] at h
              cases h
              exact k_r19
            · rw [if_neg hc21] at h
              cases h
              exact k_r19
          · rw [if_neg hs18] at h
            by_cases hs22 : a3 = 4
            · rw [if_pos hs22] at h
              obtain ⟨r23, h24, h⟩ := am_bd h
              have k_r23 : am_kp [(20, 0)] [(80, 0)] 1 m r23.2 := am_kp.tr k_r4 (am_kp.mono (kp_X1_maySit a1 a2 r4 r23 h24) rfl)
              by_cases hc25 : r23.1 = 0
              · rw [if_pos hc25] at h
                cases h
                exact k_r23
              · rw [if_neg hc25] at h
                cases h
                exact k_r23
            · rw [if_neg hs22] at h
              cases h
              exact k_r4
  · rw [if_neg hc3] at h
    cases h
    exact am_kp.rf
-- X9_terms
set_option maxRecDepth 100000 in
theorem kp_X9_terms (a1 : Int32) (a2 : Int32) (m : am_m) (t : Int32 × am_m) (h : fn_X9_terms a1 a2 m = some t) : am_kp [(3, 1), (9, 17), (39, 0), (42, 0)] [] 0 m t.2 := by
  unfold fn_X9_terms at h
  by_cases hc1 : a1 < 0
  · rw [if_pos hc1] at h
    obtain ⟨r2, h3, h⟩ := am_bd h
    have k_r2 : am_kp [(3, 1), (9, 17), (39, 0), (42, 0)] [] 0 m r2.2 := am_kp.tr am_kp.rf (am_kp.mono (kp_X9_told (-1) m r2 h3) rfl)
    cases h
    exact k_r2
  · rw [if_neg hc1] at h
    by_cases hc4 : (3 : Int32) ≤ a1
    · rw [if_pos hc4] at h
      obtain ⟨r5, h6, h⟩ := am_bd h
      have k_r5 : am_kp [(3, 1), (9, 17), (39, 0), (42, 0)] [] 0 m r5.2 := am_kp.tr am_kp.rf (am_kp.mono (kp_X9_told (-1) m r5 h6) rfl)
      cases h
      exact k_r5
    · rw [if_neg hc4] at h
      by_cases hc7 : a2 < 0
      · rw [if_pos hc7] at h
        obtain ⟨r8, h9, h⟩ := am_bd h
        have k_r8 : am_kp [(3, 1), (9, 17), (39, 0), (42, 0)] [] 0 m r8.2 := am_kp.tr am_kp.rf (am_kp.mono (kp_X9_told (-1) m r8 h9) rfl)
        cases h
        exact k_r8
      · rw [if_neg hc7] at h
        obtain ⟨r10, h11, h⟩ := am_bd h
        by_cases hc12 : a2 ≤ r10
        · rw [if_pos hc12] at h
          obtain ⟨hg13, h⟩ := am_ck_some h
          obtain ⟨hg14, h⟩ := am_ck_some h
          obtain ⟨r15, h16, h⟩ := am_bd h
          have k_r15 : am_kp [(3, 1), (9, 17), (39, 0), (42, 0)] [] 0 m r15 := am_kp.tr (am_kp.si am_kp.rf rfl) (am_kp.mono (kp_X3_clear 0 (am_si m 39 0 a1.toNatClampNeg a2) r15 h16) rfl)
          obtain ⟨r17, h18, h⟩ := am_bd h
          have k_r17 : am_kp [(3, 1), (9, 17), (39, 0), (42, 0)] [] 0 m r17.2 := am_kp.tr k_r15 (am_kp.mono (kp_X9_told (m.1 39 0 a1.toNatClampNeg) r15 r17 h18) rfl)
          cases h
          exact k_r17
        · rw [if_neg hc12] at h
          obtain ⟨r19, h20, h⟩ := am_bd h
          have k_r19 : am_kp [(3, 1), (9, 17), (39, 0), (42, 0)] [] 0 m r19.2 := am_kp.tr am_kp.rf (am_kp.mono (kp_X9_told (-1) m r19 h20) rfl)
          cases h
          exact k_r19
-- X9_feed
set_option maxRecDepth 100000 in
theorem kp_X9_feed (a1 : Int32) (a2 : Int32) (a3 : Int32) (a4 : Int32) (a5 : Int32) (m : am_m) (t : Int32 × am_m) (h : fn_X9_feed a1 a2 a3 a4 a5 m = some t) : am_kp [(7, 1), (35, 0)] [] 0 m t.2 := by
  unfold fn_X9_feed at h
  by_cases hc1 : (m.1 7 0 1) ≤ (380 : Int32)
  · rw [if_pos hc1] at h
    obtain ⟨r2, h3, h⟩ := am_bd h
    have k_r2 : am_kp [(7, 1), (35, 0)] [] 0 m r2 := am_kp.tr am_kp.rf (am_kp.mono (kp_X7_take a1 m r2 h3) rfl)
    obtain ⟨r4, h5, h⟩ := am_bd h
    have k_r4 : am_kp [(7, 1), (35, 0)] [] 0 m r4 := am_kp.tr k_r2 (am_kp.mono (kp_X7_take a2 r2 r4 h5) rfl)
    obtain ⟨r6, h7, h⟩ := am_bd h
    have k_r6 : am_kp [(7, 1), (35, 0)] [] 0 m r6 := am_kp.tr k_r4 (am_kp.mono (kp_X7_take a3 r4 r6 h7) rfl)
    obtain ⟨r8, h9, h⟩ := am_bd h
    have k_r8 : am_kp [(7, 1), (35, 0)] [] 0 m r8 := am_kp.tr k_r6 (am_kp.mono (kp_X7_take a4 r6 r8 h9) rfl)
    obtain ⟨r10, h11, h⟩ := am_bd h
    have k_r10 : am_kp [(7, 1), (35, 0)] [] 0 m r10 := am_kp.tr k_r8 (am_kp.mono (kp_X7_take a5 r8 r10 h11) rfl)
    cases h
    exact k_r10
  · rw [if_neg hc1] at h
    cases h
    exact am_kp.rf
-- X9_end
set_option maxRecDepth 100000 in
theorem kp_X9_end (a1 : Int32) (m : am_m) (t : Int32 × am_m) (h : fn_X9_end a1 m = some t) : am_kp [(7, 1)] [] 0 m t.2 := by
  unfold fn_X9_end at h
  by_cases hc1 : a1 < 0
  · rw [if_pos hc1] at h
    cases h
    exact am_kp.rf
  · rw [if_neg hc1] at h
    by_cases hc2 : a1 ≤ (m.1 7 0 1)
    · rw [if_pos hc2] at h
      cases h
      exact (am_kp.si am_kp.rf rfl)
    · rw [if_neg hc2] at h
      cases h
      exact am_kp.rf
-- X9_rowHarm
set_option maxRecDepth 100000 in
theorem kp_X9_rowHarm (a1 : Int32) (m : am_m) (t : Int32 × am_m) (h : fn_X9_rowHarm a1 m = some t) : am_kp [(37, 0), (38, 0)] [] 0 m t.2 := by
  unfold fn_X9_rowHarm at h
  by_cases hc1 : a1 ≤ ((m.1 7 0 1) - (3 : Int32))
  · rw [if_pos hc1] at h
    obtain ⟨r2, h3, h⟩ := am_bd h
    obtain ⟨r4, h5, h⟩ := am_bd h
    obtain ⟨r6, h7, h⟩ := am_bd h
    obtain ⟨r8, h9, h⟩ := am_bd h
    by_cases hc10 : r8 = 0
    · rw [if_pos hc10] at h
      cases h
      exact am_kp.rf
    · rw [if_neg hc10] at h
      by_cases hc11 : r6 < (1 : Int32)
      · rw [if_pos hc11] at h
        cases h
        exact am_kp.rf
      · rw [if_neg hc11] at h
        by_cases hc12 : r6 ≤ (9 : Int32)
        · rw [if_pos hc12] at h
          obtain ⟨r13, h14, h⟩ := am_bd h
          have k_r13 : am_kp [(37, 0), (38, 0)] [] 0 m r13 := am_kp.tr am_kp.rf (am_kp.mono (kp_X8_setHarm 0 r2 r4 r6 (m.1 39 0 0) m r13 h14) rfl)
          cases h
          exact k_r13
        · rw [if_neg hc12] at h
          cases h
          exact am_kp.rf
  · rw [if_neg hc1] at h
    cases h
    exact am_kp.rf
-- X9_row
set_option maxRecDepth 100000 in
theorem kl_X9_row_23 {n : Nat} {x1 : Int32} {x2 : Int32} {x3 : Int32} {m : am_m} {t : Int32 × Int32 × am_m} (h : lp_X9_row_23 n x1 x2 x3 m = some t) : am_kp [(3, 1), (7, 1), (9, 15), (9, 17), (37, 0), (38, 0), (42, 0)] [] 0 m t.2.2 := by
  induction n generalizing x1 x2 x3 m with
  | zero => cases h
  | succ n ih =>
    unfold lp_X9_row_23 at h
    by_cases hc2 : (m.1 7 0 1) ≤ x3
    · rw [if_pos hc2] at h
      cases h
      exact am_kp.rf
    · rw [if_neg hc2] at h
      obtain ⟨r3, h4, h⟩ := am_bd h
      have k_r3 : am_kp [(3, 1), (7, 1), (9, 15), (9, 17), (37, 0), (38, 0), (42, 0)] [] 0 m r3.2 := am_kp.tr am_kp.rf (am_kp.mono (kp_X9_rowHarm x3 m r3 h4) rfl)
      exact am_kp.tr k_r3 (ih h)
set_option maxRecDepth 100000 in
theorem kp_X9_row  (m : am_m) (t : Int32 × am_m) (h : fn_X9_row  m = some t) : am_kp [(3, 1), (7, 1), (9, 15), (9, 17), (37, 0), (38, 0), (42, 0)] [] 0 m t.2 := by
  unfold fn_X9_row at h
  by_cases hc1 : (m.1 7 0 1) ≠ 0
  · rw [if_pos hc1] at h
    obtain ⟨q6, h7, h⟩ := am_bd h
    have k_q6 : am_kp [(3, 1), (7, 1), (9, 15), (9, 17), (37, 0), (38, 0), (42, 0)] [] 0 m q6.2.2 := am_kp.tr am_kp.rf (kl_X9_row_23 (h := h7))
    obtain ⟨r8, h9, h⟩ := am_bd h
    have k_r8 : am_kp [(3, 1), (7, 1), (9, 15), (9, 17), (37, 0), (38, 0), (42, 0)] [] 0 m r8 := am_kp.tr (am_kp.si (am_kp.si k_q6 rfl) rfl) (am_kp.mono (kp_X3_clear 0 (am_si (am_si q6.2.2 9 0 15 q6.2.1) 7 0 1 0) r8 h9) rfl)
    obtain ⟨r10, h11, h⟩ := am_bd h
    have k_r10 : am_kp [(3, 1), (7, 1), (9, 15), (9, 17), (37, 0), (38, 0), (42, 0)] [] 0 m r10.2 := am_kp.tr k_r8 (am_kp.mono (kp_X9_told q6.1 r8 r10 h11) rfl)
    cases h
    exact k_r10
  · rw [if_neg hc1] at h
    obtain ⟨r12, h13, h⟩ := am_bd h
    have k_r12 : am_kp [(3, 1), (7, 1), (9, 15), (9, 17), (37, 0), (38, 0), (42, 0)] [] 0 m r12.2 := am_kp.tr am_kp.rf (am_kp.mono (kp_X9_told (-6) m r12 h13) rfl)
    cases h
    exact k_r12
-- X9_doHarm
set_option maxRecDepth 100000 in
theorem kp_X9_doHarm (a1 : Int32) (a2 : Int32) (a3 : Int32) (m : am_m) (t : Int32 × am_m) (h : fn_X9_doHarm a1 a2 a3 m = some t) : am_kp [(3, 1), (24, 0), (37, 0), (38, 0)] [] 0 m t.2 := by
  unfold fn_X9_doHarm at h
  by_cases hc1 : a3 < (1 : Int32)
  · rw [if_pos hc1] at h
    cases h
    exact am_kp.rf
  · rw [if_neg hc1] at h
    by_cases hc2 : (9 : Int32) < a3
    · rw [if_pos hc2] at h
      cases h
      exact am_kp.rf
    · rw [if_neg hc2] at h
      by_cases hc3 : a1 ≠ a2
      · rw [if_pos hc3] at h
        obtain ⟨r4, h5, h⟩ := am_bd h
        by_cases hc6 : r4 ≠ 0
        · rw [if_pos hc6] at h
          obtain ⟨r7, h8, h⟩ := am_bd h
          by_cases hc9 : r7 ≠ a3
          · rw [if_pos hc9] at h
            obtain ⟨r10, h11, h⟩ := am_bd h
            have k_r10 : am_kp [(3, 1), (24, 0), (37, 0), (38, 0)] [] 0 m r10 := am_kp.tr am_kp.rf (am_kp.mono (kp_X3_keep 0 0 a1 a2 0 m r10 h11) rfl)
            obtain ⟨r12, h13, h⟩ := am_bd h
            have k_r12 : am_kp [(3, 1), (24, 0), (37, 0), (38, 0)] [] 0 m r12 := am_kp.tr k_r10 (am_kp.mono (kp_X8_setHarm 0 a1 a2 a3 (r10.1 39 0 0) r10 r12 h13) rfl)
            cases h
            exact k_r12
          · rw [if_neg hc9] at h
            cases h
            exact am_kp.rf
        · rw [if_neg hc6] at h
          cases h
          exact am_kp.rf
      · rw [if_neg hc3] at h
        cases h
        exact am_kp.rf
-- X9_doFeast
set_option maxRecDepth 100000 in
theorem kp_X9_doFeast (a1 : Int32) (m : am_m) (t : Int32 × am_m) (h : fn_X9_doFeast a1 m = some t) : am_kp [(3, 1), (20, 0), (24, 0), (36, 0)] [(80, 0)] 0 m t.2 := by
  unfold fn_X9_doFeast at h
  by_cases hc1 : a1 < 0
  · rw [if_pos hc1] at h
    cases h
    exact am_kp.rf
  · rw [if_neg hc1] at h
    by_cases hc2 : a1 ≤ (127 : Int32)
    · rw [if_pos hc2] at h
      obtain ⟨r3, h4, h⟩ := am_bd h
      by_cases hc5 : r3 ≠ 0
      · rw [if_pos hc5] at h
        obtain ⟨r6, h7, h⟩ := am_bd h
        have k_r6 : am_kp [(3, 1), (20, 0), (24, 0), (36, 0)] [(80, 0)] 0 m r6.2 := am_kp.tr am_kp.rf (am_kp.mono (kp_X1_isTable a1 m r6 h7) rfl)
        by_cases hc8 : r6.1 ≠ 0
        · rw [if_pos hc8] at h
          obtain ⟨r9, h10, h⟩ := am_bd h
          have k_r9 : am_kp [(3, 1), (20, 0), (24, 0), (36, 0)] [(80, 0)] 0 m r9 := am_kp.tr k_r6 (am_kp.mono (kp_X3_keep 0 1 0 0 0 r6.2 r9 h10) rfl)
          obtain ⟨r11, h12, h⟩ := am_bd h
          have k_r11 : am_kp [(3, 1), (20, 0), (24, 0), (36, 0)] [(80, 0)] 0 m r11 := am_kp.tr k_r9 (am_kp.mono (kp_X1_feedTable a1 r9 r11 h12) rfl)
          obtain ⟨r13, h14, h⟩ := am_bd h
          cases h
          exact k_r11
        · rw [if_neg hc8] at h
          cases h
          exact k_r6
      · rw [if_neg hc5] at h
        cases h
        exact am_kp.rf
    · rw [if_neg hc2] at h
      cases h
      exact am_kp.rf
-- X9_doPardon
set_option maxRecDepth 100000 in
theorem kp_X9_doPardon (a1 : Int32) (a2 : Int32) (m : am_m) (t : Int32 × am_m) (h : fn_X9_doPardon a1 a2 m = some t) : am_kp [(3, 1), (24, 0), (37, 0), (38, 0)] [] 0 m t.2 := by
  unfold fn_X9_doPardon at h
  by_cases hc1 : a1 ≠ a2
  · rw [if_pos hc1] at h
    obtain ⟨r2, h3, h⟩ := am_bd h
    by_cases hc4 : r2 ≠ 0
    · rw [if_pos hc4] at h
      obtain ⟨r5, h6, h⟩ := am_bd h
      by_cases hc7 : r5 ≠ 0
      · rw [if_pos hc7] at h
        obtain ⟨r8, h9, h⟩ := am_bd h
        have k_r8 : am_kp [(3, 1), (24, 0), (37, 0), (38, 0)] [] 0 m r8 := am_kp.tr am_kp.rf (am_kp.mono (kp_X3_keep 0 2 a1 a2 0 m r8 h9) rfl)
        obtain ⟨r10, h11, h⟩ := am_bd h
        have k_r10 : am_kp [(3, 1), (24, 0), (37, 0), (38, 0)] [] 0 m r10 := am_kp.tr k_r8 (am_kp.mono (kp_X8_setHarm 0 a1 a2 0 0 r8 r10 h11) rfl)
        cases h
        exact k_r10
      · rw [if_neg hc7] at h
        cases h
        exact am_kp.rf
    · rw [if_neg hc4] at h
      cases h
      exact am_kp.rf
  · rw [if_neg hc1] at h
    cases h
    exact am_kp.rf
-- X9_doPass
set_option maxRecDepth 100000 in
theorem kp_X9_doPass  (m : am_m) (t : Int32 × am_m) (h : fn_X9_doPass  m = some t) : am_kp [(3, 1), (20, 0), (24, 0), (36, 0), (39, 0)] [(80, 0)] 0 m t.2 := by
  unfold fn_X9_doPass at h
  by_cases hc1 : (m.1 39 0 0) < (999 : Int32)
  · rw [if_pos hc1] at h
    obtain ⟨r2, h3, h⟩ := am_bd h
    have k_r2 : am_kp [(3, 1), (20, 0), (24, 0), (36, 0), (39, 0)] [(80, 0)] 0 m r2 := am_kp.tr am_kp.rf (am_kp.mono (kp_X3_keep 0 3 0 0 0 m r2 h3) rfl)
    obtain ⟨r4, h5, h⟩ := am_bd h
    have k_r4 : am_kp [(3, 1), (20, 0), (24, 0), (36, 0), (39, 0)] [(80, 0)] 0 m r4 := am_kp.tr k_r2 (am_kp.mono (kp_X1_passDay  r2 r4 h5) rfl)
    obtain ⟨r6, h7, h⟩ := am_bd h
    cases h
    exact k_r4
  · rw [if_neg hc1] at h
    cases h
    exact am_kp.rf
-- X9_fillOrderWords
set_option maxRecDepth 100000 in
theorem kl_X9_fillOrderWords_43 {n : Nat} {x1 : Int32} {x2 : Int32} {m : am_m} {t : am_m} (h : lp_X9_fillOrderWords_43 n x1 x2 m = some t) : am_kp [(20, 0), (41, 0)] [(80, 0)] 0 m t := by
  induction n generalizing x2 m with
  | zero => cases h
  | succ n ih =>
    unfold lp_X9_fillOrderWords_43 at h
    by_cases hc5 : (7 : Int32) ≤ x2
    · rw [if_pos hc5] at h
      cases h
      exact am_kp.rf
    · rw [if_neg hc5] at h
      obtain ⟨r6, h7, h⟩ := am_bd h
      obtain ⟨hg8, h⟩ := am_ck_some h
      obtain ⟨r9, h10, h⟩ := am_bd h
      obtain ⟨hg12, h⟩ := am_ck_some h
      exact am_kp.tr (am_kp.si (am_kp.si am_kp.rf rfl) rfl) (ih h)
set_option maxRecDepth 100000 in
theorem kl_X9_fillOrderWords_108 {n : Nat} {x1 : Int32} {x2 : Int32} {x3 : Int32} {m : am_m} {t : am_m} (h : lp_X9_fillOrderWords_108 n x1 x2 x3 m = some t) : am_kp [(20, 0), (41, 0)] [(80, 0)] 0 m t := by
  induction n generalizing x3 m with
  | zero => cases h
  | succ n ih =>
    unfold lp_X9_fillOrderWords_108 at h
    by_cases hc16 : (m.1 8 0 0) ≤ x3
    · rw [if_pos hc16] at h
      cases h
      exact am_kp.rf
    · rw [if_neg hc16] at h
      obtain ⟨q25, h26, h⟩ := am_bd h
      have k_q25 : am_kp [(20, 0), (41, 0)] [(80, 0)] 0 m q25 := by
        have h := h26
        by_cases hc17 : (((x1 >>> (x2 &&& 31)) &&& (1 : Int32)) ||| ((x1 >>> (x3 &&& 31)) &&& (1 : Int32))) ≠ (1 : Int32)
        · rw [if_pos hc17] at h
          cases h
          exact am_kp.rf
        · rw [if_neg hc17] at h
          obtain ⟨r18, h19, h⟩ := am_bd h
          have k_r18 : am_kp [(20, 0), (41, 0)] [(80, 0)] 0 m r18.2 := am_kp.tr am_kp.rf (am_kp.mono (kp_X1_maySit x2 x3 m r18 h19) rfl)
          by_cases hc20 : r18.1 = 0
          · rw [if_pos hc20] at h
            cases h
            exact k_r18
          · rw [if_neg hc20] at h
            obtain ⟨hg21, h⟩ := am_ck_some h
            obtain ⟨hg22, h⟩ := am_ck_some h
            obtain ⟨hg23, h⟩ := am_ck_some h
            obtain ⟨hg24, h⟩ := am_ck_some h
            cases h
            exact (am_kp.si (am_kp.si k_r18 rfl) rfl)
      exact am_kp.tr k_q25 (ih h)
set_option maxRecDepth 100000 in
theorem kl_X9_fillOrderWords_98 {n : Nat} {x1 : Int32} {x2 : Int32} {m : am_m} {t : am_m} (h : lp_X9_fillOrderWords_98 n x1 x2 m = some t) : am_kp [(20, 0), (41, 0)] [(80, 0)] 0 m t := by
  induction n generalizing x2 m with
  | zero => cases h
  | succ n ih =>
    unfold lp_X9_fillOrderWords_98 at h
    by_cases hc15 : (7 : Int32) ≤ x2
    · rw [if_pos hc15] at h
      cases h
      exact am_kp.rf
    · rw [if_neg hc15] at h
      obtain ⟨q27, h28, h⟩ := am_bd h
      have k_q27 : am_kp [(20, 0), (41, 0)] [(80, 0)] 0 m q27 := am_kp.tr am_kp.rf (kl_X9_fillOrderWords_108 (h := h28))
      exact am_kp.tr k_q27 (ih h)
set_option maxRecDepth 100000 in
theorem kp_X9_fillOrderWords (a1 : Int32) (m : am_m) (t : am_m) (h : fn_X9_fillOrderWords a1 m = some t) : am_kp [(20, 0), (41, 0)] [(80, 0)] 0 m t := by
  unfold fn_X9_fillOrderWords at h
  obtain ⟨r1, h2, h⟩ := am_bd h
  obtain ⟨r3, h4, h⟩ := am_bd h
  obtain ⟨q13, h14, h⟩ := am_bd h
  have k_q13 : am_kp [(20, 0), (41, 0)] [(80, 0)] 0 m q13 := am_kp.tr (am_kp.si (am_kp.si (am_kp.si am_kp.rf rfl) rfl) rfl) (kl_X9_fillOrderWords_43 (h := h14))
  obtain ⟨q29, h30, h⟩ := am_bd h
  have k_q29 : am_kp [(20, 0), (41, 0)] [(80, 0)] 0 m q29 := am_kp.tr k_q13 (kl_X9_fillOrderWords_98 (h := h30))
  cases h
  exact k_q29
-- X9_ranClause
set_option maxRecDepth 100000 in
theorem kl_X9_ranClause_10 {n : Nat} {x1 : Nat} {x2 : Int32} {x3 : Int32} {x4 : Int32} {m : am_m} {t : Sum (am_m) (Int32 × am_m)} (h : lp_X9_ranClause_10 n x1 x2 x3 x4 m = some t) : (∀ t', t = .inl t' → am_kp [(3, 1), (20, 0), (24, 0), (36, 0), (37, 0), (38, 0), (39, 0), (41, 0)] [(80, 0)] 0 m t') ∧ (∀ t', t = .inr t' → am_kp [(3, 1), (20, 0), (24, 0), (36, 0), (37, 0), (38, 0), (39, 0), (41, 0)] [(80, 0)] 0 m t'.2) := by
  induction n generalizing x4 m with
  | zero => cases h
  | succ n ih =>
    unfold lp_X9_ranClause_10 at h
    by_cases hc3 : x3 ≤ x4
    · rw [if_pos hc3] at h
      cases h
      exact ⟨fun _ he => (by cases he; exact am_kp.rf), fun _ he => (by cases he)⟩
    · rw [if_neg hc3] at h
      obtain ⟨r4, h5, h⟩ := am_bd h
      obtain ⟨r6, h7, h⟩ := am_bd h
      have k_r6 : am_kp [(3, 1), (20, 0), (24, 0), (36, 0), (37, 0), (38, 0), (39, 0), (41, 0)] [(80, 0)] 0 m r6.2 := am_kp.tr am_kp.rf (am_kp.mono (kp_X1_tell_o x1 r4 m r6 h7) rfl)
      by_cases hc8 : r6.1 ≠ (1 : Int32)
      · rw [if_pos hc8] at h
        exact ⟨fun t' he => am_kp.tr k_r6 ((ih h).1 t' he), fun t' he => am_kp.tr k_r6 ((ih h).2 t' he)⟩
      · rw [if_neg hc8] at h
        obtain ⟨r9, h10, h⟩ := am_bd h
        obtain ⟨r11, h12, h⟩ := am_bd h
        have k_r11 : am_kp [(3, 1), (20, 0), (24, 0), (36, 0), (37, 0), (38, 0), (39, 0), (41, 0)] [(80, 0)] 0 m r11.2 := am_kp.tr k_r6 (am_kp.mono (kp_X1_tell_o x1 r9 r6.2 r11 h12) rfl)
        obtain ⟨r13, h14, h⟩ := am_bd h
        obtain ⟨r15, h16, h⟩ := am_bd h
        have k_r15 : am_kp [(3, 1), (20, 0), (24, 0), (36, 0), (37, 0), (38, 0), (39, 0), (41, 0)] [(80, 0)] 0 m r15.2 := am_kp.tr k_r11 (am_kp.mono (kp_X1_tell_o x1 r13 r11.2 r15 h16) rfl)
        obtain ⟨r17, h18, h⟩ := am_bd h
        obtain ⟨r19, h20, h⟩ := am_bd h
        have k_r19 : am_kp [(3, 1), (20, 0), (24, 0), (36, 0), (37, 0), (38, 0), (39, 0), (41, 0)] [(80, 0)] 0 m r19.2 := am_kp.tr k_r15 (am_kp.mono (kp_X1_tell_o x1 r17 r15.2 r19 h20) rfl)
        by_cases hc21 : r11.1 = (2000000000 : Int32)
        · rw [if_pos hc21] at h
          cases h
          exact ⟨fun _ he => (by cases he), fun _ he => (by cases he; exact k_r19)⟩
        · rw [if_neg hc21] at h
          by_cases hc22 : r15.1 = (2000000000 : Int32)
          · rw [if_pos hc22] at h
            cases h
            exact ⟨fun _ he => (by cases he), fun _ he => (by cases he; exact k_r19)⟩
          · rw [if_neg hc22] at h
            by_cases hc23 : r19.1 ≠ (2000000000 : Int32)
            · rw [if_pos hc23] at h
              obtain ⟨r24, h25, h⟩ := am_bd h
              by_cases hs26 : r24 = 270
              · rw [if_pos hs26] at h
                obtain ⟨r27, h28, h⟩ := am_bd h
                have k_r27 : am_kp [(3, 1), (20, 0), (24, 0), (36, 0), (37, 0), (38, 0), (39, 0), (41, 0)] [(80, 0)] 0 m r27.2 := am_kp.tr k_r19 (am_kp.mono (kp_X9_doHarm r11.1 r15.1 r19.1 r19.2 r27 h28) rfl)
                by_cases hc29 : 0 ≤ r27.1
                · rw [if_pos hc29] at h
                  obtain ⟨r30, h31, h⟩ := am_bd h
                  have k_r30 : am_kp [(3, 1), (20, 0), (24, 0), (36, 0), (37, 0), (38, 0), (39, 0), (41, 0)] [(80, 0)] 0 m r30 := am_kp.tr (am_kp.si k_r27 rfl) (am_kp.mono (kp_X9_fillOrderWords (r27.2.1 5 x1 4) (am_si r27.2 41 0 1 ((r27.2.1 41 0 1) + (1 : Int32))) r30 h31) rfl)
                  exact ⟨fun t' he => am_kp.tr k_r30 ((ih h).1 t' he), fun t' he => am_kp.tr k_r30 ((ih h).2 t' he)⟩
                · rw [if_neg hc29] at h
                  cases h
                  exact ⟨fun _ he => (by cases he), fun _ he => (by cases he; exact k_r27)⟩
              · rw [if_neg hs26] at h
                by_cases hs32 : r24 = 271
                · rw [if_pos hs32] at h
                  obtain ⟨r33, h34, h⟩ := am_bd h
                  have k_r33 : am_kp [(3, 1), (20, 0), (24, 0), (36, 0), (37, 0), (38, 0), (39, 0), (41, 0)] [(80, 0)] 0 m r33.2 := am_kp.tr k_r19 (am_kp.mono (kp_X9_doFeast r11.1 r19.2 r33 h34) rfl)
                  by_cases hc35 : 0 ≤ r33.1
                  · rw [if_pos hc35] at h
                    obtain ⟨r36, h37, h⟩ := am_bd h
                    have k_r36 : am_kp [(3, 1), (20, 0), (24, 0), (36, 0), (37, 0), (38, 0), (39, 0), (41, 0)] [(80, 0)] 0 m r36 := am_kp.tr (am_kp.si (am_kp.si k_r33 rfl) rfl) (am_kp.mono (kp_X9_fillOrderWords (r33.2.1 5 x1 4) (am_si (am_si r33.2 41 0 2 r33.1) 41 0 1 ((r33.2.1 41 0 1) + (1 : Int32))) r36 h37) rfl)
                    exact ⟨fun t' he => am_kp.tr k_r36 ((ih h).1 t' he), fun t' he => am_kp.tr k_r36 ((ih h).2 t' he)⟩
                  · rw [if_neg hc35] at h
                    cases h
                    exact ⟨fun _ he => (by cases he), fun _ he => (by cases he; exact (am_kp.si k_r33 rfl))⟩
                · rw [if_neg hs32] at h
                  by_cases hs38 : r24 = 272
                  · rw [if_pos hs38] at h
                    obtain ⟨r39, h40, h⟩ := am_bd h
                    have k_r39 : am_kp [(3, 1), (20, 0), (24, 0), (36, 0), (37, 0), (38, 0), (39, 0), (41, 0)] [(80, 0)] 0 m r39.2 := am_kp.tr k_r19 (am_kp.mono (kp_X9_doPardon r11.1 r15.1 r19.2 r39 h40) rfl)
                    by_cases hc41 : 0 ≤ r39.1
                    · rw [if_pos hc41] at h
                      obtain ⟨r42, h43, h⟩ := am_bd h
                      have k_r42 : am_kp [(3, 1), (20, 0), (24, 0), (36, 0), (37, 0), (38, 0), (39, 0), (41, 0)] [(80, 0)] 0 m r42 := am_kp.tr (am_kp.si k_r39 rfl) (am_kp.mono (kp_X9_fillOrderWords (r39.2.1 5 x1 4) (am_si r39.2 41 0 1 ((r39.2.1 41 0 1) + (1 : Int32))) r42 h43) rfl)
                      exact ⟨fun t' he => am_kp.tr k_r42 ((ih h).1 t' he), fun t' he => am_kp.tr k_r42 ((ih h).2 t' he)⟩
                    · rw [if_neg hc41] at h
                      cases h
                      exact ⟨fun _ he => (by cases he), fun _ he => (by cases he; exact k_r39)⟩
                  · rw [if_neg hs38] at h
                    obtain ⟨r44, h45, h⟩ := am_bd h
                    have k_r44 : am_kp [(3, 1), (20, 0), (24, 0), (36, 0), (37, 0), (38, 0), (39, 0), (41, 0)] [(80, 0)] 0 m r44.2 := am_kp.tr k_r19 (am_kp.mono (kp_X9_doPass  r19.2 r44 h45) rfl)
                    by_cases hc46 : 0 ≤ r44.1
                    · rw [if_pos hc46] at h
                      obtain ⟨r47, h48, h⟩ := am_bd h
                      have k_r47 : am_kp [(3, 1), (20, 0), (24, 0), (36, 0), (37, 0), (38, 0), (39, 0), (41, 0)] [(80, 0)] 0 m r47 := am_kp.tr (am_kp.si k_r44 rfl) (am_kp.mono (kp_X9_fillOrderWords (r44.2.1 5 x1 4) (am_si r44.2 41 0 1 ((r44.2.1 41 0 1) + (1 : Int32))) r47 h48) rfl)
                      exact ⟨fun t' he => am_kp.tr k_r47 ((ih h).1 t' he), fun t' he => am_kp.tr k_r47 ((ih h).2 t' he)⟩
                    · rw [if_neg hc46] at h
                      cases h
                      exact ⟨fun _ he => (by cases he), fun _ he => (by cases he; exact k_r44)⟩
            · rw [if_neg hc23] at h
              cases h
              exact ⟨fun _ he => (by cases he), fun _ he => (by cases he; exact k_r19)⟩
set_option maxRecDepth 100000 in
theorem kp_X9_ranClause (a1 : Nat) (a2 : Int32) (m : am_m) (t : Int32 × am_m) (h : fn_X9_ranClause a1 a2 m = some t) : am_kp [(3, 1), (20, 0), (24, 0), (36, 0), (37, 0), (38, 0), (39, 0), (41, 0)] [(80, 0)] 0 m t.2 := by
  unfold fn_X9_ranClause at h
  obtain ⟨r1, h2, h⟩ := am_bd h
  obtain ⟨w52, h50, h⟩ := am_bd h
  rcases w52 with q49 | rr51
  · have k_q49 : am_kp [(3, 1), (20, 0), (24, 0), (36, 0), (37, 0), (38, 0), (39, 0), (41, 0)] [(80, 0)] 0 m q49 := am_kp.tr am_kp.rf ((kl_X9_ranClause_10 (h := h50)).1 _ rfl)
    dsimp only at h
    cases h
    exact k_q49
  · cases h
    exact am_kp.tr am_kp.rf ((kl_X9_ranClause_10 (h := h50)).2 _ rfl)
-- X9_orders
set_option maxRecDepth 100000 in
theorem kl_X9_orders_83 {n : Nat} {x1 : Int32} {m : am_m} {t : Sum (am_m) (Int32 × am_m)} (h : lp_X9_orders_83 n x1 m = some t) : (∀ t', t = .inl t' → am_kp [(3, 1), (4, 4), (4, 5), (4, 6), (4, 7), (4, 8), (4, 9), (4, 10), (5, 2), (5, 3), (5, 4), (7, 1), (8, 0), (8, 1), (8, 2), (8, 3), (9, 16), (9, 17), (20, 0), (24, 0), (25, 0), (26, 0), (27, 0), (28, 0), (29, 0), (36, 0), (37, 0), (38, 0), (39, 0), (40, 0), (41, 0), (42, 0)] [(80, 0)] 2 m t') ∧ (∀ t', t = .inr t' → am_kp [(3, 1), (4, 4), (4, 5), (4, 6), (4, 7), (4, 8), (4, 9), (4, 10), (5, 2), (5, 3), (5, 4), (7, 1), (8, 0), (8, 1), (8, 2), (8, 3), (9, 16), (9, 17), (20, 0), (24, 0), (25, 0), (26, 0), (27, 0), (28, 0), (29, 0), (36, 0), (37, 0), (38, 0), (39, 0), (40, 0), (41, 0), (42, 0)] [(80, 0)] 2 m t'.2) := by
  induction n generalizing x1 m with
  | zero => cases h
  | succ n ih =>
    unfold lp_X9_orders_83 at h
    by_cases hc12 : (m.1 5 0 2) ≤ x1
    · rw [if_pos hc12] at h
      cases h
      exact ⟨fun _ he => (by cases he; exact am_kp.rf), fun _ he => (by cases he)⟩
    · rw [if_neg hc12] at h
      obtain ⟨r13, h14, h⟩ := am_bd h
      have k_r13 : am_kp [(3, 1), (4, 4), (4, 5), (4, 6), (4, 7), (4, 8), (4, 9), (4, 10), (5, 2), (5, 3), (5, 4), (7, 1), (8, 0), (8, 1), (8, 2), (8, 3), (9, 16), (9, 17), (20, 0), (24, 0), (25, 0), (26, 0), (27, 0), (28, 0), (29, 0), (36, 0), (37, 0), (38, 0), (39, 0), (40, 0), (41, 0), (42, 0)] [(80, 0)] 2 m r13.2 := am_kp.tr am_kp.rf (am_kp.mono (kp_X9_ranClause 0 x1 m r13 h14) rfl)
      by_cases hc15 : r13.1 ≠ 0
      · rw [if_pos hc15] at h
        exact ⟨fun t' he => am_kp.tr k_r13 ((ih h).1 t' he), fun t' he => am_kp.tr k_r13 ((ih h).2 t' he)⟩
      · rw [if_neg hc15] at h
        obtain ⟨r16, h17, h⟩ := am_bd h
        have k_r16 : am_kp [(3, 1), (4, 4), (4, 5), (4, 6), (4, 7), (4, 8), (4, 9), (4, 10), (5, 2), (5, 3), (5, 4), (7, 1), (8, 0), (8, 1), (8, 2), (8, 3), (9, 16), (9, 17), (20, 0), (24, 0), (25, 0), (26, 0), (27, 0), (28, 0), (29, 0), (36, 0), (37, 0), (38, 0), (39, 0), (40, 0), (41, 0), (42, 0)] [(80, 0)] 2 m r16 := am_kp.tr k_r13 (am_kp.mono (kp_X8_become 0 1 r13.2 r16 h17) rfl)
        obtain ⟨r18, h19, h⟩ := am_bd h
        have k_r18 : am_kp [(3, 1), (4, 4), (4, 5), (4, 6), (4, 7), (4, 8), (4, 9), (4, 10), (5, 2), (5, 3), (5, 4), (7, 1), (8, 0), (8, 1), (8, 2), (8, 3), (9, 16), (9, 17), (20, 0), (24, 0), (25, 0), (26, 0), (27, 0), (28, 0), (29, 0), (36, 0), (37, 0), (38, 0), (39, 0), (40, 0), (41, 0), (42, 0)] [(80, 0)] 2 m r18 := am_kp.tr k_r16 (am_kp.mono (kp_X3_become 0 1 r16 r18 h19) rfl)
        obtain ⟨r20, h21, h⟩ := am_bd h
        have k_r20 : am_kp [(3, 1), (4, 4), (4, 5), (4, 6), (4, 7), (4, 8), (4, 9), (4, 10), (5, 2), (5, 3), (5, 4), (7, 1), (8, 0), (8, 1), (8, 2), (8, 3), (9, 16), (9, 17), (20, 0), (24, 0), (25, 0), (26, 0), (27, 0), (28, 0), (29, 0), (36, 0), (37, 0), (38, 0), (39, 0), (40, 0), (41, 0), (42, 0)] [(80, 0)] 2 m r20.2 := am_kp.tr (am_kp.si k_r18 rfl) (am_kp.mono (kp_X9_told (-3) (am_si r18 9 0 16 x1) r20 h21) rfl)
        cases h
        exact ⟨fun _ he => (by cases he), fun _ he => (by cases he; exact k_r20)⟩
set_option maxRecDepth 100000 in
theorem kp_X9_orders  (m : am_m) (t : Int32 × am_m) (h : fn_X9_orders  m = some t) : am_kp [(3, 1), (4, 4), (4, 5), (4, 6), (4, 7), (4, 8), (4, 9), (4, 10), (5, 2), (5, 3), (5, 4), (7, 1), (8, 0), (8, 1), (8, 2), (8, 3), (9, 16), (9, 17), (20, 0), (24, 0), (25, 0), (26, 0), (27, 0), (28, 0), (29, 0), (36, 0), (37, 0), (38, 0), (39, 0), (40, 0), (41, 0), (42, 0)] [(80, 0)] 2 m t.2 := by
  unfold fn_X9_orders at h
  obtain ⟨r1, h2, h⟩ := am_bd h
  have k_r1 : am_kp [(3, 1), (4, 4), (4, 5), (4, 6), (4, 7), (4, 8), (4, 9), (4, 10), (5, 2), (5, 3), (5, 4), (7, 1), (8, 0), (8, 1), (8, 2), (8, 3), (9, 16), (9, 17), (20, 0), (24, 0), (25, 0), (26, 0), (27, 0), (28, 0), (29, 0), (36, 0), (37, 0), (38, 0), (39, 0), (40, 0), (41, 0), (42, 0)] [(80, 0)] 2 m r1.2 := am_kp.tr (am_kp.si am_kp.rf rfl) (am_kp.mono (kp_X4_readWhole 1 (am_si m 9 0 16 (-1)) r1 h2) rfl)
  by_cases hc3 : r1.1 ≠ 0
  · rw [if_pos hc3] at h
    obtain ⟨r4, h5, h⟩ := am_bd h
    have k_r4 : am_kp [(3, 1), (4, 4), (4, 5), (4, 6), (4, 7), (4, 8), (4, 9), (4, 10), (5, 2), (5, 3), (5, 4), (7, 1), (8, 0), (8, 1), (8, 2), (8, 3), (9, 16), (9, 17), (20, 0), (24, 0), (25, 0), (26, 0), (27, 0), (28, 0), (29, 0), (36, 0), (37, 0), (38, 0), (39, 0), (40, 0), (41, 0), (42, 0)] [(80, 0)] 2 m r4 := am_kp.tr k_r1 (am_kp.mono (kp_X8_become 1 0 r1.2 r4 h5) rfl)
    obtain ⟨r6, h7, h⟩ := am_bd h
    have k_r6 : am_kp [(3, 1), (4, 4), (4, 5), (4, 6), (4, 7), (4, 8), (4, 9), (4, 10), (5, 2), (5, 3), (5, 4), (7, 1), (8, 0), (8, 1), (8, 2), (8, 3), (9, 16), (9, 17), (20, 0), (24, 0), (25, 0), (26, 0), (27, 0), (28, 0), (29, 0), (36, 0), (37, 0), (38, 0), (39, 0), (40, 0), (41, 0), (42, 0)] [(80, 0)] 2 m r6 := am_kp.tr k_r4 (am_kp.mono (kp_X3_become 1 0 r4 r6 h7) rfl)
    obtain ⟨r8, h9, h⟩ := am_bd h
    have k_r8 : am_kp [(3, 1), (4, 4), (4, 5), (4, 6), (4, 7), (4, 8), (4, 9), (4, 10), (5, 2), (5, 3), (5, 4), (7, 1), (8, 0), (8, 1), (8, 2), (8, 3), (9, 16), (9, 17), (20, 0), (24, 0), (25, 0), (26, 0), (27, 0), (28, 0), (29, 0), (36, 0), (37, 0), (38, 0), (39, 0), (40, 0), (41, 0), (42, 0)] [(80, 0)] 2 m r8 := am_kp.tr k_r6 (am_kp.mono (kp_X9_askLive  r6 r8 h9) rfl)
    obtain ⟨r10, h11, h⟩ := am_bd h
    have k_r10 : am_kp [(3, 1), (4, 4), (4, 5), (4, 6), (4, 7), (4, 8), (4, 9), (4, 10), (5, 2), (5, 3), (5, 4), (7, 1), (8, 0), (8, 1), (8, 2), (8, 3), (9, 16), (9, 17), (20, 0), (24, 0), (25, 0), (26, 0), (27, 0), (28, 0), (29, 0), (36, 0), (37, 0), (38, 0), (39, 0), (40, 0), (41, 0), (42, 0)] [(80, 0)] 2 m r10 := am_kp.tr (am_kp.si (am_kp.si k_r8 rfl) rfl) (am_kp.mono (kp_X9_fillOrderWords (r8.1 5 0 4) (am_si (am_si r8 41 0 1 0) 41 0 2 (-1)) r10 h11) rfl)
    obtain ⟨w27, h23, h⟩ := am_bd h
    rcases w27 with q22 | rr26
    · have k_q22 : am_kp [(3, 1), (4, 4), (4, 5), (4, 6), (4, 7), (4, 8), (4, 9), (4, 10), (5, 2), (5, 3), (5, 4), (7, 1), (8, 0), (8, 1), (8, 2), (8, 3), (9, 16), (9, 17), (20, 0), (24, 0), (25, 0), (26, 0), (27, 0), (28, 0), (29, 0), (36, 0), (37, 0), (38, 0), (39, 0), (40, 0), (41, 0), (42, 0)] [(80, 0)] 2 m q22 := am_kp.tr k_r10 ((kl_X9_orders_83 (h := h23)).1 _ rfl)
      dsimp only at h
      obtain ⟨r24, h25, h⟩ := am_bd h
      have k_r24 : am_kp [(3, 1), (4, 4), (4, 5), (4, 6), (4, 7), (4, 8), (4, 9), (4, 10), (5, 2), (5, 3), (5, 4), (7, 1), (8, 0), (8, 1), (8, 2), (8, 3), (9, 16), (9, 17), (20, 0), (24, 0), (25, 0), (26, 0), (27, 0), (28, 0), (29, 0), (36, 0), (37, 0), (38, 0), (39, 0), (40, 0), (41, 0), (42, 0)] [(80, 0)] 2 m r24.2 := am_kp.tr k_q22 (am_kp.mono (kp_X9_told (q22.1 41 0 1) q22 r24 h25) rfl)
      cases h
      exact k_r24
    · cases h
      exact am_kp.tr k_r10 ((kl_X9_orders_83 (h := h23)).2 _ rfl)
  · rw [if_neg hc3] at h
    obtain ⟨r28, h29, h⟩ := am_bd h
    have k_r28 : am_kp [(3, 1), (4, 4), (4, 5), (4, 6), (4, 7), (4, 8), (4, 9), (4, 10), (5, 2), (5, 3), (5, 4), (7, 1), (8, 0), (8, 1), (8, 2), (8, 3), (9, 16), (9, 17), (20, 0), (24, 0), (25, 0), (26, 0), (27, 0), (28, 0), (29, 0), (36, 0), (37, 0), (38, 0), (39, 0), (40, 0), (41, 0), (42, 0)] [(80, 0)] 2 m r28.2 := am_kp.tr k_r1 (am_kp.mono (kp_X9_told (-6) r1.2 r28 h29) rfl)
    cases h
    exact k_r28
-- X9_force
set_option maxRecDepth 100000 in
theorem kp_X9_force (a1 : Int32) (m : am_m) (t : Int32 × am_m) (h : fn_X9_force a1 m = some t) : am_kp [(8, 3), (9, 17), (42, 0)] [] 0 m t.2 := by
  unfold fn_X9_force at h
  obtain ⟨r1, h2, h⟩ := am_bd h
  by_cases hc3 : r1 ≠ 0
  · rw [if_pos hc3] at h
    obtain ⟨r4, h5, h⟩ := am_bd h
    have k_r4 : am_kp [(8, 3), (9, 17), (42, 0)] [] 0 m r4.2 := am_kp.tr (am_kp.si am_kp.rf rfl) (am_kp.mono (kp_X9_told 0 (am_si m 8 0 3 a1) r4 h5) rfl)
    cases h
    exact k_r4
  · rw [if_neg hc3] at h
    obtain ⟨r6, h7, h⟩ := am_bd h
    have k_r6 : am_kp [(8, 3), (9, 17), (42, 0)] [] 0 m r6.2 := am_kp.tr am_kp.rf (am_kp.mono (kp_X9_told (-2) m r6 h7) rfl)
    cases h
    exact k_r6
-- X9_harm
set_option maxRecDepth 100000 in
theorem kp_X9_harm (a1 : Int32) (a2 : Int32) (a3 : Int32) (m : am_m) (t : Int32 × am_m) (h : fn_X9_harm a1 a2 a3 m = some t) : am_kp [(3, 1), (9, 17), (24, 0), (37, 0), (38, 0), (42, 0)] [] 0 m t.2 := by
  unfold fn_X9_harm at h
  obtain ⟨r1, h2, h⟩ := am_bd h
  have k_r1 : am_kp [(3, 1), (9, 17), (24, 0), (37, 0), (38, 0), (42, 0)] [] 0 m r1.2 := am_kp.tr am_kp.rf (am_kp.mono (kp_X9_doHarm a1 a2 a3 m r1 h2) rfl)
  obtain ⟨r3, h4, h⟩ := am_bd h
  have k_r3 : am_kp [(3, 1), (9, 17), (24, 0), (37, 0), (38, 0), (42, 0)] [] 0 m r3.2 := am_kp.tr k_r1 (am_kp.mono (kp_X9_told r1.1 r1.2 r3 h4) rfl)
  cases h
  exact k_r3
-- X9_feast
set_option maxRecDepth 100000 in
theorem kp_X9_feast (a1 : Int32) (m : am_m) (t : Int32 × am_m) (h : fn_X9_feast a1 m = some t) : am_kp [(3, 1), (9, 17), (20, 0), (24, 0), (36, 0), (42, 0)] [(80, 0)] 1 m t.2 := by
  unfold fn_X9_feast at h
  obtain ⟨r1, h2, h⟩ := am_bd h
  have k_r1 : am_kp [(3, 1), (9, 17), (20, 0), (24, 0), (36, 0), (42, 0)] [(80, 0)] 1 m r1 := am_kp.tr am_kp.rf (am_kp.mono (kp_X9_askLive  m r1 h2) rfl)
  obtain ⟨r3, h4, h⟩ := am_bd h
  have k_r3 : am_kp [(3, 1), (9, 17), (20, 0), (24, 0), (36, 0), (42, 0)] [(80, 0)] 1 m r3.2 := am_kp.tr k_r1 (am_kp.mono (kp_X9_doFeast a1 r1 r3 h4) rfl)
  obtain ⟨r5, h6, h⟩ := am_bd h
  have k_r5 : am_kp [(3, 1), (9, 17), (20, 0), (24, 0), (36, 0), (42, 0)] [(80, 0)] 1 m r5.2 := am_kp.tr k_r3 (am_kp.mono (kp_X9_told r3.1 r3.2 r5 h6) rfl)
  cases h
  exact k_r5
-- X9_pardon
set_option maxRecDepth 100000 in
theorem kp_X9_pardon (a1 : Int32) (a2 : Int32) (m : am_m) (t : Int32 × am_m) (h : fn_X9_pardon a1 a2 m = some t) : am_kp [(3, 1), (9, 17), (24, 0), (37, 0), (38, 0), (42, 0)] [] 0 m t.2 := by
  unfold fn_X9_pardon at h
  obtain ⟨r1, h2, h⟩ := am_bd h
  have k_r1 : am_kp [(3, 1), (9, 17), (24, 0), (37, 0), (38, 0), (42, 0)] [] 0 m r1.2 := am_kp.tr am_kp.rf (am_kp.mono (kp_X9_doPardon a1 a2 m r1 h2) rfl)
  obtain ⟨r3, h4, h⟩ := am_bd h
  have k_r3 : am_kp [(3, 1), (9, 17), (24, 0), (37, 0), (38, 0), (42, 0)] [] 0 m r3.2 := am_kp.tr k_r1 (am_kp.mono (kp_X9_told r1.1 r1.2 r3 h4) rfl)
  cases h
  exact k_r3
-- X9_pass
set_option maxRecDepth 100000 in
theorem kp_X9_pass  (m : am_m) (t : Int32 × am_m) (h : fn_X9_pass  m = some t) : am_kp [(3, 1), (9, 17), (20, 0), (24, 0), (36, 0), (39, 0), (42, 0)] [(80, 0)] 1 m t.2 := by
  unfold fn_X9_pass at h
  obtain ⟨r1, h2, h⟩ := am_bd h
  have k_r1 : am_kp [(3, 1), (9, 17), (20, 0), (24, 0), (36, 0), (39, 0), (42, 0)] [(80, 0)] 1 m r1 := am_kp.tr am_kp.rf (am_kp.mono (kp_X9_askLive  m r1 h2) rfl)
  obtain ⟨r3, h4, h⟩ := am_bd h
  have k_r3 : am_kp [(3, 1), (9, 17), (20, 0), (24, 0), (36, 0), (39, 0), (42, 0)] [(80, 0)] 1 m r3.2 := am_kp.tr k_r1 (am_kp.mono (kp_X9_doPass  r1 r3 h4) rfl)
  obtain ⟨r5, h6, h⟩ := am_bd h
  have k_r5 : am_kp [(3, 1), (9, 17), (20, 0), (24, 0), (36, 0), (39, 0), (42, 0)] [(80, 0)] 1 m r5.2 := am_kp.tr k_r3 (am_kp.mono (kp_X9_told r3.1 r3.2 r5 h6) rfl)
  cases h
  exact k_r5
-- X9_undo
set_option maxRecDepth 100000 in
theorem kp_X9_undo  (m : am_m) (t : Int32 × am_m) (h : fn_X9_undo  m = some t) : am_kp [(3, 1), (9, 17), (36, 0), (37, 0), (38, 0), (39, 0), (42, 0)] [] 0 m t.2 := by
  unfold fn_X9_undo at h
  obtain ⟨r1, h2, h⟩ := am_bd h
  have k_r1 : am_kp [(3, 1), (9, 17), (36, 0), (37, 0), (38, 0), (39, 0), (42, 0)] [] 0 m r1.2 := am_kp.tr am_kp.rf (am_kp.mono (kp_X3_undoLatest 0 0 m r1 h2) rfl)
  obtain ⟨r3, h4, h⟩ := am_bd h
  have k_r3 : am_kp [(3, 1), (9, 17), (36, 0), (37, 0), (38, 0), (39, 0), (42, 0)] [] 0 m r3.2 := am_kp.tr k_r1 (am_kp.mono (kp_X9_told r1.1 r1.2 r3 h4) rfl)
  cases h
  exact k_r3
-- X9_lookLive
set_option maxRecDepth 100000 in
theorem kp_X9_lookLive  (m : am_m) (t : am_m) (h : fn_X9_lookLive  m = some t) : am_kp [(6, 0), (20, 0), (30, 0)] [(80, 0)] 1 m t := by
  unfold fn_X9_lookLive at h
  obtain ⟨r1, h2, h⟩ := am_bd h
  have k_r1 : am_kp [(6, 0), (20, 0), (30, 0)] [(80, 0)] 1 m r1 := am_kp.tr am_kp.rf (am_kp.mono (kp_X9_askLive  m r1 h2) rfl)
  obtain ⟨r3, h4, h⟩ := am_bd h
  have k_r3 : am_kp [(6, 0), (20, 0), (30, 0)] [(80, 0)] 1 m r3 := am_kp.tr k_r1 (am_kp.mono (kp_X6_lookAt  r1 r3 h4) rfl)
  cases h
  exact k_r3
-- X9_largest
set_option maxRecDepth 100000 in
theorem kp_X9_largest (a1 : Int32) (m : am_m) (t : Int32 × am_m) (h : fn_X9_largest a1 m = some t) : am_kp [(6, 0), (20, 0), (30, 0)] [(80, 0)] 1 m t.2 := by
  unfold fn_X9_largest at h
  obtain ⟨r1, h2, h⟩ := am_bd h
  have k_r1 : am_kp [(6, 0), (20, 0), (30, 0)] [(80, 0)] 1 m r1 := am_kp.tr am_kp.rf (am_kp.mono (kp_X9_lookLive  m r1 h2) rfl)
  obtain ⟨r3, h4, h⟩ := am_bd h
  by_cases hc5 : r3 ≠ 0
  · rw [if_pos hc5] at h
    obtain ⟨r6, h7, h⟩ := am_bd h
    cases h
    exact k_r1
  · rw [if_neg hc5] at h
    cases h
    exact k_r1
-- X9_tables
set_option maxRecDepth 100000 in
theorem kp_X9_tables (a1 : Int32) (m : am_m) (t : Int32 × am_m) (h : fn_X9_tables a1 m = some t) : am_kp [(2, 0), (2, 1), (2, 2), (6, 0), (20, 0), (21, 0), (22, 0), (23, 0), (30, 0)] [(80, 0)] 1 m t.2 := by
  unfold fn_X9_tables at h
  obtain ⟨r1, h2, h⟩ := am_bd h
  have k_r1 : am_kp [(2, 0), (2, 1), (2, 2), (6, 0), (20, 0), (21, 0), (22, 0), (23, 0), (30, 0)] [(80, 0)] 1 m r1 := am_kp.tr am_kp.rf (am_kp.mono (kp_X9_lookLive  m r1 h2) rfl)
  obtain ⟨r3, h4, h⟩ := am_bd h
  have k_r3 : am_kp [(2, 0), (2, 1), (2, 2), (6, 0), (20, 0), (21, 0), (22, 0), (23, 0), (30, 0)] [(80, 0)] 1 m r3 := am_kp.tr k_r1 (am_kp.mono (kp_X2_intoTables  r1 r3 h4) rfl)
  obtain ⟨r5, h6, h⟩ := am_bd h
  cases h
  exact k_r3
-- X9_newHarms
set_option maxRecDepth 100000 in
theorem kp_X9_newHarms (a1 : Int32) (m : am_m) (t : Int32 × am_m) (h : fn_X9_newHarms a1 m = some t) : am_kp [(2, 0), (2, 1), (2, 2), (6, 0), (20, 0), (21, 0), (22, 0), (23, 0), (30, 0), (31, 0)] [(80, 0)] 1 m t.2 := by
  unfold fn_X9_newHarms at h
  obtain ⟨r1, h2, h⟩ := am_bd h
  have k_r1 : am_kp [(2, 0), (2, 1), (2, 2), (6, 0), (20, 0), (21, 0), (22, 0), (23, 0), (30, 0), (31, 0)] [(80, 0)] 1 m r1 := am_kp.tr am_kp.rf (am_kp.mono (kp_X9_lookLive  m r1 h2) rfl)
  obtain ⟨r3, h4, h⟩ := am_bd h
  have k_r3 : am_kp [(2, 0), (2, 1), (2, 2), (6, 0), (20, 0), (21, 0), (22, 0), (23, 0), (30, 0), (31, 0)] [(80, 0)] 1 m r3 := am_kp.tr k_r1 (am_kp.mono (kp_X6_lookAtBars  r1 r3 h4) rfl)
  obtain ⟨r5, h6, h⟩ := am_bd h
  have k_r5 : am_kp [(2, 0), (2, 1), (2, 2), (6, 0), (20, 0), (21, 0), (22, 0), (23, 0), (30, 0), (31, 0)] [(80, 0)] 1 m r5 := am_kp.tr k_r3 (am_kp.mono (kp_X2_intoSets  r3 r5 h6) rfl)
  obtain ⟨r7, h8, h⟩ := am_bd h
  cases h
  exact k_r5
-- X9_leftOut
set_option maxRecDepth 100000 in
theorem kp_X9_leftOut (a1 : Int32) (m : am_m) (t : Int32 × am_m) (h : fn_X9_leftOut a1 m = some t) : am_kp [(6, 0), (20, 0), (30, 0), (90, 0)] [(80, 0)] 1 m t.2 := by
  unfold fn_X9_leftOut at h
  obtain ⟨r1, h2, h⟩ := am_bd h
  have k_r1 : am_kp [(6, 0), (20, 0), (30, 0), (90, 0)] [(80, 0)] 1 m r1 := am_kp.tr am_kp.rf (am_kp.mono (kp_X9_lookLive  m r1 h2) rfl)
  obtain ⟨r3, h4, h⟩ := am_bd h
  have k_r3 : am_kp [(6, 0), (20, 0), (30, 0), (90, 0)] [(80, 0)] 1 m r3.2 := am_kp.tr k_r1 (am_kp.mono (kp_X6_fewestOut  r1 r3 h4) rfl)
  obtain ⟨r5, h6, h⟩ := am_bd h
  cases h
  exact k_r3
-- X9_mostHurt
set_option maxRecDepth 100000 in
theorem kl_X9_mostHurt_8 {n : Nat} {x1 : Int32} {x2 : Int32} {x3 : Int32} {x4 : Int32} {x5 : Int32} {m : am_m} {t : Int32 × am_m} (h : lp_X9_mostHurt_8 n x1 x2 x3 x4 x5 m = some t) : am_kp [(20, 0)] [(80, 0)] 0 m t.2 := by
  induction n generalizing x3 x4 x5 m with
  | zero => cases h
  | succ n ih =>
    unfold lp_X9_mostHurt_8 at h
    by_cases hc1 : (7 : Int32) ≤ x5
    · rw [if_pos hc1] at h
      cases h
      exact am_kp.rf
    · rw [if_neg hc1] at h
      obtain ⟨q6, h7, h⟩ := am_bd h
      have k_q6 : am_kp [(20, 0)] [(80, 0)] 0 m q6.2.2 := by
        have h := h7
        by_cases hc2 : ((x1 >>> (x5 &&& 31)) &&& (1 : Int32)) ≠ (1 : Int32)
        · rw [if_pos hc2] at h
          cases h
          exact am_kp.rf
        · rw [if_neg hc2] at h
          obtain ⟨r3, h4, h⟩ := am_bd h
          have k_r3 : am_kp [(20, 0)] [(80, 0)] 0 m r3.2 := am_kp.tr am_kp.rf (am_kp.mono (kp_X1_sufferedBy x5 x2 m r3 h4) rfl)
          by_cases hc5 : r3.1 ≤ x4
          · rw [if_pos hc5] at h
            cases h
            exact k_r3
          · rw [if_neg hc5] at h
            cases h
            exact k_r3
      exact am_kp.tr k_q6 (ih h)
set_option maxRecDepth 100000 in
theorem kp_X9_mostHurt (a1 : Int32) (a2 : Int32) (m : am_m) (t : Int32 × am_m) (h : fn_X9_mostHurt a1 a2 m = some t) : am_kp [(20, 0)] [(80, 0)] 0 m t.2 := by
  unfold fn_X9_mostHurt at h
  obtain ⟨q8, h9, h⟩ := am_bd h
  have k_q8 : am_kp [(20, 0)] [(80, 0)] 0 m q8.2 := am_kp.tr am_kp.rf (kl_X9_mostHurt_8 (h := h9))
  cases h
  exact k_q8
-- X9_seat
set_option maxRecDepth 100000 in
theorem kl_X9_seat_34 {n : Nat} {x1 : Int32} {x2 : Int32} {x3 : Int32} {x4 : Int32} {m : am_m} {t : Int32 × am_m} (h : lp_X9_seat_34 n x1 x2 x3 x4 m = some t) : am_kp [(20, 0)] [(80, 0)] 1 m t.2 := by
  induction n generalizing x3 x4 m with
  | zero => cases h
  | succ n ih =>
    unfold lp_X9_seat_34 at h
    by_cases hc10 : x2 ≤ x4
    · rw [if_pos hc10] at h
      cases h
      exact am_kp.rf
    · rw [if_neg hc10] at h
      obtain ⟨r11, h12, h⟩ := am_bd h
      have k_r11 : am_kp [(20, 0)] [(80, 0)] 1 m r11.2 := am_kp.tr am_kp.rf (am_kp.mono (kp_X9_mostHurt x3 x1 m r11 h12) rfl)
      exact am_kp.tr k_r11 (ih h)
set_option maxRecDepth 100000 in
theorem kp_X9_seat (a1 : Int32) (a2 : Int32) (m : am_m) (t : Int32 × am_m) (h : fn_X9_seat a1 a2 m = some t) : am_kp [(20, 0)] [(80, 0)] 1 m t.2 := by
  unfold fn_X9_seat at h
  obtain ⟨r1, h2, h⟩ := am_bd h
  by_cases hc3 : r1 = 0
  · rw [if_pos hc3] at h
    cases h
    exact am_kp.rf
  · rw [if_neg hc3] at h
    by_cases hc4 : a2 < 0
    · rw [if_pos hc4] at h
      cases h
      exact am_kp.rf
    · rw [if_neg hc4] at h
      obtain ⟨r5, h6, h⟩ := am_bd h
      by_cases hc7 : a2 < r5
      · rw [if_pos hc7] at h
        obtain ⟨r8, h9, h⟩ := am_bd h
        have k_r8 : am_kp [(20, 0)] [(80, 0)] 1 m r8 := am_kp.tr am_kp.rf (am_kp.mono (kp_X9_askLive  m r8 h9) rfl)
        obtain ⟨q13, h14, h⟩ := am_bd h
        have k_q13 : am_kp [(20, 0)] [(80, 0)] 1 m q13.2 := am_kp.tr k_r8 (kl_X9_seat_34 (h := h14))
        obtain ⟨r15, h16, h⟩ := am_bd h
        have k_r15 : am_kp [(20, 0)] [(80, 0)] 1 m r15.2 := am_kp.tr k_q13 (am_kp.mono (kp_X9_mostHurt q13.1 a1 q13.2 r15 h16) rfl)
        cases h
        exact k_r15
      · rw [if_neg hc7] at h
        cases h
        exact am_kp.rf
-- X9_chain
set_option maxRecDepth 100000 in
theorem kp_X9_chain (a1 : Int32) (a2 : Int32) (a3 : Int32) (m : am_m) (t : Int32 × am_m) (h : fn_X9_chain a1 a2 a3 m = some t) : am_kp [(6, 0), (20, 0), (30, 0), (32, 0)] [(80, 0)] 1 m t.2 := by
  unfold fn_X9_chain at h
  obtain ⟨r1, h2, h⟩ := am_bd h
  by_cases hc3 : r1 = 0
  · rw [if_pos hc3] at h
    cases h
    exact am_kp.rf
  · rw [if_neg hc3] at h
    obtain ⟨r4, h5, h⟩ := am_bd h
    by_cases hc6 : r4 = 0
    · rw [if_pos hc6] at h
      cases h
      exact am_kp.rf
    · rw [if_neg hc6] at h
      by_cases hc7 : (-1 : Int32) ≤ a3
      · rw [if_pos hc7] at h
        obtain ⟨r8, h9, h⟩ := am_bd h
        have k_r8 : am_kp [(6, 0), (20, 0), (30, 0), (32, 0)] [(80, 0)] 1 m r8 := am_kp.tr am_kp.rf (am_kp.mono (kp_X9_lookLive  m r8 h9) rfl)
        obtain ⟨r10, h11, h⟩ := am_bd h
        have k_r10 : am_kp [(6, 0), (20, 0), (30, 0), (32, 0)] [(80, 0)] 1 m r10.2 := am_kp.tr k_r8 (am_kp.mono (kp_X6_stepsTo a1 a2 r8 r10 h11) rfl)
        by_cases hc12 : a3 = (-1 : Int32)
        · rw [if_pos hc12] at h
          cases h
          exact k_r10
        · rw [if_neg hc12] at h
          by_cases hc13 : r10.1 ≠ (-1 : Int32)
          · rw [if_pos hc13] at h
            by_cases hc14 : r10.1 ≤ a3
            · rw [if_pos hc14] at h
              cases h
              exact k_r10
            · rw [if_neg hc14] at h
              obtain ⟨r15, h16, h⟩ := am_bd h
              cases h
              exact k_r10
          · rw [if_neg hc13] at h
            cases h
            exact k_r10
      · rw [if_neg hc7] at h
        cases h
        exact am_kp.rf
-- X9_circles
set_option maxRecDepth 100000 in
theorem kp_X9_circles  (m : am_m) (t : Int32 × am_m) (h : fn_X9_circles  m = some t) : am_kp [(6, 0), (20, 0), (30, 0)] [(80, 0)] 1 m t.2 := by
  unfold fn_X9_circles at h
  obtain ⟨r1, h2, h⟩ := am_bd h
  have k_r1 : am_kp [(6, 0), (20, 0), (30, 0)] [(80, 0)] 1 m r1 := am_kp.tr am_kp.rf (am_kp.mono (kp_X9_lookLive  m r1 h2) rfl)
  obtain ⟨r3, h4, h⟩ := am_bd h
  cases h
  exact k_r1
-- X9_bridges
set_option maxRecDepth 100000 in
theorem kp_X9_bridges (a1 : Int32) (m : am_m) (t : Int32 × am_m) (h : fn_X9_bridges a1 m = some t) : am_kp [(6, 0), (6, 7), (20, 0), (30, 0), (33, 0)] [(80, 0)] 1 m t.2 := by
  unfold fn_X9_bridges at h
  obtain ⟨r1, h2, h⟩ := am_bd h
  have k_r1 : am_kp [(6, 0), (6, 7), (20, 0), (30, 0), (33, 0)] [(80, 0)] 1 m r1 := am_kp.tr am_kp.rf (am_kp.mono (kp_X9_lookLive  m r1 h2) rfl)
  obtain ⟨r3, h4, h⟩ := am_bd h
  have k_r3 : am_kp [(6, 0), (6, 7), (20, 0), (30, 0), (33, 0)] [(80, 0)] 1 m r3 := am_kp.tr k_r1 (am_kp.mono (kp_X6_findBridges  r1 r3 h4) rfl)
  obtain ⟨r5, h6, h⟩ := am_bd h
  cases h
  exact k_r3
-- X9_sat
set_option maxRecDepth 100000 in
theorem kp_X9_sat (a1 : Int32) (m : am_m) (t : Int32 × am_m) (h : fn_X9_sat a1 m = some t) : am_kp [(8, 1), (9, 17), (40, 0), (42, 0)] [] 0 m t.2 := by
  unfold fn_X9_sat at h
  by_cases hc1 : a1 < 0
  · rw [if_pos hc1] at h
    obtain ⟨r2, h3, h⟩ := am_bd h
    have k_r2 : am_kp [(8, 1), (9, 17), (40, 0), (42, 0)] [] 0 m r2.2 := am_kp.tr am_kp.rf (am_kp.mono (kp_X9_told (-1) m r2 h3) rfl)
    cases h
    exact k_r2
  · rw [if_neg hc1] at h
    by_cases hc4 : (127 : Int32) < a1
    · rw [if_pos hc4] at h
      obtain ⟨r5, h6, h⟩ := am_bd h
      have k_r5 : am_kp [(8, 1), (9, 17), (40, 0), (42, 0)] [] 0 m r5.2 := am_kp.tr am_kp.rf (am_kp.mono (kp_X9_told (-1) m r5 h6) rfl)
      cases h
      exact k_r5
    · rw [if_neg hc4] at h
      obtain ⟨r7, h8, h⟩ := am_bd h
      by_cases hc9 : (2 : Int32) ≤ r7
      · rw [if_pos hc9] at h
        obtain ⟨r10, h11, h⟩ := am_bd h
        by_cases hc12 : r10 ≠ 0
        · rw [if_pos hc12] at h
          by_cases hc13 : (m.1 8 0 1) < (6 : Int32)
          · rw [if_pos hc13] at h
            obtain ⟨hg14, h⟩ := am_ck_some h
            obtain ⟨r15, h16, h⟩ := am_bd h
            have k_r15 : am_kp [(8, 1), (9, 17), (40, 0), (42, 0)] [] 0 m r15.2 := am_kp.tr (am_kp.si (am_kp.si am_kp.rf rfl) rfl) (am_kp.mono (kp_X9_told ((m.1 8 0 1) + (1 : Int32)) (am_si (am_si m 40 0 (m.1 8 0 1).toNatClampNeg a1) 8 0 1 ((m.1 8 0 1) + (1 : Int32))) r15 h16) rfl)
            cases h
            exact k_r15
          · rw [if_neg hc13] at h
            obtain ⟨r17, h18, h⟩ := am_bd h
            have k_r17 : am_kp [(8, 1), (9, 17), (40, 0), (42, 0)] [] 0 m r17.2 := am_kp.tr am_kp.rf (am_kp.mono (kp_X9_told (-5) m r17 h18) rfl)
            cases h
            exact k_r17
        · rw [if_neg hc12] at h
          obtain ⟨r19, h20, h⟩ := am_bd h
          have k_r19 : am_kp [(8, 1), (9, 17), (40, 0), (42, 0)] [] 0 m r19.2 := am_kp.tr am_kp.rf (am_kp.mono (kp_X9_told (-2) m r19 h20) rfl)
          cases h
          exact k_r19
      · rw [if_neg hc9] at h
        obtain ⟨r21, h22, h⟩ := am_bd h
        have k_r21 : am_kp [(8, 1), (9, 17), (40, 0), (42, 0)] [] 0 m r21.2 := am_kp.tr am_kp.rf (am_kp.mono (kp_X9_told (-1) m r21 h22) rfl)
        cases h
        exact k_r21
-- X9_forget
set_option maxRecDepth 100000 in
theorem kp_X9_forget  (m : am_m) (t : Int32 × am_m) (h : fn_X9_forget  m = some t) : am_kp [(8, 1)] [] 0 m t.2 := by
  unfold fn_X9_forget at h
  cases h
  exact (am_kp.si am_kp.rf rfl)
-- X9_doubted
set_option maxRecDepth 100000 in
theorem kp_X9_doubted (a1 : Int32) (m : am_m) (t : Int32 × am_m) (h : fn_X9_doubted a1 m = some t) : am_kp [(6, 0), (6, 7), (20, 0), (30, 0), (33, 0)] [(80, 0)] 1 m t.2 := by
  unfold fn_X9_doubted at h
  obtain ⟨r1, h2, h⟩ := am_bd h
  have k_r1 : am_kp [(6, 0), (6, 7), (20, 0), (30, 0), (33, 0)] [(80, 0)] 1 m r1 := am_kp.tr am_kp.rf (am_kp.mono (kp_X9_lookLive  m r1 h2) rfl)
  obtain ⟨r3, h4, h⟩ := am_bd h
  have k_r3 : am_kp [(6, 0), (6, 7), (20, 0), (30, 0), (33, 0)] [(80, 0)] 1 m r3 := am_kp.tr k_r1 (am_kp.mono (kp_X6_findDoubted 0 r1 r3 h4) rfl)
  obtain ⟨r5, h6, h⟩ := am_bd h
  cases h
  exact k_r3
-- X9_fitting
set_option maxRecDepth 100000 in
theorem kp_X9_fitting (a1 : Int32) (m : am_m) (t : Int32 × am_m) (h : fn_X9_fitting a1 m = some t) : am_kp [(6, 0), (20, 0), (30, 0)] [(80, 0)] 1 m t.2 := by
  unfold fn_X9_fitting at h
  obtain ⟨r1, h2, h⟩ := am_bd h
  by_cases hc3 : r1 ≠ 0
  · rw [if_pos hc3] at h
    obtain ⟨r4, h5, h⟩ := am_bd h
    have k_r4 : am_kp [(6, 0), (20, 0), (30, 0)] [(80, 0)] 1 m r4 := am_kp.tr am_kp.rf (am_kp.mono (kp_X9_lookLive  m r4 h5) rfl)
    obtain ⟨r6, h7, h⟩ := am_bd h
    cases h
    exact k_r4
  · rw [if_neg hc3] at h
    cases h
    exact am_kp.rf
-- X9_ask
set_option maxRecDepth 100000 in
theorem kp_X9_ask (a1 : Int32) (a2 : Int32) (m : am_m) (t : Int32 × am_m) (h : fn_X9_ask a1 a2 m = some t) : am_kp [(6, 0), (20, 0), (30, 0)] [(80, 0)] 1 m t.2 := by
  unfold fn_X9_ask at h
  obtain ⟨r1, h2, h⟩ := am_bd h
  by_cases hc3 : r1 ≠ 0
  · rw [if_pos hc3] at h
    obtain ⟨r4, h5, h⟩ := am_bd h
    have k_r4 : am_kp [(6, 0), (20, 0), (30, 0)] [(80, 0)] 1 m r4 := am_kp.tr am_kp.rf (am_kp.mono (kp_X9_lookLive  m r4 h5) rfl)
    obtain ⟨r6, h7, h⟩ := am_bd h
    obtain ⟨r8, h9, h⟩ := am_bd h
    by_cases hc10 : r8 ≠ (-1 : Int32)
    · rw [if_pos hc10] at h
      by_cases hs11 : a2 = 0
      · rw [if_pos hs11] at h
        cases h
        exact k_r4
      · rw [if_neg hs11] at h
        by_cases hs12 : a2 = 1
        · rw [if_pos hs12] at h
          obtain ⟨r13, h14, h⟩ := am_bd h
          cases h
          exact k_r4
        · rw [if_neg hs12] at h
          cases h
          exact k_r4
    · rw [if_neg hc10] at h
      cases h
      exact k_r4
  · rw [if_neg hc3] at h
    cases h
    exact am_kp.rf
-- X9_lasts
set_option maxRecDepth 100000 in
theorem kl_X9_lasts_28 {n : Nat} {x1 : Int32} {x2 : Int32} {x3 : Int32} {m : am_m} {t : Sum (am_m) (Int32 × am_m)} (h : lp_X9_lasts_28 n x1 x2 x3 m = some t) : (∀ t', t = .inl t' → am_kp [(20, 0)] [(80, 0)] 1 m t') ∧ (∀ t', t = .inr t' → am_kp [(20, 0)] [(80, 0)] 1 m t'.2) := by
  induction n generalizing x2 x3 m with
  | zero => cases h
  | succ n ih =>
    unfold lp_X9_lasts_28 at h
    by_cases hc8 : (100 : Int32) < x3
    · rw [if_pos hc8] at h
      cases h
      exact ⟨fun _ he => (by cases he; exact am_kp.rf), fun _ he => (by cases he)⟩
    · rw [if_neg hc8] at h
      by_cases hc9 : x2 ≠ 0
      · rw [if_pos hc9] at h
        obtain ⟨r10, h11, h⟩ := am_bd h
        have k_r10 : am_kp [(20, 0)] [(80, 0)] 1 m r10.2 := am_kp.tr am_kp.rf (am_kp.mono (kp_X1_hungerOf x1 x2 ((m.1 39 0 0) + x3) m r10 h11) rfl)
        obtain ⟨r12, h13, h⟩ := am_bd h
        exact ⟨fun t' he => am_kp.tr k_r10 ((ih h).1 t' he), fun t' he => am_kp.tr k_r10 ((ih h).2 t' he)⟩
      · rw [if_neg hc9] at h
        cases h
        exact ⟨fun _ he => (by cases he), fun _ he => (by cases he; exact am_kp.rf)⟩
set_option maxRecDepth 100000 in
theorem kp_X9_lasts (a1 : Int32) (m : am_m) (t : Int32 × am_m) (h : fn_X9_lasts a1 m = some t) : am_kp [(20, 0)] [(80, 0)] 1 m t.2 := by
  unfold fn_X9_lasts at h
  obtain ⟨r1, h2, h⟩ := am_bd h
  by_cases hc3 : r1 ≠ 0
  · rw [if_pos hc3] at h
    obtain ⟨r4, h5, h⟩ := am_bd h
    have k_r4 : am_kp [(20, 0)] [(80, 0)] 1 m r4 := am_kp.tr am_kp.rf (am_kp.mono (kp_X9_askLive  m r4 h5) rfl)
    obtain ⟨r6, h7, h⟩ := am_bd h
    obtain ⟨w17, h15, h⟩ := am_bd h
    rcases w17 with q14 | rr16
    · have k_q14 : am_kp [(20, 0)] [(80, 0)] 1 m q14 := am_kp.tr k_r4 ((kl_X9_lasts_28 (h := h15)).1 _ rfl)
      dsimp only at h
      cases h
      exact k_q14
    · cases h
      exact am_kp.tr k_r4 ((kl_X9_lasts_28 (h := h15)).2 _ rfl)
  · rw [if_neg hc3] at h
    cases h
    exact am_kp.rf
-- X9_fedBy
set_option maxRecDepth 100000 in
theorem kp_X9_fedBy (a1 : Int32) (m : am_m) (t : Int32 × am_m) (h : fn_X9_fedBy a1 m = some t) : am_kp [(6, 0), (20, 0), (30, 0), (34, 0)] [(80, 0)] 1 m t.2 := by
  unfold fn_X9_fedBy at h
  by_cases hc1 : a1 < 0
  · rw [if_pos hc1] at h
    cases h
    exact am_kp.rf
  · rw [if_neg hc1] at h
    by_cases hc2 : a1 ≤ (10 : Int32)
    · rw [if_pos hc2] at h
      obtain ⟨r3, h4, h⟩ := am_bd h
      have k_r3 : am_kp [(6, 0), (20, 0), (30, 0), (34, 0)] [(80, 0)] 1 m r3 := am_kp.tr am_kp.rf (am_kp.mono (kp_X9_lookLive  m r3 h4) rfl)
      obtain ⟨r5, h6, h⟩ := am_bd h
      obtain ⟨r7, h8, h⟩ := am_bd h
      have k_r7 : am_kp [(6, 0), (20, 0), (30, 0), (34, 0)] [(80, 0)] 1 m r7.2 := am_kp.tr k_r3 (am_kp.mono (kp_X6_fewestFeeding r5 r3 r7 h8) rfl)
      cases h
      exact k_r7
    · rw [if_neg hc2] at h
      cases h
      exact am_kp.rf
-- X9_seatGuest
set_option maxRecDepth 100000 in
theorem kl_X9_seatGuest_3 {n : Nat} {x1 : Int32} {x2 : Int32} {m : am_m} {t : am_m} (h : lp_X9_seatGuest_3 n x1 x2 m = some t) : am_kp [] [(81, 0)] 0 m t := by
  induction n generalizing x2 m with
  | zero => cases h
  | succ n ih =>
    unfold lp_X9_seatGuest_3 at h
    by_cases hc1 : x2 < 0
    · rw [if_pos hc1] at h
      cases h
      exact am_kp.rf
    · rw [if_neg hc1] at h
      obtain ⟨hg2, h⟩ := am_ck_some h
      obtain ⟨q5, h6, h⟩ := am_bd h
      obtain ⟨hg7, h⟩ := am_ck_some h
      exact am_kp.tr (am_kp.sg am_kp.rf rfl) (ih h)
set_option maxRecDepth 100000 in
theorem kp_X9_seatGuest (a1 : Int32) (m : am_m) (t : am_m) (h : fn_X9_seatGuest a1 m = some t) : am_kp [] [(81, 0)] 0 m t := by
  unfold fn_X9_seatGuest at h
  obtain ⟨q8, h9, h⟩ := am_bd h
  have k_q8 : am_kp [] [(81, 0)] 0 m q8 := am_kp.tr am_kp.rf (kl_X9_seatGuest_3 (h := h9))
  cases h
  exact k_q8
-- X9_few
set_option maxRecDepth 100000 in
theorem kl_X9_few_27 {n : Nat} {x1 : Int32} {x2 : Int32} {x3 : Int32} {m : am_m} {t : am_m} (h : lp_X9_few_27 n x1 x2 x3 m = some t) : am_kp [] [(81, 0)] 0 m t := by
  induction n generalizing x3 m with
  | zero => cases h
  | succ n ih =>
    unfold lp_X9_few_27 at h
    by_cases hc5 : (20 : Int32) ≤ x3
    · rw [if_pos hc5] at h
      cases h
      exact am_kp.rf
    · rw [if_neg hc5] at h
      obtain ⟨hg6, h⟩ := am_ck_some h
      exact am_kp.tr (am_kp.sg am_kp.rf rfl) (ih h)
set_option maxRecDepth 100000 in
theorem kl_X9_few_57 {n : Nat} {x1 : Int32} {x2 : Int32} {x3 : Int32} {m : am_m} {t : am_m} (h : lp_X9_few_57 n x1 x2 x3 m = some t) : am_kp [] [(81, 0)] 0 m t := by
  induction n generalizing x3 m with
  | zero => cases h
  | succ n ih =>
    unfold lp_X9_few_57 at h
    by_cases hc9 : x2 ≤ x3
    · rw [if_pos hc9] at h
      cases h
      exact am_kp.rf
    · rw [if_neg hc9] at h
      obtain ⟨r10, h11, h⟩ := am_bd h
      have k_r10 : am_kp [] [(81, 0)] 0 m r10 := am_kp.tr am_kp.rf (am_kp.mono (kp_X9_seatGuest (m.1 39 0 1) m r10 h11) rfl)
      exact am_kp.tr k_r10 (ih h)
set_option maxRecDepth 100000 in
theorem kp_X9_few (a1 : Int32) (a2 : Int32) (m : am_m) (t : Int64 × am_m) (h : fn_X9_few a1 a2 m = some t) : am_kp [] [(81, 0)] 0 m t.2 := by
  unfold fn_X9_few at h
  by_cases hc1 : a1 < (1 : Int32)
  · rw [if_pos hc1] at h
    cases h
    exact am_kp.rf
  · rw [if_neg hc1] at h
    by_cases hc2 : (20 : Int32) < a1
    · rw [if_pos hc2] at h
      cases h
      exact am_kp.rf
    · rw [if_neg hc2] at h
      by_cases hc3 : a2 < 0
      · rw [if_pos hc3] at h
        cases h
        exact am_kp.rf
      · rw [if_neg hc3] at h
        by_cases hc4 : a2 ≤ (99 : Int32)
        · rw [if_pos hc4] at h
          obtain ⟨q7, h8, h⟩ := am_bd h
          have k_q7 : am_kp [] [(81, 0)] 0 m q7 := am_kp.tr am_kp.rf (kl_X9_few_27 (h := h8))
          obtain ⟨q12, h13, h⟩ := am_bd h
          have k_q12 : am_kp [] [(81, 0)] 0 m q12 := am_kp.tr (am_kp.sg k_q7 rfl) (kl_X9_few_57 (h := h13))
          obtain ⟨q16, h17, h⟩ := am_bd h
          cases h
          exact k_q12
        · rw [if_neg hc4] at h
          cases h
          exact am_kp.rf
-- X9_compare
set_option maxRecDepth 100000 in
theorem kp_X9_compare (a1 : Int32) (m : am_m) (t : Int32 × am_m) (h : fn_X9_compare a1 m = some t) : am_kp [(6, 0), (20, 0), (30, 0)] [(80, 0)] 1 m t.2 := by
  unfold fn_X9_compare at h
  obtain ⟨r1, h2, h⟩ := am_bd h
  by_cases hc3 : r1 ≠ 0
  · rw [if_pos hc3] at h
    obtain ⟨r4, h5, h⟩ := am_bd h
    obtain ⟨r6, h7, h⟩ := am_bd h
    have k_r6 : am_kp [(6, 0), (20, 0), (30, 0)] [(80, 0)] 1 m r6 := am_kp.tr am_kp.rf (am_kp.mono (kp_X1_look 0 r4 m r6 h7) rfl)
    obtain ⟨r8, h9, h⟩ := am_bd h
    have k_r8 : am_kp [(6, 0), (20, 0), (30, 0)] [(80, 0)] 1 m r8 := am_kp.tr k_r6 (am_kp.mono (kp_X6_lookAt  r6 r8 h9) rfl)
    obtain ⟨r10, h11, h⟩ := am_bd h
    obtain ⟨r12, h13, h⟩ := am_bd h
    cases h
    exact k_r8
  · rw [if_neg hc3] at h
    cases h
    exact am_kp.rf
-- X9_seasonDeed
set_option maxRecDepth 100000 in
theorem kp_X9_seasonDeed (a1 : Int32) (a2 : Int32) (a3 : Int32) (a4 : Int32) (m : am_m) (t : am_m) (h : fn_X9_seasonDeed a1 a2 a3 a4 m = some t) : am_kp [(20, 0), (36, 0), (37, 0), (38, 0)] [(80, 0)] 0 m t := by
  unfold fn_X9_seasonDeed at h
  obtain ⟨r1, h2, h⟩ := am_bd h
  by_cases hc3 : a1 ≠ (3 : Int32)
  · rw [if_pos hc3] at h
    by_cases hc4 : a1 ≠ (2 : Int32)
    · rw [if_pos hc4] at h
      by_cases hc5 : r1 = a4
      · rw [if_pos hc5] at h
        cases h
        exact am_kp.rf
      · rw [if_neg hc5] at h
        obtain ⟨r6, h7, h⟩ := am_bd h
        have k_r6 : am_kp [(20, 0), (36, 0), (37, 0), (38, 0)] [(80, 0)] 0 m r6 := am_kp.tr am_kp.rf (am_kp.mono (kp_X8_setHarm 2 a2 a3 a4 (m.1 39 2 0) m r6 h7) rfl)
        cases h
        exact k_r6
    · rw [if_neg hc4] at h
      obtain ⟨r8, h9, h⟩ := am_bd h
      have k_r8 : am_kp [(20, 0), (36, 0), (37, 0), (38, 0)] [(80, 0)] 0 m r8.2 := am_kp.tr am_kp.rf (am_kp.mono (kp_X1_isTable (((1 : Int32) <<< (a2 &&& 31)) ||| ((1 : Int32) <<< (a3 &&& 31))) m r8 h9) rfl)
      obtain ⟨q13, h14, h⟩ := am_bd h
      have k_q13 : am_kp [(20, 0), (36, 0), (37, 0), (38, 0)] [(80, 0)] 0 m q13 := by
        have h := h14
        by_cases hc10 : r8.1 = 0
        · rw [if_pos hc10] at h
          cases h
          exact k_r8
        · rw [if_neg hc10] at h
          obtain ⟨r11, h12, h⟩ := am_bd h
          have k_r11 : am_kp [(20, 0), (36, 0), (37, 0), (38, 0)] [(80, 0)] 0 m r11 := am_kp.tr k_r8 (am_kp.mono (kp_X1_feedTable (((1 : Int32) <<< (a2 &&& 31)) ||| ((1 : Int32) <<< (a3 &&& 31))) r8.2 r11 h12) rfl)
          cases h
          exact k_r11
      cases h
      exact k_q13
  · rw [if_neg hc3] at h
    obtain ⟨r15, h16, h⟩ := am_bd h
    have k_r15 : am_kp [(20, 0), (36, 0), (37, 0), (38, 0)] [(80, 0)] 0 m r15 := am_kp.tr am_kp.rf (am_kp.mono (kp_X8_setHarm 2 a2 a3 0 0 m r15 h16) rfl)
    cases h
    exact k_r15
-- X9_oneSeason
set_option maxRecDepth 100000 in
theorem kp_X9_oneSeason  (m : am_m) (t : am_m) (h : fn_X9_oneSeason  m = some t) : am_kp [(20, 0), (36, 0), (37, 0), (38, 0), (39, 0)] [(0, 0), (80, 0)] 0 m t := by
  unfold fn_X9_oneSeason at h
  obtain ⟨r1, h2, h⟩ := am_bd h
  have k_r1 : am_kp [(20, 0), (36, 0), (37, 0), (38, 0), (39, 0)] [(0, 0), (80, 0)] 0 m r1.2 := am_kp.tr am_kp.rf (am_kp.mono (kp_X0_next (m.1 8 2 0) m r1 h2) rfl)
  obtain ⟨r3, h4, h⟩ := am_bd h
  have k_r3 : am_kp [(20, 0), (36, 0), (37, 0), (38, 0), (39, 0)] [(0, 0), (80, 0)] 0 m r3.2 := am_kp.tr k_r1 (am_kp.mono (kp_X0_next (r1.2.1 8 2 0) r1.2 r3 h4) rfl)
  obtain ⟨r5, h6, h⟩ := am_bd h
  have k_r5 : am_kp [(20, 0), (36, 0), (37, 0), (38, 0), (39, 0)] [(0, 0), (80, 0)] 0 m r5.2 := am_kp.tr k_r3 (am_kp.mono (kp_X0_next 9 r3.2 r5 h6) rfl)
  obtain ⟨r7, h8, h⟩ := am_bd h
  have k_r7 : am_kp [(20, 0), (36, 0), (37, 0), (38, 0), (39, 0)] [(0, 0), (80, 0)] 0 m r7.2 := am_kp.tr k_r5 (am_kp.mono (kp_X0_next 4 r5.2 r7 h8) rfl)
  obtain ⟨q12, h13, h⟩ := am_bd h
  have k_q12 : am_kp [(20, 0), (36, 0), (37, 0), (38, 0), (39, 0)] [(0, 0), (80, 0)] 0 m q12 := by
    have h := h13
    by_cases hc9 : r1.1 = r3.1
    · rw [if_pos hc9] at h
      cases h
      exact k_r7
    · rw [if_neg hc9] at h
      obtain ⟨r10, h11, h⟩ := am_bd h
      have k_r10 : am_kp [(20, 0), (36, 0), (37, 0), (38, 0), (39, 0)] [(0, 0), (80, 0)] 0 m r10 := am_kp.tr k_r7 (am_kp.mono (kp_X9_seasonDeed r7.1 r1.1 r3.1 (r5.1 + (1 : Int32)) r7.2 r10 h11) rfl)
      cases h
      exact k_r10
  obtain ⟨r14, h15, h⟩ := am_bd h
  have k_r14 : am_kp [(20, 0), (36, 0), (37, 0), (38, 0), (39, 0)] [(0, 0), (80, 0)] 0 m r14 := am_kp.tr k_q12 (am_kp.mono (kp_X1_passDay  q12 r14 h15) rfl)
  cases h
  exact k_r14
-- X9_seasons
set_option maxRecDepth 100000 in
theorem kl_X9_seasons_91 {n : Nat} {x2 : Int32} {x3 : Int32} {m : am_m} {t : am_m} (h : lp_X9_seasons_91 n x2 x3 m = some t) : am_kp [(8, 0), (8, 1), (8, 2), (8, 3), (9, 17), (20, 0), (36, 0), (37, 0), (38, 0), (39, 0), (40, 0), (42, 0)] [(0, 0), (80, 0)] 2 m t := by
  induction n generalizing x3 m with
  | zero => cases h
  | succ n ih =>
    unfold lp_X9_seasons_91 at h
    by_cases hc20 : x2 ≤ x3
    · rw [if_pos hc20] at h
      cases h
      exact am_kp.rf
    · rw [if_neg hc20] at h
      by_cases hc21 : (999 : Int32) ≤ (m.1 39 2 0)
      · rw [if_pos hc21] at h
        cases h
        exact am_kp.rf
      · rw [if_neg hc21] at h
        obtain ⟨r22, h23, h⟩ := am_bd h
        have k_r22 : am_kp [(8, 0), (8, 1), (8, 2), (8, 3), (9, 17), (20, 0), (36, 0), (37, 0), (38, 0), (39, 0), (40, 0), (42, 0)] [(0, 0), (80, 0)] 2 m r22 := am_kp.tr am_kp.rf (am_kp.mono (kp_X9_oneSeason  m r22 h23) rfl)
        exact am_kp.tr k_r22 (ih h)
set_option maxRecDepth 100000 in
theorem kp_X9_seasons (a1 : Int32) (a2 : Int32) (m : am_m) (t : Int32 × am_m) (h : fn_X9_seasons a1 a2 m = some t) : am_kp [(8, 0), (8, 1), (8, 2), (8, 3), (9, 17), (20, 0), (36, 0), (37, 0), (38, 0), (39, 0), (40, 0), (42, 0)] [(0, 0), (80, 0)] 2 m t.2 := by
  unfold fn_X9_seasons at h
  by_cases hc1 : a1 < 0
  · rw [if_pos hc1] at h
    obtain ⟨r2, h3, h⟩ := am_bd h
    have k_r2 : am_kp [(8, 0), (8, 1), (8, 2), (8, 3), (9, 17), (20, 0), (36, 0), (37, 0), (38, 0), (39, 0), (40, 0), (42, 0)] [(0, 0), (80, 0)] 2 m r2.2 := am_kp.tr am_kp.rf (am_kp.mono (kp_X9_told (-1) m r2 h3) rfl)
    cases h
    exact k_r2
  · rw [if_neg hc1] at h
    by_cases hc4 : (1000000 : Int32) < a1
    · rw [if_pos hc4] at h
      obtain ⟨r5, h6, h⟩ := am_bd h
      have k_r5 : am_kp [(8, 0), (8, 1), (8, 2), (8, 3), (9, 17), (20, 0), (36, 0), (37, 0), (38, 0), (39, 0), (40, 0), (42, 0)] [(0, 0), (80, 0)] 2 m r5.2 := am_kp.tr am_kp.rf (am_kp.mono (kp_X9_told (-1) m r5 h6) rfl)
      cases h
      exact k_r5
    · rw [if_neg hc4] at h
      by_cases hc7 : a2 < (1 : Int32)
      · rw [if_pos hc7] at h
        obtain ⟨r8, h9, h⟩ := am_bd h
        have k_r8 : am_kp [(8, 0), (8, 1), (8, 2), (8, 3), (9, 17), (20, 0), (36, 0), (37, 0), (38, 0), (39, 0), (40, 0), (42, 0)] [(0, 0), (80, 0)] 2 m r8.2 := am_kp.tr am_kp.rf (am_kp.mono (kp_X9_told (-1) m r8 h9) rfl)
        cases h
        exact k_r8
      · rw [if_neg hc7] at h
        by_cases hc10 : a2 ≤ (60 : Int32)
        · rw [if_pos hc10] at h
          by_cases hc11 : (m.1 8 0 0) ≠ 0
          · rw [if_pos hc11] at h
            obtain ⟨r12, h13, h⟩ := am_bd h
            have k_r12 : am_kp [(8, 0), (8, 1), (8, 2), (8, 3), (9, 17), (20, 0), (36, 0), (37, 0), (38, 0), (39, 0), (40, 0), (42, 0)] [(0, 0), (80, 0)] 2 m r12 := am_kp.tr am_kp.rf (am_kp.mono (kp_X8_become 2 0 m r12 h13) rfl)
            obtain ⟨r14, h15, h⟩ := am_bd h
            obtain ⟨r16, h17, h⟩ := am_bd h
            have k_r16 : am_kp [(8, 0), (8, 1), (8, 2), (8, 3), (9, 17), (20, 0), (36, 0), (37, 0), (38, 0), (39, 0), (40, 0), (42, 0)] [(0, 0), (80, 0)] 2 m r16 := am_kp.tr k_r12 (am_kp.mono (kp_X1_look 2 r14 r12 r16 h17) rfl)
            obtain ⟨r18, h19, h⟩ := am_bd h
            have k_r18 : am_kp [(8, 0), (8, 1), (8, 2), (8, 3), (9, 17), (20, 0), (36, 0), (37, 0), (38, 0), (39, 0), (40, 0), (42, 0)] [(0, 0), (80, 0)] 2 m r18 := am_kp.tr k_r16 (am_kp.mono (kp_X0_begin a1 r16 r18 h19) rfl)
            obtain ⟨q24, h25, h⟩ := am_bd h
            have k_q24 : am_kp [(8, 0), (8, 1), (8, 2), (8, 3), (9, 17), (20, 0), (36, 0), (37, 0), (38, 0), (39, 0), (40, 0), (42, 0)] [(0, 0), (80, 0)] 2 m q24 := am_kp.tr k_r18 (kl_X9_seasons_91 (h := h25))
            obtain ⟨r26, h27, h⟩ := am_bd h
            obtain ⟨r28, h29, h⟩ := am_bd h
            have k_r28 : am_kp [(8, 0), (8, 1), (8, 2), (8, 3), (9, 17), (20, 0), (36, 0), (37, 0), (38, 0), (39, 0), (40, 0), (42, 0)] [(0, 0), (80, 0)] 2 m r28.2 := am_kp.tr k_q24 (am_kp.mono (kp_X9_told r26 q24 r28 h29) rfl)
            cases h
            exact k_r28
          · rw [if_neg hc11] at h
            obtain ⟨r30, h31, h⟩ := am_bd h
            have k_r30 : am_kp [(8, 0), (8, 1), (8, 2), (8, 3), (9, 17), (20, 0), (36, 0), (37, 0), (38, 0), (39, 0), (40, 0), (42, 0)] [(0, 0), (80, 0)] 2 m r30.2 := am_kp.tr am_kp.rf (am_kp.mono (kp_X9_told (-3) m r30 h31) rfl)
            cases h
            exact k_r30
        · rw [if_neg hc10] at h
          obtain ⟨r32, h33, h⟩ := am_bd h
          have k_r32 : am_kp [(8, 0), (8, 1), (8, 2), (8, 3), (9, 17), (20, 0), (36, 0), (37, 0), (38, 0), (39, 0), (40, 0), (42, 0)] [(0, 0), (80, 0)] 2 m r32.2 := am_kp.tr am_kp.rf (am_kp.mono (kp_X9_told (-1) m r32 h33) rfl)
          cases h
          exact k_r32
-- X9_back
set_option maxRecDepth 100000 in
theorem kp_X9_back (a1 : Int32) (m : am_m) (t : Int32 × am_m) (h : fn_X9_back a1 m = some t) : am_kp [(3, 1), (8, 0), (8, 1), (8, 2), (8, 3), (9, 17), (36, 0), (37, 0), (38, 0), (39, 0), (40, 0), (42, 0)] [] 2 m t.2 := by
  unfold fn_X9_back at h
  by_cases hc1 : a1 < 0
  · rw [if_pos hc1] at h
    obtain ⟨r2, h3, h⟩ := am_bd h
    have k_r2 : am_kp [(3, 1), (8, 0), (8, 1), (8, 2), (8, 3), (9, 17), (36, 0), (37, 0), (38, 0), (39, 0), (40, 0), (42, 0)] [] 2 m r2.2 := am_kp.tr am_kp.rf (am_kp.mono (kp_X9_told (-1) m r2 h3) rfl)
    cases h
    exact k_r2
  · rw [if_neg hc1] at h
    by_cases hc4 : a1 < (2 : Int32)
    · rw [if_pos hc4] at h
      obtain ⟨hg5, h⟩ := am_ck_some h
      cases hu7 : (m.2.2.2.2.2.1 0 a1.toNatClampNeg) with
      | none =>
        rw [hu7] at h
        obtain ⟨r8, h9, h⟩ := am_bd h
        have k_r8 : am_kp [(3, 1), (8, 0), (8, 1), (8, 2), (8, 3), (9, 17), (36, 0), (37, 0), (38, 0), (39, 0), (40, 0), (42, 0)] [] 2 m r8.2 := am_kp.tr am_kp.rf (am_kp.mono (kp_X9_told (-2) m r8 h9) rfl)
        cases h
        exact k_r8
      | some u6 =>
        rw [hu7] at h
        obtain ⟨r10, h11, h⟩ := am_bd h
        have k_r10 : am_kp [(3, 1), (8, 0), (8, 1), (8, 2), (8, 3), (9, 17), (36, 0), (37, 0), (38, 0), (39, 0), (40, 0), (42, 0)] [] 2 m r10 := am_kp.tr am_kp.rf (am_kp.mono (kp_X8_become 0 u6 m r10 h11) rfl)
        obtain ⟨r12, h13, h⟩ := am_bd h
        have k_r12 : am_kp [(3, 1), (8, 0), (8, 1), (8, 2), (8, 3), (9, 17), (36, 0), (37, 0), (38, 0), (39, 0), (40, 0), (42, 0)] [] 2 m r12 := am_kp.tr k_r10 (am_kp.mono (kp_X3_clear 0 r10 r12 h13) rfl)
        obtain ⟨r14, h15, h⟩ := am_bd h
        have k_r14 : am_kp [(3, 1), (8, 0), (8, 1), (8, 2), (8, 3), (9, 17), (36, 0), (37, 0), (38, 0), (39, 0), (40, 0), (42, 0)] [] 2 m r14.2 := am_kp.tr k_r12 (am_kp.mono (kp_X9_told 0 r12 r14 h15) rfl)
        cases h
        exact k_r14
    · rw [if_neg hc4] at h
      obtain ⟨r16, h17, h⟩ := am_bd h
      have k_r16 : am_kp [(3, 1), (8, 0), (8, 1), (8, 2), (8, 3), (9, 17), (36, 0), (37, 0), (38, 0), (39, 0), (40, 0), (42, 0)] [] 2 m r16.2 := am_kp.tr am_kp.rf (am_kp.mono (kp_X9_told (-1) m r16 h17) rfl)
      cases h
      exact k_r16
-- X10_tell
set_option maxRecDepth 100000 in
theorem kp_X10_tell (a1 : Int32) (m : am_m) (t : Int32 × am_m) (h : fn_X10_tell a1 m = some t) : am_kp [(10, 1), (43, 0)] [] 0 m t.2 := by
  unfold fn_X10_tell at h
  by_cases hc2 : 0 ≤ a1
  · rw [if_pos hc2] at h
    cases h
    exact (am_kp.si am_kp.rf rfl)
  · rw [if_neg hc2] at h
    obtain ⟨hg3, h⟩ := am_ck_some h
    obtain ⟨hg4, h⟩ := am_ck_some h
    cases h
    exact (am_kp.si (am_kp.si am_kp.rf rfl) rfl)
