-- X0_begin
set_option maxRecDepth 100000 in
theorem kp_X0_begin (a1 : Int32) (m : am_m) (t : am_m) (h : fn_X0_begin a1 m = some t) : am_kp [] [(0, 0)] 0 m t := by
  unfold fn_X0_begin at h
  cases h
  exact (am_kp.sg am_kp.rf rfl)
-- X0_next
set_option maxRecDepth 100000 in
theorem kp_X0_next (a1 : Int32) (m : am_m) (t : Int32 × am_m) (h : fn_X0_next a1 m = some t) : am_kp [] [(0, 0)] 0 m t.2 := by
  unfold fn_X0_next at h
  by_cases hc1 : a1 ≤ 0
  · rw [if_pos hc1] at h
    cases h
    exact (am_kp.sg am_kp.rf rfl)
  · rw [if_neg hc1] at h
    obtain ⟨hz2, h⟩ := am_gd_some h
    cases h
    exact (am_kp.sg am_kp.rf rfl)
-- X1_look
set_option maxRecDepth 100000 in
theorem kp_X1_look (a1 : Nat) (a2 : Option Nat) (m : am_m) (t : am_m) (h : fn_X1_look a1 a2 m = some t) : am_kp [] [] 1 m t := by
  unfold fn_X1_look at h
  cases h
  exact (am_kp.sb (am_kp.sa am_kp.rf rfl) rfl)
-- X1_knowOne
set_option maxRecDepth 100000 in
theorem kp_X1_knowOne (a1 : Int32) (a2 : Int32) (a3 : Int32) (a4 : Int32) (m : am_m) (t : am_m) (h : fn_X1_knowOne a1 a2 a3 a4 m = some t) : am_kp [(20, 0)] [] 0 m t := by
  unfold fn_X1_knowOne at h
  obtain ⟨u1, hu2, h⟩ := am_bd h
  cases h
  exact (am_kp.si (am_kp.si (am_kp.si (am_kp.si (am_kp.si (am_kp.si (am_kp.si (am_kp.si am_kp.rf rfl) rfl) rfl) rfl) rfl) rfl) rfl) rfl)
-- X1_knowTwo
set_option maxRecDepth 100000 in
theorem kp_X1_knowTwo (a1 : Int32) (a2 : Int32) (m : am_m) (t : am_m) (h : fn_X1_knowTwo a1 a2 m = some t) : am_kp [(20, 0)] [] 0 m t := by
  unfold fn_X1_knowTwo at h
  obtain ⟨u1, hu2, h⟩ := am_bd h
  obtain ⟨r3, h4, h⟩ := am_bd h
  obtain ⟨q10, h11, h⟩ := am_bd h
  obtain ⟨q16, h17, h⟩ := am_bd h
  obtain ⟨u18, hu19, h⟩ := am_bd h
  obtain ⟨r20, h21, h⟩ := am_bd h
  have k_r20 : am_kp [(20, 0)] [] 0 m r20 := am_kp.tr am_kp.rf (am_kp.mono (kp_X1_knowOne a1 q16 (-1) (m.1 39 u18 0) m r20 h21) rfl)
  obtain ⟨q28, h29, h⟩ := am_bd h
  cases h
  exact (am_kp.si (am_kp.si (am_kp.si k_r20 rfl) rfl) rfl)
-- X1_tell
set_option maxRecDepth 100000 in
theorem kl_X1_tell_l_16 {n : Nat} {x1 : Nat} {x4 : Int32} {x5 : Int32} {x6 : Int32} {m : am_m} {t : Sum (am_m) (Int32 × am_m)} (h : lp_X1_tell_l_16 n x1 x4 x5 x6 m = some t) : (∀ t', t = .inl t' → am_kp [] [(80, 0)] 0 m t') ∧ (∀ t', t = .inr t' → am_kp [] [(80, 0)] 0 m t'.2) := by
  induction n generalizing x4 x5 x6 m with
  | zero => cases h
  | succ n ih =>
    unfold lp_X1_tell_l_16 at h
    by_cases hc2 : (m.1 5 x1 3) ≤ x6
    · rw [if_pos hc2] at h
      cases h
      exact ⟨fun _ he => (by cases he; exact am_kp.rf), fun _ he => (by cases he)⟩
    · rw [if_neg hc2] at h
      by_cases hc3 : x5 < 0
      · rw [if_pos hc3] at h
        cases h
        exact ⟨fun _ he => (by cases he; exact am_kp.rf), fun _ he => (by cases he)⟩
      · rw [if_neg hc3] at h
        by_cases hc4 : (m.1 5 x1 3) ≤ x5
        · rw [if_pos hc4] at h
          cases h
          exact ⟨fun _ he => (by cases he; exact am_kp.rf), fun _ he => (by cases he)⟩
        · rw [if_neg hc4] at h
          obtain ⟨hg5, h⟩ := am_ck_some h
          obtain ⟨v6, h7, h⟩ := am_bd h
          obtain ⟨hg8, h⟩ := am_ck_some h
          obtain ⟨v9, h10, h⟩ := am_bd h
          by_cases hc11 : v6 ≠ (257 : Int32)
          · rw [if_pos hc11] at h
            by_cases hc12 : v6 = (256 : Int32)
            · rw [if_pos hc12] at h
              by_cases hc13 : (Int32.ofNat 51) ≤ x4
              · rw [if_pos hc13] at h
                cases h
                exact ⟨fun _ he => (by cases he), fun _ he => (by cases he; exact am_kp.rf)⟩
              · rw [if_neg hc13] at h
                by_cases hc14 : v9 < 0
                · rw [if_pos hc14] at h
                  cases h
                  exact ⟨fun _ he => (by cases he), fun _ he => (by cases he; exact am_kp.rf)⟩
                · rw [if_neg hc14] at h
                  by_cases hc15 : v6 ≠ (258 : Int32)
                  · rw [if_pos hc15] at h
                    obtain ⟨q18, h19, h⟩ := am_bd h
                    obtain ⟨hg20, h⟩ := am_ck_some h
                    exact ⟨fun t' he => am_kp.tr (am_kp.sg am_kp.rf rfl) ((ih h).1 t' he), fun t' he => am_kp.tr (am_kp.sg am_kp.rf rfl) ((ih h).2 t' he)⟩
                  · rw [if_neg hc15] at h
                    by_cases hc21 : v9 < (Int32.ofNat 8)
                    · rw [if_pos hc21] at h
                      obtain ⟨q24, h25, h⟩ := am_bd h
                      obtain ⟨hg26, h⟩ := am_ck_some h
                      exact ⟨fun t' he => am_kp.tr (am_kp.sg am_kp.rf rfl) ((ih h).1 t' he), fun t' he => am_kp.tr (am_kp.sg am_kp.rf rfl) ((ih h).2 t' he)⟩
                    · rw [if_neg hc21] at h
                      cases h
                      exact ⟨fun _ he => (by cases he), fun _ he => (by cases he; exact am_kp.rf)⟩
            · rw [if_neg hc12] at h
              by_cases hc27 : v6 ≠ (258 : Int32)
              · rw [if_pos hc27] at h
                by_cases hc28 : (1 : Int32) ≤ x4
                · rw [if_pos hc28] at h
                  by_cases hc29 : v6 ≠ (261 : Int32)
                  · rw [if_pos hc29] at h
                    by_cases hc30 : v6 = (259 : Int32)
                    · rw [if_pos hc30] at h
                      obtain ⟨hg31, h⟩ := am_ck_some h
                      obtain ⟨q33, h34, h⟩ := am_bd h
                      obtain ⟨q36, h37, h⟩ := am_bd h
                      obtain ⟨q39, h40, h⟩ := am_bd h
                      obtain ⟨q42, h43, h⟩ := am_bd h
                      exact ⟨fun t' he => am_kp.tr am_kp.rf ((ih h).1 t' he), fun t' he => am_kp.tr am_kp.rf ((ih h).2 t' he)⟩
                    · rw [if_neg hc30] at h
                      by_cases hc44 : v6 ≠ (260 : Int32)
                      · rw [if_pos hc44] at h
                        by_cases hc45 : (2 : Int32) ≤ x4
                        · rw [if_pos hc45] at h
                          obtain ⟨hg46, h⟩ := am_ck_some h
                          obtain ⟨hg47, h⟩ := am_ck_some h
                          obtain ⟨r48, h49, h⟩ := am_bd h
                          obtain ⟨hg50, h⟩ := am_ck_some h
                          obtain ⟨hg51, h⟩ := am_ck_some h
                          by_cases hc52 : (lg_cmp ((am_sg m 80 0 ((x4 - 1) - (1 : Int32)).toNatClampNeg r48).2.1 80 0 ((x4 - 1) - (1 : Int32)).toNatClampNeg) (2000000000 : Int64)) ≠ 0
                          · rw [if_pos hc52] at h
                            exact ⟨fun t' he => am_kp.tr (am_kp.sg am_kp.rf rfl) ((ih h).1 t' he), fun t' he => am_kp.tr (am_kp.sg am_kp.rf rfl) ((ih h).2 t' he)⟩
                          · rw [if_neg hc52] at h
                            cases h
                            exact ⟨fun _ he => (by cases he), fun _ he => (by cases he; exact (am_kp.sg am_kp.rf rfl))⟩
                        · rw [if_neg hc45] at h
                          cases h
                          exact ⟨fun _ he => (by cases he), fun _ he => (by cases he; exact am_kp.rf)⟩
                      · rw [if_neg hc44] at h
                        obtain ⟨hg53, h⟩ := am_ck_some h
                        obtain ⟨q55, h56, h⟩ := am_bd h
                        obtain ⟨q58, h59, h⟩ := am_bd h
                        obtain ⟨q61, h62, h⟩ := am_bd h
                        obtain ⟨q64, h65, h⟩ := am_bd h
                        exact ⟨fun t' he => am_kp.tr am_kp.rf ((ih h).1 t' he), fun t' he => am_kp.tr am_kp.rf ((ih h).2 t' he)⟩
                  · rw [if_neg hc29] at h
                    obtain ⟨hg66, h⟩ := am_ck_some h
                    obtain ⟨hg67, h⟩ := am_ck_some h
                    exact ⟨fun t' he => am_kp.tr (am_kp.sg am_kp.rf rfl) ((ih h).1 t' he), fun t' he => am_kp.tr (am_kp.sg am_kp.rf rfl) ((ih h).2 t' he)⟩
                · rw [if_neg hc28] at h
                  cases h
                  exact ⟨fun _ he => (by cases he), fun _ he => (by cases he; exact am_kp.rf)⟩
              · rw [if_neg hc27] at h
                by_cases hc68 : (Int32.ofNat 51) ≤ x4
                · rw [if_pos hc68] at h
                  cases h
                  exact ⟨fun _ he => (by cases he), fun _ he => (by cases he; exact am_kp.rf)⟩
                · rw [if_neg hc68] at h
                  by_cases hc69 : v9 < 0
                  · rw [if_pos hc69] at h
                    cases h
                    exact ⟨fun _ he => (by cases he), fun _ he => (by cases he; exact am_kp.rf)⟩
                  · rw [if_neg hc69] at h
                    by_cases hc70 : v6 ≠ (258 : Int32)
                    · rw [if_pos hc70] at h
                      obtain ⟨q73, h74, h⟩ := am_bd h
                      obtain ⟨hg75, h⟩ := am_ck_some h
                      exact ⟨fun t' he => am_kp.tr (am_kp.sg am_kp.rf rfl) ((ih h).1 t' he), fun t' he => am_kp.tr (am_kp.sg am_kp.rf rfl) ((ih h).2 t' he)⟩
                    · rw [if_neg hc70] at h
                      by_cases hc76 : v9 < (Int32.ofNat 8)
                      · rw [if_pos hc76] at h
                        obtain ⟨q79, h80, h⟩ := am_bd h
                        obtain ⟨hg81, h⟩ := am_ck_some h
                        exact ⟨fun t' he => am_kp.tr (am_kp.sg am_kp.rf rfl) ((ih h).1 t' he), fun t' he => am_kp.tr (am_kp.sg am_kp.rf rfl) ((ih h).2 t' he)⟩
                      · rw [if_neg hc76] at h
                        cases h
                        exact ⟨fun _ he => (by cases he), fun _ he => (by cases he; exact am_kp.rf)⟩
          · rw [if_neg hc11] at h
            by_cases hc82 : x4 ≠ (1 : Int32)
            · rw [if_pos hc82] at h
              cases h
              exact ⟨fun _ he => (by cases he), fun _ he => (by cases he; exact am_kp.rf)⟩
            · rw [if_neg hc82] at h
              cases h
              exact ⟨fun _ he => (by cases he), fun _ he => (by cases he; exact am_kp.rf)⟩
set_option maxRecDepth 100000 in
theorem kp_X1_tell_l (a1 : Nat) (a2 : Int32) (m : am_m) (t : Int32 × am_m) (h : fn_X1_tell_l a1 a2 m = some t) : am_kp [] [(80, 0)] 0 m t.2 := by
  unfold fn_X1_tell_l at h
  by_cases hc1 : a2 ≠ (-1 : Int32)
  · rw [if_pos hc1] at h
    obtain ⟨w86, h84, h⟩ := am_bd h
    rcases w86 with q83 | rr85
    · have k_q83 : am_kp [] [(80, 0)] 0 m q83 := am_kp.tr am_kp.rf ((kl_X1_tell_l_16 (h := h84)).1 _ rfl)
      dsimp only at h
      cases h
      exact k_q83
    · cases h
      exact am_kp.tr am_kp.rf ((kl_X1_tell_l_16 (h := h84)).2 _ rfl)
  · rw [if_neg hc1] at h
    cases h
    exact am_kp.rf
set_option maxRecDepth 100000 in
theorem kl_X1_tell_o_16 {n : Nat} {x1 : Nat} {x4 : Int32} {x5 : Int32} {x6 : Int32} {m : am_m} {t : Sum (am_m) (Int32 × am_m)} (h : lp_X1_tell_o_16 n x1 x4 x5 x6 m = some t) : (∀ t', t = .inl t' → am_kp [] [(80, 0)] 0 m t') ∧ (∀ t', t = .inr t' → am_kp [] [(80, 0)] 0 m t'.2) := by
  induction n generalizing x4 x5 x6 m with
  | zero => cases h
  | succ n ih =>
    unfold lp_X1_tell_o_16 at h
    by_cases hc2 : (m.1 5 x1 3) ≤ x6
    · rw [if_pos hc2] at h
      cases h
      exact ⟨fun _ he => (by cases he; exact am_kp.rf), fun _ he => (by cases he)⟩
    · rw [if_neg hc2] at h
      by_cases hc3 : x5 < 0
      · rw [if_pos hc3] at h
        cases h
        exact ⟨fun _ he => (by cases he; exact am_kp.rf), fun _ he => (by cases he)⟩
      · rw [if_neg hc3] at h
        by_cases hc4 : (m.1 5 x1 3) ≤ x5
        · rw [if_pos hc4] at h
          cases h
          exact ⟨fun _ he => (by cases he; exact am_kp.rf), fun _ he => (by cases he)⟩
        · rw [if_neg hc4] at h
          obtain ⟨hg5, h⟩ := am_ck_some h
          obtain ⟨v6, h7, h⟩ := am_bd h
          obtain ⟨hg8, h⟩ := am_ck_some h
          obtain ⟨v9, h10, h⟩ := am_bd h
          by_cases hc11 : v6 ≠ (257 : Int32)
          · rw [if_pos hc11] at h
            by_cases hc12 : v6 = (256 : Int32)
            · rw [if_pos hc12] at h
              by_cases hc13 : (Int32.ofNat 51) ≤ x4
              · rw [if_pos hc13] at h
                cases h
                exact ⟨fun _ he => (by cases he), fun _ he => (by cases he; exact am_kp.rf)⟩
              · rw [if_neg hc13] at h
                by_cases hc14 : v9 < 0
                · rw [if_pos hc14] at h
                  cases h
                  exact ⟨fun _ he => (by cases he), fun _ he => (by cases he; exact am_kp.rf)⟩
                · rw [if_neg hc14] at h
                  by_cases hc15 : v6 ≠ (258 : Int32)
                  · rw [if_pos hc15] at h
                    obtain ⟨q18, h19, h⟩ := am_bd h
                    obtain ⟨hg20, h⟩ := am_ck_some h
                    exact ⟨fun t' he => am_kp.tr (am_kp.sg am_kp.rf rfl) ((ih h).1 t' he), fun t' he => am_kp.tr (am_kp.sg am_kp.rf rfl) ((ih h).2 t' he)⟩
                  · rw [if_neg hc15] at h
                    by_cases hc21 : v9 < (Int32.ofNat 19)
                    · rw [if_pos hc21] at h
                      obtain ⟨q24, h25, h⟩ := am_bd h
                      obtain ⟨hg26, h⟩ := am_ck_some h
                      exact ⟨fun t' he => am_kp.tr (am_kp.sg am_kp.rf rfl) ((ih h).1 t' he), fun t' he => am_kp.tr (am_kp.sg am_kp.rf rfl) ((ih h).2 t' he)⟩
                    · rw [if_neg hc21] at h
                      cases h
                      exact ⟨fun _ he => (by cases he), fun _ he => (by cases he; exact am_kp.rf)⟩
            · rw [if_neg hc12] at h
              by_cases hc27 : v6 ≠ (258 : Int32)
              · rw [if_pos hc27] at h
                by_cases hc28 : (1 : Int32) ≤ x4
                · rw [if_pos hc28] at h
                  by_cases hc29 : v6 ≠ (261 : Int32)
                  · rw [if_pos hc29] at h
                    by_cases hc30 : v6 = (259 : Int32)
                    · rw [if_pos hc30] at h
                      obtain ⟨hg31, h⟩ := am_ck_some h
                      obtain ⟨q33, h34, h⟩ := am_bd h
                      obtain ⟨q36, h37, h⟩ := am_bd h
                      obtain ⟨q39, h40, h⟩ := am_bd h
                      obtain ⟨q42, h43, h⟩ := am_bd h
                      exact ⟨fun t' he => am_kp.tr am_kp.rf ((ih h).1 t' he), fun t' he => am_kp.tr am_kp.rf ((ih h).2 t' he)⟩
                    · rw [if_neg hc30] at h
                      by_cases hc44 : v6 ≠ (260 : Int32)
                      · rw [if_pos hc44] at h
                        by_cases hc45 : (2 : Int32) ≤ x4
                        · rw [if_pos hc45] at h
                          obtain ⟨hg46, h⟩ := am_ck_some h
                          obtain ⟨hg47, h⟩ := am_ck_some h
                          obtain ⟨r48, h49, h⟩ := am_bd h
                          obtain ⟨hg50, h⟩ := am_ck_some h
                          obtain ⟨hg51, h⟩ := am_ck_some h
                          by_cases hc52 : (lg_cmp ((am_sg m 80 0 ((x4 - 1) - (1 : Int32)).toNatClampNeg r48).2.1 80 0 ((x4 - 1) - (1 : Int32)).toNatClampNeg) (2000000000 : Int64)) ≠ 0
                          · rw [if_pos hc52] at h
                            exact ⟨fun t' he => am_kp.tr (am_kp.sg am_kp.rf rfl) ((ih h).1 t' he), fun t' he => am_kp.tr (am_kp.sg am_kp.rf rfl) ((ih h).2 t' he)⟩
                          · rw [if_neg hc52] at h
                            cases h
                            exact ⟨fun _ he => (by cases he), fun _ he => (by cases he; exact (am_kp.sg am_kp.rf rfl))⟩
                        · rw [if_neg hc45] at h
                          cases h
                          exact ⟨fun _ he => (by cases he), fun _ he => (by cases he; exact am_kp.rf)⟩
                      · rw [if_neg hc44] at h
                        obtain ⟨hg53, h⟩ := am_ck_some h
                        obtain ⟨q55, h56, h⟩ := am_bd h
                        obtain ⟨q58, h59, h⟩ := am_bd h
                        obtain ⟨q61, h62, h⟩ := am_bd h
                        obtain ⟨q64, h65, h⟩ := am_bd h
                        exact ⟨fun t' he => am_kp.tr am_kp.rf ((ih h).1 t' he), fun t' he => am_kp.tr am_kp.rf ((ih h).2 t' he)⟩
                  · rw [if_neg hc29] at h
                    obtain ⟨hg66, h⟩ := am_ck_some h
                    obtain ⟨hg67, h⟩ := am_ck_some h
                    exact ⟨fun t' he => am_kp.tr (am_kp.sg am_kp.rf rfl) ((ih h).1 t' he), fun t' he => am_kp.tr (am_kp.sg am_kp.rf rfl) ((ih h).2 t' he)⟩
                · rw [if_neg hc28] at h
                  cases h
                  exact ⟨fun _ he => (by cases he), fun _ he => (by cases he; exact am_kp.rf)⟩
              · rw [if_neg hc27] at h
                by_cases hc68 : (Int32.ofNat 51) ≤ x4
                · rw [if_pos hc68] at h
                  cases h
                  exact ⟨fun _ he => (by cases he), fun _ he => (by cases he; exact am_kp.rf)⟩
                · rw [if_neg hc68] at h
                  by_cases hc69 : v9 < 0
                  · rw [if_pos hc69] at h
                    cases h
                    exact ⟨fun _ he => (by cases he), fun _ he => (by cases he; exact am_kp.rf)⟩
                  · rw [if_neg hc69] at h
                    by_cases hc70 : v6 ≠ (258 : Int32)
                    · rw [if_pos hc70] at h
                      obtain ⟨q73, h74, h⟩ := am_bd h
                      obtain ⟨hg75, h⟩ := am_ck_some h
                      exact ⟨fun t' he => am_kp.tr (am_kp.sg am_kp.rf rfl) ((ih h).1 t' he), fun t' he => am_kp.tr (am_kp.sg am_kp.rf rfl) ((ih h).2 t' he)⟩
                    · rw [if_neg hc70] at h
                      by_cases hc76 : v9 < (Int32.ofNat 19)
                      · rw [if_pos hc76] at h
                        obtain ⟨q79, h80, h⟩ := am_bd h
                        obtain ⟨hg81, h⟩ := am_ck_some h
                        exact ⟨fun t' he => am_kp.tr (am_kp.sg am_kp.rf rfl) ((ih h).1 t' he), fun t' he => am_kp.tr (am_kp.sg am_kp.rf rfl) ((ih h).2 t' he)⟩
                      · rw [if_neg hc76] at h
                        cases h
                        exact ⟨fun _ he => (by cases he), fun _ he => (by cases he; exact am_kp.rf)⟩
          · rw [if_neg hc11] at h
            by_cases hc82 : x4 ≠ (1 : Int32)
            · rw [if_pos hc82] at h
              cases h
              exact ⟨fun _ he => (by cases he), fun _ he => (by cases he; exact am_kp.rf)⟩
            · rw [if_neg hc82] at h
              cases h
              exact ⟨fun _ he => (by cases he), fun _ he => (by cases he; exact am_kp.rf)⟩
set_option maxRecDepth 100000 in
theorem kp_X1_tell_o (a1 : Nat) (a2 : Int32) (m : am_m) (t : Int32 × am_m) (h : fn_X1_tell_o a1 a2 m = some t) : am_kp [] [(80, 0)] 0 m t.2 := by
  unfold fn_X1_tell_o at h
  by_cases hc1 : a2 ≠ (-1 : Int32)
  · rw [if_pos hc1] at h
    obtain ⟨w86, h84, h⟩ := am_bd h
    rcases w86 with q83 | rr85
    · have k_q83 : am_kp [] [(80, 0)] 0 m q83 := am_kp.tr am_kp.rf ((kl_X1_tell_o_16 (h := h84)).1 _ rfl)
      dsimp only at h
      cases h
      exact k_q83
    · cases h
      exact am_kp.tr am_kp.rf ((kl_X1_tell_o_16 (h := h84)).2 _ rfl)
  · rw [if_neg hc1] at h
    cases h
    exact am_kp.rf
-- X1_tellsLaw
set_option maxRecDepth 100000 in
theorem kl_X1_tellsLaw_19 {n : Nat} {x1 : Int32} {x2 : Int32} {x3 : Int32} {m : am_m} {t : Sum (am_m) (Int32 × am_m)} (h : lp_X1_tellsLaw_19 n x1 x2 x3 m = some t) : (∀ t', t = .inl t' → am_kp [] [(80, 0)] 0 m t') ∧ (∀ t', t = .inr t' → am_kp [] [(80, 0)] 0 m t'.2) := by
  induction n generalizing x3 m with
  | zero => cases h
  | succ n ih =>
    unfold lp_X1_tellsLaw_19 at h
    by_cases hc5 : x3 < 0
    · rw [if_pos hc5] at h
      cases h
      exact ⟨fun _ he => (by cases he; exact am_kp.rf), fun _ he => (by cases he)⟩
    · rw [if_neg hc5] at h
      obtain ⟨u6, hu7, h⟩ := am_bd h
      obtain ⟨r8, h9, h⟩ := am_bd h
      by_cases hc10 : r8 ≠ x1
      · rw [if_pos hc10] at h
        exact ⟨fun t' he => am_kp.tr am_kp.rf ((ih h).1 t' he), fun t' he => am_kp.tr am_kp.rf ((ih h).2 t' he)⟩
      · rw [if_neg hc10] at h
        obtain ⟨u11, hu12, h⟩ := am_bd h
        obtain ⟨u13, hu14, h⟩ := am_bd h
        obtain ⟨r15, h16, h⟩ := am_bd h
        obtain ⟨r17, h18, h⟩ := am_bd h
        have k_r17 : am_kp [] [(80, 0)] 0 m r17.2 := am_kp.tr am_kp.rf (am_kp.mono (kp_X1_tell_l u11 r15 m r17 h18) rfl)
        by_cases hc19 : r17.1 ≠ (1 : Int32)
        · rw [if_pos hc19] at h
          exact ⟨fun t' he => am_kp.tr k_r17 ((ih h).1 t' he), fun t' he => am_kp.tr k_r17 ((ih h).2 t' he)⟩
        · rw [if_neg hc19] at h
          obtain ⟨u20, hu21, h⟩ := am_bd h
          obtain ⟨u22, hu23, h⟩ := am_bd h
          obtain ⟨r24, h25, h⟩ := am_bd h
          obtain ⟨r26, h27, h⟩ := am_bd h
          have k_r26 : am_kp [] [(80, 0)] 0 m r26.2 := am_kp.tr k_r17 (am_kp.mono (kp_X1_tell_l u20 r24 r17.2 r26 h27) rfl)
          by_cases hc28 : r26.1 = (2000000000 : Int32)
          · rw [if_pos hc28] at h
            exact ⟨fun t' he => am_kp.tr k_r26 ((ih h).1 t' he), fun t' he => am_kp.tr k_r26 ((ih h).2 t' he)⟩
          · rw [if_neg hc28] at h
            obtain ⟨r29, h30, h⟩ := am_bd h
            obtain ⟨r31, h32, h⟩ := am_bd h
            cases h
            exact ⟨fun _ he => (by cases he), fun _ he => (by cases he; exact k_r26)⟩
set_option maxRecDepth 100000 in
theorem kp_X1_tellsLaw (a1 : Int32) (a2 : Int32) (m : am_m) (t : Int32 × am_m) (h : fn_X1_tellsLaw a1 a2 m = some t) : am_kp [] [(80, 0)] 0 m t.2 := by
  unfold fn_X1_tellsLaw at h
  cases hu2 : (m.2.2.2.1 0) with
  | none =>
    rw [hu2] at h
    cases h
    exact am_kp.rf
  | some u1 =>
    rw [hu2] at h
    obtain ⟨u3, hu4, h⟩ := am_bd h
    obtain ⟨w36, h34, h⟩ := am_bd h
    rcases w36 with q33 | rr35
    · have k_q33 : am_kp [] [(80, 0)] 0 m q33 := am_kp.tr am_kp.rf ((kl_X1_tellsLaw_19 (h := h34)).1 _ rfl)
      dsimp only at h
      cases h
      exact k_q33
    · cases h
      exact am_kp.tr am_kp.rf ((kl_X1_tellsLaw_19 (h := h34)).2 _ rfl)
-- X1_countsOf
set_option maxRecDepth 100000 in
theorem kp_X1_countsOf (a1 : Int32) (a2 : Int32) (m : am_m) (t : Int32 × am_m) (h : fn_X1_countsOf a1 a2 m = some t) : am_kp [(20, 0)] [(80, 0)] 0 m t.2 := by
  unfold fn_X1_countsOf at h
  obtain ⟨r1, h2, h⟩ := am_bd h
  have k_r1 : am_kp [(20, 0)] [(80, 0)] 0 m r1 := am_kp.tr am_kp.rf (am_kp.mono (kp_X1_knowTwo a1 a2 m r1 h2) rfl)
  obtain ⟨r3, h4, h⟩ := am_bd h
  have k_r3 : am_kp [(20, 0)] [(80, 0)] 0 m r3.2 := am_kp.tr k_r1 (am_kp.mono (kp_X1_tellsLaw 266 (r1.1 20 0 2) r1 r3 h4) rfl)
  cases h
  exact k_r3
-- X1_isBarred
set_option maxRecDepth 100000 in
theorem kp_X1_isBarred (a1 : Int32) (a2 : Int32) (m : am_m) (t : Int32 × am_m) (h : fn_X1_isBarred a1 a2 m = some t) : am_kp [(20, 0)] [(80, 0)] 0 m t.2 := by
  unfold fn_X1_isBarred at h
  obtain ⟨r1, h2, h⟩ := am_bd h
  have k_r1 : am_kp [(20, 0)] [(80, 0)] 0 m r1 := am_kp.tr am_kp.rf (am_kp.mono (kp_X1_knowTwo a1 a2 m r1 h2) rfl)
  obtain ⟨r3, h4, h⟩ := am_bd h
  have k_r3 : am_kp [(20, 0)] [(80, 0)] 0 m r3.2 := am_kp.tr k_r1 (am_kp.mono (kp_X1_tellsLaw 269 (-1) r1 r3 h4) rfl)
  by_cases hc5 : r3.1 = (-1 : Int32)
  · rw [if_pos hc5] at h
    cases h
    exact k_r3
  · rw [if_neg hc5] at h
    cases h
    exact k_r3
-- X1_maySit
set_option maxRecDepth 100000 in
theorem kp_X1_maySit (a1 : Int32) (a2 : Int32) (m : am_m) (t : Int32 × am_m) (h : fn_X1_maySit a1 a2 m = some t) : am_kp [(20, 0)] [(80, 0)] 0 m t.2 := by
  unfold fn_X1_maySit at h
  by_cases hc1 : a1 ≠ a2
  · rw [if_pos hc1] at h
    obtain ⟨r2, h3, h⟩ := am_bd h
    have k_r2 : am_kp [(20, 0)] [(80, 0)] 0 m r2 := am_kp.tr am_kp.rf (am_kp.mono (kp_X1_knowTwo a1 a2 m r2 h3) rfl)
    obtain ⟨r4, h5, h⟩ := am_bd h
    have k_r4 : am_kp [(20, 0)] [(80, 0)] 0 m r4.2 := am_kp.tr k_r2 (am_kp.mono (kp_X1_tellsLaw 266 (r2.1 20 0 2) r2 r4 h5) rfl)
    obtain ⟨r6, h7, h⟩ := am_bd h
    have k_r6 : am_kp [(20, 0)] [(80, 0)] 0 m r6.2 := am_kp.tr k_r4 (am_kp.mono (kp_X1_tellsLaw 269 (-1) r4.2 r6 h7) rfl)
    obtain ⟨q17, h18, h⟩ := am_bd h
    have k_q17 : am_kp [(20, 0)] [(80, 0)] 0 m q17.2.2 := by
      have h := h18
      by_cases hc9 : (if r6.1 = (-1 : Int32) then (0 : Int32) else (1 : Int32)) ≠ 0
      · rw [if_pos hc9] at h
        cases h
        exact k_r6
      · rw [if_neg hc9] at h
        obtain ⟨r10, h11, h⟩ := am_bd h
        have k_r10 : am_kp [(20, 0)] [(80, 0)] 0 m r10 := am_kp.tr k_r6 (am_kp.mono (kp_X1_knowTwo a2 a1 r6.2 r10 h11) rfl)
        obtain ⟨r12, h13, h⟩ := am_bd h
        have k_r12 : am_kp [(20, 0)] [(80, 0)] 0 m r12.2 := am_kp.tr k_r10 (am_kp.mono (kp_X1_tellsLaw 266 (r10.1 20 0 2) r10 r12 h13) rfl)
        obtain ⟨r14, h15, h⟩ := am_bd h
        have k_r14 : am_kp [(20, 0)] [(80, 0)] 0 m r14.2 := am_kp.tr k_r12 (am_kp.mono (kp_X1_tellsLaw 269 (-1) r12.2 r14 h15) rfl)
        cases h
        exact k_r14
    by_cases hc19 : q17.2.1 ≠ 0
    · rw [if_pos hc19] at h
      cases h
      exact k_q17
    · rw [if_neg hc19] at h
      by_cases hc20 : q17.1 ≤ 0
      · rw [if_pos hc20] at h
        cases h
        exact k_q17
      · rw [if_neg hc20] at h
        cases h
        exact k_q17
  · rw [if_neg hc1] at h
    cases h
    exact am_kp.rf
-- X1_companions
set_option maxRecDepth 100000 in
theorem kl_X1_companions_4 {n : Nat} {x1 : Int32} {x2 : Int32} {x3 : Int32} {m : am_m} {t : Int32 × am_m} (h : lp_X1_companions_4 n x1 x2 x3 m = some t) : am_kp [(20, 0)] [(80, 0)] 0 m t.2 := by
  induction n generalizing x2 x3 m with
  | zero => cases h
  | succ n ih =>
    unfold lp_X1_companions_4 at h
    obtain ⟨u1, hu2, h⟩ := am_bd h
    by_cases hc3 : (m.1 8 u1 0) ≤ x3
    · rw [if_pos hc3] at h
      cases h
      exact am_kp.rf
    · rw [if_neg hc3] at h
      obtain ⟨r4, h5, h⟩ := am_bd h
      have k_r4 : am_kp [(20, 0)] [(80, 0)] 0 m r4.2 := am_kp.tr am_kp.rf (am_kp.mono (kp_X1_maySit x1 x3 m r4 h5) rfl)
      exact am_kp.tr k_r4 (ih h)
set_option maxRecDepth 100000 in
theorem kp_X1_companions (a1 : Int32) (m : am_m) (t : Int32 × am_m) (h : fn_X1_companions a1 m = some t) : am_kp [(20, 0)] [(80, 0)] 0 m t.2 := by
  unfold fn_X1_companions at h
  obtain ⟨q7, h8, h⟩ := am_bd h
  have k_q7 : am_kp [(20, 0)] [(80, 0)] 0 m q7.2 := am_kp.tr am_kp.rf (kl_X1_companions_4 (h := h8))
  cases h
  exact k_q7
-- X1_isTable
set_option maxRecDepth 100000 in
theorem kl_X1_isTable_12 {n : Nat} {x1 : Int32} {x2 : Int32} {x3 : Int32} {m : am_m} {t : Sum (am_m) (Int32 × am_m)} (h : lp_X1_isTable_12 n x1 x2 x3 m = some t) : (∀ t', t = .inl t' → am_kp [(20, 0)] [(80, 0)] 0 m t') ∧ (∀ t', t = .inr t' → am_kp [(20, 0)] [(80, 0)] 0 m t'.2) := by
  induction n generalizing x3 m with
  | zero => cases h
  | succ n ih =>
    unfold lp_X1_isTable_12 at h
    by_cases hc2 : (7 : Int32) ≤ x3
    · rw [if_pos hc2] at h
      cases h
      exact ⟨fun _ he => (by cases he; exact am_kp.rf), fun _ he => (by cases he)⟩
    · rw [if_neg hc2] at h
      by_cases hc3 : (((x1 >>> (x2 &&& 31)) &&& (x1 >>> (x3 &&& 31))) &&& (1 : Int32)) ≠ (1 : Int32)
      · rw [if_pos hc3] at h
        exact ⟨fun t' he => am_kp.tr am_kp.rf ((ih h).1 t' he), fun t' he => am_kp.tr am_kp.rf ((ih h).2 t' he)⟩
      · rw [if_neg hc3] at h
        obtain ⟨r4, h5, h⟩ := am_bd h
        have k_r4 : am_kp [(20, 0)] [(80, 0)] 0 m r4.2 := am_kp.tr am_kp.rf (am_kp.mono (kp_X1_maySit x2 x3 m r4 h5) rfl)
        by_cases hc6 : r4.1 ≠ 0
        · rw [if_pos hc6] at h
          exact ⟨fun t' he => am_kp.tr k_r4 ((ih h).1 t' he), fun t' he => am_kp.tr k_r4 ((ih h).2 t' he)⟩
        · rw [if_neg hc6] at h
          cases h
          exact ⟨fun _ he => (by cases he), fun _ he => (by cases he; exact k_r4)⟩
set_option maxRecDepth 100000 in
theorem kl_X1_isTable_2 {n : Nat} {x1 : Int32} {x2 : Int32} {m : am_m} {t : Sum (am_m) (Int32 × am_m)} (h : lp_X1_isTable_2 n x1 x2 m = some t) : (∀ t', t = .inl t' → am_kp [(20, 0)] [(80, 0)] 0 m t') ∧ (∀ t', t = .inr t' → am_kp [(20, 0)] [(80, 0)] 0 m t'.2) := by
  induction n generalizing x2 m with
  | zero => cases h
  | succ n ih =>
    unfold lp_X1_isTable_2 at h
    by_cases hc1 : (7 : Int32) ≤ x2
    · rw [if_pos hc1] at h
      cases h
      exact ⟨fun _ he => (by cases he; exact am_kp.rf), fun _ he => (by cases he)⟩
    · rw [if_neg hc1] at h
      obtain ⟨w10, h8, h⟩ := am_bd h
      rcases w10 with q7 | rr9
      · have k_q7 : am_kp [(20, 0)] [(80, 0)] 0 m q7 := am_kp.tr am_kp.rf ((kl_X1_isTable_12 (h := h8)).1 _ rfl)
        dsimp only at h
        exact ⟨fun t' he => am_kp.tr k_q7 ((ih h).1 t' he), fun t' he => am_kp.tr k_q7 ((ih h).2 t' he)⟩
      · cases h
        exact ⟨fun _ he => (by cases he), fun _ he => (by cases he; exact am_kp.tr am_kp.rf ((kl_X1_isTable_12 (h := h8)).2 _ rfl))⟩
set_option maxRecDepth 100000 in
theorem kp_X1_isTable (a1 : Int32) (m : am_m) (t : Int32 × am_m) (h : fn_X1_isTable a1 m = some t) : am_kp [(20, 0)] [(80, 0)] 0 m t.2 := by
  unfold fn_X1_isTable at h
  obtain ⟨w17, h12, h⟩ := am_bd h
  rcases w17 with q11 | rr16
  · have k_q11 : am_kp [(20, 0)] [(80, 0)] 0 m q11 := am_kp.tr am_kp.rf ((kl_X1_isTable_2 (h := h12)).1 _ rfl)
    dsimp only at h
    obtain ⟨r13, h14, h⟩ := am_bd h
    by_cases hc15 : r13 < (2 : Int32)
    · rw [if_pos hc15] at h
      cases h
      exact k_q11
    · rw [if_neg hc15] at h
      cases h
      exact k_q11
  · cases h
    exact am_kp.tr am_kp.rf ((kl_X1_isTable_2 (h := h12)).2 _ rfl)
-- X1_sufferedBy
set_option maxRecDepth 100000 in
theorem kl_X1_sufferedBy_5 {n : Nat} {x1 : Int32} {x2 : Int32} {x3 : Int32} {x4 : Int32} {m : am_m} {t : Int32 × am_m} (h : lp_X1_sufferedBy_5 n x1 x2 x3 x4 m = some t) : am_kp [(20, 0)] [(80, 0)] 0 m t.2 := by
  induction n generalizing x3 x4 m with
  | zero => cases h
  | succ n ih =>
    unfold lp_X1_sufferedBy_5 at h
    by_cases hc1 : (7 : Int32) ≤ x4
    · rw [if_pos hc1] at h
      cases h
      exact am_kp.rf
    · rw [if_neg hc1] at h
      obtain ⟨q6, h7, h⟩ := am_bd h
      have k_q6 : am_kp [(20, 0)] [(80, 0)] 0 m q6.2 := by
        have h := h7
        by_cases hc2 : x4 = x1
        · rw [if_pos hc2] at h
          cases h
          exact am_kp.rf
        · rw [if_neg hc2] at h
          by_cases hc3 : ((x2 >>> (x4 &&& 31)) &&& (1 : Int32)) ≠ (1 : Int32)
          · rw [if_pos hc3] at h
            cases h
            exact am_kp.rf
          · rw [if_neg hc3] at h
            obtain ⟨r4, h5, h⟩ := am_bd h
            have k_r4 : am_kp [(20, 0)] [(80, 0)] 0 m r4.2 := am_kp.tr am_kp.rf (am_kp.mono (kp_X1_countsOf x4 x1 m r4 h5) rfl)
            cases h
            exact k_r4
      exact am_kp.tr k_q6 (ih h)
set_option maxRecDepth 100000 in
theorem kp_X1_sufferedBy (a1 : Int32) (a2 : Int32) (m : am_m) (t : Int32 × am_m) (h : fn_X1_sufferedBy a1 a2 m = some t) : am_kp [(20, 0)] [(80, 0)] 0 m t.2 := by
  unfold fn_X1_sufferedBy at h
  obtain ⟨q8, h9, h⟩ := am_bd h
  have k_q8 : am_kp [(20, 0)] [(80, 0)] 0 m q8.2 := am_kp.tr am_kp.rf (kl_X1_sufferedBy_5 (h := h9))
  cases h
  exact k_q8
-- X1_hungerOf
set_option maxRecDepth 100000 in
theorem kp_X1_hungerOf (a1 : Int32) (a2 : Int32) (a3 : Int32) (m : am_m) (t : Int32 × am_m) (h : fn_X1_hungerOf a1 a2 a3 m = some t) : am_kp [(20, 0)] [(80, 0)] 0 m t.2 := by
  unfold fn_X1_hungerOf at h
  obtain ⟨r1, h2, h⟩ := am_bd h
  have k_r1 : am_kp [(20, 0)] [(80, 0)] 0 m r1 := am_kp.tr am_kp.rf (am_kp.mono (kp_X1_knowOne a1 a2 (-1) a3 m r1 h2) rfl)
  obtain ⟨r3, h4, h⟩ := am_bd h
  have k_r3 : am_kp [(20, 0)] [(80, 0)] 0 m r3.2 := am_kp.tr k_r1 (am_kp.mono (kp_X1_tellsLaw 268 1 r1 r3 h4) rfl)
  cases h
  exact k_r3
-- X1_feedTable
set_option maxRecDepth 100000 in
theorem kl_X1_feedTable_7 {n : Nat} {x1 : Int32} {x2 : Int32} {x3 : Int32} {m : am_m} {t : am_m} (h : lp_X1_feedTable_7 n x1 x2 x3 m = some t) : am_kp [(20, 0), (36, 0)] [(80, 0)] 0 m t := by
  induction n generalizing x3 m with
  | zero => cases h
  | succ n ih =>
    unfold lp_X1_feedTable_7 at h
    obtain ⟨u3, hu4, h⟩ := am_bd h
    by_cases hc5 : (m.1 8 u3 0) ≤ x3
    · rw [if_pos hc5] at h
      cases h
      exact am_kp.rf
    · rw [if_neg hc5] at h
      obtain ⟨q24, h25, h⟩ := am_bd h
      have k_q24 : am_kp [(20, 0), (36, 0)] [(80, 0)] 0 m q24 := by
        have h := h25
        by_cases hc6 : ((x1 >>> (x3 &&& 31)) &&& (1 : Int32)) ≠ (1 : Int32)
        · rw [if_pos hc6] at h
          cases h
          exact am_kp.rf
        · rw [if_neg hc6] at h
          obtain ⟨u7, hu8, h⟩ := am_bd h
          obtain ⟨hg9, h⟩ := am_ck_some h
          obtain ⟨u10, hu11, h⟩ := am_bd h
          obtain ⟨r12, h13, h⟩ := am_bd h
          have k_r12 : am_kp [(20, 0), (36, 0)] [(80, 0)] 0 m r12 := am_kp.tr am_kp.rf (am_kp.mono (kp_X1_knowOne x3 (m.1 36 u7 x3.toNatClampNeg) x2 (m.1 39 u10 0) m r12 h13) rfl)
          obtain ⟨u14, hu15, h⟩ := am_bd h
          obtain ⟨u16, hu17, h⟩ := am_bd h
          obtain ⟨hg18, h⟩ := am_ck_some h
          obtain ⟨r19, h20, h⟩ := am_bd h
          have k_r19 : am_kp [(20, 0), (36, 0)] [(80, 0)] 0 m r19.2 := am_kp.tr k_r12 (am_kp.mono (kp_X1_tellsLaw 267 2 r12 r19 h20) rfl)
          obtain ⟨r21, h22, h⟩ := am_bd h
          obtain ⟨hg23, h⟩ := am_ck_some h
          cases h
          exact (am_kp.si k_r19 rfl)
      exact am_kp.tr k_q24 (ih h)
set_option maxRecDepth 100000 in
theorem kp_X1_feedTable (a1 : Int32) (m : am_m) (t : am_m) (h : fn_X1_feedTable a1 m = some t) : am_kp [(20, 0), (36, 0)] [(80, 0)] 0 m t := by
  unfold fn_X1_feedTable at h
  obtain ⟨r1, h2, h⟩ := am_bd h
  obtain ⟨q26, h27, h⟩ := am_bd h
  have k_q26 : am_kp [(20, 0), (36, 0)] [(80, 0)] 0 m q26 := am_kp.tr am_kp.rf (kl_X1_feedTable_7 (h := h27))
  cases h
  exact k_q26
-- X1_passDay
set_option maxRecDepth 100000 in
theorem kl_X1_passDay_2 {n : Nat} {x1 : Int32} {m : am_m} {t : am_m} (h : lp_X1_passDay_2 n x1 m = some t) : am_kp [(20, 0), (36, 0), (39, 0)] [(80, 0)] 0 m t := by
  induction n generalizing x1 m with
  | zero => cases h
  | succ n ih =>
    unfold lp_X1_passDay_2 at h
    obtain ⟨u1, hu2, h⟩ := am_bd h
    by_cases hc3 : (m.1 8 u1 0) ≤ x1
    · rw [if_pos hc3] at h
      cases h
      exact am_kp.rf
    · rw [if_neg hc3] at h
      obtain ⟨u4, hu5, h⟩ := am_bd h
      obtain ⟨u6, hu7, h⟩ := am_bd h
      obtain ⟨hg8, h⟩ := am_ck_some h
      obtain ⟨u9, hu10, h⟩ := am_bd h
      obtain ⟨hg11, h⟩ := am_ck_some h
      obtain ⟨u12, hu13, h⟩ := am_bd h
      obtain ⟨r14, h15, h⟩ := am_bd h
      have k_r14 : am_kp [(20, 0), (36, 0), (39, 0)] [(80, 0)] 0 m r14.2 := am_kp.tr am_kp.rf (am_kp.mono (kp_X1_hungerOf x1 (m.1 36 u9 x1.toNatClampNeg) (m.1 39 u12 0) m r14 h15) rfl)
      obtain ⟨r16, h17, h⟩ := am_bd h
      obtain ⟨hg18, h⟩ := am_ck_some h
      exact am_kp.tr (am_kp.si k_r14 rfl) (ih h)
set_option maxRecDepth 100000 in
theorem kp_X1_passDay  (m : am_m) (t : am_m) (h : fn_X1_passDay  m = some t) : am_kp [(20, 0), (36, 0), (39, 0)] [(80, 0)] 0 m t := by
  unfold fn_X1_passDay at h
  obtain ⟨q19, h20, h⟩ := am_bd h
  have k_q19 : am_kp [(20, 0), (36, 0), (39, 0)] [(80, 0)] 0 m q19 := am_kp.tr am_kp.rf (kl_X1_passDay_2 (h := h20))
  obtain ⟨u21, hu22, h⟩ := am_bd h
  cases h
  exact (am_kp.si k_q19 rfl)
-- X2_keepIfCheaper
set_option maxRecDepth 100000 in
theorem kl_X2_keepIfCheaper_2 {n : Nat} {x1 : Int32} {x2 : Int32} {x3 : Int32} {m : am_m} {t : Sum (Unit) (am_m)} (h : lp_X2_keepIfCheaper_2 n x1 x2 x3 m = some t) : (∀ t', t = .inl t' → am_kp [(2, 2), (23, 0)] [] 0 m m) ∧ (∀ t', t = .inr t' → am_kp [(2, 2), (23, 0)] [] 0 m t') := by
  induction n generalizing x3 with
  | zero => cases h
  | succ n ih =>
    unfold lp_X2_keepIfCheaper_2 at h
    by_cases hc1 : x1 ≤ x3
    · rw [if_pos hc1] at h
      cases h
      exact ⟨fun _ he => (by cases he; exact am_kp.rf), fun _ he => (by cases he)⟩
    · rw [if_neg hc1] at h
      by_cases hc2 : (7 : Int32) ≤ x3
      · rw [if_pos hc2] at h
        cases h
        exact ⟨fun _ he => (by cases he; exact am_kp.rf), fun _ he => (by cases he)⟩
      · rw [if_neg hc2] at h
        obtain ⟨hg3, h⟩ := am_ck_some h
        obtain ⟨r4, h5, h⟩ := am_bd h
        by_cases hc6 : (2 : Int32) ≤ r4
        · rw [if_pos hc6] at h
          exact ⟨fun t' he => am_kp.tr am_kp.rf ((ih h).1 t' he), fun t' he => am_kp.tr am_kp.rf ((ih h).2 t' he)⟩
        · rw [if_neg hc6] at h
          cases h
          exact ⟨fun _ he => (by cases he), fun _ he => (by cases he; exact am_kp.rf)⟩
set_option maxRecDepth 100000 in
theorem kp_X2_keepIfCheaper (a1 : Int32) (a2 : Int32) (m : am_m) (t : am_m) (h : fn_X2_keepIfCheaper a1 a2 m = some t) : am_kp [(2, 2), (23, 0)] [] 0 m t := by
  unfold fn_X2_keepIfCheaper at h
  obtain ⟨w15, h8, h⟩ := am_bd h
  rcases w15 with q7 | rr14
  · dsimp only at h
    by_cases hc10 : (m.1 2 0 2) = (-1 : Int32)
    · rw [if_pos hc10] at h
      obtain ⟨hz11, h⟩ := am_gd_some h
      cases h
      exact (am_kp.sc (am_kp.si am_kp.rf rfl) rfl)
    · rw [if_neg hc10] at h
      by_cases hc12 : (m.1 2 0 2) ≤ (if (m.1 2 0 0) = 0 then a2 else a1)
      · rw [if_pos hc12] at h
        cases h
        exact am_kp.rf
      · rw [if_neg hc12] at h
        obtain ⟨hz13, h⟩ := am_gd_some h
        cases h
        exact (am_kp.sc (am_kp.si am_kp.rf rfl) rfl)
  · cases h
    exact am_kp.tr am_kp.rf ((kl_X2_keepIfCheaper_2 (h := h8)).2 _ rfl)
-- X2_place
set_option maxRecDepth 100000 in
theorem kl_X2_place_25 (rc : am_rp) (hrc : ∀ a b c m t, rc a b c m = some t → am_kp [(2, 2), (21, 0), (22, 0), (23, 0)] [] 0 m t) {n : Nat} {x2 : Int32} {x3 : Int32} {x4 : Int32} {x5 : Int32} {m : am_m} {t : am_m} (h : lp_X2_place_25 rc n x2 x3 x4 x5 m = some t) : am_kp [(2, 2), (21, 0), (22, 0), (23, 0)] [] 0 m t := by
  induction n generalizing x5 m with
  | zero => cases h
  | succ n ih =>
    unfold lp_X2_place_25 at h
    by_cases hc5 : x3 < x5
    · rw [if_pos hc5] at h
      cases h
      exact am_kp.rf
    · rw [if_neg hc5] at h
      by_cases hc6 : (7 : Int32) ≤ x5
      · rw [if_pos hc6] at h
        cases h
        exact am_kp.rf
      · rw [if_neg hc6] at h
        obtain ⟨q9, h10, h⟩ := am_bd h
        obtain ⟨r11, h12, h⟩ := am_bd h
        obtain ⟨q25, h26, h⟩ := am_bd h
        have k_q25 : am_kp [(2, 2), (21, 0), (22, 0), (23, 0)] [] 0 m q25 := by
          have h := h26
          by_cases hc13 : r11 = 0
          · rw [if_pos hc13] at h
            cases h
            exact am_kp.rf
          · rw [if_neg hc13] at h
            obtain ⟨hg14, h⟩ := am_ck_some h
            obtain ⟨hg15, h⟩ := am_ck_some h
            obtain ⟨r16, h17, h⟩ := am_bd h
            obtain ⟨r18, h19, h⟩ := am_bd h
            obtain ⟨r20, h21, h⟩ := am_bd h
            obtain ⟨r22, h23, h⟩ := am_bd h
            have k_r22 : am_kp [(2, 2), (21, 0), (22, 0), (23, 0)] [] 0 m r22 := am_kp.tr (am_kp.si (am_kp.si am_kp.rf rfl) rfl) (hrc _ _ _ _ _ h23)
            obtain ⟨hg24, h⟩ := am_ck_some h
            cases h
            exact (am_kp.si k_r22 rfl)
        exact am_kp.tr k_q25 (ih h)
set_option maxRecDepth 100000 in
theorem kp_X2_place (rc : am_rp) (hrc : ∀ a b c m t, rc a b c m = some t → am_kp [(2, 2), (21, 0), (22, 0), (23, 0)] [] 0 m t) (a2 : Int32) (a3 : Int32) (a4 : Int32) (m : am_m) (t : am_m) (h : fn_X2_place rc a2 a3 a4 m = some t) : am_kp [(2, 2), (21, 0), (22, 0), (23, 0)] [] 0 m t := by
  unfold fn_X2_place at h
  by_cases hc1 : (m.1 2 0 1) ≤ a2
  · rw [if_pos hc1] at h
    obtain ⟨r2, h3, h⟩ := am_bd h
    have k_r2 : am_kp [(2, 2), (21, 0), (22, 0), (23, 0)] [] 0 m r2 := am_kp.tr am_kp.rf (am_kp.mono (kp_X2_keepIfCheaper a3 a4 m r2 h3) rfl)
    cases h
    exact k_r2
  · rw [if_neg hc1] at h
    by_cases hc4 : a2 < (7 : Int32)
    · rw [if_pos hc4] at h
      obtain ⟨q27, h28, h⟩ := am_bd h
      have k_q27 : am_kp [(2, 2), (21, 0), (22, 0), (23, 0)] [] 0 m q27 := am_kp.tr am_kp.rf (kl_X2_place_25 rc hrc (h := h28))
      cases h
      exact k_q27
    · rw [if_neg hc4] at h
      obtain ⟨r29, h30, h⟩ := am_bd h
      have k_r29 : am_kp [(2, 2), (21, 0), (22, 0), (23, 0)] [] 0 m r29 := am_kp.tr am_kp.rf (am_kp.mono (kp_X2_keepIfCheaper a3 a4 m r29 h30) rfl)
      cases h
      exact k_r29
-- am_pl
theorem am_pl_kp : ∀ (n : Nat) (a b c : Int32) (m t : am_m), am_pl n a b c m = some t → am_kp [(2, 2), (21, 0), (22, 0), (23, 0)] [] 0 m t
  | 0, _, _, _, _, _, h => by cases h
  | n + 1, a, b, c, m, t, h => kp_X2_place (am_pl n) (am_pl_kp n) a b c m t h
-- X2_begin
set_option maxRecDepth 100000 in
theorem kp_X2_begin  (m : am_m) (t : am_m) (h : fn_X2_begin  m = some t) : am_kp [(2, 1), (2, 2), (21, 0), (22, 0), (23, 0)] [] 0 m t := by
  unfold fn_X2_begin at h
  obtain ⟨r1, h2, h⟩ := am_bd h
  have k_r1 : am_kp [(2, 1), (2, 2), (21, 0), (22, 0), (23, 0)] [] 0 m r1 := am_kp.tr (am_kp.si (am_kp.si am_kp.rf rfl) rfl) (am_kp.mono (am_pl_kp 10 _ _ _ _ _ h2) rfl)
  cases h
  exact k_r1
-- X2_intoTables
set_option maxRecDepth 100000 in
theorem kp_X2_intoTables  (m : am_m) (t : am_m) (h : fn_X2_intoTables  m = some t) : am_kp [(2, 0), (2, 1), (2, 2), (21, 0), (22, 0), (23, 0)] [] 0 m t := by
  unfold fn_X2_intoTables at h
  obtain ⟨r1, h2, h⟩ := am_bd h
  have k_r1 : am_kp [(2, 0), (2, 1), (2, 2), (21, 0), (22, 0), (23, 0)] [] 0 m r1 := am_kp.tr (am_kp.si am_kp.rf rfl) (am_kp.mono (kp_X2_begin  (am_si m 2 0 0 1) r1 h2) rfl)
  cases h
  exact k_r1
-- X2_intoSets
set_option maxRecDepth 100000 in
theorem kp_X2_intoSets  (m : am_m) (t : am_m) (h : fn_X2_intoSets  m = some t) : am_kp [(2, 0), (2, 1), (2, 2), (21, 0), (22, 0), (23, 0)] [] 0 m t := by
  unfold fn_X2_intoSets at h
  obtain ⟨r1, h2, h⟩ := am_bd h
  have k_r1 : am_kp [(2, 0), (2, 1), (2, 2), (21, 0), (22, 0), (23, 0)] [] 0 m r1 := am_kp.tr (am_kp.si am_kp.rf rfl) (am_kp.mono (kp_X2_begin  (am_si m 2 0 0 0) r1 h2) rfl)
  cases h
  exact k_r1
-- X3_clear
set_option maxRecDepth 100000 in
theorem kp_X3_clear (a0 : Nat) (m : am_m) (t : am_m) (h : fn_X3_clear a0 m = some t) : am_kp [(3, 1)] [] 0 m t := by
  unfold fn_X3_clear at h
  cases h
  exact (am_kp.si am_kp.rf rfl)
-- X3_become
set_option maxRecDepth 100000 in
theorem kp_X3_become (a0 : Nat) (a1 : Nat) (m : am_m) (t : am_m) (h : fn_X3_become a0 a1 m = some t) : am_kp [(3, 1), (24, 0)] [] 0 m t := by
  unfold fn_X3_become at h
  obtain ⟨hz1, h⟩ := am_gd_some h
  cases h
  exact (am_kp.sc (am_kp.si am_kp.rf rfl) rfl)
-- X3_forgetOldest
set_option maxRecDepth 100000 in
theorem kl_X3_forgetOldest_3 {n : Nat} {x0 : Nat} {x1 : Int32} {m : am_m} {t : am_m} (h : lp_X3_forgetOldest_3 n x0 x1 m = some t) : am_kp [(3, 1), (24, 0)] [] 0 m t := by
  induction n generalizing x1 m with
  | zero => cases h
  | succ n ih =>
    unfold lp_X3_forgetOldest_3 at h
    by_cases hc1 : (208 : Int32) ≤ x1
    · rw [if_pos hc1] at h
      cases h
      exact am_kp.rf
    · rw [if_neg hc1] at h
      obtain ⟨hg2, h⟩ := am_ck_some h
      obtain ⟨hg3, h⟩ := am_ck_some h
      exact am_kp.tr (am_kp.si am_kp.rf rfl) (ih h)
set_option maxRecDepth 100000 in
theorem kp_X3_forgetOldest (a0 : Nat) (m : am_m) (t : am_m) (h : fn_X3_forgetOldest a0 m = some t) : am_kp [(3, 1), (24, 0)] [] 0 m t := by
  unfold fn_X3_forgetOldest at h
  obtain ⟨q4, h5, h⟩ := am_bd h
  have k_q4 : am_kp [(3, 1), (24, 0)] [] 0 m q4 := am_kp.tr am_kp.rf (kl_X3_forgetOldest_3 (h := h5))
  cases h
  exact (am_kp.si k_q4 rfl)
-- X3_keep
set_option maxRecDepth 100000 in
theorem kp_X3_keep (a0 : Nat) (a1 : Int32) (a2 : Int32) (a3 : Int32) (a4 : Nat) (m : am_m) (t : am_m) (h : fn_X3_keep a0 a1 a2 a3 a4 m = some t) : am_kp [(3, 1), (24, 0)] [] 0 m t := by
  unfold fn_X3_keep at h
  obtain ⟨q4, h5, h⟩ := am_bd h
  have k_q4 : am_kp [(3, 1), (24, 0)] [] 0 m q4 := by
    have h := h5
    by_cases hc1 : (m.1 3 a0 1) < (16 : Int32)
    · rw [if_pos hc1] at h
      cases h
      exact am_kp.rf
    · rw [if_neg hc1] at h
      obtain ⟨r2, h3, h⟩ := am_bd h
      have k_r2 : am_kp [(3, 1), (24, 0)] [] 0 m r2 := am_kp.tr am_kp.rf (am_kp.mono (kp_X3_forgetOldest a0 m r2 h3) rfl)
      cases h
      exact k_r2
  obtain ⟨hg6, h⟩ := am_ck_some h
  obtain ⟨hg7, h⟩ := am_ck_some h
  obtain ⟨hg8, h⟩ := am_ck_some h
  obtain ⟨r9, h10, h⟩ := am_bd h
  obtain ⟨hg11, h⟩ := am_ck_some h
  obtain ⟨r12, h13, h⟩ := am_bd h
  obtain ⟨hg14, h⟩ := am_ck_some h
  obtain ⟨hg15, h⟩ := am_ck_some h
  obtain ⟨hz16, h⟩ := am_gd_some h
  cases h
  exact (am_kp.si (am_kp.sc (am_kp.si (am_kp.si (am_kp.si (am_kp.si (am_kp.si (am_kp.si k_q4 rfl) rfl) rfl) rfl) rfl) rfl) rfl) rfl)
-- X8_setHarm
set_option maxRecDepth 100000 in
theorem kp_X8_setHarm (a0 : Nat) (a1 : Int32) (a2 : Int32) (a3 : Int32) (a4 : Int32) (m : am_m) (t : am_m) (h : fn_X8_setHarm a0 a1 a2 a3 a4 m = some t) : am_kp [(37, 0), (38, 0)] [] 0 m t := by
  unfold fn_X8_setHarm at h
  obtain ⟨r1, h2, h⟩ := am_bd h
  by_cases hc3 : r1 = 0
  · rw [if_pos hc3] at h
    cases h
    exact am_kp.rf
  · rw [if_neg hc3] at h
    obtain ⟨hg4, h⟩ := am_ck_some h
    obtain ⟨hg5, h⟩ := am_ck_some h
    cases h
    exact (am_kp.si (am_kp.si am_kp.rf rfl) rfl)
-- X3_undoLatest
set_option maxRecDepth 100000 in
theorem kp_X3_undoLatest (a0 : Nat) (a1 : Nat) (m : am_m) (t : Int32 × am_m) (h : fn_X3_undoLatest a0 a1 m = some t) : am_kp [(3, 1), (36, 0), (37, 0), (38, 0), (39, 0)] [] 0 m t.2 := by
  unfold fn_X3_undoLatest at h
  by_cases hc1 : (1 : Int32) ≤ (m.1 3 a0 1)
  · rw [if_pos hc1] at h
    obtain ⟨hg2, h⟩ := am_ck_some h
    obtain ⟨hz3, h⟩ := am_gd_some h
    obtain ⟨hg4, h⟩ := am_ck_some h
    obtain ⟨hg5, h⟩ := am_ck_some h
    obtain ⟨hg6, h⟩ := am_ck_some h
    obtain ⟨hg7, h⟩ := am_ck_some h
    obtain ⟨r8, h9, h⟩ := am_bd h
    have k_r8 : am_kp [(3, 1), (36, 0), (37, 0), (38, 0), (39, 0)] [] 0 m r8 := am_kp.tr (am_kp.sc (am_kp.si (am_kp.si am_kp.rf rfl) rfl) rfl) (am_kp.mono (kp_X8_setHarm a1 (m.1 24 a0 ((((am_si m 3 a0 1 ((m.1 3 a0 1) - (1 : Int32))).1 3 a0 1) * (13 : Int32)) + (1 : Int32)).toNatClampNeg) (m.1 24 a0 ((((am_si m 3 a0 1 ((m.1 3 a0 1) - (1 : Int32))).1 3 a0 1) * (13 : Int32)) + (2 : Int32)).toNatClampNeg) (m.1 24 a0 ((((am_si m 3 a0 1 ((m.1 3 a0 1) - (1 : Int32))).1 3 a0 1) * (13 : Int32)) + (3 : Int32)).toNatClampNeg) (m.1 24 a0 ((((am_si m 3 a0 1 ((m.1 3 a0 1) - (1 : Int32))).1 3 a0 1) * (13 : Int32)) + (4 : Int32)).toNatClampNeg) (am_sc (am_si (am_si m 3 a0 1 ((m.1 3 a0 1) - (1 : Int32))) 39 a1 0 (m.1 24 a0 ((((am_si m 3 a0 1 ((m.1 3 a0 1) - (1 : Int32))).1 3 a0 1) * (13 : Int32)) + (5 : Int32)).toNatClampNeg)) 24 a0 36 a1 ((((am_si m 3 a0 1 ((m.1 3 a0 1) - (1 : Int32))).1 3 a0 1) * (13 : Int32)) + (6 : Int32)).toNatClampNeg (0 : Int32).toNatClampNeg (7 : Int32).toNatClampNeg) r8 h9) rfl)
    obtain ⟨hg10, h⟩ := am_ck_some h
    cases h
    exact k_r8
  · rw [if_neg hc1] at h
    cases h
    exact am_kp.rf
-- X4_addToken
set_option maxRecDepth 100000 in
theorem kp_X4_addToken (a1 : Int32) (a2 : Int32) (a3 : Int32) (m : am_m) (t : am_m) (h : fn_X4_addToken a1 a2 a3 m = some t) : am_kp [(4, 4), (25, 0), (26, 0), (27, 0)] [] 0 m t := by
  unfold fn_X4_addToken at h
  by_cases hc1 : (401 : Int32) ≤ (m.1 4 0 4)
  · rw [if_pos hc1] at h
    cases h
    exact am_kp.rf
  · rw [if_neg hc1] at h
    obtain ⟨hg2, h⟩ := am_ck_some h
    obtain ⟨hg3, h⟩ := am_ck_some h
    obtain ⟨hg4, h⟩ := am_ck_some h
    cases h
    exact (am_kp.si (am_kp.si (am_kp.si (am_kp.si am_kp.rf rfl) rfl) rfl) rfl)
-- X4_split
set_option maxRecDepth 100000 in
theorem kl_X4_split_7 {n : Nat} {x2 : Int32} {m : am_m} {t : am_m} (h : lp_X4_split_7 n x2 m = some t) : am_kp [(4, 4), (25, 0), (26, 0), (27, 0)] [] 0 m t := by
  induction n generalizing x2 m with
  | zero => cases h
  | succ n ih =>
    unfold lp_X4_split_7 at h
    by_cases hc1 : (m.1 7 0 1) ≤ x2
    · rw [if_pos hc1] at h
      cases h
      exact am_kp.rf
    · rw [if_neg hc1] at h
      obtain ⟨r2, h3, h⟩ := am_bd h
      obtain ⟨r4, h5, h⟩ := am_bd h
      obtain ⟨q37, h38, h⟩ := am_bd h
      have k_q37 : am_kp [(4, 4), (25, 0), (26, 0), (27, 0)] [] 0 m q37.2 := by
        have h := h38
        by_cases hc6 : r4 = 0
        · rw [if_pos hc6] at h
          obtain ⟨r7, h8, h⟩ := am_bd h
          by_cases hc9 : r7 = 0
          · rw [if_pos hc9] at h
            by_cases hc10 : r2 = (32 : Int32)
            · rw [if_pos hc10] at h
              cases h
              exact am_kp.rf
            · rw [if_neg hc10] at h
              obtain ⟨r11, h12, h⟩ := am_bd h
              have k_r11 : am_kp [(4, 4), (25, 0), (26, 0), (27, 0)] [] 0 m r11 := am_kp.tr am_kp.rf (am_kp.mono (kp_X4_addToken r2 0 x2 m r11 h12) rfl)
              cases h
              exact k_r11
          · rw [if_neg hc9] at h
            obtain ⟨q19, h20, h⟩ := am_bd h
            obtain ⟨r21, h22, h⟩ := am_bd h
            obtain ⟨r23, h24, h⟩ := am_bd h
            have k_r23 : am_kp [(4, 4), (25, 0), (26, 0), (27, 0)] [] 0 m r23 := am_kp.tr am_kp.rf (am_kp.mono (kp_X4_addToken 256 r21 x2 m r23 h24) rfl)
            cases h
            exact k_r23
        · rw [if_neg hc6] at h
          obtain ⟨q31, h32, h⟩ := am_bd h
          obtain ⟨r33, h34, h⟩ := am_bd h
          obtain ⟨r35, h36, h⟩ := am_bd h
          have k_r35 : am_kp [(4, 4), (25, 0), (26, 0), (27, 0)] [] 0 m r35 := am_kp.tr am_kp.rf (am_kp.mono (kp_X4_addToken r33 0 x2 m r35 h36) rfl)
          cases h
          exact k_r35
      exact am_kp.tr k_q37 (ih h)
set_option maxRecDepth 100000 in
theorem kp_X4_split  (m : am_m) (t : am_m) (h : fn_X4_split  m = some t) : am_kp [(4, 4), (25, 0), (26, 0), (27, 0)] [] 0 m t := by
  unfold fn_X4_split at h
  obtain ⟨q39, h40, h⟩ := am_bd h
  have k_q39 : am_kp [(4, 4), (25, 0), (26, 0), (27, 0)] [] 0 m q39 := am_kp.tr (am_kp.si am_kp.rf rfl) (kl_X4_split_7 (h := h40))
  obtain ⟨r41, h42, h⟩ := am_bd h
  have k_r41 : am_kp [(4, 4), (25, 0), (26, 0), (27, 0)] [] 0 m r41 := am_kp.tr k_q39 (am_kp.mono (kp_X4_addToken 257 0 (q39.1 7 0 1) q39 r41 h42) rfl)
  cases h
  exact k_r41
-- X4_goTo
set_option maxRecDepth 100000 in
theorem kp_X4_goTo (a1 : Int32) (m : am_m) (t : am_m) (h : fn_X4_goTo a1 m = some t) : am_kp [(4, 5), (4, 6), (4, 7)] [] 0 m t := by
  unfold fn_X4_goTo at h
  obtain ⟨r1, h2, h⟩ := am_bd h
  obtain ⟨r3, h4, h⟩ := am_bd h
  obtain ⟨hg5, h⟩ := am_ck_some h
  obtain ⟨hg6, h⟩ := am_ck_some h
  cases h
  exact (am_kp.si (am_kp.si (am_kp.si am_kp.rf rfl) rfl) rfl)
-- X4_failed
set_option maxRecDepth 100000 in
theorem kp_X4_failed  (m : am_m) (t : Int32 × am_m) (h : fn_X4_failed  m = some t) : am_kp [(4, 10)] [] 0 m t.2 := by
  unfold fn_X4_failed at h
  obtain ⟨hg1, h⟩ := am_ck_some h
  cases h
  exact (am_kp.si am_kp.rf rfl)
-- X4_took
set_option maxRecDepth 100000 in
theorem kp_X4_took (a1 : Int32) (m : am_m) (t : Int32 × am_m) (h : fn_X4_took a1 m = some t) : am_kp [(4, 5), (4, 6), (4, 7), (4, 10)] [] 0 m t.2 := by
  unfold fn_X4_took at h
  by_cases hc1 : (m.1 4 0 6) = a1
  · rw [if_pos hc1] at h
    obtain ⟨r2, h3, h⟩ := am_bd h
    have k_r2 : am_kp [(4, 5), (4, 6), (4, 7), (4, 10)] [] 0 m r2 := am_kp.tr am_kp.rf (am_kp.mono (kp_X4_goTo ((m.1 4 0 5) + (1 : Int32)) m r2 h3) rfl)
    cases h
    exact k_r2
  · rw [if_neg hc1] at h
    obtain ⟨r4, h5, h⟩ := am_bd h
    have k_r4 : am_kp [(4, 5), (4, 6), (4, 7), (4, 10)] [] 0 m r4.2 := am_kp.tr am_kp.rf (am_kp.mono (kp_X4_failed  m r4 h5) rfl)
    obtain ⟨hz6, h⟩ := am_gd_some h
    cases h
    exact k_r4
-- X5_mark
set_option maxRecDepth 100000 in
theorem kp_X5_mark (a0 : Nat) (a1 : Int32) (a2 : Int32) (m : am_m) (t : am_m) (h : fn_X5_mark a0 a1 a2 m = some t) : am_kp [(28, 0)] [] 0 m t := by
  unfold fn_X5_mark at h
  by_cases hc1 : (m.1 5 a0 2) ≤ 0
  · rw [if_pos hc1] at h
    cases h
    exact am_kp.rf
  · rw [if_neg hc1] at h
    by_cases hc2 : a1 < 0
    · rw [if_pos hc2] at h
      cases h
      exact am_kp.rf
    · rw [if_neg hc2] at h
      by_cases hc3 : (6 : Int32) ≤ a1
      · rw [if_pos hc3] at h
        cases h
        exact am_kp.rf
      · rw [if_neg hc3] at h
        by_cases hc4 : (Int32.ofNat (m.2.2.2.2.2.2.1 28 a0)) ≤ ((((m.1 5 a0 2) - (1 : Int32)) * (6 : Int32)) + a1)
        · rw [if_pos hc4] at h
          cases h
          exact am_kp.rf
        · rw [if_neg hc4] at h
          obtain ⟨hg5, h⟩ := am_ck_some h
          cases h
          exact (am_kp.si am_kp.rf rfl)
-- X4_readTimes
set_option maxRecDepth 100000 in
theorem kp_X4_readTimes  (m : am_m) (t : Int32 × am_m) (h : fn_X4_readTimes  m = some t) : am_kp [(4, 5), (4, 6), (4, 7), (4, 10), (28, 0)] [] 0 m t.2 := by
  unfold fn_X4_readTimes at h
  obtain ⟨r1, h2, h⟩ := am_bd h
  have k_r1 : am_kp [(4, 5), (4, 6), (4, 7), (4, 10), (28, 0)] [] 0 m r1 := am_kp.tr am_kp.rf (am_kp.mono (kp_X4_goTo ((m.1 4 0 5) + (1 : Int32)) m r1 h2) rfl)
  by_cases hc3 : (r1.1 4 0 6) ≠ (256 : Int32)
  · rw [if_pos hc3] at h
    obtain ⟨r4, h5, h⟩ := am_bd h
    have k_r4 : am_kp [(4, 5), (4, 6), (4, 7), (4, 10), (28, 0)] [] 0 m r4.2 := am_kp.tr k_r1 (am_kp.mono (kp_X4_failed  r1 r4 h5) rfl)
    obtain ⟨hz6, h⟩ := am_gd_some h
    cases h
    exact k_r4
  · rw [if_neg hc3] at h
    by_cases hc7 : (r1.1 4 0 7) < (1 : Int32)
    · rw [if_pos hc7] at h
      obtain ⟨r8, h9, h⟩ := am_bd h
      have k_r8 : am_kp [(4, 5), (4, 6), (4, 7), (4, 10), (28, 0)] [] 0 m r8.2 := am_kp.tr k_r1 (am_kp.mono (kp_X4_failed  r1 r8 h9) rfl)
      obtain ⟨hz10, h⟩ := am_gd_some h
      cases h
      exact k_r8
    · rw [if_neg hc7] at h
      by_cases hc11 : (r1.1 4 0 7) ≤ (20 : Int32)
      · rw [if_pos hc11] at h
        obtain ⟨r12, h13, h⟩ := am_bd h
        have k_r12 : am_kp [(4, 5), (4, 6), (4, 7), (4, 10), (28, 0)] [] 0 m r12 := am_kp.tr k_r1 (am_kp.mono (kp_X5_mark 0 1 (r1.1 4 0 7) r1 r12 h13) rfl)
        obtain ⟨r14, h15, h⟩ := am_bd h
        have k_r14 : am_kp [(4, 5), (4, 6), (4, 7), (4, 10), (28, 0)] [] 0 m r14 := am_kp.tr k_r12 (am_kp.mono (kp_X4_goTo ((r12.1 4 0 5) + (1 : Int32)) r12 r14 h15) rfl)
        cases h
        exact k_r14
      · rw [if_neg hc11] at h
        obtain ⟨r16, h17, h⟩ := am_bd h
        have k_r16 : am_kp [(4, 5), (4, 6), (4, 7), (4, 10), (28, 0)] [] 0 m r16.2 := am_kp.tr k_r1 (am_kp.mono (kp_X4_failed  r1 r16 h17) rfl)
        obtain ⟨hz18, h⟩ := am_gd_some h
        cases h
        exact k_r16
-- X5_put
set_option maxRecDepth 100000 in
theorem kp_X5_put (a0 : Nat) (a1 : Int32) (a2 : Int32) (m : am_m) (t : am_m) (h : fn_X5_put a0 a1 a2 m = some t) : am_kp [(5, 3), (29, 0)] [] 0 m t := by
  unfold fn_X5_put at h
  by_cases hc1 : (Int32.ofNat (m.2.2.2.2.2.2.1 29 a0)) ≤ (m.1 5 a0 3)
  · rw [if_pos hc1] at h
    cases h
    exact am_kp.rf
  · rw [if_neg hc1] at h
    obtain ⟨hg2, h⟩ := am_ck_some h
    cases h
    exact (am_kp.si (am_kp.si am_kp.rf rfl) rfl)
-- X4_readLawWord
set_option maxRecDepth 100000 in
theorem kp_X4_readLawWord  (m : am_m) (t : Int32 × am_m) (h : fn_X4_readLawWord  m = some t) : am_kp [(4, 5), (4, 6), (4, 7), (4, 10), (5, 3), (29, 0)] [] 0 m t.2 := by
  unfold fn_X4_readLawWord at h
  by_cases hc1 : (m.1 4 0 6) < (274 : Int32)
  · rw [if_pos hc1] at h
    obtain ⟨r2, h3, h⟩ := am_bd h
    have k_r2 : am_kp [(4, 5), (4, 6), (4, 7), (4, 10), (5, 3), (29, 0)] [] 0 m r2.2 := am_kp.tr am_kp.rf (am_kp.mono (kp_X4_failed  m r2 h3) rfl)
    obtain ⟨hz4, h⟩ := am_gd_some h
    cases h
    exact k_r2
  · rw [if_neg hc1] at h
    by_cases hc5 : (m.1 4 0 6) ≤ (281 : Int32)
    · rw [if_pos hc5] at h
      obtain ⟨r6, h7, h⟩ := am_bd h
      have k_r6 : am_kp [(4, 5), (4, 6), (4, 7), (4, 10), (5, 3), (29, 0)] [] 0 m r6 := am_kp.tr am_kp.rf (am_kp.mono (kp_X5_put 0 258 ((m.1 4 0 6) - (274 : Int32)) m r6 h7) rfl)
      obtain ⟨r8, h9, h⟩ := am_bd h
      have k_r8 : am_kp [(4, 5), (4, 6), (4, 7), (4, 10), (5, 3), (29, 0)] [] 0 m r8 := am_kp.tr k_r6 (am_kp.mono (kp_X4_goTo ((r6.1 4 0 5) + (1 : Int32)) r6 r8 h9) rfl)
      cases h
      exact k_r8
    · rw [if_neg hc5] at h
      obtain ⟨r10, h11, h⟩ := am_bd h
      have k_r10 : am_kp [(4, 5), (4, 6), (4, 7), (4, 10), (5, 3), (29, 0)] [] 0 m r10.2 := am_kp.tr am_kp.rf (am_kp.mono (kp_X4_failed  m r10 h11) rfl)
      obtain ⟨hz12, h⟩ := am_gd_some h
      cases h
      exact k_r10
-- X4_readOrderWord
set_option maxRecDepth 100000 in
theorem kp_X4_readOrderWord  (m : am_m) (t : Int32 × am_m) (h : fn_X4_readOrderWord  m = some t) : am_kp [(4, 5), (4, 6), (4, 7), (4, 10), (5, 3), (5, 4), (29, 0)] [] 0 m t.2 := by
  unfold fn_X4_readOrderWord at h
  by_cases hc1 : (m.1 4 0 6) = (278 : Int32)
  · rw [if_pos hc1] at h
    obtain ⟨r2, h3, h⟩ := am_bd h
    have k_r2 : am_kp [(4, 5), (4, 6), (4, 7), (4, 10), (5, 3), (5, 4), (29, 0)] [] 0 m r2 := am_kp.tr am_kp.rf (am_kp.mono (kp_X4_goTo ((m.1 4 0 5) + (1 : Int32)) m r2 h3) rfl)
    by_cases hc4 : (r2.1 4 0 6) ≠ (256 : Int32)
    · rw [if_pos hc4] at h
      obtain ⟨r5, h6, h⟩ := am_bd h
      have k_r5 : am_kp [(4, 5), (4, 6), (4, 7), (4, 10), (5, 3), (5, 4), (29, 0)] [] 0 m r5.2 := am_kp.tr k_r2 (am_kp.mono (kp_X4_failed  r2 r5 h6) rfl)
      obtain ⟨hz7, h⟩ := am_gd_some h
      cases h
      exact k_r5
    · rw [if_neg hc4] at h
      by_cases hc8 : (r2.1 4 0 7) < (7 : Int32)
      · rw [if_pos hc8] at h
        obtain ⟨r10, h11, h⟩ := am_bd h
        have k_r10 : am_kp [(4, 5), (4, 6), (4, 7), (4, 10), (5, 3), (5, 4), (29, 0)] [] 0 m r10 := am_kp.tr k_r2 (am_kp.mono (kp_X5_put 0 258 ((if (m.1 4 0 6) ≠ (286 : Int32) then (5 : Int32) else (12 : Int32)) + (r2.1 4 0 7)) r2 r10 h11) rfl)
        obtain ⟨r13, h14, h⟩ := am_bd h
        have k_r13 : am_kp [(4, 5), (4, 6), (4, 7), (4, 10), (5, 3), (5, 4), (29, 0)] [] 0 m r13 := am_kp.tr (am_kp.si k_r10 rfl) (am_kp.mono (kp_X4_goTo ((r10.1 4 0 5) + (1 : Int32)) (am_si r10 5 0 4 ((r10.1 5 0 4) ||| (if (m.1 4 0 6) ≠ (286 : Int32) then (0 : Int32) else ((1 : Int32) <<< ((r10.1 4 0 7) &&& 31))))) r13 h14) rfl)
        cases h
        exact k_r13
      · rw [if_neg hc8] at h
        obtain ⟨r15, h16, h⟩ := am_bd h
        have k_r15 : am_kp [(4, 5), (4, 6), (4, 7), (4, 10), (5, 3), (5, 4), (29, 0)] [] 0 m r15.2 := am_kp.tr k_r2 (am_kp.mono (kp_X4_failed  r2 r15 h16) rfl)
        obtain ⟨hz17, h⟩ := am_gd_some h
        cases h
        exact k_r15
  · rw [if_neg hc1] at h
    by_cases hc18 : (m.1 4 0 6) ≠ (286 : Int32)
    · rw [if_pos hc18] at h
      by_cases hc19 : (m.1 4 0 6) ≠ (280 : Int32)
      · rw [if_pos hc19] at h
        by_cases hc20 : (m.1 4 0 6) < (282 : Int32)
        · rw [if_pos hc20] at h
          obtain ⟨r21, h22, h⟩ := am_bd h
          have k_r21 : am_kp [(4, 5), (4, 6), (4, 7), (4, 10), (5, 3), (5, 4), (29, 0)] [] 0 m r21.2 := am_kp.tr am_kp.rf (am_kp.mono (kp_X4_failed  m r21 h22) rfl)
          obtain ⟨hz23, h⟩ := am_gd_some h
          cases h
          exact k_r21
        · rw [if_neg hc20] at h
          by_cases hc24 : (285 : Int32) < (m.1 4 0 6)
          · rw [if_pos hc24] at h
            obtain ⟨r25, h26, h⟩ := am_bd h
            have k_r25 : am_kp [(4, 5), (4, 6), (4, 7), (4, 10), (5, 3), (5, 4), (29, 0)] [] 0 m r25.2 := am_kp.tr am_kp.rf (am_kp.mono (kp_X4_failed  m r25 h26) rfl)
            obtain ⟨hz27, h⟩ := am_gd_some h
            cases h
            exact k_r25
          · rw [if_neg hc24] at h
            obtain ⟨r28, h29, h⟩ := am_bd h
            have k_r28 : am_kp [(4, 5), (4, 6), (4, 7), (4, 10), (5, 3), (5, 4), (29, 0)] [] 0 m r28 := am_kp.tr am_kp.rf (am_kp.mono (kp_X5_put 0 258 (((1 : Int32) + (m.1 4 0 6)) - (282 : Int32)) m r28 h29) rfl)
            obtain ⟨r30, h31, h⟩ := am_bd h
            have k_r30 : am_kp [(4, 5), (4, 6), (4, 7), (4, 10), (5, 3), (5, 4), (29, 0)] [] 0 m r30 := am_kp.tr k_r28 (am_kp.mono (kp_X4_goTo ((r28.1 4 0 5) + (1 : Int32)) r28 r30 h31) rfl)
            cases h
            exact k_r30
      · rw [if_neg hc19] at h
        obtain ⟨r32, h33, h⟩ := am_bd h
        have k_r32 : am_kp [(4, 5), (4, 6), (4, 7), (4, 10), (5, 3), (5, 4), (29, 0)] [] 0 m r32 := am_kp.tr am_kp.rf (am_kp.mono (kp_X5_put 0 258 0 m r32 h33) rfl)
        obtain ⟨r34, h35, h⟩ := am_bd h
        have k_r34 : am_kp [(4, 5), (4, 6), (4, 7), (4, 10), (5, 3), (5, 4), (29, 0)] [] 0 m r34 := am_kp.tr k_r32 (am_kp.mono (kp_X4_goTo ((r32.1 4 0 5) + (1 : Int32)) r32 r34 h35) rfl)
        cases h
        exact k_r34
    · rw [if_neg hc18] at h
      obtain ⟨r36, h37, h⟩ := am_bd h
      have k_r36 : am_kp [(4, 5), (4, 6), (4, 7), (4, 10), (5, 3), (5, 4), (29, 0)] [] 0 m r36 := am_kp.tr am_kp.rf (am_kp.mono (kp_X4_goTo ((m.1 4 0 5) + (1 : Int32)) m r36 h37) rfl)
      by_cases hc38 : (r36.1 4 0 6) ≠ (256 : Int32)
      · rw [if_pos hc38] at h
        obtain ⟨r39, h40, h⟩ := am_bd h
        have k_r39 : am_kp [(4, 5), (4, 6), (4, 7), (4, 10), (5, 3), (5, 4), (29, 0)] [] 0 m r39.2 := am_kp.tr k_r36 (am_kp.mono (kp_X4_failed  r36 r39 h40) rfl)
        obtain ⟨hz41, h⟩ := am_gd_some h
        cases h
        exact k_r39
      · rw [if_neg hc38] at h
        by_cases hc42 : (r36.1 4 0 7) < (7 : Int32)
        · rw [if_pos hc42] at h
          obtain ⟨r44, h45, h⟩ := am_bd h
          have k_r44 : am_kp [(4, 5), (4, 6), (4, 7), (4, 10), (5, 3), (5, 4), (29, 0)] [] 0 m r44 := am_kp.tr k_r36 (am_kp.mono (kp_X5_put 0 258 ((if (m.1 4 0 6) ≠ (286 : Int32) then (5 : Int32) else (12 : Int32)) + (r36.1 4 0 7)) r36 r44 h45) rfl)
          obtain ⟨r47, h48, h⟩ := am_bd h
          have k_r47 : am_kp [(4, 5), (4, 6), (4, 7), (4, 10), (5, 3), (5, 4), (29, 0)] [] 0 m r47 := am_kp.tr (am_kp.si k_r44 rfl) (am_kp.mono (kp_X4_goTo ((r44.1 4 0 5) + (1 : Int32)) (am_si r44 5 0 4 ((r44.1 5 0 4) ||| (if (m.1 4 0 6) ≠ (286 : Int32) then (0 : Int32) else ((1 : Int32) <<< ((r44.1 4 0 7) &&& 31))))) r47 h48) rfl)
          cases h
          exact k_r47
        · rw [if_neg hc42] at h
          obtain ⟨r49, h50, h⟩ := am_bd h
          have k_r49 : am_kp [(4, 5), (4, 6), (4, 7), (4, 10), (5, 3), (5, 4), (29, 0)] [] 0 m r49.2 := am_kp.tr k_r36 (am_kp.mono (kp_X4_failed  r36 r49 h50) rfl)
          obtain ⟨hz51, h⟩ := am_gd_some h
          cases h
          exact k_r49
-- X4_readPart
set_option maxRecDepth 100000 in
theorem kp_X4_readPart (rc : am_rc) (hrc : ∀ w a m t, rc w a m = some t → am_kp [(4, 5), (4, 6), (4, 7), (4, 8), (4, 10), (5, 3), (5, 4), (29, 0)] [] 0 m t.2) (a1 : Int32) (m : am_m) (t : Int32 × am_m) (h : fn_X4_readPart rc a1 m = some t) : am_kp [(4, 5), (4, 6), (4, 7), (4, 8), (4, 10), (5, 3), (5, 4), (29, 0)] [] 0 m t.2 := by
  unfold fn_X4_readPart at h
  by_cases hc1 : (m.1 4 0 6) ≠ (91 : Int32)
  · rw [if_pos hc1] at h
    by_cases hc2 : (m.1 4 0 8) < (50 : Int32)
    · rw [if_pos hc2] at h
      by_cases hc3 : (m.1 4 0 6) = (256 : Int32)
      · rw [if_pos hc3] at h
        by_cases hc4 : (m.1 4 0 7) ≤ (1000 : Int32)
        · rw [if_pos hc4] at h
          obtain ⟨r5, h6, h⟩ := am_bd h
          have k_r5 : am_kp [(4, 5), (4, 6), (4, 7), (4, 8), (4, 10), (5, 3), (5, 4), (29, 0)] [] 0 m r5 := am_kp.tr (am_kp.si am_kp.rf rfl) (am_kp.mono (kp_X5_put 0 256 (m.1 4 0 7) (am_si m 4 0 8 ((m.1 4 0 8) + (1 : Int32))) r5 h6) rfl)
          obtain ⟨r7, h8, h⟩ := am_bd h
          have k_r7 : am_kp [(4, 5), (4, 6), (4, 7), (4, 8), (4, 10), (5, 3), (5, 4), (29, 0)] [] 0 m r7 := am_kp.tr k_r5 (am_kp.mono (kp_X4_goTo ((r5.1 4 0 5) + (1 : Int32)) r5 r7 h8) rfl)
          cases h
          exact k_r7
        · rw [if_neg hc4] at h
          obtain ⟨r9, h10, h⟩ := am_bd h
          have k_r9 : am_kp [(4, 5), (4, 6), (4, 7), (4, 8), (4, 10), (5, 3), (5, 4), (29, 0)] [] 0 m r9.2 := am_kp.tr (am_kp.si am_kp.rf rfl) (am_kp.mono (kp_X4_failed  (am_si m 4 0 8 ((m.1 4 0 8) + (1 : Int32))) r9 h10) rfl)
          obtain ⟨hz11, h⟩ := am_gd_some h
          cases h
          exact k_r9
      · rw [if_neg hc3] at h
        by_cases hc12 : (m.1 4 0 9) = 0
        · rw [if_pos hc12] at h
          obtain ⟨r13, h14, h⟩ := am_bd h
          have k_r13 : am_kp [(4, 5), (4, 6), (4, 7), (4, 8), (4, 10), (5, 3), (5, 4), (29, 0)] [] 0 m r13.2 := am_kp.tr (am_kp.si am_kp.rf rfl) (am_kp.mono (kp_X4_readLawWord  (am_si m 4 0 8 ((m.1 4 0 8) + (1 : Int32))) r13 h14) rfl)
          obtain ⟨hz15, h⟩ := am_gd_some h
          cases h
          exact k_r13
        · rw [if_neg hc12] at h
          obtain ⟨r16, h17, h⟩ := am_bd h
          have k_r16 : am_kp [(4, 5), (4, 6), (4, 7), (4, 8), (4, 10), (5, 3), (5, 4), (29, 0)] [] 0 m r16.2 := am_kp.tr (am_kp.si am_kp.rf rfl) (am_kp.mono (kp_X4_readOrderWord  (am_si m 4 0 8 ((m.1 4 0 8) + (1 : Int32))) r16 h17) rfl)
          obtain ⟨hz18, h⟩ := am_gd_some h
          cases h
          exact k_r16
    · rw [if_neg hc2] at h
      obtain ⟨r19, h20, h⟩ := am_bd h
      have k_r19 : am_kp [(4, 5), (4, 6), (4, 7), (4, 8), (4, 10), (5, 3), (5, 4), (29, 0)] [] 0 m r19.2 := am_kp.tr am_kp.rf (am_kp.mono (kp_X4_failed  m r19 h20) rfl)
      obtain ⟨hz21, h⟩ := am_gd_some h
      cases h
      exact k_r19
  · rw [if_neg hc1] at h
    by_cases hc22 : a1 < (8 : Int32)
    · rw [if_pos hc22] at h
      obtain ⟨r23, h24, h⟩ := am_bd h
      have k_r23 : am_kp [(4, 5), (4, 6), (4, 7), (4, 8), (4, 10), (5, 3), (5, 4), (29, 0)] [] 0 m r23 := am_kp.tr am_kp.rf (am_kp.mono (kp_X4_goTo ((m.1 4 0 5) + (1 : Int32)) m r23 h24) rfl)
      obtain ⟨r25, h26, h⟩ := am_bd h
      have k_r25 : am_kp [(4, 5), (4, 6), (4, 7), (4, 8), (4, 10), (5, 3), (5, 4), (29, 0)] [] 0 m r25.2 := am_kp.tr k_r23 (hrc 4 _ _ _ h26)
      by_cases hc27 : r25.1 = 0
      · rw [if_pos hc27] at h
        cases h
        exact k_r25
      · rw [if_neg hc27] at h
        obtain ⟨r28, h29, h⟩ := am_bd h
        have k_r28 : am_kp [(4, 5), (4, 6), (4, 7), (4, 8), (4, 10), (5, 3), (5, 4), (29, 0)] [] 0 m r28.2 := am_kp.tr k_r25 (am_kp.mono (kp_X4_took 93 r25.2 r28 h29) rfl)
        by_cases hc30 : r28.1 = 0
        · rw [if_pos hc30] at h
          cases h
          exact k_r28
        · rw [if_neg hc30] at h
          cases h
          exact k_r28
    · rw [if_neg hc22] at h
      obtain ⟨r31, h32, h⟩ := am_bd h
      have k_r31 : am_kp [(4, 5), (4, 6), (4, 7), (4, 8), (4, 10), (5, 3), (5, 4), (29, 0)] [] 0 m r31.2 := am_kp.tr am_kp.rf (am_kp.mono (kp_X4_failed  m r31 h32) rfl)
      obtain ⟨hz33, h⟩ := am_gd_some h
      cases h
      exact k_r31
-- X4_readTerm
set_option maxRecDepth 100000 in
theorem kl_X4_readTerm_12 (rc : am_rc) (hrc : ∀ w a m t, rc w a m = some t → am_kp [(4, 5), (4, 6), (4, 7), (4, 8), (4, 10), (5, 3), (5, 4), (29, 0)] [] 0 m t.2) {n : Nat} {x1 : Int32} {x2 : Int32} {m : am_m} {t : Sum (am_m) (Int32 × am_m)} (h : lp_X4_readTerm_12 rc n x1 x2 m = some t) : (∀ t', t = .inl t' → am_kp [(4, 5), (4, 6), (4, 7), (4, 8), (4, 10), (5, 3), (5, 4), (29, 0)] [] 0 m t') ∧ (∀ t', t = .inr t' → am_kp [(4, 5), (4, 6), (4, 7), (4, 8), (4, 10), (5, 3), (5, 4), (29, 0)] [] 0 m t'.2) := by
  induction n generalizing x2 m with
  | zero => cases h
  | succ n ih =>
    unfold lp_X4_readTerm_12 at h
    by_cases hc4 : (401 : Int32) ≤ x2
    · rw [if_pos hc4] at h
      cases h
      exact ⟨fun _ he => (by cases he; exact am_kp.rf), fun _ he => (by cases he)⟩
    · rw [if_neg hc4] at h
      by_cases hc5 : (m.1 4 0 6) = (42 : Int32)
      · rw [if_pos hc5] at h
        obtain ⟨r6, h7, h⟩ := am_bd h
        have k_r6 : am_kp [(4, 5), (4, 6), (4, 7), (4, 8), (4, 10), (5, 3), (5, 4), (29, 0)] [] 0 m r6 := am_kp.tr am_kp.rf (am_kp.mono (kp_X4_goTo ((m.1 4 0 5) + (1 : Int32)) m r6 h7) rfl)
        obtain ⟨r8, h9, h⟩ := am_bd h
        have k_r8 : am_kp [(4, 5), (4, 6), (4, 7), (4, 8), (4, 10), (5, 3), (5, 4), (29, 0)] [] 0 m r8.2 := am_kp.tr k_r6 (hrc 6 _ _ _ h9)
        by_cases hc10 : r8.1 ≠ 0
        · rw [if_pos hc10] at h
          obtain ⟨r11, h12, h⟩ := am_bd h
          have k_r11 : am_kp [(4, 5), (4, 6), (4, 7), (4, 8), (4, 10), (5, 3), (5, 4), (29, 0)] [] 0 m r11 := am_kp.tr k_r8 (am_kp.mono (kp_X5_put 0 (m.1 4 0 6) 0 r8.2 r11 h12) rfl)
          exact ⟨fun t' he => am_kp.tr k_r11 ((ih h).1 t' he), fun t' he => am_kp.tr k_r11 ((ih h).2 t' he)⟩
        · rw [if_neg hc10] at h
          cases h
          exact ⟨fun _ he => (by cases he), fun _ he => (by cases he; exact k_r8)⟩
      · rw [if_neg hc5] at h
        by_cases hc13 : (m.1 4 0 6) = (47 : Int32)
        · rw [if_pos hc13] at h
          obtain ⟨r14, h15, h⟩ := am_bd h
          have k_r14 : am_kp [(4, 5), (4, 6), (4, 7), (4, 8), (4, 10), (5, 3), (5, 4), (29, 0)] [] 0 m r14 := am_kp.tr am_kp.rf (am_kp.mono (kp_X4_goTo ((m.1 4 0 5) + (1 : Int32)) m r14 h15) rfl)
          obtain ⟨r16, h17, h⟩ := am_bd h
          have k_r16 : am_kp [(4, 5), (4, 6), (4, 7), (4, 8), (4, 10), (5, 3), (5, 4), (29, 0)] [] 0 m r16.2 := am_kp.tr k_r14 (hrc 6 _ _ _ h17)
          by_cases hc18 : r16.1 ≠ 0
          · rw [if_pos hc18] at h
            obtain ⟨r19, h20, h⟩ := am_bd h
            have k_r19 : am_kp [(4, 5), (4, 6), (4, 7), (4, 8), (4, 10), (5, 3), (5, 4), (29, 0)] [] 0 m r19 := am_kp.tr k_r16 (am_kp.mono (kp_X5_put 0 (m.1 4 0 6) 0 r16.2 r19 h20) rfl)
            exact ⟨fun t' he => am_kp.tr k_r19 ((ih h).1 t' he), fun t' he => am_kp.tr k_r19 ((ih h).2 t' he)⟩
          · rw [if_neg hc18] at h
            cases h
            exact ⟨fun _ he => (by cases he), fun _ he => (by cases he; exact k_r16)⟩
        · rw [if_neg hc13] at h
          by_cases hc21 : (m.1 4 0 6) ≠ (37 : Int32)
          · rw [if_pos hc21] at h
            cases h
            exact ⟨fun _ he => (by cases he; exact am_kp.rf), fun _ he => (by cases he)⟩
          · rw [if_neg hc21] at h
            obtain ⟨r22, h23, h⟩ := am_bd h
            have k_r22 : am_kp [(4, 5), (4, 6), (4, 7), (4, 8), (4, 10), (5, 3), (5, 4), (29, 0)] [] 0 m r22 := am_kp.tr am_kp.rf (am_kp.mono (kp_X4_goTo ((m.1 4 0 5) + (1 : Int32)) m r22 h23) rfl)
            obtain ⟨r24, h25, h⟩ := am_bd h
            have k_r24 : am_kp [(4, 5), (4, 6), (4, 7), (4, 8), (4, 10), (5, 3), (5, 4), (29, 0)] [] 0 m r24.2 := am_kp.tr k_r22 (hrc 6 _ _ _ h25)
            by_cases hc26 : r24.1 ≠ 0
            · rw [if_pos hc26] at h
              obtain ⟨r27, h28, h⟩ := am_bd h
              have k_r27 : am_kp [(4, 5), (4, 6), (4, 7), (4, 8), (4, 10), (5, 3), (5, 4), (29, 0)] [] 0 m r27 := am_kp.tr k_r24 (am_kp.mono (kp_X5_put 0 (m.1 4 0 6) 0 r24.2 r27 h28) rfl)
              exact ⟨fun t' he => am_kp.tr k_r27 ((ih h).1 t' he), fun t' he => am_kp.tr k_r27 ((ih h).2 t' he)⟩
            · rw [if_neg hc26] at h
              cases h
              exact ⟨fun _ he => (by cases he), fun _ he => (by cases he; exact k_r24)⟩
set_option maxRecDepth 100000 in
theorem kp_X4_readTerm (rc : am_rc) (hrc : ∀ w a m t, rc w a m = some t → am_kp [(4, 5), (4, 6), (4, 7), (4, 8), (4, 10), (5, 3), (5, 4), (29, 0)] [] 0 m t.2) (a1 : Int32) (m : am_m) (t : Int32 × am_m) (h : fn_X4_readTerm rc a1 m = some t) : am_kp [(4, 5), (4, 6), (4, 7), (4, 8), (4, 10), (5, 3), (5, 4), (29, 0)] [] 0 m t.2 := by
  unfold fn_X4_readTerm at h
  obtain ⟨r1, h2, h⟩ := am_bd h
  have k_r1 : am_kp [(4, 5), (4, 6), (4, 7), (4, 8), (4, 10), (5, 3), (5, 4), (29, 0)] [] 0 m r1.2 := am_kp.tr am_kp.rf (hrc 6 _ _ _ h2)
  by_cases hc3 : r1.1 ≠ 0
  · rw [if_pos hc3] at h
    obtain ⟨w32, h30, h⟩ := am_bd h
    rcases w32 with q29 | rr31
    · have k_q29 : am_kp [(4, 5), (4, 6), (4, 7), (4, 8), (4, 10), (5, 3), (5, 4), (29, 0)] [] 0 m q29 := am_kp.tr k_r1 ((kl_X4_readTerm_12 rc hrc (h := h30)).1 _ rfl)
      dsimp only at h
      cases h
      exact k_q29
    · cases h
      exact am_kp.tr k_r1 ((kl_X4_readTerm_12 rc hrc (h := h30)).2 _ rfl)
  · rw [if_neg hc3] at h
    cases h
    exact k_r1
-- X4_readSum
set_option maxRecDepth 100000 in
theorem kl_X4_readSum_12 (rc : am_rc) (hrc : ∀ w a m t, rc w a m = some t → am_kp [(4, 5), (4, 6), (4, 7), (4, 8), (4, 10), (5, 3), (5, 4), (29, 0)] [] 0 m t.2) {n : Nat} {x1 : Int32} {x2 : Int32} {m : am_m} {t : Sum (am_m) (Int32 × am_m)} (h : lp_X4_readSum_12 rc n x1 x2 m = some t) : (∀ t', t = .inl t' → am_kp [(4, 5), (4, 6), (4, 7), (4, 8), (4, 10), (5, 3), (5, 4), (29, 0)] [] 0 m t') ∧ (∀ t', t = .inr t' → am_kp [(4, 5), (4, 6), (4, 7), (4, 8), (4, 10), (5, 3), (5, 4), (29, 0)] [] 0 m t'.2) := by
  induction n generalizing x2 m with
  | zero => cases h
  | succ n ih =>
    unfold lp_X4_readSum_12 at h
    by_cases hc4 : (401 : Int32) ≤ x2
    · rw [if_pos hc4] at h
      cases h
      exact ⟨fun _ he => (by cases he; exact am_kp.rf), fun _ he => (by cases he)⟩
    · rw [if_neg hc4] at h
      by_cases hc5 : (m.1 4 0 6) = (43 : Int32)
      · rw [if_pos hc5] at h
        obtain ⟨r6, h7, h⟩ := am_bd h
        have k_r6 : am_kp [(4, 5), (4, 6), (4, 7), (4, 8), (4, 10), (5, 3), (5, 4), (29, 0)] [] 0 m r6 := am_kp.tr am_kp.rf (am_kp.mono (kp_X4_goTo ((m.1 4 0 5) + (1 : Int32)) m r6 h7) rfl)
        obtain ⟨r8, h9, h⟩ := am_bd h
        have k_r8 : am_kp [(4, 5), (4, 6), (4, 7), (4, 8), (4, 10), (5, 3), (5, 4), (29, 0)] [] 0 m r8.2 := am_kp.tr k_r6 (hrc 5 _ _ _ h9)
        by_cases hc10 : r8.1 ≠ 0
        · rw [if_pos hc10] at h
          obtain ⟨r11, h12, h⟩ := am_bd h
          have k_r11 : am_kp [(4, 5), (4, 6), (4, 7), (4, 8), (4, 10), (5, 3), (5, 4), (29, 0)] [] 0 m r11 := am_kp.tr k_r8 (am_kp.mono (kp_X5_put 0 (m.1 4 0 6) 0 r8.2 r11 h12) rfl)
          exact ⟨fun t' he => am_kp.tr k_r11 ((ih h).1 t' he), fun t' he => am_kp.tr k_r11 ((ih h).2 t' he)⟩
        · rw [if_neg hc10] at h
          cases h
          exact ⟨fun _ he => (by cases he), fun _ he => (by cases he; exact k_r8)⟩
      · rw [if_neg hc5] at h
        by_cases hc13 : (m.1 4 0 6) ≠ (45 : Int32)
        · rw [if_pos hc13] at h
          cases h
          exact ⟨fun _ he => (by cases he; exact am_kp.rf), fun _ he => (by cases he)⟩
        · rw [if_neg hc13] at h
          obtain ⟨r14, h15, h⟩ := am_bd h
          have k_r14 : am_kp [(4, 5), (4, 6), (4, 7), (4, 8), (4, 10), (5, 3), (5, 4), (29, 0)] [] 0 m r14 := am_kp.tr am_kp.rf (am_kp.mono (kp_X4_goTo ((m.1 4 0 5) + (1 : Int32)) m r14 h15) rfl)
          obtain ⟨r16, h17, h⟩ := am_bd h
          have k_r16 : am_kp [(4, 5), (4, 6), (4, 7), (4, 8), (4, 10), (5, 3), (5, 4), (29, 0)] [] 0 m r16.2 := am_kp.tr k_r14 (hrc 5 _ _ _ h17)
          by_cases hc18 : r16.1 ≠ 0
          · rw [if_pos hc18] at h
            obtain ⟨r19, h20, h⟩ := am_bd h
            have k_r19 : am_kp [(4, 5), (4, 6), (4, 7), (4, 8), (4, 10), (5, 3), (5, 4), (29, 0)] [] 0 m r19 := am_kp.tr k_r16 (am_kp.mono (kp_X5_put 0 (m.1 4 0 6) 0 r16.2 r19 h20) rfl)
            exact ⟨fun t' he => am_kp.tr k_r19 ((ih h).1 t' he), fun t' he => am_kp.tr k_r19 ((ih h).2 t' he)⟩
          · rw [if_neg hc18] at h
            cases h
            exact ⟨fun _ he => (by cases he), fun _ he => (by cases he; exact k_r16)⟩
set_option maxRecDepth 100000 in
theorem kp_X4_readSum (rc : am_rc) (hrc : ∀ w a m t, rc w a m = some t → am_kp [(4, 5), (4, 6), (4, 7), (4, 8), (4, 10), (5, 3), (5, 4), (29, 0)] [] 0 m t.2) (a1 : Int32) (m : am_m) (t : Int32 × am_m) (h : fn_X4_readSum rc a1 m = some t) : am_kp [(4, 5), (4, 6), (4, 7), (4, 8), (4, 10), (5, 3), (5, 4), (29, 0)] [] 0 m t.2 := by
  unfold fn_X4_readSum at h
  obtain ⟨r1, h2, h⟩ := am_bd h
  have k_r1 : am_kp [(4, 5), (4, 6), (4, 7), (4, 8), (4, 10), (5, 3), (5, 4), (29, 0)] [] 0 m r1.2 := am_kp.tr am_kp.rf (hrc 5 _ _ _ h2)
  by_cases hc3 : r1.1 ≠ 0
  · rw [if_pos hc3] at h
    obtain ⟨w24, h22, h⟩ := am_bd h
    rcases w24 with q21 | rr23
    · have k_q21 : am_kp [(4, 5), (4, 6), (4, 7), (4, 8), (4, 10), (5, 3), (5, 4), (29, 0)] [] 0 m q21 := am_kp.tr k_r1 ((kl_X4_readSum_12 rc hrc (h := h22)).1 _ rfl)
      dsimp only at h
      cases h
      exact k_q21
    · cases h
      exact am_kp.tr k_r1 ((kl_X4_readSum_12 rc hrc (h := h22)).2 _ rfl)
  · rw [if_neg hc3] at h
    cases h
    exact k_r1
-- X4_readCompared
set_option maxRecDepth 100000 in
theorem kp_X4_readCompared (rc : am_rc) (hrc : ∀ w a m t, rc w a m = some t → am_kp [(4, 5), (4, 6), (4, 7), (4, 8), (4, 10), (5, 3), (5, 4), (29, 0)] [] 0 m t.2) (a1 : Int32) (m : am_m) (t : Int32 × am_m) (h : fn_X4_readCompared rc a1 m = some t) : am_kp [(4, 5), (4, 6), (4, 7), (4, 8), (4, 10), (5, 3), (5, 4), (29, 0)] [] 0 m t.2 := by
  unfold fn_X4_readCompared at h
  obtain ⟨r1, h2, h⟩ := am_bd h
  have k_r1 : am_kp [(4, 5), (4, 6), (4, 7), (4, 8), (4, 10), (5, 3), (5, 4), (29, 0)] [] 0 m r1.2 := am_kp.tr am_kp.rf (hrc 4 _ _ _ h2)
  by_cases hc3 : r1.1 ≠ 0
  · rw [if_pos hc3] at h
    by_cases hc4 : (r1.2.1 4 0 6) = (60 : Int32)
    · rw [if_pos hc4] at h
      obtain ⟨r5, h6, h⟩ := am_bd h
      have k_r5 : am_kp [(4, 5), (4, 6), (4, 7), (4, 8), (4, 10), (5, 3), (5, 4), (29, 0)] [] 0 m r5 := am_kp.tr k_r1 (am_kp.mono (kp_X4_goTo ((r1.2.1 4 0 5) + (1 : Int32)) r1.2 r5 h6) rfl)
      obtain ⟨r7, h8, h⟩ := am_bd h
      have k_r7 : am_kp [(4, 5), (4, 6), (4, 7), (4, 8), (4, 10), (5, 3), (5, 4), (29, 0)] [] 0 m r7.2 := am_kp.tr k_r5 (hrc 4 _ _ _ h8)
      by_cases hc9 : r7.1 ≠ 0
      · rw [if_pos hc9] at h
        obtain ⟨r10, h11, h⟩ := am_bd h
        have k_r10 : am_kp [(4, 5), (4, 6), (4, 7), (4, 8), (4, 10), (5, 3), (5, 4), (29, 0)] [] 0 m r10 := am_kp.tr k_r7 (am_kp.mono (kp_X5_put 0 (r1.2.1 4 0 6) 0 r7.2 r10 h11) rfl)
        cases h
        exact k_r10
      · rw [if_neg hc9] at h
        cases h
        exact k_r7
    · rw [if_neg hc4] at h
      by_cases hc12 : (r1.2.1 4 0 6) = (62 : Int32)
      · rw [if_pos hc12] at h
        obtain ⟨r13, h14, h⟩ := am_bd h
        have k_r13 : am_kp [(4, 5), (4, 6), (4, 7), (4, 8), (4, 10), (5, 3), (5, 4), (29, 0)] [] 0 m r13 := am_kp.tr k_r1 (am_kp.mono (kp_X4_goTo ((r1.2.1 4 0 5) + (1 : Int32)) r1.2 r13 h14) rfl)
        obtain ⟨r15, h16, h⟩ := am_bd h
        have k_r15 : am_kp [(4, 5), (4, 6), (4, 7), (4, 8), (4, 10), (5, 3), (5, 4), (29, 0)] [] 0 m r15.2 := am_kp.tr k_r13 (hrc 4 _ _ _ h16)
        by_cases hc17 : r15.1 ≠ 0
        · rw [if_pos hc17] at h
          obtain ⟨r18, h19, h⟩ := am_bd h
          have k_r18 : am_kp [(4, 5), (4, 6), (4, 7), (4, 8), (4, 10), (5, 3), (5, 4), (29, 0)] [] 0 m r18 := am_kp.tr k_r15 (am_kp.mono (kp_X5_put 0 (r1.2.1 4 0 6) 0 r15.2 r18 h19) rfl)
          cases h
          exact k_r18
        · rw [if_neg hc17] at h
          cases h
          exact k_r15
      · rw [if_neg hc12] at h
        by_cases hc20 : (r1.2.1 4 0 6) = (61 : Int32)
        · rw [if_pos hc20] at h
          obtain ⟨r21, h22, h⟩ := am_bd h
          have k_r21 : am_kp [(4, 5), (4, 6), (4, 7), (4, 8), (4, 10), (5, 3), (5, 4), (29, 0)] [] 0 m r21 := am_kp.tr k_r1 (am_kp.mono (kp_X4_goTo ((r1.2.1 4 0 5) + (1 : Int32)) r1.2 r21 h22) rfl)
          obtain ⟨r23, h24, h⟩ := am_bd h
          have k_r23 : am_kp [(4, 5), (4, 6), (4, 7), (4, 8), (4, 10), (5, 3), (5, 4), (29, 0)] [] 0 m r23.2 := am_kp.tr k_r21 (hrc 4 _ _ _ h24)
          by_cases hc25 : r23.1 ≠ 0
          · rw [if_pos hc25] at h
            obtain ⟨r26, h27, h⟩ := am_bd h
            have k_r26 : am_kp [(4, 5), (4, 6), (4, 7), (4, 8), (4, 10), (5, 3), (5, 4), (29, 0)] [] 0 m r26 := am_kp.tr k_r23 (am_kp.mono (kp_X5_put 0 (r1.2.1 4 0 6) 0 r23.2 r26 h27) rfl)
            cases h
            exact k_r26
          · rw [if_neg hc25] at h
            cases h
            exact k_r23
        · rw [if_neg hc20] at h
          obtain ⟨r28, h29, h⟩ := am_bd h
          have k_r28 : am_kp [(4, 5), (4, 6), (4, 7), (4, 8), (4, 10), (5, 3), (5, 4), (29, 0)] [] 0 m r28.2 := am_kp.tr k_r1 (am_kp.mono (kp_X4_failed  r1.2 r28 h29) rfl)
          obtain ⟨hz30, h⟩ := am_gd_some h
          cases h
          exact k_r28
  · rw [if_neg hc3] at h
    cases h
    exact k_r1
-- X4_readPlain
set_option maxRecDepth 100000 in
theorem kl_X4_readPlain_4 (rc : am_rc) (hrc : ∀ w a m t, rc w a m = some t → am_kp [(4, 5), (4, 6), (4, 7), (4, 8), (4, 10), (5, 3), (5, 4), (29, 0)] [] 0 m t.2) {n : Nat} {x1 : Int32} {x2 : Int32} {x3 : Int32} {m : am_m} {t : Int32 × am_m} (h : lp_X4_readPlain_4 rc n x1 x2 x3 m = some t) : am_kp [(4, 5), (4, 6), (4, 7), (4, 8), (4, 10), (5, 3), (5, 4), (29, 0)] [] 0 m t.2 := by
  induction n generalizing x2 x3 m with
  | zero => cases h
  | succ n ih =>
    unfold lp_X4_readPlain_4 at h
    by_cases hc1 : (401 : Int32) ≤ x3
    · rw [if_pos hc1] at h
      cases h
      exact am_kp.rf
    · rw [if_neg hc1] at h
      by_cases hc2 : (m.1 4 0 6) ≠ (261 : Int32)
      · rw [if_pos hc2] at h
        cases h
        exact am_kp.rf
      · rw [if_neg hc2] at h
        obtain ⟨r4, h5, h⟩ := am_bd h
        have k_r4 : am_kp [(4, 5), (4, 6), (4, 7), (4, 8), (4, 10), (5, 3), (5, 4), (29, 0)] [] 0 m r4 := am_kp.tr am_kp.rf (am_kp.mono (kp_X4_goTo ((m.1 4 0 5) + (1 : Int32)) m r4 h5) rfl)
        exact am_kp.tr k_r4 (ih h)
set_option maxRecDepth 100000 in
theorem kp_X4_readPlain (rc : am_rc) (hrc : ∀ w a m t, rc w a m = some t → am_kp [(4, 5), (4, 6), (4, 7), (4, 8), (4, 10), (5, 3), (5, 4), (29, 0)] [] 0 m t.2) (a1 : Int32) (m : am_m) (t : Int32 × am_m) (h : fn_X4_readPlain rc a1 m = some t) : am_kp [(4, 5), (4, 6), (4, 7), (4, 8), (4, 10), (5, 3), (5, 4), (29, 0)] [] 0 m t.2 := by
  unfold fn_X4_readPlain at h
  obtain ⟨q6, h7, h⟩ := am_bd h
  have k_q6 : am_kp [(4, 5), (4, 6), (4, 7), (4, 8), (4, 10), (5, 3), (5, 4), (29, 0)] [] 0 m q6.2 := am_kp.tr am_kp.rf (kl_X4_readPlain_4 rc hrc (h := h7))
  by_cases hc8 : (q6.2.1 4 0 6) ≠ (40 : Int32)
  · rw [if_pos hc8] at h
    obtain ⟨r9, h10, h⟩ := am_bd h
    have k_r9 : am_kp [(4, 5), (4, 6), (4, 7), (4, 8), (4, 10), (5, 3), (5, 4), (29, 0)] [] 0 m r9.2 := am_kp.tr k_q6 (hrc 3 _ _ _ h10)
    by_cases hc11 : r9.1 ≠ 0
    · rw [if_pos hc11] at h
      by_cases hc12 : q6.1 = 0
      · rw [if_pos hc12] at h
        cases h
        exact k_r9
      · rw [if_neg hc12] at h
        obtain ⟨r13, h14, h⟩ := am_bd h
        have k_r13 : am_kp [(4, 5), (4, 6), (4, 7), (4, 8), (4, 10), (5, 3), (5, 4), (29, 0)] [] 0 m r13 := am_kp.tr k_r9 (am_kp.mono (kp_X5_put 0 261 0 r9.2 r13 h14) rfl)
        cases h
        exact k_r13
    · rw [if_neg hc11] at h
      cases h
      exact k_r9
  · rw [if_neg hc8] at h
    by_cases hc15 : a1 < (8 : Int32)
    · rw [if_pos hc15] at h
      obtain ⟨r16, h17, h⟩ := am_bd h
      have k_r16 : am_kp [(4, 5), (4, 6), (4, 7), (4, 8), (4, 10), (5, 3), (5, 4), (29, 0)] [] 0 m r16 := am_kp.tr k_q6 (am_kp.mono (kp_X4_goTo ((q6.2.1 4 0 5) + (1 : Int32)) q6.2 r16 h17) rfl)
      obtain ⟨r18, h19, h⟩ := am_bd h
      have k_r18 : am_kp [(4, 5), (4, 6), (4, 7), (4, 8), (4, 10), (5, 3), (5, 4), (29, 0)] [] 0 m r18.2 := am_kp.tr k_r16 (hrc 0 _ _ _ h19)
      by_cases hc20 : r18.1 = 0
      · rw [if_pos hc20] at h
        cases h
        exact k_r18
      · rw [if_neg hc20] at h
        obtain ⟨r21, h22, h⟩ := am_bd h
        have k_r21 : am_kp [(4, 5), (4, 6), (4, 7), (4, 8), (4, 10), (5, 3), (5, 4), (29, 0)] [] 0 m r21.2 := am_kp.tr k_r18 (am_kp.mono (kp_X4_took 41 r18.2 r21 h22) rfl)
        by_cases hc23 : r21.1 ≠ 0
        · rw [if_pos hc23] at h
          by_cases hc24 : q6.1 = 0
          · rw [if_pos hc24] at h
            cases h
            exact k_r21
          · rw [if_neg hc24] at h
            obtain ⟨r25, h26, h⟩ := am_bd h
            have k_r25 : am_kp [(4, 5), (4, 6), (4, 7), (4, 8), (4, 10), (5, 3), (5, 4), (29, 0)] [] 0 m r25 := am_kp.tr k_r21 (am_kp.mono (kp_X5_put 0 261 0 r21.2 r25 h26) rfl)
            cases h
            exact k_r25
        · rw [if_neg hc23] at h
          cases h
          exact k_r21
    · rw [if_neg hc15] at h
      obtain ⟨r27, h28, h⟩ := am_bd h
      have k_r27 : am_kp [(4, 5), (4, 6), (4, 7), (4, 8), (4, 10), (5, 3), (5, 4), (29, 0)] [] 0 m r27.2 := am_kp.tr k_q6 (am_kp.mono (kp_X4_failed  q6.2 r27 h28) rfl)
      obtain ⟨hz29, h⟩ := am_gd_some h
      cases h
      exact k_r27
-- X5_skipToHere
set_option maxRecDepth 100000 in
theorem kp_X5_skipToHere (a0 : Nat) (a1 : Int32) (a2 : Int32) (m : am_m) (t : am_m) (h : fn_X5_skipToHere a0 a1 a2 m = some t) : am_kp [(29, 0)] [] 0 m t := by
  unfold fn_X5_skipToHere at h
  by_cases hc1 : a1 < 0
  · rw [if_pos hc1] at h
    cases h
    exact am_kp.rf
  · rw [if_neg hc1] at h
    by_cases hc2 : (m.1 5 a0 3) ≤ a1
    · rw [if_pos hc2] at h
      cases h
      exact am_kp.rf
    · rw [if_neg hc2] at h
      obtain ⟨hg3, h⟩ := am_ck_some h
      cases h
      exact (am_kp.si am_kp.rf rfl)
-- X4_readBoth
set_option maxRecDepth 100000 in
theorem kl_X4_readBoth_12 (rc : am_rc) (hrc : ∀ w a m t, rc w a m = some t → am_kp [(4, 5), (4, 6), (4, 7), (4, 8), (4, 10), (5, 3), (5, 4), (29, 0)] [] 0 m t.2) {n : Nat} {x1 : Int32} {x2 : Int32} {m : am_m} {t : Sum (am_m) (Int32 × am_m)} (h : lp_X4_readBoth_12 rc n x1 x2 m = some t) : (∀ t', t = .inl t' → am_kp [(4, 5), (4, 6), (4, 7), (4, 8), (4, 10), (5, 3), (5, 4), (29, 0)] [] 0 m t') ∧ (∀ t', t = .inr t' → am_kp [(4, 5), (4, 6), (4, 7), (4, 8), (4, 10), (5, 3), (5, 4), (29, 0)] [] 0 m t'.2) := by
  induction n generalizing x2 m with
  | zero => cases h
  | succ n ih =>
    unfold lp_X4_readBoth_12 at h
    by_cases hc4 : (401 : Int32) ≤ x2
    · rw [if_pos hc4] at h
      cases h
      exact ⟨fun _ he => (by cases he; exact am_kp.rf), fun _ he => (by cases he)⟩
    · rw [if_neg hc4] at h
      by_cases hc5 : (m.1 4 0 6) ≠ (260 : Int32)
      · rw [if_pos hc5] at h
        cases h
        exact ⟨fun _ he => (by cases he; exact am_kp.rf), fun _ he => (by cases he)⟩
      · rw [if_neg hc5] at h
        obtain ⟨r6, h7, h⟩ := am_bd h
        have k_r6 : am_kp [(4, 5), (4, 6), (4, 7), (4, 8), (4, 10), (5, 3), (5, 4), (29, 0)] [] 0 m r6 := am_kp.tr am_kp.rf (am_kp.mono (kp_X5_put 0 260 0 m r6 h7) rfl)
        obtain ⟨r8, h9, h⟩ := am_bd h
        have k_r8 : am_kp [(4, 5), (4, 6), (4, 7), (4, 8), (4, 10), (5, 3), (5, 4), (29, 0)] [] 0 m r8 := am_kp.tr k_r6 (am_kp.mono (kp_X4_goTo ((r6.1 4 0 5) + (1 : Int32)) r6 r8 h9) rfl)
        obtain ⟨r10, h11, h⟩ := am_bd h
        have k_r10 : am_kp [(4, 5), (4, 6), (4, 7), (4, 8), (4, 10), (5, 3), (5, 4), (29, 0)] [] 0 m r10.2 := am_kp.tr k_r8 (hrc 2 _ _ _ h11)
        by_cases hc12 : r10.1 ≠ 0
        · rw [if_pos hc12] at h
          obtain ⟨r13, h14, h⟩ := am_bd h
          have k_r13 : am_kp [(4, 5), (4, 6), (4, 7), (4, 8), (4, 10), (5, 3), (5, 4), (29, 0)] [] 0 m r13 := am_kp.tr k_r10 (am_kp.mono (kp_X5_skipToHere 0 (m.1 5 0 3) 260 r10.2 r13 h14) rfl)
          exact ⟨fun t' he => am_kp.tr k_r13 ((ih h).1 t' he), fun t' he => am_kp.tr k_r13 ((ih h).2 t' he)⟩
        · rw [if_neg hc12] at h
          cases h
          exact ⟨fun _ he => (by cases he), fun _ he => (by cases he; exact k_r10)⟩
set_option maxRecDepth 100000 in
theorem kp_X4_readBoth (rc : am_rc) (hrc : ∀ w a m t, rc w a m = some t → am_kp [(4, 5), (4, 6), (4, 7), (4, 8), (4, 10), (5, 3), (5, 4), (29, 0)] [] 0 m t.2) (a1 : Int32) (m : am_m) (t : Int32 × am_m) (h : fn_X4_readBoth rc a1 m = some t) : am_kp [(4, 5), (4, 6), (4, 7), (4, 8), (4, 10), (5, 3), (5, 4), (29, 0)] [] 0 m t.2 := by
  unfold fn_X4_readBoth at h
  obtain ⟨r1, h2, h⟩ := am_bd h
  have k_r1 : am_kp [(4, 5), (4, 6), (4, 7), (4, 8), (4, 10), (5, 3), (5, 4), (29, 0)] [] 0 m r1.2 := am_kp.tr am_kp.rf (hrc 2 _ _ _ h2)
  by_cases hc3 : r1.1 ≠ 0
  · rw [if_pos hc3] at h
    obtain ⟨w18, h16, h⟩ := am_bd h
    rcases w18 with q15 | rr17
    · have k_q15 : am_kp [(4, 5), (4, 6), (4, 7), (4, 8), (4, 10), (5, 3), (5, 4), (29, 0)] [] 0 m q15 := am_kp.tr k_r1 ((kl_X4_readBoth_12 rc hrc (h := h16)).1 _ rfl)
      dsimp only at h
      cases h
      exact k_q15
    · cases h
      exact am_kp.tr k_r1 ((kl_X4_readBoth_12 rc hrc (h := h16)).2 _ rfl)
  · rw [if_neg hc3] at h
    cases h
    exact k_r1
-- X4_readTest
set_option maxRecDepth 100000 in
theorem kl_X4_readTest_12 (rc : am_rc) (hrc : ∀ w a m t, rc w a m = some t → am_kp [(4, 5), (4, 6), (4, 7), (4, 8), (4, 10), (5, 3), (5, 4), (29, 0)] [] 0 m t.2) {n : Nat} {x1 : Int32} {x2 : Int32} {m : am_m} {t : Sum (am_m) (Int32 × am_m)} (h : lp_X4_readTest_12 rc n x1 x2 m = some t) : (∀ t', t = .inl t' → am_kp [(4, 5), (4, 6), (4, 7), (4, 8), (4, 10), (5, 3), (5, 4), (29, 0)] [] 0 m t') ∧ (∀ t', t = .inr t' → am_kp [(4, 5), (4, 6), (4, 7), (4, 8), (4, 10), (5, 3), (5, 4), (29, 0)] [] 0 m t'.2) := by
  induction n generalizing x2 m with
  | zero => cases h
  | succ n ih =>
    unfold lp_X4_readTest_12 at h
    by_cases hc4 : (401 : Int32) ≤ x2
    · rw [if_pos hc4] at h
      cases h
      exact ⟨fun _ he => (by cases he; exact am_kp.rf), fun _ he => (by cases he)⟩
    · rw [if_neg hc4] at h
      by_cases hc5 : (m.1 4 0 6) ≠ (259 : Int32)
      · rw [if_pos hc5] at h
        cases h
        exact ⟨fun _ he => (by cases he; exact am_kp.rf), fun _ he => (by cases he)⟩
      · rw [if_neg hc5] at h
        obtain ⟨r6, h7, h⟩ := am_bd h
        have k_r6 : am_kp [(4, 5), (4, 6), (4, 7), (4, 8), (4, 10), (5, 3), (5, 4), (29, 0)] [] 0 m r6 := am_kp.tr am_kp.rf (am_kp.mono (kp_X5_put 0 259 0 m r6 h7) rfl)
        obtain ⟨r8, h9, h⟩ := am_bd h
        have k_r8 : am_kp [(4, 5), (4, 6), (4, 7), (4, 8), (4, 10), (5, 3), (5, 4), (29, 0)] [] 0 m r8 := am_kp.tr k_r6 (am_kp.mono (kp_X4_goTo ((r6.1 4 0 5) + (1 : Int32)) r6 r8 h9) rfl)
        obtain ⟨r10, h11, h⟩ := am_bd h
        have k_r10 : am_kp [(4, 5), (4, 6), (4, 7), (4, 8), (4, 10), (5, 3), (5, 4), (29, 0)] [] 0 m r10.2 := am_kp.tr k_r8 (hrc 1 _ _ _ h11)
        by_cases hc12 : r10.1 ≠ 0
        · rw [if_pos hc12] at h
          obtain ⟨r13, h14, h⟩ := am_bd h
          have k_r13 : am_kp [(4, 5), (4, 6), (4, 7), (4, 8), (4, 10), (5, 3), (5, 4), (29, 0)] [] 0 m r13 := am_kp.tr k_r10 (am_kp.mono (kp_X5_skipToHere 0 (m.1 5 0 3) 259 r10.2 r13 h14) rfl)
          exact ⟨fun t' he => am_kp.tr k_r13 ((ih h).1 t' he), fun t' he => am_kp.tr k_r13 ((ih h).2 t' he)⟩
        · rw [if_neg hc12] at h
          cases h
          exact ⟨fun _ he => (by cases he), fun _ he => (by cases he; exact k_r10)⟩
set_option maxRecDepth 100000 in
theorem kp_X4_readTest (rc : am_rc) (hrc : ∀ w a m t, rc w a m = some t → am_kp [(4, 5), (4, 6), (4, 7), (4, 8), (4, 10), (5, 3), (5, 4), (29, 0)] [] 0 m t.2) (a1 : Int32) (m : am_m) (t : Int32 × am_m) (h : fn_X4_readTest rc a1 m = some t) : am_kp [(4, 5), (4, 6), (4, 7), (4, 8), (4, 10), (5, 3), (5, 4), (29, 0)] [] 0 m t.2 := by
  unfold fn_X4_readTest at h
  obtain ⟨r1, h2, h⟩ := am_bd h
  have k_r1 : am_kp [(4, 5), (4, 6), (4, 7), (4, 8), (4, 10), (5, 3), (5, 4), (29, 0)] [] 0 m r1.2 := am_kp.tr am_kp.rf (hrc 1 _ _ _ h2)
  by_cases hc3 : r1.1 ≠ 0
  · rw [if_pos hc3] at h
    obtain ⟨w18, h16, h⟩ := am_bd h
    rcases w18 with q15 | rr17
    · have k_q15 : am_kp [(4, 5), (4, 6), (4, 7), (4, 8), (4, 10), (5, 3), (5, 4), (29, 0)] [] 0 m q15 := am_kp.tr k_r1 ((kl_X4_readTest_12 rc hrc (h := h16)).1 _ rfl)
      dsimp only at h
      cases h
      exact k_q15
    · cases h
      exact am_kp.tr k_r1 ((kl_X4_readTest_12 rc hrc (h := h16)).2 _ rfl)
  · rw [if_neg hc3] at h
    cases h
    exact k_r1
-- am_rd
theorem am_rd_kp : ∀ (n w : Nat) (a : Int32) (m : am_m) (t : Int32 × am_m), am_rd n w a m = some t → am_kp [(4, 5), (4, 6), (4, 7), (4, 8), (4, 10), (5, 3), (5, 4), (29, 0)] [] 0 m t.2
  | 0, _, _, _, _, h => by cases h
  | n + 1, w, a, m, t, h => by
    match w, h with
    | 0, h => exact kp_X4_readTest (am_rd n) (am_rd_kp n) a m t h
    | 1, h => exact kp_X4_readBoth (am_rd n) (am_rd_kp n) a m t h
    | 2, h => exact kp_X4_readPlain (am_rd n) (am_rd_kp n) a m t h
    | 3, h => exact kp_X4_readCompared (am_rd n) (am_rd_kp n) a m t h
    | 4, h => exact kp_X4_readSum (am_rd n) (am_rd_kp n) a m t h
    | 5, h => exact kp_X4_readTerm (am_rd n) (am_rd_kp n) a m t h
    | 6, h => exact kp_X4_readPart (am_rd n) (am_rd_kp n) a m t h
    | w + 7, h => cases h
-- X5_open
set_option maxRecDepth 100000 in
theorem kl_X5_open_23 {n : Nat} {x0 : Nat} {x1 : Int32} {x2 : Int32} {x3 : Int32} {m : am_m} {t : am_m} (h : lp_X5_open_23 n x0 x1 x2 x3 m = some t) : am_kp [(5, 2), (28, 0)] [] 0 m t := by
  induction n generalizing x3 m with
  | zero => cases h
  | succ n ih =>
    unfold lp_X5_open_23 at h
    by_cases hc2 : (6 : Int32) ≤ x3
    · rw [if_pos hc2] at h
      cases h
      exact am_kp.rf
    · rw [if_neg hc2] at h
      obtain ⟨hg3, h⟩ := am_ck_some h
      exact am_kp.tr (am_kp.si am_kp.rf rfl) (ih h)
set_option maxRecDepth 100000 in
theorem kp_X5_open (a0 : Nat) (a1 : Int32) (m : am_m) (t : am_m) (h : fn_X5_open a0 a1 m = some t) : am_kp [(5, 2), (28, 0)] [] 0 m t := by
  unfold fn_X5_open at h
  by_cases hc1 : (((m.1 5 a0 2) * (6 : Int32)) + (6 : Int32)) ≤ (Int32.ofNat (m.2.2.2.2.2.2.1 28 a0))
  · rw [if_pos hc1] at h
    obtain ⟨q4, h5, h⟩ := am_bd h
    have k_q4 : am_kp [(5, 2), (28, 0)] [] 0 m q4 := am_kp.tr am_kp.rf (kl_X5_open_23 (h := h5))
    obtain ⟨hg6, h⟩ := am_ck_some h
    obtain ⟨hg7, h⟩ := am_ck_some h
    cases h
    exact (am_kp.si (am_kp.si (am_kp.si k_q4 rfl) rfl) rfl)
  · rw [if_neg hc1] at h
    cases h
    exact am_kp.rf
-- X4_readClause
set_option maxRecDepth 100000 in
theorem kl_X4_readClause_42 {n : Nat} {x1 : Int32} {x2 : Int32} {m : am_m} {t : Sum (am_m) (Int32 × am_m)} (h : lp_X4_readClause_42 n x1 x2 m = some t) : (∀ t', t = .inl t' → am_kp [(4, 5), (4, 6), (4, 7), (4, 8), (4, 10), (5, 2), (5, 3), (5, 4), (28, 0), (29, 0)] [] 0 m t') ∧ (∀ t', t = .inr t' → am_kp [(4, 5), (4, 6), (4, 7), (4, 8), (4, 10), (5, 2), (5, 3), (5, 4), (28, 0), (29, 0)] [] 0 m t'.2) := by
  induction n generalizing x2 m with
  | zero => cases h
  | succ n ih =>
    unfold lp_X4_readClause_42 at h
    by_cases hc8 : x1 ≤ x2
    · rw [if_pos hc8] at h
      cases h
      exact ⟨fun _ he => (by cases he; exact am_kp.rf), fun _ he => (by cases he)⟩
    · rw [if_neg hc8] at h
      by_cases hc9 : x2 ≤ 0
      · rw [if_pos hc9] at h
        obtain ⟨r10, h11, h⟩ := am_bd h
        have k_r10 : am_kp [(4, 5), (4, 6), (4, 7), (4, 8), (4, 10), (5, 2), (5, 3), (5, 4), (28, 0), (29, 0)] [] 0 m r10 := am_kp.tr am_kp.rf (am_kp.mono (kp_X5_mark 0 ((3 : Int32) + x2) (m.1 5 0 3) m r10 h11) rfl)
        obtain ⟨r12, h13, h⟩ := am_bd h
        have k_r12 : am_kp [(4, 5), (4, 6), (4, 7), (4, 8), (4, 10), (5, 2), (5, 3), (5, 4), (28, 0), (29, 0)] [] 0 m r12.2 := am_kp.tr k_r10 (am_kp.mono (am_rd_kp 40 4 _ _ _ h13) rfl)
        by_cases hc14 : r12.1 ≠ 0
        · rw [if_pos hc14] at h
          obtain ⟨r15, h16, h⟩ := am_bd h
          have k_r15 : am_kp [(4, 5), (4, 6), (4, 7), (4, 8), (4, 10), (5, 2), (5, 3), (5, 4), (28, 0), (29, 0)] [] 0 m r15 := am_kp.tr k_r12 (am_kp.mono (kp_X5_put 0 257 0 r12.2 r15 h16) rfl)
          exact ⟨fun t' he => am_kp.tr k_r15 ((ih h).1 t' he), fun t' he => am_kp.tr k_r15 ((ih h).2 t' he)⟩
        · rw [if_neg hc14] at h
          cases h
          exact ⟨fun _ he => (by cases he), fun _ he => (by cases he; exact k_r12)⟩
      · rw [if_neg hc9] at h
        obtain ⟨r18, h19, h⟩ := am_bd h
        have k_r18 : am_kp [(4, 5), (4, 6), (4, 7), (4, 8), (4, 10), (5, 2), (5, 3), (5, 4), (28, 0), (29, 0)] [] 0 m r18.2 := am_kp.tr am_kp.rf (am_kp.mono (kp_X4_took (if x2 ≠ (1 : Int32) then (265 : Int32) else (264 : Int32)) m r18 h19) rfl)
        by_cases hc20 : r18.1 ≠ 0
        · rw [if_pos hc20] at h
          obtain ⟨r21, h22, h⟩ := am_bd h
          have k_r21 : am_kp [(4, 5), (4, 6), (4, 7), (4, 8), (4, 10), (5, 2), (5, 3), (5, 4), (28, 0), (29, 0)] [] 0 m r21 := am_kp.tr k_r18 (am_kp.mono (kp_X5_mark 0 ((3 : Int32) + x2) (r18.2.1 5 0 3) r18.2 r21 h22) rfl)
          obtain ⟨r23, h24, h⟩ := am_bd h
          have k_r23 : am_kp [(4, 5), (4, 6), (4, 7), (4, 8), (4, 10), (5, 2), (5, 3), (5, 4), (28, 0), (29, 0)] [] 0 m r23.2 := am_kp.tr k_r21 (am_kp.mono (am_rd_kp 40 4 _ _ _ h24) rfl)
          by_cases hc25 : r23.1 ≠ 0
          · rw [if_pos hc25] at h
            obtain ⟨r26, h27, h⟩ := am_bd h
            have k_r26 : am_kp [(4, 5), (4, 6), (4, 7), (4, 8), (4, 10), (5, 2), (5, 3), (5, 4), (28, 0), (29, 0)] [] 0 m r26 := am_kp.tr k_r23 (am_kp.mono (kp_X5_put 0 257 0 r23.2 r26 h27) rfl)
            exact ⟨fun t' he => am_kp.tr k_r26 ((ih h).1 t' he), fun t' he => am_kp.tr k_r26 ((ih h).2 t' he)⟩
          · rw [if_neg hc25] at h
            cases h
            exact ⟨fun _ he => (by cases he), fun _ he => (by cases he; exact k_r23)⟩
        · rw [if_neg hc20] at h
          cases h
          exact ⟨fun _ he => (by cases he), fun _ he => (by cases he; exact k_r18)⟩
set_option maxRecDepth 100000 in
theorem kp_X4_readClause  (m : am_m) (t : Int32 × am_m) (h : fn_X4_readClause  m = some t) : am_kp [(4, 5), (4, 6), (4, 7), (4, 8), (4, 10), (5, 2), (5, 3), (5, 4), (28, 0), (29, 0)] [] 0 m t.2 := by
  unfold fn_X4_readClause at h
  obtain ⟨r1, h2, h⟩ := am_bd h
  by_cases hc3 : r1 ≠ (-1 : Int32)
  · rw [if_pos hc3] at h
    obtain ⟨r4, h5, h⟩ := am_bd h
    have k_r4 : am_kp [(4, 5), (4, 6), (4, 7), (4, 8), (4, 10), (5, 2), (5, 3), (5, 4), (28, 0), (29, 0)] [] 0 m r4 := am_kp.tr am_kp.rf (am_kp.mono (kp_X5_open 0 (m.1 4 0 6) m r4 h5) rfl)
    obtain ⟨r6, h7, h⟩ := am_bd h
    have k_r6 : am_kp [(4, 5), (4, 6), (4, 7), (4, 8), (4, 10), (5, 2), (5, 3), (5, 4), (28, 0), (29, 0)] [] 0 m r6 := am_kp.tr k_r4 (am_kp.mono (kp_X4_goTo ((r4.1 4 0 5) + (1 : Int32)) r4 r6 h7) rfl)
    obtain ⟨w66, h29, h⟩ := am_bd h
    rcases w66 with q28 | rr65
    · have k_q28 : am_kp [(4, 5), (4, 6), (4, 7), (4, 8), (4, 10), (5, 2), (5, 3), (5, 4), (28, 0), (29, 0)] [] 0 m q28 := am_kp.tr k_r6 ((kl_X4_readClause_42 (h := h29)).1 _ rfl)
      dsimp only at h
      by_cases hc30 : (q28.1 4 0 6) ≠ (263 : Int32)
      · rw [if_pos hc30] at h
        by_cases hc31 : (q28.1 4 0 6) ≠ (262 : Int32)
        · rw [if_pos hc31] at h
          cases h
          exact k_q28
        · rw [if_neg hc31] at h
          obtain ⟨r32, h33, h⟩ := am_bd h
          have k_r32 : am_kp [(4, 5), (4, 6), (4, 7), (4, 8), (4, 10), (5, 2), (5, 3), (5, 4), (28, 0), (29, 0)] [] 0 m r32 := am_kp.tr k_q28 (am_kp.mono (kp_X4_goTo ((q28.1 4 0 5) + (1 : Int32)) q28 r32 h33) rfl)
          obtain ⟨r34, h35, h⟩ := am_bd h
          have k_r34 : am_kp [(4, 5), (4, 6), (4, 7), (4, 8), (4, 10), (5, 2), (5, 3), (5, 4), (28, 0), (29, 0)] [] 0 m r34 := am_kp.tr k_r32 (am_kp.mono (kp_X5_mark 0 2 (r32.1 5 0 3) r32 r34 h35) rfl)
          obtain ⟨r36, h37, h⟩ := am_bd h
          have k_r36 : am_kp [(4, 5), (4, 6), (4, 7), (4, 8), (4, 10), (5, 2), (5, 3), (5, 4), (28, 0), (29, 0)] [] 0 m r36.2 := am_kp.tr k_r34 (am_kp.mono (am_rd_kp 40 0 _ _ _ h37) rfl)
          by_cases hc38 : r36.1 ≠ 0
          · rw [if_pos hc38] at h
            obtain ⟨r39, h40, h⟩ := am_bd h
            have k_r39 : am_kp [(4, 5), (4, 6), (4, 7), (4, 8), (4, 10), (5, 2), (5, 3), (5, 4), (28, 0), (29, 0)] [] 0 m r39 := am_kp.tr k_r36 (am_kp.mono (kp_X5_put 0 257 0 r36.2 r39 h40) rfl)
            cases h
            exact k_r39
          · rw [if_neg hc38] at h
            cases h
            exact k_r36
      · rw [if_neg hc30] at h
        by_cases hc41 : (q28.1 4 0 9) = 0
        · rw [if_pos hc41] at h
          by_cases hc42 : (q28.1 4 0 6) ≠ (262 : Int32)
          · rw [if_pos hc42] at h
            cases h
            exact k_q28
          · rw [if_neg hc42] at h
            obtain ⟨r43, h44, h⟩ := am_bd h
            have k_r43 : am_kp [(4, 5), (4, 6), (4, 7), (4, 8), (4, 10), (5, 2), (5, 3), (5, 4), (28, 0), (29, 0)] [] 0 m r43 := am_kp.tr k_q28 (am_kp.mono (kp_X4_goTo ((q28.1 4 0 5) + (1 : Int32)) q28 r43 h44) rfl)
            obtain ⟨r45, h46, h⟩ := am_bd h
            have k_r45 : am_kp [(4, 5), (4, 6), (4, 7), (4, 8), (4, 10), (5, 2), (5, 3), (5, 4), (28, 0), (29, 0)] [] 0 m r45 := am_kp.tr k_r43 (am_kp.mono (kp_X5_mark 0 2 (r43.1 5 0 3) r43 r45 h46) rfl)
            obtain ⟨r47, h48, h⟩ := am_bd h
            have k_r47 : am_kp [(4, 5), (4, 6), (4, 7), (4, 8), (4, 10), (5, 2), (5, 3), (5, 4), (28, 0), (29, 0)] [] 0 m r47.2 := am_kp.tr k_r45 (am_kp.mono (am_rd_kp 40 0 _ _ _ h48) rfl)
            by_cases hc49 : r47.1 ≠ 0
            · rw [if_pos hc49] at h
              obtain ⟨r50, h51, h⟩ := am_bd h
              have k_r50 : am_kp [(4, 5), (4, 6), (4, 7), (4, 8), (4, 10), (5, 2), (5, 3), (5, 4), (28, 0), (29, 0)] [] 0 m r50 := am_kp.tr k_r47 (am_kp.mono (kp_X5_put 0 257 0 r47.2 r50 h51) rfl)
              cases h
              exact k_r50
            · rw [if_neg hc49] at h
              cases h
              exact k_r47
        · rw [if_neg hc41] at h
          obtain ⟨r52, h53, h⟩ := am_bd h
          have k_r52 : am_kp [(4, 5), (4, 6), (4, 7), (4, 8), (4, 10), (5, 2), (5, 3), (5, 4), (28, 0), (29, 0)] [] 0 m r52.2 := am_kp.tr k_q28 (am_kp.mono (kp_X4_readTimes  q28 r52 h53) rfl)
          by_cases hc54 : r52.1 ≠ 0
          · rw [if_pos hc54] at h
            by_cases hc55 : (r52.2.1 4 0 6) ≠ (262 : Int32)
            · rw [if_pos hc55] at h
              cases h
              exact k_r52
            · rw [if_neg hc55] at h
              obtain ⟨r56, h57, h⟩ := am_bd h
              have k_r56 : am_kp [(4, 5), (4, 6), (4, 7), (4, 8), (4, 10), (5, 2), (5, 3), (5, 4), (28, 0), (29, 0)] [] 0 m r56 := am_kp.tr k_r52 (am_kp.mono (kp_X4_goTo ((r52.2.1 4 0 5) + (1 : Int32)) r52.2 r56 h57) rfl)
              obtain ⟨r58, h59, h⟩ := am_bd h
              have k_r58 : am_kp [(4, 5), (4, 6), (4, 7), (4, 8), (4, 10), (5, 2), (5, 3), (5, 4), (28, 0), (29, 0)] [] 0 m r58 := am_kp.tr k_r56 (am_kp.mono (kp_X5_mark 0 2 (r56.1 5 0 3) r56 r58 h59) rfl)
              obtain ⟨r60, h61, h⟩ := am_bd h
              have k_r60 : am_kp [(4, 5), (4, 6), (4, 7), (4, 8), (4, 10), (5, 2), (5, 3), (5, 4), (28, 0), (29, 0)] [] 0 m r60.2 := am_kp.tr k_r58 (am_kp.mono (am_rd_kp 40 0 _ _ _ h61) rfl)
              by_cases hc62 : r60.1 ≠ 0
              · rw [if_pos hc62] at h
                obtain ⟨r63, h64, h⟩ := am_bd h
                have k_r63 : am_kp [(4, 5), (4, 6), (4, 7), (4, 8), (4, 10), (5, 2), (5, 3), (5, 4), (28, 0), (29, 0)] [] 0 m r63 := am_kp.tr k_r60 (am_kp.mono (kp_X5_put 0 257 0 r60.2 r63 h64) rfl)
                cases h
                exact k_r63
              · rw [if_neg hc62] at h
                cases h
                exact k_r60
          · rw [if_neg hc54] at h
            cases h
            exact k_r52
    · cases h
      exact am_kp.tr k_r6 ((kl_X4_readClause_42 (h := h29)).2 _ rfl)
  · rw [if_neg hc3] at h
    obtain ⟨r67, h68, h⟩ := am_bd h
    have k_r67 : am_kp [(4, 5), (4, 6), (4, 7), (4, 8), (4, 10), (5, 2), (5, 3), (5, 4), (28, 0), (29, 0)] [] 0 m r67.2 := am_kp.tr am_kp.rf (am_kp.mono (kp_X4_failed  m r67 h68) rfl)
    obtain ⟨hz69, h⟩ := am_gd_some h
    cases h
    exact k_r67
