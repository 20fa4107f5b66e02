/-! what was kept aside (Past 1) stays as it is while ORDERS are run; by program (wip/whole/gen/sm3.py) -/
def sm_3 (m m' : am_m) : Prop := m'.1 3 1 = m.1 3 1 ∧ m'.1 24 1 = m.1 24 1
section SM3
variable {m m1 m2 : am_m}
theorem sm_3.rf : sm_3 m m := ⟨rfl, rfl⟩
theorem sm_3.tr (h : sm_3 m m1) (g : sm_3 m1 m2) : sm_3 m m2 := ⟨g.1.trans h.1, g.2.trans h.2⟩
theorem sm_3.si {c n k : Nat} {v : Int32} (h : sm_3 m m1) (hw : ((Nat.beq c 3 || Nat.beq c 24) && Nat.beq n 1) = false) : sm_3 m (am_si m1 c n k v) := by
  have e : ∀ d, (d = 3 ∨ d = 24) → (am_si m1 c n k v).1 d 1 = m1.1 d 1 := fun d hd => funext fun j => by
    rw [rd_si]
    refine if_neg (fun z => ?_)
    obtain ⟨rfl, rfl, -⟩ := z
    rcases hd with rfl | rfl <;> exact absurd hw (by decide)
  exact ⟨(e 3 (Or.inl rfl)).trans h.1, (e 24 (Or.inr rfl)).trans h.2⟩
theorem sm_3.sc {c0 n0 c n sp dp j : Nat} (h : sm_3 m m1) (hw : ((Nat.beq c 3 || Nat.beq c 24) && Nat.beq n 1) = false) : sm_3 m (am_sc m1 c0 n0 c n sp dp j) := by
  have e : ∀ d, (d = 3 ∨ d = 24) → (am_sc m1 c0 n0 c n sp dp j).1 d 1 = m1.1 d 1 := fun d hd => funext fun i => by
    rw [rd_sc]
    refine if_neg (fun z => ?_)
    obtain ⟨rfl, rfl⟩ := z
    rcases hd with rfl | rfl <;> exact absurd hw (by decide)
  exact ⟨(e 3 (Or.inl rfl)).trans h.1, (e 24 (Or.inr rfl)).trans h.2⟩
theorem sm_3.kp {WI WL : List (Nat × Nat)} {E : Nat} (k : am_kp WI WL E m m1) (hw : (WI.all (fun q => !Nat.beq q.1 3) && !am_hit WI 24 0) = true) : sm_3 m m1 := by
  rw [Bool.and_eq_true] at hw
  exact ⟨by rw [k.obj 3 hw.1], by rw [k.row 24 (by rw [hw.2]; rfl)]⟩
end SM3
set_option maxRecDepth 100000 in
theorem l3_X3_forgetOldest_3 {n : Nat} {x1 : Int32} {m : am_m} {t : am_m} (h : lp_X3_forgetOldest_3 n 0 x1 m = some t) : sm_3 m t := by
  induction n generalizing x1 m with
  | zero => cases h
  | succ n ih =>
    unfold lp_X3_forgetOldest_3 at h
    by_cases hc1 : (208 : Int32) ≤ x1
    · rw [if_pos hc1] at h
      cases h
      exact sm_3.rf
    · rw [if_neg hc1] at h
      obtain ⟨hg2, h⟩ := am_ck_some h
      obtain ⟨hg3, h⟩ := am_ck_some h
      exact sm_3.tr (sm_3.si sm_3.rf rfl) (ih h)
set_option maxRecDepth 100000 in
theorem k3_X3_forgetOldest (m : am_m) (t : am_m) (h : fn_X3_forgetOldest 0 m = some t) : sm_3 m t := by
  unfold fn_X3_forgetOldest at h
  obtain ⟨q4, h5, h⟩ := am_bd h
  have k_q4 : sm_3 m q4 := sm_3.tr sm_3.rf (l3_X3_forgetOldest_3 (h := h5))
  cases h
  exact (sm_3.si k_q4 rfl)
set_option maxRecDepth 100000 in
theorem k3_X3_keep (a1 : Int32) (a2 : Int32) (a3 : Int32) (a4 : Nat) (m : am_m) (t : am_m) (h : fn_X3_keep 0 a1 a2 a3 a4 m = some t) : sm_3 m t := by
  unfold fn_X3_keep at h
  obtain ⟨q4, h5, h⟩ := am_bd h
  have k_q4 : sm_3 m q4 := by
    have h := h5
    by_cases hc1 : (m.1 3 0 1) < (16 : Int32)
    · rw [if_pos hc1] at h
      cases h
      exact sm_3.rf
    · rw [if_neg hc1] at h
      obtain ⟨r2, h3, h⟩ := am_bd h
      have k_r2 : sm_3 m r2 := sm_3.tr sm_3.rf (k3_X3_forgetOldest m r2 h3)
      cases h
      exact k_r2
  obtain ⟨hg6, h⟩ := am_ck_some h
  obtain ⟨hg7, h⟩ := am_ck_some h
  obtain ⟨hg8, h⟩ := am_ck_some h
  obtain ⟨r9, h10, h⟩ := am_bd h
  obtain ⟨hg11, h⟩ := am_ck_some h
  obtain ⟨r12, h13, h⟩ := am_bd h
  obtain ⟨hg14, h⟩ := am_ck_some h
  obtain ⟨hg15, h⟩ := am_ck_some h
  obtain ⟨hz16, h⟩ := am_gd_some h
  cases h
  exact (sm_3.si (sm_3.sc (sm_3.si (sm_3.si (sm_3.si (sm_3.si (sm_3.si (sm_3.si k_q4 rfl) rfl) rfl) rfl) rfl) rfl) rfl) rfl)
set_option maxRecDepth 100000 in
theorem k3_X9_doHarm (a1 : Int32) (a2 : Int32) (a3 : Int32) (m : am_m) (t : Int32 × am_m) (h : fn_X9_doHarm a1 a2 a3 m = some t) : sm_3 m t.2 := by
  unfold fn_X9_doHarm at h
  by_cases hc1 : a3 < (1 : Int32)
  · rw [if_pos hc1] at h
    cases h
    exact sm_3.rf
  · rw [if_neg hc1] at h
    by_cases hc2 : (9 : Int32) < a3
    · rw [if_pos hc2] at h
      cases h
      exact sm_3.rf
    · rw [if_neg hc2] at h
      by_cases hc3 : a1 ≠ a2
      · rw [if_pos hc3] at h
        obtain ⟨r4, h5, h⟩ := am_bd h
        by_cases hc6 : r4 ≠ 0
        · rw [if_pos hc6] at h
          obtain ⟨r7, h8, h⟩ := am_bd h
          by_cases hc9 : r7 ≠ a3
          · rw [if_pos hc9] at h
            obtain ⟨r10, h11, h⟩ := am_bd h
            have k_r10 : sm_3 m r10 := sm_3.tr sm_3.rf (k3_X3_keep 0 a1 a2 0 m r10 h11)
            obtain ⟨r12, h13, h⟩ := am_bd h
            have k_r12 : sm_3 m r12 := sm_3.tr k_r10 (sm_3.kp (kp_X8_setHarm 0 a1 a2 a3 (r10.1 39 0 0) r10 r12 h13) rfl)
            cases h
            exact k_r12
          · rw [if_neg hc9] at h
            cases h
            exact sm_3.rf
        · rw [if_neg hc6] at h
          cases h
          exact sm_3.rf
      · rw [if_neg hc3] at h
        cases h
        exact sm_3.rf
set_option maxRecDepth 100000 in
theorem k3_X9_doFeast (a1 : Int32) (m : am_m) (t : Int32 × am_m) (h : fn_X9_doFeast a1 m = some t) : sm_3 m t.2 := by
  unfold fn_X9_doFeast at h
  by_cases hc1 : a1 < 0
  · rw [if_pos hc1] at h
    cases h
    exact sm_3.rf
  · rw [if_neg hc1] at h
    by_cases hc2 : a1 ≤ (127 : Int32)
    · rw [if_pos hc2] at h
      obtain ⟨r3, h4, h⟩ := am_bd h
      by_cases hc5 : r3 ≠ 0
      · rw [if_pos hc5] at h
        obtain ⟨r6, h7, h⟩ := am_bd h
        have k_r6 : sm_3 m r6.2 := sm_3.tr sm_3.rf (sm_3.kp (kp_X1_isTable a1 m r6 h7) rfl)
        by_cases hc8 : r6.1 ≠ 0
        · rw [if_pos hc8] at h
          obtain ⟨r9, h10, h⟩ := am_bd h
          have k_r9 : sm_3 m r9 := sm_3.tr k_r6 (k3_X3_keep 1 0 0 0 r6.2 r9 h10)
          obtain ⟨r11, h12, h⟩ := am_bd h
          have k_r11 : sm_3 m r11 := sm_3.tr k_r9 (sm_3.kp (kp_X1_feedTable a1 r9 r11 h12) rfl)
          obtain ⟨r13, h14, h⟩ := am_bd h
          cases h
          exact k_r11
        · rw [if_neg hc8] at h
          cases h
          exact k_r6
      · rw [if_neg hc5] at h
        cases h
        exact sm_3.rf
    · rw [if_neg hc2] at h
      cases h
      exact sm_3.rf
set_option maxRecDepth 100000 in
theorem k3_X9_doPardon (a1 : Int32) (a2 : Int32) (m : am_m) (t : Int32 × am_m) (h : fn_X9_doPardon a1 a2 m = some t) : sm_3 m t.2 := by
  unfold fn_X9_doPardon at h
  by_cases hc1 : a1 ≠ a2
  · rw [if_pos hc1] at h
    obtain ⟨r2, h3, h⟩ := am_bd h
    by_cases hc4 : r2 ≠ 0
    · rw [if_pos hc4] at h
      obtain ⟨r5, h6, h⟩ := am_bd h
      by_cases hc7 : r5 ≠ 0
      · rw [if_pos hc7] at h
        obtain ⟨r8, h9, h⟩ := am_bd h
        have k_r8 : sm_3 m r8 := sm_3.tr sm_3.rf (k3_X3_keep 2 a1 a2 0 m r8 h9)
        obtain ⟨r10, h11, h⟩ := am_bd h
        have k_r10 : sm_3 m r10 := sm_3.tr k_r8 (sm_3.kp (kp_X8_setHarm 0 a1 a2 0 0 r8 r10 h11) rfl)
        cases h
        exact k_r10
      · rw [if_neg hc7] at h
        cases h
        exact sm_3.rf
    · rw [if_neg hc4] at h
      cases h
      exact sm_3.rf
  · rw [if_neg hc1] at h
    cases h
    exact sm_3.rf
set_option maxRecDepth 100000 in
theorem k3_X9_doPass  (m : am_m) (t : Int32 × am_m) (h : fn_X9_doPass  m = some t) : sm_3 m t.2 := by
  unfold fn_X9_doPass at h
  by_cases hc1 : (m.1 39 0 0) < (999 : Int32)
  · rw [if_pos hc1] at h
    obtain ⟨r2, h3, h⟩ := am_bd h
    have k_r2 : sm_3 m r2 := sm_3.tr sm_3.rf (k3_X3_keep 3 0 0 0 m r2 h3)
    obtain ⟨r4, h5, h⟩ := am_bd h
    have k_r4 : sm_3 m r4 := sm_3.tr k_r2 (sm_3.kp (kp_X1_passDay  r2 r4 h5) rfl)
    obtain ⟨r6, h7, h⟩ := am_bd h
    cases h
    exact k_r4
  · rw [if_neg hc1] at h
    cases h
    exact sm_3.rf
set_option maxRecDepth 100000 in
theorem l3_X9_ranClause_10 {n : Nat} {x1 : Nat} {x2 : Int32} {x3 : Int32} {x4 : Int32} {m : am_m} {t : Sum (am_m) (Int32 × am_m)} (h : lp_X9_ranClause_10 n x1 x2 x3 x4 m = some t) : (∀ t', t = .inl t' → sm_3 m t') ∧ (∀ t', t = .inr t' → sm_3 m t'.2) := by
  induction n generalizing x4 m with
  | zero => cases h
  | succ n ih =>
    unfold lp_X9_ranClause_10 at h
    by_cases hc3 : x3 ≤ x4
    · rw [if_pos hc3] at h
      cases h
      exact ⟨fun _ he => (by cases he; exact sm_3.rf), fun _ he => (by cases he)⟩
    · rw [if_neg hc3] at h
      obtain ⟨r4, h5, h⟩ := am_bd h
      obtain ⟨r6, h7, h⟩ := am_bd h
      have k_r6 : sm_3 m r6.2 := sm_3.tr sm_3.rf (sm_3.kp (kp_X1_tell_o x1 r4 m r6 h7) rfl)
      by_cases hc8 : r6.1 ≠ (1 : Int32)
      · rw [if_pos hc8] at h
        exact ⟨fun t' he => sm_3.tr k_r6 ((ih h).1 t' he), fun t' he => sm_3.tr k_r6 ((ih h).2 t' he)⟩
      · rw [if_neg hc8] at h
        obtain ⟨r9, h10, h⟩ := am_bd h
        obtain ⟨r11, h12, h⟩ := am_bd h
        have k_r11 : sm_3 m r11.2 := sm_3.tr k_r6 (sm_3.kp (kp_X1_tell_o x1 r9 r6.2 r11 h12) rfl)
        obtain ⟨r13, h14, h⟩ := am_bd h
        obtain ⟨r15, h16, h⟩ := am_bd h
        have k_r15 : sm_3 m r15.2 := sm_3.tr k_r11 (sm_3.kp (kp_X1_tell_o x1 r13 r11.2 r15 h16) rfl)
        obtain ⟨r17, h18, h⟩ := am_bd h
        obtain ⟨r19, h20, h⟩ := am_bd h
        have k_r19 : sm_3 m r19.2 := sm_3.tr k_r15 (sm_3.kp (kp_X1_tell_o x1 r17 r15.2 r19 h20) rfl)
        by_cases hc21 : r11.1 = (2000000000 : Int32)
        · rw [if_pos hc21] at h
          cases h
          exact ⟨fun _ he => (by cases he), fun _ he => (by cases he; exact k_r19)⟩
        · rw [if_neg hc21] at h
          by_cases hc22 : r15.1 = (2000000000 : Int32)
          · rw [if_pos hc22] at h
            cases h
            exact ⟨fun _ he => (by cases he), fun _ he => (by cases he; exact k_r19)⟩
          · rw [if_neg hc22] at h
            by_cases hc23 : r19.1 ≠ (2000000000 : Int32)
            · rw [if_pos hc23] at h
              obtain ⟨r24, h25, h⟩ := am_bd h
              by_cases hs26 : r24 = 270
              · rw [if_pos hs26] at h
                obtain ⟨r27, h28, h⟩ := am_bd h
                have k_r27 : sm_3 m r27.2 := sm_3.tr k_r19 (k3_X9_doHarm r11.1 r15.1 r19.1 r19.2 r27 h28)
                by_cases hc29 : 0 ≤ r27.1
                · rw [if_pos hc29] at h
                  obtain ⟨r30, h31, h⟩ := am_bd h
                  have k_r30 : sm_3 m r30 := sm_3.tr (sm_3.si k_r27 rfl) (sm_3.kp (kp_X9_fillOrderWords (r27.2.1 5 x1 4) (am_si r27.2 41 0 1 ((r27.2.1 41 0 1) + (1 : Int32))) r30 h31) rfl)
                  exact ⟨fun t' he => sm_3.tr k_r30 ((ih h).1 t' he), fun t' he => sm_3.tr k_r30 ((ih h).2 t' he)⟩
                · rw [if_neg hc29] at h
                  cases h
                  exact ⟨fun _ he => (by cases he), fun _ he => (by cases he; exact k_r27)⟩
              · rw [if_neg hs26] at h
                by_cases hs32 : r24 = 271
                · rw [if_pos hs32] at h
                  obtain ⟨r33, h34, h⟩ := am_bd h
                  have k_r33 : sm_3 m r33.2 := sm_3.tr k_r19 (k3_X9_doFeast r11.1 r19.2 r33 h34)
                  by_cases hc35 : 0 ≤ r33.1
                  · rw [if_pos hc35] at h
                    obtain ⟨r36, h37, h⟩ := am_bd h
                    have k_r36 : sm_3 m r36 := sm_3.tr (sm_3.si (sm_3.si k_r33 rfl) rfl) (sm_3.kp (kp_X9_fillOrderWords (r33.2.1 5 x1 4) (am_si (am_si r33.2 41 0 2 r33.1) 41 0 1 ((r33.2.1 41 0 1) + (1 : Int32))) r36 h37) rfl)
                    exact ⟨fun t' he => sm_3.tr k_r36 ((ih h).1 t' he), fun t' he => sm_3.tr k_r36 ((ih h).2 t' he)⟩
                  · rw [if_neg hc35] at h
                    cases h
                    exact ⟨fun _ he => (by cases he), fun _ he => (by cases he; exact (sm_3.si k_r33 rfl))⟩
                · rw [if_neg hs32] at h
                  by_cases hs38 : r24 = 272
                  · rw [if_pos hs38] at h
                    obtain ⟨r39, h40, h⟩ := am_bd h
                    have k_r39 : sm_3 m r39.2 := sm_3.tr k_r19 (k3_X9_doPardon r11.1 r15.1 r19.2 r39 h40)
                    by_cases hc41 : 0 ≤ r39.1
                    · rw [if_pos hc41] at h
                      obtain ⟨r42, h43, h⟩ := am_bd h
                      have k_r42 : sm_3 m r42 := sm_3.tr (sm_3.si k_r39 rfl) (sm_3.kp (kp_X9_fillOrderWords (r39.2.1 5 x1 4) (am_si r39.2 41 0 1 ((r39.2.1 41 0 1) + (1 : Int32))) r42 h43) rfl)
                      exact ⟨fun t' he => sm_3.tr k_r42 ((ih h).1 t' he), fun t' he => sm_3.tr k_r42 ((ih h).2 t' he)⟩
                    · rw [if_neg hc41] at h
                      cases h
                      exact ⟨fun _ he => (by cases he), fun _ he => (by cases he; exact k_r39)⟩
                  · rw [if_neg hs38] at h
                    obtain ⟨r44, h45, h⟩ := am_bd h
                    have k_r44 : sm_3 m r44.2 := sm_3.tr k_r19 (k3_X9_doPass  r19.2 r44 h45)
                    by_cases hc46 : 0 ≤ r44.1
                    · rw [if_pos hc46] at h
                      obtain ⟨r47, h48, h⟩ := am_bd h
                      have k_r47 : sm_3 m r47 := sm_3.tr (sm_3.si k_r44 rfl) (sm_3.kp (kp_X9_fillOrderWords (r44.2.1 5 x1 4) (am_si r44.2 41 0 1 ((r44.2.1 41 0 1) + (1 : Int32))) r47 h48) rfl)
                      exact ⟨fun t' he => sm_3.tr k_r47 ((ih h).1 t' he), fun t' he => sm_3.tr k_r47 ((ih h).2 t' he)⟩
                    · rw [if_neg hc46] at h
                      cases h
                      exact ⟨fun _ he => (by cases he), fun _ he => (by cases he; exact k_r44)⟩
            · rw [if_neg hc23] at h
              cases h
              exact ⟨fun _ he => (by cases he), fun _ he => (by cases he; exact k_r19)⟩
set_option maxRecDepth 100000 in
theorem k3_X9_ranClause (a1 : Nat) (a2 : Int32) (m : am_m) (t : Int32 × am_m) (h : fn_X9_ranClause a1 a2 m = some t) : sm_3 m t.2 := by
  unfold fn_X9_ranClause at h
  obtain ⟨r1, h2, h⟩ := am_bd h
  obtain ⟨w52, h50, h⟩ := am_bd h
  rcases w52 with q49 | rr51
  · have k_q49 : sm_3 m q49 := sm_3.tr sm_3.rf ((l3_X9_ranClause_10 (h := h50)).1 _ rfl)
    dsimp only at h
    cases h
    exact k_q49
  · cases h
    exact sm_3.tr sm_3.rf ((l3_X9_ranClause_10 (h := h50)).2 _ rfl)
