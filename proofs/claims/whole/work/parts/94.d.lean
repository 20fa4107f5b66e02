/-! the rows of the LAWS that were read stay as they are under the class's reader; by program (wip/whole/gen/sms.py) -/
section SMS
variable {m m1 m2 : am_m}
theorem sm_S.tr (h : sm_S m m1) (g : sm_S m1 m2) : sm_S m m2 := fun s hs => ⟨(g s hs).1.trans (h s hs).1, (g s hs).2.1.trans (h s hs).2.1, (g s hs).2.2.trans (h s hs).2.2⟩
theorem sm_S.si {c k : Nat} {v : Int32} (h : sm_S m m1) (_ : Nat.ble 0 0 = true) : sm_S m (am_si m1 c 0 k v) := fun s hs => by
  have e : ∀ d, (am_si m1 c 0 k v).1 d s = m1.1 d s := fun d => funext fun j => by rw [rd_si]; exact if_neg (fun z => by have := z.2.1; omega)
  rw [e, e, e]; exact h s hs
end SMS
set_option maxRecDepth 100000 in
theorem ks_X4_addToken (a1 : Int32) (a2 : Int32) (a3 : Int32) (m : am_m) (t : am_m) (h : fn_X4_addToken a1 a2 a3 m = some t) : sm_S m t := by
  unfold fn_X4_addToken at h
  by_cases hc1 : (401 : Int32) ≤ (m.1 4 0 4)
  · rw [if_pos hc1] at h
    cases h
    exact sm_S.rf
  · rw [if_neg hc1] at h
    obtain ⟨hg2, h⟩ := am_ck_some h
    obtain ⟨hg3, h⟩ := am_ck_some h
    obtain ⟨hg4, h⟩ := am_ck_some h
    cases h
    exact (sm_S.si (sm_S.si (sm_S.si (sm_S.si sm_S.rf rfl) rfl) rfl) rfl)
set_option maxRecDepth 100000 in
theorem kt_X4_split_7 {n : Nat} {x2 : Int32} {m : am_m} {t : am_m} (h : lp_X4_split_7 n x2 m = some t) : sm_S m t := by
  induction n generalizing x2 m with
  | zero => cases h
  | succ n ih =>
    unfold lp_X4_split_7 at h
    by_cases hc1 : (m.1 7 0 1) ≤ x2
    · rw [if_pos hc1] at h
      cases h
      exact sm_S.rf
    · rw [if_neg hc1] at h
      obtain ⟨r2, h3, h⟩ := am_bd h
      obtain ⟨r4, h5, h⟩ := am_bd h
      obtain ⟨q37, h38, h⟩ := am_bd h
      have k_q37 : sm_S m q37.2 := by
        have h := h38
        by_cases hc6 : r4 = 0
        · rw [if_pos hc6] at h
          obtain ⟨r7, h8, h⟩ := am_bd h
          by_cases hc9 : r7 = 0
          · rw [if_pos hc9] at h
            by_cases hc10 : r2 = (32 : Int32)
            · rw [if_pos hc10] at h
              cases h
              exact sm_S.rf
            · rw [if_neg hc10] at h
              obtain ⟨r11, h12, h⟩ := am_bd h
              have k_r11 : sm_S m r11 := sm_S.tr sm_S.rf (ks_X4_addToken r2 0 x2 m r11 h12)
              cases h
              exact k_r11
          · rw [if_neg hc9] at h
            obtain ⟨q19, h20, h⟩ := am_bd h
            obtain ⟨r21, h22, h⟩ := am_bd h
            obtain ⟨r23, h24, h⟩ := am_bd h
            have k_r23 : sm_S m r23 := sm_S.tr sm_S.rf (ks_X4_addToken 256 r21 x2 m r23 h24)
            cases h
            exact k_r23
        · rw [if_neg hc6] at h
          obtain ⟨q31, h32, h⟩ := am_bd h
          obtain ⟨r33, h34, h⟩ := am_bd h
          obtain ⟨r35, h36, h⟩ := am_bd h
          have k_r35 : sm_S m r35 := sm_S.tr sm_S.rf (ks_X4_addToken r33 0 x2 m r35 h36)
          cases h
          exact k_r35
      exact sm_S.tr k_q37 (ih h)
set_option maxRecDepth 100000 in
theorem ks_X4_split  (m : am_m) (t : am_m) (h : fn_X4_split  m = some t) : sm_S m t := by
  unfold fn_X4_split at h
  obtain ⟨q39, h40, h⟩ := am_bd h
  have k_q39 : sm_S m q39 := sm_S.tr (sm_S.si sm_S.rf rfl) (kt_X4_split_7 (h := h40))
  obtain ⟨r41, h42, h⟩ := am_bd h
  have k_r41 : sm_S m r41 := sm_S.tr k_q39 (ks_X4_addToken 257 0 (q39.1 7 0 1) q39 r41 h42)
  cases h
  exact k_r41
set_option maxRecDepth 100000 in
theorem ks_X4_goTo (a1 : Int32) (m : am_m) (t : am_m) (h : fn_X4_goTo a1 m = some t) : sm_S m t := by
  unfold fn_X4_goTo at h
  obtain ⟨r1, h2, h⟩ := am_bd h
  obtain ⟨r3, h4, h⟩ := am_bd h
  obtain ⟨hg5, h⟩ := am_ck_some h
  obtain ⟨hg6, h⟩ := am_ck_some h
  cases h
  exact (sm_S.si (sm_S.si (sm_S.si sm_S.rf rfl) rfl) rfl)
set_option maxRecDepth 100000 in
theorem ks_X4_failed  (m : am_m) (t : Int32 × am_m) (h : fn_X4_failed  m = some t) : sm_S m t.2 := by
  unfold fn_X4_failed at h
  obtain ⟨hg1, h⟩ := am_ck_some h
  cases h
  exact (sm_S.si sm_S.rf rfl)
set_option maxRecDepth 100000 in
theorem ks_X4_took (a1 : Int32) (m : am_m) (t : Int32 × am_m) (h : fn_X4_took a1 m = some t) : sm_S m t.2 := by
  unfold fn_X4_took at h
  by_cases hc1 : (m.1 4 0 6) = a1
  · rw [if_pos hc1] at h
    obtain ⟨r2, h3, h⟩ := am_bd h
    have k_r2 : sm_S m r2 := sm_S.tr sm_S.rf (ks_X4_goTo ((m.1 4 0 5) + (1 : Int32)) m r2 h3)
    cases h
    exact k_r2
  · rw [if_neg hc1] at h
    obtain ⟨r4, h5, h⟩ := am_bd h
    have k_r4 : sm_S m r4.2 := sm_S.tr sm_S.rf (ks_X4_failed  m r4 h5)
    obtain ⟨hz6, h⟩ := am_gd_some h
    cases h
    exact k_r4
set_option maxRecDepth 100000 in
theorem ks_X5_mark (a1 : Int32) (a2 : Int32) (m : am_m) (t : am_m) (h : fn_X5_mark 0 a1 a2 m = some t) : sm_S m t := by
  unfold fn_X5_mark at h
  by_cases hc1 : (m.1 5 0 2) ≤ 0
  · rw [if_pos hc1] at h
    cases h
    exact sm_S.rf
  · rw [if_neg hc1] at h
    by_cases hc2 : a1 < 0
    · rw [if_pos hc2] at h
      cases h
      exact sm_S.rf
    · rw [if_neg hc2] at h
      by_cases hc3 : (6 : Int32) ≤ a1
      · rw [if_pos hc3] at h
        cases h
        exact sm_S.rf
      · rw [if_neg hc3] at h
        by_cases hc4 : (Int32.ofNat (m.2.2.2.2.2.2.1 28 0)) ≤ ((((m.1 5 0 2) - (1 : Int32)) * (6 : Int32)) + a1)
        · rw [if_pos hc4] at h
          cases h
          exact sm_S.rf
        · rw [if_neg hc4] at h
          obtain ⟨hg5, h⟩ := am_ck_some h
          cases h
          exact (sm_S.si sm_S.rf rfl)
set_option maxRecDepth 100000 in
theorem ks_X4_readTimes  (m : am_m) (t : Int32 × am_m) (h : fn_X4_readTimes  m = some t) : sm_S m t.2 := by
  unfold fn_X4_readTimes at h
  obtain ⟨r1, h2, h⟩ := am_bd h
  have k_r1 : sm_S m r1 := sm_S.tr sm_S.rf (ks_X4_goTo ((m.1 4 0 5) + (1 : Int32)) m r1 h2)
  by_cases hc3 : (r1.1 4 0 6) ≠ (256 : Int32)
  · rw [if_pos hc3] at h
    obtain ⟨r4, h5, h⟩ := am_bd h
    have k_r4 : sm_S m r4.2 := sm_S.tr k_r1 (ks_X4_failed  r1 r4 h5)
    obtain ⟨hz6, h⟩ := am_gd_some h
    cases h
    exact k_r4
  · rw [if_neg hc3] at h
    by_cases hc7 : (r1.1 4 0 7) < (1 : Int32)
    · rw [if_pos hc7] at h
      obtain ⟨r8, h9, h⟩ := am_bd h
      have k_r8 : sm_S m r8.2 := sm_S.tr k_r1 (ks_X4_failed  r1 r8 h9)
      obtain ⟨hz10, h⟩ := am_gd_some h
      cases h
      exact k_r8
    · rw [if_neg hc7] at h
      by_cases hc11 : (r1.1 4 0 7) ≤ (20 : Int32)
      · rw [if_pos hc11] at h
        obtain ⟨r12, h13, h⟩ := am_bd h
        have k_r12 : sm_S m r12 := sm_S.tr k_r1 (ks_X5_mark 1 (r1.1 4 0 7) r1 r12 h13)
        obtain ⟨r14, h15, h⟩ := am_bd h
        have k_r14 : sm_S m r14 := sm_S.tr k_r12 (ks_X4_goTo ((r12.1 4 0 5) + (1 : Int32)) r12 r14 h15)
        cases h
        exact k_r14
      · rw [if_neg hc11] at h
        obtain ⟨r16, h17, h⟩ := am_bd h
        have k_r16 : sm_S m r16.2 := sm_S.tr k_r1 (ks_X4_failed  r1 r16 h17)
        obtain ⟨hz18, h⟩ := am_gd_some h
        cases h
        exact k_r16
set_option maxRecDepth 100000 in
theorem ks_X5_put (a1 : Int32) (a2 : Int32) (m : am_m) (t : am_m) (h : fn_X5_put 0 a1 a2 m = some t) : sm_S m t := by
  unfold fn_X5_put at h
  by_cases hc1 : (Int32.ofNat (m.2.2.2.2.2.2.1 29 0)) ≤ (m.1 5 0 3)
  · rw [if_pos hc1] at h
    cases h
    exact sm_S.rf
  · rw [if_neg hc1] at h
    obtain ⟨hg2, h⟩ := am_ck_some h
    cases h
    exact (sm_S.si (sm_S.si sm_S.rf rfl) rfl)
set_option maxRecDepth 100000 in
theorem ks_X4_readLawWord  (m : am_m) (t : Int32 × am_m) (h : fn_X4_readLawWord  m = some t) : sm_S m t.2 := by
  unfold fn_X4_readLawWord at h
  by_cases hc1 : (m.1 4 0 6) < (274 : Int32)
  · rw [if_pos hc1] at h
    obtain ⟨r2, h3, h⟩ := am_bd h
    have k_r2 : sm_S m r2.2 := sm_S.tr sm_S.rf (ks_X4_failed  m r2 h3)
    obtain ⟨hz4, h⟩ := am_gd_some h
    cases h
    exact k_r2
  · rw [if_neg hc1] at h
    by_cases hc5 : (m.1 4 0 6) ≤ (281 : Int32)
    · rw [if_pos hc5] at h
      obtain ⟨r6, h7, h⟩ := am_bd h
      have k_r6 : sm_S m r6 := sm_S.tr sm_S.rf (ks_X5_put 258 ((m.1 4 0 6) - (274 : Int32)) m r6 h7)
      obtain ⟨r8, h9, h⟩ := am_bd h
      have k_r8 : sm_S m r8 := sm_S.tr k_r6 (ks_X4_goTo ((r6.1 4 0 5) + (1 : Int32)) r6 r8 h9)
      cases h
      exact k_r8
    · rw [if_neg hc5] at h
      obtain ⟨r10, h11, h⟩ := am_bd h
      have k_r10 : sm_S m r10.2 := sm_S.tr sm_S.rf (ks_X4_failed  m r10 h11)
      obtain ⟨hz12, h⟩ := am_gd_some h
      cases h
      exact k_r10
set_option maxRecDepth 100000 in
theorem ks_X4_readOrderWord  (m : am_m) (t : Int32 × am_m) (h : fn_X4_readOrderWord  m = some t) : sm_S m t.2 := by
  unfold fn_X4_readOrderWord at h
  by_cases hc1 : (m.1 4 0 6) = (278 : Int32)
  · rw [if_pos hc1] at h
    obtain ⟨r2, h3, h⟩ := am_bd h
    have k_r2 : sm_S m r2 := sm_S.tr sm_S.rf (ks_X4_goTo ((m.1 4 0 5) + (1 : Int32)) m r2 h3)
    by_cases hc4 : (r2.1 4 0 6) ≠ (256 : Int32)
    · rw [if_pos hc4] at h
      obtain ⟨r5, h6, h⟩ := am_bd h
      have k_r5 : sm_S m r5.2 := sm_S.tr k_r2 (ks_X4_failed  r2 r5 h6)
      obtain ⟨hz7, h⟩ := am_gd_some h
      cases h
      exact k_r5
    · rw [if_neg hc4] at h
      by_cases hc8 : (r2.1 4 0 7) < (7 : Int32)
      · rw [if_pos hc8] at h
        obtain ⟨r10, h11, h⟩ := am_bd h
        have k_r10 : sm_S m r10 := sm_S.tr k_r2 (ks_X5_put 258 ((if (m.1 4 0 6) ≠ (286 : Int32) then (5 : Int32) else (12 : Int32)) + (r2.1 4 0 7)) r2 r10 h11)
        obtain ⟨r13, h14, h⟩ := am_bd h
        have k_r13 : sm_S m r13 := sm_S.tr (sm_S.si k_r10 rfl) (ks_X4_goTo ((r10.1 4 0 5) + (1 : Int32)) (am_si r10 5 0 4 ((r10.1 5 0 4) ||| (if (m.1 4 0 6) ≠ (286 : Int32) then (0 : Int32) else ((1 : Int32) <<< ((r10.1 4 0 7) &&& 31))))) r13 h14)
        cases h
        exact k_r13
      · rw [if_neg hc8] at h
        obtain ⟨r15, h16, h⟩ := am_bd h
        have k_r15 : sm_S m r15.2 := sm_S.tr k_r2 (ks_X4_failed  r2 r15 h16)
        obtain ⟨hz17, h⟩ := am_gd_some h
        cases h
        exact k_r15
  · rw [if_neg hc1] at h
    by_cases hc18 : (m.1 4 0 6) ≠ (286 : Int32)
    · rw [if_pos hc18] at h
      by_cases hc19 : (m.1 4 0 6) ≠ (280 : Int32)
      · rw [if_pos hc19] at h
        by_cases hc20 : (m.1 4 0 6) < (282 : Int32)
        · rw [if_pos hc20] at h
          obtain ⟨r21, h22, h⟩ := am_bd h
          have k_r21 : sm_S m r21.2 := sm_S.tr sm_S.rf (ks_X4_failed  m r21 h22)
          obtain ⟨hz23, h⟩ := am_gd_some h
          cases h
          exact k_r21
        · rw [if_neg hc20] at h
          by_cases hc24 : (285 : Int32) < (m.1 4 0 6)
          · rw [if_pos hc24] at h
            obtain ⟨r25, h26, h⟩ := am_bd h
            have k_r25 : sm_S m r25.2 := sm_S.tr sm_S.rf (ks_X4_failed  m r25 h26)
            obtain ⟨hz27, h⟩ := am_gd_some h
            cases h
            exact k_r25
          · rw [if_neg hc24] at h
            obtain ⟨r28, h29, h⟩ := am_bd h
            have k_r28 : sm_S m r28 := sm_S.tr sm_S.rf (ks_X5_put 258 (((1 : Int32) + (m.1 4 0 6)) - (282 : Int32)) m r28 h29)
            obtain ⟨r30, h31, h⟩ := am_bd h
            have k_r30 : sm_S m r30 := sm_S.tr k_r28 (ks_X4_goTo ((r28.1 4 0 5) + (1 : Int32)) r28 r30 h31)
            cases h
            exact k_r30
      · rw [if_neg hc19] at h
        obtain ⟨r32, h33, h⟩ := am_bd h
        have k_r32 : sm_S m r32 := sm_S.tr sm_S.rf (ks_X5_put 258 0 m r32 h33)
        obtain ⟨r34, h35, h⟩ := am_bd h
        have k_r34 : sm_S m r34 := sm_S.tr k_r32 (ks_X4_goTo ((r32.1 4 0 5) + (1 : Int32)) r32 r34 h35)
        cases h
        exact k_r34
    · rw [if_neg hc18] at h
      obtain ⟨r36, h37, h⟩ := am_bd h
      have k_r36 : sm_S m r36 := sm_S.tr sm_S.rf (ks_X4_goTo ((m.1 4 0 5) + (1 : Int32)) m r36 h37)
      by_cases hc38 : (r36.1 4 0 6) ≠ (256 : Int32)
      · rw [if_pos hc38] at h
        obtain ⟨r39, h40, h⟩ := am_bd h
        have k_r39 : sm_S m r39.2 := sm_S.tr k_r36 (ks_X4_failed  r36 r39 h40)
        obtain ⟨hz41, h⟩ := am_gd_some h
        cases h
        exact k_r39
      · rw [if_neg hc38] at h
        by_cases hc42 : (r36.1 4 0 7) < (7 : Int32)
        · rw [if_pos hc42] at h
          obtain ⟨r44, h45, h⟩ := am_bd h
          have k_r44 : sm_S m r44 := sm_S.tr k_r36 (ks_X5_put 258 ((if (m.1 4 0 6) ≠ (286 : Int32) then (5 : Int32) else (12 : Int32)) + (r36.1 4 0 7)) r36 r44 h45)
          obtain ⟨r47, h48, h⟩ := am_bd h
          have k_r47 : sm_S m r47 := sm_S.tr (sm_S.si k_r44 rfl) (ks_X4_goTo ((r44.1 4 0 5) + (1 : Int32)) (am_si r44 5 0 4 ((r44.1 5 0 4) ||| (if (m.1 4 0 6) ≠ (286 : Int32) then (0 : Int32) else ((1 : Int32) <<< ((r44.1 4 0 7) &&& 31))))) r47 h48)
          cases h
          exact k_r47
        · rw [if_neg hc42] at h
          obtain ⟨r49, h50, h⟩ := am_bd h
          have k_r49 : sm_S m r49.2 := sm_S.tr k_r36 (ks_X4_failed  r36 r49 h50)
          obtain ⟨hz51, h⟩ := am_gd_some h
          cases h
          exact k_r49
set_option maxRecDepth 100000 in
theorem ks_X4_readPart (rc : am_rc) (hrc : ∀ w a m t, rc w a m = some t → sm_S m t.2) (a1 : Int32) (m : am_m) (t : Int32 × am_m) (h : fn_X4_readPart rc a1 m = some t) : sm_S m t.2 := by
  unfold fn_X4_readPart at h
  by_cases hc1 : (m.1 4 0 6) ≠ (91 : Int32)
  · rw [if_pos hc1] at h
    by_cases hc2 : (m.1 4 0 8) < (50 : Int32)
    · rw [if_pos hc2] at h
      by_cases hc3 : (m.1 4 0 6) = (256 : Int32)
      · rw [if_pos hc3] at h
        by_cases hc4 : (m.1 4 0 7) ≤ (1000 : Int32)
        · rw [if_pos hc4] at h
          obtain ⟨r5, h6, h⟩ := am_bd h
          have k_r5 : sm_S m r5 := sm_S.tr (sm_S.si sm_S.rf rfl) (ks_X5_put 256 (m.1 4 0 7) (am_si m 4 0 8 ((m.1 4 0 8) + (1 : Int32))) r5 h6)
          obtain ⟨r7, h8, h⟩ := am_bd h
          have k_r7 : sm_S m r7 := sm_S.tr k_r5 (ks_X4_goTo ((r5.1 4 0 5) + (1 : Int32)) r5 r7 h8)
          cases h
          exact k_r7
        · rw [if_neg hc4] at h
          obtain ⟨r9, h10, h⟩ := am_bd h
          have k_r9 : sm_S m r9.2 := sm_S.tr (sm_S.si sm_S.rf rfl) (ks_X4_failed  (am_si m 4 0 8 ((m.1 4 0 8) + (1 : Int32))) r9 h10)
          obtain ⟨hz11, h⟩ := am_gd_some h
          cases h
          exact k_r9
      · rw [if_neg hc3] at h
        by_cases hc12 : (m.1 4 0 9) = 0
        · rw [if_pos hc12] at h
          obtain ⟨r13, h14, h⟩ := am_bd h
          have k_r13 : sm_S m r13.2 := sm_S.tr (sm_S.si sm_S.rf rfl) (ks_X4_readLawWord  (am_si m 4 0 8 ((m.1 4 0 8) + (1 : Int32))) r13 h14)
          obtain ⟨hz15, h⟩ := am_gd_some h
          cases h
          exact k_r13
        · rw [if_neg hc12] at h
          obtain ⟨r16, h17, h⟩ := am_bd h
          have k_r16 : sm_S m r16.2 := sm_S.tr (sm_S.si sm_S.rf rfl) (ks_X4_readOrderWord  (am_si m 4 0 8 ((m.1 4 0 8) + (1 : Int32))) r16 h17)
          obtain ⟨hz18, h⟩ := am_gd_some h
          cases h
          exact k_r16
    · rw [if_neg hc2] at h
      obtain ⟨r19, h20, h⟩ := am_bd h
      have k_r19 : sm_S m r19.2 := sm_S.tr sm_S.rf (ks_X4_failed  m r19 h20)
      obtain ⟨hz21, h⟩ := am_gd_some h
      cases h
      exact k_r19
  · rw [if_neg hc1] at h
    by_cases hc22 : a1 < (8 : Int32)
    · rw [if_pos hc22] at h
      obtain ⟨r23, h24, h⟩ := am_bd h
      have k_r23 : sm_S m r23 := sm_S.tr sm_S.rf (ks_X4_goTo ((m.1 4 0 5) + (1 : Int32)) m r23 h24)
      obtain ⟨r25, h26, h⟩ := am_bd h
      have k_r25 : sm_S m r25.2 := sm_S.tr k_r23 (hrc 4 _ _ _ h26)
      by_cases hc27 : r25.1 = 0
      · rw [if_pos hc27] at h
        cases h
        exact k_r25
      · rw [if_neg hc27] at h
        obtain ⟨r28, h29, h⟩ := am_bd h
        have k_r28 : sm_S m r28.2 := sm_S.tr k_r25 (ks_X4_took 93 r25.2 r28 h29)
        by_cases hc30 : r28.1 = 0
        · rw [if_pos hc30] at h
          cases h
          exact k_r28
        · rw [if_neg hc30] at h
          cases h
          exact k_r28
    · rw [if_neg hc22] at h
      obtain ⟨r31, h32, h⟩ := am_bd h
      have k_r31 : sm_S m r31.2 := sm_S.tr sm_S.rf (ks_X4_failed  m r31 h32)
      obtain ⟨hz33, h⟩ := am_gd_some h
      cases h
      exact k_r31
set_option maxRecDepth 100000 in
theorem kt_X4_readTerm_12 (rc : am_rc) (hrc : ∀ w a m t, rc w a m = some t → sm_S m t.2) {n : Nat} {x1 : Int32} {x2 : Int32} {m : am_m} {t : Sum (am_m) (Int32 × am_m)} (h : lp_X4_readTerm_12 rc n x1 x2 m = some t) : (∀ t', t = .inl t' → sm_S m t') ∧ (∀ t', t = .inr t' → sm_S m t'.2) := by
  induction n generalizing x2 m with
  | zero => cases h
  | succ n ih =>
    unfold lp_X4_readTerm_12 at h
    by_cases hc4 : (401 : Int32) ≤ x2
    · rw [if_pos hc4] at h
      cases h
      exact ⟨fun _ he => (by cases he; exact sm_S.rf), fun _ he => (by cases he)⟩
    · rw [if_neg hc4] at h
      by_cases hc5 : (m.1 4 0 6) = (42 : Int32)
      · rw [if_pos hc5] at h
        obtain ⟨r6, h7, h⟩ := am_bd h
        have k_r6 : sm_S m r6 := sm_S.tr sm_S.rf (ks_X4_goTo ((m.1 4 0 5) + (1 : Int32)) m r6 h7)
        obtain ⟨r8, h9, h⟩ := am_bd h
        have k_r8 : sm_S m r8.2 := sm_S.tr k_r6 (hrc 6 _ _ _ h9)
        by_cases hc10 : r8.1 ≠ 0
        · rw [if_pos hc10] at h
          obtain ⟨r11, h12, h⟩ := am_bd h
          have k_r11 : sm_S m r11 := sm_S.tr k_r8 (ks_X5_put (m.1 4 0 6) 0 r8.2 r11 h12)
          exact ⟨fun t' he => sm_S.tr k_r11 ((ih h).1 t' he), fun t' he => sm_S.tr k_r11 ((ih h).2 t' he)⟩
        · rw [if_neg hc10] at h
          cases h
          exact ⟨fun _ he => (by cases he), fun _ he => (by cases he; exact k_r8)⟩
      · rw [if_neg hc5] at h
        by_cases hc13 : (m.1 4 0 6) = (47 : Int32)
        · rw [if_pos hc13] at h
          obtain ⟨r14, h15, h⟩ := am_bd h
          have k_r14 : sm_S m r14 := sm_S.tr sm_S.rf (ks_X4_goTo ((m.1 4 0 5) + (1 : Int32)) m r14 h15)
          obtain ⟨r16, h17, h⟩ := am_bd h
          have k_r16 : sm_S m r16.2 := sm_S.tr k_r14 (hrc 6 _ _ _ h17)
          by_cases hc18 : r16.1 ≠ 0
          · rw [if_pos hc18] at h
            obtain ⟨r19, h20, h⟩ := am_bd h
            have k_r19 : sm_S m r19 := sm_S.tr k_r16 (ks_X5_put (m.1 4 0 6) 0 r16.2 r19 h20)
            exact ⟨fun t' he => sm_S.tr k_r19 ((ih h).1 t' he), fun t' he => sm_S.tr k_r19 ((ih h).2 t' he)⟩
          · rw [if_neg hc18] at h
            cases h
            exact ⟨fun _ he => (by cases he), fun _ he => (by cases he; exact k_r16)⟩
        · rw [if_neg hc13] at h
          by_cases hc21 : (m.1 4 0 6) ≠ (37 : Int32)
          · rw [if_pos hc21] at h
            cases h
            exact ⟨fun _ he => (by cases he; exact sm_S.rf), fun _ he => (by cases he)⟩
          · rw [if_neg hc21] at h
            obtain ⟨r22, h23, h⟩ := am_bd h
            have k_r22 : sm_S m r22 := sm_S.tr sm_S.rf (ks_X4_goTo ((m.1 4 0 5) + (1 : Int32)) m r22 h23)
            obtain ⟨r24, h25, h⟩ := am_bd h
            have k_r24 : sm_S m r24.2 := sm_S.tr k_r22 (hrc 6 _ _ _ h25)
            by_cases hc26 : r24.1 ≠ 0
            · rw [if_pos hc26] at h
              obtain ⟨r27, h28, h⟩ := am_bd h
              have k_r27 : sm_S m r27 := sm_S.tr k_r24 (ks_X5_put (m.1 4 0 6) 0 r24.2 r27 h28)
              exact ⟨fun t' he => sm_S.tr k_r27 ((ih h).1 t' he), fun t' he => sm_S.tr k_r27 ((ih h).2 t' he)⟩
            · rw [if_neg hc26] at h
              cases h
              exact ⟨fun _ he => (by cases he), fun _ he => (by cases he; exact k_r24)⟩
set_option maxRecDepth 100000 in
theorem ks_X4_readTerm (rc : am_rc) (hrc : ∀ w a m t, rc w a m = some t → sm_S m t.2) (a1 : Int32) (m : am_m) (t : Int32 × am_m) (h : fn_X4_readTerm rc a1 m = some t) : sm_S m t.2 := by
  unfold fn_X4_readTerm at h
  obtain ⟨r1, h2, h⟩ := am_bd h
  have k_r1 : sm_S m r1.2 := sm_S.tr sm_S.rf (hrc 6 _ _ _ h2)
  by_cases hc3 : r1.1 ≠ 0
  · rw [if_pos hc3] at h
    obtain ⟨w32, h30, h⟩ := am_bd h
    rcases w32 with q29 | rr31
    · have k_q29 : sm_S m q29 := sm_S.tr k_r1 ((kt_X4_readTerm_12 rc hrc (h := h30)).1 _ rfl)
      dsimp only at h
      cases h
      exact k_q29
    · cases h
      exact sm_S.tr k_r1 ((kt_X4_readTerm_12 rc hrc (h := h30)).2 _ rfl)
  · rw [if_neg hc3] at h
    cases h
    exact k_r1
set_option maxRecDepth 100000 in
theorem kt_X4_readSum_12 (rc : am_rc) (hrc : ∀ w a m t, rc w a m = some t → sm_S m t.2) {n : Nat} {x1 : Int32} {x2 : Int32} {m : am_m} {t : Sum (am_m) (Int32 × am_m)} (h : lp_X4_readSum_12 rc n x1 x2 m = some t) : (∀ t', t = .inl t' → sm_S m t') ∧ (∀ t', t = .inr t' → sm_S m t'.2) := by
  induction n generalizing x2 m with
  | zero => cases h
  | succ n ih =>
    unfold lp_X4_readSum_12 at h
    by_cases hc4 : (401 : Int32) ≤ x2
    · rw [if_pos hc4] at h
      cases h
      exact ⟨fun _ he => (by cases he; exact sm_S.rf), fun _ he => (by cases he)⟩
    · rw [if_neg hc4] at h
      by_cases hc5 : (m.1 4 0 6) = (43 : Int32)
      · rw [if_pos hc5] at h
        obtain ⟨r6, h7, h⟩ := am_bd h
        have k_r6 : sm_S m r6 := sm_S.tr sm_S.rf (ks_X4_goTo ((m.1 4 0 5) + (1 : Int32)) m r6 h7)
        obtain ⟨r8, h9, h⟩ := am_bd h
        have k_r8 : sm_S m r8.2 := sm_S.tr k_r6 (hrc 5 _ _ _ h9)
        by_cases hc10 : r8.1 ≠ 0
        · rw [if_pos hc10] at h
          obtain ⟨r11, h12, h⟩ := am_bd h
          have k_r11 : sm_S m r11 := sm_S.tr k_r8 (ks_X5_put (m.1 4 0 6) 0 r8.2 r11 h12)
          exact ⟨fun t' he => sm_S.tr k_r11 ((ih h).1 t' he), fun t' he => sm_S.tr k_r11 ((ih h).2 t' he)⟩
        · rw [if_neg hc10] at h
          cases h
          exact ⟨fun _ he => (by cases he), fun _ he => (by cases he; exact k_r8)⟩
      · rw [if_neg hc5] at h
        by_cases hc13 : (m.1 4 0 6) ≠ (45 : Int32)
        · rw [if_pos hc13] at h
          cases h
          exact ⟨fun _ he => (by cases he; exact sm_S.rf), fun _ he => (by cases he)⟩
        · rw [if_neg hc13] at h
          obtain ⟨r14, h15, h⟩ := am_bd h
          have k_r14 : sm_S m r14 := sm_S.tr sm_S.rf (ks_X4_goTo ((m.1 4 0 5) + (1 : Int32)) m r14 h15)
          obtain ⟨r16, h17, h⟩ := am_bd h
          have k_r16 : sm_S m r16.2 := sm_S.tr k_r14 (hrc 5 _ _ _ h17)
          by_cases hc18 : r16.1 ≠ 0
          · rw [if_pos hc18] at h
            obtain ⟨r19, h20, h⟩ := am_bd h
            have k_r19 : sm_S m r19 := sm_S.tr k_r16 (ks_X5_put (m.1 4 0 6) 0 r16.2 r19 h20)
            exact ⟨fun t' he => sm_S.tr k_r19 ((ih h).1 t' he), fun t' he => sm_S.tr k_r19 ((ih h).2 t' he)⟩
          · rw [if_neg hc18] at h
            cases h
            exact ⟨fun _ he => (by cases he), fun _ he => (by cases he; exact k_r16)⟩
set_option maxRecDepth 100000 in
theorem ks_X4_readSum (rc : am_rc) (hrc : ∀ w a m t, rc w a m = some t → sm_S m t.2) (a1 : Int32) (m : am_m) (t : Int32 × am_m) (h : fn_X4_readSum rc a1 m = some t) : sm_S m t.2 := by
  unfold fn_X4_readSum at h
  obtain ⟨r1, h2, h⟩ := am_bd h
  have k_r1 : sm_S m r1.2 := sm_S.tr sm_S.rf (hrc 5 _ _ _ h2)
  by_cases hc3 : r1.1 ≠ 0
  · rw [if_pos hc3] at h
    obtain ⟨w24, h22, h⟩ := am_bd h
    rcases w24 with q21 | rr23
    · have k_q21 : sm_S m q21 := sm_S.tr k_r1 ((kt_X4_readSum_12 rc hrc (h := h22)).1 _ rfl)
      dsimp only at h
      cases h
      exact k_q21
    · cases h
      exact sm_S.tr k_r1 ((kt_X4_readSum_12 rc hrc (h := h22)).2 _ rfl)
  · rw [if_neg hc3] at h
    cases h
    exact k_r1
set_option maxRecDepth 100000 in
theorem ks_X4_readCompared (rc : am_rc) (hrc : ∀ w a m t, rc w a m = some t → sm_S m t.2) (a1 : Int32) (m : am_m) (t : Int32 × am_m) (h : fn_X4_readCompared rc a1 m = some t) : sm_S m t.2 := by
  unfold fn_X4_readCompared at h
  obtain ⟨r1, h2, h⟩ := am_bd h
  have k_r1 : sm_S m r1.2 := sm_S.tr sm_S.rf (hrc 4 _ _ _ h2)
  by_cases hc3 : r1.1 ≠ 0
  · rw [if_pos hc3] at h
    by_cases hc4 : (r1.2.1 4 0 6) = (60 : Int32)
    · rw [if_pos hc4] at h
      obtain ⟨r5, h6, h⟩ := am_bd h
      have k_r5 : sm_S m r5 := sm_S.tr k_r1 (ks_X4_goTo ((r1.2.1 4 0 5) + (1 : Int32)) r1.2 r5 h6)
      obtain ⟨r7, h8, h⟩ := am_bd h
      have k_r7 : sm_S m r7.2 := sm_S.tr k_r5 (hrc 4 _ _ _ h8)
      by_cases hc9 : r7.1 ≠ 0
      · rw [if_pos hc9] at h
        obtain ⟨r10, h11, h⟩ := am_bd h
        have k_r10 : sm_S m r10 := sm_S.tr k_r7 (ks_X5_put (r1.2.1 4 0 6) 0 r7.2 r10 h11)
        cases h
        exact k_r10
      · rw [if_neg hc9] at h
        cases h
        exact k_r7
    · rw [if_neg hc4] at h
      by_cases hc12 : (r1.2.1 4 0 6) = (62 : Int32)
      · rw [if_pos hc12] at h
        obtain ⟨r13, h14, h⟩ := am_bd h
        have k_r13 : sm_S m r13 := sm_S.tr k_r1 (ks_X4_goTo ((r1.2.1 4 0 5) + (1 : Int32)) r1.2 r13 h14)
        obtain ⟨r15, h16, h⟩ := am_bd h
        have k_r15 : sm_S m r15.2 := sm_S.tr k_r13 (hrc 4 _ _ _ h16)
        by_cases hc17 : r15.1 ≠ 0
        · rw [if_pos hc17] at h
          obtain ⟨r18, h19, h⟩ := am_bd h
          have k_r18 : sm_S m r18 := sm_S.tr k_r15 (ks_X5_put (r1.2.1 4 0 6) 0 r15.2 r18 h19)
          cases h
          exact k_r18
        · rw [if_neg hc17] at h
          cases h
          exact k_r15
      · rw [if_neg hc12] at h
        by_cases hc20 : (r1.2.1 4 0 6) = (61 : Int32)
        · rw [if_pos hc20] at h
          obtain ⟨r21, h22, h⟩ := am_bd h
          have k_r21 : sm_S m r21 := sm_S.tr k_r1 (ks_X4_goTo ((r1.2.1 4 0 5) + (1 : Int32)) r1.2 r21 h22)
          obtain ⟨r23, h24, h⟩ := am_bd h
          have k_r23 : sm_S m r23.2 := sm_S.tr k_r21 (hrc 4 _ _ _ h24)
          by_cases hc25 : r23.1 ≠ 0
          · rw [if_pos hc25] at h
            obtain ⟨r26, h27, h⟩ := am_bd h
            have k_r26 : sm_S m r26 := sm_S.tr k_r23 (ks_X5_put (r1.2.1 4 0 6) 0 r23.2 r26 h27)
            cases h
            exact k_r26
          · rw [if_neg hc25] at h
            cases h
            exact k_r23
        · rw [if_neg hc20] at h
          obtain ⟨r28, h29, h⟩ := am_bd h
          have k_r28 : sm_S m r28.2 := sm_S.tr k_r1 (ks_X4_failed  r1.2 r28 h29)
          obtain ⟨hz30, h⟩ := am_gd_some h
          cases h
          exact k_r28
  · rw [if_neg hc3] at h
    cases h
    exact k_r1
set_option maxRecDepth 100000 in
theorem kt_X4_readPlain_4 (rc : am_rc) (hrc : ∀ w a m t, rc w a m = some t → sm_S m t.2) {n : Nat} {x1 : Int32} {x2 : Int32} {x3 : Int32} {m : am_m} {t : Int32 × am_m} (h : lp_X4_readPlain_4 rc n x1 x2 x3 m = some t) : sm_S m t.2 := by
  induction n generalizing x2 x3 m with
  | zero => cases h
  | succ n ih =>
    unfold lp_X4_readPlain_4 at h
    by_cases hc1 : (401 : Int32) ≤ x3
    · rw [if_pos hc1] at h
      cases h
      exact sm_S.rf
    · rw [if_neg hc1] at h
      by_cases hc2 : (m.1 4 0 6) ≠ (261 : Int32)
      · rw [if_pos hc2] at h
        cases h
        exact sm_S.rf
      · rw [if_neg hc2] at h
        obtain ⟨r4, h5, h⟩ := am_bd h
        have k_r4 : sm_S m r4 := sm_S.tr sm_S.rf (ks_X4_goTo ((m.1 4 0 5) + (1 : Int32)) m r4 h5)
        exact sm_S.tr k_r4 (ih h)
set_option maxRecDepth 100000 in
theorem ks_X4_readPlain (rc : am_rc) (hrc : ∀ w a m t, rc w a m = some t → sm_S m t.2) (a1 : Int32) (m : am_m) (t : Int32 × am_m) (h : fn_X4_readPlain rc a1 m = some t) : sm_S m t.2 := by
  unfold fn_X4_readPlain at h
  obtain ⟨q6, h7, h⟩ := am_bd h
  have k_q6 : sm_S m q6.2 := sm_S.tr sm_S.rf (kt_X4_readPlain_4 rc hrc (h := h7))
  by_cases hc8 : (q6.2.1 4 0 6) ≠ (40 : Int32)
  · rw [if_pos hc8] at h
    obtain ⟨r9, h10, h⟩ := am_bd h
    have k_r9 : sm_S m r9.2 := sm_S.tr k_q6 (hrc 3 _ _ _ h10)
    by_cases hc11 : r9.1 ≠ 0
    · rw [if_pos hc11] at h
      by_cases hc12 : q6.1 = 0
      · rw [if_pos hc12] at h
        cases h
        exact k_r9
      · rw [if_neg hc12] at h
        obtain ⟨r13, h14, h⟩ := am_bd h
        have k_r13 : sm_S m r13 := sm_S.tr k_r9 (ks_X5_put 261 0 r9.2 r13 h14)
        cases h
        exact k_r13
    · rw [if_neg hc11] at h
      cases h
      exact k_r9
  · rw [if_neg hc8] at h
    by_cases hc15 : a1 < (8 : Int32)
    · rw [if_pos hc15] at h
      obtain ⟨r16, h17, h⟩ := am_bd h
      have k_r16 : sm_S m r16 := sm_S.tr k_q6 (ks_X4_goTo ((q6.2.1 4 0 5) + (1 : Int32)) q6.2 r16 h17)
      obtain ⟨r18, h19, h⟩ := am_bd h
      have k_r18 : sm_S m r18.2 := sm_S.tr k_r16 (hrc 0 _ _ _ h19)
      by_cases hc20 : r18.1 = 0
      · rw [if_pos hc20] at h
        cases h
        exact k_r18
      · rw [if_neg hc20] at h
        obtain ⟨r21, h22, h⟩ := am_bd h
        have k_r21 : sm_S m r21.2 := sm_S.tr k_r18 (ks_X4_took 41 r18.2 r21 h22)
        by_cases hc23 : r21.1 ≠ 0
        · rw [if_pos hc23] at h
          by_cases hc24 : q6.1 = 0
          · rw [if_pos hc24] at h
            cases h
            exact k_r21
          · rw [if_neg hc24] at h
            obtain ⟨r25, h26, h⟩ := am_bd h
            have k_r25 : sm_S m r25 := sm_S.tr k_r21 (ks_X5_put 261 0 r21.2 r25 h26)
            cases h
            exact k_r25
        · rw [if_neg hc23] at h
          cases h
          exact k_r21
    · rw [if_neg hc15] at h
      obtain ⟨r27, h28, h⟩ := am_bd h
      have k_r27 : sm_S m r27.2 := sm_S.tr k_q6 (ks_X4_failed  q6.2 r27 h28)
      obtain ⟨hz29, h⟩ := am_gd_some h
      cases h
      exact k_r27
set_option maxRecDepth 100000 in
theorem ks_X5_skipToHere (a1 : Int32) (a2 : Int32) (m : am_m) (t : am_m) (h : fn_X5_skipToHere 0 a1 a2 m = some t) : sm_S m t := by
  unfold fn_X5_skipToHere at h
  by_cases hc1 : a1 < 0
  · rw [if_pos hc1] at h
    cases h
    exact sm_S.rf
  · rw [if_neg hc1] at h
    by_cases hc2 : (m.1 5 0 3) ≤ a1
    · rw [if_pos hc2] at h
      cases h
      exact sm_S.rf
    · rw [if_neg hc2] at h
      obtain ⟨hg3, h⟩ := am_ck_some h
      cases h
      exact (sm_S.si sm_S.rf rfl)
set_option maxRecDepth 100000 in
theorem kt_X4_readBoth_12 (rc : am_rc) (hrc : ∀ w a m t, rc w a m = some t → sm_S m t.2) {n : Nat} {x1 : Int32} {x2 : Int32} {m : am_m} {t : Sum (am_m) (Int32 × am_m)} (h : lp_X4_readBoth_12 rc n x1 x2 m = some t) : (∀ t', t = .inl t' → sm_S m t') ∧ (∀ t', t = .inr t' → sm_S m t'.2) := by
  induction n generalizing x2 m with
  | zero => cases h
  | succ n ih =>
    unfold lp_X4_readBoth_12 at h
    by_cases hc4 : (401 : Int32) ≤ x2
    · rw [if_pos hc4] at h
      cases h
      exact ⟨fun _ he => (by cases he; exact sm_S.rf), fun _ he => (by cases he)⟩
    · rw [if_neg hc4] at h
      by_cases hc5 : (m.1 4 0 6) ≠ (260 : Int32)
      · rw [if_pos hc5] at h
        cases h
        exact ⟨fun _ he => (by cases he; exact sm_S.rf), fun _ he => (by cases he)⟩
      · rw [if_neg hc5] at h
        obtain ⟨r6, h7, h⟩ := am_bd h
        have k_r6 : sm_S m r6 := sm_S.tr sm_S.rf (ks_X5_put 260 0 m r6 h7)
        obtain ⟨r8, h9, h⟩ := am_bd h
        have k_r8 : sm_S m r8 := sm_S.tr k_r6 (ks_X4_goTo ((r6.1 4 0 5) + (1 : Int32)) r6 r8 h9)
        obtain ⟨r10, h11, h⟩ := am_bd h
        have k_r10 : sm_S m r10.2 := sm_S.tr k_r8 (hrc 2 _ _ _ h11)
        by_cases hc12 : r10.1 ≠ 0
        · rw [if_pos hc12] at h
          obtain ⟨r13, h14, h⟩ := am_bd h
          have k_r13 : sm_S m r13 := sm_S.tr k_r10 (ks_X5_skipToHere (m.1 5 0 3) 260 r10.2 r13 h14)
          exact ⟨fun t' he => sm_S.tr k_r13 ((ih h).1 t' he), fun t' he => sm_S.tr k_r13 ((ih h).2 t' he)⟩
        · rw [if_neg hc12] at h
          cases h
          exact ⟨fun _ he => (by cases he), fun _ he => (by cases he; exact k_r10)⟩
set_option maxRecDepth 100000 in
theorem ks_X4_readBoth (rc : am_rc) (hrc : ∀ w a m t, rc w a m = some t → sm_S m t.2) (a1 : Int32) (m : am_m) (t : Int32 × am_m) (h : fn_X4_readBoth rc a1 m = some t) : sm_S m t.2 := by
  unfold fn_X4_readBoth at h
  obtain ⟨r1, h2, h⟩ := am_bd h
  have k_r1 : sm_S m r1.2 := sm_S.tr sm_S.rf (hrc 2 _ _ _ h2)
  by_cases hc3 : r1.1 ≠ 0
  · rw [if_pos hc3] at h
    obtain ⟨w18, h16, h⟩ := am_bd h
    rcases w18 with q15 | rr17
    · have k_q15 : sm_S m q15 := sm_S.tr k_r1 ((kt_X4_readBoth_12 rc hrc (h := h16)).1 _ rfl)
      dsimp only at h
      cases h
      exact k_q15
    · cases h
      exact sm_S.tr k_r1 ((kt_X4_readBoth_12 rc hrc (h := h16)).2 _ rfl)
  · rw [if_neg hc3] at h
    cases h
    exact k_r1
set_option maxRecDepth 100000 in
theorem kt_X4_readTest_12 (rc : am_rc) (hrc : ∀ w a m t, rc w a m = some t → sm_S m t.2) {n : Nat} {x1 : Int32} {x2 : Int32} {m : am_m} {t : Sum (am_m) (Int32 × am_m)} (h : lp_X4_readTest_12 rc n x1 x2 m = some t) : (∀ t', t = .inl t' → sm_S m t') ∧ (∀ t', t = .inr t' → sm_S m t'.2) := by
  induction n generalizing x2 m with
  | zero => cases h
  | succ n ih =>
    unfold lp_X4_readTest_12 at h
    by_cases hc4 : (401 : Int32) ≤ x2
    · rw [if_pos hc4] at h
      cases h
      exact ⟨fun _ he => (by cases he; exact sm_S.rf), fun _ he => (by cases he)⟩
    · rw [if_neg hc4] at h
      by_cases hc5 : (m.1 4 0 6) ≠ (259 : Int32)
      · rw [if_pos hc5] at h
        cases h
        exact ⟨fun _ he => (by cases he; exact sm_S.rf), fun _ he => (by cases he)⟩
      · rw [if_neg hc5] at h
        obtain ⟨r6, h7, h⟩ := am_bd h
        have k_r6 : sm_S m r6 := sm_S.tr sm_S.rf (ks_X5_put 259 0 m r6 h7)
        obtain ⟨r8, h9, h⟩ := am_bd h
        have k_r8 : sm_S m r8 := sm_S.tr k_r6 (ks_X4_goTo ((r6.1 4 0 5) + (1 : Int32)) r6 r8 h9)
        obtain ⟨r10, h11, h⟩ := am_bd h
        have k_r10 : sm_S m r10.2 := sm_S.tr k_r8 (hrc 1 _ _ _ h11)
        by_cases hc12 : r10.1 ≠ 0
        · rw [if_pos hc12] at h
          obtain ⟨r13, h14, h⟩ := am_bd h
          have k_r13 : sm_S m r13 := sm_S.tr k_r10 (ks_X5_skipToHere (m.1 5 0 3) 259 r10.2 r13 h14)
          exact ⟨fun t' he => sm_S.tr k_r13 ((ih h).1 t' he), fun t' he => sm_S.tr k_r13 ((ih h).2 t' he)⟩
        · rw [if_neg hc12] at h
          cases h
          exact ⟨fun _ he => (by cases he), fun _ he => (by cases he; exact k_r10)⟩
set_option maxRecDepth 100000 in
theorem ks_X4_readTest (rc : am_rc) (hrc : ∀ w a m t, rc w a m = some t → sm_S m t.2) (a1 : Int32) (m : am_m) (t : Int32 × am_m) (h : fn_X4_readTest rc a1 m = some t) : sm_S m t.2 := by
  unfold fn_X4_readTest at h
  obtain ⟨r1, h2, h⟩ := am_bd h
  have k_r1 : sm_S m r1.2 := sm_S.tr sm_S.rf (hrc 1 _ _ _ h2)
  by_cases hc3 : r1.1 ≠ 0
  · rw [if_pos hc3] at h
    obtain ⟨w18, h16, h⟩ := am_bd h
    rcases w18 with q15 | rr17
    · have k_q15 : sm_S m q15 := sm_S.tr k_r1 ((kt_X4_readTest_12 rc hrc (h := h16)).1 _ rfl)
      dsimp only at h
      cases h
      exact k_q15
    · cases h
      exact sm_S.tr k_r1 ((kt_X4_readTest_12 rc hrc (h := h16)).2 _ rfl)
  · rw [if_neg hc3] at h
    cases h
    exact k_r1
-- am_rd
theorem am_rd_ks : ∀ (n w : Nat) (a : Int32) (m : am_m) (t : Int32 × am_m), am_rd n w a m = some t → sm_S m t.2
  | 0, _, _, _, _, h => by cases h
  | n + 1, w, a, m, t, h => by
    match w, h with
    | 0, h => exact ks_X4_readTest (am_rd n) (am_rd_ks n) a m t h
    | 1, h => exact ks_X4_readBoth (am_rd n) (am_rd_ks n) a m t h
    | 2, h => exact ks_X4_readPlain (am_rd n) (am_rd_ks n) a m t h
    | 3, h => exact ks_X4_readCompared (am_rd n) (am_rd_ks n) a m t h
    | 4, h => exact ks_X4_readSum (am_rd n) (am_rd_ks n) a m t h
    | 5, h => exact ks_X4_readTerm (am_rd n) (am_rd_ks n) a m t h
    | 6, h => exact ks_X4_readPart (am_rd n) (am_rd_ks n) a m t h
    | w + 7, h => cases h
set_option maxRecDepth 100000 in
theorem kt_X5_open_23 {n : Nat} {x1 : Int32} {x2 : Int32} {x3 : Int32} {m : am_m} {t : am_m} (h : lp_X5_open_23 n 0 x1 x2 x3 m = some t) : sm_S m t := by
  induction n generalizing x3 m with
  | zero => cases h
  | succ n ih =>
    unfold lp_X5_open_23 at h
    by_cases hc2 : (6 : Int32) ≤ x3
    · rw [if_pos hc2] at h
      cases h
      exact sm_S.rf
    · rw [if_neg hc2] at h
      obtain ⟨hg3, h⟩ := am_ck_some h
      exact sm_S.tr (sm_S.si sm_S.rf rfl) (ih h)
set_option maxRecDepth 100000 in
theorem ks_X5_open (a1 : Int32) (m : am_m) (t : am_m) (h : fn_X5_open 0 a1 m = some t) : sm_S m t := by
  unfold fn_X5_open at h
  by_cases hc1 : (((m.1 5 0 2) * (6 : Int32)) + (6 : Int32)) ≤ (Int32.ofNat (m.2.2.2.2.2.2.1 28 0))
  · rw [if_pos hc1] at h
    obtain ⟨q4, h5, h⟩ := am_bd h
    have k_q4 : sm_S m q4 := sm_S.tr sm_S.rf (kt_X5_open_23 (h := h5))
    obtain ⟨hg6, h⟩ := am_ck_some h
    obtain ⟨hg7, h⟩ := am_ck_some h
    cases h
    exact (sm_S.si (sm_S.si (sm_S.si k_q4 rfl) rfl) rfl)
  · rw [if_neg hc1] at h
    cases h
    exact sm_S.rf
set_option maxRecDepth 100000 in
theorem kt_X4_readClause_42 {n : Nat} {x1 : Int32} {x2 : Int32} {m : am_m} {t : Sum (am_m) (Int32 × am_m)} (h : lp_X4_readClause_42 n x1 x2 m = some t) : (∀ t', t = .inl t' → sm_S m t') ∧ (∀ t', t = .inr t' → sm_S m t'.2) := by
  induction n generalizing x2 m with
  | zero => cases h
  | succ n ih =>
    unfold lp_X4_readClause_42 at h
    by_cases hc8 : x1 ≤ x2
    · rw [if_pos hc8] at h
      cases h
      exact ⟨fun _ he => (by cases he; exact sm_S.rf), fun _ he => (by cases he)⟩
    · rw [if_neg hc8] at h
      by_cases hc9 : x2 ≤ 0
      · rw [if_pos hc9] at h
        obtain ⟨r10, h11, h⟩ := am_bd h
        have k_r10 : sm_S m r10 := sm_S.tr sm_S.rf (ks_X5_mark ((3 : Int32) + x2) (m.1 5 0 3) m r10 h11)
        obtain ⟨r12, h13, h⟩ := am_bd h
        have k_r12 : sm_S m r12.2 := sm_S.tr k_r10 (am_rd_ks 40 4 _ _ _ h13)
        by_cases hc14 : r12.1 ≠ 0
        · rw [if_pos hc14] at h
          obtain ⟨r15, h16, h⟩ := am_bd h
          have k_r15 : sm_S m r15 := sm_S.tr k_r12 (ks_X5_put 257 0 r12.2 r15 h16)
          exact ⟨fun t' he => sm_S.tr k_r15 ((ih h).1 t' he), fun t' he => sm_S.tr k_r15 ((ih h).2 t' he)⟩
        · rw [if_neg hc14] at h
          cases h
          exact ⟨fun _ he => (by cases he), fun _ he => (by cases he; exact k_r12)⟩
      · rw [if_neg hc9] at h
        obtain ⟨r18, h19, h⟩ := am_bd h
        have k_r18 : sm_S m r18.2 := sm_S.tr sm_S.rf (ks_X4_took (if x2 ≠ (1 : Int32) then (265 : Int32) else (264 : Int32)) m r18 h19)
        by_cases hc20 : r18.1 ≠ 0
        · rw [if_pos hc20] at h
          obtain ⟨r21, h22, h⟩ := am_bd h
          have k_r21 : sm_S m r21 := sm_S.tr k_r18 (ks_X5_mark ((3 : Int32) + x2) (r18.2.1 5 0 3) r18.2 r21 h22)
          obtain ⟨r23, h24, h⟩ := am_bd h
          have k_r23 : sm_S m r23.2 := sm_S.tr k_r21 (am_rd_ks 40 4 _ _ _ h24)
          by_cases hc25 : r23.1 ≠ 0
          · rw [if_pos hc25] at h
            obtain ⟨r26, h27, h⟩ := am_bd h
            have k_r26 : sm_S m r26 := sm_S.tr k_r23 (ks_X5_put 257 0 r23.2 r26 h27)
            exact ⟨fun t' he => sm_S.tr k_r26 ((ih h).1 t' he), fun t' he => sm_S.tr k_r26 ((ih h).2 t' he)⟩
          · rw [if_neg hc25] at h
            cases h
            exact ⟨fun _ he => (by cases he), fun _ he => (by cases he; exact k_r23)⟩
        · rw [if_neg hc20] at h
          cases h
          exact ⟨fun _ he => (by cases he), fun _ he => (by cases he; exact k_r18)⟩
set_option maxRecDepth 100000 in
theorem ks_X4_readClause  (m : am_m) (t : Int32 × am_m) (h : fn_X4_readClause  m = some t) : sm_S m t.2 := by
  unfold fn_X4_readClause at h
  obtain ⟨r1, h2, h⟩ := am_bd h
  by_cases hc3 : r1 ≠ (-1 : Int32)
  · rw [if_pos hc3] at h
    obtain ⟨r4, h5, h⟩ := am_bd h
    have k_r4 : sm_S m r4 := sm_S.tr sm_S.rf (ks_X5_open (m.1 4 0 6) m r4 h5)
    obtain ⟨r6, h7, h⟩ := am_bd h
    have k_r6 : sm_S m r6 := sm_S.tr k_r4 (ks_X4_goTo ((r4.1 4 0 5) + (1 : Int32)) r4 r6 h7)
    obtain ⟨w66, h29, h⟩ := am_bd h
    rcases w66 with q28 | rr65
    · have k_q28 : sm_S m q28 := sm_S.tr k_r6 ((kt_X4_readClause_42 (h := h29)).1 _ rfl)
      dsimp only at h
      by_cases hc30 : (q28.1 4 0 6) ≠ (263 : Int32)
      · rw [if_pos hc30] at h
        by_cases hc31 : (q28.1 4 0 6) ≠ (262 : Int32)
        · rw [if_pos hc31] at h
          cases h
          exact k_q28
        · rw [if_neg hc31] at h
          obtain ⟨r32, h33, h⟩ := am_bd h
          have k_r32 : sm_S m r32 := sm_S.tr k_q28 (ks_X4_goTo ((q28.1 4 0 5) + (1 : Int32)) q28 r32 h33)
          obtain ⟨r34, h35, h⟩ := am_bd h
          have k_r34 : sm_S m r34 := sm_S.tr k_r32 (ks_X5_mark 2 (r32.1 5 0 3) r32 r34 h35)
          obtain ⟨r36, h37, h⟩ := am_bd h
          have k_r36 : sm_S m r36.2 := sm_S.tr k_r34 (am_rd_ks 40 0 _ _ _ h37)
          by_cases hc38 : r36.1 ≠ 0
          · rw [if_pos hc38] at h
            obtain ⟨r39, h40, h⟩ := am_bd h
            have k_r39 : sm_S m r39 := sm_S.tr k_r36 (ks_X5_put 257 0 r36.2 r39 h40)
            cases h
            exact k_r39
          · rw [if_neg hc38] at h
            cases h
            exact k_r36
      · rw [if_neg hc30] at h
        by_cases hc41 : (q28.1 4 0 9) = 0
        · rw [if_pos hc41] at h
          by_cases hc42 : (q28.1 4 0 6) ≠ (262 : Int32)
          · rw [if_pos hc42] at h
            cases h
            exact k_q28
          · rw [if_neg hc42] at h
            obtain ⟨r43, h44, h⟩ := am_bd h
            have k_r43 : sm_S m r43 := sm_S.tr k_q28 (ks_X4_goTo ((q28.1 4 0 5) + (1 : Int32)) q28 r43 h44)
            obtain ⟨r45, h46, h⟩ := am_bd h
            have k_r45 : sm_S m r45 := sm_S.tr k_r43 (ks_X5_mark 2 (r43.1 5 0 3) r43 r45 h46)
            obtain ⟨r47, h48, h⟩ := am_bd h
            have k_r47 : sm_S m r47.2 := sm_S.tr k_r45 (am_rd_ks 40 0 _ _ _ h48)
            by_cases hc49 : r47.1 ≠ 0
            · rw [if_pos hc49] at h
              obtain ⟨r50, h51, h⟩ := am_bd h
              have k_r50 : sm_S m r50 := sm_S.tr k_r47 (ks_X5_put 257 0 r47.2 r50 h51)
              cases h
              exact k_r50
            · rw [if_neg hc49] at h
              cases h
              exact k_r47
        · rw [if_neg hc41] at h
          obtain ⟨r52, h53, h⟩ := am_bd h
          have k_r52 : sm_S m r52.2 := sm_S.tr k_q28 (ks_X4_readTimes  q28 r52 h53)
          by_cases hc54 : r52.1 ≠ 0
          · rw [if_pos hc54] at h
            by_cases hc55 : (r52.2.1 4 0 6) ≠ (262 : Int32)
            · rw [if_pos hc55] at h
              cases h
              exact k_r52
            · rw [if_neg hc55] at h
              obtain ⟨r56, h57, h⟩ := am_bd h
              have k_r56 : sm_S m r56 := sm_S.tr k_r52 (ks_X4_goTo ((r52.2.1 4 0 5) + (1 : Int32)) r52.2 r56 h57)
              obtain ⟨r58, h59, h⟩ := am_bd h
              have k_r58 : sm_S m r58 := sm_S.tr k_r56 (ks_X5_mark 2 (r56.1 5 0 3) r56 r58 h59)
              obtain ⟨r60, h61, h⟩ := am_bd h
              have k_r60 : sm_S m r60.2 := sm_S.tr k_r58 (am_rd_ks 40 0 _ _ _ h61)
              by_cases hc62 : r60.1 ≠ 0
              · rw [if_pos hc62] at h
                obtain ⟨r63, h64, h⟩ := am_bd h
                have k_r63 : sm_S m r63 := sm_S.tr k_r60 (ks_X5_put 257 0 r60.2 r63 h64)
                cases h
                exact k_r63
              · rw [if_neg hc62] at h
                cases h
                exact k_r60
          · rw [if_neg hc54] at h
            cases h
            exact k_r52
    · cases h
      exact sm_S.tr k_r6 ((kt_X4_readClause_42 (h := h29)).2 _ rfl)
  · rw [if_neg hc3] at h
    obtain ⟨r67, h68, h⟩ := am_bd h
    have k_r67 : sm_S m r67.2 := sm_S.tr sm_S.rf (ks_X4_failed  m r67 h68)
    obtain ⟨hz69, h⟩ := am_gd_some h
    cases h
    exact k_r67
set_option maxRecDepth 100000 in
theorem ks_X5_clear (m : am_m) (t : am_m) (h : fn_X5_clear 0 m = some t) : sm_S m t := by
  unfold fn_X5_clear at h
  cases h
  exact (sm_S.si (sm_S.si (sm_S.si sm_S.rf rfl) rfl) rfl)
set_option maxRecDepth 100000 in
theorem kt_X4_readWhole_39 {n : Nat} {x3 : Int32} {m : am_m} {t : Sum (am_m) (Int32 × am_m)} (h : lp_X4_readWhole_39 n x3 m = some t) : (∀ t', t = .inl t' → sm_S m t') ∧ (∀ t', t = .inr t' → sm_S m t'.2) := by
  induction n generalizing x3 m with
  | zero => cases h
  | succ n ih =>
    unfold lp_X4_readWhole_39 at h
    by_cases hc8 : (12 : Int32) ≤ x3
    · rw [if_pos hc8] at h
      cases h
      exact ⟨fun _ he => (by cases he; exact sm_S.rf), fun _ he => (by cases he)⟩
    · rw [if_neg hc8] at h
      obtain ⟨r9, h10, h⟩ := am_bd h
      have k_r9 : sm_S m r9.2 := sm_S.tr sm_S.rf (ks_X4_readClause  m r9 h10)
      by_cases hc11 : r9.1 ≠ 0
      · rw [if_pos hc11] at h
        by_cases hc12 : (r9.2.1 4 0 6) ≠ (257 : Int32)
        · rw [if_pos hc12] at h
          obtain ⟨r13, h14, h⟩ := am_bd h
          have k_r13 : sm_S m r13.2 := sm_S.tr k_r9 (ks_X4_took 59 r9.2 r13 h14)
          by_cases hc15 : r13.1 ≠ 0
          · rw [if_pos hc15] at h
            exact ⟨fun t' he => sm_S.tr k_r13 ((ih h).1 t' he), fun t' he => sm_S.tr k_r13 ((ih h).2 t' he)⟩
          · rw [if_neg hc15] at h
            cases h
            exact ⟨fun _ he => (by cases he), fun _ he => (by cases he; exact k_r13)⟩
        · rw [if_neg hc12] at h
          cases h
          exact ⟨fun _ he => (by cases he), fun _ he => (by cases he; exact k_r9)⟩
      · rw [if_neg hc11] at h
        cases h
        exact ⟨fun _ he => (by cases he), fun _ he => (by cases he; exact k_r9)⟩
set_option maxRecDepth 100000 in
theorem ks_X4_readWhole (a2 : Int32) (m : am_m) (t : Int32 × am_m) (h : fn_X4_readWhole a2 m = some t) : sm_S m t.2 := by
  unfold fn_X4_readWhole at h
  obtain ⟨r1, h2, h⟩ := am_bd h
  have k_r1 : sm_S m r1 := sm_S.tr sm_S.rf (ks_X4_split  m r1 h2)
  obtain ⟨r3, h4, h⟩ := am_bd h
  have k_r3 : sm_S m r3 := sm_S.tr (sm_S.si k_r1 rfl) (ks_X5_clear (am_si r1 7 0 1 0) r3 h4)
  obtain ⟨hz5, h⟩ := am_gd_some h
  obtain ⟨r6, h7, h⟩ := am_bd h
  have k_r6 : sm_S m r6 := sm_S.tr (sm_S.si (sm_S.si (sm_S.si k_r3 rfl) rfl) rfl) (ks_X4_goTo 0 (am_si (am_si (am_si r3 4 0 8 0) 4 0 9 a2) 4 0 10 (-1)) r6 h7)
  obtain ⟨w22, h17, h⟩ := am_bd h
  rcases w22 with q16 | rr21
  · have k_q16 : sm_S m q16 := sm_S.tr k_r6 ((kt_X4_readWhole_39 (h := h17)).1 _ rfl)
    dsimp only at h
    obtain ⟨r18, h19, h⟩ := am_bd h
    have k_r18 : sm_S m r18.2 := sm_S.tr k_q16 (ks_X4_failed  q16 r18 h19)
    obtain ⟨hz20, h⟩ := am_gd_some h
    cases h
    exact k_r18
  · cases h
    exact sm_S.tr k_r6 ((kt_X4_readWhole_39 (h := h17)).2 _ rfl)
