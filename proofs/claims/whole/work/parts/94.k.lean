/-! while it is not bad the reference's FAULT stays as it was; by program (wip/whole/gen/bfr.py) -/
def BF (m m' : am_m) : Prop := m'.1 10 0 19 = 0 → m.1 10 0 19 = 0 ∧ m'.1 10 0 18 = m.1 10 0 18
section BFS
variable {m m1 m2 : am_m}
theorem BF.rf : BF m m := fun z => ⟨z, rfl⟩
theorem BF.tr (h : BF m m1) (g : BF m1 m2) : BF m m2 := fun z => ⟨(h (g z).1).1, (g z).2.trans (h (g z).1).2⟩
theorem BF.si {c n k : Nat} {v : Int32} (h : BF m m1) (hw : am_hit [(10, 18), (10, 19)] c k = false) : BF m (am_si m1 c n k v) := by
  have e : ∀ j, j = 18 ∨ j = 19 → (am_si m1 c n k v).1 10 0 j = m1.1 10 0 j := fun j hj => by
    rw [rd_si]
    refine if_neg (fun z => ?_)
    obtain ⟨rfl, -, rfl⟩ := z
    rcases hj with rfl | rfl <;> cases hw
  intro z
  rw [e 19 (Or.inr rfl)] at z
  rw [e 18 (Or.inl rfl)]
  exact h z
theorem BF.sg {c n k : Nat} {v : Int64} (h : BF m m1) (_ : Nat.ble 0 0 = true) : BF m (am_sg m1 c n k v) := h
end BFS
set_option maxRecDepth 100000 in
theorem bl_X10_next_8 {n : Nat} {m : am_m} {t : am_m} (h : lp_X10_next_8 n  m = some t) : BF m t := by
  induction n generalizing m with
  | zero => cases h
  | succ n ih =>
    unfold lp_X10_next_8 at h
    by_cases hc1 : (m.1 10 0 13) ≤ (m.1 10 0 14)
    · rw [if_pos hc1] at h
      cases h
      exact BF.rf
    · rw [if_neg hc1] at h
      obtain ⟨hg2, h⟩ := am_ck_some h
      by_cases hc3 : (m.1 50 0 (m.1 10 0 14).toNatClampNeg) ≠ (32 : Int32)
      · rw [if_pos hc3] at h
        cases h
        exact BF.rf
      · rw [if_neg hc3] at h
        exact BF.tr (BF.si BF.rf rfl) (ih h)
set_option maxRecDepth 100000 in
theorem bl_X10_next_149 {n : Nat} {m : am_m} {t : am_m} (h : lp_X10_next_149 n  m = some t) : BF m t := by
  induction n generalizing m with
  | zero => cases h
  | succ n ih =>
    unfold lp_X10_next_149 at h
    by_cases hc21 : (m.1 10 0 16) ≠ (1 : Int32)
    · rw [if_pos hc21] at h
      cases h
      exact BF.rf
    · rw [if_neg hc21] at h
      by_cases hc22 : (m.1 10 0 13) ≤ (m.1 10 0 15)
      · rw [if_pos hc22] at h
        cases h
        exact BF.rf
      · rw [if_neg hc22] at h
        obtain ⟨hg23, h⟩ := am_ck_some h
        obtain ⟨r24, h25, h⟩ := am_bd h
        by_cases hc26 : r24 = 0
        · rw [if_pos hc26] at h
          cases h
          exact BF.rf
        · rw [if_neg hc26] at h
          obtain ⟨q29, h30, h⟩ := am_bd h
          exact BF.tr (BF.si (BF.sg BF.rf rfl) rfl) (ih h)
set_option maxRecDepth 100000 in
theorem bl_X10_next_243 {n : Nat} {m : am_m} {t : am_m} (h : lp_X10_next_243 n  m = some t) : BF m t := by
  induction n generalizing m with
  | zero => cases h
  | succ n ih =>
    unfold lp_X10_next_243 at h
    by_cases hc33 : (m.1 10 0 16) ≠ (2 : Int32)
    · rw [if_pos hc33] at h
      cases h
      exact BF.rf
    · rw [if_neg hc33] at h
      by_cases hc34 : (m.1 10 0 13) ≤ (m.1 10 0 15)
      · rw [if_pos hc34] at h
        cases h
        exact BF.rf
      · rw [if_neg hc34] at h
        obtain ⟨hg35, h⟩ := am_ck_some h
        obtain ⟨r36, h37, h⟩ := am_bd h
        by_cases hc38 : r36 = 0
        · rw [if_pos hc38] at h
          cases h
          exact BF.rf
        · rw [if_neg hc38] at h
          obtain ⟨q41, h42, h⟩ := am_bd h
          exact BF.tr (BF.si (BF.sg BF.rf rfl) rfl) (ih h)
set_option maxRecDepth 100000 in
theorem bf_X10_next  (m : am_m) (t : am_m) (h : fn_X10_next  m = some t) : BF m t := by
  unfold fn_X10_next at h
  obtain ⟨q4, h5, h⟩ := am_bd h
  have k_q4 : BF m q4 := BF.tr (BF.si BF.rf rfl) (bl_X10_next_8 (h := h5))
  obtain ⟨q15, h16, h⟩ := am_bd h
  obtain ⟨q19, h20, h⟩ := am_bd h
  have k_q19 : BF m q19 := by
    have h := h20
    by_cases hc17 : q15 ≠ (3 : Int32)
    · rw [if_pos hc17] at h
      cases h
      exact (BF.si (BF.sg (BF.si k_q4 rfl) rfl) rfl)
    · rw [if_neg hc17] at h
      obtain ⟨hg18, h⟩ := am_ck_some h
      cases h
      exact (BF.si (BF.sg (BF.si (BF.sg (BF.si k_q4 rfl) rfl) rfl) rfl) rfl)
  obtain ⟨q31, h32, h⟩ := am_bd h
  have k_q31 : BF m q31 := BF.tr k_q19 (bl_X10_next_149 (h := h32))
  obtain ⟨q43, h44, h⟩ := am_bd h
  have k_q43 : BF m q43 := BF.tr k_q31 (bl_X10_next_243 (h := h44))
  cases h
  exact k_q43
theorem bf_X10_must (a1 : Int32) (m : am_m) (t : am_m) (h : fn_X10_must a1 m = some t) : BF m t := by
  unfold fn_X10_must at h
  by_cases h1 : (m.1 10 0 19) ≠ 0
  · rw [if_pos h1, bd_s, if_pos h1] at h
    cases h; exact BF.rf
  · rw [if_neg h1] at h
    by_cases h2 : a1 ≠ 0
    · rw [if_pos h2, bd_s, if_neg h1] at h
      obtain ⟨r, h3, h⟩ := am_bd h
      cases h
      exact bf_X10_next m _ h3
    · rw [if_neg h2, bd_s, if_pos (show (am_si (am_si m 10 0 19 1) 10 0 18 (m.1 10 0 14)).1 10 0 19 ≠ 0 by show (1 : Int32) ≠ 0; decide)] at h
      cases h
      intro z
      exact absurd (show (1 : Int32) = 0 from z) (by decide)
set_option maxRecDepth 100000 in
theorem bf_X10_number (a1 : Int64) (a2 : Int64) (m : am_m) (t : Int32 × am_m) (h : fn_X10_number a1 a2 m = some t) : BF m t.2 := by
  unfold fn_X10_number at h
  obtain ⟨q5, h6, h⟩ := am_bd h
  obtain ⟨r7, h8, h⟩ := am_bd h
  have k_r7 : BF m r7 := BF.tr BF.rf (bf_X10_must q5 m r7 h8)
  cases h
  exact k_r7
set_option maxRecDepth 100000 in
theorem bf_X10_emit (a1 : Int32) (a2 : Int32) (m : am_m) (t : am_m) (h : fn_X10_emit a1 a2 m = some t) : BF m t := by
  unfold fn_X10_emit at h
  obtain ⟨hg1, h⟩ := am_ck_some h
  obtain ⟨hg2, h⟩ := am_ck_some h
  cases h
  exact (BF.si (BF.si (BF.si BF.rf rfl) rfl) rfl)
set_option maxRecDepth 100000 in
theorem bf_X10_push (a1 : Int32) (a2 : Int32) (m : am_m) (t : am_m) (h : fn_X10_push a1 a2 m = some t) : BF m t := by
  unfold fn_X10_push at h
  obtain ⟨hg1, h⟩ := am_ck_some h
  obtain ⟨hg2, h⟩ := am_ck_some h
  cases h
  exact (BF.si (BF.si (BF.si BF.rf rfl) rfl) rfl)
set_option maxRecDepth 100000 in
theorem bl_X10_settle_0 {n : Nat} {x1 : Int32} {m : am_m} {t : am_m} (h : lp_X10_settle_0 n x1 m = some t) : BF m t := by
  induction n generalizing m with
  | zero => cases h
  | succ n ih =>
    unfold lp_X10_settle_0 at h
    by_cases hc1 : (m.1 10 0 29) ≤ 0
    · rw [if_pos hc1] at h
      cases h
      exact BF.rf
    · rw [if_neg hc1] at h
      obtain ⟨hg2, h⟩ := am_ck_some h
      obtain ⟨r3, h4, h⟩ := am_bd h
      by_cases hc5 : r3 < x1
      · rw [if_pos hc5] at h
        cases h
        exact BF.rf
      · rw [if_neg hc5] at h
        obtain ⟨hg6, h⟩ := am_ck_some h
        by_cases hc7 : (m.1 54 0 ((m.1 10 0 29) - (1 : Int32)).toNatClampNeg) = (29 : Int32)
        · rw [if_pos hc7] at h
          obtain ⟨hg8, h⟩ := am_ck_some h
          obtain ⟨hg9, h⟩ := am_ck_some h
          exact BF.tr (BF.si (BF.si BF.rf rfl) rfl) (ih h)
        · rw [if_neg hc7] at h
          obtain ⟨hg10, h⟩ := am_ck_some h
          by_cases hc11 : (m.1 54 0 ((m.1 10 0 29) - (1 : Int32)).toNatClampNeg) ≠ (30 : Int32)
          · rw [if_pos hc11] at h
            obtain ⟨hg12, h⟩ := am_ck_some h
            obtain ⟨r13, h14, h⟩ := am_bd h
            have k_r13 : BF m r13 := BF.tr (BF.si BF.rf rfl) (bf_X10_emit (m.1 54 0 ((m.1 10 0 29) - (1 : Int32)).toNatClampNeg) 0 (am_si m 10 0 29 ((m.1 10 0 29) - (1 : Int32))) r13 h14)
            exact BF.tr k_r13 (ih h)
          · rw [if_neg hc11] at h
            obtain ⟨hg15, h⟩ := am_ck_some h
            obtain ⟨hg16, h⟩ := am_ck_some h
            exact BF.tr (BF.si (BF.si BF.rf rfl) rfl) (ih h)
set_option maxRecDepth 100000 in
theorem bf_X10_settle (a1 : Int32) (m : am_m) (t : am_m) (h : fn_X10_settle a1 m = some t) : BF m t := by
  unfold fn_X10_settle at h
  obtain ⟨q17, h18, h⟩ := am_bd h
  have k_q17 : BF m q17 := BF.tr BF.rf (bl_X10_settle_0 (h := h18))
  cases h
  exact k_q17
set_option maxRecDepth 100000 in
theorem bf_X10_openBracket (a1 : Int32) (m : am_m) (t : am_m) (h : fn_X10_openBracket a1 m = some t) : BF m t := by
  unfold fn_X10_openBracket at h
  obtain ⟨r2, h3, h⟩ := am_bd h
  have k_r2 : BF m r2 := BF.tr BF.rf (bf_X10_must (if (8 : Int32) ≤ (m.1 10 0 30) then (0 : Int32) else (1 : Int32)) m r2 h3)
  by_cases hc4 : (r2.1 10 0 19) ≠ 0
  · rw [if_pos hc4] at h
    cases h
    exact k_r2
  · rw [if_neg hc4] at h
    obtain ⟨r5, h6, h⟩ := am_bd h
    have k_r5 : BF m r5 := BF.tr (BF.si k_r2 rfl) (bf_X10_push a1 0 (am_si r2 10 0 30 ((r2.1 10 0 30) + (1 : Int32))) r5 h6)
    cases h
    exact k_r5
set_option maxRecDepth 100000 in
theorem bf_X10_leaf (a1 : Int32) (a2 : Int32) (a3 : Int32) (m : am_m) (t : am_m) (h : fn_X10_leaf a1 a2 a3 m = some t) : BF m t := by
  unfold fn_X10_leaf at h
  obtain ⟨q3, h4, h⟩ := am_bd h
  obtain ⟨r5, h6, h⟩ := am_bd h
  have k_r5 : BF m r5 := BF.tr BF.rf (bf_X10_must q3 m r5 h6)
  by_cases hc7 : (r5.1 10 0 19) ≠ 0
  · rw [if_pos hc7] at h
    cases h
    exact k_r5
  · rw [if_neg hc7] at h
    obtain ⟨r8, h9, h⟩ := am_bd h
    have k_r8 : BF m r8 := BF.tr k_r5 (bf_X10_emit a2 a3 r5 r8 h9)
    cases h
    exact (BF.si k_r8 rfl)
set_option maxRecDepth 100000 in
theorem bf_X10_readPart  (m : am_m) (t : Int32 × am_m) (h : fn_X10_readPart  m = some t) : BF m t.2 := by
  unfold fn_X10_readPart at h
  obtain ⟨r1, h2, h⟩ := am_bd h
  by_cases hc3 : r1 = 0
  · rw [if_pos hc3] at h
    obtain ⟨q9, h10, h⟩ := am_bd h
    obtain ⟨q13, h14, h⟩ := am_bd h
    obtain ⟨q17, h18, h⟩ := am_bd h
    obtain ⟨r21, h22, h⟩ := am_bd h
    have k_r21 : BF m r21 := BF.tr BF.rf (bf_X10_leaf q17 (if q9 ≠ (-1 : Int32) then q9 else (0 : Int32)) (if q13 = 0 then (0 : Int32) else ((m.2.1 10 0 17).toInt32)) m r21 h22)
    by_cases hc23 : (r21.1 10 0 20) = 0
    · rw [if_pos hc23] at h
      cases h
      exact k_r21
    · rw [if_neg hc23] at h
      by_cases hc24 : q9 < (6 : Int32)
      · rw [if_pos hc24] at h
        cases h
        exact k_r21
      · rw [if_neg hc24] at h
        by_cases hc25 : (r21.1 10 0 19) ≠ 0
        · rw [if_pos hc25] at h
          cases h
          exact k_r21
        · rw [if_neg hc25] at h
          obtain ⟨r26, h27, h⟩ := am_bd h
          have k_r26 : BF m r26.2 := BF.tr k_r21 (bf_X10_number 0 6 r21 r26 h27)
          obtain ⟨hg28, h⟩ := am_ck_some h
          cases h
          exact (BF.si k_r26 rfl)
  · rw [if_neg hc3] at h
    obtain ⟨r29, h30, h⟩ := am_bd h
    have k_r29 : BF m r29 := BF.tr BF.rf (bf_X10_openBracket 32 m r29 h30)
    cases h
    exact k_r29
set_option maxRecDepth 100000 in
theorem bf_X10_readPlain  (m : am_m) (t : Int32 × am_m) (h : fn_X10_readPlain  m = some t) : BF m t.2 := by
  unfold fn_X10_readPlain at h
  obtain ⟨r1, h2, h⟩ := am_bd h
  by_cases hc3 : r1 = 0
  · rw [if_pos hc3] at h
    obtain ⟨r4, h5, h⟩ := am_bd h
    by_cases hc6 : r4 = 0
    · rw [if_pos hc6] at h
      obtain ⟨r7, h8, h⟩ := am_bd h
      have k_r7 : BF m r7.2 := BF.tr BF.rf (bf_X10_readPart  m r7 h8)
      cases h
      exact k_r7
    · rw [if_neg hc6] at h
      obtain ⟨r9, h10, h⟩ := am_bd h
      have k_r9 : BF m r9 := BF.tr BF.rf (bf_X10_openBracket 31 m r9 h10)
      cases h
      exact k_r9
  · rw [if_neg hc3] at h
    obtain ⟨r11, h12, h⟩ := am_bd h
    have k_r11 : BF m r11 := BF.tr BF.rf (bf_X10_push 28 0 m r11 h12)
    obtain ⟨r13, h14, h⟩ := am_bd h
    have k_r13 : BF m r13 := BF.tr k_r11 (bf_X10_next  r11 r13 h14)
    cases h
    exact k_r13
set_option maxRecDepth 100000 in
theorem bf_X10_behindSum (a1 : Int32) (m : am_m) (t : Int32 × am_m) (h : fn_X10_behindSum a1 m = some t) : BF m t.2 := by
  unfold fn_X10_behindSum at h
  obtain ⟨r1, h2, h⟩ := am_bd h
  obtain ⟨q16, h17, h⟩ := am_bd h
  by_cases hc18 : q16 = (-1 : Int32)
  · rw [if_pos hc18] at h
    obtain ⟨r19, h20, h⟩ := am_bd h
    by_cases hc21 : r19 ≠ (32 : Int32)
    · rw [if_pos hc21] at h
      by_cases hc22 : r19 ≠ (-1 : Int32)
      · rw [if_pos hc22] at h
        obtain ⟨r23, h24, h⟩ := am_bd h
        by_cases hc25 : r23 = 0
        · rw [if_pos hc25] at h
          obtain ⟨r26, h27, h⟩ := am_bd h
          obtain ⟨q32, h33, h⟩ := am_bd h
          obtain ⟨q38, h39, h⟩ := am_bd h
          obtain ⟨r40, h41, h⟩ := am_bd h
          have k_r40 : BF m r40 := BF.tr BF.rf (bf_X10_must q38 m r40 h41)
          by_cases hc42 : (r40.1 10 0 19) ≠ 0
          · rw [if_pos hc42] at h
            cases h
            exact k_r40
          · rw [if_neg hc42] at h
            obtain ⟨r43, h44, h⟩ := am_bd h
            have k_r43 : BF m r43 := BF.tr k_r40 (bf_X10_settle 5 r40 r43 h44)
            obtain ⟨r45, h46, h⟩ := am_bd h
            have k_r45 : BF m r45 := BF.tr k_r43 (bf_X10_push q32 0 r43 r45 h46)
            cases h
            exact k_r45
        · rw [if_neg hc25] at h
          cases h
          exact BF.rf
      · rw [if_neg hc22] at h
        by_cases hc47 : a1 ≠ 0
        · rw [if_pos hc47] at h
          obtain ⟨r48, h49, h⟩ := am_bd h
          by_cases hc50 : r48 = 0
          · rw [if_pos hc50] at h
            obtain ⟨r51, h52, h⟩ := am_bd h
            obtain ⟨q57, h58, h⟩ := am_bd h
            obtain ⟨q63, h64, h⟩ := am_bd h
            obtain ⟨r65, h66, h⟩ := am_bd h
            have k_r65 : BF m r65 := BF.tr BF.rf (bf_X10_must q63 m r65 h66)
            by_cases hc67 : (r65.1 10 0 19) ≠ 0
            · rw [if_pos hc67] at h
              cases h
              exact k_r65
            · rw [if_neg hc67] at h
              obtain ⟨r68, h69, h⟩ := am_bd h
              have k_r68 : BF m r68 := BF.tr k_r65 (bf_X10_settle 5 r65 r68 h69)
              obtain ⟨r70, h71, h⟩ := am_bd h
              have k_r70 : BF m r70 := BF.tr k_r68 (bf_X10_push q57 0 r68 r70 h71)
              cases h
              exact k_r70
          · rw [if_neg hc50] at h
            cases h
            exact BF.rf
        · rw [if_neg hc47] at h
          cases h
          exact BF.rf
    · rw [if_neg hc21] at h
      obtain ⟨r72, h73, h⟩ := am_bd h
      obtain ⟨r74, h75, h⟩ := am_bd h
      have k_r74 : BF m r74 := BF.tr BF.rf (bf_X10_must r72 m r74 h75)
      by_cases hc76 : (r74.1 10 0 19) ≠ 0
      · rw [if_pos hc76] at h
        cases h
        exact k_r74
      · rw [if_neg hc76] at h
        obtain ⟨r77, h78, h⟩ := am_bd h
        have k_r77 : BF m r77 := BF.tr k_r74 (bf_X10_settle 5 r74 r77 h78)
        cases h
        exact (BF.si (BF.si k_r77 rfl) rfl)
  · rw [if_neg hc18] at h
    obtain ⟨r79, h80, h⟩ := am_bd h
    obtain ⟨r81, h82, h⟩ := am_bd h
    have k_r81 : BF m r81 := BF.tr BF.rf (bf_X10_settle r79 m r81 h82)
    obtain ⟨r83, h84, h⟩ := am_bd h
    have k_r83 : BF m r83 := BF.tr k_r81 (bf_X10_push q16 0 r81 r83 h84)
    obtain ⟨r85, h86, h⟩ := am_bd h
    have k_r85 : BF m r85 := BF.tr k_r83 (bf_X10_next  r83 r85 h86)
    cases h
    exact k_r85
set_option maxRecDepth 100000 in
theorem bf_X10_behindTest  (m : am_m) (t : Int32 × am_m) (h : fn_X10_behindTest  m = some t) : BF m t.2 := by
  unfold fn_X10_behindTest at h
  obtain ⟨r1, h2, h⟩ := am_bd h
  by_cases hc3 : r1 ≠ 0
  · rw [if_pos hc3] at h
    obtain ⟨r5, h6, h⟩ := am_bd h
    have k_r5 : BF m r5 := BF.tr BF.rf (bf_X10_settle (if r1 = 0 then (1 : Int32) else (2 : Int32)) m r5 h6)
    obtain ⟨r8, h9, h⟩ := am_bd h
    have k_r8 : BF m r8 := BF.tr k_r5 (bf_X10_push (if r1 = 0 then (30 : Int32) else (29 : Int32)) (r5.1 10 0 23) r5 r8 h9)
    obtain ⟨r11, h12, h⟩ := am_bd h
    have k_r11 : BF m r11 := BF.tr k_r8 (bf_X10_emit (if r1 = 0 then (30 : Int32) else (29 : Int32)) 0 r8 r11 h12)
    obtain ⟨r13, h14, h⟩ := am_bd h
    have k_r13 : BF m r13 := BF.tr k_r11 (bf_X10_next  r11 r13 h14)
    cases h
    exact k_r13
  · rw [if_neg hc3] at h
    obtain ⟨r15, h16, h⟩ := am_bd h
    by_cases hc17 : r15 = 0
    · rw [if_pos hc17] at h
      obtain ⟨r18, h19, h⟩ := am_bd h
      by_cases hc20 : r18 ≠ (-1 : Int32)
      · rw [if_pos hc20] at h
        obtain ⟨r21, h22, h⟩ := am_bd h
        obtain ⟨r23, h24, h⟩ := am_bd h
        have k_r23 : BF m r23 := BF.tr BF.rf (bf_X10_must r21 m r23 h24)
        by_cases hc25 : (r23.1 10 0 19) ≠ 0
        · rw [if_pos hc25] at h
          cases h
          exact k_r23
        · rw [if_neg hc25] at h
          obtain ⟨r26, h27, h⟩ := am_bd h
          have k_r26 : BF m r26 := BF.tr k_r23 (bf_X10_settle 1 r23 r26 h27)
          cases h
          exact (BF.si (BF.si k_r26 rfl) rfl)
      · rw [if_neg hc20] at h
        cases h
        exact BF.rf
    · rw [if_neg hc17] at h
      obtain ⟨r29, h30, h⟩ := am_bd h
      have k_r29 : BF m r29 := BF.tr BF.rf (bf_X10_settle (if r1 = 0 then (1 : Int32) else (2 : Int32)) m r29 h30)
      obtain ⟨r32, h33, h⟩ := am_bd h
      have k_r32 : BF m r32 := BF.tr k_r29 (bf_X10_push (if r1 = 0 then (30 : Int32) else (29 : Int32)) (r29.1 10 0 23) r29 r32 h33)
      obtain ⟨r35, h36, h⟩ := am_bd h
      have k_r35 : BF m r35 := BF.tr k_r32 (bf_X10_emit (if r1 = 0 then (30 : Int32) else (29 : Int32)) 0 r32 r35 h36)
      obtain ⟨r37, h38, h⟩ := am_bd h
      have k_r37 : BF m r37 := BF.tr k_r35 (bf_X10_next  r35 r37 h38)
      cases h
      exact k_r37
set_option maxRecDepth 100000 in
theorem bl_X10_readExpression_20 {n : Nat} {x1 : Int32} {x2 : Int32} {m : am_m} {t : am_m} (h : lp_X10_readExpression_20 n x1 x2 m = some t) : BF m t := by
  induction n generalizing x2 m with
  | zero => cases h
  | succ n ih =>
    unfold lp_X10_readExpression_20 at h
    by_cases hc2 : (m.1 10 0 19) ≠ 0
    · rw [if_pos hc2] at h
      cases h
      exact BF.rf
    · rw [if_neg hc2] at h
      by_cases hc3 : x2 = (4 : Int32)
      · rw [if_pos hc3] at h
        cases h
        exact BF.rf
      · rw [if_neg hc3] at h
        obtain ⟨q15, h16, h⟩ := am_bd h
        have k_q15 : BF m q15.2 := by
          have h := h16
          by_cases hc4 : x2 ≠ 0
          · rw [if_pos hc4] at h
            by_cases hc5 : x2 ≠ (1 : Int32)
            · rw [if_pos hc5] at h
              by_cases hc6 : x2 ≠ (3 : Int32)
              · rw [if_pos hc6] at h
                obtain ⟨r7, h8, h⟩ := am_bd h
                have k_r7 : BF m r7.2 := BF.tr BF.rf (bf_X10_behindTest  m r7 h8)
                cases h
                exact k_r7
              · rw [if_neg hc6] at h
                obtain ⟨r9, h10, h⟩ := am_bd h
                have k_r9 : BF m r9.2 := BF.tr BF.rf (bf_X10_behindSum x1 m r9 h10)
                cases h
                exact k_r9
            · rw [if_neg hc5] at h
              obtain ⟨r11, h12, h⟩ := am_bd h
              have k_r11 : BF m r11.2 := BF.tr BF.rf (bf_X10_readPart  m r11 h12)
              cases h
              exact k_r11
          · rw [if_neg hc4] at h
            obtain ⟨r13, h14, h⟩ := am_bd h
            have k_r13 : BF m r13.2 := BF.tr BF.rf (bf_X10_readPlain  m r13 h14)
            cases h
            exact k_r13
        exact BF.tr k_q15 (ih h)
set_option maxRecDepth 100000 in
theorem bf_X10_readExpression (a1 : Int32) (m : am_m) (t : am_m) (h : fn_X10_readExpression a1 m = some t) : BF m t := by
  unfold fn_X10_readExpression at h
  obtain ⟨q17, h18, h⟩ := am_bd h
  have k_q17 : BF m q17 := BF.tr (BF.si (BF.si BF.rf rfl) rfl) (bl_X10_readExpression_20 (h := h18))
  obtain ⟨r19, h20, h⟩ := am_bd h
  have k_r19 : BF m r19 := BF.tr k_q17 (bf_X10_settle 1 q17 r19 h20)
  cases h
  exact k_r19
set_option maxRecDepth 100000 in
theorem bl_X10_readLaw_75 {n : Nat} {x1 : Int32} {x2 : Int32} {x3 : Int32} {m : am_m} {t : am_m} (h : lp_X10_readLaw_75 n x1 x2 x3 m = some t) : BF m t := by
  induction n generalizing x3 m with
  | zero => cases h
  | succ n ih =>
    unfold lp_X10_readLaw_75 at h
    by_cases hc15 : (8 : Int32) ≤ x3
    · rw [if_pos hc15] at h
      cases h
      exact BF.rf
    · rw [if_neg hc15] at h
      obtain ⟨hg16, h⟩ := am_ck_some h
      exact BF.tr (BF.si BF.rf rfl) (ih h)
set_option maxRecDepth 100000 in
theorem bf_X10_readLaw  (m : am_m) (t : am_m) (h : fn_X10_readLaw  m = some t) : BF m t := by
  unfold fn_X10_readLaw at h
  obtain ⟨q6, h7, h⟩ := am_bd h
  obtain ⟨q10, h11, h⟩ := am_bd h
  obtain ⟨r12, h13, h⟩ := am_bd h
  have k_r12 : BF m r12 := BF.tr BF.rf (bf_X10_must q10 m r12 h13)
  by_cases hc14 : (r12.1 10 0 19) = 0
  · rw [if_pos hc14] at h
    obtain ⟨q17, h18, h⟩ := am_bd h
    have k_q17 : BF m q17 := BF.tr k_r12 (bl_X10_readLaw_75 (h := h18))
    obtain ⟨hg19, h⟩ := am_ck_some h
    obtain ⟨hg20, h⟩ := am_ck_some h
    obtain ⟨q24, h25, h⟩ := am_bd h
    have k_q24 : BF m q24 := by
      have h := h25
      by_cases hc21 : q6 = (3 : Int32)
      · rw [if_pos hc21] at h
        cases h
        exact (BF.si (BF.si (BF.si k_q17 rfl) rfl) rfl)
      · rw [if_neg hc21] at h
        obtain ⟨r22, h23, h⟩ := am_bd h
        have k_r22 : BF m r22 := BF.tr (BF.si (BF.si (BF.si k_q17 rfl) rfl) rfl) (bf_X10_readExpression 0 (am_si (am_si (am_si q17 51 0 ((8 : Int32) * (r12.1 10 0 21)).toNatClampNeg q6) 10 0 21 ((q17.1 10 0 21) + (1 : Int32))) 51 0 (((8 : Int32) * (r12.1 10 0 21)) + (3 : Int32)).toNatClampNeg (q17.1 10 0 23)) r22 h23)
        cases h
        exact k_r22
    obtain ⟨hg26, h⟩ := am_ck_some h
    obtain ⟨hg27, h⟩ := am_ck_some h
    obtain ⟨q36, h37, h⟩ := am_bd h
    have k_q36 : BF m q36 := by
      have h := h37
      by_cases hc28 : (q24.1 10 0 19) ≠ 0
      · rw [if_pos hc28] at h
        cases h
        exact (BF.si (BF.si k_q24 rfl) rfl)
      · rw [if_neg hc28] at h
        obtain ⟨r29, h30, h⟩ := am_bd h
        by_cases hc31 : r29 = 0
        · rw [if_pos hc31] at h
          cases h
          exact (BF.si (BF.si k_q24 rfl) rfl)
        · rw [if_neg hc31] at h
          obtain ⟨r32, h33, h⟩ := am_bd h
          have k_r32 : BF m r32 := BF.tr (BF.si (BF.si k_q24 rfl) rfl) (bf_X10_next  (am_si (am_si q24 51 0 (((8 : Int32) * (r12.1 10 0 21)) + (4 : Int32)).toNatClampNeg (q24.1 10 0 23)) 51 0 (((8 : Int32) * (r12.1 10 0 21)) + (5 : Int32)).toNatClampNeg (q24.1 10 0 23)) r32 h33)
          obtain ⟨r34, h35, h⟩ := am_bd h
          have k_r34 : BF m r34 := BF.tr k_r32 (bf_X10_readExpression 1 r32 r34 h35)
          cases h
          exact k_r34
    obtain ⟨hg38, h⟩ := am_ck_some h
    cases h
    exact (BF.si k_q36 rfl)
  · rw [if_neg hc14] at h
    cases h
    exact k_r12
set_option maxRecDepth 100000 in
theorem bf_X10_readSum (a1 : Int32) (m : am_m) (t : am_m) (h : fn_X10_readSum a1 m = some t) : BF m t := by
  unfold fn_X10_readSum at h
  obtain ⟨hg1, h⟩ := am_ck_some h
  obtain ⟨q5, h6, h⟩ := am_bd h
  have k_q5 : BF m q5 := by
    have h := h6
    by_cases hc2 : (m.1 10 0 19) ≠ 0
    · rw [if_pos hc2] at h
      cases h
      exact (BF.si BF.rf rfl)
    · rw [if_neg hc2] at h
      obtain ⟨r3, h4, h⟩ := am_bd h
      have k_r3 : BF m r3 := BF.tr (BF.si BF.rf rfl) (bf_X10_readExpression 0 (am_si m 61 0 a1.toNatClampNeg (m.1 10 0 23)) r3 h4)
      cases h
      exact k_r3
  obtain ⟨hg7, h⟩ := am_ck_some h
  cases h
  exact (BF.si k_q5 rfl)
set_option maxRecDepth 100000 in
theorem bf_X10_readBehind (a1 : Int64) (a2 : Int32) (m : am_m) (t : am_m) (h : fn_X10_readBehind a1 a2 m = some t) : BF m t := by
  unfold fn_X10_readBehind at h
  obtain ⟨q6, h7, h⟩ := am_bd h
  have k_q6 : BF m q6 := by
    have h := h7
    by_cases hc1 : (m.1 10 0 19) ≠ 0
    · rw [if_pos hc1] at h
      cases h
      exact BF.rf
    · rw [if_neg hc1] at h
      obtain ⟨r2, h3, h⟩ := am_bd h
      obtain ⟨r4, h5, h⟩ := am_bd h
      have k_r4 : BF m r4 := BF.tr BF.rf (bf_X10_must r2 m r4 h5)
      cases h
      exact k_r4
  obtain ⟨r8, h9, h⟩ := am_bd h
  have k_r8 : BF m r8 := BF.tr k_q6 (bf_X10_readSum a2 q6 r8 h9)
  cases h
  exact k_r8
set_option maxRecDepth 100000 in
theorem bl_X10_readOrder_85 {n : Nat} {x1 : Int32} {x2 : Int32} {x3 : Int32} {m : am_m} {t : am_m} (h : lp_X10_readOrder_85 n x1 x2 x3 m = some t) : BF m t := by
  induction n generalizing x3 m with
  | zero => cases h
  | succ n ih =>
    unfold lp_X10_readOrder_85 at h
    by_cases hc15 : (10 : Int32) ≤ x3
    · rw [if_pos hc15] at h
      cases h
      exact BF.rf
    · rw [if_neg hc15] at h
      obtain ⟨hg16, h⟩ := am_ck_some h
      exact BF.tr (BF.si BF.rf rfl) (ih h)
set_option maxRecDepth 100000 in
theorem bf_X10_readOrder  (m : am_m) (t : am_m) (h : fn_X10_readOrder  m = some t) : BF m t := by
  unfold fn_X10_readOrder at h
  obtain ⟨q6, h7, h⟩ := am_bd h
  obtain ⟨q10, h11, h⟩ := am_bd h
  obtain ⟨r12, h13, h⟩ := am_bd h
  have k_r12 : BF m r12 := BF.tr BF.rf (bf_X10_must q10 m r12 h13)
  by_cases hc14 : (r12.1 10 0 19) = 0
  · rw [if_pos hc14] at h
    obtain ⟨q17, h18, h⟩ := am_bd h
    have k_q17 : BF m q17 := BF.tr (BF.si k_r12 rfl) (bl_X10_readOrder_85 (h := h18))
    obtain ⟨hg19, h⟩ := am_ck_some h
    obtain ⟨q23, h24, h⟩ := am_bd h
    have k_q23 : BF m q23 := by
      have h := h24
      by_cases hc20 : q6 = (3 : Int32)
      · rw [if_pos hc20] at h
        cases h
        exact (BF.si k_q17 rfl)
      · rw [if_neg hc20] at h
        obtain ⟨r21, h22, h⟩ := am_bd h
        have k_r21 : BF m r21 := BF.tr (BF.si k_q17 rfl) (bf_X10_readSum (((10 : Int32) * (r12.1 10 0 21)) + (1 : Int32)) (am_si q17 61 0 ((10 : Int32) * (r12.1 10 0 21)).toNatClampNeg q6) r21 h22)
        cases h
        exact k_r21
    obtain ⟨q31, h32, h⟩ := am_bd h
    have k_q31 : BF m q31 := by
      have h := h32
      by_cases hc25 : q6 = 0
      · rw [if_pos hc25] at h
        obtain ⟨r26, h27, h⟩ := am_bd h
        have k_r26 : BF m r26 := BF.tr k_q23 (bf_X10_readBehind 655 (((10 : Int32) * (r12.1 10 0 21)) + (3 : Int32)) q23 r26 h27)
        cases h
        exact k_r26
      · rw [if_neg hc25] at h
        by_cases hc28 : q6 ≠ (2 : Int32)
        · rw [if_pos hc28] at h
          cases h
          exact k_q23
        · rw [if_neg hc28] at h
          obtain ⟨r29, h30, h⟩ := am_bd h
          have k_r29 : BF m r29 := BF.tr k_q23 (bf_X10_readBehind 655 (((10 : Int32) * (r12.1 10 0 21)) + (3 : Int32)) q23 r29 h30)
          cases h
          exact k_r29
    obtain ⟨q36, h37, h⟩ := am_bd h
    have k_q36 : BF m q36 := by
      have h := h37
      by_cases hc33 : q6 ≠ 0
      · rw [if_pos hc33] at h
        cases h
        exact k_q31
      · rw [if_neg hc33] at h
        obtain ⟨r34, h35, h⟩ := am_bd h
        have k_r34 : BF m r34 := BF.tr k_q31 (bf_X10_readBehind 89 (((10 : Int32) * (r12.1 10 0 21)) + (5 : Int32)) q31 r34 h35)
        cases h
        exact k_r34
    obtain ⟨hg38, h⟩ := am_ck_some h
    obtain ⟨q48, h49, h⟩ := am_bd h
    have k_q48 : BF m q48 := by
      have h := h49
      by_cases hc39 : (q36.1 10 0 19) ≠ 0
      · rw [if_pos hc39] at h
        cases h
        exact (BF.si k_q36 rfl)
      · rw [if_neg hc39] at h
        obtain ⟨r40, h41, h⟩ := am_bd h
        by_cases hc42 : r40 = 0
        · rw [if_pos hc42] at h
          cases h
          exact (BF.si k_q36 rfl)
        · rw [if_neg hc42] at h
          obtain ⟨r43, h44, h⟩ := am_bd h
          have k_r43 : BF m r43 := BF.tr (BF.si k_q36 rfl) (bf_X10_next  (am_si q36 61 0 (((10 : Int32) * (r12.1 10 0 21)) + (9 : Int32)).toNatClampNeg 1) r43 h44)
          obtain ⟨r45, h46, h⟩ := am_bd h
          have k_r45 : BF m r45.2 := BF.tr k_r43 (bf_X10_number 1 20 r43 r45 h46)
          obtain ⟨hg47, h⟩ := am_ck_some h
          cases h
          exact (BF.si k_r45 rfl)
    obtain ⟨hg50, h⟩ := am_ck_some h
    obtain ⟨q59, h60, h⟩ := am_bd h
    have k_q59 : BF m q59 := by
      have h := h60
      by_cases hc51 : (q48.1 10 0 19) ≠ 0
      · rw [if_pos hc51] at h
        cases h
        exact (BF.si k_q48 rfl)
      · rw [if_neg hc51] at h
        obtain ⟨r52, h53, h⟩ := am_bd h
        by_cases hc54 : r52 = 0
        · rw [if_pos hc54] at h
          cases h
          exact (BF.si k_q48 rfl)
        · rw [if_neg hc54] at h
          obtain ⟨r55, h56, h⟩ := am_bd h
          have k_r55 : BF m r55 := BF.tr (BF.si k_q48 rfl) (bf_X10_next  (am_si q48 61 0 (((10 : Int32) * (r12.1 10 0 21)) + (7 : Int32)).toNatClampNeg (q48.1 10 0 23)) r55 h56)
          obtain ⟨r57, h58, h⟩ := am_bd h
          have k_r57 : BF m r57 := BF.tr k_r55 (bf_X10_readExpression 1 r55 r57 h58)
          cases h
          exact k_r57
    obtain ⟨hg61, h⟩ := am_ck_some h
    cases h
    exact (BF.si k_q59 rfl)
  · rw [if_neg hc14] at h
    cases h
    exact k_r12
