/-! the snapshot that orders keeps aside stays; by program (wip/whole/gen/sm4.py), remember by hand -/
def sm_4 (m m' : am_m) : Prop := (∃ K, K ≤ 16 ∧ m.1 10 0 8 = nI K) → (∃ K, K ≤ 16 ∧ m'.1 10 0 8 = nI K) ∧ ∀ x, 1836 ≤ x → m'.1 46 0 x = m.1 46 0 x
section SM4
variable {m m1 m2 : am_m}
theorem sm_4.rf : sm_4 m m := fun h => ⟨h, fun _ _ => rfl⟩
theorem sm_4.tr (h : sm_4 m m1) (g : sm_4 m1 m2) : sm_4 m m2 := fun z => ⟨(g (h z).1).1, fun x hx => ((g (h z).1).2 x hx).trans ((h z).2 x hx)⟩
theorem sm_4.kp {WI WL : List (Nat × Nat)} {E : Nat} (k : am_kp WI WL E m m1) (hw : (am_hit WI 10 8 || am_hit WI 46 0) = false) : sm_4 m m1 := by
  rw [Bool.or_eq_false_iff] at hw
  intro z
  rw [k.fld 10 0 8 hw.1]
  exact ⟨z, fun x _ => by rw [k.row 46 (by rw [hw.2]; rfl)]⟩
theorem sm_4.si {c n k : Nat} {v : Int32} (h : sm_4 m m1) (hw : am_hit [(10, 8), (46, 0)] c k = false) : sm_4 m (am_si m1 c n k v) := by
  refine h.tr (fun z => ?_)
  have e : ∀ c' k', am_hit [(10, 8), (46, 0)] c' k' = true → (am_si m1 c n k v).1 c' 0 k' = m1.1 c' 0 k' := fun c' k' hh => by
    rw [rd_si]
    refine if_neg (fun q => ?_)
    obtain ⟨rfl, -, rfl⟩ := q
    rw [hw] at hh
    cases hh
  rw [e 10 8 rfl]
  exact ⟨z, fun x _ => e 46 x rfl⟩
theorem sm_4.sg {c n k : Nat} {v : Int64} (h : sm_4 m m1) (_ : Nat.ble 0 0 = true) : sm_4 m (am_sg m1 c n k v) := h
theorem rem11 (z : Int32) (m : am_m) : ∃ m1, lp_X10_remember_11 1000000 z 0 m = some m1 ∧ (m1.1 10 0 8 = m.1 10 0 8 ∧ ∀ x, 1836 ≤ x → m1.1 46 0 x = m.1 46 0 x) := by
  refine lp_up0 (fun N x a => lp_X10_remember_11 N z x a) (fun i m1 => m1.1 10 0 8 = m.1 10 0 8 ∧ ∀ x, 1836 ≤ x → m1.1 46 0 x = m.1 46 0 x) (fun m1 => m1.1 10 0 8 = m.1 10 0 8 ∧ ∀ x, 1836 ≤ x → m1.1 46 0 x = m.1 46 0 x) 1620 (by decide) (fun N m1 hh => ⟨m1, ?_, hh⟩) (fun N i m1 hi hh => Or.inl ⟨am_si m1 46 0 i (m1.1 46 0 (i + 108)), ?_, hh.1, fun x hx => ?_⟩) m ⟨rfl, fun x _ => rfl⟩
  · show lp_X10_remember_11 (N + 1) z (nI 1620) m1 = _
    rw [lp_X10_remember_11.eq_2, if_pos (by decide)]
  · show lp_X10_remember_11 (N + 1) z (nI i) m1 = lp_X10_remember_11 N z (nI (i + 1)) _
    rw [lp_X10_remember_11.eq_2, if_neg (show ¬ (1620 : Int32) ≤ nI i from nI_ge (b := 1620) hi (by decide)), show (108 : Int32) = nI 108 from rfl, nI_add, ck_in (by omega) (by decide), ck_in (by omega) (by decide), nI_clamp (by omega), nI_clamp (by omega), nI_1]
  · rw [rd_j, if_neg (by omega)]
    exact hh.2 x hx
theorem rem41 (z : Int32) (m : am_m) : ∃ m1, lp_X10_remember_41 1000000 z 0 m = some m1 ∧ (m1.1 10 0 8 = m.1 10 0 8 ∧ m1.1 46 = m.1 46) := by
  refine lp_up0 (fun N x a => lp_X10_remember_41 N z x a) (fun i m1 => m1.1 10 0 8 = m.1 10 0 8 ∧ m1.1 46 = m.1 46) (fun m1 => m1.1 10 0 8 = m.1 10 0 8 ∧ m1.1 46 = m.1 46) 15 (by decide) (fun N m1 hh => ⟨m1, ?_, hh⟩) (fun N i m1 hi hh => Or.inl ⟨am_si m1 47 0 i (m1.1 47 0 (i + 1)), ?_, hh.1, hh.2⟩) m ⟨rfl, rfl⟩
  · show lp_X10_remember_41 (N + 1) z (nI 15) m1 = _
    rw [lp_X10_remember_41.eq_2, if_pos (by decide)]
  · show lp_X10_remember_41 (N + 1) z (nI i) m1 = lp_X10_remember_41 N z (nI (i + 1)) _
    rw [lp_X10_remember_41.eq_2, if_neg (show ¬ (15 : Int32) ≤ nI i from nI_ge (b := 15) hi (by decide)), show (1 : Int32) = nI 1 from rfl, nI_add, ck_in (by omega) (by decide), ck_in (by omega) (by decide), nI_clamp (by omega), nI_clamp (by omega)]
theorem k4_X10_remember (a1 : Int32) (m : am_m) (t : am_m) (h : fn_X10_remember a1 m = some t) : sm_4 m t := by
  rintro ⟨K, hK, e8⟩
  have key : ∀ (k : Nat) (q : am_m), k < 16 → q.1 10 0 8 = nI k → (∀ x, 1836 ≤ x → q.1 46 0 x = m.1 46 0 x) → ((fn_X10_keepAll (q.1 10 0 8) q).bind fun r13 => am_ck (r13.1 10 0 8) 16 (some (am_si (am_si r13 47 0 (r13.1 10 0 8).toNatClampNeg a1) 10 0 8 ((r13.1 10 0 8) + (1 : Int32))))) = some t → (∃ K, K ≤ 16 ∧ t.1 10 0 8 = nI K) ∧ ∀ x, 1836 ≤ x → t.1 46 0 x = m.1 46 0 x := by
    intro k q hk h8 h46 hh
    obtain ⟨m2, e2, q2⟩ := keepAll_ok (m := q) (K := k) (by omega)
    have k2 := kp_X10_keepAll _ _ _ e2
    rw [h8, e2, bd_s, k2.fld 10 0 8 rfl, h8, ck_in hk (by decide), nI_1] at hh
    cases hh
    refine ⟨⟨k + 1, by omega, rfl⟩, fun x hx => ?_⟩
    show m2.1 46 0 x = _
    rw [q2, if_neg (by omega)]
    exact h46 x hx
  unfold fn_X10_remember at h
  by_cases c : K = 16
  · subst c
    obtain ⟨m1, f1, f2, f3⟩ := rem11 a1 m
    obtain ⟨m2, g1, g2, g3⟩ := rem41 a1 m1
    rw [e8, if_neg (show ¬ nI 16 ≠ (16 : Int32) from fun w => w rfl), f1, bd_s, g1, bd_s, bd_s] at h
    refine key 15 (am_si m2 10 0 8 ((m2.1 10 0 8) - (1 : Int32))) (by decide) ?_ (fun x hx => ?_) h
    · show (m2.1 10 0 8) - (1 : Int32) = nI 15
      rw [g2, f2, e8]; rfl
    · show m2.1 46 0 x = _
      rw [g3]; exact f3 x hx
  · rw [e8, if_pos (show nI K ≠ (16 : Int32) from nI_ne (b := 16) (by omega) (by decide) c), bd_s] at h
    exact key K m (by omega) e8 (fun _ _ => rfl) h
end SM4
set_option maxRecDepth 100000 in
theorem k4_X10_harmNow (a1 : Int32) (a2 : Int32) (a3 : Int32) (m : am_m) (t : Int32 × am_m) (h : fn_X10_harmNow a1 a2 a3 m = some t) : sm_4 m t.2 := by
  unfold fn_X10_harmNow at h
  obtain ⟨r1, h2, h⟩ := am_bd h
  by_cases hc3 : r1 = 0
  · rw [if_pos hc3] at h
    cases h
    exact sm_4.rf
  · rw [if_neg hc3] at h
    by_cases hc4 : a1 ≠ a2
    · rw [if_pos hc4] at h
      obtain ⟨r5, h6, h⟩ := am_bd h
      by_cases hc7 : r5 = 0
      · rw [if_pos hc7] at h
        cases h
        exact sm_4.rf
      · rw [if_neg hc7] at h
        obtain ⟨r8, h9, h⟩ := am_bd h
        by_cases hc10 : r8 ≠ 0
        · rw [if_pos hc10] at h
          obtain ⟨r11, h12, h⟩ := am_bd h
          by_cases hc13 : r11 ≠ a3
          · rw [if_pos hc13] at h
            obtain ⟨r14, h15, h⟩ := am_bd h
            have k_r14 : sm_4 m r14 := sm_4.tr sm_4.rf (k4_X10_remember 0 m r14 h15)
            obtain ⟨r16, h17, h⟩ := am_bd h
            have k_r16 : sm_4 m r16 := sm_4.tr k_r14 (sm_4.kp (kp_X10_setHarm a1 a2 a3 r14 r16 h17) rfl)
            cases h
            exact k_r16
          · rw [if_neg hc13] at h
            cases h
            exact sm_4.rf
        · rw [if_neg hc10] at h
          cases h
          exact sm_4.rf
    · rw [if_neg hc4] at h
      cases h
      exact sm_4.rf
set_option maxRecDepth 100000 in
theorem k4_X10_feastNow (a1 : Int32) (m : am_m) (t : Int32 × am_m) (h : fn_X10_feastNow a1 m = some t) : sm_4 m t.2 := by
  unfold fn_X10_feastNow at h
  obtain ⟨r1, h2, h⟩ := am_bd h
  by_cases hc3 : r1 ≠ 0
  · rw [if_pos hc3] at h
    obtain ⟨r4, h5, h⟩ := am_bd h
    by_cases hc6 : r4 ≠ 0
    · rw [if_pos hc6] at h
      obtain ⟨r7, h8, h⟩ := am_bd h
      have k_r7 : sm_4 m r7 := sm_4.tr sm_4.rf (sm_4.kp (kp_X10_layMay  m r7 h8) rfl)
      obtain ⟨r9, h10, h⟩ := am_bd h
      by_cases hc11 : r9 ≠ 0
      · rw [if_pos hc11] at h
        obtain ⟨r12, h13, h⟩ := am_bd h
        have k_r12 : sm_4 m r12 := sm_4.tr k_r7 (k4_X10_remember 1 r7 r12 h13)
        obtain ⟨r14, h15, h⟩ := am_bd h
        have k_r14 : sm_4 m r14 := sm_4.tr k_r12 (sm_4.kp (kp_X10_feastIt a1 r12 r14 h15) rfl)
        obtain ⟨r16, h17, h⟩ := am_bd h
        cases h
        exact k_r14
      · rw [if_neg hc11] at h
        cases h
        exact k_r7
    · rw [if_neg hc6] at h
      cases h
      exact sm_4.rf
  · rw [if_neg hc3] at h
    cases h
    exact sm_4.rf
set_option maxRecDepth 100000 in
theorem k4_X10_pardonNow (a1 : Int32) (a2 : Int32) (m : am_m) (t : Int32 × am_m) (h : fn_X10_pardonNow a1 a2 m = some t) : sm_4 m t.2 := by
  unfold fn_X10_pardonNow at h
  by_cases hc1 : a1 ≠ a2
  · rw [if_pos hc1] at h
    obtain ⟨r2, h3, h⟩ := am_bd h
    by_cases hc4 : r2 = 0
    · rw [if_pos hc4] at h
      cases h
      exact sm_4.rf
    · rw [if_neg hc4] at h
      obtain ⟨r5, h6, h⟩ := am_bd h
      by_cases hc7 : r5 ≠ 0
      · rw [if_pos hc7] at h
        obtain ⟨r8, h9, h⟩ := am_bd h
        by_cases hc10 : r8 ≠ 0
        · rw [if_pos hc10] at h
          obtain ⟨r11, h12, h⟩ := am_bd h
          have k_r11 : sm_4 m r11 := sm_4.tr sm_4.rf (k4_X10_remember 2 m r11 h12)
          obtain ⟨hg13, h⟩ := am_ck_some h
          cases h
          exact (sm_4.si k_r11 rfl)
        · rw [if_neg hc10] at h
          cases h
          exact sm_4.rf
      · rw [if_neg hc7] at h
        cases h
        exact sm_4.rf
  · rw [if_neg hc1] at h
    cases h
    exact sm_4.rf
set_option maxRecDepth 100000 in
theorem k4_X10_passNow  (m : am_m) (t : Int32 × am_m) (h : fn_X10_passNow  m = some t) : sm_4 m t.2 := by
  unfold fn_X10_passNow at h
  by_cases hc1 : (m.1 44 0 4) ≠ (999 : Int32)
  · rw [if_pos hc1] at h
    obtain ⟨r2, h3, h⟩ := am_bd h
    have k_r2 : sm_4 m r2 := sm_4.tr sm_4.rf (k4_X10_remember 3 m r2 h3)
    obtain ⟨r4, h5, h⟩ := am_bd h
    have k_r4 : sm_4 m r4 := sm_4.tr k_r2 (sm_4.kp (kp_X10_passIt  r2 r4 h5) rfl)
    obtain ⟨r6, h7, h⟩ := am_bd h
    cases h
    exact k_r4
  · rw [if_neg hc1] at h
    cases h
    exact sm_4.rf
set_option maxRecDepth 100000 in
theorem k4_X10_act (a1 : Int32) (a2 : Int32) (a3 : Int32) (a4 : Int32) (m : am_m) (t : Int32 × am_m) (h : fn_X10_act a1 a2 a3 a4 m = some t) : sm_4 m t.2 := by
  unfold fn_X10_act at h
  by_cases hs1 : a1 = 0
  · rw [if_pos hs1] at h
    obtain ⟨r2, h3, h⟩ := am_bd h
    have k_r2 : sm_4 m r2.2 := sm_4.tr sm_4.rf (k4_X10_harmNow a2 a3 a4 m r2 h3)
    cases h
    exact k_r2
  · rw [if_neg hs1] at h
    by_cases hs4 : a1 = 1
    · rw [if_pos hs4] at h
      obtain ⟨r5, h6, h⟩ := am_bd h
      have k_r5 : sm_4 m r5.2 := sm_4.tr sm_4.rf (k4_X10_feastNow a2 m r5 h6)
      cases h
      exact k_r5
    · rw [if_neg hs4] at h
      by_cases hs7 : a1 = 2
      · rw [if_pos hs7] at h
        obtain ⟨r8, h9, h⟩ := am_bd h
        have k_r8 : sm_4 m r8.2 := sm_4.tr sm_4.rf (k4_X10_pardonNow a2 a3 m r8 h9)
        cases h
        exact k_r8
      · rw [if_neg hs7] at h
        obtain ⟨r10, h11, h⟩ := am_bd h
        have k_r10 : sm_4 m r10.2 := sm_4.tr sm_4.rf (k4_X10_passNow  m r10 h11)
        cases h
        exact k_r10
set_option maxRecDepth 100000 in
theorem l4_X10_run_63 {n : Nat} {x1 : Int32} {x2 : Int32} {m : am_m} {t : am_m} (h : lp_X10_run_63 n x1 x2 m = some t) : sm_4 m t := by
  induction n generalizing x2 m with
  | zero => cases h
  | succ n ih =>
    unfold lp_X10_run_63 at h
    by_cases hc7 : (m.1 44 0 0) ≤ x2
    · rw [if_pos hc7] at h
      cases h
      exact sm_4.rf
    · rw [if_neg hc7] at h
      obtain ⟨r8, h9, h⟩ := am_bd h
      obtain ⟨hg10, h⟩ := am_ck_some h
      exact sm_4.tr (sm_4.si sm_4.rf rfl) (ih h)
set_option maxRecDepth 100000 in
theorem k4_X10_run (a1 : Int32) (m : am_m) (t : Int32 × am_m) (h : fn_X10_run a1 m = some t) : sm_4 m t.2 := by
  unfold fn_X10_run at h
  obtain ⟨r1, h2, h⟩ := am_bd h
  obtain ⟨r3, h4, h⟩ := am_bd h
  obtain ⟨r5, h6, h⟩ := am_bd h
  have k_r5 : sm_4 m r5 := sm_4.tr (sm_4.sg (sm_4.sg (sm_4.sg (sm_4.sg (sm_4.sg sm_4.rf rfl) rfl) rfl) rfl) rfl) (sm_4.kp (kp_X10_layMay  (am_sg (am_sg (am_sg (am_sg (am_sg m 86 0 1 ((m.1 44 0 4).toInt64)) 86 0 2 ((m.1 10 0 55).toInt64)) 86 0 3 ((m.1 10 0 56).toInt64)) 86 0 4 r1.toInt64) 86 0 5 r3.toInt64) r5 h6) rfl)
  obtain ⟨q11, h12, h⟩ := am_bd h
  have k_q11 : sm_4 m q11 := sm_4.tr k_r5 (l4_X10_run_63 (h := h12))
  obtain ⟨hg13, h⟩ := am_ck_some h
  obtain ⟨hg14, h⟩ := am_ck_some h
  by_cases hc15 : (q11.1 61 0 (a1 + (8 : Int32)).toNatClampNeg) ≤ (q11.1 61 0 (a1 + (7 : Int32)).toNatClampNeg)
  · rw [if_pos hc15] at h
    obtain ⟨r16, h17, h⟩ := am_bd h
    have k_r16 : sm_4 m r16.2 := sm_4.tr (sm_4.si k_q11 rfl) (sm_4.kp (kp_X10_sumOf (a1 + (1 : Int32)) (am_si q11 10 0 58 0) r16 h17) rfl)
    obtain ⟨r18, h19, h⟩ := am_bd h
    have k_r18 : sm_4 m r18.2 := sm_4.tr k_r16 (sm_4.kp (kp_X10_sumOf (a1 + (3 : Int32)) r16.2 r18 h19) rfl)
    obtain ⟨r20, h21, h⟩ := am_bd h
    have k_r20 : sm_4 m r20.2 := sm_4.tr k_r18 (sm_4.kp (kp_X10_sumOf (a1 + (5 : Int32)) r18.2 r20 h21) rfl)
    by_cases hc22 : (r20.2.1 10 0 58) = 0
    · rw [if_pos hc22] at h
      obtain ⟨hg23, h⟩ := am_ck_some h
      obtain ⟨r24, h25, h⟩ := am_bd h
      have k_r24 : sm_4 m r24.2 := sm_4.tr k_r20 (k4_X10_act (r20.2.1 61 0 a1.toNatClampNeg) r16.1 r18.1 r20.1 r20.2 r24 h25)
      by_cases hc26 : 0 ≤ r24.1
      · rw [if_pos hc26] at h
        obtain ⟨hg27, h⟩ := am_ck_some h
        cases h
        exact (sm_4.si (sm_4.si k_r24 rfl) rfl)
      · rw [if_neg hc26] at h
        cases h
        exact k_r24
    · rw [if_neg hc22] at h
      cases h
      exact k_r20
  · rw [if_neg hc15] at h
    obtain ⟨r29, h30, h⟩ := am_bd h
    have k_r29 : sm_4 m r29.2 := sm_4.tr (sm_4.si k_q11 rfl) (sm_4.kp (kp_X10_sumOf (a1 + (7 : Int32)) (am_si q11 10 0 58 0) r29 h30) rfl)
    by_cases hc31 : (r29.2.1 10 0 58) ≠ 0
    · rw [if_pos hc31] at h
      cases h
      exact k_r29
    · rw [if_neg hc31] at h
      by_cases hc32 : r29.1 ≠ 0
      · rw [if_pos hc32] at h
        obtain ⟨r33, h34, h⟩ := am_bd h
        have k_r33 : sm_4 m r33.2 := sm_4.tr k_r29 (sm_4.kp (kp_X10_sumOf (a1 + (1 : Int32)) r29.2 r33 h34) rfl)
        obtain ⟨r35, h36, h⟩ := am_bd h
        have k_r35 : sm_4 m r35.2 := sm_4.tr k_r33 (sm_4.kp (kp_X10_sumOf (a1 + (3 : Int32)) r33.2 r35 h36) rfl)
        obtain ⟨r37, h38, h⟩ := am_bd h
        have k_r37 : sm_4 m r37.2 := sm_4.tr k_r35 (sm_4.kp (kp_X10_sumOf (a1 + (5 : Int32)) r35.2 r37 h38) rfl)
        by_cases hc39 : (r37.2.1 10 0 58) = 0
        · rw [if_pos hc39] at h
          obtain ⟨hg40, h⟩ := am_ck_some h
          obtain ⟨r41, h42, h⟩ := am_bd h
          have k_r41 : sm_4 m r41.2 := sm_4.tr k_r37 (k4_X10_act (r37.2.1 61 0 a1.toNatClampNeg) r33.1 r35.1 r37.1 r37.2 r41 h42)
          by_cases hc43 : 0 ≤ r41.1
          · rw [if_pos hc43] at h
            obtain ⟨hg44, h⟩ := am_ck_some h
            cases h
            exact (sm_4.si (sm_4.si k_r41 rfl) rfl)
          · rw [if_neg hc43] at h
            cases h
            exact k_r41
        · rw [if_neg hc39] at h
          cases h
          exact k_r37
      · rw [if_neg hc32] at h
        cases h
        exact k_r29
