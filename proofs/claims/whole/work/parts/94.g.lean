/-! both read a CLAUSE of a LAW alike -/
section LG
variable {T : Nat → Nat} {L n p : Nat} {m m' M M' : am_m} {c c' c2 c2' : rcd} {a b a2 b2 p2 lv aw aw2 k : Nat}
theorem lcl.go {hd rw : Nat → Int32} {i : Nat} {z : cl_T} (h : lcl c c' a b aw hd rw i z) (g : lgo c c' a b p aw c2 c2' a2 b2 p2 aw2) {hd' rw' : Nat → Int32} (h1 : ∀ j, j < 6 * (i + 1) → hd' j = hd j) (h2 : ∀ j, j < 8 * (i + 1) → rw' j = rw j) : lcl c2 c2' a2 b2 aw2 hd' rw' i z := by
  obtain ⟨B, B1, B2, g1, g2, g3, g4, g5, g6, g7, g8, g9⟩ := h
  refine ⟨B, B1, B2, ?_, ?_, ?_, ?_, ?_, ?_, ?_, ?_, g9⟩
  · rw [h1 _ (by omega)]; exact g1
  · rw [h2 _ (by omega)]; exact g2
  · rw [h2 _ (by omega)]; exact g3
  · rw [h2 _ (by omega)]; exact g4
  · rw [h2 _ (by omega)]; exact g5
  · rw [h2 _ (by omega)]; exact g6
  · rw [h1 _ (by omega)]; exact g7.go g
  · rw [h1 _ (by omega)]; exact g8.go g
theorem law_clause (hT : ∀ k, k < L → T k < 256) (hk : lks T L n false m M c c' a b p lv aw) (h2 : m.1 5 0 2 = nI k) (h21 : M.1 10 0 21 = nI k) (hk12 : k < 12) (hl : m.2.2.2.2.2.2.1 28 0 = 72) :
    (∃ q m' M', fn_X4_readClause m = some (0, m') ∧ m'.1 4 0 10 = nI q ∧ fn_X10_readLaw M = some M' ∧ M'.1 10 0 19 = 1 ∧ M'.1 10 0 18 = nI q) ∨
    (∃ m' M' c2 c2' a2 b2 p2 lv2 aw2 z, fn_X4_readClause m = some (1, m') ∧ fn_X10_readLaw M = some M' ∧ lks T L n false m' M' c2 c2' a2 b2 p2 lv2 aw2 ∧ lgo c c' a b p aw c2 c2' a2 b2 p2 aw2 ∧ lcl c2 c2' a2 b2 aw2 (m'.1 28 0) (M'.1 51 0) k z ∧ (∀ i, i < 6 * k → m'.1 28 0 i = m.1 28 0 i) ∧ (∀ i, i < 8 * k → M'.1 51 0 i = M.1 51 0 i) ∧ m'.1 5 0 2 = nI (k + 1) ∧ M'.1 10 0 21 = nI (k + 1) ∧ m'.2.2 = m.2.2) := by
  obtain ⟨hc, hr, hp, hlv, haw, hap⟩ := hk
  have hkd := kd_286 hT hp
  by_cases hh : ¬ (266 ≤ lx_kd T L p ∧ lx_kd T L p < 266 + 4)
  · obtain ⟨m', e1, e2⟩ := ccl_no hT hp hc (by unfold sumN; rw [if_pos rfl, if_neg (by omega), if_neg (by omega)])
    obtain ⟨M', f1, f2, f3⟩ := rll_no hr (Or.inl hh)
    exact Or.inl ⟨p, m', M', e1, e2, f1, f2, f3⟩
  have hh : 266 ≤ lx_kd T L p ∧ lx_kd T L p < 266 + 4 := by omega
  obtain ⟨s, s1, s2, s3⟩ : ∃ s, sumN false (lx_kd T L p) = nI s ∧ s ≤ 3 ∧ s = (if lx_kd T L p = 269 then 0 else 1) := by
    by_cases q : lx_kd T L p = 269
    · exact ⟨0, by unfold sumN; rw [if_pos rfl, if_neg (by omega), if_pos q]; rfl, by decide, (if_pos q).symm⟩
    · exact ⟨1, by unfold sumN; rw [if_pos rfl, if_pos (by omega)]; rfl, by decide, (if_neg q).symm⟩
  obtain ⟨m2, c1, c2e, c3, c4, c5, c6⟩ := ccl_run hT hp hc h2 hk12 hl s1 s2
  obtain ⟨M2, r1, r2, r3, r4, r5, r6⟩ := rll_run hr h21 hk12 hh
  have up := nx_up (T := T) hp (by omega)
  have lk2 : lks T L n false m2 M2 c c' a b (lx_nx T L p) lv aw := ⟨c1, r1, up.2, hlv, haw, by omega⟩
  have hl2 : m2.2.2.2.2.2.2.1 28 0 = 72 := by rw [c4]; exact hl
  -- behind the SUM
  have mid : (∃ q m3 q23, lp_X4_readClause_42 1000000 (nI s) 0 m2 = some (.inr (0, m3)) ∧ m3.1 4 0 10 = nI q ∧ (if lx_kd T L p = 269 then some M2 else (fn_X10_readExpression 0 M2).bind fun r => some r) = some q23 ∧ q23.1 10 0 19 = 1 ∧ q23.1 10 0 18 = nI q) ∨
      (∃ m3 q23 c2 c2' a2 b2 p2 lv2 aw2 o, lp_X4_readClause_42 1000000 (nI s) 0 m2 = some (.inl m3) ∧ (if lx_kd T L p = 269 then some M2 else (fn_X10_readExpression 0 M2).bind fun r => some r) = some q23 ∧ lks T L n false m3 q23 c2 c2' a2 b2 p2 lv2 aw2 ∧ lgo c c' a b (lx_nx T L p) aw c2 c2' a2 b2 p2 aw2 ∧ xo false c2 c2' a2 b2 aw2 (m3.1 28 0 (6 * k + 3)) b b2 o ∧ (lx_kd T L p = 269 ↔ o = none) ∧ (∀ f, o = some f → dn_bd f) ∧ (∀ i, i ≠ 6 * k + 3 → m3.1 28 0 i = m2.1 28 0 i) ∧ m3.1 5 0 2 = nI (k + 1) ∧ m3.2.2 = m.2.2 ∧ q23.1 10 0 21 = nI (k + 1) ∧ q23.1 51 = M2.1 51) := by
    by_cases q : lx_kd T L p = 269
    · rw [if_pos q] at s3 ⊢
      subst s3
      exact Or.inr ⟨m2, M2, c, c', a, b, lx_nx T L p, lv, aw, none, cl_end (N := 999999) (s := 0) (by decide), rfl, lk2, lgo.rf, ⟨by rw [c3, if_neg (by omega), if_neg (by omega), if_pos (by omega)], rfl⟩, ⟨fun _ => rfl, fun _ => q⟩, (fun f hf => by cases hf), fun i _ => rfl, c2e, c4, r2, rfl⟩
    · rw [if_neg q] at s3 ⊢
      subst s3
      obtain ⟨m3, d1, dd⟩ := lks_read (k := k) (fld := 3) (Or.inl ⟨rfl, rfl⟩) hT lk2 (by omega) c2e hk12 hl2 (by decide)
      rcases dd with ⟨q1, m4, M3, g1, g2, g3, g4, g5⟩ | ⟨m4, m5, M3, c2, c2', a2, b2, p2, lv2, aw2, f, g1, g2, g3, g4, g5, g6, g7, g8, g9, g10, g11⟩
      · exact Or.inl ⟨q1, m4, M3, cl_first0 (N := 999999) (by decide) (by decide) d1 g1, g2, by rw [g3, bd_s], g4, g5⟩
      · have kx := kp_X10_readExpression _ _ _ g3
        refine Or.inr ⟨m5, M3, c2, c2', a2, b2, p2, lv2, aw2, some f, ?_, by rw [g3, bd_s], g4, g5, ⟨a, by rw [g9, if_pos rfl], g6⟩, ⟨fun z => absurd z q, fun z => by cases z⟩, (fun f' hf => by cases hf; exact g8 rfl), fun i hi => by rw [g9, if_neg hi], by rw [g10]; exact c2e, by rw [g11]; exact c4, by rw [kx.fld 10 0 21 rfl]; exact r2, kx.row 51 rfl⟩
        rw [cl_first (N := 999999) (by decide) (by decide) d1 g1 g2]
        exact cl_end (N := 999998) (s := 1) (by decide)
  rcases mid with ⟨q, m3, q23, g1, g2, g3, g4, g5⟩ | ⟨m3, q23, c2, c2', a2, b2, p2, lv2, aw2, o, g1, g2, g3, g4, g5, g6, g7, g8, g9, g10, g11, g12⟩
  · refine Or.inl ⟨q, m3, _, c5 m3 g1, g2, r6 q23 (lX k q23) g3 (if_pos (by rw [g4]; decide)), ?_, ?_⟩
    · exact g4
    · exact g5
  have kX : am_kp [(10, 21), (51, 0), (61, 0)] [] 0 q23 (lX k q23) := am_kp.si (am_kp.si am_kp.rf rfl) rfl
  have lk3 : lks T L n false m3 (lX k q23) c2 c2' a2 b2 p2 lv2 aw2 := ⟨g3.1, g3.2.1.k51 kX, g3.2.2⟩
  have b23 : q23.1 10 0 23 = nI b2 := g3.2.1.2.1.1
  have h19 : q23.1 10 0 19 = 0 := g3.2.1.2.2.2.1
  have o9 : m3.1 4 0 9 = 0 := g3.1.2.2.2.1
  have aft : cAft m3 = cTail m3 := by
    unfold cAft
    by_cases z : (m3.1 4 0 6) ≠ (263 : Int32)
    · rw [if_pos z]
    · rw [if_neg z, if_pos o9]
  have X51 : ∀ i, (lX k q23).1 51 0 i = if i = 8 * k + 5 then nI b2 else if i = 8 * k + 4 then nI b2 else M2.1 51 0 i := fun i => by
    unfold lX
    rw [rd_j, rd_j, b23, g12]
  rcases lks_tail (k := k) hT lk3 g9 hk12 (by rw [g10]; exact hl) (by rw [g8 _ (by omega), c3, if_neg (by omega), if_neg (by omega), if_pos (by omega)]) with ⟨q, m4, M4, d1, d2, d3, d4, d5⟩ | ⟨m4, M4, c3x, c3', a3, b3, p3, lv3, aw3, o2, d1, d2, d3, d4, d5, d6, d7, d8, d9⟩
  · exact Or.inl ⟨q, m4, _, by rw [c6 m3 g1, aft, d1], d2, r6 q23 M4 g2 (by rw [if_neg (fun z => z h19)]; exact d3), d4, d5⟩
  · have kT : M4.1 51 = (lX k q23).1 51 ∧ M4.1 10 0 21 = (lX k q23).1 10 0 21 := by
      unfold rTail at d2
      obtain ⟨r27, x1, d2⟩ := am_bd d2
      by_cases z : r27 = 0
      · rw [if_pos z] at d2; cases d2; exact ⟨rfl, rfl⟩
      · rw [if_neg z] at d2
        obtain ⟨r30, x2, d2⟩ := am_bd d2
        obtain ⟨r32, x3, d2⟩ := am_bd d2
        cases d2
        have k1 := kp_X10_next _ _ x2
        have k2 := kp_X10_readExpression _ _ _ x3
        exact ⟨by rw [k2.row 51 rfl, k1.row 51 rfl], by rw [k2.fld 10 0 21 rfl, k1.fld 10 0 21 rfl]⟩
    have b3' : M4.1 10 0 23 = nI b3 := d3.2.1.2.1.1
    have kF : am_kp [(10, 21), (51, 0), (61, 0)] [] 0 M4 (am_si M4 51 0 (8 * k + 6) (M4.1 10 0 23)) := am_kp.si am_kp.rf rfl
    have F51 : ∀ i, (am_si M4 51 0 (8 * k + 6) (M4.1 10 0 23)).1 51 0 i = if i = 8 * k + 6 then nI b3 else (lX k q23).1 51 0 i := fun i => by rw [rd_j, b3', kT.1]
    refine Or.inr ⟨m4, _, c3x, c3', a3, b3, p3, lv3, aw3, (lx_kd T L p - 266, o2, o), by rw [c6 m3 g1, aft, d1], r6 q23 M4 g2 (by rw [if_neg (fun z => z h19)]; exact d2), ⟨d3.1, d3.2.1.k51 kF, d3.2.2⟩, lgo.tr (lgo.tr (c2 := c) (c2' := c') (a2 := a) (b2 := b) (p2 := lx_nx T L p) (aw2 := aw) ⟨fun _ _ => rfl, fun _ _ => rfl, Nat.le_refl _, Nat.le_refl _, by omega, fun _ z => z⟩ g4) d4, ⟨b, b2, b3, ?_, ?_, ?_, ?_, ?_, ?_, ?_, d5, ?_, ?_, d6, g7⟩, fun i hi => ?_, fun i hi => ?_, ?_, ?_, ?_⟩
    · rw [d7 _ (by omega), g8 _ (by omega), c3, if_neg (by omega), if_pos rfl]
      show _ = nI (266 + (lx_kd T L p - 266))
      rw [show 266 + (lx_kd T L p - 266) = lx_kd T L p by omega]
    · rw [F51, if_neg (by omega), X51, if_neg (by omega), if_neg (by omega)]; exact r3
    · rw [F51, if_neg (by omega), X51, if_neg (by omega), if_neg (by omega)]; exact r4
    · rw [F51, if_neg (by omega), X51, if_neg (by omega), if_pos rfl]
    · rw [F51, if_neg (by omega), X51, if_pos rfl]
    · rw [F51, if_pos rfl]
    · rw [d7 _ (by omega)]; exact g5.go d4
    · show lx_kd T L p - 266 ≤ 3
      omega
    · show lx_kd T L p - 266 = 3 ↔ o = none
      rw [← g6]
      omega
    · rw [d7 _ (by omega), g8 _ (by omega), c3, if_neg (by omega), if_neg (by omega), if_neg (by omega)]
    · rw [F51, if_neg (by omega), X51, if_neg (by omega), if_neg (by omega)]; exact r5 i hi
    · rw [d8]; exact g9
    · show M4.1 10 0 21 = _
      rw [kT.2]; exact g11
    · rw [d9]; exact g10
end LG
