/-! calls that only look: asks, of, count, drawn -/
section OPS3
variable {m : am_m}
theorem no3 (a : Int32) : (if (0 : Int32) ≠ 0 then a else a) = a := by rw [if_neg (by decide)]
theorem op_asks (h : Inv m) (a b c : Int32) : op_ok m (fun m => fn_X9_asks a b c m) (fun m => fn_X10_asks a b c m) := by
  obtain ⟨n, hn, e44, e8, en⟩ := h.n
  obtain ⟨lw, m1, e1, j1, f1, k1, l1⟩ := askLive_ok h
  by_cases H : (0 ≤ a ∧ a < nI n) ∧ (0 ≤ b ∧ b < nI n) ∧ a ≠ b
  · obtain ⟨p, hp, rfl⟩ := fk_of hn H.1
    obtain ⟨q, hq, rfl⟩ := fk_of hn H.2.1
    have hne : p ≠ q := fun z => H.2.2 (by rw [z])
    have hW := h.w
    have hU := h.u
    have ew : m.1 37 0 (7 * p + q) = m.1 44 0 (14 + (7 * p + q)) := hU.2.2.2.2.2.2.1 _ (by omega)
    have hk := hW.k (k := 14 + (7 * p + q)) (by omega) (by omega)
    have hlt := nv_lt (m.1 44 0 (14 + (7 * p + q)))
    refine op_look h (fun t => kp_X9_asks _ _ _ m t) (fun m1 t => kp_X10_asks _ _ _ m1 t) rfl rfl rfl (if c = 0 then m.1 44 0 (14 + (7 * p + q)) else if c = 1 then (if m.1 44 0 (14 + (7 * p + q)) = 0 then -1 else m.1 44 0 (63 + (7 * p + q))) else if c = 2 then sp_cnt (m.1 44 0) lw p q else if c = 3 then bv (sp_bar (m.1 44 0) lw p q) else if c = 4 then bv (sp_may (m.1 44 0) lw p q) else -1) ?_ ?_
    · show ∃ m', fn_X9_asks (nI p) (nI q) c m = some (_, m')
      unfold fn_X9_asks
      rw [hasTwo_ok e8, if_pos H, bd_s, if_pos (by decide), e1, bd_s]
      have e8' : m1.1 8 0 0 = nI n := by rw [f1]; exact e8
      have hp' : p < nv (m.1 44 0 0) := by rw [en]; exact hp
      have hq' : q < nv (m.1 44 0 0) := by rw [en]; exact hq
      by_cases c0 : c = 0
      · rw [if_pos c0, if_pos c0, cweight_ok e8' hn hp hq hne, bd_s, f1, ew]
        exact ⟨m1, rfl⟩
      rw [if_neg c0, if_neg c0]
      by_cases c1 : c = 1
      · rw [if_pos c1, if_pos c1, cweight_ok e8' hn hp hq hne, bd_s, f1, ew]
        by_cases z : nv (m.1 44 0 (14 + (7 * p + q))) = 0
        · rw [z] at hk
          rw [hk, if_pos (by decide), if_pos (by decide)]
          exact ⟨m1, rfl⟩
        · rw [if_neg (by rw [hk]; exact nI_nle (by omega) hlt), if_neg (by rw [hk]; exact nI_ne0 (by omega) hlt), csince_ok e8' hn hp hq hne, bd_s, f1, hU.2.2.2.2.2.2.2.1 _ (by omega) (by omega)]
          exact ⟨m1, rfl⟩
      rw [if_neg c1, if_neg c1]
      by_cases c2 : c = 2
      · rw [if_pos c2, if_pos c2]
        obtain ⟨m2, e2, k2⟩ := countsOf_ok j1 (by decide) hp' hq' hne
        rw [e2, bd_s]
        exact ⟨m2, rfl⟩
      rw [if_neg c2, if_neg c2]
      by_cases c3 : c = 3
      · rw [if_pos c3, if_pos c3]
        obtain ⟨m2, e2, k2⟩ := isBarred_ok j1 (by decide) hp' hq' hne
        rw [e2, bd_s]
        refine ⟨m2, ?_⟩
        cases sp_bar (m.1 44 0) lw p q <;> rfl
      rw [if_neg c3, if_neg c3]
      by_cases c4 : c = 4
      · rw [if_pos c4, if_pos c4]
        obtain ⟨m2, e2, k2⟩ := cmaySit_ok j1 (by decide) hp' hq' hne
        rw [e2, bd_s]
        refine ⟨m2, ?_⟩
        cases sp_may (m.1 44 0) lw p q <;> rfl
      · rw [if_neg c4, if_neg c4]
        exact ⟨m1, rfl⟩
    · intro m1 i1 f1
      have hl : rf_law (m1.1 44 0) lw := l1 _ (by rw [f1]) (fun k _ => by rw [f1])
      have hx : rfx 999 lw (am_si m1 10 0 0 0) := (i1.rfx hl).kp (WI := [(10, 0)]) (WL := []) (E := 0) (am_kp.si am_kp.rf rfl) rfl
      have f0 : (am_si m1 10 0 0 0).1 44 = m.1 44 := f1
      have e44' : (am_si m1 10 0 0 0).1 44 0 0 = nI n := by rw [f0]; exact e44
      show ∃ m', fn_X10_asks (nI p) (nI q) c m1 = some (_, m')
      unfold fn_X10_asks
      rw [isFolk_ok hn e44', if_pos H.1, bd_s, if_neg (by decide), isFolk_ok hn e44', if_pos H.2.1, bd_s, if_neg (by decide), if_pos H.2.2]
      have wk : fn_X10_weightOf (nI p) (nI q) (am_si m1 10 0 0 0) = some (m.1 44 0 (14 + (7 * p + q))) := weightOf_of (by rw [f0]) (by omega) (by omega)
      by_cases c0 : c = 0
      · rw [if_pos c0, if_pos c0, wk, bd_s]
        exact ⟨_, rfl⟩
      rw [if_neg c0, if_neg c0]
      by_cases c1 : c = 1
      · rw [if_pos c1, if_pos c1, wk, bd_s]
        by_cases z : m.1 44 0 (14 + (7 * p + q)) = 0
        · rw [if_neg (fun w => w z), if_pos z]
          exact ⟨_, rfl⟩
        · rw [if_pos z, if_neg z, show (((63 : Int32) + (7 : Int32) * nI p) + nI q) = nI (63 + (7 * p + q)) by rw [show (63 : Int32) = nI 63 from rfl, show (7 : Int32) = nI 7 from rfl, pk_mul, nI_add, nI_add, Nat.add_assoc], ck_in (by omega) (by decide), nI_clamp (by omega), f1]
          exact ⟨_, rfl⟩
      rw [if_neg c1, if_neg c1]
      by_cases c2 : c = 2
      · rw [if_pos c2, if_pos c2]
        obtain ⟨m2, e2, k2⟩ := countsAs_ok hx (show p < 7 by omega) (show q < 7 by omega)
        rw [e2, bd_s, f0]
        exact ⟨m2, rfl⟩
      rw [if_neg c2, if_neg c2]
      by_cases c3 : c = 3
      · rw [if_pos c3, if_pos c3]
        obtain ⟨m2, e2, k2⟩ := barsOff_ok hx (show p < 7 by omega) (show q < 7 by omega)
        rw [e2, bd_s, f0]
        refine ⟨m2, ?_⟩
        cases sp_bar (m.1 44 0) lw p q <;> rfl
      rw [if_neg c3, if_neg c3]
      by_cases c4 : c = 4
      · rw [if_pos c4, if_pos c4]
        obtain ⟨m2, e2, k2⟩ := maySit_ok hx (show p < 7 by omega) (show q < 7 by omega)
        rw [e2, bd_s, f0]
        refine ⟨m2, ?_⟩
        cases sp_may (m.1 44 0) lw p q <;> rfl
      · rw [if_neg c4, if_neg c4]
        exact ⟨_, rfl⟩
  · refine op_look h (fun t => kp_X9_asks _ _ _ m t) (fun m1 t => kp_X10_asks _ _ _ m1 t) rfl rfl rfl (-1) ⟨m, ?_⟩ (fun m1 i1 f1 => ⟨am_si m1 10 0 0 0, ?_⟩)
    · show fn_X9_asks a b c m = _
      unfold fn_X9_asks
      rw [hasTwo_ok e8, if_neg H, bd_s, if_neg (by decide)]
    · have e44' : (am_si m1 10 0 0 0).1 44 0 0 = nI n := by
        show m1.1 44 0 0 = nI n
        rw [f1]; exact e44
      show fn_X10_asks a b c m1 = _
      unfold fn_X10_asks
      rw [isFolk_ok hn e44', bd_s]
      by_cases h1 : 0 ≤ a ∧ a < nI n
      · rw [if_pos h1, if_neg (by decide), isFolk_ok hn e44', bd_s]
        by_cases h2 : 0 ≤ b ∧ b < nI n
        · rw [if_pos h2, if_neg (by decide), if_neg (fun z => H ⟨h1, h2, z⟩)]
        · rw [if_neg h2, if_pos rfl]
      · rw [if_neg h1, if_pos rfl]
theorem op_of (h : Inv m) (a c : Int32) : op_ok m (fun m => fn_X9_of a c m) (fun m => fn_X10_of a c m) := by
  obtain ⟨n, hn, e44, e8, en⟩ := h.n
  obtain ⟨lw, m1, e1, j1, f1, k1, l1⟩ := askLive_ok h
  by_cases H : 0 ≤ a ∧ a < nI n
  · obtain ⟨p, hp, rfl⟩ := fk_of hn H
    have hW := h.w
    have hU := h.u
    have hp' : p < nv (m.1 44 0 0) := by rw [en]; exact hp
    have efed : m.1 36 0 p = m.1 44 0 (7 + p) := hU.2.2.2.2.2.1 p (by omega)
    have hf : -1000000 ≤ (m.1 44 0 (7 + p)).toInt ∧ (m.1 44 0 (7 + p)).toInt ≤ 1000000 := by
      rw [hW.k (k := 7 + p) (by omega) (by omega)]; exact nI_small (by have := hW.2.2.2.2.2.2.2.2.1 p (by omega); omega)
    have hd : -1000000 ≤ (m.1 44 0 4).toInt ∧ (m.1 44 0 4).toInt ≤ 1000000 := by
      rw [hW.k (k := 4) (by omega) (by omega)]; exact nI_small (by have := hW.2.2.2.2.2.1; omega)
    refine op_look h (fun t => kp_X9_of _ _ m t) (fun m1 t => kp_X10_of _ _ m1 t) rfl rfl rfl (if c = 0 then m.1 44 0 (7 + p) else if c = 1 then nI (sx (mtx (m.1 44 0) lw p) n) else if c = 2 then sp_hun (m.1 44 0) lw p (m.1 44 0 (7 + p)) (m.1 44 0 4) else if c = 3 then nI (hby (m.1 44 0) p n) else if c = 4 then nI (hto (m.1 44 0) p n) else -1) ?_ ?_
    · show ∃ m', fn_X9_of (nI p) c m = some (_, m')
      unfold fn_X9_of
      rw [has_ok e8, if_pos H, bd_s, if_pos (by decide), e1, bd_s]
      have efo : fn_X8_fedOf 0 (nI p) m1 = some (m.1 44 0 (7 + p)) := by
        unfold fn_X8_fedOf
        rw [has_ok (n := n) (by rw [f1]; exact e8), if_pos H, bd_s, if_neg (by decide), ck_in (by omega) (by decide), nI_clamp (by omega), f1, efed]
      by_cases c0 : c = 0
      · rw [if_pos c0, if_pos c0, efo, bd_s]
        exact ⟨m1, rfl⟩
      rw [if_neg c0, if_neg c0]
      by_cases c1 : c = 1
      · rw [if_pos c1, if_pos c1]
        obtain ⟨m2, e2⟩ := companions_ok j1 (by decide) hp'
        rw [e2, bd_s, en]
        exact ⟨m2, rfl⟩
      rw [if_neg c1, if_neg c1]
      by_cases c2 : c = 2
      · rw [if_pos c2, if_pos c2, efo, bd_s, f1, show m.1 39 0 0 = m.1 44 0 4 from hU.2.2.2.2.1 0 (by decide)]
        obtain ⟨m2, e2, k2⟩ := hungerOf_ok j1 (show p < 7 by omega) hf hd
        rw [e2, bd_s]
        exact ⟨m2, rfl⟩
      rw [if_neg c2, if_neg c2]
      by_cases c3 : c = 3
      · rw [if_pos c3, if_pos c3, charmsBy_ok j1.2.1 j1.2.2.1 hp', bd_s, en]
        exact ⟨m1, rfl⟩
      rw [if_neg c3, if_neg c3]
      by_cases c4 : c = 4
      · rw [if_pos c4, if_pos c4, charmsTo_ok j1.2.1 j1.2.2.1 hp', bd_s, en]
        exact ⟨m1, rfl⟩
      · rw [if_neg c4, if_neg c4]
        exact ⟨m1, rfl⟩
    · intro m1 i1 f1
      have hl : rf_law (m1.1 44 0) lw := l1 _ (by rw [f1]) (fun k _ => by rw [f1])
      have hx : rfx 999 lw (am_si m1 10 0 0 0) := (i1.rfx hl).kp (WI := [(10, 0)]) (WL := []) (E := 0) (am_kp.si am_kp.rf rfl) rfl
      have f0 : (am_si m1 10 0 0 0).1 44 = m.1 44 := f1
      have e44' : (am_si m1 10 0 0 0).1 44 0 0 = nI n := by rw [f0]; exact e44
      show ∃ m', fn_X10_of (nI p) c m1 = some (_, m')
      unfold fn_X10_of
      rw [isFolk_ok hn e44', if_pos H, bd_s, if_pos (by decide)]
      by_cases c0 : c = 0
      · rw [if_pos c0, if_pos c0, show (7 : Int32) = nI 7 from rfl, nI_add, ck_in (by omega) (by decide), nI_clamp (by omega), f1]
        exact ⟨_, rfl⟩
      rw [if_neg c0, if_neg c0]
      by_cases c1 : c = 1
      · rw [if_pos c1, if_pos c1]
        obtain ⟨m2, e2, l2, f2⟩ := lay_ok i1 f1 l1
        rw [en] at l2
        rw [e2, bd_s, sitsWith_ok l2 hn (by rw [f2]; exact e44) hp, bd_s]
        exact ⟨m2, rfl⟩
      rw [if_neg c1, if_neg c1]
      by_cases c2 : c = 2
      · rw [if_pos c2, if_pos c2]
        obtain ⟨m2, e2, k2⟩ := hungersBy_ok hx (show p < 7 by omega)
        rw [e2, bd_s, f0]
        exact ⟨m2, rfl⟩
      rw [if_neg c2, if_neg c2]
      have hb := harmsBy_ok (p := p) hx.1 (by rw [f0]; exact hp')
      rw [f0, en] at hb
      by_cases c3 : c = 3
      · rw [if_pos c3, if_pos c3, hb.1, bd_s]
        exact ⟨_, rfl⟩
      rw [if_neg c3, if_neg c3]
      by_cases c4 : c = 4
      · rw [if_pos c4, if_pos c4, hb.2, bd_s]
        exact ⟨_, rfl⟩
      · rw [if_neg c4, if_neg c4]
        exact ⟨_, rfl⟩
  · refine op_look h (fun t => kp_X9_of _ _ m t) (fun m1 t => kp_X10_of _ _ m1 t) rfl rfl rfl (-1) ⟨m, ?_⟩ (fun m1 i1 f1 => ⟨am_si m1 10 0 0 0, ?_⟩)
    · show fn_X9_of a c m = _
      unfold fn_X9_of
      rw [has_ok e8, if_neg H, bd_s, if_neg (by decide)]
    · have e44' : (am_si m1 10 0 0 0).1 44 0 0 = nI n := by
        show m1.1 44 0 0 = nI n
        rw [f1]; exact e44
      show fn_X10_of a c m1 = _
      unfold fn_X10_of
      rw [isFolk_ok hn e44', bd_s, if_neg H, if_neg (by decide)]
/-- a number that is one of those that a list names, or none of them -/
theorem op_count (h : Inv m) (a : Int32) : op_ok m (fun m => (fn_X9_count a m).map (fun r => (r, m))) (fun m => fn_X10_count a m) := by
  have hU := h.u
  have hW := h.w
  suffices fin : ∃ r, fn_X9_count a m = some r ∧ fn_X10_count a m = some (r, am_si m 10 0 0 0) by
    obtain ⟨r, h1, h2⟩ := fin
    refine ⟨r, m, am_si m 10 0 0 0, ?_, h2, h.look (WI := [(10, 0)]) (WL := []) (E := 0) (am_kp.si am_kp.rf rfl) rfl rfl⟩
    show (fn_X9_count a m).map (fun r => (r, m)) = _
    rw [h1]
    rfl
  have hT := h.1.2.2.2.2.2.2.1
  have hH := h.1.2.2.2.1
  have hS := h.2.2
  unfold fn_X9_count fn_X10_count
  by_cases c0 : a = 0
  · rw [if_pos c0, if_pos c0, hU.1]; exact ⟨_, rfl, rfl⟩
  rw [if_neg c0, if_neg c0]
  by_cases c1 : a = 1
  · rw [if_pos c1, if_pos c1, charmCount_ok hU hW, bd_s, harmsOf_ok (m := am_si m 10 0 0 0) (D := 999) hW, bd_s]; exact ⟨_, rfl, rfl⟩
  rw [if_neg c1, if_neg c1]
  by_cases c2 : a = 2
  · rw [if_pos c2, if_pos c2, cstarving_ok hU hW, bd_s, starving_ok (m := am_si m 10 0 0 0) (D := 999) hW, bd_s]; exact ⟨_, rfl, rfl⟩
  rw [if_neg c2, if_neg c2]
  by_cases c3 : a = 3
  · rw [if_pos c3, if_pos c3, hU.2.1]; exact ⟨_, rfl, rfl⟩
  rw [if_neg c3, if_neg c3]
  by_cases c4 : a = 4
  · rw [if_pos c4, if_pos c4, hU.2.2.1]; exact ⟨_, rfl, rfl⟩
  rw [if_neg c4, if_neg c4]
  by_cases c5 : a = 5
  · rw [if_pos c5, if_pos c5, hH.1]; exact ⟨_, rfl, rfl⟩
  rw [if_neg c5, if_neg c5]
  by_cases c6 : a = 6
  · rw [if_pos c6, if_pos c6, hT.1]; exact ⟨_, rfl, rfl⟩
  rw [if_neg c6, if_neg c6]
  by_cases c7 : a = 7
  · rw [if_pos c7, if_pos c7, c7, show (7 : Int32) - 6 = nI 1 from rfl, ck_in (by decide) (by decide), nI_clamp (by decide), hS 1 (by decide) (by decide)]; exact ⟨_, rfl, rfl⟩
  rw [if_neg c7, if_neg c7]
  by_cases c8 : a = 8
  · rw [if_pos c8, if_pos c8, c8, show (8 : Int32) - 6 = nI 2 from rfl, ck_in (by decide) (by decide), nI_clamp (by decide), hS 2 (by decide) (by decide)]; exact ⟨_, rfl, rfl⟩
  rw [if_neg c8, if_neg c8]
  by_cases c9 : a = 9
  · rw [if_pos c9, if_pos c9, c9, show (9 : Int32) - 6 = nI 3 from rfl, ck_in (by decide) (by decide), nI_clamp (by decide), hS 3 (by decide) (by decide)]; exact ⟨_, rfl, rfl⟩
  rw [if_neg c9, if_neg c9]
  by_cases c10 : a = 10
  · rw [if_pos c10, if_pos c10, c10, show (10 : Int32) - 5 = nI 5 from rfl, ck_in (by decide) (by decide), nI_clamp (by decide), hS 5 (by decide) (by decide)]; exact ⟨_, rfl, rfl⟩
  rw [if_neg c10, if_neg c10]
  by_cases c11 : a = 11
  · rw [if_pos c11, if_pos c11, c11, show (11 : Int32) - 5 = nI 6 from rfl, ck_in (by decide) (by decide), nI_clamp (by decide), hS 6 (by decide) (by decide)]; exact ⟨_, rfl, rfl⟩
  rw [if_neg c11, if_neg c11]
  by_cases c12 : a = 12
  · rw [if_pos c12, if_pos c12, hU.2.2.2.1]; exact ⟨_, rfl, rfl⟩
  rw [if_neg c12, if_neg c12, show (13 : Int64) = (13 : Int32).toInt64 from rfl, show (15 : Int64) = (15 : Int32).toInt64 from rfl, in_32, bd_s]
  by_cases c13 : a = 13
  · rw [if_pos c13, c13, if_neg (by decide), show (13 : Int32) - 13 = nI 0 from rfl, show (4 : Int32) + 13 - 13 = nI 4 from rfl, ck_in (by decide) (by decide), ck_in (by decide) (by decide), nI_clamp (by decide), nI_clamp (by decide), hU.2.2.2.2.1 0 (by decide)]; exact ⟨_, rfl, rfl⟩
  rw [if_neg c13]
  by_cases c14 : a = 14
  · rw [if_pos c14, c14, if_neg (by decide), show (14 : Int32) - 13 = nI 1 from rfl, show (4 : Int32) + 14 - 13 = nI 5 from rfl, ck_in (by decide) (by decide), ck_in (by decide) (by decide), nI_clamp (by decide), nI_clamp (by decide), hU.2.2.2.2.1 1 (by decide)]; exact ⟨_, rfl, rfl⟩
  rw [if_neg c14]
  by_cases c15 : a = 15
  · rw [if_pos c15, c15, if_neg (by decide), show (15 : Int32) - 13 = nI 2 from rfl, show (4 : Int32) + 15 - 13 = nI 6 from rfl, ck_in (by decide) (by decide), ck_in (by decide) (by decide), nI_clamp (by decide), nI_clamp (by decide), hU.2.2.2.2.1 2 (by decide)]; exact ⟨_, rfl, rfl⟩
  rw [if_neg c15]
  have hno : ¬ ((13 : Int32) ≤ a ∧ a ≤ 15) := by
    rintro ⟨g1, g2⟩
    rw [fa_le] at g1 g2
    have g1 : (13 : Int) ≤ a.toInt := g1
    have g2 : a.toInt ≤ 15 := g2
    have : a.toInt = 13 ∨ a.toInt = 14 ∨ a.toInt = 15 := by omega
    rcases this with z | z | z
    · exact c13 ((fa_eq _ _).mpr z)
    · exact c14 ((fa_eq _ _).mpr z)
    · exact c15 ((fa_eq _ _).mpr z)
  rw [if_neg hno, if_pos rfl]
  exact ⟨_, rfl, rfl⟩
theorem op_drawn (h : Inv m) (a b : Int32) : op_ok m (fun m => (fn_X9_drawn a b m).map (fun r => (r, m))) (fun m => fn_X10_drawn a b m) := by
  have fin : ∀ r, fn_X9_drawn a b m = some r → fn_X10_drawn a b m = some (r, am_si m 10 0 0 0) → op_ok m (fun m => (fn_X9_drawn a b m).map (fun r => (r, m))) (fun m => fn_X10_drawn a b m) := by
    intro r h1 h2
    refine ⟨r, m, am_si m 10 0 0 0, ?_, h2, h.look (WI := [(10, 0)]) (WL := []) (E := 0) (am_kp.si am_kp.rf rfl) rfl rfl⟩
    show (fn_X9_drawn a b m).map (fun r => (r, m)) = _
    rw [h1]
    rfl
  obtain ⟨e1, e2⟩ | ⟨n, hn, e1, e2, e3, e4⟩ := h.1.2.2.2.2.2.1
  · refine fin (-1) ?_ ?_
    · unfold fn_X9_drawn
      rw [has_ok (n := 0) (by rw [e2]; rfl), if_neg (fun z => (fa_of_lt z.2).2.1 z.1), bd_s, if_neg (by decide)]
    · unfold fn_X10_drawn
      rw [e1, show ((-1 : Int32).toInt64 - (1 : Int64)) = (-2 : Int32).toInt64 from rfl, show (0 : Int64) = (0 : Int32).toInt64 from rfl, in_32, bd_s]
      have hz : ¬ ((0 : Int32) ≤ a ∧ a ≤ -2) := by
        rintro ⟨z1, z2⟩
        rw [fa_le] at z1 z2
        have z1 : (0 : Int) ≤ a.toInt := z1
        have z2 : a.toInt ≤ -2 := z2
        omega
      rw [if_neg hz, if_pos rfl]
  · have hI : ∀ x : Int32, fn_X10_in x.toInt64 0 ((nI n).toInt64 - (1 : Int64)) (am_si m 10 0 0 0) = some (if 0 ≤ x ∧ x < nI n then 1 else 0) := fun x => by
      rw [fk_pred n hn, show (0 : Int64) = (0 : Int32).toInt64 from rfl, in_32, if_iff (q := 0 ≤ x ∧ x < nI n) (by rw [le_pred hn])]
    by_cases H : 0 ≤ a ∧ a < nI n
    · obtain ⟨p, hp, rfl⟩ := fk_of hn H
      by_cases hb : b = -1
      · subst hb
        refine fin (m.1 63 0 (3 + p)) ?_ ?_
        · unfold fn_X9_drawn
          rw [has_ok e2, if_pos H, bd_s, if_pos (by decide), if_neg (fun z => z rfl)]
          unfold fn_X8_fedOf
          rw [has_ok e2, if_pos H, bd_s, if_neg (by decide), ck_in (by omega) (by decide), nI_clamp (by omega), bd_s, e3 p (by omega)]
        · unfold fn_X10_drawn
          rw [e1, hI, if_pos H, bd_s, if_neg (by decide), if_pos rfl, if_pos (nI_m1 (by omega)), if_neg (fun z => z rfl), show (3 : Int32) = nI 3 from rfl, nI_add, ck_in (by omega) (by decide), nI_clamp (by omega)]
      · by_cases H2 : 0 ≤ b ∧ b < nI n
        · obtain ⟨q, hq, rfl⟩ := fk_of hn H2
          by_cases hne : p = q
          · subst hne
            refine fin (-1) ?_ ?_
            · unfold fn_X9_drawn
              rw [has_ok e2, if_pos H, bd_s, if_pos (by decide), if_pos hb, hasTwo_ok e2, if_neg (fun z => z.2.2 rfl), bd_s, if_pos rfl]
            · unfold fn_X10_drawn
              rw [e1, hI, if_pos H, bd_s, if_neg (by decide), if_neg hb, bd_s, if_neg (by decide), if_neg (fun z => z rfl)]
          · refine fin (m.1 63 0 (10 + (7 * p + q))) ?_ ?_
            · unfold fn_X9_drawn
              rw [has_ok e2, if_pos H, bd_s, if_pos (by decide), if_pos hb, hasTwo_ok e2, if_pos ⟨H, H2, nI_ne (by omega) (by omega) hne⟩, bd_s, if_neg (by decide), cweight_ok e2 hn hp hq hne, bd_s, e4 _ (by omega)]
            · unfold fn_X10_drawn
              rw [e1, hI, if_pos H, bd_s, if_neg (by decide), if_neg hb, hI, if_pos H2, bd_s, if_neg (by decide), if_pos (nI_ne (by omega) (by omega) hne), if_pos hb, show (((10 : Int32) + (7 : Int32) * nI p) + nI q) = nI (10 + (7 * p + q)) by rw [show (10 : Int32) = nI 10 from rfl, show (7 : Int32) = nI 7 from rfl, pk_mul, nI_add, nI_add, Nat.add_assoc], ck_in (by omega) (by decide), nI_clamp (by omega)]
        · refine fin (-1) ?_ ?_
          · unfold fn_X9_drawn
            rw [has_ok e2, if_pos H, bd_s, if_pos (by decide), if_pos hb, hasTwo_ok e2, if_neg (fun z => H2 z.2.1), bd_s, if_pos rfl]
          · unfold fn_X10_drawn
            rw [e1, hI, if_pos H, bd_s, if_neg (by decide), if_neg hb, hI, if_neg H2, bd_s, if_pos rfl]
    · refine fin (-1) ?_ ?_
      · unfold fn_X9_drawn
        rw [has_ok e2, if_neg H, bd_s, if_neg (by decide)]
      · unfold fn_X10_drawn
        rw [e1, hI, if_neg H, bd_s, if_pos rfl]
end OPS3
