/-! both read a CLAUSE of ORDERS alike -/
def oW (k : Nat) (q : am_m) : am_m := am_si q 61 0 (10 * k + 7) (q.1 10 0 23)
section LJ
variable {T : Nat → Nat} {L n p : Nat} {m m' M M' : am_m} {c c' c2 c2' : rcd} {a b a2 b2 p2 lv aw aw2 k s : Nat} {ord : Bool}
theorem rz85 {x1 : Int32} (hk : k < 12) : ∃ M', lp_X10_readOrder_85 1000000 x1 (nI (10 * k)) 0 M = some M' ∧ (∀ i, M'.1 61 0 i = if 10 * k ≤ i ∧ i < 10 * k + 10 then 0 else M.1 61 0 i) ∧ am_kp [(61, 0)] [] 0 M M' := by
  refine lp_up0 (fun N x b => lp_X10_readOrder_85 N x1 (nI (10 * k)) x b) (fun j M1 => (∀ i, M1.1 61 0 i = if 10 * k ≤ i ∧ i < 10 * k + j then 0 else M.1 61 0 i) ∧ am_kp [(61, 0)] [] 0 M M1) (fun M1 => (∀ i, M1.1 61 0 i = if 10 * k ≤ i ∧ i < 10 * k + 10 then 0 else M.1 61 0 i) ∧ am_kp [(61, 0)] [] 0 M M1) 10 (by decide) (fun N M1 hh => ⟨M1, ?_, hh⟩) (fun N j M1 hj hh => Or.inl ⟨am_si M1 61 0 (10 * k + j) 0, ?_, fun i => ?_, am_kp.si hh.2 rfl⟩) M ⟨fun _ => (if_neg (by omega)).symm, am_kp.rf⟩
  · show lp_X10_readOrder_85 (N + 1) x1 (nI (10 * k)) (nI 10) M1 = _
    rw [lp_X10_readOrder_85.eq_2, if_pos (by decide)]
  · show lp_X10_readOrder_85 (N + 1) x1 (nI (10 * k)) (nI j) M1 = lp_X10_readOrder_85 N x1 (nI (10 * k)) (nI (j + 1)) _
    rw [lp_X10_readOrder_85.eq_2, if_neg (show ¬ (10 : Int32) ≤ nI j from nI_ge (b := 10) hj (by decide)), nI_add, ck_in (by omega) (by decide), nI_clamp (by omega), nI_1]
  · rw [rd_j, hh.1 i]
    by_cases e : i = 10 * k + j
    · rw [if_pos e, if_pos (by omega)]
    · rw [if_neg e]
      exact if_iff (by omega)
theorem rol_no (hr : rce T L ord M c b p lv) (hh : ¬ (270 ≤ lx_kd T L p ∧ lx_kd T L p < 270 + 4) ∨ M.1 10 0 21 = nI 12) : ∃ M', fn_X10_readOrder M = some M' ∧ M'.1 10 0 19 = 1 ∧ M'.1 10 0 18 = nI p := by
  obtain ⟨M', e1, e2, e3, e4⟩ := hr.must0
  refine ⟨M', ?_, e2, e3⟩
  unfold fn_X10_readOrder
  rw [orderHead_ok hr.1 hr.2.2.2.2.2.1, bd_s]
  have h0 : (if (if 270 ≤ lx_kd T L p ∧ lx_kd T L p < 270 + 4 then nI (lx_kd T L p - 270) else -1) = (-1 : Int32) then some (0 : Int32) else (if (12 : Int32) ≤ (M.1 10 0 21) then some (0 : Int32) else some (1 : Int32))) = some 0 := by
    by_cases q : 270 ≤ lx_kd T L p ∧ lx_kd T L p < 270 + 4
    · rw [if_pos q, if_neg (nI_m1 (by omega)), hh.resolve_left (fun z => z q), if_pos (by decide)]
    · rw [if_neg q, if_pos rfl]
  rw [h0, bd_s, e1, bd_s, if_neg (show ¬ M'.1 10 0 19 = 0 by rw [e2]; decide)]
theorem rol_seq {h : Nat} {M2 q33 : am_m} (hh : h < 4) (g : rC k (nS h) 3 M2 = some q33) : ∃ q22 q29, (if nI h = (3 : Int32) then some M2 else (fn_X10_readSum (nI (10 * k + 1)) M2).bind fun r => some r) = some q22 ∧ (if nI h = 0 then (fn_X10_readBehind 655 (nI (10 * k + 3)) q22).bind fun r => some r else (if nI h ≠ (2 : Int32) then some q22 else (fn_X10_readBehind 655 (nI (10 * k + 3)) q22).bind fun r => some r)) = some q29 ∧ (if nI h ≠ 0 then some q29 else (fn_X10_readBehind 89 (nI (10 * k + 5)) q29).bind fun r => some r) = some q33 := by
  have bs : ∀ o : Option am_m, (o.bind fun r => some r) = o := fun o => by cases o <;> rfl
  obtain ⟨q22, g1, g⟩ := am_bd (show (rO k (nS h) (2 - 2) M2).bind (rC k (nS h) 2) = some q33 from g)
  obtain ⟨q29, g2, g⟩ := am_bd (show (rO k (nS h) (2 - 1) q22).bind (rC k (nS h) 1) = some q33 from g)
  obtain ⟨q, g3, g⟩ := am_bd (show (rO k (nS h) (2 - 0) q29).bind (rC k (nS h) 0) = some q33 from g)
  have g : some q = some q33 := g
  cases g
  refine ⟨q22, q29, ?_⟩
  rw [bs, bs, bs]
  have : h = 0 ∨ h = 1 ∨ h = 2 ∨ h = 3 := by omega
  rcases this with rfl | rfl | rfl | rfl
  · exact ⟨g1, g2, g3⟩
  · exact ⟨g1, g2, g3⟩
  · exact ⟨g1, g2, g3⟩
  · exact ⟨g1, g2, g3⟩
theorem rol_run (hr : rce T L true M c b p lv) (h21 : M.1 10 0 21 = nI k) (hk : k < 12) (hh : 270 ≤ lx_kd T L p ∧ lx_kd T L p < 270 + 4) :
    ∃ M2, rce T L true M2 c b (lx_nx T L p) lv ∧ M2.1 10 0 21 = nI (k + 1) ∧ (∀ i, M2.1 61 0 i = if i = 10 * k then nI (lx_kd T L p - 270) else if 10 * k ≤ i ∧ i < 10 * k + 10 then 0 else M.1 61 0 i) ∧ ∀ q33 q44 q54, rC k (nS (lx_kd T L p - 270)) 3 M2 = some q33 → rTimes k q33 = some q44 → (if q44.1 10 0 19 ≠ 0 then some (oW k q44) else rTail (oW k q44)) = some q54 → fn_X10_readOrder M = some (am_si q54 61 0 (10 * k + 8) (q54.1 10 0 23)) := by
  obtain ⟨M1, e1, e2, e3⟩ := hr.must1 (x := 1) (by decide)
  have h21' : M1.1 10 0 21 = nI k := by rw [e3.fld 10 0 21 rfl]; exact h21
  have k0 : am_kp [(10, 21), (51, 0), (61, 0)] [] 0 M1 (am_si M1 10 0 21 (nI (k + 1))) := am_kp.si am_kp.rf rfl
  obtain ⟨Mz, z1, z2, z3⟩ := rz85 (M := am_si M1 10 0 21 (nI (k + 1))) (x1 := nI (lx_kd T L p - 270)) hk
  have rz : rce T L true Mz c b (lx_nx T L p) lv := (e2.k51 k0).k51 (am_kp.mono z3 rfl)
  have k2 : am_kp [(10, 21), (51, 0), (61, 0)] [] 0 Mz (am_si Mz 61 0 (10 * k) (nI (lx_kd T L p - 270))) := am_kp.si am_kp.rf rfl
  have e10 : (10 : Int32) * nI k = nI (10 * k) := by rw [show (10 : Int32) = nI 10 from rfl, pk_mul]
  refine ⟨_, rz.k51 k2, ?_, fun i => ?_, fun q33 q44 q54 g1 g2 g3 => ?_⟩
  · show Mz.1 10 0 21 = _
    rw [z3.fld 10 0 21 rfl]; rfl
  · rw [rd_j, z2]
    show (if i = 10 * k then _ else if _ then _ else M1.1 61 0 i) = _
    rw [e3.row 61 rfl]
  · obtain ⟨q22, q29, s1, s2, s3⟩ := rol_seq (show lx_kd T L p - 270 < 4 by omega) g1
    unfold fn_X10_readOrder
    rw [orderHead_ok hr.1 hr.2.2.2.2.2.1, bd_s, if_pos hh, if_neg (nI_m1 (show lx_kd T L p - 270 < 2 ^ 31 by omega)), h21, if_neg (show ¬ (12 : Int32) ≤ nI k from nI_ge (b := 12) hk (by decide)), bd_s, e1, bd_s, if_pos (show M1.1 10 0 19 = 0 from e2.2.2.2.1), h21', e10, nI_1, z1, bd_s, nI_clamp (show 10 * k < 2 ^ 31 by omega), ck_in (show 10 * k < 120 by omega) (by decide), show nI (10 * k) + (1 : Int32) = nI (10 * k + 1) from nI_add _ _, show nI (10 * k) + (3 : Int32) = nI (10 * k + 3) from nI_add _ _, show nI (10 * k) + (5 : Int32) = nI (10 * k + 5) from nI_add _ _, s1, bd_s, s2, bd_s, s3, bd_s, show nI (10 * k) + (9 : Int32) = nI (10 * k + 9) from nI_add _ _, nI_clamp (show 10 * k + 9 < 2 ^ 31 by omega), ck_in (show 10 * k + 9 < 120 by omega) (by decide)]
    refine (bd_e (show _ = some q44 from g2)).trans ?_
    rw [show nI (10 * k) + (7 : Int32) = nI (10 * k + 7) from nI_add _ _, nI_clamp (show 10 * k + 7 < 2 ^ 31 by omega), ck_in (show 10 * k + 7 < 120 by omega) (by decide)]
    refine (bd_e (show _ = some q54 from g3)).trans ?_
    rw [show nI (10 * k) + (8 : Int32) = nI (10 * k + 8) from nI_add _ _, nI_clamp (show 10 * k + 8 < 2 ^ 31 by omega), ck_in (show 10 * k + 8 < 120 by omega) (by decide)]
theorem ocl.go {hd rw : Nat → Int32} {i : Nat} {z : oz_T} (h : ocl c c' a b aw hd rw i z) (g : lgo c c' a b p aw c2 c2' a2 b2 p2 aw2) {hd' rw' : Nat → Int32} (h1 : ∀ j, j < 6 * (i + 1) → hd' j = hd j) (h2 : ∀ j, j < 10 * (i + 1) → rw' j = rw j) : ocl c2 c2' a2 b2 aw2 hd' rw' i z := by
  obtain ⟨B, B2, g1, g2, g3, g4, g5, g6, g7, g8, g9, g10, g11, g12⟩ := h
  refine ⟨B, B2, ?_, ?_, g3, ?_, ?_, g6, g7, ?_, ?_, ?_, g11, fun j hj => ?_⟩
  · rw [h1 _ (by omega)]; exact g1
  · rw [h2 _ (by omega)]; exact g2
  · rw [h1 _ (by omega)]; exact g4
  · rw [h2 _ (by omega)]; exact g5
  · rw [h2 _ (by omega)]; exact g8
  · rw [h2 _ (by omega)]; exact g9
  · rw [h1 _ (by omega)]; exact g10.go g
  · obtain ⟨x1, x2, x3, x4⟩ := g12 j hj
    exact ⟨by rw [h2 _ (by omega)]; exact x1, by rw [h2 _ (by omega)]; exact x2, by rw [h1 _ (by omega)]; exact x3.go g, x4⟩
theorem order_clause (hT : ∀ k, k < L → T k < 256) (hk : lks T L n true m M c c' a b p lv aw) (h2 : m.1 5 0 2 = nI k) (h21 : M.1 10 0 21 = nI k) (hk12 : k < 12) (hl : m.2.2.2.2.2.2.1 28 0 = 72) :
    (∃ q m' M', fn_X4_readClause m = some (0, m') ∧ m'.1 4 0 10 = nI q ∧ fn_X10_readOrder M = some M' ∧ M'.1 10 0 19 = 1 ∧ M'.1 10 0 18 = nI q) ∨
    (∃ m' M' c2 c2' a2 b2 p2 lv2 aw2 z, fn_X4_readClause m = some (1, m') ∧ fn_X10_readOrder M = some M' ∧ lks T L n true m' M' c2 c2' a2 b2 p2 lv2 aw2 ∧ lgo c c' a b p aw c2 c2' a2 b2 p2 aw2 ∧ ocl c2 c2' a2 b2 aw2 (m'.1 28 0) (M'.1 61 0) k z ∧ (∀ i, i < 6 * k → m'.1 28 0 i = m.1 28 0 i) ∧ (∀ i, i < 10 * k → M'.1 61 0 i = M.1 61 0 i) ∧ m'.1 5 0 2 = nI (k + 1) ∧ M'.1 10 0 21 = nI (k + 1) ∧ m'.2.2 = m.2.2) := by
  obtain ⟨hc, hr, hp, hlv, haw, hap⟩ := hk
  have hkd := kd_286 hT hp
  by_cases hh : ¬ (270 ≤ lx_kd T L p ∧ lx_kd T L p < 270 + 4)
  · obtain ⟨m', e1, e2⟩ := ccl_no hT hp hc (by unfold sumN; rw [if_neg (by decide), if_neg (by omega), if_neg (by omega), if_neg (by omega), if_neg (by omega)])
    obtain ⟨M', f1, f2, f3⟩ := rol_no hr (Or.inl hh)
    exact Or.inl ⟨p, m', M', e1, e2, f1, f2, f3⟩
  have hh : 270 ≤ lx_kd T L p ∧ lx_kd T L p < 270 + 4 := by omega
  have s3 : nS (lx_kd T L p - 270) ≤ 3 := by
    unfold nS
    by_cases q0 : lx_kd T L p - 270 = 0
    · rw [if_pos q0]; decide
    rw [if_neg q0]
    by_cases q1 : lx_kd T L p - 270 = 1
    · rw [if_pos q1]; decide
    rw [if_neg q1]
    by_cases q2 : lx_kd T L p - 270 = 2
    · rw [if_pos q2]; decide
    rw [if_neg q2]; decide
  have s1 : sumN true (lx_kd T L p) = nI (nS (lx_kd T L p - 270)) := by
    have : lx_kd T L p = 270 ∨ lx_kd T L p = 271 ∨ lx_kd T L p = 272 ∨ lx_kd T L p = 273 := by omega
    rcases this with q | q | q | q <;> rw [q] <;> decide
  obtain ⟨m2, c1, c2e, c3, c4, c5, c6⟩ := ccl_run hT hp hc h2 hk12 hl s1 s3
  obtain ⟨M2, r1, r2, r3, r4⟩ := rol_run hr h21 hk12 hh
  have up := nx_up (T := T) hp (by omega)
  have hl2 : m2.2.2.2.2.2.2.1 28 0 = 72 := by rw [c4]; exact hl
  have st0 : oSt T L n k (nS (lx_kd T L p - 270)) 0 m2 M2 m2 M2 c c' a b (lx_nx T L p) aw := by
    refine ⟨c, c', a, b, lx_nx T L p, lv, aw, fun _ => 0, fun _ => 0, fun _ => none, ⟨c1, r1, up.2, hlv, haw, by omega⟩, lgo.rf, fun _ => by omega, fun i hi => ⟨?_, ?_, ⟨?_, rfl⟩, ⟨fun z => absurd z (Nat.not_lt_zero _), fun z => absurd rfl z⟩, fun f hf => by cases hf⟩, fun _ _ => rfl, fun _ _ => rfl, c2e, rfl, r2, fun N => rfl⟩
    · rw [r3, if_neg (by omega), if_pos (by omega)]; rfl
    · rw [r3, if_neg (by omega), if_pos (by omega)]; rfl
    · rw [c3, if_neg (by omega), if_neg (by omega), if_pos (by omega)]
  rcases oSt_all hT hk12 hl2 s3 3 m2 M2 (Nat.le_refl _) (by rw [show min (3 - 3) (nS (lx_kd T L p - 270)) = 0 by omega]; exact st0) with ⟨q, m3, q33, g1, g2, g3, g4, g5⟩ | ⟨m3, q33, g1, g2, g3⟩
  · have t1 : rTimes k q33 = some (am_si q33 61 0 (10 * k + 9) 1) := if_pos (by rw [g4]; decide)
    exact Or.inl ⟨q, m3, _, c5 m3 g1, g2, r4 q33 _ _ g3 t1 (if_pos (by show q33.1 10 0 19 ≠ 0; rw [g4]; decide)), g4, g5⟩
  obtain ⟨c1x, c1', a1, b1, p1, lv1, aw1, B, B2, S, h1, h2x, -, h4, h5, h6, h7, h8, h9, -⟩ := g3
  have hl3 : m3.2.2.2.2.2.2.1 28 0 = 72 := by rw [h8]; exact hl2
  rcases otimes (k := k) hT h1 h7 hk12 hl3 (by rw [h5 _ (by omega), c3, if_pos rfl]) with ⟨q, m4, q44, g3, g4, g5, g6, g7⟩ | ⟨m4, q44, p4, t, g3, g4, g5, g6, g7, g8, g9, g10, g11, g12, g13⟩
  · exact Or.inl ⟨q, m4, _, by rw [c6 m3 g1]; exact g3, g4, r4 q33 q44 _ g2 g5 (if_pos (by rw [g6]; decide)), g6, g7⟩
  have kW : am_kp [(10, 21), (51, 0), (61, 0)] [] 0 q44 (oW k q44) := am_kp.si am_kp.rf rfl
  have lk4 : lks T L n true m4 (oW k q44) c1x c1' a1 b1 p4 lv1 aw1 := ⟨g5.1, g5.2.1.k51 kW, g5.2.2⟩
  have b44 : q44.1 10 0 23 = nI b1 := g5.2.1.2.1.1
  have h19 : q44.1 10 0 19 = 0 := g5.2.1.2.2.2.1
  have W61 : ∀ i, (oW k q44).1 61 0 i = if i = 10 * k + 7 then nI b1 else q44.1 61 0 i := fun i => by
    unfold oW
    rw [rd_j, b44]
  rcases lks_tail (k := k) hT lk4 (by rw [g10]; exact h7) hk12 (by rw [g11]; exact hl3) (by rw [g9, if_neg (by omega), h5 _ (by omega), c3, if_neg (by omega), if_neg (by omega), if_pos (by omega)]) with ⟨q, m5, M5, d1, d2, d3, d4, d5⟩ | ⟨m5, M5, c3x, c3', a3, b3, p3, lv3, aw3, o2, d1, d2, d3, d4, d5, d6, d7, d8, d9⟩
  · exact Or.inl ⟨q, m5, _, by rw [c6 m3 g1, g3, d1], d2, r4 q33 q44 M5 g2 g4 (by rw [if_neg (fun z => z h19)]; exact d3), d4, d5⟩
  · have kT : M5.1 61 = (oW k q44).1 61 ∧ M5.1 10 0 21 = (oW k q44).1 10 0 21 := by
      unfold rTail at d2
      obtain ⟨r27, x1, d2⟩ := am_bd d2
      by_cases z : r27 = 0
      · rw [if_pos z] at d2; cases d2; exact ⟨rfl, rfl⟩
      · rw [if_neg z] at d2
        obtain ⟨r30, x2, d2⟩ := am_bd d2
        obtain ⟨r32, x3, d2⟩ := am_bd d2
        cases d2
        have k1 := kp_X10_next _ _ x2
        have k2 := kp_X10_readExpression _ _ _ x3
        exact ⟨by rw [k2.row 61 rfl, k1.row 61 rfl], by rw [k2.fld 10 0 21 rfl, k1.fld 10 0 21 rfl]⟩
    have b5 : M5.1 10 0 23 = nI b3 := d3.2.1.2.1.1
    have kF : am_kp [(10, 21), (51, 0), (61, 0)] [] 0 M5 (am_si M5 61 0 (10 * k + 8) (M5.1 10 0 23)) := am_kp.si am_kp.rf rfl
    have F61 : ∀ i, (am_si M5 61 0 (10 * k + 8) (M5.1 10 0 23)).1 61 0 i = if i = 10 * k + 8 then nI b3 else if i = 10 * k + 7 then nI b1 else if i = 10 * k + 9 then nI t else q33.1 61 0 i := fun i => by rw [rd_j, b5, kT.1, W61, g12]
    have hg : lgo c c' a b p aw c1x c1' a1 b1 p4 aw1 := lgo.tr (c2 := c) (c2' := c') (a2 := a) (b2 := b) (p2 := lx_nx T L p) (aw2 := aw) ⟨fun _ _ => rfl, fun _ _ => rfl, Nat.le_refl _, Nat.le_refl _, by omega, fun _ z => z⟩ (h2x.tr ⟨fun _ _ => rfl, fun _ _ => rfl, Nat.le_refl _, Nat.le_refl _, g6, fun _ z => z⟩)
    have hd : ∀ i, i ≠ 6 * k + 2 → i ≠ 6 * k + 1 → m5.1 28 0 i = m3.1 28 0 i := fun i hi hi2 => by rw [d7 i hi, g9, if_neg hi2]
    refine Or.inr ⟨m5, _, c3x, c3', a3, b3, p3, lv3, aw3, (lx_kd T L p - 270, t, o2, S), by rw [c6 m3 g1, g3, d1], r4 q33 q44 M5 g2 g4 (by rw [if_neg (fun z => z h19)]; exact d2), ⟨d3.1, d3.2.1.k51 kF, d3.2.2⟩, hg.tr d4, ⟨fun i => if i = 3 then b1 else B i, fun i => if i = 3 then b3 else B2 i, ?_, ?_, ?_, ?_, ?_, g7, g8, ?_, ?_, d5, d6, fun j hj => ?_⟩, fun i hi => ?_, fun i hi => ?_, ?_, ?_, ?_⟩
    · rw [hd _ (by omega) (by omega), h5 _ (by omega), c3, if_neg (by omega), if_pos rfl]
      show _ = nI (270 + (lx_kd T L p - 270))
      rw [show 270 + (lx_kd T L p - 270) = lx_kd T L p by omega]
    · rw [F61, if_neg (by omega), if_neg (by omega), if_neg (by omega), h6 _ (by omega), r3, if_pos rfl]
    · show lx_kd T L p - 270 ≤ 3
      omega
    · rw [d7 _ (by omega), g9, if_pos rfl]
    · rw [F61, if_neg (by omega), if_neg (by omega), if_pos rfl]
    · rw [F61, if_neg (by omega), if_pos rfl]; rfl
    · rw [F61, if_pos rfl]; rfl
    · obtain ⟨x1, x2, x3, x4, x5⟩ := h4 j hj
      show _ = nI (if j = 3 then b1 else B j) ∧ _ = nI (if j = 3 then b3 else B2 j) ∧ xo true c3x c3' a3 b3 aw3 _ (if j = 3 then b1 else B j) (if j = 3 then b3 else B2 j) (S j) ∧ _
      rw [if_neg (by omega), if_neg (by omega)]
      refine ⟨?_, ?_, ?_, x4, x5⟩
      · rw [F61, if_neg (by omega), if_neg (by omega), if_neg (by omega)]; exact x1
      · rw [F61, if_neg (by omega), if_neg (by omega), if_neg (by omega)]; exact x2
      · rw [hd _ (by omega) (by omega)]; exact x3.go (lgo.tr (c2 := c1x) (c2' := c1') (a2 := a1) (b2 := b1) (p2 := p4) (aw2 := aw1) ⟨fun _ _ => rfl, fun _ _ => rfl, Nat.le_refl _, Nat.le_refl _, g6, fun _ z => z⟩ d4)
    · rw [hd _ (by omega) (by omega), h5 _ (by omega), c3, if_neg (by omega), if_neg (by omega), if_neg (by omega)]
    · rw [F61, if_neg (by omega), if_neg (by omega), if_neg (by omega), h6 _ (by omega), r3, if_neg (by omega), if_neg (by omega)]
    · rw [d8, g10]; exact h7
    · show M5.1 10 0 21 = _
      rw [kT.2]
      show q44.1 10 0 21 = _
      rw [g13]; exact h9
    · rw [d9, g11, h8]; exact c4
end LJ
