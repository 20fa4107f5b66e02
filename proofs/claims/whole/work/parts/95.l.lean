/-! orders: both answer alike -/
abbrev lvMq : List (Nat × Nat) := [(3, 1), (4, 4), (4, 5), (4, 6), (4, 7), (4, 8), (4, 9), (4, 10), (5, 2), (5, 3), (5, 4), (7, 1), (8, 0), (8, 1), (8, 2), (8, 3), (9, 16), (20, 0), (24, 0), (25, 0), (26, 0), (27, 0), (28, 0), (29, 0), (36, 0), (37, 0), (38, 0), (39, 0), (40, 0), (41, 0)]
abbrev lvQq : List (Nat × Nat) := [(10, 0), (10, 8), (10, 13), (10, 14), (10, 15), (10, 16), (10, 18), (10, 19), (10, 20), (10, 21), (10, 23), (10, 26), (10, 29), (10, 30), (10, 34), (10, 38), (10, 55), (10, 56), (10, 57), (10, 58), (44, 0), (46, 0), (47, 0), (48, 0), (49, 0), (51, 0), (52, 0), (53, 0), (54, 0), (55, 0), (56, 0), (61, 0), (62, 0), (92, 0), (93, 0)]
abbrev lvQL : List (Nat × Nat) := [(10, 17), (10, 39), (10, 40), (80, 0), (85, 0), (86, 0), (87, 0)]
section OL
variable {m m' q14 : am_m} {K a2 b2 aw2 n p2 lv2 L : Nat} {zs : Nat → oz_T} {c2 c2' : rcd} {T : Nat → Nat}
theorem ord_ref_bad {M r16 : am_m} (hA : rAll fn_X10_readOrder lp_X10_orders_19 1 (am_si (am_si M 10 0 0 0) 10 0 57 (-1)) r16) (h19 : r16.1 10 0 19 = 1) : fn_X10_orders M = some (-6, st_10 (-6) r16) := by
  obtain ⟨r2, r4, q14, g1, g2, g3, g4⟩ := hA
  unfold fn_X10_orders
  rw [g1, bd_s, g2, bd_s, g3, bd_s, g4, bd_s, if_neg (show ¬ r16.1 10 0 19 = 0 by rw [h19]; decide), tl_ok (show an_ok (-6) from an_no 6 (by decide) (by decide)), bd_s]
theorem ord_bad (h : Inv m) {q : Nat} {r16 : am_m} (e1 : fn_X4_readWhole 1 (am_si m 9 0 16 (-1)) = some (0, m')) (e2 : m'.1 4 0 10 = nI q) (e3 : rAll fn_X10_readOrder lp_X10_orders_19 1 (am_si (am_si (st_9 (-6) m') 10 0 0 0) 10 0 57 (-1)) r16) (e4 : r16.1 10 0 19 = 1) (e5 : r16.1 10 0 18 = nI q) : op_ok m (fun m => fn_X9_orders m) (fun m => fn_X10_orders m) := by
  have k0 : am_kp [(9, 16)] [] 0 m (am_si m 9 0 16 (-1)) := am_kp.si am_kp.rf rfl
  have kA := kp_X4_readWhole _ _ _ e1
  have sA := ks_X4_readWhole _ _ _ e1
  have kA0 : am_kp ((9, 16) :: lvWh) [] 0 m m' := (am_kp.mono k0 rfl).tr (am_kp.mono kA rfl)
  have sS : sm_S m m' := (sm_S.of5 rfl rfl rfl : sm_S m (am_si m 9 0 16 (-1))).tr sA
  have k9 := st_9_kp (-6) m'
  have kS : am_kp [(10, 0), (10, 57)] [] 0 (st_9 (-6) m') (am_si (am_si (st_9 (-6) m') 10 0 0 0) 10 0 57 (-1)) := am_kp.si (am_kp.si am_kp.rf rfl) rfl
  obtain ⟨kR, g20, g13⟩ := rAll_kp e3 kOrd kOrds
  have kB : am_kp lvRd [(10, 17)] 0 (st_9 (-6) m') r16 := (am_kp.mono kS rfl).tr (am_kp.mono kR rfl)
  have k10 := st_10_kp (-6) r16
  have kk : am_kp lvRd [(10, 17)] 0 m (st_10 (-6) r16) := ((am_kp.mono kA0 rfl).tr (am_kp.mono k9 rfl)).tr (kB.tr (am_kp.mono k10 rfl))
  have kB2 : am_kp ((10, 0) :: (10, 57) :: lvRE) [(10, 17)] 0 (st_9 (-6) m') r16 := (am_kp.mono kS rfl).tr (am_kp.mono kR rfl)
  have kk2 : am_kp ((9, 17) :: (10, 0) :: (10, 1) :: (10, 57) :: (42, 0) :: (43, 0) :: lvRE) [(10, 17)] 0 m' (st_10 (-6) r16) := (am_kp.mono k9 rfl).tr ((am_kp.mono kB2 rfl).tr (am_kp.mono k10 rfl))
  refine ⟨-6, st_9 (-6) m', st_10 (-6) r16, ?_, ord_ref_bad e3 e4, ?_, ?_⟩
  · show fn_X9_orders m = _
    unfold fn_X9_orders
    rw [e1, bd_s, if_neg (show ¬ (0 : Int32) ≠ 0 from fun z => z rfl), td_ok (show an_ok (-6) from an_no 6 (by decide) (by decide)), bd_s]
  · refine h.1.rd kk (sS.tr (sm_S.of5 (kk2.obj 5 rfl) (kk2.row 28 rfl) (kk2.row 29 rfl))) ?_ ?_ ?_
    · rw [kk2.fld 7 0 1 rfl]; exact whole7 e1
    · rw [k10.fld 10 0 13 rfl]; exact g13
    · have hX := h.1.2.2.2.2.2.2.2.1
      refine ⟨?_, ?_, ?_, ?_⟩
      · rw [kk.fld 9 0 15 rfl, kk.fld 10 0 11 rfl]; exact hX.1
      · rw [kk2.fld 9 0 16 rfl, kA.fld 9 0 16 rfl, k10.fld 10 0 57 rfl, kR.fld 10 0 57 rfl]; rfl
      · rw [kk2.fld 4 0 10 rfl, e2, k10.fld 10 0 18 rfl, e5]
      · rw [k10.fld 10 0 20 rfl, g20]
  · exact st_S h.2 kA0 rfl kB2 rfl
theorem ord_good (h : Inv m) {v : Int32} {mC : am_m} (g1 : fn_X4_readWhole 1 (am_si m 9 0 16 (-1)) = some (1, m')) (hC : cRun m' = some (v, mC)) (g2 : rAll fn_X10_readOrder lp_X10_orders_19 1 (am_si (am_si mC 10 0 0 0) 10 0 57 (-1)) (am_si (am_si q14 10 0 20 0) 10 0 13 0)) (hl : lks T L n true m' q14 c2 c2' a2 b2 p2 lv2 aw2) (h12 : K ≤ 12) (h2 : m'.1 5 0 2 = nI K) (h21 : q14.1 10 0 21 = nI K) (hz : ∀ i, i < K → ocl c2 c2' a2 b2 aw2 (m'.1 28 0) (q14.1 61 0) i (zs i)) (g18 : q14.1 10 0 18 = -1) : op_ok m (fun m => fn_X9_orders m) (fun m => fn_X10_orders m) := by
  have k0 : am_kp [(9, 16)] [] 0 m (am_si m 9 0 16 (-1)) := am_kp.si am_kp.rf rfl
  have kA := kp_X4_readWhole _ _ _ g1
  have sA := ks_X4_readWhole _ _ _ g1
  have kA0 : am_kp ((9, 16) :: lvWh) [] 0 m m' := (am_kp.mono k0 rfl).tr (am_kp.mono kA rfl)
  have eA : m'.2.2 = m.2.2 := kA0.2.2
  have sS : sm_S m m' := (sm_S.of5 rfl rfl rfl : sm_S m (am_si m 9 0 16 (-1))).tr sA
  obtain ⟨KH, ch, rh⟩ := hH.split (m := m) h.1.2.2.2.1
  have hA := h.1.2.2.2.2.2.2.2.2.1
  have hW := h.w
  generalize eσ : ((m.1 44 0, KH, m.1 46 0, m.1 47 0) : DS) = σ
  have σ1 : σ.1 = m.1 44 0 := by rw [← eσ]
  have w' : cWd σ m' := by
    rw [← eσ]
    exact ⟨h.u.of (sm_U.kp kA0 rfl 0), h.w, ch.of (kA0.fld 3 0 1 rfl) (kA0.row 24 rfl)⟩
  have rh : rH σ.2.1 σ.2.2.1 σ.2.2.2 m := by rw [← eσ]; exact rh
  have K' : iv_K m' 0 σ.1 := by
    rw [σ1]
    exact h.1.2.2.1.of rfl (fun _ _ => rfl) sS (by rw [eA]) (by rw [eA])
  obtain ⟨cs, rs, oz⟩ := ord_LL hl h12 h2 h21 hz (by rw [eA]; exact hA.2.1)
  obtain ⟨lw, v2, q, d1, d2, ⟨d3, d3u, d3l, d30⟩, d4, d5⟩ := c_run w' K' cs oz
  have ev : v = v2 ∧ mC = st_9 v2 q := by
    have := Option.some.inj (hC.symm.trans d1)
    exact ⟨congrArg (fun z => z.1) this, congrArg (fun z => z.2) this⟩
  obtain ⟨rfl, rfl⟩ := ev
  have k9 := st_9_kp v q
  have kS : am_kp [(10, 0), (10, 57)] [] 0 (st_9 v q) (am_si (am_si (st_9 v q) 10 0 0 0) 10 0 57 (-1)) := am_kp.si (am_kp.si am_kp.rf rfl) rfl
  obtain ⟨kR, g20, g13⟩ := rAll_kp g2 kOrd kOrds
  have kMq : am_kp lvMq lvQL 2 m q := (am_kp.mono kA0 rfl).tr (am_kp.mono d3 rfl)
  have kSR : am_kp ((10, 0) :: (10, 57) :: lvRE) [(10, 17)] 0 (st_9 v q) (am_si (am_si q14 10 0 20 0) 10 0 13 0) := (am_kp.mono kS rfl).tr (am_kp.mono kR rfl)
  have kmr : am_kp ((9, 17) :: (10, 0) :: (10, 57) :: (42, 0) :: (lvMq ++ lvRE)) lvQL 2 m (am_si (am_si q14 10 0 20 0) 10 0 13 0) := (am_kp.mono kMq rfl).tr ((am_kp.mono k9 rfl).tr (am_kp.mono kSR rfl))
  have r57 : (am_si (am_si q14 10 0 20 0) 10 0 13 0).1 10 0 57 = -1 := by rw [kR.fld 10 0 57 rfl]; rfl
  have r19 : (am_si (am_si q14 10 0 20 0) 10 0 13 0).1 10 0 19 = 0 := hl.2.1.2.2.2.1
  have w15 : rWd σ (am_si (am_si q14 10 0 20 0) 10 0 13 0) := ⟨by rw [kmr.row 44 rfl]; exact σ1.symm, rh.of (kmr.fld 10 0 8 rfl) (kmr.row 46 rfl) (kmr.row 47 rfl)⟩
  have s15 : rSc K zs (am_si (am_si q14 10 0 20 0) 10 0 13 0) := rs.kp (WI := [(10, 13), (10, 20)]) (WL := []) (E := 0) (am_kp.si (am_kp.si am_kp.rf rfl) rfl) rfl
  have ha : ∀ S', oAll lw zs K 0 (σ, 0, -1) = .inr S' → an_ok S'.2.1 := fun S' e => by
    unfold crR2 at d5
    rw [e] at d5
    rw [← d5.1]; exact d2
  obtain ⟨v3, q', f1, f2, f3, f4⟩ := r_run (lw := lw) (r15 := am_si (am_si q14 10 0 20 0) 10 0 13 0) w15 g20 ⟨w'.2.1, w'.2.2.1⟩ s15 oz d4 ha
  have q16 : m'.1 9 0 16 = -1 := by rw [kA.fld 9 0 16 rfl]; rfl
  obtain ⟨X, x1, x2, x3, x4, x5⟩ : ∃ X : DS, cWd X q ∧ rWd X q' ∧ keepR σ.1 X.1 ∧ q.1 9 0 16 = q'.1 10 0 57 ∧ v3 = v := by
    unfold crR2 at d5
    unfold rrR2 at f4
    cases e : oAll lw zs K 0 (σ, 0, -1) with
    | inr S' =>
      rw [e] at d5 f4
      exact ⟨S'.1, d5.2.1, f4.2.1, d5.2.2.1.2.2, by rw [d5.2.2.2, q16, f4.2.2, r57], by rw [f4.1, d5.1]⟩
    | inl j =>
      rw [e] at d5 f4
      exact ⟨σ, d5.2.1, f4.2.1, keepR.rf, by rw [d5.2.2, f4.2.2], by rw [f4.1, d5.1]⟩
  subst x5
  have k10 := st_10_kp v3 q'
  have kQ : am_kp lvQq lvQL 0 (st_9 v3 q) q' := (am_kp.mono kSR rfl).tr (am_kp.mono f2 rfl)
  have kqF : am_kp ((9, 17) :: (10, 1) :: (42, 0) :: (43, 0) :: lvQq) lvQL 0 q (st_10 v3 q') := (am_kp.mono k9 rfl).tr ((am_kp.mono kQ rfl).tr (am_kp.mono k10 rfl))
  have kF : am_kp ((9, 17) :: (10, 1) :: (42, 0) :: (43, 0) :: (lvMq ++ lvQq)) lvQL 2 m (st_10 v3 q') := (am_kp.mono kMq rfl).tr (am_kp.mono kqF rfl)
  have eF : (st_10 v3 q').2.2 = q.2.2 := kqF.2.2
  have eM : q.2.2.2.2.2 = m.2.2.2.2.2 := kMq.2.2
  have F44 : (st_10 v3 q').1 44 0 = X.1 := by rw [k10.row 44 rfl]; exact x2.1
  have cF : cWd X (st_10 v3 q') := x1.kp kqF rfl rfl
  have rF : rWd X (st_10 v3 q') := ⟨F44, x2.2.of (k10.fld 10 0 8 rfl) (k10.row 46 rfl) (k10.row 47 rfl)⟩
  have uF : ∀ u, 2 ≤ u → sm_U m (st_10 v3 q') u := fun u hu => ((sm_U.kp kA0 rfl u).tr (d3u u hu)).tr (sm_U.kp kqF rfl u)
  have lF : ∀ u, 2 ≤ u → (st_10 v3 q').2.2.2.2.1 u = m.2.2.2.2.1 u := fun u hu => by rw [eF, d3l u hu, eA]
  have lF0 : ∀ k, k < 6 → (st_10 v3 q').2.2.2.2.1 0 k = m.2.2.2.2.1 0 k := fun k hk => by rw [eF, d30 k hk, eA]
  have eL : (st_10 v3 q').2.2.2.2.2 = m.2.2.2.2.2 := by rw [eF, eM]
  have eL2 : (st_10 v3 q').2.2.2.2.2.2 = m.2.2.2.2.2.2 := by rw [eL]
  have sF : sm_S m (st_10 v3 q') := sS.tr (sm_S.of5 ((kqF.obj 5 rfl).trans (d3.obj 5 rfl)) ((kqF.row 28 rfl).trans (d3.row 28 rfl)) ((kqF.row 29 rfl).trans (d3.row 29 rfl)))
  have kr : ∀ k, (k < 4 ∨ 112 ≤ k) → X.1 k = m.1 44 0 k := fun k hk => by rw [x3 k hk, σ1]
  refine ⟨v3, st_9 v3 q, st_10 v3 q', ?_, ?_, ⟨?_, ?_, ?_, ?_, ?_, ?_, ?_, ?_, ?_, ?_⟩, ?_⟩
  · show fn_X9_orders m = _
    unfold fn_X9_orders
    rw [g1, bd_s, if_pos (show (1 : Int32) ≠ 0 by decide)]
    exact d1
  · show fn_X10_orders (st_9 v3 q) = _
    obtain ⟨r2, r4, q15, y1, y2, y3, y4⟩ := g2
    unfold fn_X10_orders
    rw [y1, bd_s, y2, bd_s, y3, bd_s, y4, bd_s, if_pos r19]
    exact f1
  · rw [F44]; exact cF.2.1
  · rw [F44]; exact cF.1
  · rw [F44]
    intro k hk
    rw [kr 2 (by omega)] at hk
    obtain ⟨s, s1, s2, s3, s4⟩ := h.1.2.2.1 k hk
    have h6 := hW.2.2.2.1
    refine ⟨s, s1, by rw [eL]; exact s2, by rw [lF0 k (by omega)]; exact s3, ?_⟩
    rw [show (fun j => X.1 (118 + 900 * k + j)) = (fun j => m.1 44 0 (118 + 900 * k + j)) from funext (fun j => kr _ (by omega))]
    exact s4.of s1 sF eL2
  · have H := hH.join (m := st_10 v3 q') (K := X.2.1) (U := X.2.2.1) (S := X.2.2.2) (by rw [F44]; exact cF.2.2) rF.2
    exact H
  · have h5 := h.1.2.2.2.2.1
    have e1 : (st_10 v3 q').2.2.2.2.2.1 = m.2.2.2.2.2.1 := by rw [eL]
    have e45 : (st_10 v3 q').1 45 = m.1 45 := kF.row 45 rfl
    have ei : ∀ j, iv_img (st_10 v3 q') j = iv_img m j := fun j => by unfold iv_img; rw [e45]
    refine ⟨fun j hj => ?_, by rw [e1]; exact h5.2⟩
    rcases h5.1 j hj with ⟨b1, b2⟩ | ⟨b1, u, b2, b3, b4, b5, b6, b7⟩
    · exact Or.inl ⟨by rw [kF.row 91 rfl]; exact b1, by rw [e1]; exact b2⟩
    · exact Or.inr ⟨by rw [kF.row 91 rfl]; exact b1, u, b2, by rw [eL]; exact b3, by rw [e1]; exact b4, by rw [ei]; exact b5, by rw [ei]; exact b6.of (uF u (by omega)), by rw [ei]; exact b7.of rfl (fun _ _ => rfl) sF (lF u (by omega)) eL2⟩
  · have e2 := uF 2 (by decide)
    rw [kF.fld 10 0 61 rfl, kF.row 63 rfl, e2.1, e2.2.1, e2.2.2.1]
    exact h.1.2.2.2.2.2.1
  · have z7 : (st_10 v3 q').1 7 0 1 = 0 := by
      rw [kqF.fld 7 0 1 rfl, d3.fld 7 0 1 rfl]; exact whole7 g1
    have z13 : (st_10 v3 q').1 10 0 13 = 0 := by
      rw [k10.fld 10 0 13 rfl, f2.fld 10 0 13 rfl]; exact g13
    exact ⟨z7.trans z13.symm, 0, by decide, z13, fun k hk => absurd hk (Nat.not_lt_zero _)⟩
  · have hX := h.1.2.2.2.2.2.2.2.1
    refine ⟨?_, ?_, ?_, ?_⟩
    · rw [kF.fld 9 0 15 rfl, kF.fld 10 0 11 rfl]; exact hX.1
    · rw [kqF.fld 9 0 16 rfl, k10.fld 10 0 57 rfl]; exact x4
    · rw [kqF.fld 4 0 10 rfl, d3.fld 4 0 10 rfl, k10.fld 10 0 18 rfl, f2.fld 10 0 18 rfl]
      exact hl.1.2.2.2.2.2.trans g18.symm
    · rw [k10.fld 10 0 20 rfl]; exact f3
  · obtain ⟨i1, i2, i3, i4, i5, i6, i7, i8, i9, i10⟩ := hA
    have c : ∀ n, (st_10 v3 q').2.2.2.2.2.2.2 n = m.2.2.2.2.2.2.2 n := fun n => by rw [eL]
    have l : ∀ n k, (st_10 v3 q').2.2.2.2.2.2.1 n k = m.2.2.2.2.2.2.1 n k := fun n k => by rw [eL]
    refine ⟨fun a b hab => by rw [l]; exact i1 a b hab, by rw [l]; exact i2, by rw [l]; exact i3, by rw [c]; exact i4, by rw [c, c]; exact i5, by rw [c, c]; exact i6, by rw [c]; exact i7, fun a q1 q2 => by rw [c, c]; exact i8 a q1 q2, by rw [c, c]; exact i9, fun a ha => ?_⟩
    rw [c] at ha
    rw [lF a (by omega)]
    exact i10 a ha
  · exact h.1.2.2.2.2.2.2.2.2.2.of (kF.rowL 82 rfl) (kF.rowL 83 rfl) (kF.rowL 84 rfl) (kF.rowL 89 rfl)
  · exact st_S h.2 kMq rfl kQ rfl
theorem op_orders (h : Inv m) : op_ok m (fun m => fn_X9_orders m) (fun m => fn_X10_orders m) := by
  obtain ⟨T, L, t1, t2, t3⟩ := h.txt
  have hA := h.1.2.2.2.2.2.2.2.2.1
  have hC := h.1.2.2.2.2.2.2.2.2.2
  have t1 : ctx7 T L (am_si m 9 0 16 (-1)) := t1
  have k0 : am_kp [(9, 16)] [] 0 m (am_si m 9 0 16 (-1)) := am_kp.si am_kp.rf rfl
  rcases read_orders t1 t2 hC hA.2.1 hA.2.2.1 with ⟨q, m', r16, g1, g2, -⟩ | ⟨n, K, m', q14, c2, c2', a2, b2, p2, lv2, aw2, zs, g1, -, g3, g4, g5, g6, g7, g8, g9, g10⟩
  · have kA := kp_X4_readWhole _ _ _ g1
    have k9 := st_9_kp (-6) m'
    have kk : am_kp ((10, 0) :: (10, 57) :: (9, 16) :: (9, 17) :: (42, 0) :: lvWh) [] 0 m (am_si (am_si (st_9 (-6) m') 10 0 0 0) 10 0 57 (-1)) := (am_kp.mono k0 rfl).tr ((am_kp.mono kA rfl).tr ((am_kp.mono k9 rfl).tr (am_kp.si (am_kp.si am_kp.rf rfl) rfl)))
    rcases read_orders (M := am_si (am_si (st_9 (-6) m') 10 0 0 0) 10 0 57 (-1)) t1 (t2.of (kk.fld 10 0 13 rfl) (kk.row 50 rfl)) (hC.of (kk.rowL 82 rfl) (kk.rowL 83 rfl) (kk.rowL 84 rfl) (kk.rowL 89 rfl)) hA.2.1 hA.2.2.1 with ⟨q, m2, r16, x1, x2, x3, x4, x5⟩ | ⟨n, K, m2, q14, c2, c2', a2, b2, p2, lv2, aw2, zs, x1, -⟩
    · rw [g1] at x1
      have e : m' = m2 := congrArg (fun z => z.2) (Option.some.inj x1)
      subst e
      exact ord_bad h g1 x2 x3 x4 x5
    · rw [g1] at x1
      exact absurd (show (0 : Int32) = 1 from congrArg (fun z => z.1) (Option.some.inj x1)) (by decide)
  · have kA := kp_X4_readWhole _ _ _ g1
    have sA := ks_X4_readWhole _ _ _ g1
    have kA0 : am_kp ((9, 16) :: lvWh) [] 0 m m' := (am_kp.mono k0 rfl).tr (am_kp.mono kA rfl)
    have eA : m'.2.2 = m.2.2 := kA0.2.2
    have sS : sm_S m m' := (sm_S.of5 rfl rfl rfl : sm_S m (am_si m 9 0 16 (-1))).tr sA
    obtain ⟨KH, ch, rh⟩ := hH.split (m := m) h.1.2.2.2.1
    obtain ⟨cs, rs, oz⟩ := ord_LL g7 g4 g5 g6 g8 (by rw [eA]; exact hA.2.1)
    obtain ⟨lw, v, q, d1, d2, d3, -⟩ := c_run (σ := (m.1 44 0, KH, m.1 46 0, m.1 47 0)) ⟨h.u.of (sm_U.kp kA0 rfl 0), h.w, ch.of (kA0.fld 3 0 1 rfl) (kA0.row 24 rfl)⟩ (h.1.2.2.1.of rfl (fun _ _ => rfl) sS (by rw [eA]) (by rw [eA])) cs oz
    have k9 := st_9_kp v q
    have kk : am_kp ((9, 17) :: (10, 0) :: (10, 57) :: (42, 0) :: lvMq) lvQL 2 m (am_si (am_si (st_9 v q) 10 0 0 0) 10 0 57 (-1)) := (am_kp.mono kA0 rfl).tr ((am_kp.mono d3.1 rfl).tr ((am_kp.mono k9 rfl).tr (am_kp.si (am_kp.si am_kp.rf rfl) rfl)))
    rcases read_orders (M := am_si (am_si (st_9 v q) 10 0 0 0) 10 0 57 (-1)) t1 (t2.of (kk.fld 10 0 13 rfl) (kk.row 50 rfl)) (hC.of (kk.rowL 82 rfl) (kk.rowL 83 rfl) (kk.rowL 84 rfl) (kk.rowL 89 rfl)) hA.2.1 hA.2.2.1 with ⟨q, m2, r16, x1, -⟩ | ⟨n, K, m2, q14, c2, c2', a2, b2, p2, lv2, aw2, zs, x1, x2, x3, x4, x5, x6, x7, x8, x9, x10⟩
    · rw [g1] at x1
      exact absurd (show (1 : Int32) = 0 from congrArg (fun z => z.1) (Option.some.inj x1)) (by decide)
    · rw [g1] at x1
      have e : m' = m2 := congrArg (fun z => z.2) (Option.some.inj x1)
      subst e
      exact ord_good h g1 d1 x2 x7 x4 x5 x6 x8 x10
end OL
