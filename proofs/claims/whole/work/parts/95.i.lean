/-! orders: the reference runs them -/
abbrev lvRr : List (Nat × Nat) := [(10, 8), (10, 20), (10, 34), (10, 38), (10, 55), (10, 56), (10, 58), (44, 0), (46, 0), (47, 0), (56, 0), (62, 0), (92, 0), (93, 0)]
abbrev lvRrL : List (Nat × Nat) := [(10, 39), (10, 40), (85, 0), (86, 0), (87, 0)]
section OI
variable {m m' q : am_m} {lw : lw_T} {K aw i D : Nat} {zs : Nat → oz_T} {S S' : oS_T} {σ : DS} {r r0 : Nat → Int32} {z : oz_T} {env : Nat → Int64}
theorem oE_fed {dc la : Int32} {y : Nat} (hy : y ≤ 6) : oE r lw dc la (5 + y) = if y < nv (r 0) then (r (7 + y)).toInt64 else -1 := by
  unfold oE
  rw [if_neg (show ¬ 5 + y = 0 by omega), if_neg (show ¬ 5 + y = 1 by omega), if_neg (show ¬ 5 + y = 2 by omega), if_neg (show ¬ 5 + y = 3 by omega), if_neg (show ¬ 5 + y = 4 by omega), if_pos (show 5 + y < 12 by omega), show 5 + y - 5 = y by omega]
theorem oE_at {dc la : Int32} {y : Nat} (hy : y ≤ 6) : oE r lw dc la (12 + y) = if y < nv (r 0) then (nI (sx (mtx r lw y) (nv (r 0)))).toInt64 else -1 := by
  unfold oE
  rw [if_neg (show ¬ 12 + y = 0 by omega), if_neg (show ¬ 12 + y = 1 by omega), if_neg (show ¬ 12 + y = 2 by omega), if_neg (show ¬ 12 + y = 3 by omega), if_neg (show ¬ 12 + y = 4 by omega), if_neg (show ¬ 12 + y < 12 by omega), if_pos (show 12 + y < 19 by omega), show 12 + y - 12 = y by omega]
theorem r_words {x1 : Int32} (hI : oI D r0 S) (hl : rf_law S.1.1 lw) (h : rQ K zs S m) : ∃ q, fn_X10_run x1 m = rRest x1 q ∧ rWr (oEv lw S) q ∧ rQ K zs S q := by
  obtain ⟨⟨h44, hH⟩, h20, h55, h56, hSc⟩ := h
  have hW : iv_W 999 S.1.1 := hI.1.2.2
  have h7 := hW.n7
  let m3 : am_m := am_sg (am_sg (am_sg m 86 0 1 ((m.1 44 0 4).toInt64)) 86 0 2 ((m.1 10 0 55).toInt64)) 86 0 3 ((m.1 10 0 56).toInt64)
  let m4 : am_m := am_sg m3 86 0 4 (nI (hall S.1.1)).toInt64
  let m5 : am_m := am_sg m4 86 0 5 (nI (hst S.1.1)).toInt64
  have k5 : am_kp [] [(86, 0)] 0 m m5 := am_kp.sg (am_kp.sg (am_kp.sg (am_kp.sg (am_kp.sg am_kp.rf rfl) rfl) rfl) rfl) rfl
  have e1 : fn_X10_harmsOf m3 = some (nI (hall S.1.1)) := by
    have := harmsOf_ok (D := 999) (m := m3) (show iv_W 999 (m.1 44 0) by rw [h44]; exact hW)
    rw [this]
    show some (nI (hall (m.1 44 0))) = _
    rw [h44]
  have e2 : fn_X10_starving m4 = some (nI (hst S.1.1)) := by
    have := starving_ok (D := 999) (m := m4) (show iv_W 999 (m.1 44 0) by rw [h44]; exact hW)
    rw [this]
    show some (nI (hst (m.1 44 0))) = _
    rw [h44]
  obtain ⟨r5, l1, l2⟩ := layMay_ok (D := 999) (lw := lw) (m := m5) ⟨show iv_W 999 (m.1 44 0) by rw [h44]; exact hW, show rf_law (m.1 44 0) lw by rw [h44]; exact hl, h20⟩
  have kL := kp_X10_layMay _ _ l1
  have l2 : laid (nv (m.1 44 0 0)) (mtx (m.1 44 0) lw) (atx (m.1 44 0) lw) r5 := l2
  rw [h44] at l2
  have r44 : r5.1 44 = m.1 44 := (kL.row 44 rfl).trans (k5.row 44 rfl)
  obtain ⟨q, f1, f2, f3⟩ : ∃ q, lp_X10_run_63 1000000 x1 0 r5 = some q ∧ ((∀ y, y < nv (S.1.1 0) → q.1 62 0 y = nI (sx (mtx S.1.1 lw y) (nv (S.1.1 0)))) ∧ am_kp [(62, 0)] [] 0 r5 q) := by
    refine lp_up0 (fun N x a => lp_X10_run_63 N x1 x a) (fun j m1 => (∀ y, y < j → m1.1 62 0 y = nI (sx (mtx S.1.1 lw y) (nv (S.1.1 0)))) ∧ am_kp [(62, 0)] [] 0 r5 m1) (fun q => (∀ y, y < nv (S.1.1 0) → q.1 62 0 y = nI (sx (mtx S.1.1 lw y) (nv (S.1.1 0)))) ∧ am_kp [(62, 0)] [] 0 r5 q) (nv (S.1.1 0)) (by omega) (fun N m1 hh => ⟨m1, ?_, hh⟩) (fun N j m1 hj hh => Or.inl ⟨am_si m1 62 0 j (nI (sx (mtx S.1.1 lw j) (nv (S.1.1 0)))), ?_, fun y hy => ?_, am_kp.si hh.2 rfl⟩) r5 ⟨fun y hy => absurd hy (Nat.not_lt_zero _), am_kp.rf⟩
    · show lp_X10_run_63 (N + 1) x1 (nI (nv (S.1.1 0))) m1 = _
      rw [lp_X10_run_63.eq_2, hh.2.row 44 rfl, r44, h44, hW.r0, nv_nI (nv_lt _), if_pos (nI_le (Nat.le_refl _) (nv_lt _))]
    · show lp_X10_run_63 (N + 1) x1 (nI j) m1 = lp_X10_run_63 N x1 (nI (j + 1)) _
      have e0 : m1.1 44 0 0 = nI (nv (S.1.1 0)) := by rw [hh.2.row 44 rfl, r44, h44]; exact hW.r0
      have lj := (l2.of (hh.2.row 92 rfl) (hh.2.row 93 rfl) : laid (nv (S.1.1 0)) (mtx S.1.1 lw) (atx S.1.1 lw) m1)
      rw [lp_X10_run_63.eq_2, e0, if_neg (nI_ge hj (nv_lt _)), sitsWith_ok lj h7 e0 hj, bd_s, ck_in (show j < 7 by omega) (by decide), nI_clamp (by omega), nI_1]
    · rw [rd_j]
      by_cases e : y = j
      · rw [if_pos e, e]
      · rw [if_neg e]; exact hh.1 y (by omega)
  have q44 : q.1 44 = m.1 44 := (f3.row 44 rfl).trans r44
  have kq : am_kp [(10, 34), (10, 38), (62, 0), (92, 0), (93, 0)] [(10, 39), (10, 40), (85, 0), (86, 0), (87, 0)] 0 m q := (am_kp.mono k5 rfl).tr ((am_kp.mono kL rfl).tr (am_kp.mono f3 rfl))
  have q86 : q.2.1 86 = m5.2.1 86 := (f3.rowL 86 rfl).trans (kL.rowL 86 rfl)
  refine ⟨q, ?_, ⟨fun x x1 x5 => ?_, nv (S.1.1 0), h7, by rw [q44, h44]; exact hW.r0, fun y hy => ⟨?_, ?_⟩⟩, rQ.kp ⟨⟨h44, hH⟩, h20, h55, h56, hSc⟩ kq (by rw [kq.fld 10 0 20 rfl]; exact h20) rfl rfl⟩
  · unfold fn_X10_run
    rw [show fn_X10_harmsOf (am_sg (am_sg (am_sg m 86 0 1 ((m.1 44 0 4).toInt64)) 86 0 2 ((m.1 10 0 55).toInt64)) 86 0 3 ((m.1 10 0 56).toInt64)) = _ from e1, bd_s, show fn_X10_starving (am_sg (am_sg (am_sg (am_sg m 86 0 1 ((m.1 44 0 4).toInt64)) 86 0 2 ((m.1 10 0 55).toInt64)) 86 0 3 ((m.1 10 0 56).toInt64)) 86 0 4 (nI (hall S.1.1)).toInt64) = _ from e2, bd_s, show fn_X10_layMay (am_sg (am_sg (am_sg (am_sg (am_sg m 86 0 1 ((m.1 44 0 4).toInt64)) 86 0 2 ((m.1 10 0 55).toInt64)) 86 0 3 ((m.1 10 0 56).toInt64)) 86 0 4 (nI (hall S.1.1)).toInt64) 86 0 5 (nI (hst S.1.1)).toInt64) = _ from l1, bd_s, f1, bd_s]
    unfold rRest rTl
    rfl
  · have e86 : m5.2.1 86 0 x = if x = 5 then (nI (hst S.1.1)).toInt64 else if x = 4 then (nI (hall S.1.1)).toInt64 else if x = 3 then (m.1 10 0 56).toInt64 else if x = 2 then (m.1 10 0 55).toInt64 else if x = 1 then (m.1 44 0 4).toInt64 else m.2.1 86 0 x := by
      show (am_sg (am_sg (am_sg (am_sg (am_sg m 86 0 1 ((m.1 44 0 4).toInt64)) 86 0 2 ((m.1 10 0 55).toInt64)) 86 0 3 ((m.1 10 0 56).toInt64)) 86 0 4 (nI (hall S.1.1)).toInt64) 86 0 5 (nI (hst S.1.1)).toInt64).2.1 86 0 x = _
      rw [rd_jL, rd_jL, rd_jL, rd_jL, rd_jL]
    have hx : x - 1 = 0 ∧ x = 1 ∨ x - 1 = 1 ∧ x = 2 ∨ x - 1 = 2 ∧ x = 3 ∨ x - 1 = 3 ∧ x = 4 ∨ x - 1 = 4 ∧ x = 5 := by omega
    rw [q86, e86, h44, h55, h56]
    unfold oEv oE
    rcases hx with ⟨e, e'⟩ | ⟨e, e'⟩ | ⟨e, e'⟩ | ⟨e, e'⟩ | ⟨e, e'⟩
    · rw [e, if_pos (show (0 : Nat) = 0 from rfl), if_neg (show ¬ x = 5 by omega), if_neg (show ¬ x = 4 by omega), if_neg (show ¬ x = 3 by omega), if_neg (show ¬ x = 2 by omega), if_pos e']
    · rw [e, if_neg (show ¬ (1 : Nat) = 0 by decide), if_pos (show (1 : Nat) = 1 from rfl), if_neg (show ¬ x = 5 by omega), if_neg (show ¬ x = 4 by omega), if_neg (show ¬ x = 3 by omega), if_pos e']
    · rw [e, if_neg (show ¬ (2 : Nat) = 0 by decide), if_neg (show ¬ (2 : Nat) = 1 by decide), if_pos (show (2 : Nat) = 2 from rfl), if_neg (show ¬ x = 5 by omega), if_neg (show ¬ x = 4 by omega), if_pos e']
    · rw [e, if_neg (show ¬ (3 : Nat) = 0 by decide), if_neg (show ¬ (3 : Nat) = 1 by decide), if_neg (show ¬ (3 : Nat) = 2 by decide), if_pos (show (3 : Nat) = 3 from rfl), if_neg (show ¬ x = 5 by omega), if_pos e']
    · rw [e, if_neg (show ¬ (4 : Nat) = 0 by decide), if_neg (show ¬ (4 : Nat) = 1 by decide), if_neg (show ¬ (4 : Nat) = 2 by decide), if_neg (show ¬ (4 : Nat) = 3 by decide), if_pos (show (4 : Nat) = 4 from rfl), if_pos e']
  · show oE S.1.1 lw S.2.1 S.2.2 (5 + y) = _
    rw [oE_fed hy, q44, h44]
  · show oE S.1.1 lw S.2.1 S.2.2 (12 + y) = _
    rw [oE_at hy]
    by_cases c : y < nv (S.1.1 0)
    · rw [if_pos c, if_pos c, f2 y c]
    · rw [if_neg c, if_neg c]
theorem oOne_fin (e : oHolds z.2.2.1 (oEv lw S) = true) : oOne lw z S = oFin lw z S := by
  unfold oOne oFin
  rw [e, if_neg (by decide)]
theorem oOne_skip (e : oHolds z.2.2.1 (oEv lw S) = false) : oOne lw z S = some S := by
  unfold oOne
  rw [if_pos e]
theorem r_one (hi : i < K) (hd : ozd aw (zs i)) (hI : oI D r0 S) (hl : rf_law S.1.1 lw) (h : rQ K zs S m) : rtR K zs S (oOne lw (zs i) S) (fn_X10_run (nI (10 * i)) m) := by
  obtain ⟨q, e1, hw, hq⟩ := r_words (x1 := nI (10 * i)) hI hl h
  rw [e1]
  have hK : K ≤ 12 := hq.2.2.2.2.2.1
  have k0 : am_kp lvSm lvSmL 0 q (am_si q 10 0 58 0) := am_kp.si am_kp.rf rfl
  have hq0 : rQ K zs S (am_si q 10 0 58 0) := hq.kp k0 hq.2.1 rfl rfl
  have hw0 := hw.kp k0
  obtain ⟨z1, z2, z3, z4, z5, z6⟩ := hq0.2.2.2.2.2.2 i hi
  have e7 : nI (10 * i) + (7 : Int32) = nI (10 * i + 7) := by rw [show (7 : Int32) = nI 7 from rfl, nI_add]
  have e8 : nI (10 * i) + (8 : Int32) = nI (10 * i + 7 + 1) := by rw [show (8 : Int32) = nI 8 from rfl, nI_add]
  unfold rRest
  rw [e7, e8, ck_in (show 10 * i + 7 < 120 by omega) (by decide), ck_in (show 10 * i + 7 + 1 < 120 by omega) (by decide), nI_clamp (show 10 * i + 7 < 2 ^ 31 by omega), nI_clamp (show 10 * i + 7 + 1 < 2 ^ 31 by omega)]
  cases ho : (zs i).2.2.1 with
  | none =>
    rw [ho] at z5
    have e : q.1 61 0 (10 * i + 7) = q.1 61 0 (10 * i + 7 + 1) := z5
    rw [if_pos (show q.1 61 0 (10 * i + 7 + 1) ≤ q.1 61 0 (10 * i + 7) by rw [e]; exact fa_of_nlt (fun z => (fa_of_lt z).2.2.2.1 rfl)), oOne_fin (show oHolds (zs i).2.2.1 (oEv lw S) = true by rw [ho]; rfl)]
    exact r_tail hi hd hI hl hw0 hq0 rfl
  | some f =>
    rw [ho] at z5
    obtain ⟨v, m1, a1, a2, a3, a4, a5⟩ := rsum hw0 hq0.2.1 (show 10 * i + 7 < 119 by omega) z5 rfl
    obtain ⟨x, y, hh, c, ex, ey, hy, hh5, hcode, hseg⟩ := z5
    have ex : q.1 61 0 (10 * i + 7) = nI x := ex
    have ey : q.1 61 0 (10 * i + 7 + 1) = nI y := ey
    have q1 : rQ K zs S m1 := hq0.kp a2 a3 rfl rfl
    have w1 := hw0.kp a2
    rw [ex, ey, if_neg (nI_ge hseg.1 (by omega)), a1, bd_s]
    dsimp only
    rw [a4]
    have b : oBrk (some f) (oEv lw S) = (f (oEv lw S)).isNone := rfl
    have hf01 := (hd.1 f ho).2
    have H : oHolds (zs i).2.2.1 (oEv lw S) = decide (f (oEv lw S) = some 1) := by rw [ho]; rfl
    cases hf : f (oEv lw S) with
    | none =>
      rw [b, hf, if_pos (show bv (none : Option Int64).isNone ≠ 0 by decide), oOne_skip (by rw [H, hf]; rfl)]
      exact ⟨m1, rfl, q1⟩
    | some w =>
      have hb : oBrk (some f) (oEv lw S) = false := by rw [b, hf]; rfl
      have hv : v = w.toInt32 := by
        rw [a5 hb (by intro z; cases z)]
        show ((f (oEv lw S)).getD 0).toInt32 = _
        rw [hf]; rfl
      rw [hb, if_neg (show ¬ bv false ≠ 0 from fun z => z rfl), hv]
      rcases hf01 (oEv lw S) w hf with rfl | rfl
      · rw [if_neg (show ¬ (0 : Int64).toInt32 ≠ 0 from fun z => z rfl), oOne_skip (by rw [H, hf]; rfl)]
        exact ⟨m1, rfl, q1⟩
      · rw [if_pos (show (1 : Int64).toInt32 ≠ 0 by decide), oOne_fin (by rw [H, hf]; rfl)]
        exact r_tail hi hd hI hl w1 q1 (by rw [a4, hb]; rfl)
def gBk (had : Int32) (i : Nat) (m : am_m) : Option (Sum am_m (Int32 × am_m)) := (fn_X10_giveBack had m).bind fun r36 => (fn_X10_tell (-3) (am_si r36 10 0 57 (nI i))).bind fun r38 => some (.inr (r38.1, r38.2))
def rrR (K : Nat) (zs : Nat → oz_T) (lw : lw_T) (r0 : Nat → Int32) (had : Int32) (i n t D N : Nat) (S : oS_T) (m : am_m) : Prop := match oRep lw (zs i) n S with
  | some S' => ∃ m', lp_X10_orders_150 N had (nI i) (nI t) m = some (.inl m') ∧ rQ K zs S' m' ∧ oI (D + n) r0 S' ∧ sm_4 m m' ∧ am_kp lvRr lvRrL 0 m m'
  | none => ∃ m', lp_X10_orders_150 N had (nI i) (nI t) m = gBk had i m' ∧ keepR r0 (m'.1 44 0) ∧ m'.1 10 0 20 = 0 ∧ sm_4 m m' ∧ am_kp lvRr lvRrL 0 m m'
theorem r_rep {had : Int32} (hl : ∀ r : Nat → Int32, keepR r0 r → rf_law r lw) (hi : i < K) (hz : ozd aw (zs i)) : ∀ (n t D N : Nat) (S : oS_T) (m : am_m), t + n = (zs i).2.1 → n < N → rQ K zs S m → oI D r0 S → rrR K zs lw r0 had i n t D N S m
  | 0, t, D, N, S, m, ht, hN, hc, hI => by
    obtain ⟨N', rfl⟩ : ∃ N', N = N' + 1 := ⟨N - 1, by omega⟩
    have hK : K ≤ 12 := hc.2.2.2.2.2.1
    obtain ⟨z1, z2, z3, z4, -⟩ := hc.2.2.2.2.2.2 i hi
    refine ⟨m, ?_, hc, hI, sm_4.rf, am_kp.rf⟩
    have e9 : (10 : Int32) * nI i + (9 : Int32) = nI (10 * i + 9) := by rw [show (10 : Int32) = nI 10 from rfl, show (9 : Int32) = nI 9 from rfl, pk_mul, nI_add]
    rw [lp_X10_orders_150.eq_2, e9, ck_in (show 10 * i + 9 < 120 by omega) (by decide), nI_clamp (show 10 * i + 9 < 2 ^ 31 by omega), z3, if_pos (nI_le (by omega) (by omega))]
  | n + 1, t, D, N, S, m, ht, hN, hc, hI => by
    obtain ⟨N', rfl⟩ : ∃ N', N = N' + 1 := ⟨N - 1, by omega⟩
    have hK : K ≤ 12 := hc.2.2.2.2.2.1
    obtain ⟨z1, z2, z3, z4, -⟩ := hc.2.2.2.2.2.2 i hi
    have e9 : (10 : Int32) * nI i + (9 : Int32) = nI (10 * i + 9) := by rw [show (10 : Int32) = nI 10 from rfl, show (9 : Int32) = nI 9 from rfl, pk_mul, nI_add]
    have e10 : (10 : Int32) * nI i = nI (10 * i) := by rw [show (10 : Int32) = nI 10 from rfl, pk_mul]
    have st : lp_X10_orders_150 (N' + 1) had (nI i) (nI t) m = ((fn_X10_run (nI (10 * i)) m).bind fun r33 => (if 0 ≤ r33.1 then lp_X10_orders_150 N' had (nI i) (nI (t + 1)) r33.2 else gBk had i r33.2)) := by
      rw [lp_X10_orders_150.eq_2, e9, ck_in (show 10 * i + 9 < 120 by omega) (by decide), nI_clamp (show 10 * i + 9 < 2 ^ 31 by omega), z3, if_neg (nI_ge (by omega) (by omega)), e10, nI_1]
      rfl
    have h1 := r_one (lw := lw) hi hz hI (hl _ hI.2.2) hc
    unfold rtR at h1
    unfold rrR
    cases e : oOne lw (zs i) S with
    | none =>
      rw [e] at h1
      rw [oRep_n e]
      obtain ⟨m', f1, f2, f20⟩ := h1
      refine ⟨m', ?_, fun k hk => (f2 k hk).trans (hI.2.2 k hk), f20, k4_X10_run _ _ _ f1, kp_X10_run _ _ _ f1⟩
      rw [st, f1, bd_s, if_neg (show ¬ (0 : Int32) ≤ -3 by decide)]
    | some S' =>
      rw [e] at h1
      rw [oRep_s e]
      obtain ⟨m', f1, f2⟩ := h1
      have k4 := k4_X10_run _ _ _ f1
      have kp := kp_X10_run _ _ _ f1
      have ih := r_rep (had := had) hl hi hz n (t + 1) (D + 1) N' S' m' (by omega) (by omega) f2 (oOne_I hI e)
      have st2 : lp_X10_orders_150 (N' + 1) had (nI i) (nI t) m = lp_X10_orders_150 N' had (nI i) (nI (t + 1)) m' := by
        rw [st, f1, bd_s, if_pos (show (0 : Int32) ≤ 0 by decide)]
      unfold rrR at ih
      cases e2 : oRep lw (zs i) n S' with
      | none =>
        rw [e2] at ih
        obtain ⟨m2, g1, g2, g20, g3, g4⟩ := ih
        exact ⟨m2, st2.trans g1, g2, g20, sm_4.tr k4 g3, kp.tr g4⟩
      | some S2 =>
        rw [e2] at ih
        obtain ⟨m2, g1, g2, g3, g4, g5⟩ := ih
        exact ⟨m2, st2.trans g1, g2, g3.mono (by omega), sm_4.tr k4 g4, kp.tr g5⟩
def raR (K : Nat) (zs : Nat → oz_T) (lw : lw_T) (r0 : Nat → Int32) (had : Int32) (i n N : Nat) (S : oS_T) (m : am_m) : Prop := match oAll lw zs n i S with
  | .inr S' => ∃ m', lp_X10_orders_140 N had (nI i) m = some (.inl m') ∧ rQ K zs S' m' ∧ sm_4 m m' ∧ am_kp lvRr lvRrL 0 m m'
  | .inl j => ∃ m', lp_X10_orders_140 N had (nI i) m = gBk had j m' ∧ keepR r0 (m'.1 44 0) ∧ m'.1 10 0 20 = 0 ∧ sm_4 m m' ∧ am_kp lvRr lvRrL 0 m m'
theorem gBk_bind {had : Int32} {i : Nat} {m1 : am_m} {F : am_m → Option (Sum am_m (Int32 × am_m))} : ((gBk had i m1).bind fun w43 => (match w43 with
    | .inl q40 => F q40
    | .inr rr42 => some (.inr rr42))) = gBk had i m1 := by
  unfold gBk
  cases fn_X10_giveBack had m1 with
  | none => rfl
  | some r =>
    rw [bd_s]
    cases fn_X10_tell (-3) (am_si r 10 0 57 (nI i)) with
    | none => rfl
    | some t => rfl
theorem r_all {had : Int32} (hl : ∀ r : Nat → Int32, keepR r0 r → rf_law r lw) (hz : ∀ i, i < K → ozd aw (zs i)) : ∀ (n i D N : Nat) (S : oS_T) (m : am_m), i + n = K → n < N → rQ K zs S m → oI D r0 S → raR K zs lw r0 had i n N S m
  | 0, i, D, N, S, m, ht, hN, hc, hI => by
    obtain ⟨N', rfl⟩ : ∃ N', N = N' + 1 := ⟨N - 1, by omega⟩
    have hK : K ≤ 12 := hc.2.2.2.2.2.1
    refine ⟨m, ?_, hc, sm_4.rf, am_kp.rf⟩
    rw [lp_X10_orders_140.eq_2, hc.2.2.2.2.1, if_pos (nI_le (by omega) (by omega))]
  | n + 1, i, D, N, S, m, ht, hN, hc, hI => by
    obtain ⟨N', rfl⟩ : ∃ N', N = N' + 1 := ⟨N - 1, by omega⟩
    have hK : K ≤ 12 := hc.2.2.2.2.2.1
    obtain ⟨z1, z2, z3, z4, -⟩ := hc.2.2.2.2.2.2 i (by omega)
    have rep := r_rep (had := had) hl (show i < K by omega) (hz i (by omega)) (zs i).2.1 0 D 1000000 S m (by omega) (by omega) hc hI
    have st : lp_X10_orders_140 (N' + 1) had (nI i) m = ((lp_X10_orders_150 1000000 had (nI i) (nI 0) m).bind fun w43 => (match w43 with
    | .inl q40 => lp_X10_orders_140 N' had (nI (i + 1)) q40
    | .inr rr42 => some (.inr rr42))) := by
      rw [lp_X10_orders_140.eq_2, hc.2.2.2.2.1, if_neg (nI_ge (by omega) (by omega)), nI_1]
      rfl
    unfold rrR at rep
    unfold raR
    cases e : oRep lw (zs i) (zs i).2.1 S with
    | none =>
      rw [e] at rep
      rw [oAll_n e]
      obtain ⟨m', f1, f2, f20, f3, f4⟩ := rep
      refine ⟨m', ?_, f2, f20, f3, f4⟩
      rw [st, f1, gBk_bind]
    | some S' =>
      rw [e] at rep
      rw [oAll_s e]
      obtain ⟨m', f1, f2, f3, f4, f5⟩ := rep
      have ih := r_all (had := had) hl hz n (i + 1) (D + (zs i).2.1) N' S' m' (by omega) (by omega) f2 f3
      have st2 : lp_X10_orders_140 (N' + 1) had (nI i) m = lp_X10_orders_140 N' had (nI (i + 1)) m' := by
        rw [st, f1, bd_s]
      unfold raR at ih
      cases e2 : oAll lw zs n (i + 1) S' with
      | inl j =>
        rw [e2] at ih
        obtain ⟨m2, g1, g2, g20, g3, g4⟩ := ih
        exact ⟨m2, st2.trans g1, g2, g20, sm_4.tr f4 g3, f5.tr g4⟩
      | inr S2 =>
        rw [e2] at ih
        obtain ⟨m2, g1, g2, g3, g4⟩ := ih
        exact ⟨m2, st2.trans g1, g2, sm_4.tr f4 g3, f5.tr g4⟩
end OI
