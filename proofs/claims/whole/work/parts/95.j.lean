/-! orders: what was read, as both run it; the class runs it -/
def cRun (r1 : am_m) : Option (Int32 × am_m) := (fn_X8_become 1 0 r1).bind fun r4 => (fn_X3_become 1 0 r4).bind fun r6 => (fn_X9_askLive r6).bind fun r8 => (fn_X9_fillOrderWords (r8.1 5 0 4) (am_si (am_si r8 41 0 1 0) 41 0 2 (-1))).bind fun r10 => (lp_X9_orders_83 1000000 0 r10).bind fun w27 => (match w27 with
    | .inl q22 => (fn_X9_told (q22.1 41 0 1) q22).bind fun r24 => some (r24.1, r24.2)
    | .inr rr26 => some rr26)
abbrev lvR2 : List (Nat × Nat) := [(3, 1), (8, 0), (8, 1), (8, 2), (8, 3), (9, 16), (20, 0), (24, 0), (36, 0), (37, 0), (38, 0), (39, 0), (40, 0), (41, 0)]
section OJ
variable {m m' q14 : am_m} {lw : lw_T} {K a2 b2 aw2 n p2 lv2 L : Nat} {zs : Nat → oz_T} {σ : DS} {r r0 : Nat → Int32} {c2 c2' : rcd} {T : Nat → Nat}
theorem ord_LL (hl : lks T L n true m' q14 c2 c2' a2 b2 p2 lv2 aw2) (h12 : K ≤ 12) (h2 : m'.1 5 0 2 = nI K) (h21 : q14.1 10 0 21 = nI K) (hz : ∀ i, i < K → ocl c2 c2' a2 b2 aw2 (m'.1 28 0) (q14.1 61 0) i (zs i)) (h28 : m'.2.2.2.2.2.2.1 28 0 = 72) : cSc K a2 aw2 zs m' ∧ rSc K zs q14 ∧ ∀ i, i < K → ozd aw2 (zs i) := by
  obtain ⟨l1, l2, l3, l4, l5, l6⟩ := hl
  have hL : L ≤ 400 := l1.1.1.1
  have bp : b2 ≤ p2 := l2.2.2.2.2.2.2
  have cc : ∀ k, k < a2 → m'.1 29 0 k = nI (512 * (c2 k).2 + (c2 k).1) := l1.2.1.2.2
  have rr : ∀ k, k < b2 → q14.1 52 0 k = nI (c2' k).1 ∧ q14.1 53 0 k = nI (c2' k).2 := l2.2.1.2
  have two : ∀ (A : Int32) (B B2 : Nat) (oo : Option dn), xo true c2 c2' a2 b2 aw2 A B B2 oo → (rl_ok true (q14.1 52 0) (q14.1 53 0) (nI B) (nI B2) oo ∧ cl_ok (m'.1 29 0) 19 a2 A oo) ∧ ∀ f, oo = some f → dw aw2 f := fun A B B2 oo hx => by
    cases oo with
    | none => exact ⟨⟨by show nI B = nI B2; rw [hx.2], hx.1⟩, fun f z => by cases z⟩
    | some f =>
      obtain ⟨A', e, A2, h, x1, x2, x3, x4, x5, x6, x7⟩ := hx
      refine ⟨⟨rsg_ok x5 (fun k hk => rr k (by omega)) (by omega) x4, ?_⟩, fun g z => by cases z; exact x7⟩
      rw [e]
      exact csg_ok x1 cc x3 (by omega) x2 x4
  refine ⟨⟨h2, h12, l1.2.1.1, l1.2.2.2.2.1, l5, h28, l1.2.1.2.1, fun i hi => ?_⟩, ⟨h21, h12, fun i hi => ?_⟩, fun i hi => ?_⟩
  · obtain ⟨B, B2, g1, g2, g3, g4, g5, g6, g7, g8, g9, g10, g11, g12⟩ := hz i hi
    exact ⟨g1, g3, g4, g7, (two _ _ _ _ g10).1.2, fun j hj => (two _ _ _ _ (g12 j hj).2.2.1).1.2⟩
  · obtain ⟨B, B2, g1, g2, g3, g4, g5, g6, g7, g8, g9, g10, g11, g12⟩ := hz i hi
    refine ⟨g2, g3, g5, g7, ?_, fun j hj => ?_⟩
    · rw [show 10 * i + 7 + 1 = 10 * i + 8 from rfl, g8, g9]
      exact (two _ _ _ _ g10).1.1
    · rw [show 10 * i + 1 + 2 * j + 1 = 10 * i + 2 + 2 * j by omega, (g12 j hj).1, (g12 j hj).2.1]
      exact (two _ _ _ _ (g12 j hj).2.2.1).1.1
  · obtain ⟨B, B2, g1, g2, g3, g4, g5, g6, g7, g8, g9, g10, g11, g12⟩ := hz i hi
    refine ⟨fun f hf => ⟨(two _ _ _ _ g10).2 f hf, g11 f hf⟩, fun j hj => ⟨(g12 j hj).2.2.2.1, fun f hf => ⟨(two _ _ _ _ (g12 j hj).2.2.1).2 f hf, (g12 j hj).2.2.2.2 f hf⟩⟩⟩
theorem x3_become {u v : Nat} (huv : u ≠ v) (m : am_m) : ∃ m', fn_X3_become u v m = some m' ∧ m'.1 3 u 1 = m.1 3 v 1 ∧ (∀ x, x < 208 → m'.1 24 u x = m.1 24 v x) ∧ (∀ w, w ≠ u → m'.1 3 w = m.1 3 w ∧ m'.1 24 w = m.1 24 w) := by
  have e208 : (208 : Int32).toNatClampNeg = 208 := by decide
  have e0 : (0 : Int32).toNatClampNeg = 0 := by decide
  unfold fn_X3_become
  rw [gd_t (by decide), e208, e0]
  refine ⟨_, rfl, ?_, fun x hx => ?_, fun w hw => ⟨funext fun k => ?_, funext fun k => ?_⟩⟩
  · rw [rd_sc, if_neg (fun z => absurd z.1 (by decide)), rd_j, if_pos rfl]
  · rw [rd_sc, if_pos ⟨rfl, rfl⟩, pk_cpy_in (Nat.zero_le _) (by omega), rd_si, if_neg (fun z => absurd z.1 (by decide)), Nat.sub_zero, Nat.zero_add]
  · rw [rd_sc, if_neg (fun z => absurd z.1 (by decide)), rd_si, if_neg (fun z => hw z.2.1)]
  · rw [rd_sc, if_neg (fun z => hw z.2), rd_si, if_neg (fun z => absurd z.1 (by decide))]
theorem law_of2 {lf : Int32} (hU : iv_U m 0 r) (hW : iv_W 999 r) (hK : iv_K m 0 r) (hl : lf = -1 ∨ (lf = nI (nv lf) ∧ nv lf < nv (r 2))) : ∃ lw : lw_T, (∀ r' : Nat → Int32, r' 3 = lf → (∀ k, 118 ≤ k → r' k = r k) → rf_law r' lw) ∧ ∃ o, fn_X8_lawOf 0 lf m = some o ∧ ∀ a, jd_law (am_sb (am_sa m a) o) lw := by
  have e2 : m.1 8 0 2 = nI (nv (r 2)) := hU.2.2.1.trans (hW.k (by decide) (by decide))
  have n6 : nv (r 2) ≤ 6 := hW.2.2.2.1
  rcases hl with rfl | ⟨e, hlt⟩
  · refine ⟨none, fun r hr _ => hr, none, ?_, fun a => rfl⟩
    unfold fn_X8_lawOf
    rw [if_pos (by decide)]
  · obtain ⟨s, g1, g2, g3, n, cs, g4, g5, g6⟩ := hK (nv lf) hlt
    refine ⟨some (n, cs), fun r' hr hk => ⟨nv lf, by omega, hr.trans e, g4, ?_⟩, some s, ?_, fun a => ⟨s, ?_, g4, g6⟩⟩
    · show iv_LR (fun i => r' (118 + 900 * nv lf + i)) n cs
      rw [show (fun i => r' (118 + 900 * nv lf + i)) = (fun i => r (118 + 900 * nv lf + i)) from funext (fun i => hk _ (by omega))]
      exact g5
    · unfold fn_X8_lawOf
      rw [e, e2, if_neg (nI_pos (by omega)), if_neg (nI_ge hlt (by omega)), ck_in (by omega) (by decide), nI_clamp (by omega), g3]
    · show am_u1 m.2.2.2.1 0 (some s) 0 = some s
      rfl
theorem askLive2 (hU : iv_U m 0 r) (hW : iv_W 999 r) (hK : iv_K m 0 r) : ∃ lw m1, fn_X9_askLive m = some m1 ∧ jq lw m1 ∧ m1.1 = m.1 ∧ am_kp [] [] 1 m m1 ∧ ∀ r' : Nat → Int32, keepR r r' → rf_law r' lw := by
  obtain ⟨lw, h1, o, h2, h3⟩ := law_of2 (lf := r 3) hU hW hK hW.2.2.2.2.1
  refine ⟨lw, am_sb (am_sa m (some 0)) o, ?_, ⟨rfl, h3 _⟩, rfl, am_kp.sb (am_kp.sa am_kp.rf rfl) rfl, fun r' hr => h1 r' (hr 3 (by omega)) (fun k hk => hr k (by omega))⟩
  unfold fn_X9_askLive fn_X1_look
  rw [hU.2.2.2.1, h2]
  rfl
theorem cSc.of {aw : Nat} (h : cSc K a2 aw zs m) (h5 : m'.1 5 = m.1 5) (h28 : m'.1 28 = m.1 28) (h29 : m'.1 29 = m.1 29) (hl : m'.2.2.2.2.2.2.1 = m.2.2.2.2.2.2.1) : cSc K a2 aw zs m' := by
  unfold cSc
  rw [h5, h28, h29, hl]
  exact h
/-- what stays of the class's cells -/
def crF (m q : am_m) : Prop := am_kp lvR2 [(80, 0)] 2 m q ∧ (∀ u, 2 ≤ u → sm_U m q u) ∧ (∀ u, 2 ≤ u → q.2.2.2.2.1 u = m.2.2.2.2.1 u) ∧ ∀ k, k < 6 → q.2.2.2.2.1 0 k = m.2.2.2.2.1 0 k
def crR2 (zs : Nat → oz_T) (lw : lw_T) (σ : DS) (K : Nat) (m' : am_m) (v : Int32) (q : am_m) : Prop := match oAll lw zs K 0 (σ, 0, -1) with
  | .inr S' => v = S'.2.1 ∧ cWd S'.1 q ∧ oI 1000000 σ.1 S' ∧ q.1 9 0 16 = m'.1 9 0 16
  | .inl j => v = -3 ∧ cWd σ q ∧ q.1 9 0 16 = nI j
theorem c_run {aw : Nat} (hw : cWd σ m') (hK : iv_K m' 0 σ.1) (hs : cSc K a2 aw zs m') (hz : ∀ i, i < K → ozd aw (zs i)) : ∃ lw v q, cRun m' = some (v, st_9 v q) ∧ an_ok v ∧ crF m' q ∧ (∀ r' : Nat → Int32, keepR σ.1 r' → rf_law r' lw) ∧ crR2 zs lw σ K m' v q := by
  obtain ⟨r4, b1, a8, a36, a37, a38, a39, a40, al, aw1, aL, ap, aj, ae⟩ := become_ok (u := 1) (v := 0) (by decide) m'
  have k4 := kp_X8_become _ _ _ _ b1
  obtain ⟨r6, c1, c2, c3, c4⟩ := x3_become (u := 1) (v := 0) (by decide) r4
  have k6 := kp_X3_become _ _ _ _ c1
  have e6 : r6.2.2 = r4.2.2 := k6.2.2
  have U4 : iv_U r4 0 σ.1 := hw.1.of (aw1 0 (by decide)).1
  have U6 : iv_U r6 0 σ.1 := U4.of (sm_U.kp k6 rfl 0)
  have lw6 : ∀ u, u ≠ 1 → r6.2.2.2.2.1 u = m'.2.2.2.2.1 u := fun u hu => by rw [e6]; exact (aw1 u hu).2
  have ee6 : r6.2.2.2.2.2 = m'.2.2.2.2.2 := by rw [e6]; exact ae
  have s5 : r6.1 5 = m'.1 5 := (k6.obj 5 rfl).trans (k4.obj 5 rfl)
  have s28 : r6.1 28 = m'.1 28 := (k6.row 28 rfl).trans (k4.row 28 rfl)
  have s29 : r6.1 29 = m'.1 29 := (k6.row 29 rfl).trans (k4.row 29 rfl)
  have K6 : iv_K r6 0 σ.1 := hK.of rfl (fun _ _ => rfl) (sm_S.of5 s5 s28 s29) (lw6 0 (by decide)) (by rw [ee6])
  have H6 : cH σ.2.1 σ.2.2.1 σ.2.2.2 σ.1 r6 := by
    refine ⟨hw.2.2.1, ?_⟩
    rw [(c4 0 (by decide)).1, (c4 0 (by decide)).2, k4.fld 3 0 1 rfl, k4.row 24 rfl]
    exact hw.2.2.2
  obtain ⟨lw, r8, d1, d2, d3, d4, d5⟩ := askLive2 U6 hw.2.1 K6
  have e8 : r8.2.2.2.2 = r6.2.2.2.2 := d4.2.2
  have w8 : cWd σ r8 := by
    refine ⟨?_, hw.2.1, hw.2.2.1, ?_⟩
    · unfold iv_U; rw [d3]; exact U6
    · rw [d3]; exact H6.2
  have sc8 : cSc K a2 aw zs r8 := hs.of (by rw [d3, s5]) (by rw [d3, s28]) (by rw [d3, s29]) (by rw [e8, ee6])
  have k9 : am_kp [(41, 0)] [] 0 r8 (am_si (am_si r8 41 0 1 0) 41 0 2 (-1)) := am_kp.si (am_kp.si am_kp.rf rfl) rfl
  obtain ⟨r10, f1, f2, f3⟩ := c_after (lw := lw) (dc := 0) (la := -1) (w8.kp k9 rfl rfl) (d2.kp k9 rfl) (sc8.kp k9 rfl) rfl rfl
  have f1 : fn_X9_fillOrderWords (r8.1 5 0 4) (am_si (am_si r8 41 0 1 0) 41 0 2 (-1)) = some r10 := f1
  have hI : oI 0 σ.1 (σ, 0, -1) := ⟨⟨⟨0, Nat.le_refl _, rfl⟩, Or.inl rfl, hw.2.1⟩, hw.2.2.1, keepR.rf⟩
  have h12 : K ≤ 12 := hs.2.1
  have all := c_all hz K 0 0 1000000 (σ, 0, -1) r10 (by omega) (by omega) (by omega) f2 hI
  have k810 : am_kp [(20, 0), (41, 0)] [(80, 0)] 0 r8 r10 := (am_kp.mono k9 rfl).tr f3
  have km8 : am_kp lvR2 [(80, 0)] 2 m' r8 := (am_kp.mono k4 rfl).tr ((am_kp.mono k6 rfl).tr (am_kp.mono d4 rfl))
  have km10 : am_kp lvR2 [(80, 0)] 2 m' r10 := km8.tr (am_kp.mono k810 rfl)
  have u10 : ∀ u, sm_U r6 r10 u := fun u => (sm_U.kp d4 rfl u).tr (sm_U.kp k810 rfl u)
  have um10 : ∀ u, u ≠ 1 → sm_U m' r10 u := fun u hu => ((aw1 u hu).1.tr (sm_U.kp k6 rfl u)).tr (u10 u)
  have l10 : r10.2.2.2.2.1 = r6.2.2.2.2.1 := by rw [k810.2.2, e8]
  have head : cRun m' = ((lp_X9_orders_83 1000000 (nI 0) r10).bind fun w27 => (match w27 with
    | .inl q22 => (fn_X9_told (q22.1 41 0 1) q22).bind fun r24 => some (r24.1, r24.2)
    | .inr rr26 => some rr26)) := by
    unfold cRun
    rw [b1, bd_s, c1, bd_s, d1, bd_s, f1, bd_s]
    rfl
  unfold caR at all
  cases e : oAll lw zs K 0 (σ, 0, -1) with
  | inr S' =>
    rw [e] at all
    obtain ⟨q, g1, g2, g3, g4, g5, g6⟩ := all
    have v0 : (0 : Int32) ≤ S'.2.1 := by
      obtain ⟨d, x1, x2⟩ := g3.1.1
      rw [x2]; exact nI_le (a := 0) (Nat.zero_le _) (by omega)
    refine ⟨lw, S'.2.1, q, ?_, Or.inl v0, ⟨km10.tr (am_kp.mono g6 rfl), fun u hu => (um10 u (by omega)).tr (g4 u (by omega)), fun u hu => by rw [g6.2.2, l10, lw6 u (by omega)], fun k _ => by rw [g6.2.2, l10, lw6 0 (by decide)]⟩, d5, ?_⟩
    · rw [head, g1, bd_s]
      dsimp only
      rw [g2.2.2.1.1, td_ok (Or.inl v0), bd_s]
    · unfold crR2
      rw [e]
      refine ⟨rfl, g2.1, g3, ?_⟩
      rw [g6.fld 9 0 16 rfl, k810.fld 9 0 16 rfl, d4.fld 9 0 16 rfl, k6.fld 9 0 16 rfl, k4.fld 9 0 16 rfl]
  | inl j =>
    rw [e] at all
    obtain ⟨q, g1, g2, g3, g4, g5⟩ := all
    obtain ⟨r16, B1, B8, B36, B37, B38, B39, B40, Bl, Bw, BL, Bp, Bj, Be⟩ := become_ok (u := 0) (v := 1) (by decide) q
    have k16 := kp_X8_become _ _ _ _ B1
    obtain ⟨r18, C1, C2, C3, C4⟩ := x3_become (u := 0) (v := 1) (by decide) r16
    have k18 := kp_X3_become _ _ _ _ C1
    have e18 : r18.2.2 = r16.2.2 := k18.2.2
    have kN : am_kp [(9, 16)] [] 0 r18 (am_si r18 9 0 16 (nI j)) := am_kp.si am_kp.rf rfl
    have q1 : ∀ c k, am_hit lvRun c k = false → q.1 c 1 k = r10.1 c 1 k := fun c k hh => g5.1 c 1 k hh
    have uq : sm_U r4 q 1 := ((sm_U.kp k6 rfl 1).tr (u10 1)).tr (g3 1 (by decide))
    have Uq : iv_U q 1 σ.1 := (hw.1.move a8 a36 a37 a38 a39 a40 : iv_U r4 1 σ.1).of uq
    have U16 : iv_U r16 0 σ.1 := Uq.move B8 B36 B37 B38 B39 B40
    have UF : iv_U (am_si r18 9 0 16 (nI j)) 0 σ.1 := (U16.of (sm_U.kp k18 rfl 0)).of (sm_U.kp kN rfl 0)
    have p3 : r18.1 3 0 1 = m'.1 3 0 1 := by
      rw [C2, k16.fld 3 1 1 rfl, g4.1, k810.fld 3 1 1 rfl, d4.fld 3 1 1 rfl, c2, k4.fld 3 0 1 rfl]
    have p24 : ∀ x, x < 208 → r18.1 24 0 x = m'.1 24 0 x := fun x hx => by
      rw [C3 x hx, k16.row 24 rfl, g4.2, k810.row 24 rfl, d4.row 24 rfl, c3 x hx, k4.row 24 rfl]
    have hw22 := hw.2.2
    have HF : cH σ.2.1 σ.2.2.1 σ.2.2.2 σ.1 (am_si r18 9 0 16 (nI j)) := by
      refine ⟨hw22.1, ?_⟩
      show iv_H (r18.1 3 0 1) (r18.1 24 0) _ _ _ _
      rw [p3]
      exact hw22.2.cong hw22.1 (fun _ _ => rfl) (fun _ _ => rfl) (fun x hx => p24 x (by have := hw22.1; omega))
    have kq : am_kp lvR2 [(80, 0)] 2 m' (am_si r18 9 0 16 (nI j)) := km10.tr ((am_kp.mono g5 rfl).tr ((am_kp.mono k16 rfl).tr ((am_kp.mono k18 rfl).tr (am_kp.mono kN rfl))))
    have lq : q.2.2.2.2.1 = r6.2.2.2.2.1 := by rw [g5.2.2, l10]
    refine ⟨lw, -3, am_si r18 9 0 16 (nI j), ?_, an_no 3 (by decide) (by decide), ⟨kq, fun u hu => (um10 u (by omega)).tr ((g3 u (by omega)).tr (((Bw u (by omega)).1.tr (sm_U.kp k18 rfl u)).tr (sm_U.kp kN rfl u))), fun u hu => ?_, fun k hk => ?_⟩, d5, ?_⟩
    · rw [head, g1, B1, bd_s, C1, bd_s, td_ok (show an_ok (-3) from an_no 3 (by decide) (by decide)), bd_s, bd_s]
    · show r18.2.2.2.2.1 u = _
      rw [e18, (Bw u (by omega)).2, lq, lw6 u (by omega)]
    · show r18.2.2.2.2.1 0 k = _
      rw [e18, Bl k hk, lq, e6, al k hk]
    · unfold crR2
      rw [e]
      exact ⟨rfl, ⟨UF, hw.2.1, HF⟩, rfl⟩
end OJ
