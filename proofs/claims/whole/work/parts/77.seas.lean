/-! seasons: the reference's, the loops, the call -/
/-- behind k seasons: the row, the draws -/
def ssN (r : Nat → Int32) (lw : lw_T) (x : Nat) : Nat → (Nat → Int32) × Nat
  | 0 => (r, x)
  | k + 1 => if nv ((ssN r lw x k).1 4) < 999 then (seP (ssN r lw x k).1 lw (ssN r lw x k).2, dwN (dwN (dwN (dwN (ssN r lw x k).2)))) else ssN r lw x k
section SR
variable {m : am_m} {r : Nat → Int32} {lw : lw_T} {x n a b w h : Nat}
theorem ssN_s {k : Nat} (h : nv ((ssN r lw x k).1 4) < 999) : ssN r lw x (k + 1) = (seP (ssN r lw x k).1 lw (ssN r lw x k).2, dwN (dwN (dwN (dwN (ssN r lw x k).2)))) := by rw [ssN, if_pos h]
theorem ssN_e {k : Nat} (h : ¬ nv ((ssN r lw x k).1 4) < 999) : ∀ j, ssN r lw x (k + j) = ssN r lw x k
  | 0 => rfl
  | j + 1 => by
    have ih := ssN_e h j
    rw [show k + (j + 1) = (k + j) + 1 by omega, ssN, ih, if_neg h]
theorem ssN_ok (hW : iv_W 999 r) (h0 : 1 ≤ nv (r 0)) (hx : x < 1000003) : ∀ k, iv_W 999 (ssN r lw x k).1 ∧ (ssN r lw x k).2 < 1000003 ∧ ∀ j, (j < 4 ∨ 112 ≤ j) → (ssN r lw x k).1 j = r j
  | 0 => ⟨hW, hx, fun _ _ => rfl⟩
  | k + 1 => by
    obtain ⟨h1, h2, h3⟩ := ssN_ok hW h0 hx k
    by_cases c : nv ((ssN r lw x k).1 4) < 999
    · rw [ssN_s c]
      have e0 : 1 ≤ nv ((ssN r lw x k).1 0) := by rw [h3 0 (by omega)]; exact h0
      exact ⟨seP_W h1 e0 c, dwN_lt _, fun j hj => by show seP (ssN r lw x k).1 lw _ j = _; rw [seP_out h1 e0 hj]; exact h3 j hj⟩
    · have := ssN_e (j := 1) c
      rw [this]; exact ⟨h1, h2, h3⟩
theorem cseasons_ok (hj : jdx 999 2 r lw m) (h0 : 1 ≤ nv (r 0)) (hx : x < 1000003) (hd : m.2.1 0 0 0 = lN x) (hn : n ≤ 60) : ∃ m', lp_X9_seasons_91 1000000 (nI n) 0 m = some m' ∧ (jdx 999 2 (ssN r lw x n).1 lw m' ∧ am_kp [(20, 0), (36, 0), (37, 0), (38, 0), (39, 0)] [(0, 0), (80, 0)] 0 m m' ∧ ∀ u, u ≠ 2 → sm_U m m' u) := by
  have hW := hj.2.2.1
  refine lp_up0 (fun N y a => lp_X9_seasons_91 N (nI n) y a) (fun k m1 => jdx 999 2 (ssN r lw x k).1 lw m1 ∧ m1.2.1 0 0 0 = lN (ssN r lw x k).2 ∧ am_kp [(20, 0), (36, 0), (37, 0), (38, 0), (39, 0)] [(0, 0), (80, 0)] 0 m m1 ∧ ∀ u, u ≠ 2 → sm_U m m1 u) _ n (by omega) (fun N m1 hh => ⟨m1, ?_, hh.1, hh.2.2.1, hh.2.2.2⟩) (fun N k m1 hk hh => ?_) m ⟨hj, hd, am_kp.rf, fun u _ => ⟨rfl, rfl, rfl, rfl, rfl, rfl⟩⟩
  · show lp_X9_seasons_91 (N + 1) (nI n) (nI n) m1 = _
    rw [lp_X9_seasons_91.eq_2, if_pos (nI_le (Nat.le_refl _) (by omega))]
  · obtain ⟨j1, d1, w1, u1⟩ := hh
    obtain ⟨s1, s2, s3⟩ := ssN_ok (lw := lw) hW h0 hx k
    have e4 : m1.1 39 2 0 = nI (nv ((ssN r lw x k).1 4)) := (j1.2.1.2.2.2.2.1 0 (by decide)).trans (s1.k (by decide) (by decide))
    show (∃ a', lp_X9_seasons_91 (N + 1) (nI n) (nI k) m1 = lp_X9_seasons_91 N (nI n) (nI (k + 1)) a' ∧ _) ∨ ∃ b, lp_X9_seasons_91 (N + 1) (nI n) (nI k) m1 = some b ∧ _
    rw [lp_X9_seasons_91.eq_2, if_neg (nI_ge hk (by omega)), e4]
    by_cases c : nv ((ssN r lw x k).1 4) < 999
    · obtain ⟨m2, e2, j2, d2, u2⟩ := cseason_ok j1 s2 d1 c (by rw [s3 0 (by omega)]; exact h0)
      rw [if_neg (show ¬ (999 : Int32) ≤ nI (nv ((ssN r lw x k).1 4)) from nI_ge (b := 999) c (by decide)), e2, bd_s, nI_1]
      refine Or.inl ⟨m2, rfl, ?_, ?_, w1.tr (kp_X9_oneSeason _ _ e2), fun u hu => (u1 u hu).tr (u2 u hu)⟩
      · rw [ssN_s c]; exact j2
      · rw [ssN_s c]; exact d2
    · rw [if_pos (show (999 : Int32) ≤ nI (nv ((ssN r lw x k).1 4)) from nI_le (a := 999) (by omega) (nv_lt _))]
      refine Or.inr ⟨m1, rfl, ?_, w1, u1⟩
      obtain ⟨j, rfl⟩ : ∃ j, n = k + j := ⟨n - k, by omega⟩
      rw [ssN_e c j]; exact j1
theorem rseasons_ok (hx0 : rfx 999 lw m) (hr : m.1 44 0 = r) (h0 : 1 ≤ nv (r 0)) (hx : x < 1000003) (hd : m.2.1 10 0 59 = lN x) (hn : n ≤ 60) : ∃ m', lp_X10_seasons_65 1000000 (nI n) 0 m = some m' ∧ (m'.1 44 0 = (ssN r lw x n).1 ∧ am_kp [(10, 34), (10, 38), (44, 0), (56, 0)] [(10, 39), (10, 40), (10, 59), (85, 0), (87, 0)] 0 m m') := by
  have hW : iv_W 999 r := by rw [← hr]; exact hx0.1
  have h7 := hW.n7
  refine lp_up0 (fun N y a => lp_X10_seasons_65 N (nI n) y a) (fun k m1 => rfx 999 lw m1 ∧ m1.1 44 0 = (ssN r lw x k).1 ∧ m1.2.1 10 0 59 = lN (ssN r lw x k).2 ∧ am_kp [(10, 34), (10, 38), (44, 0), (56, 0)] [(10, 39), (10, 40), (10, 59), (85, 0), (87, 0)] 0 m m1) _ n (by omega) (fun N m1 hh => ⟨m1, ?_, hh.2.1, hh.2.2.2⟩) (fun N k m1 hk hh => ?_) m ⟨hx0, hr, hd, am_kp.rf⟩
  · show lp_X10_seasons_65 (N + 1) (nI n) (nI n) m1 = _
    rw [lp_X10_seasons_65.eq_2, if_pos (nI_le (Nat.le_refl _) (by omega))]
  · obtain ⟨x1, r1, d1, k1⟩ := hh
    obtain ⟨s1, s2, s3⟩ := ssN_ok (lw := lw) hW h0 hx k
    generalize hR : (ssN r lw x k).1 = R at *
    generalize hX : (ssN r lw x k).2 = X at *
    have n0 : nv (R 0) = nv (r 0) := by rw [s3 0 (by omega)]
    have e4 : m1.1 44 0 4 = nI (nv (R 4)) := by rw [r1]; exact s1.k (by decide) (by decide)
    have e0 : m1.1 44 0 0 = nI (nv (R 0)) := by rw [r1]; exact s1.r0
    show (∃ a', lp_X10_seasons_65 (N + 1) (nI n) (nI k) m1 = lp_X10_seasons_65 N (nI n) (nI (k + 1)) a' ∧ _) ∨ ∃ b, lp_X10_seasons_65 (N + 1) (nI n) (nI k) m1 = some b ∧ _
    rw [lp_X10_seasons_65.eq_2, if_neg (nI_ge hk (by omega)), e4]
    by_cases c : nv (R 4) < 999
    · rw [if_neg (show ¬ (999 : Int32) ≤ nI (nv (R 4)) from nI_ge (b := 999) c (by decide))]
      have l1 := dwN_lt X
      have l2 := dwN_lt (dwN X)
      have l3 := dwN_lt (dwN (dwN X))
      have la : dwN X % nv (R 0) < nv (R 0) := Nat.mod_lt _ (by omega)
      have lb : dwN (dwN X) % nv (R 0) < nv (R 0) := Nat.mod_lt _ (by omega)
      have l9 : dwN (dwN (dwN X)) % 9 < 9 := Nat.mod_lt _ (by decide)
      have lh : dwN (dwN (dwN (dwN X))) % 4 < 4 := Nat.mod_lt _ (by decide)
      generalize hA : dwN X % nv (R 0) = A at *
      generalize hB : dwN (dwN X) % nv (R 0) = B at *
      generalize hw : dwN (dwN (dwN X)) % 9 = w at *
      generalize hH : dwN (dwN (dwN (dwN X))) % 4 = H at *
      let ma : am_m := am_sg m1 10 0 59 (lN (dwN X))
      let mb : am_m := am_sg ma 10 0 59 (lN (dwN (dwN X)))
      let mc : am_m := am_sg mb 10 0 59 (lN (dwN (dwN (dwN X))))
      let md : am_m := am_sg mc 10 0 59 (lN (dwN (dwN (dwN (dwN X)))))
      have n1 : fn_X10_draw (m1.1 44 0 0) m1 = some (nI A, ma) := by rw [e0, ← hA]; exact rdraw_ok s2 d1 (by omega) (by omega)
      have n2 : fn_X10_draw (ma.1 44 0 0) ma = some (nI B, mb) := by
        show fn_X10_draw (m1.1 44 0 0) ma = _
        rw [e0, ← hB]; exact rdraw_ok (m := ma) l1 rfl (by omega) (by omega)
      have n3 : fn_X10_draw 9 mb = some (nI w, mc) := by rw [← hw]; exact rdraw_ok (m := mb) (n := 9) l2 rfl (by decide) (by decide)
      have n4 : fn_X10_draw 4 mc = some (nI H, md) := by rw [← hH]; exact rdraw_ok (m := mc) (n := 4) l3 rfl (by decide) (by decide)
      have kd : am_kp [(10, 34), (10, 38), (44, 0), (56, 0)] [(10, 39), (10, 40), (10, 59), (85, 0), (87, 0)] 0 m1 md := am_kp.sg (am_kp.sg (am_kp.sg (am_kp.sg am_kp.rf rfl) rfl) rfl) rfl
      have xd : rfx 999 lw md := x1
      have rd : md.1 44 0 = R := r1
      have dd : md.2.1 10 0 59 = lN (dwN (dwN (dwN (dwN X)))) := rfl
      have eX : seX R lw X = seD R lw A B (w + 1) H := by unfold seX; rw [hA, hB, hw, hH]
      have lawR : rf_law R lw := by have := x1.2.1; rw [r1] at this; exact this
      -- the deed
      have deed : ∃ me, (if nI A = nI B then some md else (if (2 : Int32) ≤ nI H then some md else (fn_X10_weightOf (nI A) (nI B) md).bind fun r24 => (if r24 = (nI w + (1 : Int32)) then some md else (fn_X10_setHarm (nI A) (nI B) (nI w + (1 : Int32)) md).bind fun r27 => some r27)).bind fun q29 => (if nI H ≠ (2 : Int32) then some q29 else (fn_X10_maySit (nI A) (nI B) q29).bind fun r31 => (if r31.1 = 0 then some r31.2 else (fn_X10_feastIt (((1 : Int32) <<< (nI A &&& 31)) ||| ((1 : Int32) <<< (nI B &&& 31))) r31.2).bind fun r34 => some r34)).bind fun q36 => (if nI H ≠ (3 : Int32) then some q36 else am_ck (((14 : Int32) + ((7 : Int32) * nI A)) + nI B) 5518 (some (am_si q36 44 0 (((14 : Int32) + ((7 : Int32) * nI A)) + nI B).toNatClampNeg 0)))) = some me ∧ me.1 44 0 = seX R lw X ∧ am_kp [(10, 34), (10, 38), (44, 0), (56, 0)] [(10, 39), (10, 40), (10, 59), (85, 0), (87, 0)] 0 m1 me ∧ me.2.1 10 0 59 = lN (dwN (dwN (dwN (dwN X)))) := by
        rw [eX]
        unfold seD
        by_cases e : A = B
        · rw [if_pos (by rw [e]), if_pos e]
          exact ⟨md, rfl, rd, kd, dd⟩
        · rw [if_neg (nI_ne (by omega) (by omega) e), if_neg e, nI_1]
          by_cases h2 : H < 2
          · rw [if_neg (show ¬ (2 : Int32) ≤ nI H from nI_ge (b := 2) h2 (by decide)), if_pos h2, weightOf_ok (by omega) (by omega), bd_s, rd]
            have ne2 : nI H ≠ (2 : Int32) := nI_ne (b := 2) (by omega) (by decide) (by omega)
            have ne3 : nI H ≠ (3 : Int32) := nI_ne (b := 3) (by omega) (by decide) (by omega)
            by_cases cw : R (14 + (7 * A + B)) = nI (w + 1)
            · rw [if_pos cw, bd_s, if_pos ne2, bd_s, if_pos ne3, if_pos cw]
              exact ⟨md, rfl, rd, kd, dd⟩
            · rw [if_neg cw, rset_ok (by omega) (by omega), bd_s, bd_s, if_pos ne2, bd_s, if_pos ne3, if_neg cw]
              refine ⟨_, rfl, funext (fun j => ?_), am_kp.si (am_kp.si kd rfl) rfl, dd⟩
              rw [rd_j, rd_j, rd]
              rfl
          · rw [if_pos (show (2 : Int32) ≤ nI H from nI_le (a := 2) (by omega) (by omega)), bd_s, if_neg h2]
            by_cases h3 : H = 2
            · have ne3 : nI H ≠ (3 : Int32) := nI_ne (b := 3) (by omega) (by decide) (by omega)
              obtain ⟨m2, e2, k2⟩ := maySit_ok xd (show A < 7 by omega) (show B < 7 by omega)
              rw [rd, ← mtx_ne (r := R) (lw := lw) e] at e2
              have x2 := xd.kp k2 rfl
              have r2 : m2.1 44 0 = R := by rw [k2.row 44 rfl]; exact rd
              have sl := two_lt la lb
              have h128 := pw_le (show nv (R 0) ≤ 7 by omega)
              rw [if_neg (fun z => z (by rw [h3]; rfl)), e2, bd_s, if_pos h3]
              cases hM : mtx R lw A B with
              | false =>
                rw [if_pos (show (if false = true then (1 : Int32) else 0) = 0 from rfl), bd_s, if_pos ne3, if_neg (by decide)]
                exact ⟨m2, rfl, r2, kd.tr (am_kp.mono k2 rfl), by rw [k2.fldL 10 0 59 rfl]; exact dd⟩
              | true =>
                obtain ⟨m3, e3, r3⟩ := rfeast_ok x2 (show 2 ^ A ||| 2 ^ B < 128 by omega)
                have k3 := kp_X10_feastIt _ _ _ e3
                rw [if_neg (show ¬ (if true = true then (1 : Int32) else 0) = 0 by decide), sh1 A (by omega), sh1 B (by omega), fa_or, e3, bd_s, bd_s, if_pos ne3, if_pos rfl]
                refine ⟨m3, rfl, by rw [r3, r2], kd.tr ((am_kp.mono k2 rfl).tr (am_kp.mono k3 rfl)), by rw [k3.fldL 10 0 59 rfl, k2.fldL 10 0 59 rfl]; exact dd⟩
            · have hh3 : H = 3 := by omega
              rw [if_pos (show nI H ≠ (2 : Int32) from nI_ne (b := 2) (by omega) (by decide) h3), bd_s, if_neg (fun z => z (by rw [hh3]; rfl)), if_neg h3]
              have e1 : ((14 : Int32) + (7 : Int32) * nI A) + nI B = nI (14 + (7 * A + B)) := by rw [show (14 : Int32) = nI 14 from rfl, show (7 : Int32) = nI 7 from rfl, pk_mul, nI_add, nI_add, Nat.add_assoc]
              rw [e1, ck_in (by omega) (by decide), nI_clamp (by omega)]
              refine ⟨_, rfl, funext (fun j => ?_), am_kp.si kd rfl, dd⟩
              rw [rd_j, rd]
              rfl
      obtain ⟨me, g1, g2, g3, g4⟩ := deed
      have hR0 : 1 ≤ nv (R 0) := by omega
      have xe : rfx 999 lw me := ⟨by rw [g2]; exact seX_W s1 hR0, by rw [g2]; exact lawR.of (seX_out s1 hR0 (by omega)) (fun j hj => seX_out s1 hR0 (by omega)), by rw [g3.fld 10 0 20 rfl]; exact x1.2.2⟩
      obtain ⟨mf, f1, f2⟩ := rpass_ok xe
      have kf := kp_X10_passIt _ _ f1
      have eS : ssN r lw x (k + 1) = (seP R lw X, dwN (dwN (dwN (dwN X)))) := by
        rw [ssN_s (by rw [hR]; exact c), hR, hX]
      rw [g2] at f2
      rw [n1, bd_s]
      dsimp only
      rw [n2, bd_s]
      dsimp only
      rw [n3, bd_s]
      dsimp only
      rw [n4, bd_s]
      dsimp only
      rw [g1, bd_s, f1, bd_s, nI_1]
      refine Or.inl ⟨mf, rfl, ⟨by rw [f2]; exact seP_W s1 hR0 c, by rw [f2]; exact lawR.of (seP_out s1 hR0 (by omega)) (fun j hj => seP_out s1 hR0 (by omega)), by rw [kf.fld 10 0 20 rfl]; exact xe.2.2⟩, by rw [f2, eS]; rfl, by rw [kf.fldL 10 0 59 rfl, g4, eS], k1.tr (g3.tr (am_kp.mono kf rfl))⟩
    · rw [if_pos (show (999 : Int32) ≤ nI (nv (R 4)) from nI_le (a := 999) (by omega) (nv_lt _))]
      refine Or.inr ⟨m1, rfl, ?_, k1⟩
      obtain ⟨j, rfl⟩ : ∃ j, n = k + j := ⟨n - k, by omega⟩
      rw [ssN_e (by rw [hR]; exact c) j, hR]; exact r1
theorem rdrawn_ok : ∃ m', lp_X10_seasons_224 1000000 0 m = some m' ∧ ((∀ i, i < 108 → m'.1 63 0 i = m.1 44 0 (4 + i)) ∧ am_kp [(63, 0)] [] 0 m m') := by
  refine lp_up0 (fun N y a => lp_X10_seasons_224 N y a) (fun k m1 => (∀ i, i < k → m1.1 63 0 i = m.1 44 0 (4 + i)) ∧ am_kp [(63, 0)] [] 0 m m1) _ 108 (by decide) (fun N m1 hh => ⟨m1, ?_, hh⟩) (fun N k m1 hk hh => Or.inl ⟨am_si m1 63 0 k (m.1 44 0 (4 + k)), ?_, fun i hi => ?_, am_kp.si hh.2 rfl⟩) m ⟨fun i hi => absurd hi (Nat.not_lt_zero _), am_kp.rf⟩
  · show lp_X10_seasons_224 (N + 1) (nI 108) m1 = _
    rw [lp_X10_seasons_224.eq_2, if_pos (by decide)]
  · show lp_X10_seasons_224 (N + 1) (nI k) m1 = lp_X10_seasons_224 N (nI (k + 1)) _
    rw [lp_X10_seasons_224.eq_2, if_neg (show ¬ (108 : Int32) ≤ nI k from nI_ge (b := 108) hk (by decide)), show (4 : Int32) = nI 4 from rfl, nI_add, ck_in (by omega) (by decide), ck_in (by omega) (by decide), nI_clamp (by omega), nI_clamp (by omega), hh.2.row 44 rfl, nI_1]
  · rw [rd_j]
    by_cases e : i = k
    · rw [if_pos e, e]
    · rw [if_neg e]; exact hh.1 i (by omega)
end SR
