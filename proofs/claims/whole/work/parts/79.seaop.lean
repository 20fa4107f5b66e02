/-! seasons, back -/
section SO
variable {m m' : am_m}
abbrev lvSea : List (Nat × Nat) := [(8, 0), (8, 1), (8, 2), (8, 3), (9, 17), (10, 0), (10, 1), (10, 34), (10, 38), (10, 61), (20, 0), (36, 0), (37, 0), (38, 0), (39, 0), (40, 0), (42, 0), (44, 0), (46, 0), (56, 0), (63, 0)]
theorem Inv0.sea (h : Inv0 m) (k : am_kp lvSea [(0, 0), (10, 39), (10, 40), (10, 59), (80, 0), (85, 0), (87, 0)] 2 m m') (hU : ∀ u, u ≠ 2 → sm_U m m' u) (hl : ∀ u, u ≠ 2 → m'.2.2.2.2.1 u = m.2.2.2.2.1 u) (e44 : m'.1 44 0 = m.1 44 0) (e46 : ∀ x, x < 1728 → m'.1 46 0 x = m.1 46 0 x) (hD : iv_D (m'.1 10 0 61) (m'.1 63 0) (m'.1 8 2 0) (m'.1 36 2) (m'.1 37 2)) : Inv0 m' := by
  obtain ⟨h1, h2, h3, h4, h5, h6, h7, h8, h9, h10⟩ := h
  have he : m'.2.2.2.2.2 = m.2.2.2.2.2 := k.2.2
  have hS : sm_S m m' := sm_S.of5 (k.obj 5 rfl) (k.row 28 rfl) (k.row 29 rfl)
  have he2 : m'.2.2.2.2.2.2 = m.2.2.2.2.2.2 := by rw [he]
  refine ⟨by rw [e44]; exact h1, by rw [e44]; exact h2.of (hU 0 (by decide)), by rw [e44]; exact h3.of rfl (fun _ _ => rfl) hS (hl 0 (by decide)) he2, ?_, ?_, hD, ?_, ?_, ?_, ?_⟩
  · obtain ⟨g1, K, g2, g3, g5⟩ := h4
    have g4 : iv_H (m.1 3 0 1) (m.1 24 0) (nI K) (m.1 46 0) (m.1 47 0) (m.1 44 0) := by rw [← g3]; exact ⟨g1, K, g2, g3, g5⟩
    rw [e44, k.fld 3 0 1 rfl, k.row 24 rfl, k.fld 10 0 8 rfl, k.row 47 rfl, g3]
    exact g4.cong g2 (fun x hx => e46 x (by omega)) (fun _ _ => rfl) (fun _ _ => rfl)
  · have e1 : m'.2.2.2.2.2.1 = m.2.2.2.2.2.1 := by rw [he]
    have e45 : m'.1 45 = m.1 45 := k.row 45 rfl
    have ei : ∀ j, iv_img m' j = iv_img m j := fun j => by unfold iv_img; rw [e45]
    refine ⟨fun j hj => ?_, by rw [e1]; exact h5.2⟩
    rcases h5.1 j hj with ⟨a1, a2⟩ | ⟨a1, u, a2, a3, a4, a5, a6, a7⟩
    · exact Or.inl ⟨by rw [k.row 91 rfl]; exact a1, by rw [e1]; exact a2⟩
    · exact Or.inr ⟨by rw [k.row 91 rfl]; exact a1, u, a2, by rw [he]; exact a3, by rw [e1]; exact a4, by rw [ei]; exact a5, by rw [ei]; exact a6.of (hU u (by omega)), by rw [ei]; exact a7.of rfl (fun _ _ => rfl) hS (hl u (by omega)) he2⟩
  · rw [k.fld 7 0 1 rfl, k.row 35 rfl, k.fld 10 0 13 rfl, k.row 50 rfl]; exact h7
  · exact h8.of (k.fld 9 0 15 rfl) (k.fld 10 0 11 rfl) (k.fld 9 0 16 rfl) (k.fld 10 0 57 rfl) (k.fld 4 0 10 rfl) (k.fld 10 0 18 rfl) (k.fld 10 0 20 rfl)
  · obtain ⟨i1, i2, i3, i4, i5, i6, i7, i8, i9, i10⟩ := h9
    have c : ∀ n, m'.2.2.2.2.2.2.2 n = m.2.2.2.2.2.2.2 n := fun n => by rw [he]
    have l : ∀ n k, m'.2.2.2.2.2.2.1 n k = m.2.2.2.2.2.2.1 n k := fun n k => by rw [he]
    refine ⟨fun a b hab => by rw [l]; exact i1 a b hab, by rw [l]; exact i2, by rw [l]; exact i3, by rw [c]; exact i4, by rw [c, c]; exact i5, by rw [c, c]; exact i6, by rw [c]; exact i7, fun a q1 q2 => by rw [c, c]; exact i8 a q1 q2, by rw [c, c]; exact i9, fun a ha => ?_⟩
    rw [c] at ha
    rw [hl a (by omega)]
    exact i10 a ha
  · exact h10.of (k.rowL 82 rfl) (k.rowL 83 rfl) (k.rowL 84 rfl) (k.rowL 89 rfl)
theorem lawOf_same {u v : Nat} {lf : Int32} (h2 : m'.1 8 u 2 = m.1 8 v 2) (hl : ∀ k, k < 6 → m'.2.2.2.2.1 u k = m.2.2.2.2.1 v k) : fn_X8_lawOf u lf m' = fn_X8_lawOf v lf m := by
  unfold fn_X8_lawOf
  rw [h2]
  by_cases c : lf < 0
  · rw [if_pos c, if_pos c]
  · rw [if_neg c, if_neg c]
    by_cases c2 : m.1 8 v 2 ≤ lf
    · rw [if_pos c2, if_pos c2]
    · rw [if_neg c2, if_neg c2]
      obtain ⟨x, hx, rfl⟩ := nI_of c
      by_cases c3 : x < 6
      · rw [ck_in c3 (by decide), ck_in c3 (by decide), nI_clamp hx, hl x c3]
      · have no : ∀ o : Option (Option Nat), am_ck (nI x) 6 o = none := fun o => if_pos (Or.inr (by rw [nI_clamp hx]; omega))
        rw [no, no]
theorem jd_law.of {m0 : am_m} {lw : lw_T} (h : jd_law m0 lw) (hp : m.2.2.2.1 0 = m0.2.2.2.1 0) (h5 : m.1 5 = m0.1 5) (h28 : m.1 28 = m0.1 28) (h29 : m.1 29 = m0.1 29) (hn : m.2.2.2.2.2.2.1 = m0.2.2.2.2.2.2.1) : jd_law m lw := by
  cases lw with
  | none => exact hp.trans h
  | some q =>
    obtain ⟨s, g1, g2, g3⟩ := h
    refine ⟨s, hp.trans g1, g2, ?_⟩
    rw [h5, h28, h29, hn]
    exact g3
theorem op_seasons (h : Inv m) (a b : Int32) : op_ok m (fun m => fn_X9_seasons a b m) (fun m => fn_X10_seasons a b m) := by
  obtain ⟨n, hn, e44, e8, en⟩ := h.n
  have hW := h.w
  have hU := h.u
  have hi1 : ∀ M : am_m, fn_X10_in a.toInt64 0 1000000 M = some (if 0 ≤ a ∧ a ≤ 1000000 then 1 else 0) := fun M => by
    rw [show (0 : Int64) = (0 : Int32).toInt64 from rfl, show (1000000 : Int64) = (1000000 : Int32).toInt64 from rfl, in_32]
  have hi2 : ∀ M : am_m, fn_X10_in b.toInt64 1 60 M = some (if 1 ≤ b ∧ b ≤ 60 then 1 else 0) := fun M => by
    rw [show (1 : Int64) = (1 : Int32).toInt64 from rfl, show (60 : Int64) = (60 : Int32).toInt64 from rfl, in_32]
  by_cases H1 : 0 ≤ a ∧ a ≤ 1000000
  · by_cases H2 : 1 ≤ b ∧ b ≤ 60
    · obtain ⟨x, hx31, rfl⟩ := nI_of (an_nn H1.1)
      have hx : x < 1000003 := by have := (nI_leI (b := 1000000) hx31 (by decide)).mp H1.2; omega
      obtain ⟨k, hk31, rfl⟩ := nI_of (show ¬ b < 0 from fun z => absurd (fa_trans z (by decide : (0 : Int32) ≤ 1)) (fun q => (fa_of_lt q).2.1 H2.1))
      have hk : 1 ≤ k ∧ k ≤ 60 := ⟨(nI_leI (a := 1) (by decide) hk31).mp H2.1, (nI_leI (b := 60) hk31 (by decide)).mp H2.2⟩
      have q1 : ¬ nI x < 0 := an_nn H1.1
      have q2 : ¬ (1000000 : Int32) < nI x := fun z => (fa_of_lt z).2.1 H1.2
      have q3 : ¬ nI k < 1 := fun z => (fa_of_lt z).2.1 H2.1
      by_cases n0 : n = 0
      · refine op_refuse h 3 (by decide) (by decide) ?_ ?_
        · show fn_X9_seasons (nI x) (nI k) m = _
          unfold fn_X9_seasons
          rw [if_neg q1, if_neg q2, if_neg q3, if_pos H2.2, e8, n0, if_neg (show ¬ nI 0 ≠ 0 by decide)]
          rfl
        · show fn_X10_seasons (nI x) (nI k) _ = _
          unfold fn_X10_seasons
          rw [hi1, if_pos H1, bd_s, if_neg (by decide), hi2, if_pos H2, bd_s, if_pos (by decide), (st_9_kp _ m).row 44 rfl, e44, n0, if_neg (show ¬ nI 0 ≠ 0 by decide)]
          rfl
      · -- the class
        obtain ⟨lw, l1, o, l2, l3⟩ := law_of (lf := m.1 44 0 3) h hW.2.2.2.2.1
        obtain ⟨mA, a1, a8, a36, a37, a38, a39, a40, al, aw, aL, ap, aj, ae⟩ := become_ok (u := 2) (v := 0) (by decide) m
        have kA := kp_X8_become _ _ _ _ a1
        have lo : fn_X8_lawOf 2 (mA.1 8 2 3) mA = some o := by
          rw [a8 3 (by decide), hU.2.2.2.1, lawOf_same (m := m) (v := 0) (a8 2 (by decide)) al]; exact l2
        let mB : am_m := am_sg (am_sb (am_sa mA (some 2)) o) 0 0 0 (nI x).toInt64
        have jB : jdx 999 2 (m.1 44 0) lw mB := by
          refine ⟨rfl, hU.move (m' := mB) a8 a36 a37 a38 a39 a40, hW, (l3 (some 2)).of (m := mB) rfl ?_ ?_ ?_ ?_⟩
          · exact kA.obj 5 rfl
          · exact kA.row 28 rfl
          · exact kA.row 29 rfl
          · show mA.2.2.2.2.2.2.1 = _
            rw [ae]
            rfl
        obtain ⟨mC, c1, c2, c3, c4⟩ := cseasons_ok (x := x) (n := k) jB (by rw [en]; omega) hx (by show (nI x).toInt64 = _; rw [nI_l hx31]) hk.2
        obtain ⟨s1, s2, s3⟩ := ssN_ok (lw := lw) (x := x) hW (by rw [en]; omega) hx k
        have hs := hst_le (r := (ssN (m.1 44 0) lw x k).1) (by rw [s3 0 (by omega)]; exact hW.n7)
        have cls : fn_X9_seasons (nI x) (nI k) m = some (nI (hst (ssN (m.1 44 0) lw x k).1), am_si mC 9 0 17 0) := by
          unfold fn_X9_seasons fn_X1_look fn_X0_begin
          rw [if_neg q1, if_neg q2, if_neg q3, if_pos H2.2, e8, if_pos (nI_ne0 (by omega) (by omega)), a1, bd_s, lo, bd_s, bd_s, bd_s]
          show ((lp_X9_seasons_91 1000000 (nI k) 0 mB).bind _) = _
          rw [c1, bd_s, cstarving_ok c2.2.1 s1, bd_s, told_ok (nI_pos' (by omega)), bd_s]
        have k1 := kp_X9_seasons _ _ _ _ cls
        let m1 : am_m := am_si mC 9 0 17 0
        have k1 : am_kp [(8, 0), (8, 1), (8, 2), (8, 3), (9, 17), (20, 0), (36, 0), (37, 0), (38, 0), (39, 0), (40, 0), (42, 0)] [(0, 0), (80, 0)] 2 m m1 := k1
        have f44 : m1.1 44 = m.1 44 := k1.row 44 rfl
        -- the reference
        let mS : am_m := am_si m1 10 0 0 0
        obtain ⟨mK, b1, b2⟩ := keepAll_ok (m := mS) (K := 16) (by decide)
        have kK := kp_X10_keepAll _ _ _ b1
        have b1 : fn_X10_keepAll 16 mS = some mK := b1
        let mG : am_m := am_sg mK 10 0 59 (nI x).toInt64
        have rG : mG.1 44 0 = m.1 44 0 := by
          show mK.1 44 0 = _
          rw [kK.row 44 rfl]
          show m1.1 44 0 = _
          rw [f44]
        have xG : rfx 999 lw mG := ⟨by rw [rG]; exact hW, by rw [rG]; exact l1 _ rfl (fun _ _ => rfl), by
          show mK.1 10 0 20 = 0
          rw [kK.fld 10 0 20 rfl]
          show m1.1 10 0 20 = 0
          rw [k1.fld 10 0 20 rfl]; exact h.1.2.2.2.2.2.2.2.1.2.2.2⟩
        obtain ⟨mL, d1, d2, d3⟩ := rseasons_ok (x := x) (n := k) xG rG (by rw [en]; omega) hx (by show am_u3 mK.2.1 10 0 59 (nI x).toInt64 10 0 59 = _; rw [← nI_l hx31]; rfl) hk.2
        obtain ⟨mD, g1, g2, g3⟩ := rdrawn_ok (m := mL)
        have eD : mD.1 44 0 = (ssN (m.1 44 0) lw x k).1 := by rw [g3.row 44 rfl]; exact d2
        let mE : am_m := am_si mD 10 0 61 (mD.1 44 0 0)
        obtain ⟨mP, p1, p2⟩ := putBack_ok (m := mE) (K := 16) (by decide)
        have kP := kp_X10_putBack _ _ _ p1
        have p1 : fn_X10_putBack 16 mE = some mP := p1
        let mF : am_m := am_si mP 10 0 1 0
        have ref : fn_X10_seasons (nI x) (nI k) m1 = some (nI (hst (ssN (m.1 44 0) lw x k).1), mF) := by
          unfold fn_X10_seasons
          rw [hi1, if_pos H1, bd_s, if_neg (by decide), hi2, if_pos H2, bd_s, if_pos (by decide), f44, e44, if_pos (nI_ne0 (by omega) (by omega)), b1, bd_s]
          show ((lp_X10_seasons_65 1000000 (nI k) 0 mG).bind _) = _
          rw [d1, bd_s, g1, bd_s]
          show ((fn_X10_starving mE).bind fun r52 => (fn_X10_putBack 16 mE).bind _) = _
          rw [starving_ok (m := mE) (D := 999) (by show iv_W 999 (mD.1 44 0); rw [eD]; exact s1), bd_s, p1, bd_s]
          show ((fn_X10_tell (nI (hst (mD.1 44 0))) mP).bind _) = _
          rw [eD, tell_ok (nI_pos' (by omega)), bd_s]
        have kSF : am_kp [(10, 0), (10, 1), (10, 34), (10, 38), (10, 61), (44, 0), (46, 0), (56, 0), (63, 0)] [(10, 39), (10, 40), (10, 59), (85, 0), (87, 0)] 0 m1 mF := (am_kp.si am_kp.rf rfl : am_kp [(10, 0), (10, 1), (10, 34), (10, 38), (10, 61), (44, 0), (46, 0), (56, 0), (63, 0)] [(10, 39), (10, 40), (10, 59), (85, 0), (87, 0)] 0 m1 mS).tr ((am_kp.mono kK rfl).tr ((am_kp.sg am_kp.rf rfl : am_kp [(10, 0), (10, 1), (10, 34), (10, 38), (10, 61), (44, 0), (46, 0), (56, 0), (63, 0)] [(10, 39), (10, 40), (10, 59), (85, 0), (87, 0)] 0 mK mG).tr ((am_kp.mono d3 rfl).tr ((am_kp.mono g3 rfl).tr ((am_kp.si am_kp.rf rfl : am_kp [(10, 0), (10, 1), (10, 34), (10, 38), (10, 61), (44, 0), (46, 0), (56, 0), (63, 0)] [(10, 39), (10, 40), (10, 59), (85, 0), (87, 0)] 0 mD mE).tr ((am_kp.mono kP rfl).tr (am_kp.si am_kp.rf rfl)))))))
        have f46 : ∀ y, mE.1 46 0 y = if 108 * 16 ≤ y ∧ y < 108 * 16 + 108 then m.1 44 0 (4 + (y - 108 * 16)) else m.1 46 0 y := fun y => by
          show mD.1 46 0 y = _
          rw [g3.row 46 rfl, d3.row 46 rfl]
          show mK.1 46 0 y = _
          rw [b2]
          show (if _ then m1.1 44 0 _ else m1.1 46 0 y) = _
          rw [f44, k1.row 46 rfl]
        have r44 : mF.1 44 0 = m.1 44 0 := by
          show mP.1 44 0 = _
          funext y
          rw [p2]
          by_cases hy : 4 ≤ y ∧ y < 112
          · rw [if_pos hy, f46, if_pos (by omega), show 4 + (108 * 16 + (y - 4) - 108 * 16) = y by omega]
          · rw [if_neg hy]
            show mD.1 44 0 y = _
            rw [eD]; exact s3 y (by omega)
        have r46 : ∀ y, y < 1728 → mF.1 46 0 y = m.1 46 0 y := fun y hy => by
          show mP.1 46 0 y = _
          rw [kP.row 46 rfl, f46, if_neg (by omega)]
        have kall : am_kp lvSea [(0, 0), (10, 39), (10, 40), (10, 59), (80, 0), (85, 0), (87, 0)] 2 m mF := (am_kp.mono k1 rfl).tr (am_kp.mono kSF rfl)
        have uF : ∀ u, sm_U mC mF u := fun u => (sm_U.si (m := mC) 9 0 17 0 u (Or.inr (by decide))).tr (sm_U.kp kSF rfl u)
        refine ⟨nI (hst (ssN (m.1 44 0) lw x k).1), m1, mF, cls, ref, Inv0.sea h.1 kall (fun u hu => (aw u hu).1.tr ((c4 u hu).tr (uF u))) (fun u hu => ?_) r44 r46 ?_, ?_, fun j h1 h2 => ?_⟩
        · have e : mF.2.2.2.2.1 = mC.2.2.2.2.1 := by rw [kSF.2.2]; rfl
          have e2 : mC.2.2 = mB.2.2 := c3.2.2
          rw [e, e2]
          exact (aw u hu).2
        · have U2 := c2.2.1.of (uF 2)
          refine Or.inr ⟨n, hn, ?_, ?_, fun j hj => ?_, fun j hj => ?_⟩
          · show mP.1 10 0 61 = _
            rw [kP.fld 10 0 61 rfl]
            show mD.1 44 0 0 = _
            rw [eD, s3 0 (by omega)]; exact e44
          · rw [U2.1, s3 0 (by omega)]; exact e44
          · have e63 : mF.1 63 0 = mD.1 63 0 := by show mP.1 63 0 = _; rw [kP.row 63 rfl]; rfl
            rw [U2.2.2.2.2.2.1 j hj, e63, g2 (3 + j) (by omega), d2]
            exact congrArg (ssN (m.1 44 0) lw x k).1 (by omega)
          · have e63 : mF.1 63 0 = mD.1 63 0 := by show mP.1 63 0 = _; rw [kP.row 63 rfl]; rfl
            rw [U2.2.2.2.2.2.2.1 j hj, e63, g2 (10 + j) (by omega), d2]
            exact congrArg (ssN (m.1 44 0) lw x k).1 (by omega)
        · show mP.1 9 0 17 = 0
          have : mF.1 9 0 17 = m1.1 9 0 17 := kSF.fld 9 0 17 rfl
          exact this
        · have t42 : mF.1 42 0 j = mC.1 42 0 j := by rw [kSF.row 42 rfl]; rfl
          have u42 : mC.1 42 = m.1 42 := by
            rw [c3.row 42 rfl]
            show mA.1 42 = _
            exact kA.row 42 rfl
          rw [t42, u42, kall.row 43 rfl]
          exact h.2.2 j h1 h2
    · refine op_refuse h 1 (by decide) (by decide) ?_ ?_
      · show fn_X9_seasons a b m = _
        unfold fn_X9_seasons
        rw [if_neg (an_nn H1.1), if_neg (fun z => (fa_of_lt z).2.1 H1.2)]
        by_cases b1 : b < 1
        · rw [if_pos b1]; rfl
        · rw [if_neg b1, if_neg (fun z => H2 ⟨fa_of_nlt b1, z⟩)]; rfl
      · show fn_X10_seasons a b _ = _
        unfold fn_X10_seasons
        rw [hi1, if_pos H1, bd_s, if_neg (by decide), hi2, if_neg H2, bd_s, if_neg (by decide)]
        rfl
  · refine op_refuse h 1 (by decide) (by decide) ?_ ?_
    · show fn_X9_seasons a b m = _
      unfold fn_X9_seasons
      by_cases a0 : a < 0
      · rw [if_pos a0]; rfl
      · rw [if_neg a0, if_pos (fa_of_nle (fun z => H1 ⟨fa_of_nlt a0, z⟩))]; rfl
    · show fn_X10_seasons a b _ = _
      unfold fn_X10_seasons
      rw [hi1, if_neg H1, bd_s, if_pos rfl]
      rfl
end SO
