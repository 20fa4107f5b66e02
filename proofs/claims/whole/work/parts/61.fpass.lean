/-! feast and pass as deeds -/
def feastA (lw : lw_T) (a : Int32) (σ : DS) : Int32 × DS := if ¬ (0 ≤ a ∧ a ≤ 127) then (-1, σ) else if ¬ nv a < 2 ^ nv (σ.1 0) then (-2, σ) else if tb (rowOf (nv (σ.1 0)) (mtx σ.1 lw)) (nv (σ.1 0)) (nv a) = false then (-3, σ) else (nI (pc (nv a)), remA σ 1 (feastS σ.1 lw (nv a)))
def passA (lw : lw_T) (σ : DS) : Int32 × DS := if σ.1 4 = 999 then (-3, σ) else (nI (hst (passS σ.1 lw)), remA σ 3 (passS σ.1 lw))
/-- the judge looks at the upland that is, by that LAW -/
def jq (lw : lw_T) (m : am_m) : Prop := m.2.2.1 0 = some 0 ∧ jd_law m lw
section FP
variable {m : am_m} {lw : lw_T} {σ : DS} {r : Nat → Int32}
theorem jq.x (h : jq lw m) (hU : iv_U m 0 r) (hW : iv_W 999 r) : jdx 999 0 r lw m := ⟨h.1, hU, hW, h.2⟩
theorem jq.kp {m' : am_m} {WI WL : List (Nat × Nat)} (h : jq lw m) (k : am_kp WI WL 0 m m') (hw : (WI.all (fun q => !Nat.beq q.1 5) && (!am_hit WI 28 0 && !am_hit WI 29 0)) = true) : jq lw m' := by
  refine ⟨?_, h.2.kp k hw⟩
  have ee : m'.2.2 = m.2.2 := k.2.2
  rw [ee]; exact h.1
theorem free_step {z : Nat} {w s : Int32} {r' : Nat → Int32} (n : Nat) (h5 : r' 5 = r 5) (h6 : r' 6 = r 6) (h14 : ∀ k, 14 ≤ k → r' k = r k) : iv_step n (fun i => r (4 + i)) (fun i => r' (4 + i)) (dR z 0 0 w s r) := by
  refine ⟨h5.symm, h6.symm, rfl, fun k hk => ?_, fun p q hp hq => ?_⟩
  · show dR z 0 0 w s r (6 + k) = r (4 + (3 + k))
    unfold dR
    rw [if_neg (by omega), if_neg (by omega), if_neg (by omega), if_neg (by omega), if_neg (by omega), if_neg (by omega), Nat.add_sub_cancel_left]
    congr 1
    omega
  · rw [if_neg]
    · exact ⟨(h14 _ (by omega)).symm, fun _ => (h14 _ (by omega)).symm⟩
    · intro z1
      have a1 : (0 : Int32) = nI p := z1.1
      have a2 : (0 : Int32) = nI q := z1.2.1
      have b1 : 0 = p := (nI_eq (a := 0) (by decide) (by omega)).mp a1
      have b2 : 0 = q := (nI_eq (a := 0) (by decide) (by omega)).mp a2
      exact z1.2.2.2.2 (by omega)
theorem w00 : fn_X8_weightOf 0 0 0 m = some 0 ∧ fn_X8_sinceOf 0 0 0 m = some 0 := by
  have e : fn_X8_hasTwo 0 0 0 m = some 0 := by
    unfold fn_X8_hasTwo
    by_cases h : m.1 8 0 0 ≤ 0
    · rw [if_neg (by decide), if_pos h]
    · rw [if_neg (by decide), if_neg h, if_neg (by decide), if_neg h, if_pos rfl]
  unfold fn_X8_weightOf fn_X8_sinceOf
  rw [e, bd_s, if_pos rfl, bd_s, if_pos rfl]
  exact ⟨rfl, rfl⟩
theorem passS_14 {k : Nat} (h7 : nv (r 0) ≤ 7) (hk : 14 ≤ k ∨ (k < 7 ∧ k ≠ 4)) : passS r lw k = r k := by
  unfold passS dayS
  rw [if_neg (by omega), fedI_out (by omega)]
theorem feastS_14 {k s : Nat} (h7 : nv (r 0) ≤ 7) (hk : 14 ≤ k ∨ k < 7) : feastS r lw s k = r k := by
  unfold feastS
  rw [fedI_out (by omega)]
theorem c_feast (a : Int32) (h : cWd σ m) (hj : jq lw m) : ∃ m', fn_X9_doFeast a m = some ((feastA lw a σ).1, m') ∧ cWd (feastA lw a σ).2 m' ∧ jq lw m' ∧ (∀ u, u ≠ 0 → sm_U m m' u) := by
  obtain ⟨hU, hW, hH⟩ := h
  have h7 := hW.n7
  have h128 := pw_le h7
  have e8 : m.1 8 0 0 = nI (nv (σ.1 0)) := hU.1.trans hW.r0
  have same : ∀ u, u ≠ 0 → sm_U m m u := fun u _ => ⟨rfl, rfl, rfl, rfl, rfl, rfl⟩
  unfold fn_X9_doFeast feastA
  by_cases a0 : a < 0
  · rw [if_pos a0, if_pos (fun z => (fa_of_lt a0).2.1 z.1)]; exact ⟨m, rfl, ⟨hU, hW, hH⟩, hj, same⟩
  rw [if_neg a0]
  by_cases a1 : a ≤ 127
  · obtain ⟨s, hs31, rfl⟩ := nI_of a0
    have hs : s < 128 := by have := (nI_leI (b := 127) hs31 (by decide)).mp a1; omega
    rw [if_pos a1, if_neg (fun z => z ⟨fa_of_nlt a0, a1⟩), hasSet_ok e8 h7, bd_s, nv_nI hs31]
    by_cases h2 : s < 2 ^ nv (σ.1 0)
    · rw [if_pos (show 0 ≤ nI s ∧ nI s < nI (2 ^ nv (σ.1 0)) from ⟨fa_of_nlt a0, nI_lt h2 (by omega)⟩), if_pos (show (1 : Int32) ≠ 0 by decide), if_neg (fun z => z h2)]
      obtain ⟨m1, e1, j1, k1⟩ := cjtable_ok (hj.x hU hW) (by decide) h2
      rw [e1, bd_s]
      cases ht : tb (rowOf (nv (σ.1 0)) (mtx σ.1 lw)) (nv (σ.1 0)) s with
      | false =>
        rw [if_neg (show ¬ bv false ≠ 0 by decide), if_pos rfl]
        exact ⟨m1, rfl, ⟨j1.2.1, hW, hH.of (k1.fld 3 0 1 rfl) (k1.row 24 rfl)⟩, hj.kp k1 rfl, fun u _ => sm_U.kp k1 rfl u⟩
      | true =>
        rw [if_pos (show bv true ≠ 0 by decide), if_neg (by decide)]
        obtain ⟨m2, e2, q2⟩ := keep_ok (m := m1) (z := 1) (a := 0) (b := 0) (hH.of (k1.fld 3 0 1 rfl) (k1.row 24 rfl)) j1.2.1 hW (by decide) w00.1 w00.2
        have k2 := kp_X3_keep _ _ _ _ _ _ _ e2
        have e2 : fn_X3_keep 0 1 0 0 0 m1 = some m2 := e2
        have jq2 := (hj.kp k1 rfl).kp k2 rfl
        have U2 : iv_U m2 0 σ.1 := j1.2.1.of (sm_U.kp k2 rfl 0)
        obtain ⟨m3, e3, a3, U3, l3, u3⟩ := cfeed_ok (jq2.x U2 hW) (by decide) hs
        have k3 := kp_X1_feedTable _ _ _ e3
        rw [e2, bd_s, e3, bd_s, bc_ok hs, bd_s]
        refine ⟨m3, rfl, ⟨U3, feastS_W hW, ?_⟩, ⟨a3, l3⟩, fun u hu => (sm_U.kp k1 rfl u).tr ((sm_U.kp k2 rfl u).tr (u3 u hu))⟩
        exact q2 _ (fun k hk => feastS_14 h7 (by omega)) (free_step _ (feastS_14 h7 (by omega)) (feastS_14 h7 (by omega)) (fun k hk => feastS_14 h7 (by omega))) m3 (k3.fld 3 0 1 rfl) (by rw [k3.row 24 rfl])
    · rw [if_neg (show ¬ (0 ≤ nI s ∧ nI s < nI (2 ^ nv (σ.1 0))) from fun z => h2 ((nI_ltI hs31 (by omega)).mp z.2)), if_neg (show ¬ (0 : Int32) ≠ 0 by decide), if_pos h2]
      exact ⟨m, rfl, ⟨hU, hW, hH⟩, hj, same⟩
  · rw [if_neg a1, if_pos (fun z => a1 z.2)]; exact ⟨m, rfl, ⟨hU, hW, hH⟩, hj, same⟩
theorem c_pass (h : cWd σ m) (hj : jq lw m) : ∃ m', fn_X9_doPass m = some ((passA lw σ).1, m') ∧ cWd (passA lw σ).2 m' ∧ jq lw m' ∧ (∀ u, u ≠ 0 → sm_U m m' u) := by
  obtain ⟨hU, hW, hH⟩ := h
  have h7 := hW.n7
  have e4 : m.1 39 0 0 = σ.1 4 := hU.2.2.2.2.1 0 (by decide)
  have w4 := hW.k (k := 4) (by decide) (by decide)
  have d4 := hW.2.2.2.2.2.1
  have same : ∀ u, u ≠ 0 → sm_U m m u := fun u _ => ⟨rfl, rfl, rfl, rfl, rfl, rfl⟩
  unfold fn_X9_doPass passA
  rw [e4]
  by_cases h9 : σ.1 4 = 999
  · rw [if_neg (by rw [h9]; decide), if_pos h9]; exact ⟨m, rfl, ⟨hU, hW, hH⟩, hj, same⟩
  · have lt9 : nv (σ.1 4) < 999 := by
      by_cases z : nv (σ.1 4) = 999
      · rw [z] at w4; exact absurd w4 h9
      · omega
    rw [if_pos (by rw [w4]; exact nI_lt (b := 999) lt9 (by decide)), if_neg h9]
    obtain ⟨m2, e2, q2⟩ := keep_ok (m := m) (z := 3) (a := 0) (b := 0) hH hU hW (by decide) w00.1 w00.2
    have k2 := kp_X3_keep _ _ _ _ _ _ _ e2
    have e2 : fn_X3_keep 0 3 0 0 0 m = some m2 := e2
    have U2 : iv_U m2 0 σ.1 := hU.of (sm_U.kp k2 rfl 0)
    obtain ⟨m3, e3, a3, U3, l3, u3⟩ := cpass_ok ((hj.kp k2 rfl).x U2 hW) (by decide)
    have k3 := kp_X1_passDay _ _ e3
    have W3 : iv_W 999 (passS σ.1 lw) := passS_W hW (Nat.le_refl _) (by omega) (by decide)
    rw [e2, bd_s, e3, bd_s, cstarving_ok U3 W3, bd_s]
    refine ⟨m3, rfl, ⟨U3, W3, ?_⟩, ⟨a3, l3⟩, fun u hu => (sm_U.kp k2 rfl u).tr (u3 u hu)⟩
    refine q2 _ (fun k hk => passS_14 h7 (by omega)) (free_step _ (passS_14 h7 (by omega)) (passS_14 h7 (by omega)) (fun k hk => passS_14 h7 (by omega))) m3 (k3.fld 3 0 1 rfl) (by rw [k3.row 24 rfl])
theorem r_feast (a : Int32) (hW : iv_W 999 σ.1) (hK : σ.2.1 ≤ 16) (hl : rf_law σ.1 lw) (h20 : m.1 10 0 20 = 0) (h : rWd σ m) : ∃ m', fn_X10_feastNow a m = some ((feastA lw a σ).1, m') ∧ rWd (feastA lw a σ).2 m' := by
  obtain ⟨h44, hH⟩ := h
  have h7 := hW.n7
  have h128 := pw_le h7
  have e0 : m.1 44 0 0 = nI (nv (σ.1 0)) := by rw [h44]; exact hW.r0
  have hx : rfx 999 lw m := ⟨by rw [h44]; exact hW, by rw [h44]; exact hl, h20⟩
  unfold fn_X10_feastNow feastA
  rw [isSet_ok, bd_s]
  by_cases ha : 0 ≤ a ∧ a ≤ 127
  · obtain ⟨s, hs31, rfl⟩ := nI_of (an_nn ha.1)
    have hs : s < 128 := by have := (nI_leI (b := 127) hs31 (by decide)).mp ha.2; omega
    rw [if_pos ha, if_pos (show (1 : Int32) ≠ 0 by decide), if_neg (fun z => z ha), nv_nI hs31, areThere_ok e0 h7 hs, bd_s]
    by_cases h2 : s < 2 ^ nv (σ.1 0)
    · rw [decide_eq_true h2, if_pos (show bv true ≠ 0 by decide), if_neg (fun z => z h2)]
      obtain ⟨m1, e1, l1⟩ := layMay_ok hx
      have k1 := kp_X10_layMay _ _ e1
      have r1 : m1.1 44 0 = σ.1 := by rw [k1.row 44 rfl]; exact h44
      rw [h44] at l1
      have R1 := l1.ref h7 (by rw [r1]; exact hW.r0)
      rw [e1, bd_s, rtable_ok R1 h7 hs, bd_s]
      cases ht : tb (rowOf (nv (σ.1 0)) (mtx σ.1 lw)) (nv (σ.1 0)) s with
      | false =>
        rw [if_neg (show ¬ bv false ≠ 0 by decide), if_pos rfl]
        exact ⟨m1, rfl, r1, hH.of (k1.fld 10 0 8 rfl) (k1.row 46 rfl) (k1.row 47 rfl)⟩
      | true =>
        rw [if_pos (show bv true ≠ 0 by decide), if_neg (by decide)]
        obtain ⟨m2, e2, q2⟩ := remember_ok (m := m1) (z := 1) (hH.of (k1.fld 10 0 8 rfl) (k1.row 46 rfl) (k1.row 47 rfl)) hK
        have k2 := kp_X10_remember _ _ _ e2
        have e2 : fn_X10_remember 1 m1 = some m2 := e2
        have r2 : m2.1 44 0 = σ.1 := by rw [k2.row 44 rfl]; exact r1
        have x2 : rfx 999 lw m2 := ((hx.kp k1 rfl).kp k2 rfl)
        obtain ⟨m3, e3, r3⟩ := rfeast_ok x2 hs
        have k3 := kp_X10_feastIt _ _ _ e3
        rw [e2, bd_s, e3, bd_s, ones_ok hs, bd_s]
        rw [r1] at q2
        rw [r2] at r3
        exact ⟨m3, rfl, r3, rH.of q2 (k3.fld 10 0 8 rfl) (k3.row 46 rfl) (k3.row 47 rfl)⟩
    · rw [decide_eq_false h2, if_neg (show ¬ bv false ≠ 0 by decide), if_pos h2]
      exact ⟨m, rfl, h44, hH⟩
  · rw [if_neg ha, if_neg (show ¬ (0 : Int32) ≠ 0 by decide), if_pos ha]
    exact ⟨m, rfl, h44, hH⟩
theorem r_pass (hW : iv_W 999 σ.1) (hK : σ.2.1 ≤ 16) (hl : rf_law σ.1 lw) (h20 : m.1 10 0 20 = 0) (h : rWd σ m) : ∃ m', fn_X10_passNow m = some ((passA lw σ).1, m') ∧ rWd (passA lw σ).2 m' := by
  obtain ⟨h44, hH⟩ := h
  have h7 := hW.n7
  have w4 := hW.k (k := 4) (by decide) (by decide)
  have d4 := hW.2.2.2.2.2.1
  have hx : rfx 999 lw m := ⟨by rw [h44]; exact hW, by rw [h44]; exact hl, h20⟩
  unfold fn_X10_passNow passA
  rw [h44]
  by_cases h9 : σ.1 4 = 999
  · rw [if_neg (fun z => z h9), if_pos h9]; exact ⟨m, rfl, h44, hH⟩
  · have lt9 : nv (σ.1 4) < 999 := by
      by_cases z : nv (σ.1 4) = 999
      · rw [z] at w4; exact absurd w4 h9
      · omega
    rw [if_pos h9, if_neg h9]
    obtain ⟨m2, e2, q2⟩ := remember_ok (m := m) (z := 3) hH hK
    have k2 := kp_X10_remember _ _ _ e2
    have e2 : fn_X10_remember 3 m = some m2 := e2
    have r2 : m2.1 44 0 = σ.1 := by rw [k2.row 44 rfl]; exact h44
    obtain ⟨m3, e3, r3⟩ := rpass_ok (hx.kp k2 rfl)
    have k3 := kp_X10_passIt _ _ e3
    rw [r2] at r3
    rw [h44] at q2
    have W3 : iv_W 999 (passS σ.1 lw) := passS_W hW (Nat.le_refl _) (by omega) (by decide)
    rw [e2, bd_s, e3, bd_s, starving_ok (D := 999) (by rw [r3]; exact W3), bd_s, r3]
    exact ⟨m3, rfl, r3, rH.of q2 (k3.fld 10 0 8 rfl) (k3.row 46 rfl) (k3.row 47 rfl)⟩
theorem feastA_ok (a : Int32) (hW : iv_W 999 σ.1) : an_ok (feastA lw a σ).1 ∧ keepR σ.1 (feastA lw a σ).2.1 := by
  have h7 := hW.n7
  have hp := pc_le (nv a)
  unfold feastA
  by_cases h1 : 0 ≤ a ∧ a ≤ 127
  · rw [if_neg (fun z => z h1)]
    by_cases h2 : nv a < 2 ^ nv (σ.1 0)
    · rw [if_neg (fun z => z h2)]
      by_cases h3 : tb (rowOf (nv (σ.1 0)) (mtx σ.1 lw)) (nv (σ.1 0)) (nv a) = false
      · rw [if_pos h3]; exact ⟨an_no 3 (by decide) (by decide), keepR.rf⟩
      · rw [if_neg h3]; exact ⟨Or.inl (nI_pos' (by omega)), fun k hk => feastS_14 h7 (by omega)⟩
    · rw [if_pos h2]; exact ⟨an_no 2 (by decide) (by decide), keepR.rf⟩
  · rw [if_pos h1]; exact ⟨an_no 1 (by decide) (by decide), keepR.rf⟩
theorem hst_le (h7 : nv (r 0) ≤ 7) : hst r ≤ 7 := by
  unfold hst
  exact Nat.le_trans (fb_ct_le _ _) h7
theorem passA_ok (hW : iv_W 999 σ.1) : an_ok (passA lw σ).1 ∧ keepR σ.1 (passA lw σ).2.1 := by
  have h7 := hW.n7
  unfold passA
  by_cases h9 : σ.1 4 = 999
  · rw [if_pos h9]; exact ⟨an_no 3 (by decide) (by decide), keepR.rf⟩
  · rw [if_neg h9]
    have := hst_le (r := passS σ.1 lw) (by rw [passS_14 h7 (by omega)]; exact h7)
    exact ⟨Or.inl (nI_pos' (by omega)), fun k hk => passS_14 h7 (by omega)⟩
theorem cWd.kp {m' : am_m} {WI WL : List (Nat × Nat)} {E : Nat} (h : cWd σ m) (k : am_kp WI WL E m m') (hw : (WI.all (fun q => !Nat.beq q.1 8) && (!am_hit WI 36 0 && (!am_hit WI 37 0 && (!am_hit WI 38 0 && (!am_hit WI 39 0 && !am_hit WI 40 0))))) = true) (hw2 : (am_hit WI 3 1 || am_hit WI 24 0) = false) : cWd σ m' := by
  rw [Bool.or_eq_false_iff] at hw2
  exact ⟨h.1.of (sm_U.kp k hw 0), h.2.1, h.2.2.of (k.fld 3 0 1 hw2.1) (k.row 24 (by rw [hw2.2]; rfl))⟩
theorem op_feast (h : Inv m) (a : Int32) : op_ok m (fun m => fn_X9_feast a m) (fun m => fn_X10_feast a m) := by
  obtain ⟨lw, m0, e0, j0, f0, k0, l0⟩ := askLive_ok h
  have hlaw : ∀ σ : DS, σ.1 = m.1 44 0 → rf_law σ.1 lw := fun σ e => l0 σ.1 (by rw [e]) (fun k _ => by rw [e])
  have := op_act (F := fun m => (fn_X9_askLive m).bind fun r1 => fn_X9_doFeast a r1) (G := fn_X10_feastNow a) (A := feastA lw a) h (fun σ e w => ?_) (fun σ m1 e w w1 h20 => ?_) (fun σ e w => feastA_ok a w.2.1)
  · obtain ⟨r, m1, m2, g1, g2, g3⟩ := this
    refine ⟨r, m1, m2, ?_, g2, g3⟩
    rw [← g1]
    show fn_X9_feast a m = ((fn_X9_askLive m).bind fun r1 => fn_X9_doFeast a r1).bind _
    unfold fn_X9_feast
    rw [e0]
    rfl
  · obtain ⟨m', e1, e2, e3, e4⟩ := c_feast (lw := lw) a (w.kp k0 rfl rfl) ⟨j0.1, j0.2.2.2⟩
    have k1 := kp_X9_doFeast _ _ _ e1
    refine ⟨m', ?_, e2, fun u hu => (sm_U.kp k0 rfl u).tr (e4 u hu), am_kp.tr (am_kp.mono k0 rfl) (am_kp.mono k1 rfl)⟩
    show (fn_X9_askLive m).bind _ = _
    rw [e0, bd_s, e1]
  · obtain ⟨m', e1, e2⟩ := r_feast a w.2.1 w.2.2.1 (hlaw σ e) h20 w1
    exact ⟨m', e1, e2, am_kp.mono (kp_X10_feastNow _ _ _ e1) rfl⟩
theorem op_pass (h : Inv m) : op_ok m (fun m => fn_X9_pass m) (fun m => fn_X10_pass m) := by
  obtain ⟨lw, m0, e0, j0, f0, k0, l0⟩ := askLive_ok h
  have hlaw : ∀ σ : DS, σ.1 = m.1 44 0 → rf_law σ.1 lw := fun σ e => l0 σ.1 (by rw [e]) (fun k _ => by rw [e])
  have := op_act (F := fun m => (fn_X9_askLive m).bind fun r1 => fn_X9_doPass r1) (G := fn_X10_passNow) (A := passA lw) h (fun σ e w => ?_) (fun σ m1 e w w1 h20 => ?_) (fun σ e w => passA_ok w.2.1)
  · obtain ⟨r, m1, m2, g1, g2, g3⟩ := this
    refine ⟨r, m1, m2, ?_, g2, g3⟩
    rw [← g1]
    show fn_X9_pass m = ((fn_X9_askLive m).bind fun r1 => fn_X9_doPass r1).bind _
    unfold fn_X9_pass
    rw [e0]
    rfl
  · obtain ⟨m', e1, e2, e3, e4⟩ := c_pass (lw := lw) (w.kp k0 rfl rfl) ⟨j0.1, j0.2.2.2⟩
    have k1 := kp_X9_doPass _ _ e1
    refine ⟨m', ?_, e2, fun u hu => (sm_U.kp k0 rfl u).tr (e4 u hu), am_kp.tr (am_kp.mono k0 rfl) (am_kp.mono k1 rfl)⟩
    show (fn_X9_askLive m).bind _ = _
    rw [e0, bd_s, e1]
  · obtain ⟨m', e1, e2⟩ := r_pass w.2.1 w.2.2.1 (hlaw σ e) h20 w1
    exact ⟨m', e1, e2, am_kp.mono (kp_X10_passNow _ _ e1) rfl⟩
end FP
