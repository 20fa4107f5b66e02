/-! orders: the reference runs what was read -/
def rRun (r15 : am_m) : Option (Int32 × am_m) := (fn_X10_keepAll 17 r15).bind fun r18 => (lp_X10_orders_77 1000000 (r18.1 10 0 8) 0 r18).bind fun q23 => (lp_X10_orders_104 1000000 (r18.1 10 0 8) 0 q23).bind fun q28 => (lp_X10_orders_140 1000000 (r18.1 10 0 8) 0 (am_si (am_si q28 10 0 55 0) 10 0 56 (-1))).bind fun w49 => (match w49 with
    | .inl q44 => (fn_X10_tell (q44.1 10 0 55) q44).bind fun r46 => some (r46.1, r46.2)
    | .inr rr48 => some rr48)
abbrev lvRq : List (Nat × Nat) := [(10, 8), (10, 20), (10, 34), (10, 38), (10, 55), (10, 56), (10, 57), (10, 58), (44, 0), (46, 0), (47, 0), (48, 0), (49, 0), (56, 0), (62, 0), (92, 0), (93, 0)]
section OK
variable {m : am_m} {lw : lw_T} {K aw : Nat} {zs : Nat → oz_T} {σ : DS}
theorem o77 (x1 : Int32) (m : am_m) : ∃ m1, lp_X10_orders_77 1000000 x1 0 m = some m1 ∧ ((∀ x, m1.1 48 0 x = if x < 1728 then m.1 46 0 x else m.1 48 0 x) ∧ am_kp [(48, 0)] [] 0 m m1) := by
  refine lp_up0 (fun N x a => lp_X10_orders_77 N x1 x a) (fun i m1 => (∀ x, m1.1 48 0 x = if x < i then m.1 46 0 x else m.1 48 0 x) ∧ am_kp [(48, 0)] [] 0 m m1) (fun m1 => (∀ x, m1.1 48 0 x = if x < 1728 then m.1 46 0 x else m.1 48 0 x) ∧ am_kp [(48, 0)] [] 0 m m1) 1728 (by decide) (fun N m1 hh => ⟨m1, ?_, hh⟩) (fun N i m1 hi hh => Or.inl ⟨am_si m1 48 0 i (m.1 46 0 i), ?_, fun x => ?_, am_kp.si hh.2 rfl⟩) m ⟨fun x => (if_neg (Nat.not_lt_zero _)).symm, am_kp.rf⟩
  · show lp_X10_orders_77 (N + 1) x1 (nI 1728) m1 = _
    rw [lp_X10_orders_77.eq_2, if_pos (by decide)]
  · show lp_X10_orders_77 (N + 1) x1 (nI i) m1 = lp_X10_orders_77 N x1 (nI (i + 1)) _
    rw [lp_X10_orders_77.eq_2, if_neg (show ¬ (1728 : Int32) ≤ nI i from nI_ge (b := 1728) hi (by decide)), ck_in (show i < 1944 by omega) (by decide), ck_in hi (by decide), nI_clamp (by omega), nI_1, hh.2.row 46 rfl]
  · rw [rd_j, hh.1]
    by_cases e : x = i
    · rw [if_pos e, if_pos (by omega), e]
    · rw [if_neg e]
      exact if_iff (by omega)
theorem o104 (x1 : Int32) (m : am_m) : ∃ m1, lp_X10_orders_104 1000000 x1 0 m = some m1 ∧ ((∀ x, m1.1 49 0 x = if x < 16 then m.1 47 0 x else m.1 49 0 x) ∧ am_kp [(49, 0)] [] 0 m m1) := by
  refine lp_up0 (fun N x a => lp_X10_orders_104 N x1 x a) (fun i m1 => (∀ x, m1.1 49 0 x = if x < i then m.1 47 0 x else m.1 49 0 x) ∧ am_kp [(49, 0)] [] 0 m m1) (fun m1 => (∀ x, m1.1 49 0 x = if x < 16 then m.1 47 0 x else m.1 49 0 x) ∧ am_kp [(49, 0)] [] 0 m m1) 16 (by decide) (fun N m1 hh => ⟨m1, ?_, hh⟩) (fun N i m1 hi hh => Or.inl ⟨am_si m1 49 0 i (m.1 47 0 i), ?_, fun x => ?_, am_kp.si hh.2 rfl⟩) m ⟨fun x => (if_neg (Nat.not_lt_zero _)).symm, am_kp.rf⟩
  · show lp_X10_orders_104 (N + 1) x1 (nI 16) m1 = _
    rw [lp_X10_orders_104.eq_2, if_pos (by decide)]
  · show lp_X10_orders_104 (N + 1) x1 (nI i) m1 = lp_X10_orders_104 N x1 (nI (i + 1)) _
    rw [lp_X10_orders_104.eq_2, if_neg (show ¬ (16 : Int32) ≤ nI i from nI_ge (b := 16) hi (by decide)), ck_in hi (by decide), ck_in hi (by decide), nI_clamp (by omega), nI_1, hh.2.row 47 rfl]
  · rw [rd_j, hh.1]
    by_cases e : x = i
    · rw [if_pos e, if_pos (by omega), e]
    · rw [if_neg e]
      exact if_iff (by omega)
theorem gb8 (x1 : Int32) (m : am_m) : ∃ m1, lp_X10_giveBack_8 1000000 x1 0 m = some m1 ∧ ((∀ x, m1.1 46 0 x = if x < 1728 then m.1 48 0 x else m.1 46 0 x) ∧ am_kp [(46, 0)] [] 0 m m1) := by
  refine lp_up0 (fun N x a => lp_X10_giveBack_8 N x1 x a) (fun i m1 => (∀ x, m1.1 46 0 x = if x < i then m.1 48 0 x else m.1 46 0 x) ∧ am_kp [(46, 0)] [] 0 m m1) (fun m1 => (∀ x, m1.1 46 0 x = if x < 1728 then m.1 48 0 x else m.1 46 0 x) ∧ am_kp [(46, 0)] [] 0 m m1) 1728 (by decide) (fun N m1 hh => ⟨m1, ?_, hh⟩) (fun N i m1 hi hh => Or.inl ⟨am_si m1 46 0 i (m.1 48 0 i), ?_, fun x => ?_, am_kp.si hh.2 rfl⟩) m ⟨fun x => (if_neg (Nat.not_lt_zero _)).symm, am_kp.rf⟩
  · show lp_X10_giveBack_8 (N + 1) x1 (nI 1728) m1 = _
    rw [lp_X10_giveBack_8.eq_2, if_pos (by decide)]
  · show lp_X10_giveBack_8 (N + 1) x1 (nI i) m1 = lp_X10_giveBack_8 N x1 (nI (i + 1)) _
    rw [lp_X10_giveBack_8.eq_2, if_neg (show ¬ (1728 : Int32) ≤ nI i from nI_ge (b := 1728) hi (by decide)), ck_in hi (by decide), ck_in (show i < 1944 by omega) (by decide), nI_clamp (by omega), nI_1, hh.2.row 48 rfl]
  · rw [rd_j, hh.1]
    by_cases e : x = i
    · rw [if_pos e, if_pos (by omega), e]
    · rw [if_neg e]
      exact if_iff (by omega)
theorem gb35 (x1 : Int32) (m : am_m) : ∃ m1, lp_X10_giveBack_35 1000000 x1 0 m = some m1 ∧ ((∀ x, m1.1 47 0 x = if x < 16 then m.1 49 0 x else m.1 47 0 x) ∧ am_kp [(47, 0)] [] 0 m m1) := by
  refine lp_up0 (fun N x a => lp_X10_giveBack_35 N x1 x a) (fun i m1 => (∀ x, m1.1 47 0 x = if x < i then m.1 49 0 x else m.1 47 0 x) ∧ am_kp [(47, 0)] [] 0 m m1) (fun m1 => (∀ x, m1.1 47 0 x = if x < 16 then m.1 49 0 x else m.1 47 0 x) ∧ am_kp [(47, 0)] [] 0 m m1) 16 (by decide) (fun N m1 hh => ⟨m1, ?_, hh⟩) (fun N i m1 hi hh => Or.inl ⟨am_si m1 47 0 i (m.1 49 0 i), ?_, fun x => ?_, am_kp.si hh.2 rfl⟩) m ⟨fun x => (if_neg (Nat.not_lt_zero _)).symm, am_kp.rf⟩
  · show lp_X10_giveBack_35 (N + 1) x1 (nI 16) m1 = _
    rw [lp_X10_giveBack_35.eq_2, if_pos (by decide)]
  · show lp_X10_giveBack_35 (N + 1) x1 (nI i) m1 = lp_X10_giveBack_35 N x1 (nI (i + 1)) _
    rw [lp_X10_giveBack_35.eq_2, if_neg (show ¬ (16 : Int32) ≤ nI i from nI_ge (b := 16) hi (by decide)), ck_in hi (by decide), ck_in hi (by decide), nI_clamp (by omega), nI_1, hh.2.row 49 rfl]
  · rw [rd_j, hh.1]
    by_cases e : x = i
    · rw [if_pos e, if_pos (by omega), e]
    · rw [if_neg e]
      exact if_iff (by omega)
theorem giveBack_ok (had : Int32) (m : am_m) : ∃ m', fn_X10_giveBack had m = some m' ∧ (∀ x, m'.1 44 0 x = if 4 ≤ x ∧ x < 112 then m.1 46 0 (1836 + (x - 4)) else m.1 44 0 x) ∧ (∀ x, x < 1728 → m'.1 46 0 x = m.1 48 0 x) ∧ (∀ x, x < 16 → m'.1 47 0 x = m.1 49 0 x) ∧ m'.1 10 0 8 = had := by
  obtain ⟨r1, e1, q1⟩ := putBack_ok (m := m) (K := 17) (by decide)
  have k1 := kp_X10_putBack _ _ _ e1
  obtain ⟨q6, e2, q2, k2⟩ := gb8 had r1
  obtain ⟨q11, e3, q3, k3⟩ := gb35 had q6
  refine ⟨am_si q11 10 0 8 had, ?_, fun x => ?_, fun x hx => ?_, fun x hx => ?_, rfl⟩
  · unfold fn_X10_giveBack
    rw [show fn_X10_putBack 17 m = _ from e1, bd_s, e2, bd_s, e3, bd_s]
  · show q11.1 44 0 x = _
    rw [k3.row 44 rfl, k2.row 44 rfl, q1]
  · show q11.1 46 0 x = _
    rw [k3.row 46 rfl, q2, if_pos hx, k1.row 48 rfl]
  · show q11.1 47 0 x = _
    rw [q3, if_pos hx, k2.row 49 rfl, k1.row 49 rfl]
def rrR2 (zs : Nat → oz_T) (lw : lw_T) (σ : DS) (K : Nat) (r15 : am_m) (v : Int32) (q : am_m) : Prop := match oAll lw zs K 0 (σ, 0, -1) with
  | .inr S' => v = S'.2.1 ∧ rWd S'.1 q ∧ q.1 10 0 57 = r15.1 10 0 57
  | .inl j => v = -3 ∧ rWd σ q ∧ q.1 10 0 57 = nI j
theorem r_run {r15 : am_m} (hw : rWd σ r15) (h20 : r15.1 10 0 20 = 0) (hI : dsI σ) (hs : rSc K zs r15) (hz : ∀ i, i < K → ozd aw (zs i)) (hl : ∀ r' : Nat → Int32, keepR σ.1 r' → rf_law r' lw) (ha : ∀ S', oAll lw zs K 0 (σ, 0, -1) = .inr S' → an_ok S'.2.1) : ∃ v q, rRun r15 = some (v, st_10 v q) ∧ am_kp lvRq lvRrL 0 r15 q ∧ q.1 10 0 20 = 0 ∧ rrR2 zs lw σ K r15 v q := by
  obtain ⟨r18, e1, q1⟩ := keepAll_ok (m := r15) (K := 17) (by decide)
  have k1 := kp_X10_keepAll _ _ _ e1
  obtain ⟨q23, e2, q2, k2⟩ := o77 (r18.1 10 0 8) r18
  obtain ⟨q28, e3, q3, k3⟩ := o104 (r18.1 10 0 8) q23
  have h8 : r18.1 10 0 8 = nI σ.2.1 := (k1.fld 10 0 8 rfl).trans hw.2.1
  have hK0 : σ.2.1 ≤ 16 := hI.2
  have k4 : am_kp [(10, 55), (10, 56)] [] 0 q28 (am_si (am_si q28 10 0 55 0) 10 0 56 (-1)) := am_kp.si (am_kp.si am_kp.rf rfl) rfl
  have kA : am_kp lvRq lvRrL 0 r15 (am_si (am_si q28 10 0 55 0) 10 0 56 (-1)) := (am_kp.mono k1 rfl).tr ((am_kp.mono k2 rfl).tr ((am_kp.mono k3 rfl).tr (am_kp.mono k4 rfl)))
  have kB : am_kp [(10, 55), (10, 56), (48, 0), (49, 0)] [] 0 r18 (am_si (am_si q28 10 0 55 0) 10 0 56 (-1)) := (am_kp.mono k2 rfl).tr ((am_kp.mono k3 rfl).tr (am_kp.mono k4 rfl))
  generalize eM : am_si (am_si q28 10 0 55 0) 10 0 56 (-1) = M at kA kB k4
  have M44 : M.1 44 0 = σ.1 := by rw [kB.row 44 rfl, k1.row 44 rfl]; exact hw.1
  have M46 : ∀ x, M.1 46 0 x = if 108 * 17 ≤ x ∧ x < 108 * 17 + 108 then r15.1 44 0 (4 + (x - 108 * 17)) else r15.1 46 0 x := fun x => by rw [kB.row 46 rfl, q1]
  have M8 : M.1 10 0 8 = nI σ.2.1 := by rw [kB.fld 10 0 8 rfl]; exact h8
  have M48 : ∀ x, x < 1728 → M.1 48 0 x = r15.1 46 0 x := fun x hx => by
    rw [k4.row 48 rfl, k3.row 48 rfl, q2, if_pos hx, q1, if_neg (by omega)]
  have M49 : ∀ x, x < 16 → M.1 49 0 x = r15.1 47 0 x := fun x hx => by
    rw [k4.row 49 rfl, q3, if_pos hx, k2.row 47 rfl, k1.row 47 rfl]
  have MQ : rQ K zs (σ, 0, -1) M := by
    refine ⟨⟨M44, M8, fun x hx => ?_, fun j hj => ?_⟩, by rw [kB.fld 10 0 20 rfl, k1.fld 10 0 20 rfl]; exact h20, by rw [← eM]; rfl, by rw [← eM]; rfl, hs.kp kA rfl⟩
    · rw [M46, if_neg (by show ¬ (108 * 17 ≤ x ∧ x < 108 * 17 + 108); have hx : x < 108 * σ.2.1 := hx; omega)]
      exact hw.2.2.1 x hx
    · rw [kB.row 47 rfl, k1.row 47 rfl]
      exact hw.2.2.2 j hj
  have oi : oI 0 σ.1 (σ, 0, -1) := ⟨⟨⟨0, Nat.le_refl _, rfl⟩, Or.inl rfl, hI.1⟩, hI.2, keepR.rf⟩
  have h12 : K ≤ 12 := hs.2.1
  have all := r_all (had := r18.1 10 0 8) hl hz K 0 0 1000000 (σ, 0, -1) M (by omega) (by omega) MQ oi
  have head : rRun r15 = ((lp_X10_orders_140 1000000 (r18.1 10 0 8) (nI 0) M).bind fun w49 => (match w49 with
    | .inl q44 => (fn_X10_tell (q44.1 10 0 55) q44).bind fun r46 => some (r46.1, r46.2)
    | .inr rr48 => some rr48)) := by
    unfold rRun
    rw [show fn_X10_keepAll 17 r15 = _ from e1, bd_s, e2, bd_s, e3, bd_s, eM]
    rfl
  unfold raR at all
  cases e : oAll lw zs K 0 (σ, 0, -1) with
  | inr S' =>
    rw [e] at all
    obtain ⟨q, g1, g2, g3, g4⟩ := all
    refine ⟨S'.2.1, q, ?_, kA.tr (am_kp.mono g4 rfl), g2.2.1, ?_⟩
    · rw [head, g1, bd_s]
      dsimp only
      rw [g2.2.2.1, tl_ok (ha S' e), bd_s]
    · unfold rrR2
      rw [e]
      refine ⟨rfl, g2.1, ?_⟩
      rw [g4.fld 10 0 57 rfl, kB.fld 10 0 57 rfl, k1.fld 10 0 57 rfl]
  | inl j =>
    rw [e] at all
    obtain ⟨q, g1, g2, g20, g3, g4⟩ := all
    obtain ⟨r36, f1, f2, f3, f4, f5⟩ := giveBack_ok (r18.1 10 0 8) q
    have k36 := kp_X10_giveBack _ _ _ f1
    have s4 := (g3 ⟨σ.2.1, hK0, M8⟩).2
    have kN : am_kp [(10, 57)] [] 0 r36 (am_si r36 10 0 57 (nI j)) := am_kp.si am_kp.rf rfl
    refine ⟨-3, am_si r36 10 0 57 (nI j), ?_, kA.tr ((am_kp.mono g4 rfl).tr ((am_kp.mono k36 rfl).tr (am_kp.mono kN rfl))), ?_, ?_⟩
    · rw [head, g1]
      unfold gBk
      rw [f1, bd_s, tl_ok (show an_ok (-3) from an_no 3 (by decide) (by decide)), bd_s, bd_s]
    · show r36.1 10 0 20 = 0
      rw [k36.fld 10 0 20 rfl]; exact g20
    · unfold rrR2
      rw [e]
      refine ⟨rfl, ⟨funext fun x => ?_, ?_, fun x hx => ?_, fun y hy => ?_⟩, rfl⟩
      · show r36.1 44 0 x = σ.1 x
        rw [f2]
        by_cases c : 4 ≤ x ∧ x < 112
        · rw [if_pos c, s4 _ (by omega), M46, if_pos (by omega), show 4 + (1836 + (x - 4) - 108 * 17) = x by omega, hw.1]
        · rw [if_neg c]; exact g2 x (by omega)
      · show r36.1 10 0 8 = _
        rw [f5]; exact h8
      · show r36.1 46 0 x = _
        rw [f3 x (by omega), g4.row 48 rfl, M48 x (by omega)]
        exact hw.2.2.1 x hx
      · show r36.1 47 0 y = _
        rw [f4 y (by omega), g4.row 49 rfl, M49 y (by omega)]
        exact hw.2.2.2 y hy
end OK
