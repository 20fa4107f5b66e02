/-! law: both answer alike -/
section LP
variable {m m' : am_m}
abbrev lvWh : List (Nat × Nat) := [(4, 4), (4, 5), (4, 6), (4, 7), (4, 8), (4, 9), (4, 10), (5, 2), (5, 3), (5, 4), (7, 1), (25, 0), (26, 0), (27, 0), (28, 0), (29, 0)]
abbrev lvLB : List (Nat × Nat) := (10, 0) :: (10, 1) :: (44, 0) :: lvRE
theorem law_good {T : Nat → Nat} {L n K a2 b2 p2 lv2 aw2 k : Nat} {q14 : am_m} {c2 c2' : rcd} {zs : Nat → cl_T} (h : Inv m) (hk : k < 6) (e44 : m.1 44 0 2 = nI k) (e82 : m.1 8 0 2 = nI k) (mC : am_m) (hmC : mC = am_si (am_si (am_ss (trm m') 0 k (some (m'.2.2.2.2.2.2.2 5))) 8 0 2 (nI (k + 1))) 9 0 17 0) (g1 : fn_X4_readWhole 0 m = some (1, m')) (g2 : rAll fn_X10_readLaw lp_X10_law_37 0 (am_si mC 10 0 0 0) (am_si (am_si q14 10 0 20 0) 10 0 13 0)) (g3 : 1 ≤ K) (g4 : K ≤ 12) (g5 : m'.1 5 0 2 = nI K) (g6 : q14.1 10 0 21 = nI K) (g7 : lks T L n false m' q14 c2 c2' a2 b2 p2 lv2 aw2) (g8 : ∀ i, i < K → lcl c2 c2' a2 b2 aw2 (m'.1 28 0) (q14.1 51 0) i (zs i)) (g10 : q14.1 10 0 18 = -1) : op_ok m (fun m => fn_X9_law m) (fun m => fn_X10_law m) := by
  have kA : am_kp lvWh [] 0 m m' := kp_X4_readWhole _ _ _ g1
  have sA := ks_X4_readWhole _ _ _ g1
  have eA : m'.2.2 = m.2.2 := kA.2.2
  have hA := h.1.2.2.2.2.2.2.2.2.1
  obtain ⟨i1, i2, i3, i4, i5, i6, i7, i8, i9, i10⟩ := hA
  have hs : m'.2.2.2.2.2.2.2 5 = m.2.2.2.2.2.2.2 5 := by rw [eA]
  have s0 : m'.2.2.2.2.2.2.2 5 ≠ 0 := by rw [hs]; omega
  have m82 : m'.1 8 0 2 = nI k := by rw [kA.obj 8 rfl]; exact e82
  have a5 : m'.1 5 0 3 = nI a2 := g7.1.2.1.1
  have hL : L ≤ 400 := g7.1.1.1.1
  have ap := g7.2.2.2.2.2
  have bp : b2 ≤ p2 := g7.2.1.2.2.2.2.2.2
  have pL := g7.2.2.1
  have nK : nv (m'.1 5 0 2) = K := by rw [g5, nv_nI (by omega)]
  have nA : nv (m'.1 5 0 3) = a2 := by rw [a5, nv_nI (by omega)]
  have tg : trm_g m' := ⟨by omega, by rw [nK]; exact g5, by omega, by rw [nA]; exact a5⟩
  -- the class's memory
  have C1 : ∀ c w i, (w ≠ m'.2.2.2.2.2.2.2 5 ∨ (c ≠ 5 ∧ c ≠ 28 ∧ c ≠ 29)) → ¬ (c = 8 ∧ w = 0 ∧ i = 2) → ¬ (c = 9 ∧ w = 0 ∧ i = 17) → mC.1 c w i = m'.1 c w i := fun c w i q1 q2 q3 => by
    rw [hmC, rd_si, if_neg q3, rd_si, if_neg q2]
    show (trm m').1 c w i = _
    rw [trm_I q1]
  have C8 : mC.1 8 0 2 = nI (k + 1) := by
    rw [hmC, rd_si, if_neg (fun z => absurd z.1 (by decide)), rd_si, if_pos ⟨rfl, rfl, rfl⟩]
  have C9 : mC.1 9 0 17 = 0 := by rw [hmC, rd_si, if_pos ⟨rfl, rfl, rfl⟩]
  have Cs : ∀ c i, c ≠ 8 → c ≠ 9 → mC.1 c (m'.2.2.2.2.2.2.2 5) i = (trm m').1 c (m'.2.2.2.2.2.2.2 5) i := fun c i q1 q2 => by
    rw [hmC, rd_si, if_neg (fun z => q2 z.1), rd_si, if_neg (fun z => q1 z.1)]
    rfl
  have CG : ∀ c, c ≠ 5 ∧ c ≠ 28 ∧ c ≠ 29 → mC.2.1 c = m.2.1 c := fun c q => by
    rw [hmC]
    show (trm m').2.1 c = _
    rw [trm_G q]
    funext x y
    exact kA.2.1 c x y rfl
  have CL : ∀ u j, mC.2.2.2.2.1 u j = if u = 0 ∧ j = k then some (m'.2.2.2.2.2.2.2 5) else m.2.2.2.2.1 u j := fun u j => by
    rw [hmC]
    show am_u2 m'.2.2.2.2.1 0 k (some (m'.2.2.2.2.2.2.2 5)) u j = _
    rw [eA]
    unfold am_u2
    by_cases q : u = 0
    · rw [if_pos q]
      by_cases q2 : j = k
      · rw [if_pos q2, if_pos ⟨q, q2⟩]
      · rw [if_neg q2, if_neg (fun z => q2 z.2)]
    · rw [if_neg q, if_neg (fun z => q z.1)]
  have CM : mC.2.2.2.2.2.1 = m.2.2.2.2.2.1 := by rw [hmC]; show m'.2.2.2.2.2.1 = _; rw [eA]
  have CN : ∀ c w, mC.2.2.2.2.2.2.1 c w = if c = 29 ∧ w = m'.2.2.2.2.2.2.2 5 then a2 else if c = 28 ∧ w = m'.2.2.2.2.2.2.2 5 then 6 * K else m.2.2.2.2.2.2.1 c w := fun c w => by
    rw [hmC]
    show (trm m').2.2.2.2.2.2.1 c w = _
    rw [trm_N, nA, nK, eA]
  have CC : ∀ c, mC.2.2.2.2.2.2.2 c = if c = 5 ∨ c = 28 ∨ c = 29 then m.2.2.2.2.2.2.2 5 + 1 else m.2.2.2.2.2.2.2 c := fun c => by
    rw [hmC]
    show (trm m').2.2.2.2.2.2.2 c = _
    rw [trm_C, eA]
  have C44 : mC.1 44 = m.1 44 := by
    funext w i
    rw [C1 44 w i (Or.inr (by decide)) (fun z => absurd z.1 (by decide)) (fun z => absurd z.1 (by decide)), kA.row 44 rfl]
  obtain ⟨kR, g20, g13⟩ := rAll_kp g2 kLaw kLaws
  have kq : am_kp lvRE [(10, 17)] 0 (am_si mC 10 0 0 0) q14 := by
    obtain ⟨r2, r4, qq, y1, y2, y3, y4⟩ := g2
    have yy : (am_si (am_si qq 10 0 20 0) 10 0 13 0).1 = (am_si (am_si qq 10 0 20 0) 10 0 13 0).1 := rfl
    refine ⟨fun c n k hh => ?_, fun c n k hh => kR.2.1 c n k hh, kR.2.2⟩
    have := kR.1 c n k hh
    rw [rd_si, rd_si, if_neg, if_neg] at this
    · exact this
    · rintro ⟨rfl, -, rfl⟩; cases hh
    · rintro ⟨rfl, -, rfl⟩; cases hh
  have q44 : q14.1 44 = mC.1 44 := kq.row 44 rfl
  obtain ⟨mF, f1, f2, f3, f4, f5, f6⟩ := law_ref_ok (M := mC) (by rw [C44]; exact e44) hk g2 (show q14.1 10 0 19 = 0 from g7.2.1.2.2.2.1) g6 g4 (show q14.1 10 0 23 = nI b2 from g7.2.1.2.1.1) (by omega) q44
  have kB : am_kp lvLB [(10, 17)] 0 mC mF := (am_kp.si am_kp.rf rfl : am_kp lvLB [(10, 17)] 0 mC (am_si mC 10 0 0 0)).tr ((am_kp.mono kq rfl).tr (am_kp.mono f4 rfl))
  have eB : mF.2.2 = mC.2.2 := kB.2.2
  -- cells that stay
  have F : ∀ c w i, am_hit lvLB c i = false → am_hit lvWh c i = false → (w ≠ m'.2.2.2.2.2.2.2 5 ∨ (c ≠ 5 ∧ c ≠ 28 ∧ c ≠ 29)) → ¬ (c = 8 ∧ w = 0 ∧ i = 2) → ¬ (c = 9 ∧ w = 0 ∧ i = 17) → mF.1 c w i = m.1 c w i := fun c w i q1 q2 q3 q4 q5 => by rw [kB.1 c w i q1, C1 c w i q3 q4 q5, kA.1 c w i q2]
  have FR : ∀ c, (Nat.ble 20 c && (!am_hit lvLB c 0 && !am_hit lvWh c 0)) = true → mF.1 c = m.1 c := fun c q => by
    rw [Bool.and_eq_true, Bool.and_eq_true] at q
    funext w i
    have c5 : c ≠ 5 ∧ c ≠ 28 ∧ c ≠ 29 := by
      refine ⟨?_, ?_, ?_⟩
      · rintro rfl; exact absurd q.1 (by decide)
      · rintro rfl; exact absurd q.2.2 (by decide)
      · rintro rfl; exact absurd q.2.2 (by decide)
    refine F c w i (by rw [am_hit_any q.1]; exact (Bool.not_eq_true' _).mp q.2.1) (by rw [am_hit_any q.1]; exact (Bool.not_eq_true' _).mp q.2.2) (Or.inr c5) ?_ ?_
    · rintro ⟨rfl, -⟩; exact absurd q.1 (by decide)
    · rintro ⟨rfl, -⟩; exact absurd q.1 (by decide)
  have F8 : ∀ u, (u ≠ 0) → mF.1 8 u = m.1 8 u := fun u hu => by
    funext i
    refine (kB.obj 8 rfl ▸ rfl : mF.1 8 u i = mC.1 8 u i).trans ?_
    rw [C1 8 u i (Or.inr (by decide)) (fun z => hu z.2.1) (fun z => absurd z.1 (by decide)), kA.obj 8 rfl]
  have FU : ∀ u, u ≠ 0 → sm_U m mF u := fun u hu => ⟨F8 u hu, by rw [FR 36 rfl], by rw [FR 37 rfl], by rw [FR 38 rfl], by rw [FR 39 rfl], by rw [FR 40 rfl]⟩
  -- LAWS that stay
  have FS : ∀ s, 1 ≤ s → s < m.2.2.2.2.2.2.2 5 → mF.1 5 s = m.1 5 s ∧ mF.1 28 s = m.1 28 s ∧ mF.1 29 s = m.1 29 s ∧ mF.2.2.2.2.2.2.1 28 s = m.2.2.2.2.2.2.1 28 s ∧ mF.2.2.2.2.2.2.1 29 s = m.2.2.2.2.2.2.1 29 s := fun s q1 q2 => by
    obtain ⟨x1, x2, x3⟩ := sA s q1
    refine ⟨?_, ?_, ?_, ?_, ?_⟩
    · rw [kB.obj 5 rfl, ← x1]
      funext i
      exact C1 5 s i (Or.inl (by omega)) (fun z => absurd z.1 (by decide)) (fun z => absurd z.1 (by decide))
    · rw [kB.row 28 rfl, ← x2]
      funext i
      exact C1 28 s i (Or.inl (by omega)) (fun z => absurd z.1 (by decide)) (fun z => absurd z.1 (by decide))
    · rw [kB.row 29 rfl, ← x3]
      funext i
      exact C1 29 s i (Or.inl (by omega)) (fun z => absurd z.1 (by decide)) (fun z => absurd z.1 (by decide))
    · rw [eB, CN, if_neg (by omega), if_neg (by omega)]
    · rw [eB, CN, if_neg (by omega), if_neg (by omega)]
  have hC5 : m.2.2.2.2.2.2.2 5 ≤ mF.2.2.2.2.2.2.2 5 := by rw [eB, CC, if_pos (by omega)]; omega
  have R : ∀ i, mF.1 44 0 i = lawR k K b2 (q14.1 51 0) (q14.1 52 0) (q14.1 53 0) (m.1 44 0) i := fun i => by rw [f2, C44]
  have R2 : mF.1 44 0 2 = nI (k + 1) := by rw [R]; unfold lawR; rw [if_pos rfl]
  have Rlow : ∀ i, i < 118 + 900 * k → i ≠ 2 → mF.1 44 0 i = m.1 44 0 i := fun i q1 q2 => by
    rw [R]; unfold lawR
    rw [if_neg q2, if_neg (by omega), if_neg (by omega), if_neg (by omega)]
  have hW := h.w
  have hW' : iv_W 999 (mF.1 44 0) := hW.inc e44 hk R2 (fun i q1 q2 => Rlow i (by omega) q2)
  have laws : ∀ u j, mF.2.2.2.2.1 u j = if u = 0 ∧ j = k then some (m'.2.2.2.2.2.2.2 5) else m.2.2.2.2.1 u j := fun u j => by rw [eB]; exact CL u j
  refine ⟨nI k, mC, mF, ?_, f1, ⟨hW', ?_, ?_, ?_, ?_, ?_, ?_, ?_, ?_, ?_⟩, ?_, ?_⟩
  · show fn_X9_law m = _
    unfold fn_X9_law
    rw [if_neg (show ¬ (6 : Int32) ≤ m.1 8 0 2 by rw [e82]; exact nI_ge (b := 6) hk (by decide)), g1, bd_s, if_pos (show (1 : Int32) ≠ 0 by decide), gd_t tg]
    unfold law_fin
    rw [m82, ck_in hk (by decide), nI_clamp (by omega), nI_1, told_ok (show (0 : Int32) ≤ nI k from nI_le (a := 0) (Nat.zero_le _) (by omega)), bd_s, hmC]
  · refine iv_V.ch h.u (fun i hi => ?_) (fun i hi => Or.inl ⟨by rw [FR 39 rfl], Rlow _ (by omega) (by omega)⟩) (fun i hi => Or.inl ⟨by rw [FR 36 rfl], Rlow _ (by omega) (by omega)⟩) (fun i hi => Or.inl ⟨by rw [FR 37 rfl], by rw [FR 38 rfl], Rlow _ (by omega) (by omega), Rlow _ (by omega) (by omega)⟩) (fun i hi => Or.inl ⟨by rw [FR 40 rfl], Rlow _ (by omega) (by omega)⟩)
    by_cases e : i = 2
    · subst e
      refine Or.inr ?_
      rw [R2, kB.obj 8 rfl]; exact C8
    · exact Or.inl ⟨by rw [kB.obj 8 rfl, C1 8 0 i (Or.inr (by decide)) (fun z => e z.2.2) (fun z => absurd z.1 (by decide)), kA.obj 8 rfl], Rlow i (by omega) e⟩
  · intro j hj
    rw [R2, nv_nI (by omega)] at hj
    by_cases e : j = k
    · subst e
      have LL := law_LL (K := K) (o := mF.1 5 (m'.2.2.2.2.2.2.2 5)) (heads := mF.1 28 (m'.2.2.2.2.2.2.2 5)) (code := mF.1 29 (m'.2.2.2.2.2.2.2 5)) (r := fun i => mF.1 44 0 (118 + 900 * j + i)) g7 g4 g8 (by rw [kB.obj 5 rfl, Cs 5 2 (by decide) (by decide), trm_5.1]; exact g5) (by rw [kB.obj 5 rfl, Cs 5 3 (by decide) (by decide), trm_5.2]; exact a5) (fun i hi => by rw [kB.row 28 rfl, Cs 28 i (by decide) (by decide), trm_28 s0 (by omega)]) (fun i hi => by rw [kB.row 29 rfl, Cs 29 i (by decide) (by decide), trm_29 s0 (by omega)]) (by
          show mF.1 44 0 (118 + 900 * j + 1) = _
          rw [R]; unfold lawR
          rw [if_neg (by omega), if_neg (by omega), if_neg (by omega), if_pos rfl]) (fun i hi => by
          show mF.1 44 0 (118 + 900 * j + (2 + i)) = _
          rw [R]; unfold lawR
          rw [if_neg (by omega), if_neg (by omega), if_pos (by omega), show 118 + 900 * j + (2 + i) - (118 + 900 * j + 2) = i by omega]) (fun i hi => by
          show mF.1 44 0 (118 + 900 * j + (98 + 2 * i)) = _ ∧ mF.1 44 0 (118 + 900 * j + (98 + 2 * i + 1)) = _
          rw [R, R]; unfold lawR
          rw [if_neg (by omega), if_pos (by omega), if_pos (by omega), if_neg (by omega), if_pos (by omega), if_neg (by omega), show (118 + 900 * j + (98 + 2 * i) - (118 + 900 * j + 98)) / 2 = i by omega, show (118 + 900 * j + (98 + 2 * i + 1) - (118 + 900 * j + 98)) / 2 = i by omega]
          exact ⟨rfl, rfl⟩)
      refine ⟨m'.2.2.2.2.2.2.2 5, by omega, by rw [eB, CC, if_pos (by omega)]; omega, by rw [laws, if_pos ⟨rfl, rfl⟩], K, zs, LL.1, LL.2.1, ?_⟩
      rw [eB, CN, CN, if_neg (by omega), if_pos ⟨rfl, rfl⟩, if_pos ⟨rfl, rfl⟩]
      exact LL.2.2
    · obtain ⟨s, x1, x2, x3, n', cs, x4, x5, x6⟩ := h.1.2.2.1 j (by rw [e44, nv_nI (by omega)]; omega)
      obtain ⟨y1, y2, y3, y4, y5⟩ := FS s x1 x2
      refine ⟨s, x1, by omega, by rw [laws, if_neg (fun z => e z.2)]; exact x3, n', cs, x4, x5.cong x4.1 (fun i hi => Rlow _ (by omega) (by omega)), ?_⟩
      rw [y1, y2, y3, y4, y5]
      exact x6
  · have H4 := h.1.2.2.2.1
    have H5 := H4.of hW' (Rlow 0 (by omega) (by decide)) (fun i q1 q2 => Rlow i (by omega) (by omega))
    rw [F 3 0 1 rfl rfl (Or.inr (by decide)) (fun z => absurd z.1 (by decide)) (fun z => absurd z.1 (by decide)), FR 24 rfl, F 10 0 8 rfl rfl (Or.inr (by decide)) (fun z => absurd z.1 (by decide)) (fun z => absurd z.1 (by decide)), FR 46 rfl, FR 47 rfl]
    exact H5
  · have H5 := h.1.2.2.2.2.1
    have ei : ∀ i, iv_img mF i = iv_img m i := fun i => by unfold iv_img; rw [FR 45 rfl]
    have eM : mF.2.2.2.2.2.1 = m.2.2.2.2.2.1 := by rw [eB]; exact CM
    refine ⟨fun i hi => ?_, by rw [eM]; exact H5.2⟩
    rcases H5.1 i hi with ⟨a1, a2⟩ | ⟨a1, u, a2', a3, a4, a5', a6, a7⟩
    · exact Or.inl ⟨by rw [FR 91 rfl]; exact a1, by rw [eM]; exact a2⟩
    · refine Or.inr ⟨by rw [FR 91 rfl]; exact a1, u, a2', by rw [eB, CC, if_neg (by omega)]; exact a3, by rw [eM]; exact a4, by rw [ei]; exact a5', by rw [ei]; exact a6.of (FU u (by omega)), ?_⟩
      rw [ei]
      exact a7.move a5' (fun _ _ => rfl) (fun j _ => by rw [laws, if_neg (by omega)]) FS hC5
  · have e2 := FU 2 (by decide)
    rw [F 10 0 61 rfl rfl (Or.inr (by decide)) (fun z => absurd z.1 (by decide)) (fun z => absurd z.1 (by decide)), FR 63 rfl, e2.1, e2.2.1, e2.2.2.1]
    exact h.1.2.2.2.2.2.1
  · have z7 : mF.1 7 0 1 = 0 := by
      rw [kB.fld 7 0 1 rfl, C1 7 0 1 (Or.inr (by decide)) (fun z => absurd z.1 (by decide)) (fun z => absurd z.1 (by decide))]
      exact whole7 g1
    have z13 : mF.1 10 0 13 = 0 := f5
    exact ⟨z7.trans z13.symm, 0, by decide, z13, fun k hk => absurd hk (Nat.not_lt_zero _)⟩
  · have hX := h.1.2.2.2.2.2.2.2.1
    refine ⟨?_, ?_, ?_, ?_⟩
    · rw [F 9 0 15 rfl rfl (Or.inr (by decide)) (fun z => absurd z.1 (by decide)) (fun z => absurd z.2.2 (by decide)), F 10 0 11 rfl rfl (Or.inr (by decide)) (fun z => absurd z.1 (by decide)) (fun z => absurd z.1 (by decide))]
      exact hX.1
    · rw [F 9 0 16 rfl rfl (Or.inr (by decide)) (fun z => absurd z.1 (by decide)) (fun z => absurd z.2.2 (by decide)), F 10 0 57 rfl rfl (Or.inr (by decide)) (fun z => absurd z.1 (by decide)) (fun z => absurd z.1 (by decide))]
      exact hX.2.1
    · rw [kB.fld 4 0 10 rfl, C1 4 0 10 (Or.inr (by decide)) (fun z => absurd z.1 (by decide)) (fun z => absurd z.1 (by decide)), f4.fld 10 0 18 rfl, g10]
      exact g7.1.2.2.2.2.2
    · exact f6
  · refine ⟨fun c w hc => ?_, ?_, ?_, ?_, ?_, ?_, ?_, fun c q1 q2 => ?_, ?_, fun u hu => ?_⟩
    · rw [eB, CN, if_neg (by omega), if_neg (by omega)]; exact i1 c w hc
    · rw [eB, CN, if_neg (by omega), if_neg (by omega)]; exact i2
    · rw [eB, CN, if_neg (by omega), if_neg (by omega)]; exact i3
    · rw [eB, CC, if_pos (by omega)]; omega
    · rw [eB, CC, CC, if_pos (by omega), if_pos (by omega)]
    · rw [eB, CC, CC, if_pos (by omega), if_pos (by omega)]
    · rw [eB, CC, if_neg (by omega)]; exact i7
    · rw [eB, CC, CC, if_neg (by omega), if_neg (by omega)]; exact i8 c q1 q2
    · rw [eB, CC, CC, if_neg (by omega), if_neg (by omega)]; exact i9
    · rw [eB, CC, if_neg (by omega)] at hu
      funext j
      rw [laws, if_neg (by omega), i10 u hu]
  · refine h.1.2.2.2.2.2.2.2.2.2.of ?_ ?_ ?_ ?_
    · rw [kB.rowL 82 rfl]; exact CG 82 (by decide)
    · rw [kB.rowL 83 rfl]; exact CG 83 (by decide)
    · rw [kB.rowL 84 rfl]; exact CG 84 (by decide)
    · rw [kB.rowL 89 rfl]; exact CG 89 (by decide)
  · rw [f3, kB.fld 9 0 17 rfl]; exact C9
  · intro j q1 q2
    rw [FR 42 rfl, FR 43 rfl]
    exact h.2.2 j q1 q2
theorem op_law (h : Inv m) : op_ok m (fun m => fn_X9_law m) (fun m => fn_X10_law m) := by
  have hW := h.w
  have e2 : m.1 44 0 2 = nI (nv (m.1 44 0 2)) := hW.k (by decide) (by decide)
  have e82 : m.1 8 0 2 = nI (nv (m.1 44 0 2)) := h.u.2.2.1.trans e2
  have n6 : nv (m.1 44 0 2) ≤ 6 := hW.2.2.2.1
  generalize nv (m.1 44 0 2) = k at e2 e82 n6
  by_cases c6 : k = 6
  · exact law_full h (by rw [e82, c6]; decide) (by rw [e2, c6]; rfl)
  obtain ⟨T, L, t1, t2, t3⟩ := h.txt
  have hA := h.1.2.2.2.2.2.2.2.2.1
  have hC := h.1.2.2.2.2.2.2.2.2.2
  have q6 : ¬ (6 : Int32) ≤ m.1 8 0 2 := by rw [e82]; exact nI_ge (b := 6) (by omega) (by decide)
  have q44 : m.1 44 0 2 ≠ 6 := by rw [e2]; exact nI_ne (b := 6) (by omega) (by decide) c6
  rcases read_law t1 t2 hC hA.2.1 hA.2.2.1 with ⟨q, m', r16, g1, g2, -⟩ | ⟨n, K, m', q14, c2, c2', a2, b2, p2, lv2, aw2, zs, g1, -⟩
  · have kA := kp_X4_readWhole _ _ _ g1
    have k9 := st_9_kp (-6) m'
    have kk : am_kp ((10, 0) :: (9, 17) :: (42, 0) :: lvWh) [] 0 m (am_si (st_9 (-6) m') 10 0 0 0) := (am_kp.mono kA rfl).tr ((am_kp.mono k9 rfl).tr (am_kp.si am_kp.rf rfl))
    rcases read_law (M := am_si (st_9 (-6) m') 10 0 0 0) t1 (t2.of (kk.fld 10 0 13 rfl) (kk.row 50 rfl)) (hC.of (kk.rowL 82 rfl) (kk.rowL 83 rfl) (kk.rowL 84 rfl) (kk.rowL 89 rfl)) hA.2.1 hA.2.2.1 with ⟨q, m2, r16, x1, x2, x3, x4, x5⟩ | ⟨n, K, m2, q14, c2, c2', a2, b2, p2, lv2, aw2, zs, x1, -⟩
    · rw [g1] at x1
      have e : m' = m2 := congrArg (fun z => z.2) (Option.some.inj x1)
      subst e
      exact law_bad h q6 q44 g1 x2 x3 x4 x5
    · rw [g1] at x1
      exact absurd (show (0 : Int32) = 1 from congrArg (fun z => z.1) (Option.some.inj x1)) (by decide)
  · have kA : am_kp lvWh [] 0 m m' := kp_X4_readWhole _ _ _ g1
    have eA : m'.2.2 = m.2.2 := kA.2.2
    let mC : am_m := am_si (am_si (am_ss (trm m') 0 k (some (m'.2.2.2.2.2.2.2 5))) 8 0 2 (nI (k + 1))) 9 0 17 0
    have r : ∀ c w i, (c ≠ 5 ∧ c ≠ 28 ∧ c ≠ 29) → c ≠ 8 → c ≠ 9 → mC.1 c w i = m'.1 c w i := fun c w i q1 q2 q3 => by
      show (am_si (am_si (am_ss (trm m') 0 k (some (m'.2.2.2.2.2.2.2 5))) 8 0 2 (nI (k + 1))) 9 0 17 0).1 c w i = _
      rw [rd_si, if_neg (fun z => q3 z.1), rd_si, if_neg (fun z => q2 z.1)]
      show (trm m').1 c w i = _
      rw [trm_I (Or.inr q1)]
    have rG : ∀ c, c ≠ 5 ∧ c ≠ 28 ∧ c ≠ 29 → mC.2.1 c = m.2.1 c := fun c q => by
      show (trm m').2.1 c = _
      rw [trm_G q]
      funext x y
      exact kA.2.1 c x y rfl
    have t4 : rtx T L (am_si mC 10 0 0 0) := by
      refine t2.of ?_ ?_
      · show mC.1 10 0 13 = _
        rw [r 10 0 13 (by decide) (by decide) (by decide), kA.fld 10 0 13 rfl]
      · funext w i
        show mC.1 50 w i = _
        rw [r 50 w i (by decide) (by decide) (by decide), kA.row 50 rfl]
    rcases read_law (M := am_si mC 10 0 0 0) t1 t4 (hC.of (rG 82 (by decide)) (rG 83 (by decide)) (rG 84 (by decide)) (rG 89 (by decide))) hA.2.1 hA.2.2.1 with ⟨q, m2, r16, x1, -⟩ | ⟨n, K, m2, q14, c2, c2', a2, b2, p2, lv2, aw2, zs, x1, x2, x3, x4, x5, x6, x7, x8, x9, x10⟩
    · rw [g1] at x1
      exact absurd (show (1 : Int32) = 0 from congrArg (fun z => z.1) (Option.some.inj x1)) (by decide)
    · rw [g1] at x1
      have e : m' = m2 := congrArg (fun z => z.2) (Option.some.inj x1)
      subst e
      exact law_good h (by omega) e2 e82 mC rfl g1 x2 x3 x4 x5 x6 x7 x8 x10
end LP
