/-! feasts: the table, who is fed at it -/
section FE
variable {m : am_m} {lw : lw_T} {D u i s n : Nat} {r : Nat → Int32}
theorem cfeed_ok (h : jdx D u r lw m) (hD : D ≤ 100000) (hs : s < 128) : ∃ m', fn_X1_feedTable (nI s) m = some m' ∧ m'.2.2.1 0 = some u ∧ iv_U m' u (feastS r lw s) ∧ jd_law m' lw ∧ ∀ v, v ≠ u → sm_U m m' v := by
  obtain ⟨hn, h7⟩ := h.n
  have hW := h.2.2.1
  have hd := day_rng hW hD
  have hm := mood_rng hW
  have hp7 := pc_le s
  have key : ∃ m1, lp_X1_feedTable_7 1000000 (nI s) (nI (pc s)) 0 m = some m1 ∧ (jdx D u (fedI r (feaF r lw s) (nv (r 0))) lw m1 ∧ ∀ v, v ≠ u → sm_U m m1 v) := by
    refine lp_up0 (fun N x a => lp_X1_feedTable_7 N (nI s) (nI (pc s)) x a) (fun i m1 => jdx D u (fedI r (feaF r lw s) i) lw m1 ∧ ∀ v, v ≠ u → sm_U m m1 v) _ (nv (r 0)) (by omega) (fun N m1 hh => ⟨m1, ?_, hh⟩) (fun N i m1 hi hh => Or.inl ?_) m ⟨by rw [fedI_0]; exact h, fun v _ => ⟨rfl, rfl, rfl, rfl, rfl, rfl⟩⟩
    · show lp_X1_feedTable_7 (N + 1) (nI s) (nI (pc s)) (nI (nv (r 0))) m1 = _
      have e0 := hh.1.n.1
      rw [fedI_out (by omega)] at e0
      rw [lp_X1_feedTable_7.eq_2, hh.1.1, bd_s, e0, if_pos (nI_le (Nat.le_refl _) (by omega))]
    · obtain ⟨j1, u1⟩ := hh
      have e0 := j1.n.1
      rw [fedI_out (by omega)] at e0
      have ef : m1.1 36 u i = r (7 + i) := by rw [j1.2.1.2.2.2.2.2.1 i (by omega), fedI_out (by omega)]
      have ed : m1.1 39 u 0 = r 4 := by rw [j1.2.1.2.2.2.2.1 0 (by omega), fedI_out (by omega)]
      have h9 := hW.2.2.2.2.2.2.2.2.1 i (by omega)
      have eW := hW.k (k := 7 + i) (by omega) (by omega)
      show ∃ a', lp_X1_feedTable_7 (N + 1) (nI s) (nI (pc s)) (nI i) m1 = lp_X1_feedTable_7 N (nI s) (nI (pc s)) (nI (i + 1)) a' ∧ _
      cases hb : s.testBit i with
      | false =>
        have efea : feaF r lw s i = nv (r (7 + i)) := by unfold feaF; rw [hb, if_neg (by decide)]
        have erow : fedI r (feaF r lw s) (i + 1) = fedI r (feaF r lw s) i := by
          funext k
          rw [fedI_s]
          by_cases e : k = 7 + i
          · rw [if_pos e, e, fedI_out (by omega), efea, ← eW]
          · rw [if_neg e]
        refine ⟨m1, ?_, by rw [erow]; exact j1, u1⟩
        rw [lp_X1_feedTable_7.eq_2]
        simp only [j1.1, bd_s]
        rw [e0, if_neg (nI_ge hi (by omega)), if_pos ((isN hs (by omega)).mpr hb), bd_s, nI_1]
      | true =>
        obtain ⟨m2, e2, k2, w0, w1, w2, w3, w4, w5, w6, w7⟩ := knowOne_ok (a := nI i) (fed := r (7 + i)) (size := nI (pc s)) (day := r 4) j1
        have j2 := j1.kp k2 rfl
        have w7 : m2.1 20 0 7 = r 6 := by rw [w7, fedI_out (by omega)]
        obtain ⟨m3, e3, k3⟩ := tellsLaw_ok (h := 1) (w := 2) j2.2.2.2 (by decide) (ew1_ok (p := i) (by omega) (fed_rng hW (by omega)) (nI_small (by omega)) hd hm) (kw8 w0 w1 w2 w3 w4 w5 w6 w7)
        have e3 : fn_X1_tellsLaw 267 2 m2 = some (sp_fee r lw i (nI (pc s)), m3) := e3
        obtain ⟨x, hx, ex⟩ := sp_fee_nat (r := r) (lw := lw) (p := i) (size := nI (pc s))
        have efea : nI (min 9 (nv (r (7 + i)) + x)) = nI (feaF r lw s i) := by unfold feaF; rw [hb, if_pos rfl, ex, nv_nI (by omega)]
        have j3 := j2.kp k3 rfl
        have U3 := j3.2.1.fed (p := i) (v := nI (feaF r lw s i)) (r' := fedI r (feaF r lw s) (i + 1)) (by omega) (fun k => fedI_s k)
        have k4 : am_kp [(36, 0)] [] 0 m3 (am_si m3 36 u i (nI (feaF r lw s i))) := am_kp.si am_kp.rf rfl
        have ef2 : m2.1 36 u i = r (7 + i) := by rw [k2.row 36 rfl]; exact ef
        refine ⟨am_si m3 36 u i (nI (feaF r lw s i)), ?_, ⟨j3.1, U3, fedI_W hW (feaF_9 hW) _ (by omega), j3.2.2.2.kp k4 rfl⟩, fun v hv => (u1 v hv).tr ((sm_U.kp k2 rfl v).tr ((sm_U.kp k3 rfl v).tr (sm_U.si (m := m3) 36 u i _ v (Or.inl (Ne.symm hv)))))⟩
        rw [lp_X1_feedTable_7.eq_2]
        simp only [j1.1, bd_s]
        rw [e0, if_neg (nI_ge hi (by omega)), if_neg (fun z => by rw [(isN hs (by omega)).mp z] at hb; cases hb), ck_in (by omega) (by decide), nI_clamp (by omega), ef, ed, e2, bd_s]
        simp only [j2.1, bd_s]
        rw [ck_in (by omega) (by decide), e3, bd_s, ef2, ex, eW]
        unfold fn_J9_min_7cf53
        dsimp only
        have := mn_add (nv (r (7 + i))) (by omega) x (by omega)
        by_cases hc : nI (nv (r (7 + i))) + nI x < 9
        · rw [if_pos hc] at this ⊢
          rw [bd_s, this, efea, ck_in (by omega) (by decide), bd_s, nI_1]
        · rw [if_neg hc] at this ⊢
          rw [bd_s, this, efea, ck_in (by omega) (by decide), bd_s, nI_1]
  obtain ⟨m1, e1, j1, u1⟩ := key
  refine ⟨m1, ?_, j1.1, j1.2.1, j1.2.2.2, u1⟩
  unfold fn_X1_feedTable
  rw [bc_ok hs, bd_s, e1, bd_s]
theorem rfeast_ok (hx : rfx D lw m) (hs : s < 128) : ∃ m', fn_X10_feastIt (nI s) m = some m' ∧ m'.1 44 0 = feastS (m.1 44 0) lw s := by
  generalize er : m.1 44 0 = r
  have hW : iv_W D r := by rw [← er]; exact hx.1
  have h7 := hW.n7
  have h0 := hW.r0
  have key : ∃ m1, lp_X10_feastIt_2 1000000 (nI s) 0 m = some m1 ∧ (rfx D lw m1 ∧ m1.1 44 0 = r ∧ ∀ p, p < nv (r 0) → m1.1 56 0 p = if s.testBit p then sp_fee r lw p (nI (pc s)) else 0) := by
    refine lp_up0 (fun N x a => lp_X10_feastIt_2 N (nI s) x a) (fun i m1 => rfx D lw m1 ∧ m1.1 44 0 = r ∧ ∀ p, p < i → m1.1 56 0 p = if s.testBit p then sp_fee r lw p (nI (pc s)) else 0) _ (nv (r 0)) (by omega) (fun N m1 hh => ⟨m1, ?_, hh⟩) (fun N i m1 hi hh => Or.inl ?_) m ⟨hx, er, fun p hp => absurd hp (Nat.not_lt_zero _)⟩
    · show lp_X10_feastIt_2 (N + 1) (nI s) (nI (nv (r 0))) m1 = _
      rw [lp_X10_feastIt_2.eq_2, hh.2.1, if_pos (by rw [h0, nv_nI (nv_lt _)]; exact nI_le (Nat.le_refl _) (nv_lt _))]
    · obtain ⟨x1, r1, c1⟩ := hh
      obtain ⟨m2, e2, k2⟩ := feedsAt_ok (size := nI (pc s)) x1 (show i < 7 by omega)
      rw [r1] at e2
      have st : ∀ (m3 : am_m) (v : Int32), am_kp kI kL 0 m1 m3 → v = (if s.testBit i then sp_fee r lw i (nI (pc s)) else 0) → rfx D lw (am_si m3 56 0 i v) ∧ (am_si m3 56 0 i v).1 44 0 = r ∧ ∀ p, p < i + 1 → (am_si m3 56 0 i v).1 56 0 p = if s.testBit p then sp_fee r lw p (nI (pc s)) else 0 := fun m3 v k3 hv => by
        refine ⟨(x1.kp k3 rfl).kp (WI := [(56, 0)]) (WL := []) (E := 0) (am_kp.si am_kp.rf rfl) rfl, ?_, fun p hp => ?_⟩
        · show m3.1 44 0 = r
          rw [k3.row 44 rfl]; exact r1
        · rw [rd_j]
          by_cases e : p = i
          · rw [if_pos e, e]; exact hv
          · rw [if_neg e, k3.row 56 rfl]; exact c1 p (by omega)
      show ∃ a', lp_X10_feastIt_2 (N + 1) (nI s) (nI i) m1 = lp_X10_feastIt_2 N (nI s) (nI (i + 1)) a' ∧ _
      rw [lp_X10_feastIt_2.eq_2, r1, if_neg (by rw [h0]; exact nI_ge hi (by omega)), is_ok hs (by omega), bd_s, ones_ok hs, bd_s, e2, bd_s]
      cases hb : s.testBit i with
      | false =>
        rw [hb] at st
        rw [if_pos (show bv false = 0 from rfl), bd_s, ck_in (by omega) (by decide), nI_clamp (by omega), nI_1]
        exact ⟨_, rfl, st m1 0 am_kp.rf rfl⟩
      | true =>
        rw [hb] at st
        rw [if_neg (show ¬ bv true = 0 by decide), bd_s, ck_in (by omega) (by decide), nI_clamp (by omega), nI_1]
        exact ⟨_, rfl, st m2 _ k2 rfl⟩
  obtain ⟨m1, e1, x1, r1, c1⟩ := key
  have key2 : ∃ m2, lp_X10_feastIt_47 1000000 0 m1 = some m2 ∧ m2.1 44 0 = fedI r (feaF r lw s) (nv (r 0)) := by
    refine (lp_up0 (fun N x a => lp_X10_feastIt_47 N x a) (fun i m2 => m2.1 44 0 = fedI r (feaF r lw s) i ∧ m2.1 56 = m1.1 56) (fun m2 => m2.1 44 0 = fedI r (feaF r lw s) (nv (r 0))) (nv (r 0)) (by omega) (fun N m2 hh => ⟨m2, ?_, hh.1⟩) (fun N i m2 hi hh => Or.inl ?_) m1 ⟨by rw [fedI_0]; exact r1, rfl⟩)
    · show lp_X10_feastIt_47 (N + 1) (nI (nv (r 0))) m2 = _
      rw [lp_X10_feastIt_47.eq_2, hh.1, fedI_out (by omega), if_pos (by rw [h0, nv_nI (nv_lt _)]; exact nI_le (Nat.le_refl _) (nv_lt _))]
    · obtain ⟨x, hx9, ex⟩ := sp_fee_nat (r := r) (lw := lw) (p := i) (size := nI (pc s))
      have h9 := hW.2.2.2.2.2.2.2.2.1 i (by omega)
      have eW := hW.k (k := 7 + i) (by omega) (by omega)
      refine ⟨am_si m2 44 0 (7 + i) (nI (feaF r lw s i)), ?_, funext (fun k => ?_), hh.2⟩
      · show lp_X10_feastIt_47 (N + 1) (nI i) m2 = lp_X10_feastIt_47 N (nI (i + 1)) _
        rw [lp_X10_feastIt_47.eq_2, hh.1, fedI_out (k := 0) (by omega), if_neg (by rw [h0]; exact nI_ge hi (by omega)), show (7 : Int32) = nI 7 from rfl, nI_add, ck_in (by omega) (by decide), ck_in (by omega) (by decide), nI_clamp (by omega), nI_clamp (by omega), fedI_out (by omega), hh.2, c1 i hi, ex, eW, bounded_ok, bd_s, nI_1, ck_in (by omega) (by decide)]
        unfold feaF
        cases s.testBit i with
        | true => rw [if_pos rfl, if_pos rfl, cp_add _ (by omega) _ (by omega), ex, nv_nI (by omega)]
        | false => rw [if_neg (by decide), if_neg (by decide), show (0 : Int32) = nI 0 from rfl, cp_add _ (by omega) _ (by omega), show min 9 (nv (r (7 + i)) + 0) = nv (r (7 + i)) by omega]
      · rw [rd_j, fedI_s, hh.1]
  obtain ⟨m2, e2, r2⟩ := key2
  refine ⟨m2, ?_, r2⟩
  unfold fn_X10_feastIt
  rw [e1, bd_s, e2, bd_s]
/-- a TABLE, by twos -/
theorem tb_twos {M : Nat → Nat → Bool} (hn : n ≤ 7) (hs : s < 2 ^ n) (hc : ∀ a b, M a b = M b a) : (∀ p, p < n → tbp (rowOf n M) s p = true) ↔ ∀ p q, p < q → q < 7 → s.testBit p = true → s.testBit q = true → M p q = true := by
  have h128 := pw_le hn
  constructor
  · intro h p q hpq hq bp bq
    have hpn := bit_lt hs bp
    have hqn := bit_lt hs bq
    have := h p hpn
    unfold tbp at this
    rw [bp, Bool.not_true, Bool.false_or, decide_eq_true_iff] at this
    have h2 := (sd_0 (by have := sd_le s (2 ^ p); omega)).mp this q (by rw [sd_bit (by omega), bq, Nat.testBit_two_pow_of_ne (by omega)]; rfl)
    unfold rowOf at h2
    rw [sx_bit, Bool.and_eq_true] at h2
    exact h2.2
  · intro h p hp
    unfold tbp
    cases bp : s.testBit p with
    | false => rfl
    | true =>
      rw [Bool.not_true, Bool.false_or, decide_eq_true_iff, sd_0 (by have := sd_le s (2 ^ p); omega)]
      intro q hq
      rw [sd_bit (by omega), Bool.and_eq_true] at hq
      have hqn := bit_lt hs hq.1
      have hne : p ≠ q := fun e => by rw [e, Nat.testBit_two_pow_self] at hq; exact absurd hq.2 (by decide)
      unfold rowOf
      rw [sx_bit, decide_eq_true hqn, Bool.true_and]
      by_cases hlt : p < q
      · exact h p q hlt (by omega) bp hq.1
      · rw [hc]; exact h q p (by omega) (by omega) hq.1 bp
theorem two_bits : ∀ s, s < 128 → ∀ p, p < 7 → ∀ q, q < 7 → ((((nI s >>> (nI p &&& 31)) &&& (nI s >>> (nI q &&& 31))) &&& 1) ≠ 1 ↔ (s.testBit p && s.testBit q) = false) := by decide +kernel
theorem cjt_in {p : Nat} (h : jdx D u r lw m) (hD : D ≤ 100000) (hs : s < 2 ^ nv (r 0)) (hp : p < 7) : ∃ b, lp_X1_isTable_12 1000000 (nI s) (nI p) (nI (p + 1)) m = some b ∧ ((∃ m', b = .inl m' ∧ jdx D u r lw m' ∧ am_kp [(20, 0)] [(80, 0)] 0 m m' ∧ ∀ q, p < q → q < 7 → s.testBit p = true → s.testBit q = true → mtx r lw p q = true) ∨ (∃ m', b = .inr (0, m') ∧ jdx D u r lw m' ∧ am_kp [(20, 0)] [(80, 0)] 0 m m' ∧ ∃ q, p < q ∧ q < 7 ∧ s.testBit p = true ∧ s.testBit q = true ∧ mtx r lw p q = false)) := by
  obtain ⟨hn, h7⟩ := h.n
  have h128 := pw_le h7
  refine lp_up (fun N x a => lp_X1_isTable_12 N (nI s) (nI p) x a) (fun i m1 => p < i ∧ jdx D u r lw m1 ∧ am_kp [(20, 0)] [(80, 0)] 0 m m1 ∧ ∀ q, p < q → q < i → s.testBit p = true → s.testBit q = true → mtx r lw p q = true) _ 7 (fun N m1 hh => ⟨.inl m1, ?_, Or.inl ⟨m1, rfl, hh.2.1, hh.2.2.1, hh.2.2.2⟩⟩) (fun N i m1 hi hh => ?_) (7 - (p + 1)) (p + 1) 1000000 m (by omega) (by omega) ⟨by omega, h, am_kp.rf, fun q h1 h2 => by omega⟩
  · show lp_X1_isTable_12 (N + 1) (nI s) (nI p) (nI 7) m1 = _
    rw [lp_X1_isTable_12.eq_2, if_pos (by decide)]
  · obtain ⟨hpi, j1, k1, c1⟩ := hh
    show (∃ a', lp_X1_isTable_12 (N + 1) (nI s) (nI p) (nI i) m1 = lp_X1_isTable_12 N (nI s) (nI p) (nI (i + 1)) a' ∧ _) ∨ ∃ b, lp_X1_isTable_12 (N + 1) (nI s) (nI p) (nI i) m1 = some b ∧ _
    have stp : (s.testBit p = true → s.testBit i = true → mtx r lw p i = true) → ∀ q, p < q → q < i + 1 → s.testBit p = true → s.testBit q = true → mtx r lw p q = true := fun hh q h1 h2 b1 b2 => by
      by_cases e : q = i
      · rw [e]; rw [e] at b2; exact hh b1 b2
      · exact c1 q h1 (by omega) b1 b2
    rw [lp_X1_isTable_12.eq_2, if_neg (show ¬ (7 : Int32) ≤ nI i from nI_ge (b := 7) hi (by decide)), nI_1]
    cases hb : s.testBit p && s.testBit i with
    | false =>
      rw [if_pos ((two_bits s (by omega) p (by omega) i hi).mpr hb)]
      exact Or.inl ⟨m1, rfl, by omega, j1, k1, stp (fun b1 b2 => by rw [b1, b2] at hb; cases hb)⟩
    | true =>
      rw [if_neg (fun z => by rw [(two_bits s (by omega) p (by omega) i hi).mp z] at hb; cases hb)]
      rw [Bool.and_eq_true] at hb
      obtain ⟨m2, e2, k2⟩ := cmay_ok j1 hD (bit_lt hs hb.1) (bit_lt hs hb.2)
      rw [e2, bd_s]
      have j2 := j1.kp k2 rfl
      cases hM : mtx r lw p i with
      | true => exact Or.inl ⟨m2, rfl, by omega, j2, k1.tr k2, stp (fun _ _ => hM)⟩
      | false => exact Or.inr ⟨.inr (0, m2), rfl, Or.inr ⟨m2, rfl, j2, k1.tr k2, i, hpi, hi, hb.1, hb.2, hM⟩⟩
/-- whether a set is a TABLE, as the class's judge tells it -/
theorem cjtable_ok (h : jdx D u r lw m) (hD : D ≤ 100000) (hs : s < 2 ^ nv (r 0)) : ∃ m', fn_X1_isTable (nI s) m = some (bv (tb (rowOf (nv (r 0)) (mtx r lw)) (nv (r 0)) s), m') ∧ jdx D u r lw m' ∧ am_kp [(20, 0)] [(80, 0)] 0 m m' := by
  obtain ⟨hn, h7⟩ := h.n
  have h128 := pw_le h7
  have hp7 := pc_le s
  have key : ∃ b, lp_X1_isTable_2 1000000 (nI s) 0 m = some b ∧ ((∃ m', b = .inl m' ∧ jdx D u r lw m' ∧ am_kp [(20, 0)] [(80, 0)] 0 m m' ∧ ∀ p q, p < q → q < 7 → s.testBit p = true → s.testBit q = true → mtx r lw p q = true) ∨ (∃ m', b = .inr (0, m') ∧ jdx D u r lw m' ∧ am_kp [(20, 0)] [(80, 0)] 0 m m' ∧ ∃ p q, p < q ∧ q < 7 ∧ s.testBit p = true ∧ s.testBit q = true ∧ mtx r lw p q = false)) := by
    refine lp_up0 (fun N x a => lp_X1_isTable_2 N (nI s) x a) (fun i m1 => jdx D u r lw m1 ∧ am_kp [(20, 0)] [(80, 0)] 0 m m1 ∧ ∀ p q, p < i → p < q → q < 7 → s.testBit p = true → s.testBit q = true → mtx r lw p q = true) _ 7 (by decide) (fun N m1 hh => ⟨.inl m1, ?_, Or.inl ⟨m1, rfl, hh.1, hh.2.1, fun p q h1 h2 => hh.2.2 p q (by omega) h1 h2⟩⟩) (fun N i m1 hi hh => ?_) m ⟨h, am_kp.rf, fun p q h1 => by omega⟩
    · show lp_X1_isTable_2 (N + 1) (nI s) (nI 7) m1 = _
      rw [lp_X1_isTable_2.eq_2, if_pos (by decide)]
    · obtain ⟨j1, k1, c1⟩ := hh
      obtain ⟨b, e, hb⟩ := cjt_in (p := i) j1 hD hs hi
      show (∃ a', lp_X1_isTable_2 (N + 1) (nI s) (nI i) m1 = lp_X1_isTable_2 N (nI s) (nI (i + 1)) a' ∧ _) ∨ ∃ b, lp_X1_isTable_2 (N + 1) (nI s) (nI i) m1 = some b ∧ _
      rw [lp_X1_isTable_2.eq_2, if_neg (show ¬ (7 : Int32) ≤ nI i from nI_ge (b := 7) hi (by decide)), nI_1, e, bd_s]
      rcases hb with ⟨m2, rfl, j2, k2, c2⟩ | ⟨m2, rfl, j2, k2, q, c2⟩
      · refine Or.inl ⟨m2, rfl, j2, k1.tr k2, fun p q h0 h1 h2 b1 b2 => ?_⟩
        by_cases e : p = i
        · rw [e]; rw [e] at b1 h1; exact c2 q h1 h2 b1 b2
        · exact c1 p q (by omega) h1 h2 b1 b2
      · exact Or.inr ⟨.inr (0, m2), rfl, Or.inr ⟨m2, rfl, j2, k1.tr k2, i, q, c2⟩⟩
  obtain ⟨b, e, hb⟩ := key
  have ht := tb_twos (M := mtx r lw) h7 hs (mtx_comm r lw)
  unfold fn_X1_isTable tb
  rw [e, bd_s]
  rcases hb with ⟨m2, rfl, j2, k2, c2⟩ | ⟨m2, rfl, j2, k2, p, q, c1, c2, c3, c4, c5⟩
  · refine ⟨m2, ?_, j2, k2⟩
    rw [decide_eq_true (ht.mpr c2)]
    show ((fn_J6_bitCount_0f7a4 (nI s) m2).bind fun r13 => (if r13 < (2 : Int32) then some ((0 : Int32), m2) else some (1, m2))) = _
    rw [bc_ok (by omega), bd_s]
    by_cases g : 2 ≤ pc s
    · rw [if_neg (show ¬ nI (pc s) < (2 : Int32) from nI_nlt (b := 2) g (by omega)), decide_eq_true g]
      rfl
    · rw [if_pos (show nI (pc s) < (2 : Int32) from nI_lt (b := 2) (by omega) (by decide)), decide_eq_false g]
      rfl
  · refine ⟨m2, ?_, j2, k2⟩
    have hno : ¬ ∀ p, p < nv (r 0) → tbp (rowOf (nv (r 0)) (mtx r lw)) s p = true := fun z => by
      rw [ht.mp z p q c1 c2 c3 c4] at c5
      cases c5
    rw [decide_eq_false hno, Bool.and_false]
    rfl
end FE
