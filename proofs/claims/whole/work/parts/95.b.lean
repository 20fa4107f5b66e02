/-! what the draft's code tells: the row is longer than the code (as part 37, by program) -/
section TLp
variable {m : am_m} {env : Nat → Int64} {c : ab_C} {s k i nc : Nat} {st : List Int64}
set_option maxHeartbeats 4000000 in
theorem tl_one_p (h5 : m.1 5 s 3 = nI nc) (hlen : m.2.2.2.2.2.2.1 29 s = 448) (hnc : nc ≤ 448) (hcell : ∃ t w, m.1 29 s k = nI (512 * w + t) ∧ t < 512 ∧ w ≤ 1000 ∧ c k = cc_dec t w ∧ (c k).1 < 13 ∧ (t = 258 → w < 19)) (henv : ∀ w, w < 19 → (m.1 41 0 w).toInt64 = env w) (hk : k < nc) (hi : i ≤ k) (hst : stk (m.2.1 80 0) st) (hl : st.length ≤ 50) (N : Nat) :
    (∀ k1 st1, ab_step c env k st = some (k1, st1) → ∃ m', lp_X1_tell_o_16 (N + 1) s (nI st.length) (nI k) (nI i) m = lp_X1_tell_o_16 N s (nI st1.length) (nI k1) (nI (i + 1)) m' ∧ am_kp [] [(80, 0)] 0 m m' ∧ stk (m'.2.1 80 0) st1) ∧
    (∀ y x r, 2 ≤ (c k).1 → (c k).1 < 10 → st = y :: x :: r → dn_op ((c k).1 - 2) x y = none → ∃ m', lp_X1_tell_o_16 (N + 1) s (nI st.length) (nI k) (nI i) m = some (.inr (2000000000, m')) ∧ am_kp [] [(80, 0)] 0 m m') := by
  obtain ⟨t, w, hx, ht, hw, hc, h13, hword⟩ := hcell
  have c1 : ¬ nI nc ≤ nI i := nI_ge (by omega) (by omega)
  have c2 : ¬ nI k < 0 := nI_pos (by omega)
  have c3 : ¬ nI nc ≤ nI k := nI_ge (by omega) (by omega)
  have hk29 : (nI k).toNatClampNeg = k := nI_clamp (by omega)
  have hpre : ∀ {α : Type} (o : Option α), am_ck (nI k) (m.2.2.2.2.2.2.1 29 s) o = o := fun o => by rw [hlen]; exact ck_in (show k < 448 by omega) (by decide)
  have eq_t : ∀ p : Nat, p < 600 → ((nI t = nI p) ↔ t = p) := fun p hp => nI_eq (by omega) (by omega)
  have w0 : ¬ nI w < 0 := nI_pos (by omega)
  have l51 : ¬ (Int32.ofNat 51) ≤ nI st.length := nI_ge (a := st.length) (b := 51) (by omega) (by decide)
  have hkp : ∀ (j : Nat) (v : Int64), am_kp [] [(80, 0)] 0 m (am_sg m 80 0 j v) := fun j v => am_kp.sg am_kp.rf rfl
  have hstk : ∀ v : Int64, stk ((am_sg m 80 0 st.length v).2.1 80 0) (v :: st) := fun v => ⟨by rw [rd_sg, if_pos ⟨rfl, rfl, rfl⟩], hst.of (fun j hj => by rw [rd_sg, if_neg (fun q => by omega)])⟩
  have hpush : ∀ v : Int64, am_ck (nI st.length) 51 (lp_X1_tell_o_16 N s (nI st.length + 1) (nI k + 1) (nI i + 1) (am_sg m 80 0 (nI st.length).toNatClampNeg v)) = lp_X1_tell_o_16 N s (nI (v :: st).length) (nI (k + 1)) (nI (i + 1)) (am_sg m 80 0 st.length v) := fun v => by
    rw [ck_in (by omega) (by decide), nI_1, nI_1, nI_1, nI_clamp (by omega)]
    rfl
  have e29 : ∀ r : List Int64, nI (r.length + 1) - (1 : Int32) = nI r.length := fun r => nI_pred _
  rw [lp_X1_tell_o_16.eq_2]
  rw [h5, if_neg c1, if_neg c2, if_neg c3, hpre, hk29, hx, cc_and ht hw, bd_s, hpre, cc_shr ht hw, bd_s]
  rw [hc] at h13
  rcases cc_cases h13 with ⟨rfl, hd⟩ | ⟨rfl, hd⟩ | ⟨o, ho, rfl, hd⟩ | ⟨rfl, hd⟩ | ⟨rfl, hd⟩ | ⟨rfl, hd⟩
  · rw [hd] at hc
    refine ⟨fun k1 st1 hs => ?_, fun _ _ _ g1 _ _ _ => absurd g1 (by rw [hc]; show ¬ 2 ≤ 0; decide)⟩
    rw [ab_step_n hc] at hs
    cases hs
    refine ⟨am_sg m 80 0 st.length (lN w), ?_, hkp _ _, hstk _⟩
    rw [if_pos (by decide), if_pos (by decide), if_neg l51, if_neg w0, if_pos (by decide), if_neg (by decide), bd_s, hpush, nI_l (by omega)]
  · rw [hd] at hc
    refine ⟨fun k1 st1 hs => ?_, fun _ _ _ g1 _ _ _ => absurd g1 (by rw [hc]; show ¬ 2 ≤ 1; decide)⟩
    rw [ab_step_w hc] at hs
    cases hs
    have hw8 := hword rfl
    refine ⟨am_sg m 80 0 st.length (env w), ?_, hkp _ _, hstk _⟩
    rw [if_pos (by decide), if_neg (by decide), if_neg (by decide), if_neg l51, if_neg w0, if_neg (by decide), if_pos (show nI w < Int32.ofNat 19 from nI_lt (b := 19) hw8 (by decide)), if_pos (by decide), ck_in hw8 (by decide), nI_clamp (by omega), bd_s, hpush, henv w hw8]
  · rw [hd] at hc
    have htl := tc_lt o ho
    have ne : ∀ p : Nat, 256 ≤ p → p < 600 → nI (tc_ o) ≠ nI p := fun p h1 h2 q => by have := (eq_t p h2).mp q; omega
    have n256 : ¬ nI (tc_ o) = (256 : Int32) := ne 256 (by decide) (by decide)
    have n257 : nI (tc_ o) ≠ (257 : Int32) := ne 257 (by decide) (by decide)
    have n258 : nI (tc_ o) ≠ (258 : Int32) := ne 258 (by decide) (by decide)
    have n259 : ¬ nI (tc_ o) = (259 : Int32) := ne 259 (by decide) (by decide)
    have n260 : nI (tc_ o) ≠ (260 : Int32) := ne 260 (by decide) (by decide)
    have n261 : nI (tc_ o) ≠ (261 : Int32) := ne 261 (by decide) (by decide)
    have two : ∀ b a r, st = b :: a :: r → ∃ v, v = dn_out (dn_op o a b) ∧
        (am_ck ((nI st.length - 1) - (1 : Int32)) 51 (am_ck (nI st.length - 1) 51 ((fn_X1_joined (nI (tc_ o)) (m.2.1 80 0 ((nI st.length - 1) - (1 : Int32)).toNatClampNeg) (m.2.1 80 0 (nI st.length - 1).toNatClampNeg) m).bind fun r48 => am_ck ((nI st.length - 1) - (1 : Int32)) 51 (am_ck ((nI st.length - 1) - (1 : Int32)) 51 ((if (lg_cmp ((am_sg m 80 0 ((nI st.length - 1) - (1 : Int32)).toNatClampNeg r48).2.1 80 0 ((nI st.length - 1) - (1 : Int32)).toNatClampNeg) (2000000000 : Int64)) ≠ 0 then lp_X1_tell_o_16 N s (nI st.length - 1) (nI k + 1) (nI i + 1) (am_sg m 80 0 ((nI st.length - 1) - (1 : Int32)).toNatClampNeg r48) else some (.inr (2000000000, am_sg m 80 0 ((nI st.length - 1) - (1 : Int32)).toNatClampNeg r48)))))))) = (if v ≠ 2000000000 then lp_X1_tell_o_16 N s (nI (r.length + 1)) (nI (k + 1)) (nI (i + 1)) (am_sg m 80 0 r.length v) else some (.inr (2000000000, am_sg m 80 0 r.length v))) := by
      intro b a r hs
      have hlen2 : st.length = r.length + 1 + 1 := by rw [hs]; rfl
      rw [hlen2] at hl ⊢
      rw [hs] at hst
      obtain ⟨hb1, ha1, hr1⟩ := hst
      have hb1 : m.2.1 80 0 (r.length + 1) = b := hb1
      refine ⟨_, rfl, ?_⟩
      rw [show nI (r.length + 1 + 1) - (1 : Int32) = nI (r.length + 1) from nI_pred _, show nI (r.length + 1) - (1 : Int32) = nI r.length from nI_pred _, ck_in (by omega) (by decide), ck_in (by omega) (by decide), nI_clamp (by omega), nI_clamp (by omega), hb1, ha1, joined_ok ho, bd_s, ck_in (by omega) (by decide), ck_in (by omega) (by decide), show (am_sg m 80 0 r.length (dn_out (dn_op o a b))).2.1 80 0 r.length = dn_out (dn_op o a b) by rw [rd_sg, if_pos ⟨rfl, rfl, rfl⟩], nI_1, nI_1]
      exact if_iff (not_congr (lg_cmp_eq _ _))
    have l1 : ∀ b a (r : List Int64), st = b :: a :: r → (1 : Int32) ≤ nI st.length ∧ (2 : Int32) ≤ nI st.length := fun b a r hs => by
      have hlen2 : st.length = r.length + 1 + 1 := by rw [hs]; rfl
      exact ⟨nI_le (a := 1) (by omega) (by omega), nI_le (a := 2) (by omega) (by omega)⟩
    refine ⟨fun k1 st1 hs => ?_, fun b a r g1 g2 g3 g4 => ?_⟩
    · obtain ⟨s1, s2, s3⟩ := ab_step_two (c := c) (env := env) (k := k) ho (by rw [hc])
      rcases st with _ | ⟨b, _ | ⟨a, r⟩⟩
      · rw [s2] at hs; cases hs
      · rw [s3] at hs; cases hs
      · rw [s1] at hs
        obtain ⟨v, hv, hrun⟩ := two b a r rfl
        cases ho2 : dn_op o a b with
        | none => rw [ho2] at hs; cases hs
        | some u =>
          rw [ho2] at hs hv
          cases hs
          have hv : v = u := hv
          subst hv
          refine ⟨am_sg m 80 0 r.length v, ?_, hkp _ _, ⟨by rw [rd_sg, if_pos ⟨rfl, rfl, rfl⟩], hst.2.2.of (fun j hj => by rw [rd_sg, if_neg (fun q => by omega)])⟩⟩
          rw [if_pos n257, if_neg n256, if_pos n258, if_pos (l1 b a r rfl).1, if_pos n261, if_neg n259, if_pos n260, if_pos (l1 b a r rfl).2, hrun, if_pos (dn_op_ne ho2)]
          rfl
    · obtain ⟨v, hv, hrun⟩ := two b a r g3
      rw [hc] at g4
      have g4 : dn_op o a b = none := g4
      rw [g4] at hv
      have hv : v = 2000000000 := hv
      refine ⟨am_sg m 80 0 r.length v, ?_, hkp _ _⟩
      rw [if_pos n257, if_neg n256, if_pos n258, if_pos (l1 b a r g3).1, if_pos n261, if_neg n259, if_pos n260, if_pos (l1 b a r g3).2, hrun, if_neg (fun q => q hv)]
  · rw [hd] at hc
    refine ⟨fun k1 st1 hs => ?_, fun _ _ _ _ g2 _ _ => absurd g2 (by rw [hc]; show ¬ 10 < 10; decide)⟩
    obtain ⟨s1, s2⟩ := ab_step_not (env := env) hc
    rcases st with _ | ⟨a, r⟩
    · rw [s2] at hs; cases hs
    · rw [s1] at hs
      cases hs
      have hl : r.length + 1 ≤ 50 := hl
      refine ⟨am_sg m 80 0 r.length (1 - a), ?_, hkp _ _, ⟨by rw [rd_sg, if_pos ⟨rfl, rfl, rfl⟩], hst.2.of (fun j hj => by rw [rd_sg, if_neg (fun q => by omega)])⟩⟩
      rw [if_pos (by decide), if_neg (by decide), if_pos (by decide), if_pos (show (1 : Int32) ≤ nI (a :: r : List Int64).length from nI_le (a := 1) (by show 1 ≤ r.length + 1; omega) (by show r.length + 1 < 2 ^ 31; omega)), if_neg (by decide), show (a :: r : List Int64).length = r.length + 1 from rfl, e29, ck_in (by omega) (by decide), ck_in (by omega) (by decide), nI_clamp (by omega), hst.1, nI_1, nI_1]
      rfl
  · rw [hd] at hc
    refine ⟨fun k1 st1 hs => ?_, fun _ _ _ _ g2 _ _ => absurd g2 (by rw [hc]; show ¬ 11 < 10; decide)⟩
    obtain ⟨s1, s2⟩ := ab_step_jmp (c := c) (env := env) (k := k) (x := 29) (y := w) (by rw [hc]; rfl)
    rcases st with _ | ⟨a, r⟩
    · rw [s2] at hs; cases hs
    · rw [s1] at hs
      have hl : r.length + 1 ≤ 50 := hl
      rw [if_pos (by decide), if_neg (by decide), if_pos (by decide), if_pos (show (1 : Int32) ≤ nI (a :: r : List Int64).length from nI_le (a := 1) (by show 1 ≤ r.length + 1; omega) (by show r.length + 1 < 2 ^ 31; omega)), if_pos (by decide), if_neg (by decide), if_neg (by decide)]
      rw [show (a :: r : List Int64).length = r.length + 1 from rfl, e29, ck_in (by omega) (by decide), nI_clamp (by omega), hst.1, if_pos (by decide), bd_s]
      by_cases ha : a = 0
      · rw [if_pos (show a = (if 29 = 29 then 0 else 1) from ha)] at hs
        cases hs
        rw [if_neg (fun q => q ((lg_cmp_eq _ _).mpr ha)), bd_s, if_neg (by decide), bd_s, if_neg (by decide), bd_s, nI_1]
        exact ⟨m, rfl, am_kp.rf, hst⟩
      · rw [if_neg (show ¬ a = (if 29 = 29 then 0 else 1) from ha)] at hs
        cases hs
        rw [if_pos (fun q => ha ((lg_cmp_eq _ _).mp q)), bd_s, if_pos rfl, bd_s, if_pos rfl, bd_s, nI_1, nI_1]
        exact ⟨m, rfl, am_kp.rf, hst.2⟩
  · rw [hd] at hc
    refine ⟨fun k1 st1 hs => ?_, fun _ _ _ _ g2 _ _ => absurd g2 (by rw [hc]; show ¬ 12 < 10; decide)⟩
    obtain ⟨s1, s2⟩ := ab_step_jmp (c := c) (env := env) (k := k) (x := 30) (y := w) (by rw [hc]; rfl)
    rcases st with _ | ⟨a, r⟩
    · rw [s2] at hs; cases hs
    · rw [s1] at hs
      have hl : r.length + 1 ≤ 50 := hl
      rw [if_pos (by decide), if_neg (by decide), if_pos (by decide), if_pos (show (1 : Int32) ≤ nI (a :: r : List Int64).length from nI_le (a := 1) (by show 1 ≤ r.length + 1; omega) (by show r.length + 1 < 2 ^ 31; omega)), if_pos (by decide), if_pos (by decide)]
      rw [show (a :: r : List Int64).length = r.length + 1 from rfl, e29, ck_in (by omega) (by decide), nI_clamp (by omega), hst.1, if_neg (by decide), bd_s]
      by_cases ha : a = 1
      · rw [if_pos (show a = (if 30 = 29 then 0 else 1) from ha)] at hs
        cases hs
        rw [if_neg (fun q => q ((lg_cmp_eq _ _).mpr ha)), bd_s, if_neg (by decide), bd_s, if_neg (by decide), bd_s, nI_1]
        exact ⟨m, rfl, am_kp.rf, hst⟩
      · rw [if_neg (show ¬ a = (if 30 = 29 then 0 else 1) from ha)] at hs
        cases hs
        rw [if_pos (fun q => ha ((lg_cmp_eq _ _).mp q)), bd_s, if_pos rfl, bd_s, if_pos rfl, bd_s, nI_1, nI_1]
        exact ⟨m, rfl, am_kp.rf, hst.2⟩
end TLp
section TEp
variable {env : Nat → Int64} {c : ab_C} {s nc : Nat}
theorem tl_to_p {lo hi H : Nat} (hhi : hi ≤ nc) (hnc : nc ≤ 448) (hH : H ≤ 50) : ∀ (j : Nat) {k i : Nat} {st : List Int64} {k' : Nat} {st' : List Int64} {m : am_m} (N : Nat), ab_to c env lo hi H j k st k' st' → cl_code (m.1 29 s) 19 c lo hi → m.1 5 s 3 = nI nc → m.2.2.2.2.2.2.1 29 s = 448 → (∀ w, w < 19 → (m.1 41 0 w).toInt64 = env w) → i ≤ k → stk (m.2.1 80 0) st → ∃ m' i', i' ≤ k' ∧ lp_X1_tell_o_16 (N + j) s (nI st.length) (nI k) (nI i) m = lp_X1_tell_o_16 N s (nI st'.length) (nI k') (nI i') m' ∧ am_kp [] [(80, 0)] 0 m m' ∧ stk (m'.2.1 80 0) st'
  | 0, k, i, st, k', st', m, N, h, hcode, h5, hlen, henv, hi0, hst => by
    obtain ⟨rfl, rfl⟩ := h
    exact ⟨m, i, hi0, rfl, am_kp.rf, hst⟩
  | j + 1, k, i, st, k', st', m, N, h, hcode, h5, hlen, henv, hi0, hst => by
    obtain ⟨g1, g2, g3, k1, st1, g4, g5, g6, g7⟩ := h
    obtain ⟨m1, e1, e2, e3⟩ := (tl_one_p h5 hlen hnc (hcode k g1 g2) henv (by omega) hi0 hst (by omega) (N + j)).1 k1 st1 g4
    have x29 : m1.1 29 = m.1 29 := e2.row 29 rfl
    have xS : m1.1 41 = m.1 41 := e2.row 41 rfl
    obtain ⟨m2, i2, f0, f1, f2, f3⟩ := tl_to_p hhi hnc hH j N g7 (by rw [x29]; exact hcode) (by rw [e2.fld 5 s 3 rfl]; exact h5) (by rw [show m1.2.2 = m.2.2 from e2.2.2]; exact hlen) (by rw [xS]; exact henv) (show i + 1 ≤ k1 by omega) e3
    exact ⟨m2, i2, f0, by rw [show N + (j + 1) = N + j + 1 by omega, e1, f1], e2.tr f2, f3⟩
theorem tl_br_p {lo hi H : Nat} (hhi : hi ≤ nc) (hnc : nc ≤ 448) (hH : H ≤ 50) : ∀ (j : Nat) {k i : Nat} {st : List Int64} {m : am_m} (N : Nat), ab_br c env lo hi H j k st → cl_code (m.1 29 s) 19 c lo hi → m.1 5 s 3 = nI nc → m.2.2.2.2.2.2.1 29 s = 448 → (∀ w, w < 19 → (m.1 41 0 w).toInt64 = env w) → i ≤ k → stk (m.2.1 80 0) st → ∃ m', lp_X1_tell_o_16 (N + (j + 1)) s (nI st.length) (nI k) (nI i) m = some (.inr (2000000000, m')) ∧ am_kp [] [(80, 0)] 0 m m'
  | 0, k, i, st, m, N, h, hcode, h5, hlen, henv, hi0, hst => by
    obtain ⟨g1, g2, g3, g4, g5, y, x, r, g6, g7⟩ := h
    exact (tl_one_p h5 hlen hnc (hcode k g1 g2) henv (by omega) hi0 hst (by omega) N).2 y x r g4 g5 g6 g7
  | j + 1, k, i, st, m, N, h, hcode, h5, hlen, henv, hi0, hst => by
    obtain ⟨g1, g2, g3, k1, st1, g4, g5, g6, g7⟩ := h
    obtain ⟨m1, e1, e2, e3⟩ := (tl_one_p h5 hlen hnc (hcode k g1 g2) henv (by omega) hi0 hst (by omega) (N + (j + 1))).1 k1 st1 g4
    have x29 : m1.1 29 = m.1 29 := e2.row 29 rfl
    have xS : m1.1 41 = m.1 41 := e2.row 41 rfl
    obtain ⟨m2, f1, f2⟩ := tl_br_p hhi hnc hH j N g7 (by rw [x29]; exact hcode) (by rw [e2.fld 5 s 3 rfl]; exact h5) (by rw [show m1.2.2 = m.2.2 from e2.2.2]; exact hlen) (by rw [xS]; exact henv) (show i + 1 ≤ k1 by omega) e3
    exact ⟨m2, by rw [show N + (j + 1 + 1) = N + (j + 1) + 1 by omega, e1, f1], e2.tr f2⟩
/-- what tell answers -/
theorem tell_ok_p {m : am_m} {a : Int32} {o : Option dn} (h5 : m.1 5 s 3 = nI nc) (hlen : m.2.2.2.2.2.2.1 29 s = 448) (hok : cl_ok (m.1 29 s) 19 nc a o) (henv : ∀ w, w < 19 → (m.1 41 0 w).toInt64 = env w) : ∃ m', fn_X1_tell_o s a m = some (tl_val o env, m') ∧ am_kp [] [(80, 0)] 0 m m' := by
  unfold fn_X1_tell_o
  cases o with
  | none =>
    have hok : a = -1 := hok
    rw [if_neg (fun q => q hok)]
    exact ⟨m, rfl, am_kp.rf⟩
  | some f =>
    obtain ⟨x, y, h, c, rfl, hy, hnc, hh, hcode, hstop, hseg⟩ := hok
    have hx := hseg.1
    have hne : nI x ≠ (-1 : Int32) := fun q => by
      have h1 : (nI x).toInt = (-1 : Int32).toInt := congrArg Int32.toInt q
      rw [nI_toInt (by omega)] at h1
      have h1 : (x : Int) = -1 := h1
      omega
    rw [if_pos hne]
    have hs := hseg.2.2 env []
    cases hf : f env with
    | some v =>
      rw [hf] at hs
      obtain ⟨j, hj⟩ := hs
      have hj1 : j ≤ 448 := by
        rcases ab_to_len j hj (Nat.le_of_lt hx) with q | q
        · omega
        · omega
      obtain ⟨m1, i1, e0, e1, e2, e3⟩ := tl_to_p (s := s) (nc := nc) (Nat.le_of_lt hy) hnc (show ([] : List Int64).length + h ≤ 50 by show 0 + h ≤ 50; omega) j (i := 0) (1000000 - j) hj hcode h5 hlen henv (Nat.zero_le _) trivial
      rw [show 1000000 - j + j = 1000000 by omega] at e1
      have x29 : m1.1 29 = m.1 29 := e2.row 29 rfl
      have e5 : lp_X1_tell_o_16 (1000000 - j) s (nI [v].length) (nI y) (nI i1) m1 = some (.inr (v.toInt32, m1)) := by
        rw [show 1000000 - j = (999999 - j) + 1 by omega]
        rw [lp_X1_tell_o_16.eq_2]
        rw [e2.fld 5 s 3 rfl, h5, if_neg (show ¬ nI nc ≤ nI i1 from nI_ge (by omega) (by omega)), if_neg (show ¬ nI y < 0 from nI_pos (by omega)), if_neg (show ¬ nI nc ≤ nI y from nI_ge (by omega) (by omega)), show m1.2.2 = m.2.2 from e2.2.2, hlen, ck_in (show y < 448 by omega) (by decide), nI_clamp (by omega), x29, hstop, show nI 257 &&& (511 : Int32) = nI 257 by decide, bd_s, ck_in (show y < 448 by omega) (by decide), bd_s, if_neg (show ¬ nI 257 ≠ (257 : Int32) by decide), if_neg (show ¬ nI [v].length ≠ (1 : Int32) by show ¬ nI 1 ≠ (1 : Int32); decide), show m1.2.1 80 0 0 = v from e3.1]
      have e6 : lp_X1_tell_o_16 1000000 s 0 (nI x) 0 m = some (.inr (v.toInt32, m1)) := e1.trans e5
      rw [e6, bd_s]
      exact ⟨m1, by unfold tl_val; simp only [hf], e2⟩
    | none =>
      rw [hf] at hs
      obtain ⟨j, hj⟩ := hs
      have hj1 := ab_br_len j hj
      obtain ⟨m1, e1, e2⟩ := tl_br_p (s := s) (nc := nc) (Nat.le_of_lt hy) hnc (show ([] : List Int64).length + h ≤ 50 by show 0 + h ≤ 50; omega) j (i := 0) (1000000 - (j + 1)) hj hcode h5 hlen henv (Nat.zero_le _) trivial
      rw [show 1000000 - (j + 1) + (j + 1) = 1000000 by omega] at e1
      have e6 : lp_X1_tell_o_16 1000000 s 0 (nI x) 0 m = some (.inr (2000000000, m1)) := e1
      rw [e6, bd_s]
      exact ⟨m1, by unfold tl_val; simp only [hf], e2⟩
end TEp
