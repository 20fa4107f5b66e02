/-! the class's tell tells what its code tells: by program (wip/whole/gen/tell.py) -/
def tc_ (o : Nat) : Nat := [43, 45, 42, 47, 37, 60, 62, 61].getD o 0
def dn_out (o : Option Int64) : Int64 := o.getD 2000000000
theorem dn_rng (v : Int64) : (if 0 < (lg_cmp v (1000000000 : Int64)) then some (2000000000 : Int64) else (if 0 ≤ (lg_cmp v (-1000000000 : Int64)) then some v else some 2000000000)) = some (dn_out (dn_in v)) := by
  have h3 : ∀ p q : Int64, p < q ↔ ¬ q ≤ p := fun p q => by rw [fa_lt64, fa_le64]; omega
  rw [if_iff (lg_cmp_gt _ _), if_iff (lg_cmp_ge _ _)]
  unfold dn_in
  by_cases h1 : (1000000000 : Int64) < v
  · rw [if_pos h1, if_pos (Or.inr h1)]
    rfl
  · by_cases h2 : (-1000000000 : Int64) ≤ v
    · rw [if_neg h1, if_pos h2, if_neg (fun q => q.elim (fun z => (h3 _ _).mp z h2) h1)]
      rfl
    · rw [if_neg h1, if_neg h2, if_pos (Or.inl ((h3 _ _).mpr h2))]
      rfl
theorem dn_out_01 {c : Prop} [Decidable c] : dn_out (dn_in (if c then 1 else 0)) = dn_out (some (if c then 1 else 0)) := by
  by_cases h : c
  · rw [if_pos h]; rfl
  · rw [if_neg h]; rfl
theorem joined_ok {o : Nat} (ho : o < 8) (a b : Int64) (m : am_m) : fn_X1_joined (nI (tc_ o)) a b m = some (dn_out (dn_op o a b)) := by
  have h3 : ∀ p q : Int64, p < q ↔ ¬ q ≤ p := fun p q => by rw [fa_lt64, fa_le64]; omega
  unfold fn_X1_joined
  match o, ho with
  | 0, _ =>
    rw [if_neg (by decide), if_neg (by decide), if_pos (by decide), bd_s, dn_rng]
    rfl
  | 1, _ =>
    rw [if_neg (by decide), if_neg (by decide), if_neg (by decide), if_pos (by decide), bd_s, dn_rng]
    rfl
  | 2, _ =>
    rw [if_neg (by decide), if_pos (by decide), bd_s, dn_rng]
    rfl
  | 3, _ =>
    rw [if_neg (by decide), if_neg (by decide), if_neg (by decide), if_neg (by decide), if_pos (by decide)]
    by_cases h0 : b = 0
    · rw [if_neg (fun q => q ((lg_cmp_eq b 0).mpr h0)), bd_s, bd_s, dn_rng, show dn_op 3 a b = none from if_pos h0]
      decide
    · rw [if_pos (fun q => h0 ((lg_cmp_eq b 0).mp q)), gd_t h0, bd_s, bd_s, dn_rng, show dn_op 3 a b = dn_in (a / b) from if_neg h0]
  | 4, _ =>
    rw [if_pos (by decide)]
    by_cases h0 : b = 0
    · rw [if_neg (fun q => q ((lg_cmp_eq b 0).mpr h0)), bd_s, bd_s, dn_rng, show dn_op 4 a b = none from if_pos h0]
      decide
    · rw [if_pos (fun q => h0 ((lg_cmp_eq b 0).mp q)), gd_t h0, bd_s, bd_s, dn_rng, show dn_op 4 a b = dn_in (a - a / b * b) from if_neg h0]
  | 5, _ =>
    rw [if_neg (by decide), if_neg (by decide), if_neg (by decide), if_neg (by decide), if_neg (by decide), if_pos (by decide)]
    have e : (if 0 ≤ (lg_cmp a b) then some (0 : Int64) else some (1 : Int64)) = some (if a < b then 1 else 0) := by
      rw [if_iff (lg_cmp_ge _ _)]
      by_cases h : b ≤ a
      · rw [if_pos h, if_neg (fun q => (h3 _ _).mp q h)]
      · rw [if_neg h, if_pos ((h3 _ _).mpr h)]
    rw [e, bd_s, bd_s, dn_rng, dn_out_01]
    rfl
  | 6, _ =>
    rw [if_neg (by decide), if_neg (by decide), if_neg (by decide), if_neg (by decide), if_neg (by decide), if_neg (by decide), if_pos (by decide)]
    have e : (if (lg_cmp a b) ≤ 0 then some (0 : Int64) else some (1 : Int64)) = some (if b < a then 1 else 0) := by
      rw [if_iff (lg_cmp_le _ _)]
      by_cases h : a ≤ b
      · rw [if_pos h, if_neg (fun q => (h3 _ _).mp q h)]
      · rw [if_neg h, if_pos ((h3 _ _).mpr h)]
    rw [e, bd_s, bd_s, dn_rng, dn_out_01]
    rfl
  | 7, _ =>
    rw [if_neg (by decide), if_neg (by decide), if_neg (by decide), if_neg (by decide), if_neg (by decide), if_neg (by decide), if_neg (by decide)]
    have e : (if (lg_cmp a b) ≠ 0 then some (0 : Int64) else some (1 : Int64)) = some (if a = b then 1 else 0) := by
      by_cases h : a = b
      · rw [if_neg (fun q => q ((lg_cmp_eq a b).mpr h)), if_pos h]
      · rw [if_pos (fun q => h ((lg_cmp_eq a b).mp q)), if_neg h]
    rw [e, bd_s, bd_s, dn_rng, dn_out_01]
    rfl
  | o + 8, h => exact absurd h (by omega)
theorem dn_op_ne {o : Nat} {a b v : Int64} (h : dn_op o a b = some v) : v ≠ 2000000000 := by
  have hin : ∀ w : Int64, dn_in w = some v → v ≠ 2000000000 := by
    intro w hw he
    unfold dn_in at hw
    by_cases hc : w < -1000000000 ∨ 1000000000 < w
    · rw [if_pos hc] at hw; cases hw
    · rw [if_neg hc] at hw
      cases hw
      exact hc (Or.inr (by rw [he]; decide))
  have h01 : ∀ {c : Prop} [Decidable c], some (if c then (1 : Int64) else 0) = some v → v ≠ 2000000000 := by
    intro c _ hw
    by_cases hc : c
    · rw [if_pos hc] at hw; cases hw; decide
    · rw [if_neg hc] at hw; cases hw; decide
  match o, h with
  | 0, h => exact hin _ h
  | 1, h => exact hin _ h
  | 2, h => exact hin _ h
  | 3, h =>
    have h : (if b = 0 then none else dn_in (a / b)) = some v := h
    by_cases hb : b = 0
    · rw [if_pos hb] at h; cases h
    · rw [if_neg hb] at h; exact hin _ h
  | 4, h =>
    have h : (if b = 0 then none else dn_in (a - a / b * b)) = some v := h
    by_cases hb : b = 0
    · rw [if_pos hb] at h; cases h
    · rw [if_neg hb] at h; exact hin _ h
  | 5, h => exact h01 h
  | 6, h => exact h01 h
  | o + 7, h => exact h01 h
/-- what tell answers of a SUM or TEST (none: there is none) -/
def tl_val (o : Option dn) (env : Nat → Int64) : Int32 := match o with
  | some f => (match f env with
    | some v => v.toInt32
    | none => 2000000000)
  | none => 1
theorem cc_cases {t w : Nat} (h : (cc_dec t w).1 < 13) : (t = 256 ∧ cc_dec t w = (0, w)) ∨ (t = 258 ∧ cc_dec t w = (1, w)) ∨ (∃ o, o < 8 ∧ t = tc_ o ∧ cc_dec t w = (o + 2, 0)) ∨ (t = 261 ∧ cc_dec t w = (10, 0)) ∨ (t = 260 ∧ cc_dec t w = (11, w)) ∨ (t = 259 ∧ cc_dec t w = (12, w)) := by
  by_cases e1 : t = 256
  · subst e1; exact Or.inl ⟨rfl, rfl⟩
  by_cases e2 : t = 258
  · subst e2; exact Or.inr (Or.inl ⟨rfl, rfl⟩)
  by_cases e3 : t = 43
  · subst e3; exact Or.inr (Or.inr (Or.inl ⟨0, by decide, rfl, rfl⟩))
  by_cases e4 : t = 45
  · subst e4; exact Or.inr (Or.inr (Or.inl ⟨1, by decide, rfl, rfl⟩))
  by_cases e5 : t = 42
  · subst e5; exact Or.inr (Or.inr (Or.inl ⟨2, by decide, rfl, rfl⟩))
  by_cases e6 : t = 47
  · subst e6; exact Or.inr (Or.inr (Or.inl ⟨3, by decide, rfl, rfl⟩))
  by_cases e7 : t = 37
  · subst e7; exact Or.inr (Or.inr (Or.inl ⟨4, by decide, rfl, rfl⟩))
  by_cases e8 : t = 60
  · subst e8; exact Or.inr (Or.inr (Or.inl ⟨5, by decide, rfl, rfl⟩))
  by_cases e9 : t = 62
  · subst e9; exact Or.inr (Or.inr (Or.inl ⟨6, by decide, rfl, rfl⟩))
  by_cases e10 : t = 61
  · subst e10; exact Or.inr (Or.inr (Or.inl ⟨7, by decide, rfl, rfl⟩))
  by_cases e11 : t = 261
  · subst e11; exact Or.inr (Or.inr (Or.inr (Or.inl ⟨rfl, rfl⟩)))
  by_cases e12 : t = 260
  · subst e12; exact Or.inr (Or.inr (Or.inr (Or.inr (Or.inl ⟨rfl, rfl⟩))))
  by_cases e13 : t = 259
  · subst e13; exact Or.inr (Or.inr (Or.inr (Or.inr (Or.inr ⟨rfl, rfl⟩))))
  exfalso
  unfold cc_dec at h
  rw [if_neg e1, if_neg e2, if_neg e3, if_neg e4, if_neg e5, if_neg e6, if_neg e7, if_neg e8, if_neg e9, if_neg e10, if_neg e11, if_neg e12, if_neg e13] at h
  exact absurd h (by show ¬ 13 < 13; decide)
theorem tc_lt : ∀ o, o < 8 → tc_ o < 256 := by decide
theorem cc_and {t w : Nat} (ht : t < 512) (hw : w ≤ 1000) : nI (512 * w + t) &&& (511 : Int32) = nI t := by
  rw [pk_andN (by omega) 9 (by decide), show (512 * w + t) % 2 ^ 9 = t by omega]
theorem cc_shr {t w : Nat} (ht : t < 512) (hw : w ≤ 1000) : nI (512 * w + t) >>> ((9 : Int32) &&& 31) = nI w := by
  rw [pk_shrN (by omega) _ 9 (by decide), show (512 * w + t) / 2 ^ 9 = w by omega]
theorem ab_step_n {c : ab_C} {env : Nat → Int64} {k w : Nat} {st : List Int64} (hd : c k = (0, w)) : ab_step c env k st = some (k + 1, lN w :: st) := by
  unfold ab_step
  rw [hd]
  rfl
theorem ab_step_w {c : ab_C} {env : Nat → Int64} {k w : Nat} {st : List Int64} (hd : c k = (1, w)) : ab_step c env k st = some (k + 1, env w :: st) := by
  unfold ab_step
  rw [hd]
  rfl
theorem ab_step_not {c : ab_C} {env : Nat → Int64} {k : Nat} (hd : c k = (10, 0)) : (∀ a r, ab_step c env k (a :: r) = some (k + 1, (1 - a) :: r)) ∧ ab_step c env k [] = none := by
  refine ⟨fun a r => ?_, ?_⟩
  · unfold ab_step
    rw [hd]
    rfl
  · unfold ab_step
    rw [hd]
    rfl
section TLl
variable {m : am_m} {env : Nat → Int64} {c : ab_C} {s k i nc : Nat} {st : List Int64}
set_option maxHeartbeats 4000000 in
theorem tl_one_l (h5 : m.1 5 s 3 = nI nc) (hlen : m.2.2.2.2.2.2.1 29 s = nc) (hnc : nc ≤ 448) (hcell : ∃ t w, m.1 29 s k = nI (512 * w + t) ∧ t < 512 ∧ w ≤ 1000 ∧ c k = cc_dec t w ∧ (c k).1 < 13 ∧ (t = 258 → w < 8)) (henv : ∀ w, w < 8 → (m.1 20 0 w).toInt64 = env w) (hk : k < nc) (hi : i ≤ k) (hst : stk (m.2.1 80 0) st) (hl : st.length ≤ 50) (N : Nat) :
    (∀ k1 st1, ab_step c env k st = some (k1, st1) → ∃ m', lp_X1_tell_l_16 (N + 1) s (nI st.length) (nI k) (nI i) m = lp_X1_tell_l_16 N s (nI st1.length) (nI k1) (nI (i + 1)) m' ∧ am_kp [] [(80, 0)] 0 m m' ∧ stk (m'.2.1 80 0) st1) ∧
    (∀ y x r, 2 ≤ (c k).1 → (c k).1 < 10 → st = y :: x :: r → dn_op ((c k).1 - 2) x y = none → ∃ m', lp_X1_tell_l_16 (N + 1) s (nI st.length) (nI k) (nI i) m = some (.inr (2000000000, m')) ∧ am_kp [] [(80, 0)] 0 m m') := by
  obtain ⟨t, w, hx, ht, hw, hc, h13, hword⟩ := hcell
  have c1 : ¬ nI nc ≤ nI i := nI_ge (by omega) (by omega)
  have c2 : ¬ nI k < 0 := nI_pos (by omega)
  have c3 : ¬ nI nc ≤ nI k := nI_ge (by omega) (by omega)
  have hk29 : (nI k).toNatClampNeg = k := nI_clamp (by omega)
  have hpre : ∀ {α : Type} (o : Option α), am_ck (nI k) (m.2.2.2.2.2.2.1 29 s) o = o := fun o => by rw [hlen]; exact ck_in hk (by omega)
  have eq_t : ∀ p : Nat, p < 600 → ((nI t = nI p) ↔ t = p) := fun p hp => nI_eq (by omega) (by omega)
  have w0 : ¬ nI w < 0 := nI_pos (by omega)
  have l51 : ¬ (Int32.ofNat 51) ≤ nI st.length := nI_ge (a := st.length) (b := 51) (by omega) (by decide)
  have hkp : ∀ (j : Nat) (v : Int64), am_kp [] [(80, 0)] 0 m (am_sg m 80 0 j v) := fun j v => am_kp.sg am_kp.rf rfl
  have hstk : ∀ v : Int64, stk ((am_sg m 80 0 st.length v).2.1 80 0) (v :: st) := fun v => ⟨by rw [rd_sg, if_pos ⟨rfl, rfl, rfl⟩], hst.of (fun j hj => by rw [rd_sg, if_neg (fun q => by omega)])⟩
  have hpush : ∀ v : Int64, am_ck (nI st.length) 51 (lp_X1_tell_l_16 N s (nI st.length + 1) (nI k + 1) (nI i + 1) (am_sg m 80 0 (nI st.length).toNatClampNeg v)) = lp_X1_tell_l_16 N s (nI (v :: st).length) (nI (k + 1)) (nI (i + 1)) (am_sg m 80 0 st.length v) := fun v => by
    rw [ck_in (by omega) (by decide), nI_1, nI_1, nI_1, nI_clamp (by omega)]
    rfl
  have e29 : ∀ r : List Int64, nI (r.length + 1) - (1 : Int32) = nI r.length := fun r => nI_pred _
  rw [lp_X1_tell_l_16.eq_2]
  rw [h5, if_neg c1, if_neg c2, if_neg c3, hpre, hk29, hx, cc_and ht hw, bd_s, hpre, cc_shr ht hw, bd_s]
  rw [hc] at h13
  rcases cc_cases h13 with ⟨rfl, hd⟩ | ⟨rfl, hd⟩ | ⟨o, ho, rfl, hd⟩ | ⟨rfl, hd⟩ | ⟨rfl, hd⟩ | ⟨rfl, hd⟩
  · rw [hd] at hc
    refine ⟨fun k1 st1 hs => ?_, fun _ _ _ g1 _ _ _ => absurd g1 (by rw [hc]; show ¬ 2 ≤ 0; decide)⟩
    rw [ab_step_n hc] at hs
    cases hs
    refine ⟨am_sg m 80 0 st.length (lN w), ?_, hkp _ _, hstk _⟩
    rw [if_pos (by decide), if_pos (by decide), if_neg l51, if_neg w0, if_pos (by decide), if_neg (by decide), bd_s, hpush, nI_l (by omega)]
  · rw [hd] at hc
    refine ⟨fun k1 st1 hs => ?_, fun _ _ _ g1 _ _ _ => absurd g1 (by rw [hc]; show ¬ 2 ≤ 1; decide)⟩
    rw [ab_step_w hc] at hs
    cases hs
    have hw8 := hword rfl
    refine ⟨am_sg m 80 0 st.length (env w), ?_, hkp _ _, hstk _⟩
    rw [if_pos (by decide), if_neg (by decide), if_neg (by decide), if_neg l51, if_neg w0, if_neg (by decide), if_pos (show nI w < Int32.ofNat 8 from nI_lt (b := 8) hw8 (by decide)), if_pos (by decide), ck_in hw8 (by decide), nI_clamp (by omega), bd_s, hpush, henv w hw8]
  · rw [hd] at hc
    have htl := tc_lt o ho
    have ne : ∀ p : Nat, 256 ≤ p → p < 600 → nI (tc_ o) ≠ nI p := fun p h1 h2 q => by have := (eq_t p h2).mp q; omega
    have n256 : ¬ nI (tc_ o) = (256 : Int32) := ne 256 (by decide) (by decide)
    have n257 : nI (tc_ o) ≠ (257 : Int32) := ne 257 (by decide) (by decide)
    have n258 : nI (tc_ o) ≠ (258 : Int32) := ne 258 (by decide) (by decide)
    have n259 : ¬ nI (tc_ o) = (259 : Int32) := ne 259 (by decide) (by decide)
    have n260 : nI (tc_ o) ≠ (260 : Int32) := ne 260 (by decide) (by decide)
    have n261 : nI (tc_ o) ≠ (261 : Int32) := ne 261 (by decide) (by decide)
    have two : ∀ b a r, st = b :: a :: r → ∃ v, v = dn_out (dn_op o a b) ∧
        (am_ck ((nI st.length - 1) - (1 : Int32)) 51 (am_ck (nI st.length - 1) 51 ((fn_X1_joined (nI (tc_ o)) (m.2.1 80 0 ((nI st.length - 1) - (1 : Int32)).toNatClampNeg) (m.2.1 80 0 (nI st.length - 1).toNatClampNeg) m).bind fun r48 => am_ck ((nI st.length - 1) - (1 : Int32)) 51 (am_ck ((nI st.length - 1) - (1 : Int32)) 51 ((if (lg_cmp ((am_sg m 80 0 ((nI st.length - 1) - (1 : Int32)).toNatClampNeg r48).2.1 80 0 ((nI st.length - 1) - (1 : Int32)).toNatClampNeg) (2000000000 : Int64)) ≠ 0 then lp_X1_tell_l_16 N s (nI st.length - 1) (nI k + 1) (nI i + 1) (am_sg m 80 0 ((nI st.length - 1) - (1 : Int32)).toNatClampNeg r48) else some (.inr (2000000000, am_sg m 80 0 ((nI st.length - 1) - (1 : Int32)).toNatClampNeg r48)))))))) = (if v ≠ 2000000000 then lp_X1_tell_l_16 N s (nI (r.length + 1)) (nI (k + 1)) (nI (i + 1)) (am_sg m 80 0 r.length v) else some (.inr (2000000000, am_sg m 80 0 r.length v))) := by
      intro b a r hs
      have hlen2 : st.length = r.length + 1 + 1 := by rw [hs]; rfl
      rw [hlen2] at hl ⊢
      rw [hs] at hst
      obtain ⟨hb1, ha1, hr1⟩ := hst
      have hb1 : m.2.1 80 0 (r.length + 1) = b := hb1
      refine ⟨_, rfl, ?_⟩
      rw [show nI (r.length + 1 + 1) - (1 : Int32) = nI (r.length + 1) from nI_pred _, show nI (r.length + 1) - (1 : Int32) = nI r.length from nI_pred _, ck_in (by omega) (by decide), ck_in (by omega) (by decide), nI_clamp (by omega), nI_clamp (by omega), hb1, ha1, joined_ok ho, bd_s, ck_in (by omega) (by decide), ck_in (by omega) (by decide), show (am_sg m 80 0 r.length (dn_out (dn_op o a b))).2.1 80 0 r.length = dn_out (dn_op o a b) by rw [rd_sg, if_pos ⟨rfl, rfl, rfl⟩], nI_1, nI_1]
      exact if_iff (not_congr (lg_cmp_eq _ _))
    have l1 : ∀ b a (r : List Int64), st = b :: a :: r → (1 : Int32) ≤ nI st.length ∧ (2 : Int32) ≤ nI st.length := fun b a r hs => by
      have hlen2 : st.length = r.length + 1 + 1 := by rw [hs]; rfl
      exact ⟨nI_le (a := 1) (by omega) (by omega), nI_le (a := 2) (by omega) (by omega)⟩
    refine ⟨fun k1 st1 hs => ?_, fun b a r g1 g2 g3 g4 => ?_⟩
    · obtain ⟨s1, s2, s3⟩ := ab_step_two (c := c) (env := env) (k := k) ho (by rw [hc])
      rcases st with _ | ⟨b, _ | ⟨a, r⟩⟩
      · rw [s2] at hs; cases hs
      · rw [s3] at hs; cases hs
      · rw [s1] at hs
        obtain ⟨v, hv, hrun⟩ := two b a r rfl
        cases ho2 : dn_op o a b with
        | none => rw [ho2] at hs; cases hs
        | some u =>
          rw [ho2] at hs hv
          cases hs
          have hv : v = u := hv
          subst hv
          refine ⟨am_sg m 80 0 r.length v, ?_, hkp _ _, ⟨by rw [rd_sg, if_pos ⟨rfl, rfl, rfl⟩], hst.2.2.of (fun j hj => by rw [rd_sg, if_neg (fun q => by omega)])⟩⟩
          rw [if_pos n257, if_neg n256, if_pos n258, if_pos (l1 b a r rfl).1, if_pos n261, if_neg n259, if_pos n260, if_pos (l1 b a r rfl).2, hrun, if_pos (dn_op_ne ho2)]
          rfl
    · obtain ⟨v, hv, hrun⟩ := two b a r g3
      rw [hc] at g4
      have g4 : dn_op o a b = none := g4
      rw [g4] at hv
      have hv : v = 2000000000 := hv
      refine ⟨am_sg m 80 0 r.length v, ?_, hkp _ _⟩
      rw [if_pos n257, if_neg n256, if_pos n258, if_pos (l1 b a r g3).1, if_pos n261, if_neg n259, if_pos n260, if_pos (l1 b a r g3).2, hrun, if_neg (fun q => q hv)]
  · rw [hd] at hc
    refine ⟨fun k1 st1 hs => ?_, fun _ _ _ _ g2 _ _ => absurd g2 (by rw [hc]; show ¬ 10 < 10; decide)⟩
    obtain ⟨s1, s2⟩ := ab_step_not (env := env) hc
    rcases st with _ | ⟨a, r⟩
    · rw [s2] at hs; cases hs
    · rw [s1] at hs
      cases hs
      have hl : r.length + 1 ≤ 50 := hl
      refine ⟨am_sg m 80 0 r.length (1 - a), ?_, hkp _ _, ⟨by rw [rd_sg, if_pos ⟨rfl, rfl, rfl⟩], hst.2.of (fun j hj => by rw [rd_sg, if_neg (fun q => by omega)])⟩⟩
      rw [if_pos (by decide), if_neg (by decide), if_pos (by decide), if_pos (show (1 : Int32) ≤ nI (a :: r : List Int64).length from nI_le (a := 1) (by show 1 ≤ r.length + 1; omega) (by show r.length + 1 < 2 ^ 31; omega)), if_neg (by decide), show (a :: r : List Int64).length = r.length + 1 from rfl, e29, ck_in (by omega) (by decide), ck_in (by omega) (by decide), nI_clamp (by omega), hst.1, nI_1, nI_1]
      rfl
  · rw [hd] at hc
    refine ⟨fun k1 st1 hs => ?_, fun _ _ _ _ g2 _ _ => absurd g2 (by rw [hc]; show ¬ 11 < 10; decide)⟩
    obtain ⟨s1, s2⟩ := ab_step_jmp (c := c) (env := env) (k := k) (x := 29) (y := w) (by rw [hc]; rfl)
    rcases st with _ | ⟨a, r⟩
    · rw [s2] at hs; cases hs
    · rw [s1] at hs
      have hl : r.length + 1 ≤ 50 := hl
      rw [if_pos (by decide), if_neg (by decide), if_pos (by decide), if_pos (show (1 : Int32) ≤ nI (a :: r : List Int64).length from nI_le (a := 1) (by show 1 ≤ r.length + 1; omega) (by show r.length + 1 < 2 ^ 31; omega)), if_pos (by decide), if_neg (by decide), if_neg (by decide)]
      rw [show (a :: r : List Int64).length = r.length + 1 from rfl, e29, ck_in (by omega) (by decide), nI_clamp (by omega), hst.1, if_pos (by decide), bd_s]
      by_cases ha : a = 0
      · rw [if_pos (show a = (if 29 = 29 then 0 else 1) from ha)] at hs
        cases hs
        rw [if_neg (fun q => q ((lg_cmp_eq _ _).mpr ha)), bd_s, if_neg (by decide), bd_s, if_neg (by decide), bd_s, nI_1]
        exact ⟨m, rfl, am_kp.rf, hst⟩
      · rw [if_neg (show ¬ a = (if 29 = 29 then 0 else 1) from ha)] at hs
        cases hs
        rw [if_pos (fun q => ha ((lg_cmp_eq _ _).mp q)), bd_s, if_pos rfl, bd_s, if_pos rfl, bd_s, nI_1, nI_1]
        exact ⟨m, rfl, am_kp.rf, hst.2⟩
  · rw [hd] at hc
    refine ⟨fun k1 st1 hs => ?_, fun _ _ _ _ g2 _ _ => absurd g2 (by rw [hc]; show ¬ 12 < 10; decide)⟩
    obtain ⟨s1, s2⟩ := ab_step_jmp (c := c) (env := env) (k := k) (x := 30) (y := w) (by rw [hc]; rfl)
    rcases st with _ | ⟨a, r⟩
    · rw [s2] at hs; cases hs
    · rw [s1] at hs
      have hl : r.length + 1 ≤ 50 := hl
      rw [if_pos (by decide), if_neg (by decide), if_pos (by decide), if_pos (show (1 : Int32) ≤ nI (a :: r : List Int64).length from nI_le (a := 1) (by show 1 ≤ r.length + 1; omega) (by show r.length + 1 < 2 ^ 31; omega)), if_pos (by decide), if_pos (by decide)]
      rw [show (a :: r : List Int64).length = r.length + 1 from rfl, e29, ck_in (by omega) (by decide), nI_clamp (by omega), hst.1, if_neg (by decide), bd_s]
      by_cases ha : a = 1
      · rw [if_pos (show a = (if 30 = 29 then 0 else 1) from ha)] at hs
        cases hs
        rw [if_neg (fun q => q ((lg_cmp_eq _ _).mpr ha)), bd_s, if_neg (by decide), bd_s, if_neg (by decide), bd_s, nI_1]
        exact ⟨m, rfl, am_kp.rf, hst⟩
      · rw [if_neg (show ¬ a = (if 30 = 29 then 0 else 1) from ha)] at hs
        cases hs
        rw [if_pos (fun q => ha ((lg_cmp_eq _ _).mp q)), bd_s, if_pos rfl, bd_s, if_pos rfl, bd_s, nI_1, nI_1]
        exact ⟨m, rfl, am_kp.rf, hst.2⟩
end TLl
section TEl
variable {env : Nat → Int64} {c : ab_C} {s nc : Nat}
theorem tl_to_l {lo hi H : Nat} (hhi : hi ≤ nc) (hnc : nc ≤ 448) (hH : H ≤ 50) : ∀ (j : Nat) {k i : Nat} {st : List Int64} {k' : Nat} {st' : List Int64} {m : am_m} (N : Nat), ab_to c env lo hi H j k st k' st' → cl_code (m.1 29 s) 8 c lo hi → m.1 5 s 3 = nI nc → m.2.2.2.2.2.2.1 29 s = nc → (∀ w, w < 8 → (m.1 20 0 w).toInt64 = env w) → i ≤ k → stk (m.2.1 80 0) st → ∃ m' i', i' ≤ k' ∧ lp_X1_tell_l_16 (N + j) s (nI st.length) (nI k) (nI i) m = lp_X1_tell_l_16 N s (nI st'.length) (nI k') (nI i') m' ∧ am_kp [] [(80, 0)] 0 m m' ∧ stk (m'.2.1 80 0) st'
  | 0, k, i, st, k', st', m, N, h, hcode, h5, hlen, henv, hi0, hst => by
    obtain ⟨rfl, rfl⟩ := h
    exact ⟨m, i, hi0, rfl, am_kp.rf, hst⟩
  | j + 1, k, i, st, k', st', m, N, h, hcode, h5, hlen, henv, hi0, hst => by
    obtain ⟨g1, g2, g3, k1, st1, g4, g5, g6, g7⟩ := h
    obtain ⟨m1, e1, e2, e3⟩ := (tl_one_l h5 hlen hnc (hcode k g1 g2) henv (by omega) hi0 hst (by omega) (N + j)).1 k1 st1 g4
    have x29 : m1.1 29 = m.1 29 := e2.row 29 rfl
    have xS : m1.1 20 = m.1 20 := e2.row 20 rfl
    obtain ⟨m2, i2, f0, f1, f2, f3⟩ := tl_to_l hhi hnc hH j N g7 (by rw [x29]; exact hcode) (by rw [e2.fld 5 s 3 rfl]; exact h5) (by rw [show m1.2.2 = m.2.2 from e2.2.2]; exact hlen) (by rw [xS]; exact henv) (show i + 1 ≤ k1 by omega) e3
    exact ⟨m2, i2, f0, by rw [show N + (j + 1) = N + j + 1 by omega, e1, f1], e2.tr f2, f3⟩
theorem tl_br_l {lo hi H : Nat} (hhi : hi ≤ nc) (hnc : nc ≤ 448) (hH : H ≤ 50) : ∀ (j : Nat) {k i : Nat} {st : List Int64} {m : am_m} (N : Nat), ab_br c env lo hi H j k st → cl_code (m.1 29 s) 8 c lo hi → m.1 5 s 3 = nI nc → m.2.2.2.2.2.2.1 29 s = nc → (∀ w, w < 8 → (m.1 20 0 w).toInt64 = env w) → i ≤ k → stk (m.2.1 80 0) st → ∃ m', lp_X1_tell_l_16 (N + (j + 1)) s (nI st.length) (nI k) (nI i) m = some (.inr (2000000000, m')) ∧ am_kp [] [(80, 0)] 0 m m'
  | 0, k, i, st, m, N, h, hcode, h5, hlen, henv, hi0, hst => by
    obtain ⟨g1, g2, g3, g4, g5, y, x, r, g6, g7⟩ := h
    exact (tl_one_l h5 hlen hnc (hcode k g1 g2) henv (by omega) hi0 hst (by omega) N).2 y x r g4 g5 g6 g7
  | j + 1, k, i, st, m, N, h, hcode, h5, hlen, henv, hi0, hst => by
    obtain ⟨g1, g2, g3, k1, st1, g4, g5, g6, g7⟩ := h
    obtain ⟨m1, e1, e2, e3⟩ := (tl_one_l h5 hlen hnc (hcode k g1 g2) henv (by omega) hi0 hst (by omega) (N + (j + 1))).1 k1 st1 g4
    have x29 : m1.1 29 = m.1 29 := e2.row 29 rfl
    have xS : m1.1 20 = m.1 20 := e2.row 20 rfl
    obtain ⟨m2, f1, f2⟩ := tl_br_l hhi hnc hH j N g7 (by rw [x29]; exact hcode) (by rw [e2.fld 5 s 3 rfl]; exact h5) (by rw [show m1.2.2 = m.2.2 from e2.2.2]; exact hlen) (by rw [xS]; exact henv) (show i + 1 ≤ k1 by omega) e3
    exact ⟨m2, by rw [show N + (j + 1 + 1) = N + (j + 1) + 1 by omega, e1, f1], e2.tr f2⟩
/-- what tell answers -/
theorem tell_ok_l {m : am_m} {a : Int32} {o : Option dn} (h5 : m.1 5 s 3 = nI nc) (hlen : m.2.2.2.2.2.2.1 29 s = nc) (hok : cl_ok (m.1 29 s) 8 nc a o) (henv : ∀ w, w < 8 → (m.1 20 0 w).toInt64 = env w) : ∃ m', fn_X1_tell_l s a m = some (tl_val o env, m') ∧ am_kp [] [(80, 0)] 0 m m' := by
  unfold fn_X1_tell_l
  cases o with
  | none =>
    have hok : a = -1 := hok
    rw [if_neg (fun q => q hok)]
    exact ⟨m, rfl, am_kp.rf⟩
  | some f =>
    obtain ⟨x, y, h, c, rfl, hy, hnc, hh, hcode, hstop, hseg⟩ := hok
    have hx := hseg.1
    have hne : nI x ≠ (-1 : Int32) := fun q => by
      have h1 : (nI x).toInt = (-1 : Int32).toInt := congrArg Int32.toInt q
      rw [nI_toInt (by omega)] at h1
      have h1 : (x : Int) = -1 := h1
      omega
    rw [if_pos hne]
    have hs := hseg.2.2 env []
    cases hf : f env with
    | some v =>
      rw [hf] at hs
      obtain ⟨j, hj⟩ := hs
      have hj1 : j ≤ 448 := by
        rcases ab_to_len j hj (Nat.le_of_lt hx) with q | q
        · omega
        · omega
      obtain ⟨m1, i1, e0, e1, e2, e3⟩ := tl_to_l (s := s) (nc := nc) (Nat.le_of_lt hy) hnc (show ([] : List Int64).length + h ≤ 50 by show 0 + h ≤ 50; omega) j (i := 0) (1000000 - j) hj hcode h5 hlen henv (Nat.zero_le _) trivial
      rw [show 1000000 - j + j = 1000000 by omega] at e1
      have x29 : m1.1 29 = m.1 29 := e2.row 29 rfl
      have e5 : lp_X1_tell_l_16 (1000000 - j) s (nI [v].length) (nI y) (nI i1) m1 = some (.inr (v.toInt32, m1)) := by
        rw [show 1000000 - j = (999999 - j) + 1 by omega]
        rw [lp_X1_tell_l_16.eq_2]
        rw [e2.fld 5 s 3 rfl, h5, if_neg (show ¬ nI nc ≤ nI i1 from nI_ge (by omega) (by omega)), if_neg (show ¬ nI y < 0 from nI_pos (by omega)), if_neg (show ¬ nI nc ≤ nI y from nI_ge (by omega) (by omega)), show m1.2.2 = m.2.2 from e2.2.2, hlen, ck_in hy (by omega), nI_clamp (by omega), x29, hstop, show nI 257 &&& (511 : Int32) = nI 257 by decide, bd_s, ck_in hy (by omega), bd_s, if_neg (show ¬ nI 257 ≠ (257 : Int32) by decide), if_neg (show ¬ nI [v].length ≠ (1 : Int32) by show ¬ nI 1 ≠ (1 : Int32); decide), show m1.2.1 80 0 0 = v from e3.1]
      have e6 : lp_X1_tell_l_16 1000000 s 0 (nI x) 0 m = some (.inr (v.toInt32, m1)) := e1.trans e5
      rw [e6, bd_s]
      exact ⟨m1, by unfold tl_val; simp only [hf], e2⟩
    | none =>
      rw [hf] at hs
      obtain ⟨j, hj⟩ := hs
      have hj1 := ab_br_len j hj
      obtain ⟨m1, e1, e2⟩ := tl_br_l (s := s) (nc := nc) (Nat.le_of_lt hy) hnc (show ([] : List Int64).length + h ≤ 50 by show 0 + h ≤ 50; omega) j (i := 0) (1000000 - (j + 1)) hj hcode h5 hlen henv (Nat.zero_le _) trivial
      rw [show 1000000 - (j + 1) + (j + 1) = 1000000 by omega] at e1
      have e6 : lp_X1_tell_l_16 1000000 s 0 (nI x) 0 m = some (.inr (2000000000, m1)) := e1
      rw [e6, bd_s]
      exact ⟨m1, by unfold tl_val; simp only [hf], e2⟩
end TEl
section TLo
variable {m : am_m} {env : Nat → Int64} {c : ab_C} {s k i nc : Nat} {st : List Int64}
set_option maxHeartbeats 4000000 in
theorem tl_one_o (h5 : m.1 5 s 3 = nI nc) (hlen : m.2.2.2.2.2.2.1 29 s = nc) (hnc : nc ≤ 448) (hcell : ∃ t w, m.1 29 s k = nI (512 * w + t) ∧ t < 512 ∧ w ≤ 1000 ∧ c k = cc_dec t w ∧ (c k).1 < 13 ∧ (t = 258 → w < 19)) (henv : ∀ w, w < 19 → (m.1 41 0 w).toInt64 = env w) (hk : k < nc) (hi : i ≤ k) (hst : stk (m.2.1 80 0) st) (hl : st.length ≤ 50) (N : Nat) :
    (∀ k1 st1, ab_step c env k st = some (k1, st1) → ∃ m', lp_X1_tell_o_16 (N + 1) s (nI st.length) (nI k) (nI i) m = lp_X1_tell_o_16 N s (nI st1.length) (nI k1) (nI (i + 1)) m' ∧ am_kp [] [(80, 0)] 0 m m' ∧ stk (m'.2.1 80 0) st1) ∧
    (∀ y x r, 2 ≤ (c k).1 → (c k).1 < 10 → st = y :: x :: r → dn_op ((c k).1 - 2) x y = none → ∃ m', lp_X1_tell_o_16 (N + 1) s (nI st.length) (nI k) (nI i) m = some (.inr (2000000000, m')) ∧ am_kp [] [(80, 0)] 0 m m') := by
  obtain ⟨t, w, hx, ht, hw, hc, h13, hword⟩ := hcell
  have c1 : ¬ nI nc ≤ nI i := nI_ge (by omega) (by omega)
  have c2 : ¬ nI k < 0 := nI_pos (by omega)
  have c3 : ¬ nI nc ≤ nI k := nI_ge (by omega) (by omega)
  have hk29 : (nI k).toNatClampNeg = k := nI_clamp (by omega)
  have hpre : ∀ {α : Type} (o : Option α), am_ck (nI k) (m.2.2.2.2.2.2.1 29 s) o = o := fun o => by rw [hlen]; exact ck_in hk (by omega)
  have eq_t : ∀ p : Nat, p < 600 → ((nI t = nI p) ↔ t = p) := fun p hp => nI_eq (by omega) (by omega)
  have w0 : ¬ nI w < 0 := nI_pos (by omega)
  have l51 : ¬ (Int32.ofNat 51) ≤ nI st.length := nI_ge (a := st.length) (b := 51) (by omega) (by decide)
  have hkp : ∀ (j : Nat) (v : Int64), am_kp [] [(80, 0)] 0 m (am_sg m 80 0 j v) := fun j v => am_kp.sg am_kp.rf rfl
  have hstk : ∀ v : Int64, stk ((am_sg m 80 0 st.length v).2.1 80 0) (v :: st) := fun v => ⟨by rw [rd_sg, if_pos ⟨rfl, rfl, rfl⟩], hst.of (fun j hj => by rw [rd_sg, if_neg (fun q => by omega)])⟩
  have hpush : ∀ v : Int64, am_ck (nI st.length) 51 (lp_X1_tell_o_16 N s (nI st.length + 1) (nI k + 1) (nI i + 1) (am_sg m 80 0 (nI st.length).toNatClampNeg v)) = lp_X1_tell_o_16 N s (nI (v :: st).length) (nI (k + 1)) (nI (i + 1)) (am_sg m 80 0 st.length v) := fun v => by
    rw [ck_in (by omega) (by decide), nI_1, nI_1, nI_1, nI_clamp (by omega)]
    rfl
  have e29 : ∀ r : List Int64, nI (r.length + 1) - (1 : Int32) = nI r.length := fun r => nI_pred _
  rw [lp_X1_tell_o_16.eq_2]
  rw [h5, if_neg c1, if_neg c2, if_neg c3, hpre, hk29, hx, cc_and ht hw, bd_s, hpre, cc_shr ht hw, bd_s]
  rw [hc] at h13
  rcases cc_cases h13 with ⟨rfl, hd⟩ | ⟨rfl, hd⟩ | ⟨o, ho, rfl, hd⟩ | ⟨rfl, hd⟩ | ⟨rfl, hd⟩ | ⟨rfl, hd⟩
  · rw [hd] at hc
    refine ⟨fun k1 st1 hs => ?_, fun _ _ _ g1 _ _ _ => absurd g1 (by rw [hc]; show ¬ 2 ≤ 0; decide)⟩
    rw [ab_step_n hc] at hs
    cases hs
    refine ⟨am_sg m 80 0 st.length (lN w), ?_, hkp _ _, hstk _⟩
    rw [if_pos (by decide), if_pos (by decide), if_neg l51, if_neg w0, if_pos (by decide), if_neg (by decide), bd_s, hpush, nI_l (by omega)]
  · rw [hd] at hc
    refine ⟨fun k1 st1 hs => ?_, fun _ _ _ g1 _ _ _ => absurd g1 (by rw [hc]; show ¬ 2 ≤ 1; decide)⟩
    rw [ab_step_w hc] at hs
    cases hs
    have hw8 := hword rfl
    refine ⟨am_sg m 80 0 st.length (env w), ?_, hkp _ _, hstk _⟩
    rw [if_pos (by decide), if_neg (by decide), if_neg (by decide), if_neg l51, if_neg w0, if_neg (by decide), if_pos (show nI w < Int32.ofNat 19 from nI_lt (b := 19) hw8 (by decide)), if_pos (by decide), ck_in hw8 (by decide), nI_clamp (by omega), bd_s, hpush, henv w hw8]
  · rw [hd] at hc
    have htl := tc_lt o ho
    have ne : ∀ p : Nat, 256 ≤ p → p < 600 → nI (tc_ o) ≠ nI p := fun p h1 h2 q => by have := (eq_t p h2).mp q; omega
    have n256 : ¬ nI (tc_ o) = (256 : Int32) := ne 256 (by decide) (by decide)
    have n257 : nI (tc_ o) ≠ (257 : Int32) := ne 257 (by decide) (by decide)
    have n258 : nI (tc_ o) ≠ (258 : Int32) := ne 258 (by decide) (by decide)
    have n259 : ¬ nI (tc_ o) = (259 : Int32) := ne 259 (by decide) (by decide)
    have n260 : nI (tc_ o) ≠ (260 : Int32) := ne 260 (by decide) (by decide)
    have n261 : nI (tc_ o) ≠ (261 : Int32) := ne 261 (by decide) (by decide)
    have two : ∀ b a r, st = b :: a :: r → ∃ v, v = dn_out (dn_op o a b) ∧
        (am_ck ((nI st.length - 1) - (1 : Int32)) 51 (am_ck (nI st.length - 1) 51 ((fn_X1_joined (nI (tc_ o)) (m.2.1 80 0 ((nI st.length - 1) - (1 : Int32)).toNatClampNeg) (m.2.1 80 0 (nI st.length - 1).toNatClampNeg) m).bind fun r48 => am_ck ((nI st.length - 1) - (1 : Int32)) 51 (am_ck ((nI st.length - 1) - (1 : Int32)) 51 ((if (lg_cmp ((am_sg m 80 0 ((nI st.length - 1) - (1 : Int32)).toNatClampNeg r48).2.1 80 0 ((nI st.length - 1) - (1 : Int32)).toNatClampNeg) (2000000000 : Int64)) ≠ 0 then lp_X1_tell_o_16 N s (nI st.length - 1) (nI k + 1) (nI i + 1) (am_sg m 80 0 ((nI st.length - 1) - (1 : Int32)).toNatClampNeg r48) else some (.inr (2000000000, am_sg m 80 0 ((nI st.length - 1) - (1 : Int32)).toNatClampNeg r48)))))))) = (if v ≠ 2000000000 then lp_X1_tell_o_16 N s (nI (r.length + 1)) (nI (k + 1)) (nI (i + 1)) (am_sg m 80 0 r.length v) else some (.inr (2000000000, am_sg m 80 0 r.length v))) := by
      intro b a r hs
      have hlen2 : st.length = r.length + 1 + 1 := by rw [hs]; rfl
      rw [hlen2] at hl ⊢
      rw [hs] at hst
      obtain ⟨hb1, ha1, hr1⟩ := hst
      have hb1 : m.2.1 80 0 (r.length + 1) = b := hb1
      refine ⟨_, rfl, ?_⟩
      rw [show nI (r.length + 1 + 1) - (1 : Int32) = nI (r.length + 1) from nI_pred _, show nI (r.length + 1) - (1 : Int32) = nI r.length from nI_pred _, ck_in (by omega) (by decide), ck_in (by omega) (by decide), nI_clamp (by omega), nI_clamp (by omega), hb1, ha1, joined_ok ho, bd_s, ck_in (by omega) (by decide), ck_in (by omega) (by decide), show (am_sg m 80 0 r.length (dn_out (dn_op o a b))).2.1 80 0 r.length = dn_out (dn_op o a b) by rw [rd_sg, if_pos ⟨rfl, rfl, rfl⟩], nI_1, nI_1]
      exact if_iff (not_congr (lg_cmp_eq _ _))
    have l1 : ∀ b a (r : List Int64), st = b :: a :: r → (1 : Int32) ≤ nI st.length ∧ (2 : Int32) ≤ nI st.length := fun b a r hs => by
      have hlen2 : st.length = r.length + 1 + 1 := by rw [hs]; rfl
      exact ⟨nI_le (a := 1) (by omega) (by omega), nI_le (a := 2) (by omega) (by omega)⟩
    refine ⟨fun k1 st1 hs => ?_, fun b a r g1 g2 g3 g4 => ?_⟩
    · obtain ⟨s1, s2, s3⟩ := ab_step_two (c := c) (env := env) (k := k) ho (by rw [hc])
      rcases st with _ | ⟨b, _ | ⟨a, r⟩⟩
      · rw [s2] at hs; cases hs
      · rw [s3] at hs; cases hs
      · rw [s1] at hs
        obtain ⟨v, hv, hrun⟩ := two b a r rfl
        cases ho2 : dn_op o a b with
        | none => rw [ho2] at hs; cases hs
        | some u =>
          rw [ho2] at hs hv
          cases hs
          have hv : v = u := hv
          subst hv
          refine ⟨am_sg m 80 0 r.length v, ?_, hkp _ _, ⟨by rw [rd_sg, if_pos ⟨rfl, rfl, rfl⟩], hst.2.2.of (fun j hj => by rw [rd_sg, if_neg (fun q => by omega)])⟩⟩
          rw [if_pos n257, if_neg n256, if_pos n258, if_pos (l1 b a r rfl).1, if_pos n261, if_neg n259, if_pos n260, if_pos (l1 b a r rfl).2, hrun, if_pos (dn_op_ne ho2)]
          rfl
    · obtain ⟨v, hv, hrun⟩ := two b a r g3
      rw [hc] at g4
      have g4 : dn_op o a b = none := g4
      rw [g4] at hv
      have hv : v = 2000000000 := hv
      refine ⟨am_sg m 80 0 r.length v, ?_, hkp _ _⟩
      rw [if_pos n257, if_neg n256, if_pos n258, if_pos (l1 b a r g3).1, if_pos n261, if_neg n259, if_pos n260, if_pos (l1 b a r g3).2, hrun, if_neg (fun q => q hv)]
  · rw [hd] at hc
    refine ⟨fun k1 st1 hs => ?_, fun _ _ _ _ g2 _ _ => absurd g2 (by rw [hc]; show ¬ 10 < 10; decide)⟩
    obtain ⟨s1, s2⟩ := ab_step_not (env := env) hc
    rcases st with _ | ⟨a, r⟩
    · rw [s2] at hs; cases hs
    · rw [s1] at hs
      cases hs
      have hl : r.length + 1 ≤ 50 := hl
      refine ⟨am_sg m 80 0 r.length (1 - a), ?_, hkp _ _, ⟨by rw [rd_sg, if_pos ⟨rfl, rfl, rfl⟩], hst.2.of (fun j hj => by rw [rd_sg, if_neg (fun q => by omega)])⟩⟩
      rw [if_pos (by decide), if_neg (by decide), if_pos (by decide), if_pos (show (1 : Int32) ≤ nI (a :: r : List Int64).length from nI_le (a := 1) (by show 1 ≤ r.length + 1; omega) (by show r.length + 1 < 2 ^ 31; omega)), if_neg (by decide), show (a :: r : List Int64).length = r.length + 1 from rfl, e29, ck_in (by omega) (by decide), ck_in (by omega) (by decide), nI_clamp (by omega), hst.1, nI_1, nI_1]
      rfl
  · rw [hd] at hc
    refine ⟨fun k1 st1 hs => ?_, fun _ _ _ _ g2 _ _ => absurd g2 (by rw [hc]; show ¬ 11 < 10; decide)⟩
    obtain ⟨s1, s2⟩ := ab_step_jmp (c := c) (env := env) (k := k) (x := 29) (y := w) (by rw [hc]; rfl)
    rcases st with _ | ⟨a, r⟩
    · rw [s2] at hs; cases hs
    · rw [s1] at hs
      have hl : r.length + 1 ≤ 50 := hl
      rw [if_pos (by decide), if_neg (by decide), if_pos (by decide), if_pos (show (1 : Int32) ≤ nI (a :: r : List Int64).length from nI_le (a := 1) (by show 1 ≤ r.length + 1; omega) (by show r.length + 1 < 2 ^ 31; omega)), if_pos (by decide), if_neg (by decide), if_neg (by decide)]
      rw [show (a :: r : List Int64).length = r.length + 1 from rfl, e29, ck_in (by omega) (by decide), nI_clamp (by omega), hst.1, if_pos (by decide), bd_s]
      by_cases ha : a = 0
      · rw [if_pos (show a = (if 29 = 29 then 0 else 1) from ha)] at hs
        cases hs
        rw [if_neg (fun q => q ((lg_cmp_eq _ _).mpr ha)), bd_s, if_neg (by decide), bd_s, if_neg (by decide), bd_s, nI_1]
        exact ⟨m, rfl, am_kp.rf, hst⟩
      · rw [if_neg (show ¬ a = (if 29 = 29 then 0 else 1) from ha)] at hs
        cases hs
        rw [if_pos (fun q => ha ((lg_cmp_eq _ _).mp q)), bd_s, if_pos rfl, bd_s, if_pos rfl, bd_s, nI_1, nI_1]
        exact ⟨m, rfl, am_kp.rf, hst.2⟩
  · rw [hd] at hc
    refine ⟨fun k1 st1 hs => ?_, fun _ _ _ _ g2 _ _ => absurd g2 (by rw [hc]; show ¬ 12 < 10; decide)⟩
    obtain ⟨s1, s2⟩ := ab_step_jmp (c := c) (env := env) (k := k) (x := 30) (y := w) (by rw [hc]; rfl)
    rcases st with _ | ⟨a, r⟩
    · rw [s2] at hs; cases hs
    · rw [s1] at hs
      have hl : r.length + 1 ≤ 50 := hl
      rw [if_pos (by decide), if_neg (by decide), if_pos (by decide), if_pos (show (1 : Int32) ≤ nI (a :: r : List Int64).length from nI_le (a := 1) (by show 1 ≤ r.length + 1; omega) (by show r.length + 1 < 2 ^ 31; omega)), if_pos (by decide), if_pos (by decide)]
      rw [show (a :: r : List Int64).length = r.length + 1 from rfl, e29, ck_in (by omega) (by decide), nI_clamp (by omega), hst.1, if_neg (by decide), bd_s]
      by_cases ha : a = 1
      · rw [if_pos (show a = (if 30 = 29 then 0 else 1) from ha)] at hs
        cases hs
        rw [if_neg (fun q => q ((lg_cmp_eq _ _).mpr ha)), bd_s, if_neg (by decide), bd_s, if_neg (by decide), bd_s, nI_1]
        exact ⟨m, rfl, am_kp.rf, hst⟩
      · rw [if_neg (show ¬ a = (if 30 = 29 then 0 else 1) from ha)] at hs
        cases hs
        rw [if_pos (fun q => ha ((lg_cmp_eq _ _).mp q)), bd_s, if_pos rfl, bd_s, if_pos rfl, bd_s, nI_1, nI_1]
        exact ⟨m, rfl, am_kp.rf, hst.2⟩
end TLo
section TEo
variable {env : Nat → Int64} {c : ab_C} {s nc : Nat}
theorem tl_to_o {lo hi H : Nat} (hhi : hi ≤ nc) (hnc : nc ≤ 448) (hH : H ≤ 50) : ∀ (j : Nat) {k i : Nat} {st : List Int64} {k' : Nat} {st' : List Int64} {m : am_m} (N : Nat), ab_to c env lo hi H j k st k' st' → cl_code (m.1 29 s) 19 c lo hi → m.1 5 s 3 = nI nc → m.2.2.2.2.2.2.1 29 s = nc → (∀ w, w < 19 → (m.1 41 0 w).toInt64 = env w) → i ≤ k → stk (m.2.1 80 0) st → ∃ m' i', i' ≤ k' ∧ lp_X1_tell_o_16 (N + j) s (nI st.length) (nI k) (nI i) m = lp_X1_tell_o_16 N s (nI st'.length) (nI k') (nI i') m' ∧ am_kp [] [(80, 0)] 0 m m' ∧ stk (m'.2.1 80 0) st'
  | 0, k, i, st, k', st', m, N, h, hcode, h5, hlen, henv, hi0, hst => by
    obtain ⟨rfl, rfl⟩ := h
    exact ⟨m, i, hi0, rfl, am_kp.rf, hst⟩
  | j + 1, k, i, st, k', st', m, N, h, hcode, h5, hlen, henv, hi0, hst => by
    obtain ⟨g1, g2, g3, k1, st1, g4, g5, g6, g7⟩ := h
    obtain ⟨m1, e1, e2, e3⟩ := (tl_one_o h5 hlen hnc (hcode k g1 g2) henv (by omega) hi0 hst (by omega) (N + j)).1 k1 st1 g4
    have x29 : m1.1 29 = m.1 29 := e2.row 29 rfl
    have xS : m1.1 41 = m.1 41 := e2.row 41 rfl
    obtain ⟨m2, i2, f0, f1, f2, f3⟩ := tl_to_o hhi hnc hH j N g7 (by rw [x29]; exact hcode) (by rw [e2.fld 5 s 3 rfl]; exact h5) (by rw [show m1.2.2 = m.2.2 from e2.2.2]; exact hlen) (by rw [xS]; exact henv) (show i + 1 ≤ k1 by omega) e3
    exact ⟨m2, i2, f0, by rw [show N + (j + 1) = N + j + 1 by omega, e1, f1], e2.tr f2, f3⟩
theorem tl_br_o {lo hi H : Nat} (hhi : hi ≤ nc) (hnc : nc ≤ 448) (hH : H ≤ 50) : ∀ (j : Nat) {k i : Nat} {st : List Int64} {m : am_m} (N : Nat), ab_br c env lo hi H j k st → cl_code (m.1 29 s) 19 c lo hi → m.1 5 s 3 = nI nc → m.2.2.2.2.2.2.1 29 s = nc → (∀ w, w < 19 → (m.1 41 0 w).toInt64 = env w) → i ≤ k → stk (m.2.1 80 0) st → ∃ m', lp_X1_tell_o_16 (N + (j + 1)) s (nI st.length) (nI k) (nI i) m = some (.inr (2000000000, m')) ∧ am_kp [] [(80, 0)] 0 m m'
  | 0, k, i, st, m, N, h, hcode, h5, hlen, henv, hi0, hst => by
    obtain ⟨g1, g2, g3, g4, g5, y, x, r, g6, g7⟩ := h
    exact (tl_one_o h5 hlen hnc (hcode k g1 g2) henv (by omega) hi0 hst (by omega) N).2 y x r g4 g5 g6 g7
  | j + 1, k, i, st, m, N, h, hcode, h5, hlen, henv, hi0, hst => by
    obtain ⟨g1, g2, g3, k1, st1, g4, g5, g6, g7⟩ := h
    obtain ⟨m1, e1, e2, e3⟩ := (tl_one_o h5 hlen hnc (hcode k g1 g2) henv (by omega) hi0 hst (by omega) (N + (j + 1))).1 k1 st1 g4
    have x29 : m1.1 29 = m.1 29 := e2.row 29 rfl
    have xS : m1.1 41 = m.1 41 := e2.row 41 rfl
    obtain ⟨m2, f1, f2⟩ := tl_br_o hhi hnc hH j N g7 (by rw [x29]; exact hcode) (by rw [e2.fld 5 s 3 rfl]; exact h5) (by rw [show m1.2.2 = m.2.2 from e2.2.2]; exact hlen) (by rw [xS]; exact henv) (show i + 1 ≤ k1 by omega) e3
    exact ⟨m2, by rw [show N + (j + 1 + 1) = N + (j + 1) + 1 by omega, e1, f1], e2.tr f2⟩
/-- what tell answers -/
theorem tell_ok_o {m : am_m} {a : Int32} {o : Option dn} (h5 : m.1 5 s 3 = nI nc) (hlen : m.2.2.2.2.2.2.1 29 s = nc) (hok : cl_ok (m.1 29 s) 19 nc a o) (henv : ∀ w, w < 19 → (m.1 41 0 w).toInt64 = env w) : ∃ m', fn_X1_tell_o s a m = some (tl_val o env, m') ∧ am_kp [] [(80, 0)] 0 m m' := by
  unfold fn_X1_tell_o
  cases o with
  | none =>
    have hok : a = -1 := hok
    rw [if_neg (fun q => q hok)]
    exact ⟨m, rfl, am_kp.rf⟩
  | some f =>
    obtain ⟨x, y, h, c, rfl, hy, hnc, hh, hcode, hstop, hseg⟩ := hok
    have hx := hseg.1
    have hne : nI x ≠ (-1 : Int32) := fun q => by
      have h1 : (nI x).toInt = (-1 : Int32).toInt := congrArg Int32.toInt q
      rw [nI_toInt (by omega)] at h1
      have h1 : (x : Int) = -1 := h1
      omega
    rw [if_pos hne]
    have hs := hseg.2.2 env []
    cases hf : f env with
    | some v =>
      rw [hf] at hs
      obtain ⟨j, hj⟩ := hs
      have hj1 : j ≤ 448 := by
        rcases ab_to_len j hj (Nat.le_of_lt hx) with q | q
        · omega
        · omega
      obtain ⟨m1, i1, e0, e1, e2, e3⟩ := tl_to_o (s := s) (nc := nc) (Nat.le_of_lt hy) hnc (show ([] : List Int64).length + h ≤ 50 by show 0 + h ≤ 50; omega) j (i := 0) (1000000 - j) hj hcode h5 hlen henv (Nat.zero_le _) trivial
      rw [show 1000000 - j + j = 1000000 by omega] at e1
      have x29 : m1.1 29 = m.1 29 := e2.row 29 rfl
      have e5 : lp_X1_tell_o_16 (1000000 - j) s (nI [v].length) (nI y) (nI i1) m1 = some (.inr (v.toInt32, m1)) := by
        rw [show 1000000 - j = (999999 - j) + 1 by omega]
        rw [lp_X1_tell_o_16.eq_2]
        rw [e2.fld 5 s 3 rfl, h5, if_neg (show ¬ nI nc ≤ nI i1 from nI_ge (by omega) (by omega)), if_neg (show ¬ nI y < 0 from nI_pos (by omega)), if_neg (show ¬ nI nc ≤ nI y from nI_ge (by omega) (by omega)), show m1.2.2 = m.2.2 from e2.2.2, hlen, ck_in hy (by omega), nI_clamp (by omega), x29, hstop, show nI 257 &&& (511 : Int32) = nI 257 by decide, bd_s, ck_in hy (by omega), bd_s, if_neg (show ¬ nI 257 ≠ (257 : Int32) by decide), if_neg (show ¬ nI [v].length ≠ (1 : Int32) by show ¬ nI 1 ≠ (1 : Int32); decide), show m1.2.1 80 0 0 = v from e3.1]
      have e6 : lp_X1_tell_o_16 1000000 s 0 (nI x) 0 m = some (.inr (v.toInt32, m1)) := e1.trans e5
      rw [e6, bd_s]
      exact ⟨m1, by unfold tl_val; simp only [hf], e2⟩
    | none =>
      rw [hf] at hs
      obtain ⟨j, hj⟩ := hs
      have hj1 := ab_br_len j hj
      obtain ⟨m1, e1, e2⟩ := tl_br_o (s := s) (nc := nc) (Nat.le_of_lt hy) hnc (show ([] : List Int64).length + h ≤ 50 by show 0 + h ≤ 50; omega) j (i := 0) (1000000 - (j + 1)) hj hcode h5 hlen henv (Nat.zero_le _) trivial
      rw [show 1000000 - (j + 1) + (j + 1) = 1000000 by omega] at e1
      have e6 : lp_X1_tell_o_16 1000000 s 0 (nI x) 0 m = some (.inr (2000000000, m1)) := e1
      rw [e6, bd_s]
      exact ⟨m1, by unfold tl_val; simp only [hf], e2⟩
end TEo
