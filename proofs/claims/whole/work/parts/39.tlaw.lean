/-! the class's tellsLaw -/
abbrev lw_T : Type := Option (Nat × (Nat → cl_T))
def lw_tell (lw : lw_T) (h : Nat) (env : Nat → Int64) : Option Int64 := match lw with
  | none => none
  | some q => cl_last q.2 h env q.1
/-- a number that a LAW tells, held between 0 and 9; or as it is without -/
def lw_num (o : Option Int64) (w : Int32) : Int32 := match o with
  | some v => cap9 v
  | none => w
/-- the judge's LAW is that one -/
def jd_law (m : am_m) (lw : lw_T) : Prop := match lw with
  | none => m.2.2.2.1 0 = none
  | some q => ∃ s, m.2.2.2.1 0 = some s ∧ iv_cs q.1 q.2 ∧ iv_LC (m.1 5 s) (m.1 28 s) (m.1 29 s) (m.2.2.2.2.2.2.1 28 s) (m.2.2.2.2.2.2.1 29 s) q.1 q.2
/-- the reference's LAW in force is that one -/
def rf_law (r : Nat → Int32) (lw : lw_T) : Prop := match lw with
  | none => r 3 = -1
  | some q => ∃ j, j < 6 ∧ r 3 = nI j ∧ iv_cs q.1 q.2 ∧ iv_LR (fun i => r (118 + 900 * j + i)) q.1 q.2
def ev_ok (env : Nat → Int64) : Prop := ∀ i, -1000000 ≤ env i ∧ env i ≤ 1000000
theorem jd_law.kp {m m' : am_m} {lw : lw_T} {WI WL : List (Nat × Nat)} (h : jd_law m lw) (k : am_kp WI WL 0 m m') (hw : (WI.all (fun q => !Nat.beq q.1 5) && (!am_hit WI 28 0 && !am_hit WI 29 0)) = true) : jd_law m' lw := by
  rw [Bool.and_eq_true, Bool.and_eq_true] at hw
  have e5 : m'.1 5 = m.1 5 := k.obj 5 hw.1
  have e28 : m'.1 28 = m.1 28 := k.row 28 (by rw [hw.2.1]; rfl)
  have e29 : m'.1 29 = m.1 29 := k.row 29 (by rw [hw.2.2]; rfl)
  have ee : m'.2.2 = m.2.2 := k.2.2
  unfold jd_law
  rw [e5, e28, e29, ee]
  exact h
theorem headOf_ok {m : am_m} {s n i j : Nat} (h2 : m.1 5 s 2 = nI n) (hn : n ≤ 12) (hl : m.2.2.2.2.2.2.1 28 s = 6 * n) (hi : i < n) (hj : j < 6) : fn_X5_headOf s (nI i) (nI j) m = some (m.1 28 s (6 * i + j)) := by
  unfold fn_X5_headOf
  have e : nI i * (6 : Int32) + nI j = nI (6 * i + j) := by
    rw [show (6 : Int32) = nI 6 from rfl, pk_mul, nI_add, Nat.mul_comm i 6]
  rw [h2, hl, e, if_neg (show ¬ nI i < 0 from nI_pos (by omega)), if_neg (show ¬ nI n ≤ nI i from nI_ge hi (by omega)), if_neg (show ¬ nI j < 0 from nI_pos (by omega)), if_neg (show ¬ (6 : Int32) ≤ nI j from nI_ge (b := 6) hj (by decide)), if_neg (show ¬ Int32.ofNat (6 * n) ≤ nI (6 * i + j) from nI_ge (b := 6 * n) (by omega) (by omega)), bd_s, if_neg (by decide), ck_in (by omega) (by omega), nI_clamp (by omega)]
theorem cap_min {v : Int64} (h1 : -1000000000 ≤ v) (h2 : v ≤ 1000000000) (m : am_m) : ((fn_J9_min_7cf53 9 v.toInt32 m).bind fun a => (fn_J9_max_7cf53 0 a m)) = some (cap9 v) ∧ v.toInt32 ≠ 2000000000 := by
  rw [fa_le64] at h1 h2
  have h1 : (-1000000000 : Int) ≤ v.toInt := h1
  have h2 : v.toInt ≤ 1000000000 := h2
  have et : v.toInt32.toInt = v.toInt := by
    rw [Int64.toInt_toInt32]
    exact fb_bmod (by omega) (by omega)
  refine ⟨?_, fun q => ?_⟩
  · unfold fn_J9_min_7cf53 fn_J9_max_7cf53 cap9
    have c1 : v.toInt32 < 9 ↔ v.toInt < 9 := by rw [fa_lt, et]; exact Iff.rfl
    have c2 : v < 0 ↔ v.toInt < 0 := fa_lt64 _ _
    have c3 : 9 < v ↔ 9 < v.toInt := fa_lt64 _ _
    have c4 : 0 < v.toInt32 ↔ 0 < v.toInt := by rw [fa_lt, et]; exact Iff.rfl
    by_cases h9 : v.toInt32 < 9
    · rw [if_pos h9, bd_s]
      have h9' := c1.mp h9
      by_cases h0 : 0 < v.toInt32
      · have h0' := c4.mp h0
        rw [if_pos h0, if_neg (by rw [c2]; omega), if_neg (by rw [c3]; omega)]
      · have h0' : ¬ 0 < v.toInt := fun z => h0 (c4.mpr z)
        rw [if_neg h0]
        by_cases hn : v < 0
        · rw [if_pos hn]
        · have hn' : ¬ v.toInt < 0 := fun z => hn (c2.mpr z)
          rw [if_neg hn, if_neg (by rw [c3]; omega)]
          have e0 : v.toInt32 = 0 := by rw [fa_eq, et]; show v.toInt = 0; omega
          rw [e0]
    · have h9' : ¬ v.toInt < 9 := fun z => h9 (c1.mpr z)
      rw [if_neg h9, bd_s, if_pos (by decide), if_neg (by rw [c2]; omega)]
      by_cases hg : 9 < v
      · rw [if_pos hg]
      · have hg' : ¬ 9 < v.toInt := fun z => hg (c3.mpr z)
        rw [if_neg hg]
        have e9 : v.toInt32 = 9 := by rw [fa_eq, et]; show v.toInt = 9; omega
        rw [e9]
  · have h3 : v.toInt32.toInt = (2000000000 : Int32).toInt := congrArg Int32.toInt q
    rw [et] at h3
    have h3 : v.toInt = 2000000000 := h3
    omega
section TLW
variable {env : Nat → Int64} {s n h nh nc : Nat} {cs : Nat → cl_T} {w : Int32}
theorem tlw_lp (hcs : iv_cs n cs) (hh : h ≤ 3) (hev : ev_ok env) : ∀ (i N : Nat) {m : am_m}, i ≤ n → i < N → m.2.2.2.1 0 = some s → iv_LC (m.1 5 s) (m.1 28 s) (m.1 29 s) (m.2.2.2.2.2.2.1 28 s) (m.2.2.2.2.2.2.1 29 s) n cs → (∀ x, x < 8 → (m.1 20 0 x).toInt64 = env x) → ∃ m', lp_X1_tellsLaw_19 N (nI (266 + h)) w (nI i - 1) m = some (match cl_last cs h env i with
      | some v => .inr (cap9 v, m')
      | none => .inl m') ∧ am_kp [] [(80, 0)] 0 m m'
  | 0, N + 1, m, _, _, hs, hLC, hw => by
    rw [lp_X1_tellsLaw_19.eq_2, if_pos (by decide)]
    exact ⟨m, rfl, am_kp.rf⟩
  | i + 1, N + 1, m, hin, hN, hs, hLC, hw => by
    have hn12 := hcs.1
    have hi : i < n := by omega
    obtain ⟨l1, l2, l3, l4, l5⟩ := hLC
    obtain ⟨g1, g2, g3⟩ := l5 i hi
    obtain ⟨c1, c2, c3, c4⟩ := hcs.2 i hi
    have go : ∀ m1 : am_m, am_kp [] [(80, 0)] 0 m m1 → ∃ m', lp_X1_tellsLaw_19 N (nI (266 + h)) w (nI i - 1) m1 = some (match cl_last cs h env i with
      | some v => .inr (cap9 v, m')
      | none => .inl m') ∧ am_kp [] [(80, 0)] 0 m m' := by
      intro m1 k1
      have ee : m1.2.2 = m.2.2 := k1.2.2
      obtain ⟨m2, f1, f2⟩ := tlw_lp hcs hh hev i N (m := m1) (by omega) (by omega) (by rw [ee]; exact hs) (by rw [k1.obj 5 rfl, k1.row 28 rfl, k1.row 29 rfl, ee]; exact ⟨l1, l2, l3, l4, l5⟩) (by rw [k1.row 20 rfl]; exact hw)
      exact ⟨m2, f1, k1.tr f2⟩
    rw [nI_pred, lp_X1_tellsLaw_19.eq_2, if_neg (nI_pos (by omega)), hs, bd_s, show (0 : Int32) = nI 0 from rfl, headOf_ok l1 hn12 l3 hi (by decide), bd_s, Nat.add_zero, g1]
    have hiff : nI (266 + (cs i).1) ≠ nI (266 + h) ↔ ¬ (cs i).1 = h := by
      rw [ne_eq, nI_eq (by omega) (by omega)]
      omega
    have elast : cl_last cs h env (i + 1) = if (cs i).1 = h then (match cl_val (cs i) env with
      | some v => some v
      | none => cl_last cs h env i) else cl_last cs h env i := rfl
    rw [elast]
    by_cases hk : (cs i).1 = h
    · rw [if_neg (fun z => hiff.mp z hk), if_pos hk, bd_s, bd_s, show (2 : Int32) = nI 2 from rfl, headOf_ok l1 hn12 l3 hi (by decide), bd_s]
      obtain ⟨m1, e1, k1⟩ := tell_ok_l (nc := m.2.2.2.2.2.2.1 29 s) l2 rfl g2 hw
      rw [e1, bd_s]
      have ee : m1.2.2 = m.2.2 := k1.2.2
      have x29 : m1.1 29 = m.1 29 := k1.row 29 rfl
      have x28 : m1.1 28 = m.1 28 := k1.row 28 rfl
      have x5 : m1.1 5 = m.1 5 := k1.obj 5 rfl
      have x20 : m1.1 20 = m.1 20 := k1.row 20 rfl
      -- whether the TEST is so
      have hso : (tl_val (cs i).2.1 env ≠ (1 : Int32)) ↔ ¬ cl_so (cs i) env = true := by
        unfold cl_so tl_val
        cases ht : (cs i).2.1 with
        | none => exact ⟨fun z => absurd rfl z, fun z => absurd rfl z⟩
        | some f =>
          show ((match f env with
            | some v => v.toInt32
            | none => 2000000000) ≠ (1 : Int32)) ↔ ¬ decide (f env = some 1) = true
          rw [decide_eq_true_iff]
          cases hf : f env with
          | none => exact ⟨fun _ z => (by cases z), fun _ => (by show (2000000000 : Int32) ≠ 1; decide)⟩
          | some v =>
            rcases c3 f ht env v hf with rfl | rfl
            · exact ⟨fun _ z => absurd (Option.some.inj z) (by decide), fun _ => (by show (0 : Int64).toInt32 ≠ 1; decide)⟩
            · exact ⟨fun z => absurd rfl z, fun z => absurd rfl z⟩
      dsimp only
      by_cases hs1 : cl_so (cs i) env = true
      · rw [if_neg (fun z => hso.mp z hs1)]
        have hs' : m1.2.2.2.1 0 = some s := by rw [ee]; exact hs
        rw [hs', bd_s, bd_s, show (3 : Int32) = nI 3 from rfl, headOf_ok (m := m1) (by rw [x5]; exact l1) hn12 (by rw [ee]; exact l3) hi (by decide), bd_s]
        obtain ⟨m2, e2, k2⟩ := tell_ok_l (env := env) (m := m1) (s := s) (nc := m.2.2.2.2.2.2.1 29 s) (o := (cs i).2.2) (a := m1.1 28 s (6 * i + 3)) (by rw [x5]; exact l2) (by rw [ee]) (by rw [x29, x28]; exact g3) (by rw [x20]; exact hw)
        rw [e2, bd_s]
        dsimp only
        have eval : cl_val (cs i) env = (match (cs i).2.2 with
          | none => some 1
          | some f => f env) := by
          unfold cl_val
          rw [if_pos hs1]
          cases (cs i).2.2 <;> rfl
        rw [eval]
        cases hsm : (cs i).2.2 with
        | none =>
          obtain ⟨q1, q2⟩ := cap_min (v := 1) (by decide) (by decide) m2
          refine ⟨m2, ?_, k1.tr k2⟩
          rw [if_neg (show ¬ tl_val none env = 2000000000 from (show ¬ (1 : Int32) = 2000000000 by decide))]
          obtain ⟨a, ha1, ha2⟩ := am_bd q1
          rw [show fn_J9_min_7cf53 9 (tl_val none env) m2 = some a from ha1, bd_s, show fn_J9_max_7cf53 (nI 0) a m2 = some (cap9 1) from ha2, bd_s]
        | some f =>
          have etv : tl_val (some f) env = (match f env with
            | some v => v.toInt32
            | none => 2000000000) := rfl
          rw [etv]
          dsimp only
          cases hf : f env with
          | none =>
            dsimp only
            rw [if_pos rfl]
            exact go m2 (k1.tr k2)
          | some v =>
            have hb := c4 f hsm env v hev hf
            obtain ⟨q1, q2⟩ := cap_min hb.1 hb.2 m2
            refine ⟨m2, ?_, k1.tr k2⟩
            dsimp only
            rw [if_neg q2]
            obtain ⟨a, ha1, ha2⟩ := am_bd q1
            rw [ha1, bd_s, show fn_J9_max_7cf53 (nI 0) a m2 = some (cap9 v) from ha2, bd_s]
      · rw [if_pos (hso.mpr hs1)]
        have eval : cl_val (cs i) env = none := by
          unfold cl_val
          rw [if_neg hs1]
        rw [eval]
        exact go m1 k1
    · rw [if_pos (hiff.mpr hk), if_neg hk]
      exact go m am_kp.rf
theorem tellsLaw_ok {m : am_m} {lw : lw_T} (hj : jd_law m lw) (hh : h ≤ 3) (hev : ev_ok env) (hw : ∀ x, x < 8 → (m.1 20 0 x).toInt64 = env x) : ∃ m', fn_X1_tellsLaw (nI (266 + h)) w m = some (lw_num (lw_tell lw h env) w, m') ∧ am_kp [] [(80, 0)] 0 m m' := by
  unfold fn_X1_tellsLaw
  cases lw with
  | none =>
    have hj : m.2.2.2.1 0 = none := hj
    rw [hj]
    exact ⟨m, rfl, am_kp.rf⟩
  | some q =>
    obtain ⟨s, h1, h2, h3⟩ := hj
    have hn12 := h2.1
    rw [h1]
    obtain ⟨m', e1, e2⟩ := tlw_lp (w := w) (s := s) h2 hh hev q.1 1000000 (m := m) (Nat.le_refl _) (by omega) h1 h3 hw
    show ∃ m', ((some s).bind fun u3 => (lp_X1_tellsLaw_19 1000000 (nI (266 + h)) w ((m.1 5 u3 2) - (1 : Int32)) m).bind fun w36 => (match w36 with
      | .inl q33 => some (w, q33)
      | .inr rr35 => some rr35)) = some (lw_num (cl_last q.2 h env q.1) w, m') ∧ _
    rw [bd_s, h3.1, e1, bd_s]
    refine ⟨m', ?_, e2⟩
    cases cl_last q.2 h env q.1 with
    | none => rfl
    | some v => rfl
end TLW
