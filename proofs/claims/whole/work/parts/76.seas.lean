/-! seasons by draws: one season -/
def dwN (x : Nat) : Nat := (x * 1103 + 12345) % 1000003
theorem dwN_lt (x : Nat) : dwN x < 1000003 := Nat.mod_lt _ (by decide)
/-- the deed of a season -/
def seD (r : Nat → Int32) (lw : lw_T) (a b w h : Nat) : Nat → Int32 := if a = b then r else if h < 2 then (if r (14 + (7 * a + b)) = nI w then r else harmS r a b (nI w)) else if h = 2 then (if mtx r lw a b then feastS r lw (2 ^ a ||| 2 ^ b) else r) else pardS r a b
def seX (r : Nat → Int32) (lw : lw_T) (x : Nat) : Nat → Int32 := seD r lw (dwN x % nv (r 0)) (dwN (dwN x) % nv (r 0)) (dwN (dwN (dwN x)) % 9 + 1) (dwN (dwN (dwN (dwN x))) % 4)
def seP (r : Nat → Int32) (lw : lw_T) (x : Nat) : Nat → Int32 := passS (seX r lw x) lw
section SE
variable {m : am_m} {r : Nat → Int32} {lw : lw_T} {x n a b w h : Nat}
theorem two_pc : ∀ a, a < 7 → ∀ b, b < 7 → a ≠ b → pc (2 ^ a ||| 2 ^ b) = 2 := by decide +kernel
theorem two_lt {n a b : Nat} (ha : a < n) (hb : b < n) : 2 ^ a ||| 2 ^ b < 2 ^ n := Nat.or_lt_two_pow (Nat.pow_lt_pow_right (by decide) ha) (Nat.pow_lt_pow_right (by decide) hb)
theorem two_tb {M : Nat → Nat → Bool} (hn : n ≤ 7) (ha : a < n) (hb : b < n) (hne : a ≠ b) (hc : ∀ a b, M a b = M b a) : tb (rowOf n M) n (2 ^ a ||| 2 ^ b) = M a b := by
  have bit : ∀ k, (2 ^ a ||| 2 ^ b).testBit k = (decide (k = a) || decide (k = b)) := fun k => by
    rw [Nat.testBit_or, Nat.testBit_two_pow, Nat.testBit_two_pow]
    congr 1
    · exact decide_eq_decide.mpr ⟨Eq.symm, Eq.symm⟩
    · exact decide_eq_decide.mpr ⟨Eq.symm, Eq.symm⟩
  unfold tb
  rw [two_pc a (by omega) b (by omega) hne, decide_eq_true (Nat.le_refl 2), Bool.true_and]
  have iff := tb_twos (M := M) hn (two_lt ha hb) hc
  cases hM : M a b with
  | true =>
    refine decide_eq_true (iff.mpr (fun p q hpq hq bp bq => ?_))
    rw [bit, Bool.or_eq_true, decide_eq_true_iff, decide_eq_true_iff] at bp bq
    rcases bp with rfl | rfl
    · rcases bq with rfl | rfl
      · omega
      · exact hM
    · rcases bq with rfl | rfl
      · rw [hc]; exact hM
      · omega
  | false =>
    refine decide_eq_false (fun z => ?_)
    have z := iff.mp z
    have ba : (2 ^ a ||| 2 ^ b).testBit a = true := by rw [bit, decide_eq_true rfl]; rfl
    have bb : (2 ^ a ||| 2 ^ b).testBit b = true := by rw [bit, decide_eq_true (rfl : b = b), Bool.or_true]
    by_cases hlt : a < b
    · rw [z a b hlt (by omega) ba bb] at hM; cases hM
    · have := z b a (by omega) (by omega) bb ba
      rw [hc, this] at hM; cases hM
theorem seD_W (hW : iv_W 999 r) (ha : a < nv (r 0)) (hb : b < nv (r 0)) (hw : w ≤ 9) : iv_W 999 (seD r lw a b w h) := by
  unfold seD
  by_cases e : a = b
  · rw [if_pos e]; exact hW
  rw [if_neg e]
  by_cases h2 : h < 2
  · rw [if_pos h2]
    by_cases c : r (14 + (7 * a + b)) = nI w
    · rw [if_pos c]; exact hW
    · rw [if_neg c]; exact harmS_W hW ha hb e hw
  rw [if_neg h2]
  by_cases h3 : h = 2
  · rw [if_pos h3]
    cases mtx r lw a b with
    | true => rw [if_pos rfl]; exact feastS_W hW
    | false => rw [if_neg (by decide)]; exact hW
  · rw [if_neg h3]; exact pardS_W hW ha hb
theorem seD_out {k : Nat} (hW : iv_W 999 r) (ha : a < nv (r 0)) (hb : b < nv (r 0)) (hk : k < 7 ∨ 112 ≤ k) : seD r lw a b w h k = r k := by
  have h7 := hW.n7
  unfold seD
  by_cases e : a = b
  · rw [if_pos e]
  rw [if_neg e]
  by_cases h2 : h < 2
  · rw [if_pos h2]
    by_cases c : r (14 + (7 * a + b)) = nI w
    · rw [if_pos c]
    · rw [if_neg c]
      unfold harmS
      rw [if_neg (by omega), if_neg (by omega)]
  rw [if_neg h2]
  by_cases h3 : h = 2
  · rw [if_pos h3]
    cases mtx r lw a b with
    | true => rw [if_pos rfl]; exact feastS_14 h7 (by omega)
    | false => rw [if_neg (by decide)]
  · rw [if_neg h3]
    unfold pardS
    rw [if_neg (by omega)]
theorem seX_W (hW : iv_W 999 r) (h0 : 1 ≤ nv (r 0)) : iv_W 999 (seX r lw x) := seD_W hW (Nat.mod_lt _ (by omega)) (Nat.mod_lt _ (by omega)) (by have : dwN (dwN (dwN x)) % 9 < 9 := Nat.mod_lt _ (by decide); omega)
theorem seX_out {k : Nat} (hW : iv_W 999 r) (h0 : 1 ≤ nv (r 0)) (hk : k < 7 ∨ 112 ≤ k) : seX r lw x k = r k := seD_out hW (Nat.mod_lt _ (by omega)) (Nat.mod_lt _ (by omega)) hk
theorem seP_W (hW : iv_W 999 r) (h0 : 1 ≤ nv (r 0)) (h4 : nv (r 4) < 999) : iv_W 999 (seP r lw x) := passS_W (seX_W hW h0) (Nat.le_refl _) (by rw [seX_out hW h0 (by omega)]; omega) (by decide)
theorem seP_out {k : Nat} (hW : iv_W 999 r) (h0 : 1 ≤ nv (r 0)) (hk : k < 4 ∨ 112 ≤ k) : seP r lw x k = r k := by
  unfold seP
  rw [passS_14 (by rw [seX_out hW h0 (by omega)]; exact hW.n7) (by omega), seX_out hW h0 (by omega)]
theorem dw_step (x : Nat) (hx : x < 1000003) : ((lN x * (1103 : Int64)) + (12345 : Int64)) - ((lN x * (1103 : Int64)) + (12345 : Int64)) / (1000003 : Int64) * (1000003 : Int64) = lN (dwN x) := by
  rw [show (1103 : Int64) = lN 1103 from rfl, show (12345 : Int64) = lN 12345 from rfl, show (1000003 : Int64) = lN 1000003 from rfl, lN_mul, lN_add, pk_lRem (by omega) (by decide) (by decide)]
  rfl
theorem cnext_ok (hx : x < 1000003) (h0 : m.2.1 0 0 0 = lN x) (hn : 1 ≤ n) (hn9 : n ≤ 9) : fn_X0_next (nI n) m = some (nI (dwN x % n), am_sg m 0 0 0 (lN (dwN x))) := by
  have dl := dwN_lt x
  unfold fn_X0_next
  rw [h0, dw_step x hx, if_neg (nI_nle (by omega) (by omega)), nI_l (by omega), gd_t (show ¬ lN n = 0 from fun z => by have := (lN_eq (b := 0) (by omega) (by decide)).mp z; omega), pk_lRem (by omega) (by omega) (by omega), lN_i]
theorem rdraw_ok (hx : x < 1000003) (h0 : m.2.1 10 0 59 = lN x) (hn : 1 ≤ n) (hn9 : n ≤ 9) : fn_X10_draw (nI n) m = some (nI (dwN x % n), am_sg m 10 0 59 (lN (dwN x))) := by
  have dl := dwN_lt x
  unfold fn_X10_draw
  rw [h0, dw_step x hx, nI_l (by omega), gd_t (show ¬ lN n = 0 from fun z => by have := (lN_eq (b := 0) (by omega) (by decide)).mp z; omega), pk_lRem (by omega) (by omega) (by omega), lN_i]
theorem cdeed_ok (hj : jdx 999 2 r lw m) (ha : a < nv (r 0)) (hb : b < nv (r 0)) (hne : a ≠ b) (hw : w ≤ 9) (hh : h < 4) : ∃ m', fn_X9_seasonDeed (nI h) (nI a) (nI b) (nI w) m = some m' ∧ jdx 999 2 (seD r lw a b w h) lw m' ∧ (∀ u, u ≠ 2 → sm_U m m' u) ∧ m'.2.1 0 = m.2.1 0 := by
  obtain ⟨hn, h7⟩ := hj.n
  have hW := hj.2.2.1
  have hU := hj.2.1
  have h128 := pw_le h7
  have ew : fn_X8_weightOf 2 (nI a) (nI b) m = some (r (14 + (7 * a + b))) := by rw [cweight_ok hn h7 ha hb hne, hU.2.2.2.2.2.2.1 _ (by omega)]
  have eW := seD_W (lw := lw) (h := h) hW ha hb hw
  have same : ∀ u, u ≠ 2 → sm_U m m u := fun u _ => ⟨rfl, rfl, rfl, rfl, rfl, rfl⟩
  have setk : ∀ v d : Int32, am_kp [(37, 0), (38, 0)] [] 0 m (am_si (am_si m 37 2 (7 * a + b) v) 38 2 (7 * a + b) d) := fun v d => am_kp.si (am_kp.si am_kp.rf rfl) rfl
  have setu : ∀ v d : Int32, ∀ u, u ≠ 2 → sm_U m (am_si (am_si m 37 2 (7 * a + b) v) 38 2 (7 * a + b) d) u := fun v d u hu => (sm_U.si (m := m) 37 2 (7 * a + b) v u (Or.inl (Ne.symm hu))).tr (sm_U.si (m := am_si m 37 2 (7 * a + b) v) 38 2 (7 * a + b) d u (Or.inl (Ne.symm hu)))
  unfold fn_X9_seasonDeed
  rw [ew, bd_s]
  have sd1 : seD r lw a b w h = if h < 2 then (if r (14 + (7 * a + b)) = nI w then r else harmS r a b (nI w)) else if h = 2 then (if mtx r lw a b then feastS r lw (2 ^ a ||| 2 ^ b) else r) else pardS r a b := if_neg hne
  rw [sd1] at eW ⊢
  by_cases h3 : h = 3
  · subst h3
    rw [if_neg (show ¬ nI 3 ≠ (3 : Int32) from fun z => z rfl), csetHarm_ok hn h7 ha hb hne, bd_s]
    rw [if_neg (by omega), if_neg (by omega)] at eW ⊢
    refine ⟨_, rfl, ⟨hj.1, hU.harm (d' := r (63 + (7 * a + b))) (by omega) (by omega) (fun k => ?_) (fun z => absurd z (by decide)), eW, hj.2.2.2.kp (setk 0 0) rfl⟩, setu 0 0, rfl⟩
    show pardS r a b k = _
    unfold pardS
    by_cases e : k = 63 + (7 * a + b)
    · rw [if_pos e, if_neg (by omega), e]
    · rw [if_neg e]; rfl
  · rw [if_pos (show nI h ≠ (3 : Int32) from nI_ne (b := 3) (by omega) (by decide) h3)]
    by_cases h2 : h = 2
    · subst h2
      rw [if_neg (show ¬ nI 2 ≠ (2 : Int32) from fun z => z rfl), sh1 a (by omega), sh1 b (by omega), fa_or]
      rw [if_neg (by omega), if_pos rfl] at eW ⊢
      have sl := two_lt ha hb
      obtain ⟨m1, e1, j1, k1⟩ := cjtable_ok hj (by decide) sl
      rw [two_tb h7 ha hb hne (mtx_comm r lw)] at e1
      rw [e1, bd_s]
      cases hM : mtx r lw a b with
      | false =>
        rw [if_pos (show bv false = 0 from rfl), bd_s, if_neg (by decide)]
        exact ⟨m1, rfl, j1, fun u hu => sm_U.kp k1 rfl u, by funext p q; exact k1.fldL 0 p q rfl⟩
      | true =>
        obtain ⟨m2, e2, a2, U2, l2, u2⟩ := cfeed_ok j1 (by decide) (show 2 ^ a ||| 2 ^ b < 128 by omega)
        have k2 := kp_X1_feedTable _ _ _ e2
        rw [hM, if_pos rfl] at eW
        rw [if_neg (show ¬ bv true = 0 by decide), e2, bd_s, bd_s, if_pos rfl]
        exact ⟨m2, rfl, ⟨a2, U2, eW, l2⟩, fun u hu => (sm_U.kp k1 rfl u).tr (u2 u hu), by funext p q; rw [k2.fldL 0 p q rfl, k1.fldL 0 p q rfl]⟩
    · rw [if_pos (show nI h ≠ (2 : Int32) from nI_ne (b := 2) (by omega) (by decide) h2)]
      rw [if_pos (show h < 2 by omega)] at eW ⊢
      by_cases c : r (14 + (7 * a + b)) = nI w
      · rw [if_pos c, if_pos c]
        exact ⟨m, rfl, hj, same, rfl⟩
      · rw [if_neg c] at eW
        rw [if_neg c, if_neg c, csetHarm_ok hn h7 ha hb hne, bd_s]
        have e4 : m.1 39 2 0 = r 4 := hU.2.2.2.2.1 0 (by decide)
        exact ⟨_, rfl, ⟨hj.1, hU.harm (by omega) (by omega) (fun k => rfl) (fun _ => e4), eW, hj.2.2.2.kp (setk _ _) rfl⟩, setu _ _, rfl⟩
theorem cseason_ok (hj : jdx 999 2 r lw m) (hx : x < 1000003) (hd : m.2.1 0 0 0 = lN x) (h4 : nv (r 4) < 999) (h0 : 1 ≤ nv (r 0)) : ∃ m', fn_X9_oneSeason m = some m' ∧ jdx 999 2 (seP r lw x) lw m' ∧ m'.2.1 0 0 0 = lN (dwN (dwN (dwN (dwN x)))) ∧ ∀ u, u ≠ 2 → sm_U m m' u := by
  obtain ⟨hn, h7⟩ := hj.n
  have hW := hj.2.2.1
  have l1 := dwN_lt x
  have l2 := dwN_lt (dwN x)
  have l3 := dwN_lt (dwN (dwN x))
  have la : dwN x % nv (r 0) < nv (r 0) := Nat.mod_lt _ (by omega)
  have lb : dwN (dwN x) % nv (r 0) < nv (r 0) := Nat.mod_lt _ (by omega)
  have l9 : dwN (dwN (dwN x)) % 9 < 9 := Nat.mod_lt _ (by decide)
  have lh : dwN (dwN (dwN (dwN x))) % 4 < 4 := Nat.mod_lt _ (by decide)
  let m1 : am_m := am_sg m 0 0 0 (lN (dwN x))
  let m2 : am_m := am_sg m1 0 0 0 (lN (dwN (dwN x)))
  let m3 : am_m := am_sg m2 0 0 0 (lN (dwN (dwN (dwN x))))
  let m4 : am_m := am_sg m3 0 0 0 (lN (dwN (dwN (dwN (dwN x)))))
  have n1 : fn_X0_next (m.1 8 2 0) m = some (nI (dwN x % nv (r 0)), m1) := by rw [hn]; exact cnext_ok hx hd h0 (by omega)
  have n2 : fn_X0_next (m1.1 8 2 0) m1 = some (nI (dwN (dwN x) % nv (r 0)), m2) := by
    show fn_X0_next (m.1 8 2 0) m1 = _
    rw [hn]; exact cnext_ok (m := m1) l1 rfl h0 (by omega)
  have n3 : fn_X0_next 9 m2 = some (nI (dwN (dwN (dwN x)) % 9), m3) := cnext_ok (m := m2) (n := 9) l2 rfl (by decide) (by decide)
  have n4 : fn_X0_next 4 m3 = some (nI (dwN (dwN (dwN (dwN x))) % 4), m4) := cnext_ok (m := m3) (n := 4) l3 rfl (by decide) (by decide)
  have j4 : jdx 999 2 r lw m4 := hj
  -- the deed
  have deed : ∃ m5, (if nI (dwN x % nv (r 0)) = nI (dwN (dwN x) % nv (r 0)) then some m4 else (fn_X9_seasonDeed (nI (dwN (dwN (dwN (dwN x))) % 4)) (nI (dwN x % nv (r 0))) (nI (dwN (dwN x) % nv (r 0))) (nI (dwN (dwN (dwN x)) % 9) + (1 : Int32)) m4).bind fun r10 => some r10) = some m5 ∧ jdx 999 2 (seX r lw x) lw m5 ∧ (∀ u, u ≠ 2 → sm_U m m5 u) ∧ m5.2.1 0 0 0 = lN (dwN (dwN (dwN (dwN x)))) := by
    by_cases e : dwN x % nv (r 0) = dwN (dwN x) % nv (r 0)
    · rw [if_pos (by rw [e])]
      refine ⟨m4, rfl, ?_, fun u _ => ⟨rfl, rfl, rfl, rfl, rfl, rfl⟩, rfl⟩
      have : seX r lw x = r := by unfold seX seD; rw [if_pos e]
      rw [this]; exact j4
    · obtain ⟨m5, f1, f2, f3, f4⟩ := cdeed_ok (m := m4) (w := dwN (dwN (dwN x)) % 9 + 1) (h := dwN (dwN (dwN (dwN x))) % 4) j4 la lb e (by omega) lh
      rw [if_neg (nI_ne (by omega) (by omega) e), nI_1, f1, bd_s]
      exact ⟨m5, rfl, f2, f3, by rw [f4]; rfl⟩
  obtain ⟨m5, d1, d2, d3, d4⟩ := deed
  obtain ⟨m6, e1, e2, e3, e4, e5⟩ := cpass_ok d2 (by decide)
  have k6 := kp_X1_passDay _ _ e1
  refine ⟨m6, ?_, ⟨e2, e3, seP_W hW h0 h4, e4⟩, by rw [k6.fldL 0 0 0 rfl]; exact d4, fun u hu => (d3 u hu).tr (e5 u hu)⟩
  unfold fn_X9_oneSeason
  rw [n1, bd_s]
  dsimp only
  rw [n2, bd_s]
  dsimp only
  rw [n3, bd_s]
  dsimp only
  rw [n4, bd_s]
  dsimp only
  rw [d1, bd_s, e1, bd_s]
end SE
