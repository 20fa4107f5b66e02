/-! loops; sets as bits -/
theorem lp_up {α β : Type} (L : Nat → Int32 → α → Option β) (P : Nat → α → Prop) (Q : β → Prop) (n : Nat)
    (hend : ∀ N a, P n a → ∃ b, L (N + 1) (nI n) a = some b ∧ Q b)
    (hstep : ∀ N i a, i < n → P i a → (∃ a', L (N + 1) (nI i) a = L N (nI (i + 1)) a' ∧ P (i + 1) a') ∨ ∃ b, L (N + 1) (nI i) a = some b ∧ Q b) :
    ∀ (d i N : Nat) (a : α), i + d = n → d < N → P i a → ∃ b, L N (nI i) a = some b ∧ Q b
  | _, _, 0, _, _, h, _ => absurd h (Nat.not_lt_zero _)
  | 0, i, N + 1, a, h, _, hp => by
    have e : i = n := by omega
    subst e
    exact hend N a hp
  | d + 1, i, N + 1, a, h, hN, hp => by
    rcases hstep N i a (by omega) hp with ⟨a', e, hp'⟩ | ⟨b, e, hq⟩
    · rw [e]
      exact lp_up L P Q n hend hstep d (i + 1) N a' (by omega) (by omega) hp'
    · exact ⟨b, e, hq⟩
/-- from 0 -/
theorem lp_up0 {α β : Type} (L : Nat → Int32 → α → Option β) (P : Nat → α → Prop) (Q : β → Prop) (n : Nat) (hn : n < 1000000)
    (hend : ∀ N a, P n a → ∃ b, L (N + 1) (nI n) a = some b ∧ Q b)
    (hstep : ∀ N i a, i < n → P i a → (∃ a', L (N + 1) (nI i) a = L N (nI (i + 1)) a' ∧ P (i + 1) a') ∨ ∃ b, L (N + 1) (nI i) a = some b ∧ Q b)
    (a : α) (h0 : P 0 a) : ∃ b, L 1000000 0 a = some b ∧ Q b := lp_up L P Q n hend hstep n 0 1000000 a (Nat.zero_add n) hn h0
/-- where what is carried is told by the place -/
theorem lp_eq {α β : Type} (L : Nat → Int32 → α → Option β) (f : Nat → α) (r : β) (n : Nat) (hn : n < 1000000)
    (hend : ∀ N, L (N + 1) (nI n) (f n) = some r)
    (hstep : ∀ N i, i < n → L (N + 1) (nI i) (f i) = L N (nI (i + 1)) (f (i + 1))) (s : Nat) (hs : s ≤ n) : L 1000000 (nI s) (f s) = some r := by
  obtain ⟨b, h1, h2⟩ := lp_up L (fun i a => a = f i) (fun b => b = r) n (fun N a h => ⟨r, by rw [h]; exact hend N, rfl⟩) (fun N i a hi h => Or.inl ⟨f (i + 1), by rw [h]; exact hstep N i hi, rfl⟩) (n - s) s 1000000 (f s) (by omega) (by omega) rfl
  rw [h1, h2]
/-- downwards -/
theorem lp_dn {α β : Type} (L : Nat → Int32 → α → Option β) (P : Nat → α → Prop) (Q : β → Prop)
    (hend : ∀ N a, P 0 a → ∃ b, L (N + 1) (-1) a = some b ∧ Q b)
    (hstep : ∀ N i a, P (i + 1) a → ∃ a', L (N + 1) (nI i) a = L N (nI i - 1) a' ∧ P i a') :
    ∀ (i N : Nat) (a : α), i < N → P i a → ∃ b, L N (nI i - 1) a = some b ∧ Q b
  | _, 0, _, h, _ => absurd h (Nat.not_lt_zero _)
  | 0, N + 1, a, _, hp => hend N a hp
  | i + 1, N + 1, a, hN, hp => by
    obtain ⟨a', e, hp'⟩ := hstep N i a hp
    rw [nI_pred, e]
    exact lp_dn L P Q hend hstep i N a' (by omega) hp'
def bv (b : Bool) : Int32 := if b then 1 else 0
theorem bv_0 {b : Bool} : bv b = 0 ↔ b = false := by cases b <;> decide
theorem bv_n0 {b : Bool} : bv b ≠ 0 ↔ b = true := by cases b <;> decide
theorem bv_01 (b : Bool) : bv b = 0 ∨ bv b = 1 := by cases b <;> decide
theorem sh1 : ∀ k, k < 31 → (1 : Int32) <<< (nI k &&& 31) = nI (2 ^ k) := by decide +kernel
theorem bit1 : ∀ s, s < 128 → ∀ k, k < 7 → ((nI s >>> (nI k &&& 31)) &&& 1) = bv (s.testBit k) := by decide +kernel
theorem all_n : ∀ n, n < 8 → ((1 : Int32) <<< (nI n &&& 31)) - 1 = nI (2 ^ n - 1) := by decide +kernel
theorem pw_le {n : Nat} (h : n ≤ 7) : 2 ^ n ≤ 128 := Nat.pow_le_pow_right (n := 2) (by decide) h
/-- a set without another one -/
def sd (a b : Nat) : Nat := a &&& (b ^^^ 4294967295)
theorem sd_I (a b : Nat) : nI a &&& (nI b ^^^ (-1)) = nI (sd a b) := by
  rw [show (-1 : Int32) = nI 4294967295 from rfl, fb_xorI, fa_and]
  rfl
theorem sd_bit {a b : Nat} (ha : a < 4294967296) (k : Nat) : (sd a b).testBit k = (a.testBit k && !b.testBit k) := by
  unfold sd
  rw [Nat.testBit_and, Nat.testBit_xor, show (4294967295 : Nat) = 2 ^ 32 - 1 from rfl, Nat.testBit_two_pow_sub_one]
  by_cases hk : k < 32
  · rw [decide_eq_true hk]
    cases b.testBit k <;> rfl
  · rw [Nat.testBit_lt_two_pow (x := a) (Nat.lt_of_lt_of_le ha (Nat.pow_le_pow_right (n := 2) (i := 32) (by decide) (by omega)))]
    rfl
theorem sd_le (a b : Nat) : sd a b ≤ a := Nat.and_le_left
theorem sd_0 {a b : Nat} (ha : a < 4294967296) : sd a b = 0 ↔ ∀ k, a.testBit k = true → b.testBit k = true := by
  constructor
  · intro h k hk
    have h2 := sd_bit (b := b) ha k
    rw [h, Nat.zero_testBit, hk] at h2
    cases hb : b.testBit k with
    | true => rfl
    | false => rw [hb] at h2; cases h2
  · intro h
    refine Nat.eq_of_testBit_eq (fun k => ?_)
    rw [sd_bit ha, Nat.zero_testBit]
    cases hk : a.testBit k with
    | false => rfl
    | true => rw [h k hk]; rfl
theorem bit_lt {s n k : Nat} (hs : s < 2 ^ n) (h : s.testBit k = true) : k < n := by
  by_cases hk : k < n
  · exact hk
  · rw [Nat.testBit_lt_two_pow (Nat.lt_of_lt_of_le hs (Nat.pow_le_pow_right (by decide) (by omega)))] at h
    cases h
theorem bit_big {s n k : Nat} (hs : s < 2 ^ n) (h : n ≤ k) : s.testBit k = false := Nat.testBit_lt_two_pow (Nat.lt_of_lt_of_le hs (Nat.pow_le_pow_right (by decide) h))
/-- how many a set has -/
def pc (s : Nat) : Nat := fb_ct (fun k => s.testBit k) 7
theorem pc_le (s : Nat) : pc s ≤ 7 := fb_ct_le _ 7
theorem bc_all : ∀ s, s < 128 → fn_J6_bitCount_0f7a4 (nI s) ((fun _ _ _ => 0), (fun _ _ _ => 0), (fun _ => none), (fun _ => none), (fun _ _ => none), (fun _ _ => none), (fun _ _ => 0), (fun _ => 0)) = some (nI (pc s)) := by decide +kernel
theorem bc_ok {s : Nat} (hs : s < 128) (m : am_m) : fn_J6_bitCount_0f7a4 (nI s) m = some (nI (pc s)) := bc_all s hs
theorem ones_ok {s : Nat} (hs : s < 128) (m : am_m) : fn_X10_ones (nI s) m = some (nI (pc s)) := by
  unfold fn_X10_ones
  rw [show lp_X10_ones_4 1000000 (nI s) 0 0 m = some (nI (pc s)) from lp_eq (fun N x a => lp_X10_ones_4 N (nI s) a x m) (fun i => nI (fb_ct (fun k => s.testBit k) i)) _ 7 (by decide) (fun N => ?_) (fun N i hi => ?_) 0 (by decide)]
  · rfl
  · show lp_X10_ones_4 (N + 1) (nI s) _ (nI 7) m = _
    rw [lp_X10_ones_4.eq_2, if_pos (by decide)]
    rfl
  · show lp_X10_ones_4 (N + 1) (nI s) _ (nI i) m = lp_X10_ones_4 N (nI s) _ (nI (i + 1)) m
    rw [lp_X10_ones_4.eq_2, if_neg (show ¬ (7 : Int32) ≤ nI i from nI_ge (b := 7) hi (by decide)), bit1 s hs i hi, nI_1, fb_ct_succ]
    cases s.testBit i with
    | false => rw [show bv false = nI 0 from rfl, nI_add]; rfl
    | true => rw [show bv true = nI 1 from rfl, nI_add]; rfl
theorem is_ok {s k : Nat} (hs : s < 128) (hk : k < 7) (m : am_m) : fn_X10_is (nI s) (nI k) m = some (bv (s.testBit k)) := by
  unfold fn_X10_is
  rw [bit1 s hs k hk]
  cases s.testBit k <;> rfl
theorem isN_all : ∀ s, s < 128 → ∀ k, k < 7 → (((nI s >>> (nI k &&& 31)) &&& 1) ≠ 1 ↔ s.testBit k = false) := by decide +kernel
theorem isN {s k : Nat} (hs : s < 128) (hk : k < 7) : ((nI s >>> (nI k &&& 31)) &&& 1) ≠ 1 ↔ s.testBit k = false := isN_all s hs k hk
/-- the set of those below n of whom f is so -/
def sx (f : Nat → Bool) : Nat → Nat
  | 0 => 0
  | n + 1 => sx f n ||| (if f n then 2 ^ n else 0)
theorem sx_bit (f : Nat → Bool) (k : Nat) : ∀ n, (sx f n).testBit k = (decide (k < n) && f k)
  | 0 => by rw [sx, Nat.zero_testBit, decide_eq_false (Nat.not_lt_zero k)]; rfl
  | n + 1 => by
    rw [sx, Nat.testBit_or, sx_bit f k n]
    by_cases hk : k = n
    · subst hk
      rw [decide_eq_false (Nat.lt_irrefl k), decide_eq_true (Nat.lt_succ_self k)]
      cases f k with
      | false => rw [if_neg (by decide), Nat.zero_testBit]; rfl
      | true => rw [if_pos rfl, Nat.testBit_two_pow_self]; rfl
    · have e : (if f n then 2 ^ n else 0).testBit k = false := by
        cases f n with
        | false => rw [if_neg (by decide), Nat.zero_testBit]
        | true => rw [if_pos rfl, Nat.testBit_two_pow_of_ne (Ne.symm hk)]
      rw [e, Bool.or_false]
      by_cases h2 : k < n
      · rw [decide_eq_true h2, decide_eq_true (by omega)]
      · rw [decide_eq_false h2, decide_eq_false (by omega)]
theorem sx_lt (f : Nat → Bool) (n : Nat) : sx f n < 2 ^ n := Nat.lt_pow_two_of_testBit _ (fun i hi => by rw [sx_bit, decide_eq_false (by omega)]; rfl)
theorem sx_cong {f g : Nat → Bool} {n : Nat} (h : ∀ k, k < n → f k = g k) : sx f n = sx g n := Nat.eq_of_testBit_eq (fun k => by
  rw [sx_bit, sx_bit]
  by_cases hk : k < n
  · rw [h k hk]
  · rw [decide_eq_false hk]; rfl)
theorem sx_small (f : Nat → Bool) {n : Nat} (h : n ≤ 7) : sx f n < 128 := Nat.lt_of_lt_of_le (sx_lt f n) (pw_le h)
/-- a step of a loop that gathers a set -/
theorem sx_step (f : Nat → Bool) {i : Nat} (hi : i < 31) : nI (sx f i) ||| (if f i then (1 : Int32) <<< (nI i &&& 31) else 0) = nI (sx f (i + 1)) := by
  rw [sx]
  cases f i with
  | false => rw [if_neg (by decide), if_neg (by decide), show (0 : Int32) = nI 0 from rfl, fa_or]
  | true => rw [if_pos rfl, if_pos rfl, sh1 i hi, fa_or]
theorem sx_stepn {f : Nat → Bool} {i : Nat} (h : f i = false) : sx f (i + 1) = sx f i := by
  rw [sx, h, if_neg (by decide), Nat.or_zero]
theorem sx_stepy {f : Nat → Bool} {i : Nat} (h : f i = true) (hi : i < 31) : nI (sx f i) ||| ((1 : Int32) <<< (nI i &&& 31)) = nI (sx f (i + 1)) := by
  rw [← sx_step f hi, if_pos h]
section CALLS
variable {m : am_m}
/-- a call that only looks -/
theorem op_look {α : Type} {f g : am_m → Option (α × am_m)} {WI WL WI' WL' : List (Nat × Nat)} {E E' : Nat} (h : Inv m) (kf : ∀ t, f m = some t → am_kp WI WL E m t.2) (kg : ∀ m1 t, g m1 = some t → am_kp WI' WL' E' m1 t.2)
    (hs1 : ((am_hit WI 9 17 || (am_hit WI 10 1 || (am_hit WI 42 0 || am_hit WI 43 0))) || (am_hit WI' 9 17 || (am_hit WI' 10 1 || (am_hit WI' 42 0 || am_hit WI' 43 0)))) = false) (hs2 : (am_sub WI sc_I && (am_sub WL sc_L && Nat.ble E 1)) = true) (hs3 : (am_sub WI' sc_I && (am_sub WL' sc_L && Nat.ble E' 1)) = true)
    (r : α) (hf : ∃ m1, f m = some (r, m1)) (hg : ∀ m1, Inv m1 → m1.1 44 = m.1 44 → ∃ m2, g m1 = some (r, m2)) : op_ok m f g := by
  rw [Bool.or_eq_false_iff] at hs1
  obtain ⟨m1, h1⟩ := hf
  have k1 := kf _ h1
  have i1 := h.look k1 hs1.1 hs2
  obtain ⟨m2, h2⟩ := hg m1 i1 ((k1.mono hs2).row 44 rfl)
  exact ⟨r, m1, m2, h1, h2, i1.look (kg _ _ h2) hs1.2 hs3⟩
theorem iv_W.n7 {D : Nat} {r : Nat → Int32} (h : iv_W D r) : nv (r 0) ≤ 7 := h.2.1
theorem iv_W.r0 {D : Nat} {r : Nat → Int32} (h : iv_W D r) : r 0 = nI (nv (r 0)) := h.1 0 (by decide) (by decide)
/-- the LAW in force, as both have it -/
theorem law_of {lf : Int32} (h : Inv m) (hl : lf = -1 ∨ (lf = nI (nv lf) ∧ nv lf < nv (m.1 44 0 2))) : ∃ lw : lw_T, (∀ r : Nat → Int32, r 3 = lf → (∀ k, 118 ≤ k → r k = m.1 44 0 k) → rf_law r lw) ∧ ∃ o, fn_X8_lawOf 0 lf m = some o ∧ ∀ a, jd_law (am_sb (am_sa m a) o) lw := by
  have hU := h.u
  have hW := h.w
  have e2 : m.1 8 0 2 = nI (nv (m.1 44 0 2)) := hU.2.2.1.trans (hW.k (by decide) (by decide))
  have n6 : nv (m.1 44 0 2) ≤ 6 := hW.2.2.2.1
  rcases hl with rfl | ⟨e, hlt⟩
  · refine ⟨none, fun r hr _ => hr, none, ?_, fun a => rfl⟩
    unfold fn_X8_lawOf
    rw [if_pos (by decide)]
  · obtain ⟨s, g1, g2, g3, n, cs, g4, g5, g6⟩ := h.1.2.2.1 (nv lf) hlt
    refine ⟨some (n, cs), fun r hr hk => ⟨nv lf, by omega, hr.trans e, g4, ?_⟩, some s, ?_, fun a => ⟨s, ?_, g4, g6⟩⟩
    · show iv_LR (fun i => r (118 + 900 * nv lf + i)) n cs
      rw [show (fun i => r (118 + 900 * nv lf + i)) = (fun i => m.1 44 0 (118 + 900 * nv lf + i)) from funext (fun i => hk _ (by omega))]
      exact g5
    · unfold fn_X8_lawOf
      rw [e, e2, if_neg (nI_pos (by omega)), if_neg (nI_ge hlt (by omega)), ck_in (by omega) (by decide), nI_clamp (by omega), g3]
    · show am_u1 m.2.2.2.1 0 (some s) 0 = some s
      rfl
/-- the class asks as it is now -/
theorem askLive_ok (h : Inv m) : ∃ lw m1, fn_X9_askLive m = some m1 ∧ jdx 999 0 (m.1 44 0) lw m1 ∧ m1.1 = m.1 ∧ am_kp [] [] 1 m m1 ∧ ∀ r : Nat → Int32, r 3 = m.1 44 0 3 → (∀ k, 118 ≤ k → r k = m.1 44 0 k) → rf_law r lw := by
  obtain ⟨lw, h1, o, h2, h3⟩ := law_of (lf := m.1 44 0 3) h h.w.2.2.2.2.1
  refine ⟨lw, am_sb (am_sa m (some 0)) o, ?_, ⟨rfl, h.u, h.w, h3 _⟩, rfl, am_kp.sb (am_kp.sa am_kp.rf rfl) rfl, h1⟩
  unfold fn_X9_askLive fn_X1_look
  rw [h.u.2.2.2.1, h2]
  rfl
theorem Inv.rfx {lw : lw_T} (h : Inv m) (hl : rf_law (m.1 44 0) lw) : rfx 999 lw m := ⟨h.w, hl, h.1.2.2.2.2.2.2.2.1.2.2.2⟩
end CALLS
