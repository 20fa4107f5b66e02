/-! the reference's tells, and what it makes of it -/
section RT3
variable {m : am_m} {n h j p q D : Nat} {cs : Nat → cl_T} {size : Int32} {w : Int64}
/-- the words of one and another one -/
def ew2 (r : Nat → Int32) (p q : Nat) : Nat → Int64 := ev8 (nI p) (nI q) (r (14 + (7 * p + q))) (if r (14 + (7 * p + q)) = 0 then -1 else r 4 - r (63 + (7 * p + q))) (r (7 + p)) (-1) (r 4) (r 6)
/-- the words of one, at a table of that size -/
def ew1 (p : Nat) (fed size day mood : Int32) : Nat → Int64 := ev8 (nI p) (-1) (-1) (-1) fed size day mood
abbrev kI : List (Nat × Nat) := [(10, 34), (10, 38)]
abbrev kL : List (Nat × Nat) := [(10, 39), (10, 40), (85, 0), (87, 0)]
theorem weightOf_ok (hp : p < 7) (hq : q < 7) (m : am_m) : fn_X10_weightOf (nI p) (nI q) m = some (m.1 44 0 (14 + (7 * p + q))) := by
  unfold fn_X10_weightOf
  rw [show (14 : Int32) = nI 14 from rfl, show (7 : Int32) = nI 7 from rfl, pk_mul, nI_add, nI_add, row_ck (by omega), nI_clamp (by omega), show 14 + 7 * p + q = 14 + (7 * p + q) by omega]
theorem weightOf_of {X : am_m} (hX : X.1 44 0 = m.1 44 0) (hp : p < 7) (hq : q < 7) : fn_X10_weightOf (nI p) (nI q) X = some (m.1 44 0 (14 + (7 * p + q))) := by
  rw [weightOf_ok hp hq, hX]
theorem nI_m1 {a : Nat} (ha : a < 2 ^ 31) : nI a ≠ (-1 : Int32) := fun z => by
  have h1 : (nI a).toInt = (-1 : Int32).toInt := congrArg Int32.toInt z
  rw [nI_toInt ha] at h1
  have h1 : (a : Int) = -1 := h1
  omega
/-- the reference's tells: from the words that it lays to what the LAW tells -/
theorem tells_run {env : Nat → Int64} {M : am_m} (hj : j < 6) (hcs : iv_cs n cs) (hLR : iv_LR (fun i => m.1 44 0 (118 + 900 * j + i)) n cs) (hh : h ≤ 3) (hk : am_kp kI kL 0 m M) (h34 : M.1 10 0 34 = nI (118 + 900 * j)) (h20 : m.1 10 0 20 = 0) (hset : ∀ x, 1 ≤ x → x ≤ 8 → M.2.1 85 0 x = env (x - 1)) : ∃ m', ((lp_X10_tells_180 1000000 (nI h) w 0 M).bind fun q23 => some (q23.1, q23.2)) = some ((cl_last cs h env n).getD w, m') ∧ am_kp kI kL 0 m m' := by
  have hn12 := hcs.1
  obtain ⟨m', e1, e2⟩ := tells_lp (L := 118 + 900 * j) (h := h) (env := env) (by omega) hcs hh n 0 (m := M) w w 1000000 (by omega) (by omega) (iv_LR_of hLR (hk.row 44 rfl)) h34 (by rw [hk.fld 10 0 20 rfl]; exact h20) hset rfl
  have e1 : lp_X10_tells_180 1000000 (nI h) w 0 M = _ := e1
  rw [e1, bd_s]
  exact ⟨m', rfl, hk.tr (am_kp.mono e2 rfl)⟩
theorem tells_two (hj : j < 6) (hF : m.1 44 0 3 = nI j) (h20 : m.1 10 0 20 = 0) (hcs : iv_cs n cs) (hLR : iv_LR (fun i => m.1 44 0 (118 + 900 * j + i)) n cs) (hh : h ≤ 3) (hp : p < 7) (hq : q < 7) : ∃ m', fn_X10_tells (nI h) (nI p) (nI q) (-1) w m = some ((cl_last cs h (ew2 (m.1 44 0) p q) n).getD w, m') ∧ am_kp kI kL 0 m m' := by
  have eL : (118 : Int32) + ((900 : Int32) * nI j) = nI (118 + 900 * j) := by
    rw [show (118 : Int32) = nI 118 from rfl, show (900 : Int32) = nI 900 from rfl, pk_mul, nI_add]
  have e63 : ((63 : Int32) + ((7 : Int32) * nI p)) + nI q = nI (63 + (7 * p + q)) := by
    rw [show (63 : Int32) = nI 63 from rfl, show (7 : Int32) = nI 7 from rfl, pk_mul, nI_add, nI_add, show 63 + 7 * p + q = 63 + (7 * p + q) by omega]
  have e7 : (7 : Int32) + nI p = nI (7 + p) := by
    rw [show (7 : Int32) = nI 7 from rfl, nI_add]
  have eage : (if m.1 44 0 (14 + (7 * p + q)) ≠ 0 then am_ck (nI (63 + (7 * p + q))) 5518 (some (((m.1 44 0 4) - (m.1 44 0 (nI (63 + (7 * p + q))).toNatClampNeg)).toInt64)) else some (-1 : Int64)) = some ((if m.1 44 0 (14 + (7 * p + q)) = 0 then (-1 : Int32) else m.1 44 0 4 - m.1 44 0 (63 + (7 * p + q))).toInt64) := by
    by_cases h0 : m.1 44 0 (14 + (7 * p + q)) = 0
    · rw [if_neg (fun z => z h0), if_pos h0]
      rfl
    · rw [if_pos h0, if_neg h0, row_ck (by omega), nI_clamp (by omega)]
  unfold fn_X10_tells
  rw [hF, if_pos (nI_m1 (show j < 2 ^ 31 by omega)), if_pos (nI_m1 (show q < 2 ^ 31 by omega)), eL, weightOf_of (m := m) (X := am_sg (am_sg (am_si m 10 0 34 (nI (118 + 900 * j))) 85 0 1 (nI p).toInt64) 85 0 2 (nI q).toInt64) rfl hp hq, bd_s, bd_s, if_neg (nI_m1 (show q < 2 ^ 31 by omega)), weightOf_of (m := m) (X := am_sg (am_sg (am_sg (am_si m 10 0 34 (nI (118 + 900 * j))) 85 0 1 (nI p).toInt64) 85 0 2 (nI q).toInt64) 85 0 3 (m.1 44 0 (14 + (7 * p + q))).toInt64) rfl hp hq, bd_s, e63, eage, bd_s, e7, row_ck (by omega), nI_clamp (by omega)]
  refine tells_run (j := j) hj hcs hLR hh ?_ rfl h20 ?_
  · exact am_kp.sg (am_kp.sg (am_kp.sg (am_kp.sg (am_kp.sg (am_kp.sg (am_kp.sg (am_kp.sg (am_kp.si am_kp.rf rfl) rfl) rfl) rfl) rfl) rfl) rfl) rfl) rfl
  · intro x h1 h8
    match x, h1, h8 with
    | 1, _, _ => rfl
    | 2, _, _ => rfl
    | 3, _, _ => rfl
    | 4, _, _ => rfl
    | 5, _, _ => rfl
    | 6, _, _ => rfl
    | 7, _, _ => rfl
    | 8, _, _ => rfl
    | x + 9, _, h8 => exact absurd h8 (by omega)
theorem tells_one (hj : j < 6) (hF : m.1 44 0 3 = nI j) (h20 : m.1 10 0 20 = 0) (hcs : iv_cs n cs) (hLR : iv_LR (fun i => m.1 44 0 (118 + 900 * j + i)) n cs) (hh : h ≤ 3) (hp : p < 7) : ∃ m', fn_X10_tells (nI h) (nI p) (-1) size w m = some ((cl_last cs h (ew1 p (m.1 44 0 (7 + p)) size (m.1 44 0 4) (m.1 44 0 6)) n).getD w, m') ∧ am_kp kI kL 0 m m' := by
  have eL : (118 : Int32) + ((900 : Int32) * nI j) = nI (118 + 900 * j) := by
    rw [show (118 : Int32) = nI 118 from rfl, show (900 : Int32) = nI 900 from rfl, pk_mul, nI_add]
  have e7 : (7 : Int32) + nI p = nI (7 + p) := by
    rw [show (7 : Int32) = nI 7 from rfl, nI_add]
  unfold fn_X10_tells
  rw [hF, if_pos (nI_m1 (show j < 2 ^ 31 by omega)), if_neg (show ¬ (-1 : Int32) ≠ -1 from fun z => z rfl), eL, bd_s, if_pos rfl, bd_s, e7, row_ck (by omega), nI_clamp (by omega)]
  refine tells_run (j := j) hj hcs hLR hh ?_ rfl h20 ?_
  · exact am_kp.sg (am_kp.sg (am_kp.sg (am_kp.sg (am_kp.sg (am_kp.sg (am_kp.sg (am_kp.sg (am_kp.si am_kp.rf rfl) rfl) rfl) rfl) rfl) rfl) rfl) rfl) rfl
  · intro x h1 h8
    match x, h1, h8 with
    | 1, _, _ => rfl
    | 2, _, _ => rfl
    | 3, _, _ => rfl
    | 4, _, _ => rfl
    | 5, _, _ => rfl
    | 6, _, _ => rfl
    | 7, _, _ => rfl
    | 8, _, _ => rfl
    | x + 9, _, h8 => exact absurd h8 (by omega)
theorem tells_none {a b c : Int32} (hF : m.1 44 0 3 = -1) : fn_X10_tells a b c size w m = some (w, m) := by
  unfold fn_X10_tells
  rw [hF, if_neg (fun z => z rfl)]
/-- a number held between 0 and 9 -/
def cap9 (v : Int64) : Int32 := if v < 0 then 0 else if 9 < v then 9 else v.toInt32
theorem bounded_ok (v : Int64) (m : am_m) : fn_X10_bounded v 0 9 m = some (cap9 v) := by
  have h3 : ∀ p q : Int64, p < q ↔ ¬ q ≤ p := fun p q => by rw [fa_lt64, fa_le64]; omega
  unfold fn_X10_bounded cap9
  rw [show (0 : Int32).toInt64 = 0 from rfl, show (9 : Int32).toInt64 = 9 from rfl, if_iff (lg_cmp_ge _ _), if_iff (lg_cmp_le _ _)]
  by_cases h1 : v < 0
  · rw [if_neg ((h3 _ _).mp h1), if_pos h1]
  · by_cases h2 : 9 < v
    · rw [if_pos (by rw [h3, Decidable.not_not] at h1; exact h1), if_neg ((h3 _ _).mp h2), if_neg h1, if_pos h2]
    · rw [if_pos (by rw [h3, Decidable.not_not] at h1; exact h1), if_pos (by rw [h3, Decidable.not_not] at h2; exact h2), if_neg h1, if_neg h2]
theorem cap9_small : ∀ x, x ≤ 9 → cap9 (nI x).toInt64 = nI x := by
  have h : ∀ x, x < 10 → cap9 (nI x).toInt64 = nI x := by decide +kernel
  exact fun x hx => h x (by omega)
theorem cap9_nat (v : Int64) : ∃ x, x ≤ 9 ∧ cap9 v = nI x := by
  unfold cap9
  by_cases h1 : v < 0
  · rw [if_pos h1]; exact ⟨0, by decide, rfl⟩
  · by_cases h2 : 9 < v
    · rw [if_neg h1, if_pos h2]; exact ⟨9, by decide, rfl⟩
    · rw [if_neg h1, if_neg h2]
      rw [fa_lt64] at h1 h2
      have h1 : ¬ v.toInt < 0 := h1
      have h2 : ¬ (9 : Int) < v.toInt := h2
      refine ⟨v.toInt.toNat, by omega, ?_⟩
      rw [show nI v.toInt.toNat = (lN v.toInt.toNat).toInt32 from (lN_i _).symm]
      congr 1
      rw [fa_eq64, pf_lI (by omega)]
      omega
end RT3
