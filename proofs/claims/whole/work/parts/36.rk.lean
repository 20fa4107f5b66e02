/-! the reference's reckonAll tells what its code tells -/
def stk (g : Nat → Int64) : List Int64 → Prop
  | [] => True
  | x :: r => g r.length = x ∧ stk g r
theorem stk.of {g g' : Nat → Int64} : ∀ {st : List Int64}, stk g st → (∀ i, i < st.length → g' i = g i) → stk g' st
  | [], _, _ => trivial
  | x :: r, h, he => ⟨(he r.length (Nat.lt_succ_self _)).trans h.1, h.2.of (fun i hi => he i (Nat.lt_succ_of_lt hi))⟩
theorem in_64 (x lo hi : Int64) (m : am_m) : fn_X10_in x lo hi m = some (if lo ≤ x ∧ x ≤ hi then 1 else 0) := by
  unfold fn_X10_in
  rw [if_iff (lg_cmp_lt _ _), if_iff (lg_cmp_gt _ _)]
  have h3 : ∀ p q : Int64, p < q ↔ ¬ q ≤ p := fun p q => by rw [fa_lt64, fa_le64]; omega
  by_cases h1 : x < lo
  · rw [if_pos h1, if_neg (fun q => (h3 _ _).mp h1 q.1)]
  · by_cases h2 : hi < x
    · rw [if_neg h1, if_pos h2, if_neg (fun q => (h3 _ _).mp h2 q.2)]
    · rw [if_neg h1, if_neg h2, if_pos ⟨by rw [h3, Decidable.not_not] at h1; exact h1, by rw [h3, Decidable.not_not] at h2; exact h2⟩]
theorem dn_in_iff (v : Int64) : (if (-1000000000 : Int64) ≤ v ∧ v ≤ 1000000000 then some v else none) = dn_in v := by
  unfold dn_in
  have h3 : ∀ p q : Int64, p < q ↔ ¬ q ≤ p := fun p q => by rw [fa_lt64, fa_le64]; omega
  by_cases h : (-1000000000 : Int64) ≤ v ∧ v ≤ 1000000000
  · rw [if_pos h, if_neg (fun q => by
      rcases q with q | q
      · exact (h3 _ _).mp q h.1
      · exact (h3 _ _).mp q h.2)]
  · rw [if_neg h, if_pos (by
      rw [h3, h3, ← Decidable.not_and_iff_not_or_not]
      exact h)]
theorem reckon_ok {o : Nat} (ho : o < 8) (a b : Int64) {m : am_m} (hb : m.1 10 0 38 = 0) : ∃ v q m', fn_X10_reckon (nI (20 + o)) a b m = some (v, m') ∧ m'.1 10 0 38 = q ∧ am_kp [(10, 38)] [] 0 m m' ∧ ((q = 1 ∧ dn_op o a b = none) ∨ (q = 0 ∧ dn_op o a b = dn_in v)) := by
  have one : ∀ w : Int64, (w = 0 ∨ w = 1) → dn_in w = some w := by
    rintro w (rfl | rfl) <;> decide
  have hge : ∀ p q : Int64, p < q ↔ ¬ q ≤ p := fun p q => by rw [fa_lt64, fa_le64]; omega
  match o, ho with
  | 0, _ =>
    refine ⟨a + b, 0, m, ?_, hb, am_kp.rf, Or.inr ⟨rfl, rfl⟩⟩
    unfold fn_X10_reckon
    rw [if_pos (by decide)]
  | 1, _ =>
    refine ⟨a - b, 0, m, ?_, hb, am_kp.rf, Or.inr ⟨rfl, rfl⟩⟩
    unfold fn_X10_reckon
    rw [if_neg (by decide), if_pos (by decide)]
  | 2, _ =>
    refine ⟨a * b, 0, m, ?_, hb, am_kp.rf, Or.inr ⟨rfl, rfl⟩⟩
    unfold fn_X10_reckon
    rw [if_neg (by decide), if_neg (by decide), if_pos (by decide)]
  | 3, _ =>
    by_cases h0 : b = 0
    · have e : (if (lg_cmp b (0 : Int64)) ≠ 0 then (0 : Int32) else (1 : Int32)) = 1 := if_neg (fun q => q ((lg_cmp_eq b 0).mpr h0))
      refine ⟨0, 1, am_si m 10 0 38 1, ?_, by rw [rd_si, if_pos ⟨rfl, rfl, rfl⟩], am_kp.si am_kp.rf rfl, Or.inl ⟨rfl, if_pos h0⟩⟩
      unfold fn_X10_reckon
      rw [if_neg (by decide), if_neg (by decide), if_neg (by decide), if_pos (by decide), e, gd_t (Or.inr rfl), if_neg (by decide)]
    · have e : (if (lg_cmp b (0 : Int64)) ≠ 0 then (0 : Int32) else (1 : Int32)) = 0 := if_pos (fun q => h0 ((lg_cmp_eq b 0).mp q))
      refine ⟨a / b, 0, am_si m 10 0 38 0, ?_, by rw [rd_si, if_pos ⟨rfl, rfl, rfl⟩], am_kp.si am_kp.rf rfl, Or.inr ⟨rfl, if_neg h0⟩⟩
      unfold fn_X10_reckon
      rw [if_neg (by decide), if_neg (by decide), if_neg (by decide), if_pos (by decide), e, gd_t (Or.inl rfl), if_pos rfl, gd_t h0]
  | 4, _ =>
    by_cases h0 : b = 0
    · have e : (if (lg_cmp b (0 : Int64)) ≠ 0 then (0 : Int32) else (1 : Int32)) = 1 := if_neg (fun q => q ((lg_cmp_eq b 0).mpr h0))
      refine ⟨0, 1, am_si m 10 0 38 1, ?_, by rw [rd_si, if_pos ⟨rfl, rfl, rfl⟩], am_kp.si am_kp.rf rfl, Or.inl ⟨rfl, if_pos h0⟩⟩
      unfold fn_X10_reckon
      rw [if_neg (by decide), if_neg (by decide), if_neg (by decide), if_neg (by decide), if_pos (by decide), e, gd_t (Or.inr rfl), if_neg (by decide)]
    · have e : (if (lg_cmp b (0 : Int64)) ≠ 0 then (0 : Int32) else (1 : Int32)) = 0 := if_pos (fun q => h0 ((lg_cmp_eq b 0).mp q))
      refine ⟨a - a / b * b, 0, am_si m 10 0 38 0, ?_, by rw [rd_si, if_pos ⟨rfl, rfl, rfl⟩], am_kp.si am_kp.rf rfl, Or.inr ⟨rfl, if_neg h0⟩⟩
      unfold fn_X10_reckon
      rw [if_neg (by decide), if_neg (by decide), if_neg (by decide), if_neg (by decide), if_pos (by decide), e, gd_t (Or.inl rfl), if_pos rfl, gd_t h0]
  | 5, _ =>
    refine ⟨if a < b then 1 else 0, 0, m, ?_, hb, am_kp.rf, Or.inr ⟨rfl, ?_⟩⟩
    · unfold fn_X10_reckon
      rw [if_neg (by decide), if_neg (by decide), if_neg (by decide), if_neg (by decide), if_neg (by decide), if_pos (by decide), if_iff (lg_cmp_ge _ _)]
      by_cases h : b ≤ a
      · rw [if_pos h, if_neg (fun q => (hge _ _).mp q h)]
      · rw [if_neg h, if_pos ((hge _ _).mpr h)]
    · exact (one _ (by by_cases h : a < b <;> simp [h])).symm
  | 6, _ =>
    refine ⟨if b < a then 1 else 0, 0, m, ?_, hb, am_kp.rf, Or.inr ⟨rfl, ?_⟩⟩
    · unfold fn_X10_reckon
      rw [if_neg (by decide), if_neg (by decide), if_neg (by decide), if_neg (by decide), if_neg (by decide), if_neg (by decide), if_pos (by decide), if_iff (lg_cmp_le _ _)]
      by_cases h : a ≤ b
      · rw [if_pos h, if_neg (fun q => (hge _ _).mp q h)]
      · rw [if_neg h, if_pos ((hge _ _).mpr h)]
    · exact (one _ (by by_cases h : b < a <;> simp [h])).symm
  | 7, _ =>
    refine ⟨if a = b then 1 else 0, 0, m, ?_, hb, am_kp.rf, Or.inr ⟨rfl, ?_⟩⟩
    · unfold fn_X10_reckon
      rw [if_neg (by decide), if_neg (by decide), if_neg (by decide), if_neg (by decide), if_neg (by decide), if_neg (by decide), if_neg (by decide)]
      by_cases h : a = b
      · rw [if_neg (fun q => q ((lg_cmp_eq a b).mpr h)), if_pos h]
      · rw [if_pos (fun q => h ((lg_cmp_eq a b).mp q)), if_neg h]
    · exact (one _ (by by_cases h : a = b <;> simp [h])).symm
  | o + 8, h => exact absurd h (by omega)
/-- where the code lies, and what the words are -/
def rk_cx (ord : Bool) (m : am_m) (op arg : Nat → Int32) (env : Nat → Int64) : Prop := match ord with
  | false => m.1 10 0 20 = 0 ∧ ∃ L, L ≤ 4618 ∧ m.1 10 0 34 = nI L ∧ (∀ k, k < 400 → op k = m.1 44 0 (L + 98 + 2 * k) ∧ arg k = m.1 44 0 (L + 98 + 2 * k + 1)) ∧ ∀ x, 1 ≤ x → x ≤ 8 → m.2.1 85 0 x = env (x - 1)
  | true => m.1 10 0 20 = 1 ∧ (∀ k, k < 400 → op k = m.1 52 0 k ∧ arg k = m.1 53 0 k) ∧ (∀ x, 1 ≤ x → x ≤ 5 → m.2.1 86 0 x = env (x - 1)) ∧ ∃ n, n ≤ 7 ∧ m.1 44 0 0 = nI n ∧ ∀ y, y ≤ 6 → env (5 + y) = (if y < n then (m.1 44 0 (7 + y)).toInt64 else -1) ∧ env (12 + y) = (if y < n then (m.1 62 0 y).toInt64 else -1)
theorem rk_cx.kp {ord : Bool} {m m' : am_m} {op arg : Nat → Int32} {env : Nat → Int64} (h : rk_cx ord m op arg env) (k : am_kp [(10, 38)] [(87, 0)] 0 m m') : rk_cx ord m' op arg env := by
  have e1 := k.fld 10 0 20 rfl
  have e2 := k.fld 10 0 34 rfl
  have e3 : m'.1 44 = m.1 44 := k.row 44 rfl
  have e4 : m'.1 52 = m.1 52 := k.row 52 rfl
  have e5 : m'.1 53 = m.1 53 := k.row 53 rfl
  have e6 : m'.1 62 = m.1 62 := k.row 62 rfl
  have e7 : m'.2.1 85 = m.2.1 85 := k.rowL 85 rfl
  have e8 : m'.2.1 86 = m.2.1 86 := k.rowL 86 rfl
  cases ord with
  | false =>
    unfold rk_cx
    rw [e1, e2, e3, e7]
    exact h
  | true =>
    unfold rk_cx
    rw [e1, e3, e4, e5, e6, e8]
    exact h
theorem ab_step_two {c : ab_C} {env : Nat → Int64} {k o : Nat} (ho : o < 8) (hd : (c k).1 = o + 2) : (∀ y x r, ab_step c env k (y :: x :: r) = (dn_op o x y).map (fun v => (k + 1, v :: r))) ∧ ab_step c env k [] = none ∧ ∀ x, ab_step c env k [x] = none := by
  refine ⟨fun y x r => ?_, ?_, fun x => ?_⟩
  · unfold ab_step
    rw [hd, if_neg (by omega), if_neg (by omega), if_pos (by omega)]
    rfl
  · unfold ab_step
    rw [hd, if_neg (by omega), if_neg (by omega), if_pos (by omega)]
  · unfold ab_step
    rw [hd, if_neg (by omega), if_neg (by omega), if_pos (by omega)]
theorem ab_step_jmp {c : ab_C} {env : Nat → Int64} {k x y : Nat} (hd : c k = (if x = 29 then 11 else 12, y)) : (∀ a r, ab_step c env k (a :: r) = if a = (if x = 29 then 0 else 1) then some (y, a :: r) else some (k + 1, r)) ∧ ab_step c env k [] = none := by
  by_cases h : x = 29
  · rw [if_pos h] at hd
    refine ⟨fun a r => ?_, ?_⟩
    · rw [if_pos h]
      unfold ab_step
      rw [hd]
      rfl
    · unfold ab_step
      rw [hd]
      rfl
  · rw [if_neg h] at hd
    refine ⟨fun a r => ?_, ?_⟩
    · rw [if_neg h]
      unfold ab_step
      rw [hd]
      rfl
    · unfold ab_step
      rw [hd]
      rfl
section RK
variable {ord : Bool} {m : am_m} {op arg : Nat → Int32} {env : Nat → Int64} {c : ab_C} {hi k : Nat} {st : List Int64}
theorem rk_rd (h : rk_cx ord m op arg env) (hk : k < 400) : (if (m.1 10 0 20) = 0 then am_ck (((m.1 10 0 34) + (98 : Int32)) + ((2 : Int32) * nI k)) 5518 (some (m.1 44 0 (((m.1 10 0 34) + (98 : Int32)) + ((2 : Int32) * nI k)).toNatClampNeg)) else am_ck (nI k) 400 (some (m.1 52 0 (nI k).toNatClampNeg))) = some (op k) ∧ (if (m.1 10 0 20) = 0 then am_ck ((((m.1 10 0 34) + (98 : Int32)) + ((2 : Int32) * nI k)) + (1 : Int32)) 5518 (some (m.1 44 0 ((((m.1 10 0 34) + (98 : Int32)) + ((2 : Int32) * nI k)) + (1 : Int32)).toNatClampNeg)) else am_ck (nI k) 400 (some (m.1 53 0 (nI k).toNatClampNeg))) = some (arg k) := by
  cases ord with
  | false =>
    obtain ⟨h1, L, h2, h3, h4, -⟩ := h
    have e : ((m.1 10 0 34) + (98 : Int32)) + ((2 : Int32) * nI k) = nI (L + 98 + 2 * k) := by
      rw [h3, show (98 : Int32) = nI 98 from rfl, show (2 : Int32) = nI 2 from rfl, pk_mul, nI_add, nI_add]
    rw [if_pos h1, if_pos h1, e, show nI (L + 98 + 2 * k) + (1 : Int32) = nI (L + 98 + 2 * k + 1) from nI_1 _, ck_in (by omega) (by decide), ck_in (by omega) (by decide), nI_clamp (by omega), nI_clamp (by omega), (h4 k hk).1, (h4 k hk).2]
    exact ⟨rfl, rfl⟩
  | true =>
    obtain ⟨h1, h4, -⟩ := h
    rw [if_neg (by rw [h1]; decide), if_neg (by rw [h1]; decide), ck_in hk (by decide), ck_in hk (by decide), nI_clamp (by omega), (h4 k hk).1, (h4 k hk).2]
    exact ⟨rfl, rfl⟩
theorem lt_nI {a b : Nat} (hb : b < 2 ^ 31) (h : a < b) : ¬ nI b ≤ nI a := nI_ge h hb
/-- one step -/
theorem rk_one (hcx : rk_cx ord m op arg env) (hcode : ∃ x y, op k = nI x ∧ arg k = nI y ∧ rc_ok ord x y ∧ c k = rc_dec ord x y) (hk : k < hi) (hhi : hi ≤ 400) (hst : stk (m.2.1 87 0) st) (hl : st.length ≤ 399) (hb : m.1 10 0 38 = 0) (N : Nat) :
    (∀ k1 st1, ab_step c env k st = some (k1, st1) → ∃ m', lp_X10_reckonAll_10 (N + 1) (nI hi) (nI st.length) (nI k) m = lp_X10_reckonAll_10 N (nI hi) (nI st1.length) (nI k1) m' ∧ am_kp [(10, 38)] [(87, 0)] 0 m m' ∧ stk (m'.2.1 87 0) st1 ∧ m'.1 10 0 38 = 0) ∧
    (∀ y x r, 2 ≤ (c k).1 → (c k).1 < 10 → st = y :: x :: r → dn_op ((c k).1 - 2) x y = none → ∃ m' z, lp_X10_reckonAll_10 (N + 1) (nI hi) (nI st.length) (nI k) m = lp_X10_reckonAll_10 N (nI hi) (nI z) (nI (k + 1)) m' ∧ am_kp [(10, 38)] [(87, 0)] 0 m m' ∧ m'.1 10 0 38 = 1) := by
  obtain ⟨x, y, hx, hy, hok, hc⟩ := hcode
  obtain ⟨r1, r2⟩ := rk_rd hcx (show k < 400 by omega)
  rw [hx] at r1
  rw [hy] at r2
  have hx30 := hok.1
  have hy1000 := hok.2.1
  have le_n : ∀ p : Nat, p < 100 → ((nI p ≤ nI x) ↔ p ≤ x) := fun p hp => nI_leI (by omega) (by omega)
  have eq_n : ∀ p : Nat, p < 100 → ((nI x = nI p) ↔ x = p) := fun p hp => nI_eq (by omega) (by omega)
  have hstart : lp_X10_reckonAll_10 (N + 1) (nI hi) (nI st.length) (nI k) m = ((if (20 : Int32) ≤ nI x then (if (28 : Int32) ≤ nI x then (if nI x ≠ (28 : Int32) then am_ck (nI st.length - (1 : Int32)) 400 ((if (lg_cmp (m.2.1 87 0 (nI st.length - (1 : Int32)).toNatClampNeg) (if nI x ≠ (29 : Int32) then (1 : Int64) else (0 : Int64))) ≠ 0 then some ((nI st.length - 1), (nI k + 1), m) else some (nI st.length, nI y, m))) else am_ck (nI st.length - (1 : Int32)) 400 (am_ck (nI st.length - (1 : Int32)) 400 (some (nI st.length, (nI k + 1), am_sg m 87 0 (nI st.length - (1 : Int32)).toNatClampNeg ((1 : Int64) - (m.2.1 87 0 (nI st.length - (1 : Int32)).toNatClampNeg)))))) else am_ck ((nI st.length - 1) - (1 : Int32)) 400 (am_ck (nI st.length - 1) 400 ((fn_X10_reckon (nI x) (m.2.1 87 0 ((nI st.length - 1) - (1 : Int32)).toNatClampNeg) (m.2.1 87 0 (nI st.length - 1).toNatClampNeg) m).bind fun r21 => am_ck ((nI st.length - 1) - (1 : Int32)) 400 ((if ((am_sg r21.2 87 0 ((nI st.length - 1) - (1 : Int32)).toNatClampNeg r21.1).1 10 0 38) ≠ 0 then some (1 : Int32) else am_ck ((nI st.length - 1) - (1 : Int32)) 400 ((fn_X10_in ((am_sg r21.2 87 0 ((nI st.length - 1) - (1 : Int32)).toNatClampNeg r21.1).2.1 87 0 ((nI st.length - 1) - (1 : Int32)).toNatClampNeg) (-1000000000) 1000000000 (am_sg r21.2 87 0 ((nI st.length - 1) - (1 : Int32)).toNatClampNeg r21.1)).bind fun r26 => (if r26 ≠ 0 then some (0 : Int32) else some (1 : Int32)))).bind fun q29 => am_gd (q29 = 0 ∨ q29 = 1) (some ((nI st.length - 1), (nI k + 1), am_si (am_sg r21.2 87 0 ((nI st.length - 1) - (1 : Int32)).toNatClampNeg r21.1) 10 0 38 q29)))))) else (if nI x ≠ 0 then (if (m.1 10 0 20) ≠ 0 then (if (6 : Int32) ≤ nI x then (fn_X10_isFolk (nI y) m).bind fun r35 => (if r35 ≠ 0 then (if nI x ≠ (6 : Int32) then am_ck (nI y) 7 (some ((m.1 62 0 (nI y).toNatClampNeg).toInt64)) else am_ck ((7 : Int32) + nI y) 5518 (some ((m.1 44 0 ((7 : Int32) + nI y).toNatClampNeg).toInt64))) else some (-1 : Int64)) else am_ck (nI x) 13 (some (m.2.1 86 0 (nI x).toNatClampNeg))) else am_ck (nI x) 13 (some (m.2.1 85 0 (nI x).toNatClampNeg))) else some (nI y).toInt64).bind fun q43 => am_ck (nI st.length) 400 (some ((nI st.length + 1), (nI k + 1), am_sg m 87 0 (nI st.length).toNatClampNeg q43))).bind fun q46 => lp_X10_reckonAll_10 N (nI hi) q46.1 q46.2.1 q46.2.2) := by
    show (if nI hi ≤ nI k then some (nI st.length, m) else _) = _
    rw [if_neg (lt_nI (by omega) hk), if_neg (fun q => q hb), r1, bd_s, r2, bd_s]
    rfl
  rw [hstart]
  clear hstart r1 r2
  have hpush : ∀ v : Int64, am_ck (nI st.length) 400 (some ((nI st.length + 1), (nI k + 1), am_sg m 87 0 (nI st.length).toNatClampNeg v)) = some (nI (v :: st).length, nI (k + 1), am_sg m 87 0 st.length v) := fun v => by
    rw [ck_in (by omega) (by decide), nI_1, nI_1, nI_clamp (by omega)]
    rfl
  have hkp : ∀ (i : Nat) (v : Int64), am_kp [(10, 38)] [(87, 0)] 0 m (am_sg m 87 0 i v) := fun i v => am_kp.sg am_kp.rf rfl
  have hstk : ∀ v : Int64, stk ((am_sg m 87 0 st.length v).2.1 87 0) (v :: st) := fun v => ⟨by rw [rd_sg, if_pos ⟨rfl, rfl, rfl⟩], hst.of (fun i hi => by rw [rd_sg, if_neg (fun q => by omega)])⟩
  by_cases h20 : x < 20
  · have c20 : ¬ (20 : Int32) ≤ nI x := fun q => absurd ((le_n 20 (by decide)).mp q) (by omega)
    rw [if_neg c20]
    by_cases h0 : x = 0
    · -- a number
      have hd : c k = (0, y) := by rw [hc]; unfold rc_dec; rw [if_pos h0]
      refine ⟨fun k1 st1 hs => ?_, fun _ _ _ g1 _ _ _ => absurd g1 (by rw [hd]; show ¬ 2 ≤ 0; decide)⟩
      have hs2 : ab_step c env k st = some (k + 1, lN y :: st) := by unfold ab_step; rw [hd]; rfl
      rw [hs2] at hs
      cases hs
      refine ⟨am_sg m 87 0 st.length (lN y), ?_, hkp _ _, hstk _, hb⟩
      rw [if_neg (fun q => q ((eq_n 0 (by decide)).mpr h0)), bd_s, nI_l (by omega), hpush, bd_s]
    · -- a word
      have hw := hok.2.2 h20
      have key : ∃ v, (if nI x ≠ 0 then (if (m.1 10 0 20) ≠ 0 then (if (6 : Int32) ≤ nI x then (fn_X10_isFolk (nI y) m).bind fun r35 => (if r35 ≠ 0 then (if nI x ≠ (6 : Int32) then am_ck (nI y) 7 (some ((m.1 62 0 (nI y).toNatClampNeg).toInt64)) else am_ck ((7 : Int32) + nI y) 5518 (some ((m.1 44 0 ((7 : Int32) + nI y).toNatClampNeg).toInt64))) else some (-1 : Int64)) else am_ck (nI x) 13 (some (m.2.1 86 0 (nI x).toNatClampNeg))) else am_ck (nI x) 13 (some (m.2.1 85 0 (nI x).toNatClampNeg))) else some (nI y).toInt64) = some v ∧ c k = (1, if ord then rc_ix x y else x - 1) ∧ v = env (if ord then rc_ix x y else x - 1) := by
        have hd : c k = (1, if ord then rc_ix x y else x - 1) := by rw [hc]; unfold rc_dec; rw [if_neg h0, if_pos h20]
        rw [if_pos (show nI x ≠ (0 : Int32) from fun q => h0 ((eq_n 0 (by decide)).mp q))]
        cases ord with
        | false =>
          obtain ⟨h1, L, h2, h3, h4, h5⟩ := hcx
          have hw : x ≤ 8 := hw
          refine ⟨m.2.1 85 0 x, ?_, hd, h5 x (by omega) hw⟩
          rw [if_neg (fun q => q h1), ck_in (by omega) (by decide), nI_clamp (by omega)]
        | true =>
          obtain ⟨h1, h4, h5, n, hn, h6, h7⟩ := hcx
          have hw : x ≤ 7 ∧ (6 ≤ x → y ≤ 6) := hw
          rw [if_pos (by rw [h1]; decide)]
          by_cases h66 : 6 ≤ x
          · have hy6 := hw.2 h66
            rw [if_pos (show (6 : Int32) ≤ nI x from (le_n 6 (by decide)).mpr h66), isFolk_ok hn h6, bd_s]
            have hiff : (0 ≤ nI y ∧ nI y < nI n) ↔ y < n := fk_iff hn (by omega)
            by_cases hyn : y < n
            · rw [if_pos (hiff.mpr hyn), if_pos (by decide)]
              by_cases e6 : x = 6
              · refine ⟨(m.1 44 0 (7 + y)).toInt64, ?_, hd, ?_⟩
                · rw [if_neg (fun q => q ((eq_n 6 (by decide)).mpr e6)), show (7 : Int32) = nI 7 from rfl, nI_add, ck_in (by omega) (by decide), nI_clamp (by omega)]
                · show _ = env (rc_ix x y)
                  rw [show rc_ix x y = 5 + y by unfold rc_ix; rw [if_neg (by omega), if_pos e6], (h7 y hy6).1, if_pos hyn]
              · refine ⟨(m.1 62 0 y).toInt64, ?_, hd, ?_⟩
                · rw [if_pos (show nI x ≠ (6 : Int32) from fun q => e6 ((eq_n 6 (by decide)).mp q)), ck_in (by omega) (by decide), nI_clamp (by omega)]
                · show _ = env (rc_ix x y)
                  rw [show rc_ix x y = 12 + y by unfold rc_ix; rw [if_neg (by omega), if_neg e6], (h7 y hy6).2, if_pos hyn]
            · rw [if_neg (fun q => hyn (hiff.mp q)), if_neg (by decide)]
              refine ⟨-1, rfl, hd, ?_⟩
              show _ = env (rc_ix x y)
              by_cases e6 : x = 6
              · rw [show rc_ix x y = 5 + y by unfold rc_ix; rw [if_neg (by omega), if_pos e6], (h7 y hy6).1, if_neg hyn]
              · rw [show rc_ix x y = 12 + y by unfold rc_ix; rw [if_neg (by omega), if_neg e6], (h7 y hy6).2, if_neg hyn]
          · refine ⟨m.2.1 86 0 x, ?_, hd, ?_⟩
            · rw [if_neg (show ¬ (6 : Int32) ≤ nI x from fun q => h66 ((le_n 6 (by decide)).mp q)), ck_in (by omega) (by decide), nI_clamp (by omega)]
            · show _ = env (rc_ix x y)
              rw [show rc_ix x y = x - 1 by unfold rc_ix; rw [if_pos (by omega)], h5 x (by omega) (by omega)]
      obtain ⟨v, hv, hd, hv2⟩ := key
      refine ⟨fun k1 st1 hs => ?_, fun _ _ _ g1 _ _ _ => absurd g1 (by rw [hd]; show ¬ 2 ≤ 1; decide)⟩
      have hs2 : ab_step c env k st = some (k + 1, v :: st) := by
        unfold ab_step
        rw [hd, hv2]
        rfl
      rw [hs2] at hs
      cases hs
      refine ⟨am_sg m 87 0 st.length v, ?_, hkp _ _, hstk _, hb⟩
      rw [hv, bd_s, hpush, bd_s]
  · have c20 : (20 : Int32) ≤ nI x := (le_n 20 (by decide)).mpr (by omega)
    rw [if_pos c20]
    by_cases h28 : x < 28
    · -- two are joined
      have c28 : ¬ (28 : Int32) ≤ nI x := fun q => absurd ((le_n 28 (by decide)).mp q) (by omega)
      rw [if_neg c28]
      have hd : c k = (x - 18, 0) := by rw [hc]; unfold rc_dec; rw [if_neg (by omega), if_neg h20, if_pos h28]
      obtain ⟨o, rfl⟩ : ∃ o, x = 20 + o := ⟨x - 20, by omega⟩
      have e2 : 20 + o - 18 = o + 2 := by omega
      rw [e2] at hd
      have two : ∀ b a r, st = b :: a :: r → ∃ w q m', fn_X10_reckon (nI (20 + o)) a b m = some (w, m') ∧ m'.1 10 0 38 = q ∧ am_kp [(10, 38)] [] 0 m m' ∧ ((q = 1 ∧ dn_op o a b = none) ∨ (q = 0 ∧ dn_op o a b = dn_in w)) := fun b a r _ => reckon_ok (by omega) a b hb
      have run : ∀ b a r, st = b :: a :: r → ∃ w q m', am_kp [(10, 38)] [(87, 0)] 0 m m' ∧ m'.1 10 0 38 = q ∧ (q = 0 ∨ q = 1) ∧ m'.2.1 87 0 r.length = w ∧ (∀ i, i < r.length → m'.2.1 87 0 i = m.2.1 87 0 i) ∧ ((q = 1 ∧ dn_op o a b = none) ∨ (q = 0 ∧ dn_op o a b = some w)) ∧
          (am_ck ((nI st.length - 1) - (1 : Int32)) 400 (am_ck (nI st.length - 1) 400 ((fn_X10_reckon (nI (20 + o)) (m.2.1 87 0 ((nI st.length - 1) - (1 : Int32)).toNatClampNeg) (m.2.1 87 0 (nI st.length - 1).toNatClampNeg) m).bind fun r21 => am_ck ((nI st.length - 1) - (1 : Int32)) 400 ((if ((am_sg r21.2 87 0 ((nI st.length - 1) - (1 : Int32)).toNatClampNeg r21.1).1 10 0 38) ≠ 0 then some (1 : Int32) else am_ck ((nI st.length - 1) - (1 : Int32)) 400 ((fn_X10_in ((am_sg r21.2 87 0 ((nI st.length - 1) - (1 : Int32)).toNatClampNeg r21.1).2.1 87 0 ((nI st.length - 1) - (1 : Int32)).toNatClampNeg) (-1000000000) 1000000000 (am_sg r21.2 87 0 ((nI st.length - 1) - (1 : Int32)).toNatClampNeg r21.1)).bind fun r26 => (if r26 ≠ 0 then some (0 : Int32) else some (1 : Int32)))).bind fun q29 => am_gd (q29 = 0 ∨ q29 = 1) (some ((nI st.length - 1), (nI k + 1), am_si (am_sg r21.2 87 0 ((nI st.length - 1) - (1 : Int32)).toNatClampNeg r21.1) 10 0 38 q29)))))) = some (nI (r.length + 1), nI (k + 1), m') := by
        intro b a r hs
        have hlen : st.length = r.length + 1 + 1 := by rw [hs]; rfl
        rw [hlen] at hl ⊢
        rw [hs] at hst
        obtain ⟨hb1, ha1, hr1⟩ := hst
        have hb1 : m.2.1 87 0 (r.length + 1) = b := hb1
        rw [show nI (r.length + 1 + 1) - (1 : Int32) = nI (r.length + 1) from nI_pred _, show nI (r.length + 1) - (1 : Int32) = nI r.length from nI_pred _, ck_in (by omega) (by decide), ck_in (by omega) (by decide), nI_clamp (by omega), nI_clamp (by omega), hb1, ha1]
        obtain ⟨w, q, m', g1, g2, g3, g4⟩ := two b a r hs
        rw [g1, bd_s, ck_in (by omega) (by decide)]
        have e38 : (am_sg m' 87 0 r.length w).1 10 0 38 = q := g2
        have g87 : m'.2.1 87 = m.2.1 87 := g3.rowL 87 rfl
        rw [show ((w, m').2 : am_m) = m' from rfl, show ((w, m').1 : Int64) = w from rfl, e38]
        rcases g4 with ⟨rfl, g4⟩ | ⟨rfl, g4⟩
        · refine ⟨w, 1, am_si (am_sg m' 87 0 r.length w) 10 0 38 1, am_kp.si (am_kp.sg (am_kp.mono g3 rfl) rfl) rfl, by rw [rd_si, if_pos ⟨rfl, rfl, rfl⟩], Or.inr rfl, ?_, ?_, Or.inl ⟨rfl, g4⟩, ?_⟩
          · show (am_sg m' 87 0 r.length w).2.1 87 0 r.length = w
            rw [rd_sg, if_pos ⟨rfl, rfl, rfl⟩]
          · intro i hi
            show (am_sg m' 87 0 r.length w).2.1 87 0 i = _
            rw [rd_sg, if_neg (fun q => by omega), g87]
          · rw [if_pos (by decide), bd_s, gd_t (Or.inr rfl), nI_1]
        · rw [if_neg (by decide), ck_in (by omega) (by decide), rd_sg, if_pos ⟨rfl, rfl, rfl⟩, in_64, bd_s]
          by_cases hin : (-1000000000 : Int64) ≤ w ∧ w ≤ 1000000000
          · have e := dn_in_iff w
            rw [if_pos hin] at e
            refine ⟨w, 0, am_si (am_sg m' 87 0 r.length w) 10 0 38 0, am_kp.si (am_kp.sg (am_kp.mono g3 rfl) rfl) rfl, by rw [rd_si, if_pos ⟨rfl, rfl, rfl⟩], Or.inl rfl, ?_, ?_, Or.inr ⟨rfl, by rw [g4, ← e]⟩, ?_⟩
            · show (am_sg m' 87 0 r.length w).2.1 87 0 r.length = w
              rw [rd_sg, if_pos ⟨rfl, rfl, rfl⟩]
            · intro i hi
              show (am_sg m' 87 0 r.length w).2.1 87 0 i = _
              rw [rd_sg, if_neg (fun q => by omega), g87]
            · rw [if_pos hin, if_pos (by decide), bd_s, gd_t (Or.inl rfl), nI_1]
          · have e := dn_in_iff w
            rw [if_neg hin] at e
            refine ⟨w, 1, am_si (am_sg m' 87 0 r.length w) 10 0 38 1, am_kp.si (am_kp.sg (am_kp.mono g3 rfl) rfl) rfl, by rw [rd_si, if_pos ⟨rfl, rfl, rfl⟩], Or.inr rfl, ?_, ?_, Or.inl ⟨rfl, by rw [g4, ← e]⟩, ?_⟩
            · show (am_sg m' 87 0 r.length w).2.1 87 0 r.length = w
              rw [rd_sg, if_pos ⟨rfl, rfl, rfl⟩]
            · intro i hi
              show (am_sg m' 87 0 r.length w).2.1 87 0 i = _
              rw [rd_sg, if_neg (fun q => by omega), g87]
            · rw [if_neg hin, if_neg (by decide), bd_s, gd_t (Or.inr rfl), nI_1]
      refine ⟨fun k1 st1 hs => ?_, fun b a r g1 g2 g3 g4 => ?_⟩
      · obtain ⟨s1, s2, s3⟩ := ab_step_two (c := c) (env := env) (k := k) (show o < 8 by omega) (by rw [hd])
        rcases st with _ | ⟨b, _ | ⟨a, r⟩⟩
        · rw [s2] at hs; cases hs
        · rw [s3] at hs; cases hs
        · obtain ⟨w, q, m', g1, g2, g3, g4, g5, g6, g7⟩ := run b a r rfl
          rw [s1] at hs
          rcases g6 with ⟨rfl, g6⟩ | ⟨rfl, g6⟩
          · rw [g6] at hs; cases hs
          · rw [g6] at hs
            cases hs
            refine ⟨m', ?_, g1, ⟨g4, hst.2.2.of g5⟩, g2⟩
            rw [g7, bd_s]
            rfl
      · obtain ⟨w, q, m', h1, h2, h3, h4, h5, h6, h7⟩ := run b a r g3
        rw [hd] at g4
        rcases h6 with ⟨rfl, h6⟩ | ⟨rfl, h6⟩
        · exact ⟨m', r.length + 1, by rw [h7, bd_s], h1, h2⟩
        · have g4 : dn_op o a b = none := g4
          rw [g4] at h6; cases h6
    · have c28 : (28 : Int32) ≤ nI x := (le_n 28 (by decide)).mpr (by omega)
      rw [if_pos c28]
      have e29 : ∀ r : List Int64, nI (r.length + 1) - (1 : Int32) = nI r.length := fun r => nI_pred _
      by_cases e28 : x = 28
      · have hd : c k = (10, 0) := by rw [hc]; unfold rc_dec; rw [if_neg (by omega), if_neg h20, if_neg (by omega), if_pos e28]
        rw [if_neg (fun q => q ((eq_n 28 (by decide)).mpr e28))]
        refine ⟨fun k1 st1 hs => ?_, fun _ _ _ _ g2 _ _ => absurd g2 (by rw [hd]; decide)⟩
        rcases st with _ | ⟨a, r⟩
        · have hs2 : ab_step c env k [] = none := by unfold ab_step; rw [hd]; rfl
          rw [hs2] at hs; cases hs
        · have hs2 : ab_step c env k (a :: r) = some (k + 1, (1 - a) :: r) := by unfold ab_step; rw [hd]; rfl
          rw [hs2] at hs
          cases hs
          have hl : r.length + 1 ≤ 399 := hl
          refine ⟨am_sg m 87 0 r.length (1 - a), ?_, hkp _ _, ⟨by rw [rd_sg, if_pos ⟨rfl, rfl, rfl⟩], hst.2.of (fun i hi => by rw [rd_sg, if_neg (fun q => by omega)])⟩, hb⟩
          rw [show (a :: r : List Int64).length = r.length + 1 from rfl, e29, ck_in (by omega) (by decide), ck_in (by omega) (by decide), bd_s, nI_clamp (by omega), hst.1, nI_1]
          rfl
      · rw [if_pos (show nI x ≠ (28 : Int32) from fun q => e28 ((eq_n 28 (by decide)).mp q))]
        have hd : c k = (if x = 29 then 11 else 12, y) := by
          rw [hc]
          unfold rc_dec
          rw [if_neg (by omega), if_neg h20, if_neg h28, if_neg e28]
          by_cases h : x = 29
          · rw [if_pos h, if_pos h]
          · rw [if_neg h, if_neg h]
        have es : (if nI x ≠ (29 : Int32) then (1 : Int64) else (0 : Int64)) = if x = 29 then 0 else 1 := by
          by_cases h : x = 29
          · rw [if_pos h, if_neg (fun q => q ((eq_n 29 (by decide)).mpr h))]
          · rw [if_neg h, if_pos (show nI x ≠ (29 : Int32) from fun q => h ((eq_n 29 (by decide)).mp q))]
        rw [es]
        refine ⟨fun k1 st1 hs => ?_, fun _ _ _ _ g2 _ _ => absurd g2 (by rw [hd]; by_cases h : x = 29 <;> simp [h])⟩
        obtain ⟨s1, s2⟩ := ab_step_jmp (c := c) (env := env) (k := k) (x := x) hd
        rcases st with _ | ⟨a, r⟩
        · rw [s2] at hs; cases hs
        · rw [s1] at hs
          have hl : r.length + 1 ≤ 399 := hl
          rw [show (a :: r : List Int64).length = r.length + 1 from rfl, e29, ck_in (by omega) (by decide), nI_clamp (by omega), hst.1]
          by_cases ha : a = (if x = 29 then 0 else 1)
          · rw [if_pos ha] at hs
            cases hs
            rw [if_neg (fun q => q ((lg_cmp_eq _ _).mpr ha)), bd_s]
            exact ⟨m, rfl, am_kp.rf, hst, hb⟩
          · rw [if_neg ha] at hs
            cases hs
            rw [if_pos (fun q => ha ((lg_cmp_eq _ _).mp q)), bd_s, nI_1]
            exact ⟨m, rfl, am_kp.rf, hst.2, hb⟩
/-- to the end of a row of steps -/
theorem rk_to {lo H : Nat} (hcode : rl_code ord op arg c lo hi) (hhi : hi ≤ 400) (hH : H ≤ 399) : ∀ (j : Nat) {k : Nat} {st : List Int64} {k' : Nat} {st' : List Int64} {m : am_m} (N : Nat), ab_to c env lo hi H j k st k' st' → rk_cx ord m op arg env → stk (m.2.1 87 0) st → m.1 10 0 38 = 0 → ∃ m', lp_X10_reckonAll_10 (N + j) (nI hi) (nI st.length) (nI k) m = lp_X10_reckonAll_10 N (nI hi) (nI st'.length) (nI k') m' ∧ am_kp [(10, 38)] [(87, 0)] 0 m m' ∧ stk (m'.2.1 87 0) st' ∧ m'.1 10 0 38 = 0
  | 0, k, st, k', st', m, N, h, hcx, hst, hb => by
    obtain ⟨rfl, rfl⟩ := h
    exact ⟨m, rfl, am_kp.rf, hst, hb⟩
  | j + 1, k, st, k', st', m, N, h, hcx, hst, hb => by
    obtain ⟨g1, g2, g3, k1, st1, g4, g5, g6, g7⟩ := h
    obtain ⟨m1, e1, e2, e3, e4⟩ := (rk_one hcx (hcode k g1 g2) g2 hhi hst (by omega) hb (N + j)).1 k1 st1 g4
    obtain ⟨m2, f1, f2, f3, f4⟩ := rk_to hcode hhi hH j N g7 (hcx.kp e2) e3 e4
    exact ⟨m2, by rw [show N + (j + 1) = N + j + 1 by omega, e1, f1], e2.tr f2, f3, f4⟩
theorem rk_br {lo H : Nat} (hcode : rl_code ord op arg c lo hi) (hhi : hi ≤ 400) (hH : H ≤ 399) : ∀ (j : Nat) {k : Nat} {st : List Int64} {m : am_m} (N : Nat), ab_br c env lo hi H j k st → rk_cx ord m op arg env → stk (m.2.1 87 0) st → m.1 10 0 38 = 0 → ∃ m' z w, lp_X10_reckonAll_10 (N + (j + 2)) (nI hi) (nI st.length) (nI k) m = some (nI z, m') ∧ am_kp [(10, 38)] [(87, 0)] 0 m m' ∧ m'.1 10 0 38 = 1 ∧ w = z
  | 0, k, st, m, N, h, hcx, hst, hb => by
    obtain ⟨g1, g2, g3, g4, g5, y, x, r, g6, g7⟩ := h
    obtain ⟨m1, z, e1, e2, e3⟩ := (rk_one hcx (hcode k g1 g2) g2 hhi hst (by omega) hb (N + 1)).2 y x r g4 g5 g6 g7
    refine ⟨m1, z, z, ?_, e2, e3, rfl⟩
    rw [show N + (0 + 2) = N + 1 + 1 by omega, e1]
    show (if nI hi ≤ nI (k + 1) then some (nI z, m1) else (if (m1.1 10 0 38) ≠ 0 then some (nI z, m1) else _)) = _
    by_cases hq : nI hi ≤ nI (k + 1)
    · rw [if_pos hq]
    · rw [if_neg hq, if_pos (by rw [e3]; decide)]
  | j + 1, k, st, m, N, h, hcx, hst, hb => by
    obtain ⟨g1, g2, g3, k1, st1, g4, g5, g6, g7⟩ := h
    obtain ⟨m1, e1, e2, e3, e4⟩ := (rk_one hcx (hcode k g1 g2) g2 hhi hst (by omega) hb (N + (j + 2))).1 k1 st1 g4
    obtain ⟨m2, z, w, f1, f2, f3, f4⟩ := rk_br hcode hhi hH j N g7 (hcx.kp e2) e3 e4
    exact ⟨m2, z, w, by rw [show N + (j + 1 + 2) = N + (j + 2) + 1 by omega, e1, f1], e2.tr f2, f3, f4⟩
theorem ab_to_len {lo hi H : Nat} : ∀ (j : Nat) {k : Nat} {st : List Int64} {k' : Nat} {st' : List Int64}, ab_to c env lo hi H j k st k' st' → k ≤ hi → k + j ≤ k' ∨ j = 0
  | 0, _, _, _, _, _, _ => Or.inr rfl
  | j + 1, k, st, k', st', h, hk => by
    obtain ⟨g1, g2, g3, k1, st1, g4, g5, g6, g7⟩ := h
    cases j with
    | zero =>
      obtain ⟨rfl, rfl⟩ := g7
      exact Or.inl (by omega)
    | succ j =>
      have hk1 : k1 < hi := g7.2.1
      rcases ab_to_len (j + 1) g7 (Nat.le_of_lt hk1) with q | q
      · exact Or.inl (by omega)
      · omega
theorem ab_br_len {lo hi H : Nat} : ∀ (j : Nat) {k : Nat} {st : List Int64}, ab_br c env lo hi H j k st → k + j < hi
  | 0, k, st, h => h.2.1
  | j + 1, k, st, h => by
    obtain ⟨g1, g2, g3, k1, st1, g4, g5, g6, g7⟩ := h
    have := ab_br_len j g7
    omega
/-- what reckonAll leaves: broken, or the number in value -/
theorem reckonAll_ok {f : dn} {a b h : Nat} (hcx : rk_cx ord m op arg env) (hb : b ≤ 400) (hh : h ≤ 50) (hcode : rl_code ord op arg c a b) (hseg : ab_seg c a b f h) : ∃ m', fn_X10_reckonAll (nI a) (nI b) m = some m' ∧ am_kp [(10, 38)] [(10, 39), (87, 0)] 0 m m' ∧ (match f env with
    | some v => m'.1 10 0 38 = 0 ∧ m'.2.1 10 0 39 = v
    | none => m'.1 10 0 38 = 1) := by
  have k0 : am_kp [(10, 38)] [(87, 0)] 0 m (am_si m 10 0 38 0) := am_kp.si am_kp.rf rfl
  have hcx0 := hcx.kp k0
  have h38 : (am_si m 10 0 38 0).1 10 0 38 = 0 := by rw [rd_si, if_pos ⟨rfl, rfl, rfl⟩]
  have hs := hseg.2.2 env []
  unfold fn_X10_reckonAll
  cases hf : f env with
  | some v =>
    rw [hf] at hs
    obtain ⟨j, hj⟩ := hs
    have hj1 : j ≤ 400 := by
      rcases ab_to_len j hj (Nat.le_of_lt hseg.1) with q | q
      · omega
      · omega
    obtain ⟨m1, e1, e2, e3, e4⟩ := rk_to hcode hb (show ([] : List Int64).length + h ≤ 399 by show 0 + h ≤ 399; omega) j (1000000 - j) hj hcx0 trivial h38
    rw [show 1000000 - j + j = 1000000 by omega] at e1
    have e5 : lp_X10_reckonAll_10 (1000000 - j) (nI b) (nI [v].length) (nI b) m1 = some (nI 1, m1) := by
      rw [show 1000000 - j = (999999 - j) + 1 by omega]
      show (if nI b ≤ nI b then some (nI 1, m1) else _) = _
      rw [if_pos (nI_le (Nat.le_refl b) (by omega))]
    rw [show (0 : Int32) = nI ([] : List Int64).length from rfl] at *
    refine ⟨am_sg m1 10 0 39 v, ?_, ?_, ?_, ?_⟩
    · rw [show lp_X10_reckonAll_10 1000000 (nI b) (nI ([] : List Int64).length) (nI a) (am_si m 10 0 38 (nI ([] : List Int64).length)) = some (nI 1, m1) from e1.trans e5, bd_s]
      show some (am_sg m1 10 0 39 (if nI 1 ≤ nI 0 then (0 : Int64) else (m1.2.1 87 0 0))) = _
      rw [if_neg (by decide), show m1.2.1 87 0 0 = v from e3.1]
    · exact am_kp.sg (am_kp.mono (k0.tr e2) rfl) rfl
    · exact e4
    · rw [rd_sg, if_pos ⟨rfl, rfl, rfl⟩]
  | none =>
    rw [hf] at hs
    obtain ⟨j, hj⟩ := hs
    have hj1 := ab_br_len j hj
    obtain ⟨m1, z, w, e1, e2, e3, e4⟩ := rk_br hcode hb (show ([] : List Int64).length + h ≤ 399 by show 0 + h ≤ 399; omega) j (1000000 - (j + 2)) hj hcx0 trivial h38
    rw [show 1000000 - (j + 2) + (j + 2) = 1000000 by omega] at e1
    have e1 : lp_X10_reckonAll_10 1000000 (nI b) 0 (nI a) (am_si m 10 0 38 0) = some (nI z, m1) := e1
    rw [e1, bd_s]
    exact ⟨_, rfl, am_kp.sg (am_kp.mono (k0.tr e2) rfl) rfl, e3⟩
end RK
