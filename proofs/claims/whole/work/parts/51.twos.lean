/-! twos in a row: BRIDGES, DOUBTED -/
def rwl (f : Nat → Nat → Bool) (a : Nat) : Nat → List Nat
  | 0 => []
  | b + 1 => rwl f a b ++ (if a < b ∧ f a b = true then [10 * a + b] else [])
def all_l (f : Nat → Nat → Bool) (n : Nat) : Nat → List Nat
  | 0 => []
  | a + 1 => all_l f n a ++ rwl f a n
theorem rwl_0 (f : Nat → Nat → Bool) (a : Nat) : ∀ b, b ≤ a + 1 → rwl f a b = []
  | 0, _ => rfl
  | b + 1, h => by rw [rwl, rwl_0 f a b (by omega), if_neg (by omega)]; rfl
theorem rwl_len (f : Nat → Nat → Bool) (a : Nat) : ∀ b, (rwl f a b).length ≤ b - (a + 1)
  | 0 => Nat.zero_le _
  | b + 1 => by
    have ih := rwl_len f a b
    rw [rwl, List.length_append]
    by_cases h : a < b ∧ f a b = true
    · rw [if_pos h]; show _ + 1 ≤ _; omega
    · rw [if_neg h]; show _ + 0 ≤ _; omega
theorem all_len (f : Nat → Nat → Bool) {n : Nat} (hn : n ≤ 7) : ∀ a, a ≤ 6 → 2 * (all_l f n a).length ≤ a * (13 - a)
  | 0, _ => Nat.le_refl _
  | a + 1, h => by
    have ih := all_len f hn a (by omega)
    have h1 := rwl_len f a n
    rw [all_l, List.length_append]
    have h2 : a * (13 - a) + 2 * (6 - a) = (a + 1) * (13 - (a + 1)) := by
      have : a = 0 ∨ a = 1 ∨ a = 2 ∨ a = 3 ∨ a = 4 ∨ a = 5 := by omega
      rcases this with rfl | rfl | rfl | rfl | rfl | rfl <;> rfl
    omega
/-- there is room for one more -/
theorem tw_room (f : Nat → Nat → Bool) {n a b : Nat} (hn : n ≤ 7) (hab : a < b) (hb : b < n) : (all_l f n a ++ rwl f a b).length < 21 := by
  have h1 := all_len f hn a (by omega)
  have h2 := rwl_len f a b
  rw [List.length_append]
  have : a = 0 ∨ a = 1 ∨ a = 2 ∨ a = 3 ∨ a = 4 ∨ a = 5 := by omega
  rcases this with rfl | rfl | rfl | rfl | rfl | rfl <;> omega
def twS (l : List Nat) (m : am_m) : Prop := m.1 6 0 7 = nI l.length ∧ ∀ j, j < l.length → m.1 33 0 j = nI (l.getD j 0)
def itsS (i : Int32) (l : List Nat) : Int32 := if 0 ≤ i ∧ nv i < l.length then nI (l.getD (nv i) 0) else -1
theorem getD_app (l : List Nat) (v j : Nat) : (l ++ [v]).getD j 0 = if j = l.length then v else l.getD j 0 := by
  by_cases h : j = l.length
  · subst h
    rw [if_pos rfl]
    simp [List.getD]
  · rw [if_neg h]
    simp only [List.getD]
    by_cases h2 : j < l.length
    · rw [List.getElem?_append_left h2]
    · rw [List.getElem?_eq_none (by simp; omega), List.getElem?_eq_none (by omega)]
theorem its_step (i : Int32) (l : List Nat) (v : Nat) (hl : l.length < 2 ^ 31) : (if nI l.length ≠ i then itsS i l else nI v) = itsS i (l ++ [v]) := by
  unfold itsS
  rw [List.length_append, getD_app]
  by_cases e : nI l.length = i
  · subst e
    rw [if_neg (fun z => z rfl), nv_nI hl, if_pos ⟨nI_pos' hl, Nat.lt_succ_self _⟩, if_pos rfl]
  · rw [if_pos e]
    by_cases h0 : 0 ≤ i
    · have hi := nI_nv (an_nn h0)
      have hne : nv i ≠ l.length := fun z => e (by rw [hi, z])
      by_cases h1 : nv i < l.length
      · rw [if_pos ⟨h0, h1⟩, if_pos ⟨h0, Nat.lt_succ_of_lt h1⟩, if_neg hne]
      · rw [if_neg (fun z => h1 z.2), if_neg (fun z => h1 (by have z2 := z.2; have : nv i < l.length + 1 := z2; omega))]
    · rw [if_neg (fun z => h0 z.1), if_neg (fun z => h0 z.1)]
theorem i10 (p q : Nat) : (10 : Int32) * nI p + nI q = nI (10 * p + q) := by rw [show (10 : Int32) = nI 10 from rfl, pk_mul, nI_add]
section TW
variable {m : am_m} {n : Nat} {R : Nat → Nat}
theorem addTwo_ok {l : List Nat} (p q : Nat) (h : twS l m) (hl : l.length < 21) : ∃ m', fn_X6_addTwo (nI p) (nI q) m = some m' ∧ twS (l ++ [10 * p + q]) m' := by
  unfold fn_X6_addTwo
  rw [h.1, if_neg (show ¬ (21 : Int32) ≤ nI l.length from nI_ge (b := 21) hl (by decide)), ck_in hl (by decide), nI_clamp (by omega), i10, nI_1]
  refine ⟨_, rfl, ?_, fun j hj => ?_⟩
  · show nI (l.length + 1) = _
    rw [List.length_append]
    rfl
  · show (am_si m 33 0 l.length (nI (10 * p + q))).1 33 0 j = _
    rw [rd_j, getD_app]
    by_cases e : j = l.length
    · rw [if_pos e, if_pos e]
    · rw [if_neg e, if_neg e]
      rw [List.length_append] at hj
      have hj : j < l.length + 1 := hj
      exact h.2 j (by omega)
theorem twoOf_ok {l : List Nat} (i : Int32) (h : twS l m) (hl : l.length ≤ 21) : fn_X6_twoOf i m = some (if i = -1 then nI l.length else itsS i l) := by
  unfold fn_X6_twoOf itsS
  by_cases e : i = -1
  · rw [if_neg (fun z => z e), if_pos e, h.1]
  · rw [if_pos e, if_neg e, h.1]
    by_cases h0 : i < 0
    · rw [if_pos h0, if_neg (fun z => (fa_of_lt h0).2.1 z.1)]
    · obtain ⟨j, hj, rfl⟩ := nI_of h0
      rw [if_neg h0, nv_nI hj]
      by_cases h1 : j < l.length
      · rw [if_neg (nI_ge h1 (by omega)), if_pos ⟨nI_pos' hj, h1⟩, ck_in (by omega) (by decide), nI_clamp hj, h.2 j h1]
      · rw [if_pos (nI_le (by omega) hj), if_neg (fun z => h1 z.2)]
theorem clsR.of {m' : am_m} (h : clsR n R m) (h6 : m'.1 6 0 0 = m.1 6 0 0) (h30 : m'.1 30 = m.1 30) : clsR n R m' := ⟨h6.trans h.1, fun p hp => by rw [h30]; exact h.2 p hp⟩
theorem all_21 (f : Nat → Nat → Bool) (hn : n ≤ 7) : (all_l f n n).length ≤ 21 := by
  cases n with
  | zero => exact Nat.zero_le _
  | succ k =>
    have h1 := all_len f hn k (by omega)
    have h2 := rwl_len f k (k + 1)
    rw [all_l, List.length_append]
    have : k = 0 ∨ k = 1 ∨ k = 2 ∨ k = 3 ∨ k = 4 ∨ k = 5 ∨ k = 6 := by omega
    rcases this with rfl | rfl | rfl | rfl | rfl | rfl | rfl <;> omega
end TW
/-! BRIDGES -/
def brF (R : Nat → Nat) (n p q : Nat) : Bool := (R p).testBit q && decide (cc R n < cc (remR R p q) n)
section BR
variable {m : am_m} {n : Nat} {R : Nat → Nat}
theorem remR_lt (hR : ∀ p, p < n → R p < 2 ^ n) {p q : Nat} (hp : p < n) (hq : q < n) : ∀ k, k < n → remR R p q k < 2 ^ n := fun k hk => by
  unfold remR
  by_cases e : k = p
  · rw [if_pos e]; exact Nat.lt_of_le_of_lt (sd_le _ _) (hR p hp)
  · rw [if_neg e]
    by_cases e2 : k = q
    · rw [if_pos e2]; exact Nat.lt_of_le_of_lt (sd_le _ _) (hR q hq)
    · rw [if_neg e2]; exact hR k hk
theorem near_pq (h : clsR n R m) (hn : n ≤ 7) {p q : Nat} (hp : p < n) (hq : q < n) (hne : p ≠ q) : ∀ i, i < n → nearA m (nI p) (nI q) i = some (nI (remR R p q i)) := fun i hi => by
  unfold nearA remR
  by_cases e : i = p
  · subst e
    rw [if_neg (fun z => z rfl), if_neg (nI_pos (by omega)), bd_s, if_pos (nI_ne (by omega) (by omega) hne), if_pos rfl, sh1 q (by omega), h.2 i hi, sd_I]
  · rw [if_pos (nI_ne (by omega) (by omega) e), bd_s, if_neg e]
    by_cases e2 : i = q
    · subst e2
      rw [if_neg (fun z => z rfl), if_neg (nI_pos (by omega)), if_pos rfl, sh1 p (by omega), h.2 i hi, sd_I]
    · rw [if_pos (nI_ne (by omega) (by omega) e2), if_neg e2, h.2 i hi]
theorem cc_lt (R : Nat → Nat) (hn : n ≤ 7) : cc R n < 2 ^ 31 := by have := ccn_le (R := R) (n := n) n; unfold cc; omega
theorem cbr_in {p : Nat} (h : clsR n R m) (hn : n ≤ 7) (hR : ∀ p, p < n → R p < 2 ^ n) (hp : p < n) (ht : twS (all_l (brF R n) n p) m) : ∃ m', lp_X6_findBridges_26 1000000 (nI (cc R n)) (nI p) (nI (p + 1)) m = some m' ∧ (clsR n R m' ∧ twS (all_l (brF R n) n (p + 1)) m') := by
  refine lp_up (fun N x a => lp_X6_findBridges_26 N (nI (cc R n)) (nI p) x a) (fun i m1 => clsR n R m1 ∧ p < i ∧ twS (all_l (brF R n) n p ++ rwl (brF R n) p i) m1) _ n (fun N m1 hh => ⟨m1, ?_, hh.1, hh.2.2⟩) (fun N i m1 hi hh => Or.inl ?_) (n - (p + 1)) (p + 1) 1000000 m (by omega) (by omega) ⟨h, by omega, by rw [rwl_0 _ _ _ (Nat.le_refl _), List.append_nil]; exact ht⟩
  · show lp_X6_findBridges_26 (N + 1) _ (nI p) (nI n) m1 = _
    rw [lp_X6_findBridges_26.eq_2, hh.1.1, if_pos (nI_le (Nat.le_refl _) (by omega))]
  · show ∃ a', lp_X6_findBridges_26 (N + 1) (nI (cc R n)) (nI p) (nI i) m1 = lp_X6_findBridges_26 N (nI (cc R n)) (nI p) (nI (i + 1)) a' ∧ _
    obtain ⟨h1, h2, h3⟩ := hh
    have hl : R p < 128 := Nat.lt_of_lt_of_le (hR p hp) (pw_le hn)
    rw [lp_X6_findBridges_26.eq_2, h1.1, if_neg (nI_ge hi (by omega)), ck_in (by omega) (by decide), nI_clamp (by omega), h1.2 p hp, nI_1]
    have hno : brF R n p i = false → twS (all_l (brF R n) n p ++ rwl (brF R n) p (i + 1)) m1 := fun z => by
      rw [rwl, if_neg (fun w => by rw [z] at w; cases w.2), List.append_nil]
      exact h3
    cases e : (R p).testBit i with
    | false =>
      rw [if_pos ((isN hl (by omega)).mpr e), bd_s]
      exact ⟨m1, rfl, h1, by omega, hno (by unfold brF; rw [e]; rfl)⟩
    | true =>
      rw [if_neg (fun z => by rw [(isN hl (by omega)).mp z] at e; cases e), ccircles_ok h1.1 (near_pq h1 hn hp hi (by omega)) hn (remR_lt hR hp hi), bd_s]
      by_cases g : cc R n < cc (remR R p i) n
      · obtain ⟨m2, e2, t2⟩ := addTwo_ok p i h3 (tw_room _ hn h2 hi)
        have k2 := kp_X6_addTwo _ _ _ _ e2
        rw [if_neg (nI_ge g (cc_lt _ hn)), e2, bd_s, bd_s]
        refine ⟨m2, rfl, h1.of (k2.fld 6 0 0 rfl) (k2.row 30 rfl), by omega, ?_⟩
        rw [rwl, if_pos ⟨h2, by unfold brF; rw [e, decide_eq_true g]; rfl⟩, ← List.append_assoc]
        exact t2
      · rw [if_pos (nI_le (by omega) (cc_lt _ hn)), bd_s]
        exact ⟨m1, rfl, h1, by omega, hno (by unfold brF; rw [decide_eq_false g, Bool.and_false])⟩
theorem cbridges_ok (h : clsR n R m) (hn : n ≤ 7) (hR : ∀ p, p < n → R p < 2 ^ n) : ∃ m', fn_X6_findBridges m = some m' ∧ twS (all_l (brF R n) n n) m' := by
  have h' : clsR n R (am_si m 6 0 7 0) := h
  unfold fn_X6_findBridges
  rw [ccircles_ok h'.1 (near_no h') hn hR, bd_s]
  refine (lp_up0 (fun N x a => lp_X6_findBridges_14 N (nI (cc R n)) x a) (fun i m1 => clsR n R m1 ∧ twS (all_l (brF R n) n i) m1) (fun m' => twS (all_l (brF R n) n n) m') n (by omega) (fun N m1 hh => ⟨m1, ?_, hh.2⟩) (fun N i m1 hi hh => Or.inl ?_) (am_si m 6 0 7 0) ⟨h', rfl, fun j hj => absurd hj (Nat.not_lt_zero _)⟩).elim (fun m' he => ?_)
  · show lp_X6_findBridges_14 (N + 1) _ (nI n) m1 = _
    rw [lp_X6_findBridges_14.eq_2, hh.1.1, if_pos (nI_le (Nat.le_refl _) (by omega))]
  · obtain ⟨m2, e2, q2⟩ := cbr_in hh.1 hn hR hi hh.2
    refine ⟨m2, ?_, q2⟩
    show lp_X6_findBridges_14 (N + 1) (nI (cc R n)) (nI i) m1 = lp_X6_findBridges_14 N (nI (cc R n)) (nI (i + 1)) m2
    rw [lp_X6_findBridges_14.eq_2, hh.1.1, if_neg (nI_ge hi (by omega)), nI_1, e2, bd_s]
  · obtain ⟨e, q⟩ := he
    rw [show lp_X6_findBridges_14 1000000 (nI (cc R n)) 0 (am_si m 6 0 7 0) = _ from e, bd_s]
    exact ⟨m', rfl, q⟩
end BR
section RBR
variable {m : am_m} {n : Nat} {M A : Nat → Nat → Bool}
theorem laid.of {m' : am_m} (h : laid n M A m) (h92 : m'.1 92 = m.1 92) (h93 : m'.1 93 = m.1 93) : laid n M A m' := fun a b ha hb => by
  unfold ent
  rw [h92, h93]
  exact h a b ha hb
theorem isBridge_ok {a b : Nat} (hl : laid n M A m) (hn : n ≤ 7) (h0 : m.1 44 0 0 = nI n) (hab : a < b) (hb : b < n) (hM : M a b = true) (hc : ∀ a b, M a b = M b a) : ∃ m', fn_X10_isBridge (nI a) (nI b) m = some (bv (decide (cc (rowOf n M) n < cc (remR (rowOf n M) a b) n)), m') ∧ laid n M A m' := by
  have hM2 : M b a = true := by rw [hc]; exact hM
  have hR : ∀ p, p < n → rowOf n M p < 2 ^ n := fun p _ => sx_lt _ _
  -- the rows without the two
  have l0 : laid n (fun x y => M x y && !((x == a && y == b) || (x == b && y == a))) A (am_si (am_si m 92 0 (7 * a + b) 0) 92 0 (7 * b + a) 0) := fun x y hx hy => by
    refine ⟨?_, (hl x y hx hy).2⟩
    rw [rd_j, rd_j]
    show _ = bv (M x y && !((x == a && y == b) || (x == b && y == a)))
    by_cases e1 : x = b ∧ y = a
    · obtain ⟨rfl, rfl⟩ := e1
      rw [if_pos rfl]
      simp
      rfl
    · rw [if_neg (by omega)]
      by_cases e2 : x = a ∧ y = b
      · obtain ⟨rfl, rfl⟩ := e2
        rw [if_pos rfl]
        simp
        rfl
      · rw [if_neg (by omega)]
        have e3 : ((x == a && y == b) || (x == b && y == a)) = false := by
          rw [Bool.or_eq_false_iff, Bool.and_eq_false_iff, Bool.and_eq_false_iff, beq_eq_false_iff_ne, beq_eq_false_iff_ne, beq_eq_false_iff_ne, beq_eq_false_iff_ne]
          omega
        rw [e3, Bool.not_false, Bool.and_true]
        exact (hl x y hx hy).1
  have r0 := l0.ref hn h0
  have er : ∀ p, p < n → rowOf n (fun x y => M x y && !((x == a && y == b) || (x == b && y == a))) p = remR (rowOf n M) a b p := fun p hp => by
    unfold rowOf remR
    refine Nat.eq_of_testBit_eq (fun k => ?_)
    have h128 : ∀ q, sx (M q) n < 4294967296 := fun q => by have := sx_small (M q) hn; omega
    rw [sx_bit]
    by_cases e1 : p = a
    · subst e1
      rw [if_pos rfl, sd_bit (h128 _), sx_bit, Nat.testBit_two_pow]
      have e2 : (p == b) = false := beq_eq_false_iff_ne.mpr (by omega)
      simp only [beq_self_eq_true, Bool.true_and, e2, Bool.false_and, Bool.or_false]
      by_cases e3 : k = b
      · subst e3; simp
      · rw [decide_eq_false (Ne.symm e3), show (k == b) = false from beq_eq_false_iff_ne.mpr e3]; simp
    · rw [if_neg e1]
      by_cases e2 : p = b
      · subst e2
        rw [if_pos rfl, sd_bit (h128 _), sx_bit, Nat.testBit_two_pow]
        have e3 : (p == a) = false := beq_eq_false_iff_ne.mpr e1
        simp only [beq_self_eq_true, Bool.true_and, e3, Bool.false_and, Bool.false_or]
        by_cases e4 : k = a
        · subst e4; simp
        · rw [decide_eq_false (Ne.symm e4), show (k == a) = false from beq_eq_false_iff_ne.mpr e4]; simp
      · rw [if_neg e2, sx_bit]
        have e3 : (p == a) = false := beq_eq_false_iff_ne.mpr e1
        have e4 : (p == b) = false := beq_eq_false_iff_ne.mpr e2
        simp [e3, e4]
  unfold fn_X10_isBridge
  rw [rcircles_ok (hl.ref hn h0) hn hR, bd_s, i7, i7, ck_in (by omega) (by decide), ck_in (by omega) (by decide), nI_clamp (by omega), nI_clamp (by omega), rcircles_ok r0 hn (fun p _ => sx_lt _ _), bd_s, cc_cong er, ck_in (by omega) (by decide), ck_in (by omega) (by decide)]
  have e1 : (if nI (cc (remR (rowOf n M) a b) n) ≤ nI (cc (rowOf n M) n) then (0 : Int32) else 1) = bv (decide (cc (rowOf n M) n < cc (remR (rowOf n M) a b) n)) := by
    by_cases g : cc (rowOf n M) n < cc (remR (rowOf n M) a b) n
    · rw [if_neg (nI_ge g (cc_lt _ hn)), decide_eq_true g]; rfl
    · rw [if_pos (nI_le (by omega) (cc_lt _ hn)), decide_eq_false g]; rfl
  rw [e1, gd_t (bv_01 _)]
  refine ⟨_, rfl, fun x y hx hy => ⟨?_, (hl x y hx hy).2⟩⟩
  rw [rd_j, rd_j, rd_j, rd_j]
  by_cases e1 : 7 * x + y = 7 * b + a
  · have ex : x = b ∧ y = a := by omega
    rw [if_pos e1, ex.1, ex.2, hM2]
    rfl
  · rw [if_neg e1]
    by_cases e2 : 7 * x + y = 7 * a + b
    · have ex : x = a ∧ y = b := by omega
      rw [if_pos e2, ex.1, ex.2, hM]
      rfl
    · rw [if_neg e2, if_neg e1, if_neg e2]
      exact (hl x y hx hy).1
theorem rbr_in {a : Nat} {i : Int32} (hl : laid n M A m) (hn : n ≤ 7) (h0 : m.1 44 0 0 = nI n) (ha : a < n) (hc : ∀ a b, M a b = M b a) {x2 x3 : Int32} (h2 : x2 = nI (all_l (brF (rowOf n M) n) n a).length) (h3 : x3 = itsS i (all_l (brF (rowOf n M) n) n a)) : ∃ t, lp_X10_bridges_33 1000000 i x2 x3 (nI a) (nI (a + 1)) m = some t ∧ (laid n M A t.2.2 ∧ t.2.2.1 44 0 0 = nI n ∧ t.1 = nI (all_l (brF (rowOf n M) n) n (a + 1)).length ∧ t.2.1 = itsS i (all_l (brF (rowOf n M) n) n (a + 1))) := by
  refine lp_up (fun N x (t : Int32 × Int32 × am_m) => lp_X10_bridges_33 N i t.1 t.2.1 (nI a) x t.2.2) (fun b t => laid n M A t.2.2 ∧ t.2.2.1 44 0 0 = nI n ∧ a < b ∧ t.1 = nI (all_l (brF (rowOf n M) n) n a ++ rwl (brF (rowOf n M) n) a b).length ∧ t.2.1 = itsS i (all_l (brF (rowOf n M) n) n a ++ rwl (brF (rowOf n M) n) a b)) _ n (fun N t hh => ⟨t, ?_, hh.1, hh.2.1, hh.2.2.2.1, hh.2.2.2.2⟩) (fun N b t hb hh => Or.inl ?_) (n - (a + 1)) (a + 1) 1000000 (x2, x3, m) (by omega) (by omega) ⟨hl, h0, by omega, by rw [rwl_0 _ _ _ (Nat.le_refl _), List.append_nil]; exact h2, by rw [rwl_0 _ _ _ (Nat.le_refl _), List.append_nil]; exact h3⟩
  · show lp_X10_bridges_33 (N + 1) i t.1 t.2.1 (nI a) (nI n) t.2.2 = _
    rw [lp_X10_bridges_33.eq_2, hh.2.1, if_pos (nI_le (Nat.le_refl _) (by omega))]
  · obtain ⟨g1, g2, g3, g4, g5⟩ := hh
    show ∃ a' : Int32 × Int32 × am_m, lp_X10_bridges_33 (N + 1) i t.1 t.2.1 (nI a) (nI b) t.2.2 = lp_X10_bridges_33 N i a'.1 a'.2.1 (nI a) (nI (b + 1)) a'.2.2 ∧ _
    have hbit : (rowOf n M a).testBit b = M a b := by unfold rowOf; rw [sx_bit, decide_eq_true hb]; rfl
    rw [lp_X10_bridges_33.eq_2, g2, if_neg (nI_ge hb (by omega)), i7, ck_in (by omega) (by decide), nI_clamp (by omega), (g1 a b ha hb).1, nI_1]
    have hno : brF (rowOf n M) n a b = false → rwl (brF (rowOf n M) n) a (b + 1) = rwl (brF (rowOf n M) n) a b := fun z => by
      rw [rwl, if_neg (fun w => by rw [z] at w; cases w.2), List.append_nil]
    cases e : M a b with
    | false =>
      rw [if_pos (show bv false = 0 from rfl), bd_s]
      refine ⟨t, rfl, g1, g2, by omega, ?_, ?_⟩
      · rw [hno (by unfold brF; rw [hbit, e]; rfl)]; exact g4
      · rw [hno (by unfold brF; rw [hbit, e]; rfl)]; exact g5
    | true =>
      rw [if_neg (show ¬ bv true = 0 by decide)]
      obtain ⟨m2, e2, l2⟩ := isBridge_ok g1 hn g2 g3 hb e hc
      have k2 := kp_X10_isBridge _ _ _ _ e2
      have f2 : m2.1 44 0 0 = nI n := by rw [k2.row 44 rfl]; exact g2
      rw [e2, bd_s]
      by_cases g : cc (rowOf n M) n < cc (remR (rowOf n M) a b) n
      · have hyes : rwl (brF (rowOf n M) n) a (b + 1) = rwl (brF (rowOf n M) n) a b ++ [10 * a + b] := by rw [rwl, if_pos ⟨g3, by unfold brF; rw [hbit, e, decide_eq_true g]; rfl⟩]
        rw [decide_eq_true g, if_neg (show ¬ bv true = 0 by decide), bd_s]
        refine ⟨(t.1 + 1, (if t.1 ≠ i then t.2.1 else (10 : Int32) * nI a + nI b), m2), rfl, l2, f2, by omega, ?_, ?_⟩
        · show t.1 + 1 = _
          rw [hyes, ← List.append_assoc, List.length_append, g4, nI_1]
          rfl
        · show (if t.1 ≠ i then t.2.1 else (10 : Int32) * nI a + nI b) = _
          rw [hyes, ← List.append_assoc, g4, g5, i10, its_step _ _ _ (by have := tw_room (brF (rowOf n M) n) hn g3 hb; omega)]
      · rw [decide_eq_false g, if_pos (show bv false = 0 from rfl), bd_s]
        refine ⟨(t.1, t.2.1, m2), rfl, l2, f2, by omega, ?_, ?_⟩
        · show t.1 = _
          rw [hno (by unfold brF; rw [decide_eq_false g, Bool.and_false])]; exact g4
        · show t.2.1 = _
          rw [hno (by unfold brF; rw [decide_eq_false g, Bool.and_false])]; exact g5
theorem rbridges_ok {i : Int32} (hl : laid n M A m) (hn : n ≤ 7) (h0 : m.1 44 0 0 = nI n) (hc : ∀ a b, M a b = M b a) : ∃ m', lp_X10_bridges_16 1000000 i 0 (-1) 0 m = some (nI (all_l (brF (rowOf n M) n) n n).length, itsS i (all_l (brF (rowOf n M) n) n n), m') := by
  refine (lp_up0 (fun N x (t : Int32 × Int32 × am_m) => lp_X10_bridges_16 N i t.1 t.2.1 x t.2.2) (fun a t => laid n M A t.2.2 ∧ t.2.2.1 44 0 0 = nI n ∧ t.1 = nI (all_l (brF (rowOf n M) n) n a).length ∧ t.2.1 = itsS i (all_l (brF (rowOf n M) n) n a)) (fun t => t.1 = nI (all_l (brF (rowOf n M) n) n n).length ∧ t.2.1 = itsS i (all_l (brF (rowOf n M) n) n n)) n (by omega) (fun N t hh => ⟨t, ?_, hh.2.2⟩) (fun N a t ha hh => Or.inl ?_) (0, -1, m) ⟨hl, h0, rfl, ?_⟩).elim (fun t he => ?_)
  · show lp_X10_bridges_16 (N + 1) i t.1 t.2.1 (nI n) t.2.2 = _
    rw [lp_X10_bridges_16.eq_2, hh.2.1, if_pos (nI_le (Nat.le_refl _) (by omega))]
  · obtain ⟨g1, g2, g3, g4⟩ := hh
    obtain ⟨t2, e2, q2⟩ := rbr_in (i := i) g1 hn g2 ha hc g3 g4
    refine ⟨t2, ?_, q2⟩
    show lp_X10_bridges_16 (N + 1) i t.1 t.2.1 (nI a) t.2.2 = lp_X10_bridges_16 N i t2.1 t2.2.1 (nI (a + 1)) t2.2.2
    rw [lp_X10_bridges_16.eq_2, g2, if_neg (nI_ge ha (by omega)), nI_1, e2, bd_s]
  · show (-1 : Int32) = itsS i []
    unfold itsS
    rw [if_neg (fun z => absurd z.2 (Nat.not_lt_zero _))]
  · obtain ⟨e, q1, q2⟩ := he
    refine ⟨t.2.2, ?_⟩
    rw [← q1, ← q2]
    exact e
end RBR
theorem op_bridges {m : am_m} (h : Inv m) (i : Int32) : op_ok m (fun m => fn_X9_bridges i m) (fun m => fn_X10_bridges i m) := by
  obtain ⟨n, R, lw, m1, -, eR, gd, e44, e8, e1, c1, j1, f1, hr⟩ := both_ok h
  have hn := gd.1
  have hR : ∀ p, p < n → R p < 2 ^ n := fun p hp => (gd.2 p hp).1
  refine op_look h (fun t => kp_X9_bridges _ m t) (fun m1 t => kp_X10_bridges _ m1 t) rfl rfl rfl (if i = -1 then nI (all_l (brF R n) n n).length else itsS i (all_l (brF R n) n n)) ?_ ?_
  · show ∃ m', fn_X9_bridges i m = some (_, m')
    unfold fn_X9_bridges
    obtain ⟨m2, e2, t2⟩ := cbridges_ok c1 hn hR
    rw [e1, bd_s, e2, bd_s, twoOf_ok i t2 (all_21 _ hn), bd_s]
    exact ⟨_, rfl⟩
  · intro m2 i2 f2
    obtain ⟨m3, e3, r3, l3, f3⟩ := hr m2 i2 f2
    show ∃ m', fn_X10_bridges i m2 = some (_, m')
    unfold fn_X10_bridges
    obtain ⟨m4, e4⟩ := rbridges_ok (i := i) l3 hn (by rw [f3]; exact e44) (mtx_comm _ _)
    rw [← eR] at e4
    rw [e3, bd_s, e4, bd_s]
    by_cases ei : i = -1
    · rw [if_neg (fun z => z ei), if_pos ei]
      exact ⟨_, rfl⟩
    · rw [if_pos ei, if_neg ei]
      exact ⟨_, rfl⟩
