/-! TABLES; the largest one, a LAW compared, whom a set fits, whom to ask -/
def tbp (R : Nat → Nat) (s p : Nat) : Bool := !s.testBit p || decide (sd (sd s (2 ^ p)) (R p) = 0)
def tb (R : Nat → Nat) (n s : Nat) : Bool := decide (2 ≤ pc s) && decide (∀ p, p < n → tbp R s p = true)
/-- the rows as the class has them, as the reference has them -/
def clsR (n : Nat) (R : Nat → Nat) (m : am_m) : Prop := m.1 6 0 0 = nI n ∧ ∀ p, p < n → m.1 30 0 p = nI (R p)
def refR (n : Nat) (R : Nat → Nat) (m : am_m) : Prop := m.1 44 0 0 = nI n ∧ ∀ p, p < n → fn_X10_sitsWith (nI p) m = some (nI (R p))
def rowOf (n : Nat) (M : Nat → Nat → Bool) (p : Nat) : Nat := sx (M p) n
theorem seats.cls {n : Nat} {M : Nat → Nat → Bool} {m : am_m} (h : seats n M m) : clsR n (rowOf n M) m := h
theorem laid.ref {n : Nat} {M A : Nat → Nat → Bool} {m : am_m} (h : laid n M A m) (hn : n ≤ 7) (h0 : m.1 44 0 0 = nI n) : refR n (rowOf n M) m := ⟨h0, fun _ hp => sitsWith_ok h hn h0 hp⟩
/-- what is so of such rows -/
def gdR (n : Nat) (R : Nat → Nat) : Prop := n ≤ 7 ∧ ∀ p, p < n → R p < 2 ^ n ∧ (R p).testBit p = false ∧ ∀ q, q < n → (R p).testBit q = (R q).testBit p
theorem rowOf_gd {n : Nat} (hn : n ≤ 7) {M : Nat → Nat → Bool} (hc : ∀ a b, M a b = M b a) (hi : ∀ a, M a a = false) : gdR n (rowOf n M) := by
  refine ⟨hn, fun p hp => ⟨sx_lt _ _, ?_, fun q hq => ?_⟩⟩
  · unfold rowOf
    rw [sx_bit, hi, Bool.and_false]
  · unfold rowOf
    rw [sx_bit, sx_bit, decide_eq_true hp, decide_eq_true hq, hc]
theorem gdR.lt {n p : Nat} {R : Nat → Nat} (h : gdR n R) (hp : p < n) : R p < 128 := Nat.lt_of_lt_of_le (h.2 p hp).1 (pw_le h.1)
section TB
variable {m : am_m} {n s p : Nat} {R : Nat → Nat}
theorem sd_small (hs : s < 128) (b : Nat) : sd s b < 128 := Nat.lt_of_le_of_lt (sd_le s b) hs
theorem nI0_iff {x : Nat} (hx : x < 2 ^ 31) : nI x = 0 ↔ x = 0 := nI_eq (b := 0) hx (by decide)
theorem sd2_I (hp : p < 31) (b : Nat) : (nI s &&& (((1 : Int32) <<< (nI p &&& 31)) ^^^ (-1 : Int32))) &&& (nI b ^^^ (-1 : Int32)) = nI (sd (sd s (2 ^ p)) b) := by rw [sh1 p hp, sd_I, sd_I]
theorem ctable_ok (h : clsR n R m) (hn : n ≤ 7) (hs : s < 128) : fn_X6_isTable (nI s) m = some (bv (tb R n s)) := by
  have key : ∃ b, lp_X6_isTable_2 1000000 (nI s) 0 m = some b ∧ ((b = .inl () ∧ ∀ p, p < n → tbp R s p = true) ∨ (b = .inr 0 ∧ ¬ ∀ p, p < n → tbp R s p = true)) := by
    refine lp_up0 (fun N x (_ : Unit) => lp_X6_isTable_2 N (nI s) x m) (fun i _ => ∀ p, p < i → tbp R s p = true) _ n (by omega) (fun N a hh => ⟨.inl (), ?_, Or.inl ⟨rfl, hh⟩⟩) (fun N i a hi hh => ?_) () (fun p hp => absurd hp (Nat.not_lt_zero _))
    · show lp_X6_isTable_2 (N + 1) (nI s) (nI n) m = _
      rw [lp_X6_isTable_2.eq_2, h.1, if_pos (nI_le (Nat.le_refl _) (by omega))]
    · show (∃ a', lp_X6_isTable_2 (N + 1) (nI s) (nI i) m = lp_X6_isTable_2 N (nI s) (nI (i + 1)) m ∧ _) ∨ ∃ b, lp_X6_isTable_2 (N + 1) (nI s) (nI i) m = some b ∧ _
      have hstep : tbp R s i = true → ∀ p, p < i + 1 → tbp R s p = true := fun ht p hp => by
        by_cases e : p = i
        · rw [e]; exact ht
        · exact hh p (by omega)
      rw [lp_X6_isTable_2.eq_2, h.1, if_neg (nI_ge hi (by omega)), nI_1]
      cases hb : s.testBit i with
      | false =>
        rw [if_pos ((isN hs (by omega)).mpr hb)]
        exact Or.inl ⟨(), rfl, hstep (by unfold tbp; rw [hb]; rfl)⟩
      | true =>
        rw [if_neg (fun z => by rw [(isN hs (by omega)).mp z] at hb; cases hb), ck_in (by omega) (by decide), nI_clamp (by omega), h.2 i hi, sd2_I (by omega)]
        have hl : sd (sd s (2 ^ i)) (R i) < 128 := sd_small (sd_small hs _) _
        by_cases e : sd (sd s (2 ^ i)) (R i) = 0
        · rw [if_pos ((nI0_iff (by omega)).mpr e)]
          exact Or.inl ⟨(), rfl, hstep (by unfold tbp; rw [decide_eq_true e, Bool.or_true])⟩
        · rw [if_neg (fun z => e ((nI0_iff (by omega)).mp z))]
          refine Or.inr ⟨.inr 0, rfl, Or.inr ⟨rfl, fun z => ?_⟩⟩
          have z := z i hi
          unfold tbp at z
          rw [hb, decide_eq_false e] at z
          cases z
  obtain ⟨b, e, q⟩ := key
  unfold fn_X6_isTable tb
  rw [e, bd_s]
  rcases q with ⟨rfl, q⟩ | ⟨rfl, q⟩
  · rw [decide_eq_true q]
    show ((fn_J6_bitCount_0f7a4 (nI s) m).bind fun r7 => (if r7 < (2 : Int32) then some (0 : Int32) else some 1)) = _
    have hp7 := pc_le s
    rw [bc_ok hs, bd_s]
    by_cases g : 2 ≤ pc s
    · rw [if_neg (show ¬ nI (pc s) < (2 : Int32) from nI_nlt (b := 2) g (by omega)), decide_eq_true g]
      rfl
    · rw [if_pos (show nI (pc s) < (2 : Int32) from nI_lt (b := 2) (by omega) (by decide)), decide_eq_false g]
      rfl
  · rw [decide_eq_false q, Bool.and_false]
    rfl
theorem rtable_ok (h : refR n R m) (hn : n ≤ 7) (hs : s < 128) : fn_X10_isTable (nI s) m = some (bv (tb R n s)) := by
  have hp7 := pc_le s
  have key : ∃ b, lp_X10_isTable_16 1000000 (nI s) (bv (decide (2 ≤ pc s))) 0 m = some b ∧ b = bv (tb R n s) := by
    refine lp_up0 (fun N x a => lp_X10_isTable_16 N (nI s) a x m) (fun i a => a = bv (decide (2 ≤ pc s) && decide (∀ p, p < i → tbp R s p = true))) _ n (by omega) (fun N a hh => ⟨a, ?_, hh⟩) (fun N i a hi hh => ?_) _ ?_
    · show lp_X10_isTable_16 (N + 1) (nI s) a (nI n) m = _
      rw [lp_X10_isTable_16.eq_2, h.1, if_pos (nI_le (Nat.le_refl _) (by omega))]
    · show (∃ a', lp_X10_isTable_16 (N + 1) (nI s) a (nI i) m = lp_X10_isTable_16 N (nI s) a' (nI (i + 1)) m ∧ _) ∨ ∃ b, lp_X10_isTable_16 (N + 1) (nI s) a (nI i) m = some b ∧ _
      rw [lp_X10_isTable_16.eq_2, h.1, if_neg (nI_ge hi (by omega)), nI_1]
      cases hb : (decide (2 ≤ pc s) && decide (∀ p, p < i → tbp R s p = true)) with
      | false =>
        rw [hb] at hh
        rw [hh, if_pos (show bv false = 0 from rfl)]
        refine Or.inr ⟨bv false, rfl, congrArg bv (Eq.symm ?_)⟩
        rw [Bool.and_eq_false_iff] at hb ⊢
        rcases hb with hb | hb
        · exact Or.inl hb
        · exact Or.inr (decide_eq_false (fun z => (of_decide_eq_false hb) (fun p hp => z p (by omega))))
      | true =>
        rw [hb] at hh
        rw [Bool.and_eq_true] at hb
        have hall := of_decide_eq_true hb.2
        rw [hh, if_neg (show ¬ bv true = 0 by decide), is_ok hs (by omega), bd_s]
        refine Or.inl ⟨bv (tbp R s i), ?_, ?_⟩
        · unfold tbp
          cases ht : s.testBit i with
          | false => rfl
          | true =>
            rw [if_neg (show ¬ bv true = 0 by decide), h.2 i hi, bd_s, sd2_I (by omega)]
            have hl : sd (sd s (2 ^ i)) (R i) < 128 := sd_small (sd_small hs _) _
            by_cases e : sd (sd s (2 ^ i)) (R i) = 0
            · rw [if_neg (fun z => z ((nI0_iff (by omega)).mpr e)), decide_eq_true e]
              rfl
            · rw [if_pos (fun z => e ((nI0_iff (by omega)).mp z)), decide_eq_false e]
              rfl
        · rw [hb.1, Bool.true_and]
          cases ht : tbp R s i with
          | true => rw [decide_eq_true (fun p hp => by by_cases e : p = i; · rw [e]; exact ht
                                                       · exact hall p (by omega))]
          | false => rw [decide_eq_false (fun z => by rw [z i (by omega)] at ht; cases ht)]
    · rw [decide_eq_true (p := ∀ p, p < 0 → tbp R s p = true) (fun p hp => absurd hp (Nat.not_lt_zero _)), Bool.and_true]
  obtain ⟨b, e, q⟩ := key
  unfold fn_X10_isTable
  rw [ones_ok hs, bd_s]
  have e1 : (if nI (pc s) ≤ (1 : Int32) then (0 : Int32) else 1) = bv (decide (2 ≤ pc s)) := by
    by_cases g : 2 ≤ pc s
    · rw [if_neg (show ¬ nI (pc s) ≤ (1 : Int32) from nI_ge (a := 1) g (by omega)), decide_eq_true g]; rfl
    · rw [if_pos (show nI (pc s) ≤ (1 : Int32) from nI_le (b := 1) (by omega) (by decide)), decide_eq_false g]; rfl
  rw [e1, e, bd_s, q, gd_t (bv_01 _)]
theorem tb_2 (h : tb R n s = true) : 2 ≤ pc s := by
  unfold tb at h
  rw [Bool.and_eq_true] at h
  exact of_decide_eq_true h.1
/-- the best of the sets below one -/
def bst (T : Nat → Bool) : Nat → Nat
  | 0 => 0
  | i + 1 => if pc (bst T i) < pc i ∧ T i = true then i else bst T i
theorem bst_no {T : Nat → Bool} {i : Nat} (h : ¬ (pc (bst T i) < pc i ∧ T i = true)) : bst T (i + 1) = bst T i := if_neg h
theorem bst_yes {T : Nat → Bool} {i : Nat} (h : pc (bst T i) < pc i ∧ T i = true) : bst T (i + 1) = i := if_pos h
theorem bst_T (T : Nat → Bool) : ∀ i, bst T i = 0 ∨ T (bst T i) = true
  | 0 => Or.inl rfl
  | i + 1 => by
    rw [bst]
    by_cases h : pc (bst T i) < pc i ∧ T i = true
    · rw [if_pos h]; exact Or.inr h.2
    · rw [if_neg h]; exact bst_T T i
theorem bst_le (T : Nat → Bool) : ∀ i, bst T i ≤ i
  | 0 => Nat.le_refl _
  | i + 1 => by
    rw [bst]
    by_cases h : pc (bst T i) < pc i ∧ T i = true
    · rw [if_pos h]; omega
    · rw [if_neg h]; have := bst_le T i; omega
theorem bst_lt (T : Nat → Bool) : ∀ i, 0 < i → bst T i < i
  | 0, h => absurd h (Nat.lt_irrefl 0)
  | i + 1, _ => by
    rw [bst]
    by_cases h : pc (bst T i) < pc i ∧ T i = true
    · rw [if_pos h]; omega
    · rw [if_neg h]; have := bst_le T i; omega
theorem every_ok (h : m.1 6 0 0 = nI n) (hn : n ≤ 7) : fn_X6_everybody m = some (nI (2 ^ n - 1)) := by
  unfold fn_X6_everybody
  rw [h, all_n n (by omega)]
theorem all_ok (h : m.1 44 0 0 = nI n) (hn : n ≤ 7) : fn_X10_all m = some (nI (2 ^ n - 1)) := by
  unfold fn_X10_all
  rw [h, all_n n (by omega)]
theorem pw_pos (n : Nat) : 0 < 2 ^ n := Nat.two_pow_pos n
theorem clargest_ok (h : clsR n R m) (hn : n ≤ 7) : fn_X6_largestTable m = some (nI (bst (tb R n) (2 ^ n))) := by
  have h128 := pw_le hn
  have hp := pw_pos n
  unfold fn_X6_largestTable
  rw [show lp_X6_largestTable_4 1000000 0 1 m = some (nI (bst (tb R n) (2 ^ n))) from lp_eq (fun N x a => lp_X6_largestTable_4 N a x m) (fun i => nI (bst (tb R n) i)) _ (2 ^ n) (by omega) (fun N => ?_) (fun N i hi => ?_) 1 (by omega)]
  · rfl
  · show lp_X6_largestTable_4 (N + 1) _ (nI (2 ^ n)) m = _
    rw [lp_X6_largestTable_4.eq_2, every_ok h.1 hn, bd_s, if_pos (nI_lt (by omega) (by omega))]
  · show lp_X6_largestTable_4 (N + 1) _ (nI i) m = lp_X6_largestTable_4 N _ (nI (i + 1)) m
    have hb := bst_le (tb R n) i
    have p1 := pc_le i
    have p2 := pc_le (bst (tb R n) i)
    rw [lp_X6_largestTable_4.eq_2, every_ok h.1 hn, bd_s, if_neg (nI_nlt (by omega) (by omega)), bc_ok (by omega), bd_s, bc_ok (by omega), bd_s, nI_1]
    by_cases g : pc (bst (tb R n) i) < pc i
    · rw [if_neg (nI_ge g (by omega)), ctable_ok h hn (by omega), bd_s]
      cases ht : tb R n i with
      | false => rw [if_pos (show bv false = 0 from rfl), bd_s, bst, if_neg (fun z => by rw [ht] at z; cases z.2)]
      | true => rw [if_neg (show ¬ bv true = 0 by decide), bd_s, bst, if_pos ⟨g, ht⟩]
    · rw [if_pos (nI_le (by omega) (by omega)), bd_s, bst, if_neg (fun z => g z.1)]
theorem rlargest_ok (h : refR n R m) (hn : n ≤ 7) : fn_X10_largestSet m = some (nI (bst (tb R n) (2 ^ n))) := by
  have h128 := pw_le hn
  have hp := pw_pos n
  unfold fn_X10_largestSet
  rw [show lp_X10_largestSet_6 1000000 1 0 0 m = some (nI (bst (tb R n) (2 ^ n))) from lp_eq (fun N x (a : Int32 × Int32) => lp_X10_largestSet_6 N a.1 a.2 x m) (fun i => (nI (if bst (tb R n) i = 0 then 1 else pc (bst (tb R n) i)), nI (bst (tb R n) i))) _ (2 ^ n) (by omega) (fun N => ?_) (fun N i hi => ?_) 0 (by omega)]
  · rfl
  · show lp_X10_largestSet_6 (N + 1) _ _ (nI (2 ^ n)) m = _
    rw [lp_X10_largestSet_6.eq_2, all_ok h.1 hn, bd_s, if_pos (nI_lt (by omega) (by omega))]
  · show lp_X10_largestSet_6 (N + 1) (nI (if bst (tb R n) i = 0 then 1 else pc (bst (tb R n) i))) (nI (bst (tb R n) i)) (nI i) m = lp_X10_largestSet_6 N (nI (if bst (tb R n) (i + 1) = 0 then 1 else pc (bst (tb R n) (i + 1)))) (nI (bst (tb R n) (i + 1))) (nI (i + 1)) m
    have hb := bst_le (tb R n) i
    have p1 := pc_le i
    have p2 := pc_le (bst (tb R n) i)
    have hm7 : (if bst (tb R n) i = 0 then 1 else pc (bst (tb R n) i)) ≤ 7 := by by_cases z : bst (tb R n) i = 0 <;> simp only [z, if_true, if_false] <;> omega
    have hsame : (pc (bst (tb R n) i) < pc i ∧ tb R n i = true) ↔ ((if bst (tb R n) i = 0 then 1 else pc (bst (tb R n) i)) < pc i ∧ tb R n i = true) := by
      by_cases z : bst (tb R n) i = 0
      · rw [if_pos z, z]
        have p0 : pc 0 = 0 := by decide
        rw [p0]
        exact ⟨fun w => ⟨by have := tb_2 w.2; omega, w.2⟩, fun w => ⟨by omega, w.2⟩⟩
      · rw [if_neg z]
    rw [lp_X10_largestSet_6.eq_2, all_ok h.1 hn, bd_s, if_neg (nI_nlt (by omega) (by omega)), ones_ok (by omega), bd_s, nI_1]
    by_cases g : (if bst (tb R n) i = 0 then 1 else pc (bst (tb R n) i)) < pc i
    · rw [if_neg (nI_ge g (by omega)), rtable_ok h hn (by omega), bd_s]
      cases ht : tb R n i with
      | false =>
        rw [if_pos (show bv false = 0 from rfl), bd_s, bst_no (T := tb R n) (fun z => by rw [ht] at z; cases z.2)]
      | true =>
        have i0 : ¬ i = 0 := fun z => by
          have := tb_2 ht
          rw [z] at this
          exact absurd this (by decide)
        rw [if_neg (show ¬ bv true = 0 by decide), bd_s, bst_yes (hsame.mpr ⟨g, ht⟩), if_neg i0]
        rfl
    · rw [if_pos (nI_le (by omega) (by omega)), bd_s, bst_no (fun z => g (hsame.mp z).1)]
end TB
