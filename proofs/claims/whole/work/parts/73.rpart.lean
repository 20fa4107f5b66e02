/-! all partings, by the reference -/
def tri (n : Nat) (tr : Nat → Nat) (m : am_m) : Prop := ∀ i, i < n → m.1 57 0 i = nI (tr i)
def wI : Option Nat → Int32
  | none => 100000000
  | some v => nI v
section RP
variable {m : am_m} {M A B : Nat → Nat → Bool} {tr : Nat → Nat} {n k c s t : Nat} {md : Bool}
theorem tri.of {m' : am_m} (h : tri n tr m) (e : ∀ i, i < n → m'.1 57 0 i = m.1 57 0 i) : tri n tr m' := fun i hi => by rw [e i hi]; exact h i hi
theorem ahead1_ok (h : tri k tr m) (hk : k ≤ 7) (hb : ∀ i, i < k → tr i ≤ 7) : fn_X10_setsAhead (nI k) m = some (nI (sA tr k)) := by
  have key : lp_X10_setsAhead_4 1000000 (nI k) 0 0 m = some (nI (sA tr k)) := by
    refine lp_eq (fun N x a => lp_X10_setsAhead_4 N (nI k) a x m) (fun i => nI (sA tr i)) _ k (by omega) (fun N => ?_) (fun N i hi => ?_) 0 (by omega)
    · show lp_X10_setsAhead_4 (N + 1) (nI k) _ (nI k) m = _
      rw [lp_X10_setsAhead_4.eq_2, if_pos (nI_le (Nat.le_refl _) (by omega))]
    · show lp_X10_setsAhead_4 (N + 1) (nI k) (nI (sA tr i)) (nI i) m = lp_X10_setsAhead_4 N (nI k) (nI (sA tr (i + 1))) (nI (i + 1)) m
      have bs : ∀ j, j ≤ k → sA tr j ≤ 8 := by
        intro j
        induction j with
        | zero => intro _; exact Nat.zero_le _
        | succ j ih =>
          intro hj
          have := ih (by omega)
          have := hb j (by omega)
          rw [sA]
          by_cases c : tr j < sA tr j
          · rw [if_pos c]; omega
          · rw [if_neg c]; omega
      have := bs i (by omega)
      have := hb i hi
      rw [lp_X10_setsAhead_4.eq_2, if_neg (nI_ge hi (by omega)), ck_in (by omega) (by decide), nI_clamp (by omega), h i hi, ck_in (by omega) (by decide), nI_1, nI_1, sA]
      by_cases c : tr i < sA tr i
      · rw [if_pos (nI_lt c (by omega)), if_pos c, bd_s]
      · rw [if_neg (nI_nlt (by omega) (by omega)), if_neg c, bd_s]
  unfold fn_X10_setsAhead
  rw [key, bd_s]
theorem setOf_ok (h : tri k tr m) (hk : k ≤ 7) (hb : ∀ i, i < k → tr i ≤ 7) (ht : t ≤ 7) : fn_X10_setOf (nI t) (nI k) m = some (nI (stS tr t k)) := by
  have key : lp_X10_setOf_5 1000000 (nI t) (nI k) 0 0 m = some (nI (stS tr t k)) := by
    refine lp_eq (fun N x a => lp_X10_setOf_5 N (nI t) (nI k) a x m) (fun i => nI (stS tr t i)) _ k (by omega) (fun N => ?_) (fun N i hi => ?_) 0 (by omega)
    · show lp_X10_setOf_5 (N + 1) (nI t) (nI k) _ (nI k) m = _
      rw [lp_X10_setOf_5.eq_2, if_pos (nI_le (Nat.le_refl _) (by omega))]
    · show lp_X10_setOf_5 (N + 1) (nI t) (nI k) (nI (stS tr t i)) (nI i) m = lp_X10_setOf_5 N (nI t) (nI k) (nI (stS tr t (i + 1))) (nI (i + 1)) m
      have := hb i hi
      rw [lp_X10_setOf_5.eq_2, if_neg (nI_ge hi (by omega)), ck_in (by omega) (by decide), nI_clamp (by omega), h i hi, nI_1]
      have st : nI (stS tr t (i + 1)) = nI (stS tr t i) ||| (if decide (tr i = t) = true then (1 : Int32) <<< (nI i &&& 31) else 0) := (sx_step (fun i => decide (tr i = t)) (by omega)).symm
      rw [st]
      by_cases e : tr i = t
      · rw [if_neg (fun z => z (by rw [e])), decide_eq_true e, if_pos rfl]
      · rw [if_pos (nI_ne (by omega) (by omega) e), decide_eq_false e, if_neg (by decide)]
  unfold fn_X10_setOf
  rw [key, bd_s]
/-- the twos of a row, as the reference goes through them -/
def cnR (M : Nat → Nat → Bool) (tr : Nat → Nat) (n a : Nat) : Nat := fb_ct (fun b => decide (a < b) && (decide (tr a = tr b) && !M a b)) n
theorem cn_eq : ∀ n, fb_sm (fun a => cnR M tr n a) n = cnH M tr n
  | 0 => rfl
  | n + 1 => by
    have e1 : ∀ a, a < n + 1 → cnR M tr (n + 1) a = cnR M tr n a + (if decide (a < n) && (decide (tr a = tr n) && !M a n) then 1 else 0) := fun a _ => fb_ct_succ _ n
    rw [fb_sm_cong e1, fb_sm_add, fb_sm_succ, fb_sm_succ, cnH, ← cn_eq n]
    have z1 : cnR M tr n n = 0 := fb_ct_zero.mpr (fun b hb => by rw [decide_eq_false (by omega)]; rfl)
    have z2 : (if decide (n < n) && (decide (tr n = tr n) && !M n n) then 1 else 0) = 0 := by rw [decide_eq_false (Nat.lt_irrefl _)]; rfl
    rw [z1, z2, Nat.add_zero, Nat.add_zero]
    have : ∀ k, k ≤ n → fb_sm (fun a => if decide (a < n) && (decide (tr a = tr n) && !M a n) then 1 else 0) k = fb_ct (fun a => decide (tr a = tr n) && !M a n) k := by
      intro k
      induction k with
      | zero => intro _; rfl
      | succ k ih =>
        intro hk
        rw [fb_sm_succ, fb_ct_succ, ih (by omega), decide_eq_true (show k < n by omega), Bool.true_and]
    rw [this n (Nat.le_refl _)]
/-- the twos, from one on: how many more HARMS, or that it can't be -/
theorem pairs_in {a : Nat} {x3 : Int32} {h0 : Nat} (hl : laid n M A m) (hn : n ≤ 7) (ht : tri n tr m) (hb : ∀ i, i < n → tr i ≤ 7) (ha : a < n) (h7 : h0 ≤ 100) : ∃ b, lp_X10_worthOf_84 1000000 0 (nI n) x3 (nI h0) (nI a) (nI (a + 1)) m = some b ∧ ((b = .inl (nI (h0 + cnR M tr n a)) ∧ ∀ b, a < b → b < n → ¬ (tr a = tr b ∧ A a b = true)) ∨ (b = .inr 100000000 ∧ ∃ b, a < b ∧ b < n ∧ tr a = tr b ∧ A a b = true)) := by
  have c0 : fb_ct (fun b => decide (a < b) && (decide (tr a = tr b) && !M a b)) (a + 1) = 0 := fb_ct_zero.mpr (fun b hb => by rw [decide_eq_false (by omega)]; rfl)
  refine lp_up (fun N x v => lp_X10_worthOf_84 N 0 (nI n) x3 v (nI a) x m) (fun i v => a < i ∧ v = nI (h0 + fb_ct (fun b => decide (a < b) && (decide (tr a = tr b) && !M a b)) i) ∧ ∀ b, a < b → b < i → ¬ (tr a = tr b ∧ A a b = true)) _ n (fun N v hh => ⟨.inl v, ?_, Or.inl ⟨by rw [hh.2.1]; rfl, hh.2.2⟩⟩) (fun N i v hi hh => ?_) (n - (a + 1)) (a + 1) 1000000 (nI h0) (by omega) (by omega) ⟨by omega, by rw [c0]; rfl, fun b h1 h2 => by omega⟩
  · show lp_X10_worthOf_84 (N + 1) 0 (nI n) x3 v (nI a) (nI n) m = _
    rw [lp_X10_worthOf_84.eq_2, if_pos (nI_le (Nat.le_refl _) (by omega))]
  · obtain ⟨h1, h2, h3⟩ := hh
    have ea := hb a ha
    have ei := hb i hi
    have ent := hl a i ha hi
    show (∃ v', lp_X10_worthOf_84 (N + 1) 0 (nI n) x3 v (nI a) (nI i) m = lp_X10_worthOf_84 N 0 (nI n) x3 v' (nI a) (nI (i + 1)) m ∧ _) ∨ ∃ b, lp_X10_worthOf_84 (N + 1) 0 (nI n) x3 v (nI a) (nI i) m = some b ∧ _
    rw [lp_X10_worthOf_84.eq_2, if_neg (nI_ge hi (by omega)), if_neg (show ¬ (0 : Int32) ≠ 0 by decide), ck_in (show a < 8 by omega) (by decide), ck_in (show i < 8 by omega) (by decide), nI_clamp (show a < 2 ^ 31 by omega), nI_clamp (show i < 2 ^ 31 by omega), ht a ha, ht i hi, i7, ck_in (by omega) (by decide), nI_clamp (by omega), ent.1, ent.2, ck_in (by omega) (by decide), nI_1]
    have nx : ¬ (tr a = tr i ∧ A a i = true) → ∀ b, a < b → b < i + 1 → ¬ (tr a = tr b ∧ A a b = true) := fun z b g1 g2 q => by
      by_cases e : b = i
      · rw [e] at q; exact z q
      · exact h3 b g1 (by omega) q
    have cs : fb_ct (fun b => decide (a < b) && (decide (tr a = tr b) && !M a b)) (i + 1) = fb_ct (fun b => decide (a < b) && (decide (tr a = tr b) && !M a b)) i + (if (decide (tr a = tr i) && !M a i) then 1 else 0) := by
      rw [fb_ct_succ, decide_eq_true h1, Bool.true_and]
    by_cases e : tr a = tr i
    · rw [if_neg (fun z => z (by rw [e]))]
      cases hA : A a i with
      | true =>
        rw [if_neg (show ¬ bv true = 0 by decide)]
        exact Or.inr ⟨_, rfl, Or.inr ⟨rfl, i, h1, hi, e, hA⟩⟩
      | false =>
        rw [if_pos (show bv false = 0 from rfl)]
        refine Or.inl ⟨_, rfl, by omega, ?_, nx (fun z => by rw [hA] at z; cases z.2)⟩
        rw [cs, decide_eq_true e, Bool.true_and, h2]
        cases M a i with
        | true => rw [if_neg (show ¬ bv true = 0 by decide), show (0 : Int32) = nI 0 from rfl, nI_add]; rfl
        | false => rw [if_pos (show bv false = 0 from rfl), show (1 : Int32) = nI 1 from rfl, nI_add]; rfl
    · rw [if_pos (nI_ne (by omega) (by omega) e)]
      refine Or.inl ⟨v, rfl, by omega, ?_, nx (fun z => e z.1)⟩
      rw [cs, decide_eq_false e, h2]
      rfl
theorem worth_ok (hl : laid n M A m) (hn : n ≤ 7) (h0 : m.1 44 0 0 = nI n) (ht : tri n tr m) (hb : ∀ i, i < n → tr i ≤ 6) (hc : ∀ a b, M a b = M b a) (hB : B = if md then (fun a b => !M a b) else A) : fn_X10_worthOf (bv md) m = some (wI (wrt md M B n (sA tr n) tr)) := by
  have h128 := pw_le hn
  have hb7 : ∀ i, i < n → tr i ≤ 7 := fun i hi => by have := hb i hi; omega
  have R1 := hl.ref hn h0
  have s7 : sA tr n ≤ 7 := by
    have : ∀ j, j ≤ n → sA tr j ≤ 7 := by
      intro j
      induction j with
      | zero => intro _; exact Nat.zero_le _
      | succ j ih =>
        intro hj
        have := ih (by omega)
        have := hb j (by omega)
        rw [sA]
        by_cases c : tr j < sA tr j
        · rw [if_pos c]; omega
        · rw [if_neg c]; omega
    exact this n (Nat.le_refl _)
  have stl : ∀ t, stS tr t n < 2 ^ n := fun t => sx_lt _ n
  -- the sets one by one
  have s1 : ∃ b, lp_X10_worthOf_19 1000000 (bv md) (nI n) (nI (sA tr n)) 0 0 m = some b ∧ ((b = .inl () ∧ ∀ t, t < sA tr n → 2 ≤ pc (stS tr t n) ∧ (md = true → tb (rowOf n M) n (stS tr t n) = true)) ∨ (b = .inr 100000000 ∧ wrt md M B n (sA tr n) tr = none)) := by
    refine lp_up0 (fun N x (_ : Unit) => lp_X10_worthOf_19 N (bv md) (nI n) (nI (sA tr n)) 0 x m) (fun i _ => ∀ t, t < i → 2 ≤ pc (stS tr t n) ∧ (md = true → tb (rowOf n M) n (stS tr t n) = true)) _ (sA tr n) (by omega) (fun N u hh => ⟨.inl (), ?_, Or.inl ⟨rfl, hh⟩⟩) (fun N i u hi hh => ?_) () (fun t ht => absurd ht (Nat.not_lt_zero _))
    · show lp_X10_worthOf_19 (N + 1) (bv md) (nI n) (nI (sA tr n)) 0 (nI (sA tr n)) m = _
      rw [lp_X10_worthOf_19.eq_2, if_pos (nI_le (Nat.le_refl _) (by omega))]
    · have sl := stl i
      have p7 := pc_le (stS tr i n)
      show (∃ a', lp_X10_worthOf_19 (N + 1) (bv md) (nI n) (nI (sA tr n)) 0 (nI i) m = lp_X10_worthOf_19 N (bv md) (nI n) (nI (sA tr n)) 0 (nI (i + 1)) m ∧ _) ∨ ∃ b, lp_X10_worthOf_19 (N + 1) (bv md) (nI n) (nI (sA tr n)) 0 (nI i) m = some b ∧ _
      rw [lp_X10_worthOf_19.eq_2, if_neg (nI_ge hi (by omega)), setOf_ok ht hn hb7 (by omega), bd_s, nI_1]
      have nx : 2 ≤ pc (stS tr i n) ∧ (md = true → tb (rowOf n M) n (stS tr i n) = true) → ∀ t, t < i + 1 → 2 ≤ pc (stS tr t n) ∧ (md = true → tb (rowOf n M) n (stS tr t n) = true) := fun z t g => by
        by_cases e : t = i
        · rw [e]; exact z
        · exact hh t (by omega)
      cases md with
      | false =>
        rw [if_pos (show bv false = 0 from rfl), ones_ok (by omega), bd_s]
        by_cases g : 2 ≤ pc (stS tr i n)
        · rw [if_pos (show (2 : Int32) ≤ nI (pc (stS tr i n)) from nI_le (a := 2) g (by omega))]
          exact Or.inl ⟨(), rfl, nx ⟨g, fun z => by cases z⟩⟩
        · rw [if_neg (show ¬ (2 : Int32) ≤ nI (pc (stS tr i n)) from nI_ge (b := 2) (by omega) (by decide))]
          exact Or.inr ⟨_, rfl, Or.inr ⟨rfl, wrt_few hi g⟩⟩
      | true =>
        rw [if_neg (show ¬ bv true = 0 by decide), rtable_ok R1 hn (by omega), bd_s]
        cases htb : tb (rowOf n M) n (stS tr i n) with
        | true =>
          rw [if_pos (show bv true ≠ 0 by decide)]
          exact Or.inl ⟨(), rfl, nx ⟨tb_2 htb, fun _ => htb⟩⟩
        | false =>
          rw [if_neg (show ¬ bv false ≠ 0 by decide)]
          refine Or.inr ⟨_, rfl, Or.inr ⟨rfl, ?_⟩⟩
          by_cases g : 2 ≤ pc (stS tr i n)
          · refine wrt_bad (fun hok => ?_)
            have : tb (rowOf n M) n (stS tr i n) = true := by
              unfold tb
              rw [decide_eq_true g, Bool.true_and, decide_eq_true_iff, tb_twos hn sl hc]
              intro p q hpq hq bp bq
              rw [stS_bit, Bool.and_eq_true, decide_eq_true_iff, decide_eq_true_iff] at bp bq
              have := hok q bq.1 p hpq
              rw [hB, if_pos rfl] at this
              cases hM : M p q with
              | true => rfl
              | false => exact absurd ⟨by rw [bp.2, bq.2], by rw [hM]; rfl⟩ this
            rw [this] at htb
            cases htb
          · exact wrt_few hi g
  obtain ⟨b1, e1, q1⟩ := s1
  unfold fn_X10_worthOf
  rw [h0, ahead1_ok ht hn hb7, bd_s, e1, bd_s]
  rcases q1 with ⟨rfl, q1⟩ | ⟨rfl, q1⟩
  · -- the twos
    have sum7 : ∀ k, k ≤ n → fb_sm (fun a => cnR M tr n a) k ≤ 49 := fun k hk => by
      have := fb_sm_bound (f := fun a => cnR M tr n a) (c := 7) (n := k) (fun a _ => Nat.le_trans (fb_ct_le _ n) hn)
      omega
    have s2 : ∃ b, lp_X10_worthOf_72 1000000 (bv md) (nI n) (nI (sA tr n)) 0 0 m = some b ∧ ((∃ x, b = .inl x ∧ (md = false → x = nI (cnH M tr n) ∧ okP A tr n)) ∨ (b = .inr 100000000 ∧ md = false ∧ ¬ okP A tr n)) := by
      cases md with
      | true =>
        refine lp_up0 (fun N x a => lp_X10_worthOf_72 N (bv true) (nI n) (nI (sA tr n)) a x m) (fun i _ => True) _ n (by omega) (fun N v _ => ⟨.inl v, ?_, Or.inl ⟨v, rfl, fun z => by cases z⟩⟩) (fun N i v hi _ => Or.inl ?_) 0 trivial
        · show lp_X10_worthOf_72 (N + 1) (bv true) (nI n) (nI (sA tr n)) v (nI n) m = _
          rw [lp_X10_worthOf_72.eq_2, if_pos (nI_le (Nat.le_refl _) (by omega))]
        · have inn : lp_X10_worthOf_84 1000000 (bv true) (nI n) (nI (sA tr n)) v (nI i) (nI (i + 1)) m = some (.inl v) := by
            obtain ⟨b, e, z⟩ := lp_up (fun N x (_ : Unit) => lp_X10_worthOf_84 N (bv true) (nI n) (nI (sA tr n)) v (nI i) x m) (fun _ _ => True) (fun b => b = .inl v) n (fun N _ _ => ⟨.inl v, by
              show lp_X10_worthOf_84 (N + 1) (bv true) (nI n) (nI (sA tr n)) v (nI i) (nI n) m = _
              rw [lp_X10_worthOf_84.eq_2, if_pos (nI_le (Nat.le_refl _) (by omega))], rfl⟩) (fun N j _ hj _ => Or.inl ⟨(), by
              show lp_X10_worthOf_84 (N + 1) (bv true) (nI n) (nI (sA tr n)) v (nI i) (nI j) m = lp_X10_worthOf_84 N (bv true) (nI n) (nI (sA tr n)) v (nI i) (nI (j + 1)) m
              rw [lp_X10_worthOf_84.eq_2, if_neg (nI_ge hj (by omega)), if_pos (show bv true ≠ 0 by decide), nI_1], trivial⟩) (n - (i + 1)) (i + 1) 1000000 () (by omega) (by omega) trivial
            rw [e, z]
          refine ⟨v, ?_, trivial⟩
          show lp_X10_worthOf_72 (N + 1) (bv true) (nI n) (nI (sA tr n)) v (nI i) m = lp_X10_worthOf_72 N (bv true) (nI n) (nI (sA tr n)) v (nI (i + 1)) m
          rw [lp_X10_worthOf_72.eq_2, if_neg (nI_ge hi (by omega)), nI_1, inn, bd_s]
      | false =>
        refine lp_up0 (fun N x a => lp_X10_worthOf_72 N (bv false) (nI n) (nI (sA tr n)) a x m) (fun i v => v = nI (fb_sm (fun a => cnR M tr n a) i) ∧ ∀ a, a < i → ∀ b, a < b → b < n → ¬ (tr a = tr b ∧ A a b = true)) _ n (by omega) (fun N v hh => ⟨.inl v, ?_, Or.inl ⟨v, rfl, fun _ => ⟨by rw [hh.1, cn_eq], fun b hb a ha => hh.2 a (by omega) b ha hb⟩⟩⟩) (fun N i v hi hh => ?_) 0 ⟨rfl, fun a ha => absurd ha (Nat.not_lt_zero _)⟩
        · show lp_X10_worthOf_72 (N + 1) (bv false) (nI n) (nI (sA tr n)) v (nI n) m = _
          rw [lp_X10_worthOf_72.eq_2, if_pos (nI_le (Nat.le_refl _) (by omega))]
        · have b1 := sum7 i (by omega)
          obtain ⟨b, e, z⟩ := pairs_in (tr := tr) (x3 := nI (sA tr n)) (h0 := fb_sm (fun a => cnR M tr n a) i) hl hn ht hb7 hi (by omega)
          show (∃ v', lp_X10_worthOf_72 (N + 1) (bv false) (nI n) (nI (sA tr n)) v (nI i) m = lp_X10_worthOf_72 N (bv false) (nI n) (nI (sA tr n)) v' (nI (i + 1)) m ∧ _) ∨ ∃ b, lp_X10_worthOf_72 (N + 1) (bv false) (nI n) (nI (sA tr n)) v (nI i) m = some b ∧ _
          have e : lp_X10_worthOf_84 1000000 (bv false) (nI n) (nI (sA tr n)) (nI (fb_sm (fun a => cnR M tr n a) i)) (nI i) (nI (i + 1)) m = some b := e
          rw [lp_X10_worthOf_72.eq_2, if_neg (nI_ge hi (by omega)), nI_1, hh.1, e, bd_s]
          rcases z with ⟨rfl, z⟩ | ⟨rfl, b, z1, z2, z3, z4⟩
          · refine Or.inl ⟨_, rfl, rfl, fun a ha => ?_⟩
            by_cases ea : a = i
            · rw [ea]; exact z
            · exact hh.2 a (by omega)
          · exact Or.inr ⟨_, rfl, Or.inr ⟨rfl, rfl, fun hok => hok b z2 i z1 ⟨z3, z4⟩⟩⟩
    obtain ⟨b2, e2, q2⟩ := s2
    show ((lp_X10_worthOf_72 1000000 (bv md) (nI n) (nI (sA tr n)) 0 0 m).bind _) = _
    rw [e2, bd_s]
    rcases q2 with ⟨x, rfl, q2⟩ | ⟨rfl, q2, q3⟩
    · cases md with
      | true =>
        have hok : okP B tr n := fun b hb a ha q => by
          rw [hB, if_pos rfl] at q
          have hlt := sA_lt (tr := tr) n a (by omega)
          have htb := (q1 (tr a) hlt).2 rfl
          unfold tb at htb
          rw [Bool.and_eq_true, decide_eq_true_iff, decide_eq_true_iff, tb_twos hn (stl _) hc] at htb
          have := htb.2 a b ha (by omega) (by rw [stS_bit, decide_eq_true (show a < n by omega), decide_eq_true rfl]; rfl) (by rw [stS_bit, decide_eq_true hb, decide_eq_true q.1.symm]; rfl)
          rw [this] at q
          cases q.2
        rw [wrt_ok hok (fun t ht => (q1 t ht).1)]
        rfl
      | false =>
        obtain ⟨q3, q4⟩ := q2 rfl
        have hok : okP B tr n := by rw [hB]; exact q4
        rw [wrt_ok hok (fun t ht => (q1 t ht).1)]
        show some x = _
        rw [q3]
        rfl
    · subst q2
      rw [wrt_bad (show ¬ okP B tr n by rw [hB]; exact q3)]
      rfl
  · rw [q1]
    rfl
/-- the best, as the reference has it -/
def rB (n : Nat) (b : pB) (m : am_m) : Prop := match b with
  | none => m.1 10 0 46 = 100000000
  | some q => m.1 10 0 46 = nI q.1 ∧ q.1 < 100000000 ∧ ∀ i, i < n → m.1 58 0 i = nI (q.2 i)
theorem rB.v {b : pB} (h : rB n b m) : ∃ V, V ≤ 100000000 ∧ m.1 10 0 46 = nI V ∧ ∀ v, v < 100000000 → upB b (some v) tr = if v < V then some (v, tr) else b := by
  cases b with
  | none => exact ⟨100000000, Nat.le_refl _, h, fun w hw => (if_pos hw).symm⟩
  | some q => exact ⟨q.1, Nat.le_of_lt h.2.1, h.1, fun w _ => rfl⟩
theorem rfar_ok {V : Nat} {x1 x2 : Int32} (hV : V ≤ 100000000) (h : m.1 10 0 46 = nI V) : lp_X10_findParts_111 1000000 x1 x2 100000000 0 m = some m := by
  show lp_X10_findParts_111 (999999 + 1) x1 x2 100000000 0 m = some m
  rw [lp_X10_findParts_111.eq_2, h, if_pos (show nI V ≤ (100000000 : Int32) from nI_le (b := 100000000) hV (by decide))]
  by_cases c : x2 ≤ 0
  · rw [if_pos c]
  · rw [if_neg c]
/-- the copying of a row that is better -/
theorem rcopy_ok {b : pB} {w : Option Nat} {x1 : Int32} (h : rB n b m) (hn : n ≤ 7) (ht : tri n tr m) (hw : ∀ v, w = some v → v < 100000000) : ∃ q, lp_X10_findParts_111 1000000 x1 (nI n) (wI w) 0 m = some q ∧ rB n (upB b w tr) (am_si q 10 0 46 (if (q.1 10 0 46) ≤ wI w then (q.1 10 0 46) else wI w)) ∧ am_kp [(10, 46), (58, 0)] [] 0 m q := by
  obtain ⟨V, hV, eV, up⟩ := rB.v (tr := tr) h
  have stay : ∀ x : Int32, nI V ≤ x → rB n b (am_si m 10 0 46 (if (m.1 10 0 46) ≤ x then (m.1 10 0 46) else x)) := fun x hx => by
    rw [eV, if_pos hx, am_si_same eV]; exact h
  cases w with
  | none => exact ⟨m, rfar_ok hV eV, stay _ (nI_le (b := 100000000) hV (by decide)), am_kp.rf⟩
  | some v =>
    have hv := hw v rfl
    rw [up v hv]
    by_cases c : v < V
    · rw [if_pos c]
      have key : ∃ q, lp_X10_findParts_111 1000000 x1 (nI n) (nI v) 0 m = some q ∧ ((∀ i, i < n → q.1 58 0 i = nI (tr i)) ∧ q.1 10 0 46 = nI V ∧ am_kp [(10, 46), (58, 0)] [] 0 m q) := by
        refine lp_up0 (fun N x a => lp_X10_findParts_111 N x1 (nI n) (nI v) x a) (fun i q => (∀ j, j < i → q.1 58 0 j = nI (tr j)) ∧ q.1 10 0 46 = nI V ∧ am_kp [(10, 46), (58, 0)] [] 0 m q) _ n (by omega) (fun N q hh => ⟨q, ?_, hh⟩) (fun N i q hi hh => Or.inl ?_) m ⟨fun j hj => absurd hj (Nat.not_lt_zero _), eV, am_kp.rf⟩
        · show lp_X10_findParts_111 (N + 1) x1 (nI n) (nI v) (nI n) q = _
          rw [lp_X10_findParts_111.eq_2, if_pos (nI_le (Nat.le_refl _) (by omega))]
        · obtain ⟨h1, h2, h3⟩ := hh
          refine ⟨am_si q 58 0 i (nI (tr i)), ?_, fun j hj => ?_, h2, am_kp.si h3 rfl⟩
          · show lp_X10_findParts_111 (N + 1) x1 (nI n) (nI v) (nI i) q = lp_X10_findParts_111 N x1 (nI n) (nI v) (nI (i + 1)) _
            rw [lp_X10_findParts_111.eq_2, if_neg (nI_ge hi (by omega)), h2, if_neg (nI_ge c (by omega)), ck_in (by omega) (by decide), ck_in (by omega) (by decide), nI_clamp (by omega), h3.row 57 rfl, ht i hi, nI_1]
          · rw [rd_j]
            by_cases e : j = i
            · rw [if_pos e, e]
            · rw [if_neg e]; exact h1 j (by omega)
      obtain ⟨q, e1, e2, e3, e4⟩ := key
      refine ⟨q, e1, ?_, e4⟩
      rw [e3, if_neg (show ¬ nI V ≤ wI (some v) from nI_ge c (by omega))]
      exact ⟨rfl, hv, e2⟩
    · rw [if_neg c]
      refine ⟨m, ?_, stay _ (nI_le (by omega) (by omega)), am_kp.rf⟩
      show lp_X10_findParts_111 (999999 + 1) x1 (nI n) (nI v) 0 m = some m
      rw [lp_X10_findParts_111.eq_2, eV, if_pos (nI_le (show V ≤ v by omega) (by omega))]
      by_cases c : nI n ≤ 0
      · rw [if_pos c]
      · rw [if_neg c]
theorem sA_k : ∀ k, (∀ i, i < k → tr i ≤ i) → sA tr k ≤ k
  | 0, _ => Nat.le_refl _
  | k + 1, h => by
    have h1 := sA_k k (fun i hi => h i (by omega))
    have h2 := h k (by omega)
    rw [sA]
    by_cases c : tr k < sA tr k
    · rw [if_pos c]; omega
    · rw [if_neg c]; omega
theorem wrt_lt (hn : n ≤ 7) (hc : c ≤ 7) {v : Nat} (h : wrt md M B n c tr = some v) : v < 100000000 := by
  unfold wrt at h
  by_cases z : (∀ t, t < c → 2 ≤ pc (stS tr t n)) ∧ (∀ b, b < n → ∀ a, a < b → ¬ (tr a = tr b ∧ B a b = true))
  · rw [if_pos z] at h
    have := cnH_le (M := M) (tr := tr) n hn
    cases md with
    | true => rw [if_pos rfl] at h; cases h; omega
    | false => rw [if_neg (by decide)] at h; cases h; omega
  · rw [if_neg z] at h; cases h
theorem rlev (hn : n ≤ 7) (hcm : ∀ a b, M a b = M b a) (hB : B = if md then (fun a b => !M a b) else A) : ∀ (d k : Nat) (tr : Nat → Nat) (b : pB) (m : am_m) (N : Nat), k + d = n → laid n M A m → m.1 44 0 0 = nI n → tri k tr m → (∀ i, i < k → tr i ≤ i) → m.1 57 0 k = -1 → rB n b m → ∃ m', lp_X10_findParts_32 (N + stN d (sA tr k)) (bv md) (nI k) m = lp_X10_findParts_32 N (bv md) (nI k - 1) m' ∧ tri k tr m' ∧ rB n (if d = 0 then b else pdf (wrt md M B n) d k (sA tr k) tr b) m' ∧ am_kp [(10, 46), (57, 0), (58, 0)] [] 0 m m'
  | 0, k, tr, b, m, N, hk, hl, h0, ht, hr, h57, hb => by
    have : k = n := by omega
    subst this
    refine ⟨am_si m 57 0 k ((m.1 57 0 k) + 1), ?_, ht.of (fun i hi => by rw [rd_j, if_neg (by omega)]), ?_, am_kp.si am_kp.rf rfl⟩
    · show lp_X10_findParts_32 (N + 1) (bv md) (nI k) m = _
      rw [lp_X10_findParts_32.eq_2, if_neg (nI_pos (by omega)), ck_in (by omega) (by decide), ck_in (by omega) (by decide), if_pos h0.symm, nI_clamp (by omega)]
    · rw [if_pos rfl]
      cases b with
      | none => exact hb
      | some q => exact hb
  | d + 1, k, tr, b, m, N, hk, hl, h0, ht, hr, h57, hb => by
    have ck := sA_k k hr
    have hr7 : ∀ i, i < k → tr i ≤ 7 := fun i hi => by have := hr i hi; omega
    generalize hg : (fun s b => pdf (wrt md M B n) d (k + 1) (if s < sA tr k then sA tr k else s + 1) (upd1 tr k s) b) = g
    have inner : ∀ j, j ≤ sA tr k + 1 → ∀ X, ∃ m', lp_X10_findParts_32 (X + fb_sm (fun s => 1 + stN d (if s < sA tr k then sA tr k else s + 1)) j) (bv md) (nI k) m = lp_X10_findParts_32 X (bv md) (nI k) m' ∧ tri k tr m' ∧ m'.1 57 0 k = nI j - 1 ∧ rB n (fdN g j b) m' ∧ am_kp [(10, 46), (57, 0), (58, 0)] [] 0 m m' := by
      intro j
      induction j with
      | zero => intro _ X; exact ⟨m, rfl, ht, h57, hb, am_kp.rf⟩
      | succ j ih =>
        intro hj X
        obtain ⟨mj, e1, t1, z1, b1, k1⟩ := ih (by omega) (X + (1 + stN d (if j < sA tr k then sA tr k else j + 1)))
        rw [fb_sm_succ, show X + (fb_sm (fun s => 1 + stN d (if s < sA tr k then sA tr k else s + 1)) j + (1 + stN d (if j < sA tr k then sA tr k else j + 1))) = X + (1 + stN d (if j < sA tr k then sA tr k else j + 1)) + fb_sm (fun s => 1 + stN d (if s < sA tr k then sA tr k else s + 1)) j by omega, e1]
        have g0 : mj.1 44 0 0 = nI n := by rw [k1.row 44 rfl]; exact h0
        have lj : laid n M A mj := hl.of (k1.row 92 rfl) (k1.row 93 rfl)
        have eA : sA (upd1 tr k j) (k + 1) = if j < sA tr k then sA tr k else j + 1 := sA_upd
        have hr' : ∀ i, i < k + 1 → upd1 tr k j i ≤ i := fun i hi => by
          by_cases e : i = k
          · rw [e, upd1_eq]; omega
          · rw [upd1_ne e]; exact hr i (by omega)
        have t2 : tri (k + 1) (upd1 tr k j) (am_si (am_si mj 57 0 k (nI j)) 57 0 (k + 1) (-1)) := fun i hi => by
          rw [rd_j, if_neg (by omega), rd_j]
          by_cases e : i = k
          · rw [if_pos e, e, upd1_eq]
          · rw [if_neg e, upd1_ne e]; exact t1 i (by omega)
        have k2 : am_kp [(10, 46), (57, 0), (58, 0)] [] 0 m (am_si (am_si mj 57 0 k (nI j)) 57 0 (k + 1) (-1)) := am_kp.si (am_kp.si k1 rfl) rfl
        have b2 : rB n (fdN g j b) (am_si (am_si mj 57 0 k (nI j)) 57 0 (k + 1) (-1)) := by
          cases hz : fdN g j b with
          | none => rw [hz] at b1; exact b1
          | some q => rw [hz] at b1; exact b1
        have hA : fn_X10_setsAhead (nI k) (am_si mj 57 0 k (nI j)) = some (nI (sA tr k)) := ahead1_ok (t1.of (fun i hi => by rw [rd_j, if_neg (by omega)])) (by omega) hr7
        -- one step: down to the next level
        have down : ∃ m3, lp_X10_findParts_32 (X + stN d (if j < sA tr k then sA tr k else j + 1) + 1) (bv md) (nI k) mj = lp_X10_findParts_32 (X + stN d (if j < sA tr k then sA tr k else j + 1)) (bv md) (nI (k + 1)) m3 ∧ tri (k + 1) (upd1 tr k j) m3 ∧ m3.1 57 0 (k + 1) = -1 ∧ rB n (if d = 0 then pdf (wrt md M B n) 0 (k + 1) (sA (upd1 tr k j) (k + 1)) (upd1 tr k j) (fdN g j b) else fdN g j b) m3 ∧ am_kp [(10, 46), (57, 0), (58, 0)] [] 0 m m3 := by
          rw [lp_X10_findParts_32.eq_2, if_neg (nI_pos (by omega)), ck_in (by omega) (by decide), ck_in (by omega) (by decide), g0, if_neg (nI_ne (by omega) (by omega) (by omega)), ck_in (by omega) (by decide), nI_clamp (by omega), z1, Int32.sub_add_cancel, hA, bd_s, rd_j, if_pos rfl, if_pos (nI_le (by omega) (by omega)), nI_1, ck_in (by omega) (by decide), nI_clamp (by omega)]
          by_cases e : k + 1 = n
          · have hd : d = 0 := by omega
            rw [if_neg (fun z => z (by rw [e]))]
            have hwo := worth_ok (m := am_si (am_si mj 57 0 k (nI j)) 57 0 (k + 1) (-1)) (md := md) (B := B) (tr := upd1 tr k j) (lj.of rfl rfl) hn g0 (by rw [← e]; exact t2) (fun i hi => by have := hr' i (by omega); omega) hcm hB
            rw [hwo, bd_s, bd_s, if_pos hd]
            have cA := sA_k (k + 1) hr'
            rw [e] at cA
            obtain ⟨q, c1, c2, c3⟩ := rcopy_ok (x1 := bv md) (w := wrt md M B n (sA (upd1 tr k j) n) (upd1 tr k j)) b2 hn (by rw [← e]; exact t2) (fun v hv => wrt_lt hn (by omega) hv)
            rw [show nI (k + 1) = nI n by rw [e], c1, bd_s]
            refine ⟨_, rfl, ?_, ?_, ?_, am_kp.si (k2.tr (am_kp.mono c3 rfl)) rfl⟩
            · exact t2.of (fun i hi => by show q.1 57 0 i = _; rw [c3.row 57 rfl])
            · show q.1 57 0 (k + 1) = _
              rw [c3.row 57 rfl, rd_j, if_pos rfl]
            · rw [e, pdf]; exact c2
          · have hd : d ≠ 0 := by omega
            rw [if_pos (nI_ne (by omega) (by omega) e), bd_s, if_neg hd]
            obtain ⟨V, v1, v2, v3⟩ := rB.v (tr := tr) b2
            rw [rfar_ok v1 v2, bd_s, v2, if_pos (show nI V ≤ (100000000 : Int32) from nI_le (b := 100000000) v1 (by decide)), am_si_same v2]
            exact ⟨_, rfl, t2, by rw [rd_j, if_pos rfl], b2, k2⟩
        obtain ⟨m3, d1, d2, d3, d4, d5⟩ := down
        obtain ⟨m4, f1, f2, f3, f4⟩ := rlev hn hcm hB d (k + 1) (upd1 tr k j) _ m3 X (by omega) (hl.of (d5.row 92 rfl) (d5.row 93 rfl)) (by rw [d5.row 44 rfl]; exact h0) d2 hr' d3 d4
        rw [eA] at f1 f3 d4
        refine ⟨m4, ?_, fun i hi => by rw [f2 i (by omega), upd1_ne (by omega)], ?_, ?_, d5.tr f4⟩
        · rw [show X + (1 + stN d (if j < sA tr k then sA tr k else j + 1)) = X + stN d (if j < sA tr k then sA tr k else j + 1) + 1 by omega, d1, f1, nI_pred]
        · rw [f2 k (by omega), upd1_eq, nI_pred]
        · rw [fdN, ← hg]
          rw [← hg] at f3
          by_cases hd : d = 0
          · subst hd
            rw [if_pos rfl, if_pos rfl] at f3
            exact f3
          · rw [if_neg hd, if_neg hd] at f3
            exact f3
    obtain ⟨mc, e1, t1, z1, b1, k1⟩ := inner (sA tr k + 1) (Nat.le_refl _) (N + 1)
    have g0 : mc.1 44 0 0 = nI n := by rw [k1.row 44 rfl]; exact h0
    refine ⟨am_si mc 57 0 k (nI (sA tr k + 1)), ?_, t1.of (fun i hi => by rw [rd_j, if_neg (by omega)]), ?_, am_kp.si k1 rfl⟩
    · rw [stN, show N + (fb_sm (fun s => 1 + stN d (if s < sA tr k then sA tr k else s + 1)) (sA tr k + 1) + 1) = N + 1 + fb_sm (fun s => 1 + stN d (if s < sA tr k then sA tr k else s + 1)) (sA tr k + 1) by omega, e1]
      have hA : fn_X10_setsAhead (nI k) (am_si mc 57 0 k (nI (sA tr k + 1))) = some (nI (sA tr k)) := ahead1_ok (t1.of (fun i hi => by rw [rd_j, if_neg (by omega)])) (by omega) hr7
      rw [lp_X10_findParts_32.eq_2, if_neg (nI_pos (by omega)), ck_in (by omega) (by decide), ck_in (by omega) (by decide), g0, if_neg (nI_ne (by omega) (by omega) (by omega)), ck_in (by omega) (by decide), nI_clamp (by omega), z1, Int32.sub_add_cancel, hA, bd_s, rd_j, if_pos rfl, if_neg (nI_ge (by omega) (by omega))]
    · rw [if_neg (by omega), pdf, hg]
      cases hz : fdN g (sA tr k + 1) b with
      | none => rw [hz] at b1; exact b1
      | some q => rw [hz] at b1; exact b1
theorem rfind_ok (hn : n ≤ 7) (hcm : ∀ a b, M a b = M b a) (hB : B = if md then (fun a b => !M a b) else A) (hl : laid n M A m) (h0 : m.1 44 0 0 = nI n) (tr : Nat → Nat) : ∃ m', fn_X10_findParts (bv md) m = some m' ∧ rB n (pdf (wrt md M B n) n 0 0 tr none) m' := by
  unfold fn_X10_findParts
  rw [h0]
  by_cases e : n = 0
  · subst e
    rw [if_neg (show ¬ nI 0 ≠ 0 by decide), bd_s]
    show ∃ m', ((lp_X10_findParts_32 (999999 + 1) (bv md) (-1) _).bind _) = some m' ∧ _
    rw [lp_X10_findParts_32.eq_2, if_pos (by decide), bd_s]
    refine ⟨_, rfl, ?_⟩
    have hw : wrt md M B 0 0 tr = some 0 := by
      rw [wrt_ok (fun b hb => absurd hb (Nat.not_lt_zero _)) (fun t ht => absurd ht (Nat.not_lt_zero _))]
      cases md <;> rfl
    rw [pdf, hw]
    exact ⟨rfl, by omega, fun i hi => absurd hi (Nat.not_lt_zero _)⟩
  · rw [if_pos (nI_ne0 (by omega) (by omega)), bd_s]
    have hst := stN_le n (by omega)
    obtain ⟨m', e1, e2, e3, e4⟩ := rlev (md := md) hn hcm hB n 0 tr none (am_si (am_si m 10 0 46 100000000) 57 0 0 (-1)) (1000000 - stN n 0) (by omega) (hl.of rfl rfl) h0 (fun i hi => absurd hi (Nat.not_lt_zero _)) (fun i hi => absurd hi (Nat.not_lt_zero _)) rfl rfl
    rw [if_neg e] at e3
    have e1 : lp_X10_findParts_32 (1000000 - stN n 0 + stN n 0) (bv md) (nI 0) (am_si (am_si m 10 0 46 100000000) 57 0 0 (-1)) = lp_X10_findParts_32 (1000000 - stN n 0) (bv md) (nI 0 - 1) m' := e1
    rw [show 1000000 - stN n 0 + stN n 0 = 1000000 by omega] at e1
    show ∃ m', ((lp_X10_findParts_32 1000000 (bv md) (nI 0) (am_si (am_si m 10 0 46 100000000) 57 0 0 (-1))).bind _) = some m' ∧ _
    rw [e1]
    obtain ⟨X, hX⟩ : ∃ X, 1000000 - stN n 0 = X + 1 := ⟨1000000 - stN n 0 - 1, by omega⟩
    rw [hX, lp_X10_findParts_32.eq_2, if_pos (by decide), bd_s]
    exact ⟨m', rfl, e3⟩
end RP
