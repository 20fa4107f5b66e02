/-! the fewest tables by which the hungry are fed, by the reference -/
section RFF
variable {m : am_m} {R : Nat → Nat} {n h : Nat} {T : Nat → Bool}
/-- a number: 100000000 if it isn't known -/
def fwM (N : Nat) (F : Nat → Nat) (m : am_m) : Prop := ∀ K, K < N → m.1 60 0 K = nI (F K)
def fwG (T : Nat → Bool) (N : Nat) (F : Nat → Nat) : Prop := ∀ K, K < N → F K ≤ 100000000 ∧ (F K < 100000000 → un T N (F K) K)
theorem un_lt {N : Nat} (hN : N = 2 ^ n) : ∀ j K, un T N j K → K < N
  | 0, K, hu => by rw [show K = 0 from hu, hN]; exact pw_pos n
  | j + 1, K, hu => by
    obtain ⟨K', t, h1, h2, h3, h4⟩ := hu
    have := un_lt hN j K' h1
    rw [h4, hN]
    exact Nat.or_lt_two_pow (by rw [← hN]; exact this) (by rw [← hN]; exact h2)
/-- all that is known of K when the sets below k were gone through -/
theorem un_step {N j K : Nat} (hu : lst1 (fun j => un T N j K) (j + 1)) : ∃ K' t, K' < K ∧ t < N ∧ T t = true ∧ K = K' ||| t ∧ lst1 (fun j => un T N j K') j := by
  obtain ⟨⟨K', t, h1, h2, h3, h4⟩, hm⟩ := hu
  have le : K' ≤ K := by rw [h4]; exact Nat.left_le_or
  refine ⟨K', t, ?_, h2, h3, h4, h1, fun i hi hz => ?_⟩
  · by_cases e : K' = K
    · rw [e] at h1; exact absurd h1 (hm j (Nat.lt_succ_self _))
    · omega
  · exact hm (i + 1) (by omega) ⟨K', t, hz, h2, h3, h4⟩
theorem rfw_in {k : Nat} {x2 : Int32} {F : Nat → Nat} (hr : refR n R m) (hn : n ≤ 7) (hk : k < 2 ^ n) (hF : fwM (2 ^ n) F m) (hG : fwG (tb R n) (2 ^ n) F) : ∃ m', lp_X10_fedBy_112 1000000 x2 (nI k) 0 m = some m' ∧ ∃ F', refR n R m' ∧ fwM (2 ^ n) F' m' ∧ fwG (tb R n) (2 ^ n) F' ∧ (∀ K, K ≤ k → F' K = F K) ∧ (∀ K, K < 2 ^ n → F' K ≤ F K) ∧ ∀ t, t < 2 ^ n → tb R n t = true → F k < 100000000 → F' (k ||| t) ≤ F k + 1 := by
  have h128 := pw_le hn
  refine lp_up0 (fun N x a => lp_X10_fedBy_112 N x2 (nI k) x a) (fun i m1 => ∃ F', refR n R m1 ∧ fwM (2 ^ n) F' m1 ∧ fwG (tb R n) (2 ^ n) F' ∧ (∀ K, K ≤ k → F' K = F K) ∧ (∀ K, K < 2 ^ n → F' K ≤ F K) ∧ ∀ t, t < i → tb R n t = true → F k < 100000000 → F' (k ||| t) ≤ F k + 1) _ (2 ^ n) (by omega) (fun N m1 hh => ?_) (fun N i m1 hi hh => ?_) m ⟨F, hr, hF, hG, fun _ _ => rfl, fun _ _ => Nat.le_refl _, fun t ht => absurd ht (Nat.not_lt_zero _)⟩
  · obtain ⟨F', r1, f1, g1, a1, b1, c1⟩ := hh
    refine ⟨m1, ?_, F', r1, f1, g1, a1, b1, c1⟩
    show lp_X10_fedBy_112 (N + 1) x2 (nI k) (nI (2 ^ n)) m1 = _
    rw [lp_X10_fedBy_112.eq_2, all_ok r1.1 hn, bd_s, if_pos (nI_lt (by omega) (by omega))]
  · obtain ⟨F', r1, f1, g1, a1, b1, c1⟩ := hh
    have gk := g1 k hk
    have ek : m1.1 60 0 k = nI (F' k) := f1 k hk
    have ol : k ||| i < 2 ^ n := Nat.or_lt_two_pow hk hi
    have le : k ≤ k ||| i := Nat.left_le_or
    show (∃ a', lp_X10_fedBy_112 (N + 1) x2 (nI k) (nI i) m1 = lp_X10_fedBy_112 N x2 (nI k) (nI (i + 1)) a' ∧ _) ∨ ∃ b, lp_X10_fedBy_112 (N + 1) x2 (nI k) (nI i) m1 = some b ∧ _
    rw [lp_X10_fedBy_112.eq_2, all_ok r1.1 hn, bd_s, if_neg (nI_nlt (by omega) (by omega)), ck_in (by omega) (by decide), nI_clamp (by omega), ek, nI_1, nI_1]
    by_cases cF : F' k < 100000000
    · rw [if_neg (show ¬ (100000000 : Int32) ≤ nI (F' k) from nI_ge (b := 100000000) cF (by decide)), rtable_ok r1 hn (by omega), bd_s]
      have fk : F' k = F k := a1 k (Nat.le_refl _)
      cases ht : tb R n i with
      | false =>
        rw [if_pos (show bv false = 0 from rfl), bd_s]
        refine Or.inl ⟨m1, rfl, F', r1, f1, g1, a1, b1, fun t h1 h2 => ?_⟩
        by_cases e : t = i
        · rw [e, ht] at h2; cases h2
        · exact c1 t (by omega) h2
      | true =>
        have go := g1 (k ||| i) ol
        rw [if_neg (show ¬ bv true = 0 by decide), ck_in (by omega) (by decide), fa_or, ck_in (by omega) (by decide), nI_clamp (by omega), f1 _ ol, ck_in (by omega) (by decide), ck_in (by omega) (by decide)]
        by_cases c : F' (k ||| i) ≤ F' k + 1
        · rw [if_pos (nI_le c (by omega)), bd_s, ck_in (by omega) (by decide), bd_s, am_si_same (f1 _ ol)]
          refine Or.inl ⟨m1, rfl, F', r1, f1, g1, a1, b1, fun t h1 h2 h3 => ?_⟩
          by_cases e : t = i
          · rw [e, ← fk]; exact c
          · exact c1 t (by omega) h2 h3
        · have hne : k ||| i ≠ k := fun z => by rw [z] at c; omega
          rw [if_neg (nI_ge (by omega) (by omega)), bd_s, ck_in (by omega) (by decide), bd_s]
          refine Or.inl ⟨_, rfl, fun K => if K = k ||| i then F' k + 1 else F' K, r1.si (by decide), fun K hK => ?_, fun K hK => ?_, fun K hK => ?_, fun K hK => ?_, fun t h1 h2 h3 => ?_⟩
          · rw [rd_j]
            dsimp only
            by_cases e : K = k ||| i
            · rw [if_pos e, if_pos e]
            · rw [if_neg e, if_neg e]; exact f1 K hK
          · dsimp only
            by_cases e : K = k ||| i
            · rw [if_pos e]
              exact ⟨by omega, fun _ => ⟨k, i, gk.2 cF, hi, ht, e⟩⟩
            · rw [if_neg e]; exact g1 K hK
          · dsimp only
            rw [if_neg (by omega)]; exact a1 K hK
          · dsimp only
            by_cases e : K = k ||| i
            · rw [if_pos e, e]
              have := b1 _ ol
              omega
            · rw [if_neg e]; exact b1 K hK
          · dsimp only
            by_cases e : k ||| t = k ||| i
            · rw [if_pos e]; omega
            · rw [if_neg e]
              by_cases e2 : t = i
              · rw [e2] at e; exact absurd rfl e
              · exact c1 t (by omega) h2 h3
    · rw [if_pos (show (100000000 : Int32) ≤ nI (F' k) from nI_le (a := 100000000) (by omega) (by omega))]
      refine Or.inr ⟨m1, rfl, F', r1, f1, g1, a1, b1, fun t _ _ h3 => ?_⟩
      rw [a1 k (Nat.le_refl _)] at cF
      exact absurd h3 cF
/-- the reference's numbers are the least -/
theorem rfw_ok {x2 : Int32} (hr : refR n R m) (hn : n ≤ 7) : ∃ m', ((lp_X10_fedBy_68 1000000 x2 0 m).bind fun q16 => lp_X10_fedBy_101 1000000 x2 0 q16) = some m' ∧ refR n R m' ∧ ∃ F, fwM (2 ^ n) F m' ∧ fwG (tb R n) (2 ^ n) F ∧ ∀ K, K < 2 ^ n → ∀ j, lst1 (fun j => un (tb R n) (2 ^ n) j K) j → F K ≤ j := by
  have h128 := pw_le hn
  have hp := pw_pos n
  have s1 : ∃ m1, lp_X10_fedBy_68 1000000 x2 0 m = some m1 ∧ (refR n R m1 ∧ fwM (2 ^ n) (fun K => if K = 0 then 0 else 100000000) m1) := by
    refine lp_up0 (fun N x a => lp_X10_fedBy_68 N x2 x a) (fun i m1 => refR n R m1 ∧ fwM i (fun K => if K = 0 then 0 else 100000000) m1) _ (2 ^ n) (by omega) (fun N m1 hh => ⟨m1, ?_, hh⟩) (fun N i m1 hi hh => Or.inl ⟨am_si m1 60 0 i (nI (if i = 0 then 0 else 100000000)), ?_, hh.1.si (by decide), fun K hK => ?_⟩) m ⟨hr, fun K hK => absurd hK (Nat.not_lt_zero _)⟩
    · show lp_X10_fedBy_68 (N + 1) x2 (nI (2 ^ n)) m1 = _
      rw [lp_X10_fedBy_68.eq_2, all_ok hh.1.1 hn, bd_s, if_pos (nI_lt (by omega) (by omega))]
    · show lp_X10_fedBy_68 (N + 1) x2 (nI i) m1 = lp_X10_fedBy_68 N x2 (nI (i + 1)) _
      rw [lp_X10_fedBy_68.eq_2, all_ok hh.1.1 hn, bd_s, if_neg (nI_nlt (by omega) (by omega)), ck_in (by omega) (by decide), nI_clamp (by omega), nI_1]
      by_cases e : i = 0
      · subst e
        rfl
      · rw [if_pos (show nI i ≠ 0 from nI_ne0 (by omega) (by omega)), if_neg e]
        rfl
    · rw [rd_j]
      by_cases e : K = i
      · rw [if_pos e, e]
      · rw [if_neg e]; exact hh.2 K (by omega)
  obtain ⟨m1, e1, r1, f1⟩ := s1
  have s2 : ∃ m2, lp_X10_fedBy_101 1000000 x2 0 m1 = some m2 ∧ (refR n R m2 ∧ ∃ F, fwM (2 ^ n) F m2 ∧ fwG (tb R n) (2 ^ n) F ∧ ∀ K, K < 2 ^ n → ∀ j, lst1 (fun j => un (tb R n) (2 ^ n) j K) j → F K ≤ j) := by
    refine lp_up0 (fun N x a => lp_X10_fedBy_101 N x2 x a) (fun k m2 => refR n R m2 ∧ ∃ F, fwM (2 ^ n) F m2 ∧ fwG (tb R n) (2 ^ n) F ∧ (∀ K, K < 2 ^ n → K ≤ k → ∀ j, lst1 (fun j => un (tb R n) (2 ^ n) j K) j → F K ≤ j) ∧ ∀ k', k' < k → ∀ t, t < 2 ^ n → tb R n t = true → F k' < 100000000 → F (k' ||| t) ≤ F k' + 1) _ (2 ^ n) (by omega) (fun N m2 hh => ?_) (fun N k m2 hk hh => Or.inl ?_) m1 ⟨r1, fun K => if K = 0 then 0 else 100000000, f1, fun K hK => ?_, fun K hK h0 j hj => ?_, fun k' hk' => absurd hk' (Nat.not_lt_zero _)⟩
    · obtain ⟨r2, F, f2, g2, a2, b2⟩ := hh
      refine ⟨m2, ?_, r2, F, f2, g2, fun K hK j hj => a2 K hK (by omega) j hj⟩
      show lp_X10_fedBy_101 (N + 1) x2 (nI (2 ^ n)) m2 = _
      rw [lp_X10_fedBy_101.eq_2, all_ok r2.1 hn, bd_s, if_pos (nI_lt (by omega) (by omega))]
    · obtain ⟨r2, F, f2, g2, a2, b2⟩ := hh
      obtain ⟨m3, e3, F', r3, f3, g3, a3, b3, c3⟩ := rfw_in (x2 := x2) r2 hn hk f2 g2
      have stp : ∀ k', k' < k + 1 → ∀ t, t < 2 ^ n → tb R n t = true → F' k' < 100000000 → F' (k' ||| t) ≤ F' k' + 1 := fun k' hk' t h1 h2 h3 => by
        have e := a3 k' (by omega)
        rw [e] at h3 ⊢
        by_cases ek : k' = k
        · rw [ek] at h3 ⊢; exact c3 t h1 h2 h3
        · have := b2 k' (by omega) t h1 h2 h3
          have := b3 (k' ||| t) (Nat.or_lt_two_pow (by omega) h1)
          omega
      refine ⟨m3, ?_, r3, F', f3, g3, fun K hK hle j hj => ?_, stp⟩
      · show lp_X10_fedBy_101 (N + 1) x2 (nI k) m2 = lp_X10_fedBy_101 N x2 (nI (k + 1)) m3
        rw [lp_X10_fedBy_101.eq_2, all_ok r2.1 hn, bd_s, if_neg (nI_nlt (by omega) (by omega)), e3, bd_s, nI_1]
      · by_cases hK2 : K ≤ k
        · rw [a3 K hK2]; exact a2 K hK hK2 j hj
        · cases j with
          | zero =>
            have : K = 0 := hj.1
            omega
          | succ j =>
            obtain ⟨K', t, h1, h2, h3, h4, h5⟩ := un_step hj
            have q1 := a2 K' (by omega) (by omega) j h5
            have q2 : F' K' ≤ j := by rw [a3 K' (by omega)]; exact q1
            by_cases big : F' K' < 100000000
            · have := stp K' (by omega) t h2 h3 big
              rw [← h4] at this
              omega
            · have := (g3 K hK).1
              omega
    · dsimp only
      by_cases e : K = 0
      · rw [if_pos e, e]; exact ⟨by omega, fun _ => rfl⟩
      · rw [if_neg e]; exact ⟨Nat.le_refl _, fun z => absurd z (Nat.lt_irrefl _)⟩
    · dsimp only
      have : K = 0 := by omega
      rw [if_pos this]; exact Nat.zero_le _
  obtain ⟨m2, e2, r2, q2⟩ := s2
  exact ⟨m2, by rw [e1, bd_s, e2], r2, q2⟩
theorem need_ok {f : Nat} {r : Nat → Int32} (hf : f ≤ 10) (hW : iv_W 999 r) (hr : m.1 44 0 = r) : lp_X10_fedBy_27 1000000 (nI f) 0 0 m = some (nI (fbl r f)) := by
  have h7 := hW.n7
  have h0 := hW.r0
  refine lp_eq (fun N x a => lp_X10_fedBy_27 N (nI f) a x m) (fun i => nI (sx (fun p => decide (nv (r (7 + p)) < f)) i)) _ (nv (r 0)) (by omega) (fun N => ?_) (fun N i hi => ?_) 0 (by omega)
  · show lp_X10_fedBy_27 (N + 1) (nI f) _ (nI (nv (r 0))) m = _
    rw [lp_X10_fedBy_27.eq_2, hr, if_pos (by rw [h0, nv_nI (nv_lt _)]; exact nI_le (Nat.le_refl _) (nv_lt _))]
    rfl
  · show lp_X10_fedBy_27 (N + 1) (nI f) _ (nI i) m = lp_X10_fedBy_27 N (nI f) _ (nI (i + 1)) m
    have h9 := hW.2.2.2.2.2.2.2.2.1 i (by omega)
    rw [lp_X10_fedBy_27.eq_2, hr, if_neg (by rw [h0]; exact nI_ge hi (by omega)), show (7 : Int32) = nI 7 from rfl, nI_add, ck_in (by omega) (by decide), nI_clamp (by omega), hW.k (k := 7 + i) (by omega) (by omega), nI_1, ← sx_step (fun p => decide (nv (r (7 + p)) < f)) (by omega)]
    by_cases e : nv (r (7 + i)) < f
    · rw [if_neg (nI_ge e (by omega)), decide_eq_true e, if_pos rfl]
    · rw [if_pos (nI_le (by omega) (by omega)), decide_eq_false e, if_neg (by decide)]
/-- the least of all that feed them -/
theorem rleast_ok {F : Nat → Nat} (hr : refR n R m) (hn : n ≤ 7) (hh : h < 128) (hF : fwM (2 ^ n) F m) (hG : fwG (tb R n) (2 ^ n) F) (hL : ∀ K, K < 2 ^ n → ∀ j, lst1 (fun j => un (tb R n) (2 ^ n) j K) j → F K ≤ j) : ∃ v, lp_X10_fedBy_210 1000000 (nI h) 100000000 0 m = some (nI v) ∧ v ≤ 100000000 ∧ (v < 100000000 → lst1 (fun j => ∃ K, un (tb R n) (2 ^ n) j K ∧ sd h K = 0) v) ∧ (v = 100000000 → ∀ j, j < 100000000 → ¬ ∃ K, un (tb R n) (2 ^ n) j K ∧ sd h K = 0) := by
  have h128 := pw_le hn
  have hp := pw_pos n
  have key : ∃ x, lp_X10_fedBy_210 1000000 (nI h) 100000000 0 m = some x ∧ ∃ v, x = nI v ∧ v ≤ 100000000 ∧ (v < 100000000 → ∃ K, K < 2 ^ n ∧ sd h K = 0 ∧ F K = v) ∧ ∀ K, K < 2 ^ n → sd h K = 0 → v ≤ F K := by
    refine lp_up0 (fun N x a => lp_X10_fedBy_210 N (nI h) a x m) (fun i a => ∃ v, a = nI v ∧ v ≤ 100000000 ∧ (v < 100000000 → ∃ K, K < 2 ^ n ∧ sd h K = 0 ∧ F K = v) ∧ ∀ K, K < i → sd h K = 0 → v ≤ F K) _ (2 ^ n) (by omega) (fun N a hh => ?_) (fun N i a hi hq => Or.inl ?_) 100000000 ⟨100000000, rfl, Nat.le_refl _, fun z => absurd z (Nat.lt_irrefl _), fun K hK => absurd hK (Nat.not_lt_zero _)⟩
    · refine ⟨a, ?_, hh⟩
      show lp_X10_fedBy_210 (N + 1) (nI h) a (nI (2 ^ n)) m = _
      rw [lp_X10_fedBy_210.eq_2, all_ok hr.1 hn, bd_s, if_pos (nI_lt (by omega) (by omega))]
    · obtain ⟨v, v1, v2, v3, v4⟩ := hq
      have sl := sd_le h i
      have gi := (hG i hi).1
      show ∃ a', lp_X10_fedBy_210 (N + 1) (nI h) a (nI i) m = lp_X10_fedBy_210 N (nI h) a' (nI (i + 1)) m ∧ _
      rw [lp_X10_fedBy_210.eq_2, all_ok hr.1 hn, bd_s, if_neg (nI_nlt (by omega) (by omega)), sd_I, nI_1, v1, ck_in (by omega) (by decide), nI_clamp (by omega), hF i hi, ck_in (by omega) (by decide)]
      by_cases c : sd h i = 0
      · rw [c, if_neg (show ¬ nI 0 ≠ 0 by decide)]
        by_cases c2 : v ≤ F i
        · rw [if_pos (nI_le c2 (by omega)), bd_s]
          refine ⟨_, rfl, v, rfl, v2, v3, fun K hK hs => ?_⟩
          by_cases e : K = i
          · rw [e]; exact c2
          · exact v4 K (by omega) hs
        · rw [if_neg (nI_ge (by omega) (by omega)), bd_s]
          refine ⟨_, rfl, F i, rfl, gi, fun _ => ⟨i, hi, c, rfl⟩, fun K hK hs => ?_⟩
          by_cases e : K = i
          · rw [e]; exact Nat.le_refl _
          · have := v4 K (by omega) hs; omega
      · rw [if_pos (show nI (sd h i) ≠ 0 from nI_ne0 (by omega) (by omega)), bd_s]
        refine ⟨_, rfl, v, rfl, v2, v3, fun K hK hs => ?_⟩
        by_cases e : K = i
        · rw [e] at hs; exact absurd hs c
        · exact v4 K (by omega) hs
  obtain ⟨x, e1, v, rfl, v2, v3, v4⟩ := key
  have low : ∀ j K, un (tb R n) (2 ^ n) j K → sd h K = 0 → v ≤ j := fun j K hu hs => by
    have hK := un_lt rfl j K hu
    obtain ⟨i, i1, i2⟩ := lst1_ex (P := fun j => un (tb R n) (2 ^ n) j K) j hu
    have := hL K hK i i2
    have := v4 K hK hs
    omega
  refine ⟨v, e1, v2, fun hv => ⟨?_, fun j hj => ?_⟩, fun hv j hj => ?_⟩
  · obtain ⟨K, k1, k2, k3⟩ := v3 hv
    refine ⟨K, ?_, k2⟩
    have := (hG K k1).2 (by omega)
    rw [k3] at this
    exact this
  · rintro ⟨K, q1, q2⟩
    have := low j K q1 q2
    omega
  · rintro ⟨K, q1, q2⟩
    have := low j K q1 q2
    omega
theorem sub_and {h K : Nat} (hh : h < 128) : sd h K = 0 ↔ K &&& h = h := by
  rw [sub_bits hh]
  constructor
  · intro z
    refine Nat.eq_of_testBit_eq (fun k => ?_)
    rw [Nat.testBit_and]
    cases hk : h.testBit k with
    | false => rw [Bool.and_false]
    | true => rw [z k hk]; rfl
  · intro z k hk
    have : (K &&& h).testBit k = true := by rw [z]; exact hk
    rw [Nat.testBit_and, Bool.and_eq_true] at this
    exact this.1
end RFF
theorem op_fedBy {m : am_m} (h : Inv m) (a : Int32) : op_ok m (fun m => fn_X9_fedBy a m) (fun m => fn_X10_fedBy a m) := by
  obtain ⟨n, R, lw, m1, en, eR, gd, e44, e8, e1, c1, j1, f1, ref⟩ := both_ok h
  have hn := gd.1
  have h128 := pw_le hn
  have hW := h.w
  have hlook := fun (r : Int32) => op_look (f := fun m => fn_X9_fedBy a m) (g := fun m => fn_X10_fedBy a m) h (fun t => kp_X9_fedBy a m t) (fun m1 t => kp_X10_fedBy a m1 t) rfl rfl rfl r
  have hin : ∀ m' : am_m, fn_X10_in a.toInt64 0 10 m' = some (if 0 ≤ a ∧ a ≤ 10 then 1 else 0) := fun m' => by
    rw [show (0 : Int64) = (0 : Int32).toInt64 from rfl, show (10 : Int64) = (10 : Int32).toInt64 from rfl, in_32]
  by_cases H : 0 ≤ a ∧ a ≤ 10
  · obtain ⟨f, hf, rfl⟩ := nI_of (an_nn H.1)
    have hf10 : f ≤ 10 := (nI_leI (b := 10) hf (by decide)).mp H.2
    have hs : fbl (m.1 44 0) f < 128 := sx_small _ hW.n7
    generalize ehn : fbl (m.1 44 0) f = hun at hs
    obtain ⟨v, m2, e2, l2⟩ := cfeeding_ok (h := hun) c1 hn hs
    have cls : fn_X9_fedBy (nI f) m = some (v, m2) := by
      unfold fn_X9_fedBy
      rw [if_neg (nI_pos hf), if_pos H.2, e1, bd_s, cfedBelow_ok hf10 j1.2.1 hW, bd_s, ehn, e2, bd_s]
    refine hlook v ⟨m2, cls⟩ (fun m1' i1 f1' => ?_)
    obtain ⟨m3, e3, r3, l3, f3⟩ := ref m1' i1 f1'
    obtain ⟨m4, e4, r4, F, g1, g2, g3⟩ := rfw_ok (x2 := nI hun) r3 hn
    obtain ⟨w, e5, w1, w2, w3⟩ := rleast_ok (h := hun) r4 hn hs g1 g2 g3
    refine ⟨m4, ?_⟩
    show fn_X10_fedBy (nI f) m1' = _
    unfold fn_X10_fedBy
    rw [hin, if_pos H, bd_s, if_pos (by decide), e3, bd_s, need_ok hf10 hW (by rw [f3]), bd_s, ehn]
    cases h68 : lp_X10_fedBy_68 1000000 (nI hun) 0 m3 with
    | none => rw [h68] at e4; cases e4
    | some m5 =>
      rw [h68, bd_s] at e4
      rw [bd_s, e4, bd_s, e5, bd_s]
      -- both are the least
      have toU : ∀ j, cu (tb R n) hun (2 ^ n) j hun → ∃ K, un (tb R n) (2 ^ n) j K ∧ sd hun K = 0 := fun j hj => by
        obtain ⟨K, k1, k2⟩ := cu_un (N := 2 ^ n) (2 ^ n) j hun (Nat.le_refl _) hj
        exact ⟨K, k1, (sub_and hs).mpr k2⟩
      have toC : ∀ j, (∃ K, un (tb R n) (2 ^ n) j K ∧ sd hun K = 0) → ∃ j', j' ≤ j ∧ cu (tb R n) hun (2 ^ n) j' hun := fun j ⟨K, k1, k2⟩ => by
        obtain ⟨j', q1, q2⟩ := un_cu (h := hun) j K k1
        rw [(sub_and hs).mp k2] at q2
        exact ⟨j', q1, q2⟩
      rcases l2 with ⟨q1, q2⟩ | ⟨j, j0, q1, q2, q3⟩
      · have : w = 100000000 := by
          by_cases c : w < 100000000
          · obtain ⟨j', _, z⟩ := toC w (w2 c).1
            exact absurd z (q2 j')
          · omega
        rw [this, if_neg (show ¬ nI 100000000 ≠ (100000000 : Int32) from fun z => z rfl), q1]
      · have hw : w < 100000000 := by
          by_cases c : w < 100000000
          · exact c
          · exact absurd (toU j q2) (w3 (by omega) j (by omega))
        have : w = j := by
          obtain ⟨j', z1, z2⟩ := toC w (w2 hw).1
          have z3 : j ≤ j' := by
            by_cases c : j ≤ j'
            · exact c
            · exact absurd z2 (q3 j' (by omega))
          have z4 : w ≤ j := by
            by_cases c : w ≤ j
            · exact c
            · exact absurd (toU j q2) ((w2 hw).2 j (by omega))
          omega
        rw [this, if_pos (show nI j ≠ (100000000 : Int32) from nI_ne (b := 100000000) (by omega) (by decide) (by omega)), q1]
  · refine hlook (-1) ⟨m, ?_⟩ (fun m1' i1 f1' => ⟨am_si m1' 10 0 0 0, ?_⟩)
    · show fn_X9_fedBy a m = _
      unfold fn_X9_fedBy
      by_cases a0 : a < 0
      · rw [if_pos a0]
      · rw [if_neg a0, if_neg (fun z => H ⟨fa_of_nlt a0, z⟩)]
    · show fn_X10_fedBy a m1' = _
      unfold fn_X10_fedBy
      rw [hin, if_neg H, bd_s, if_neg (by decide)]
