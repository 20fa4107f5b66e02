/-! chains -/
section RC
variable {m : am_m} {R : Nat → Nat} {M A : Nat → Nat → Bool} {n t p : Nat}
/-- the reference's numbers on the way: never less than how far one is -/
def frG (R : Nat → Nat) (n t : Nat) (F : Nat → Nat) : Prop := ∀ p, p < n → F p ≤ 100000000 ∧ dsN R n t p ≤ F p ∧ (dsN R n t p = 8 → F p = 100000000)
def frM (n : Nat) (F : Nat → Nat) (m : am_m) : Prop := ∀ p, p < n → m.1 59 0 p = nI (F p)
def upF (F : Nat → Nat) (p v : Nat) : Nat → Nat := fun q => if q = p then v else F q
theorem rrow_ok {k p : Nat} {x2 : Int32} {F : Nat → Nat} (hl : laid n M A m) (hn : n ≤ 7) (h0 : m.1 44 0 0 = nI n) (ht : t < n) (hp : p < n) (hG : frG (rowOf n M) n t F) (hF : frM n F m) (hk : ∀ q, q < n → dsN (rowOf n M) n t q ≤ k → dsN (rowOf n M) n t q ≠ 8 → F q = dsN (rowOf n M) n t q) :
    ∃ m', lp_X10_layFar_59 1000000 x2 (nI p) 0 m = some m' ∧ ∃ v, v ≤ F p ∧ frG (rowOf n M) n t (upF F p v) ∧ frM n (upF F p v) m' ∧ (dsN (rowOf n M) n t p ≤ k + 1 → dsN (rowOf n M) n t p ≠ 8 → v = dsN (rowOf n M) n t p) ∧ am_kp [(59, 0)] [] 0 m m' := by
  have key : ∃ m', lp_X10_layFar_59 1000000 x2 (nI p) 0 m = some m' ∧ ∃ v, v ≤ F p ∧ frG (rowOf n M) n t (upF F p v) ∧ frM n (upF F p v) m' ∧ (∀ o, o < n → M p o = true → dsN (rowOf n M) n t o ≤ k → dsN (rowOf n M) n t o ≠ 8 → v ≤ dsN (rowOf n M) n t o + 1) ∧ am_kp [(59, 0)] [] 0 m m' := by
    refine lp_up0 (fun N x a => lp_X10_layFar_59 N x2 (nI p) x a) (fun i m1 => ∃ v, v ≤ F p ∧ frG (rowOf n M) n t (upF F p v) ∧ frM n (upF F p v) m1 ∧ (∀ o, o < i → M p o = true → dsN (rowOf n M) n t o ≤ k → dsN (rowOf n M) n t o ≠ 8 → v ≤ dsN (rowOf n M) n t o + 1) ∧ am_kp [(59, 0)] [] 0 m m1) _ n (by omega) (fun N m1 hh => ?_) (fun N i m1 hi hh => Or.inl ?_) m ⟨F p, Nat.le_refl _, ?_, ?_, fun o ho => absurd ho (Nat.not_lt_zero _), am_kp.rf⟩
    · obtain ⟨v, v1, v2, v3, v4, v5⟩ := hh
      refine ⟨m1, ?_, v, v1, v2, v3, v4, v5⟩
      show lp_X10_layFar_59 (N + 1) x2 (nI p) (nI n) m1 = _
      rw [lp_X10_layFar_59.eq_2, v5.row 44 rfl, h0, if_pos (nI_le (Nat.le_refl _) (by omega))]
    · obtain ⟨v, v1, v2, v3, v4, v5⟩ := hh
      have g0 : m1.1 44 0 0 = nI n := by rw [v5.row 44 rfl]; exact h0
      have g92 : m1.1 92 0 (7 * p + i) = bv (M p i) := by rw [v5.row 92 rfl]; exact (hl p i hp hi).1
      have gp : m1.1 59 0 p = nI v := by rw [v3 p hp]; unfold upF; rw [if_pos rfl]
      have gi : m1.1 59 0 i = nI (upF F p v i) := v3 i hi
      have Gp := v2 p hp
      have Gi := v2 i hi
      have ev : upF F p v p = v := if_pos rfl
      rw [ev] at Gp
      have hbit : (rowOf n M p).testBit i = M p i := by unfold rowOf; rw [sx_bit, decide_eq_true hi]; rfl
      have upn : ∀ w, upF (upF F p v) p w = upF F p w := fun w => by
        funext q
        unfold upF
        by_cases e : q = p
        · rw [if_pos e, if_pos e]
        · rw [if_neg e, if_neg e, if_neg e]
      show ∃ a', lp_X10_layFar_59 (N + 1) x2 (nI p) (nI i) m1 = lp_X10_layFar_59 N x2 (nI p) (nI (i + 1)) a' ∧ _
      rw [lp_X10_layFar_59.eq_2, g0, if_neg (nI_ge hi (by omega)), i7, ck_in (by omega) (by decide), nI_clamp (by omega), g92, nI_1, ck_in (show p < 7 by omega) (by decide), nI_clamp (show p < 2 ^ 31 by omega), gp]
      have keep : (M p i = true → dsN (rowOf n M) n t i ≤ k → dsN (rowOf n M) n t i ≠ 8 → v ≤ dsN (rowOf n M) n t i + 1) → ∃ v', v' ≤ F p ∧ frG (rowOf n M) n t (upF F p v') ∧ frM n (upF F p v') (am_si m1 59 0 p (nI v)) ∧ (∀ o, o < i + 1 → M p o = true → dsN (rowOf n M) n t o ≤ k → dsN (rowOf n M) n t o ≠ 8 → v' ≤ dsN (rowOf n M) n t o + 1) ∧ am_kp [(59, 0)] [] 0 m (am_si m1 59 0 p (nI v)) := fun z => by
        refine ⟨v, v1, v2, ?_, fun o ho h1 h2 h3 => ?_, am_kp.si v5 rfl⟩
        · rw [am_si_same gp]; exact v3
        · by_cases e : o = i
          · rw [e] at h1 h2 h3 ⊢; exact z h1 h2 h3
          · exact v4 o (by omega) h1 h2 h3
      cases hM : M p i with
      | false =>
        rw [if_pos (show bv false = 0 from rfl), bd_s, ck_in (by omega) (by decide)]
        exact ⟨_, rfl, keep (fun z => by rw [hM] at z; cases z)⟩
      | true =>
        rw [hM] at hbit
        rw [if_neg (show ¬ bv true = 0 by decide), ck_in (show i < 7 by omega) (by decide), nI_clamp (show i < 2 ^ 31 by omega), gi, nI_1, ck_in (show i < 7 by omega) (by decide)]
        by_cases hc : v ≤ upF F p v i + 1
        · rw [if_pos (nI_le hc (by omega)), ck_in (show p < 7 by omega) (by decide), bd_s, ck_in (by omega) (by decide)]
          refine ⟨_, rfl, keep (fun _ h2 h3 => ?_)⟩
          by_cases e : i = p
          · have := hk p hp (by rw [← e]; exact h2) (by rw [← e]; exact h3)
            rw [e]
            omega
          · have : upF F p v i = F i := if_neg e
            rw [this, hk i hi h2 h3] at hc
            exact hc
        · rw [if_neg (nI_ge (by omega) (by omega)), ck_in (show p < 7 by omega) (by decide), bd_s, ck_in (by omega) (by decide)]
          have hne : i ≠ p := fun e => by rw [e, ev] at hc; omega
          have ei : upF F p v i = F i := if_neg hne
          have hi8 : dsN (rowOf n M) n t i ≠ 8 := fun z => by have := Gi.2.2 z; omega
          have he := dsN_edge (R := rowOf n M) hn ht hi hbit hi8
          refine ⟨_, rfl, upF F p v i + 1, by omega, ?_, ?_, fun o ho h1 h2 h3 => ?_, am_kp.si v5 rfl⟩
          · intro q hq
            unfold upF
            by_cases e : q = p
            · rw [if_pos e, e]
              have d7 : dsN (rowOf n M) n t i < n := by
                rcases dsN_n (R := rowOf n M) hn ht hi with z | z
                · exact absurd z hi8
                · exact z
              have Gi2 := Gi.2.1
              unfold upF at Gi2 hc
              exact ⟨by omega, by omega, fun z => by omega⟩
            · rw [if_neg e]
              have := v2 q hq
              unfold upF at this
              rw [if_neg e] at this
              exact this
          · intro q hq
            rw [rd_j]
            by_cases e : q = p
            · rw [if_pos e]
              show _ = nI (if q = p then _ else _)
              rw [if_pos e]
            · rw [if_neg e, v3 q hq]
              show nI (if q = p then _ else _) = nI (if q = p then _ else _)
              rw [if_neg e, if_neg e]
          · by_cases e : o = i
            · rw [e] at h2 h3 ⊢
              rw [ei, hk i hi h2 h3]
              exact Nat.le_refl _
            · have := v4 o (by omega) h1 h2 h3
              omega
    · have : upF F p (F p) = F := by
        funext q
        unfold upF
        by_cases e : q = p
        · rw [if_pos e, e]
        · rw [if_neg e]
      rw [this]; exact hG
    · have : upF F p (F p) = F := by
        funext q
        unfold upF
        by_cases e : q = p
        · rw [if_pos e, e]
        · rw [if_neg e]
      rw [this]; exact hF
  obtain ⟨m', e, v, v1, v2, v3, v4, v5⟩ := key
  refine ⟨m', e, v, v1, v2, v3, fun h1 h2 => ?_, v5⟩
  have Gp := v2 p hp
  have ev : upF F p v p = v := if_pos rfl
  rw [ev] at Gp
  by_cases h3 : dsN (rowOf n M) n t p ≤ k
  · have := hk p hp h3 h2
    omega
  · have h8 := dsN_8 (R := rowOf n M) (n := n) (t := t) (p := p)
    obtain ⟨d, hd⟩ : ∃ d, dsN (rowOf n M) n t p = d + 1 := ⟨dsN (rowOf n M) n t p - 1, by omega⟩
    obtain ⟨q, q1, q2, q3⟩ := dsN_prev hd (by omega)
    have hb : M p q = true := by
      unfold rowOf at q2
      rw [sx_bit, decide_eq_true q1, Bool.true_and] at q2
      exact q2
    have := v4 q q1 hb (by omega) (by omega)
    omega
theorem rround_ok {k : Nat} {F : Nat → Nat} (hl : laid n M A m) (hn : n ≤ 7) (h0 : m.1 44 0 0 = nI n) (ht : t < n) (hG : frG (rowOf n M) n t F) (hF : frM n F m) (hk : ∀ q, q < n → dsN (rowOf n M) n t q ≤ k → dsN (rowOf n M) n t q ≠ 8 → F q = dsN (rowOf n M) n t q) :
    ∃ m', lp_X10_layFar_46 1000000 (nI k) 0 m = some m' ∧ ∃ F', frG (rowOf n M) n t F' ∧ frM n F' m' ∧ (∀ q, q < n → dsN (rowOf n M) n t q ≤ k + 1 → dsN (rowOf n M) n t q ≠ 8 → F' q = dsN (rowOf n M) n t q) ∧ am_kp [(59, 0)] [] 0 m m' := by
  refine lp_up0 (fun N x a => lp_X10_layFar_46 N (nI k) x a) (fun i m1 => ∃ F', frG (rowOf n M) n t F' ∧ frM n F' m1 ∧ (∀ q, q < n → dsN (rowOf n M) n t q ≤ k → dsN (rowOf n M) n t q ≠ 8 → F' q = dsN (rowOf n M) n t q) ∧ (∀ q, q < i → dsN (rowOf n M) n t q ≤ k + 1 → dsN (rowOf n M) n t q ≠ 8 → F' q = dsN (rowOf n M) n t q) ∧ am_kp [(59, 0)] [] 0 m m1) _ n (by omega) (fun N m1 hh => ?_) (fun N i m1 hi hh => Or.inl ?_) m ⟨F, hG, hF, hk, fun q hq => absurd hq (Nat.not_lt_zero _), am_kp.rf⟩
  · obtain ⟨F', f1, f2, f3, f4, f5⟩ := hh
    refine ⟨m1, ?_, F', f1, f2, f4, f5⟩
    show lp_X10_layFar_46 (N + 1) (nI k) (nI n) m1 = _
    rw [lp_X10_layFar_46.eq_2, f5.row 44 rfl, h0, if_pos (nI_le (Nat.le_refl _) (by omega))]
  · obtain ⟨F', f1, f2, f3, f4, f5⟩ := hh
    have g0 : m1.1 44 0 0 = nI n := by rw [f5.row 44 rfl]; exact h0
    obtain ⟨m2, e2, v, v1, v2, v3, v4, v5⟩ := rrow_ok (x2 := nI k) (hl.of (f5.row 92 rfl) (f5.row 93 rfl)) hn g0 ht hi f1 f2 f3
    have Gi := v2 i hi
    have ev : upF F' i v i = v := if_pos rfl
    rw [ev] at Gi
    refine ⟨m2, ?_, upF F' i v, v2, v3, fun q hq h1 h2 => ?_, fun q hq h1 h2 => ?_, f5.tr v5⟩
    · show lp_X10_layFar_46 (N + 1) (nI k) (nI i) m1 = lp_X10_layFar_46 N (nI k) (nI (i + 1)) m2
      rw [lp_X10_layFar_46.eq_2, g0, if_neg (nI_ge hi (by omega)), e2, bd_s, nI_1]
    · by_cases e : q = i
      · rw [e] at h1 h2 ⊢; rw [ev]; exact v4 (by omega) h2
      · show (if q = i then v else F' q) = _
        rw [if_neg e]; exact f3 q hq h1 h2
    · by_cases e : q = i
      · rw [e] at h1 h2 ⊢; rw [ev]; exact v4 h1 h2
      · show (if q = i then v else F' q) = _
        rw [if_neg e]; exact f4 q (by omega) h1 h2
theorem layFar_ok (hl : laid n M A m) (hn : n ≤ 7) (h0 : m.1 44 0 0 = nI n) (ht : t < n) : ∃ m', fn_X10_layFar (nI t) m = some m' ∧ (∀ q, q < n → m'.1 59 0 q = drI (dsN (rowOf n M) n t q)) ∧ am_kp [(59, 0)] [] 0 m m' := by
  have s1 : ∃ m1, lp_X10_layFar_2 1000000 (nI t) 0 m = some m1 ∧ ((∀ q, q < n → m1.1 59 0 q = nI (if q = t then 0 else 100000000)) ∧ am_kp [(59, 0)] [] 0 m m1) := by
    refine lp_up0 (fun N x a => lp_X10_layFar_2 N (nI t) x a) (fun i m1 => (∀ q, q < i → m1.1 59 0 q = nI (if q = t then 0 else 100000000)) ∧ am_kp [(59, 0)] [] 0 m m1) _ n (by omega) (fun N m1 hh => ⟨m1, ?_, hh⟩) (fun N i m1 hi hh => Or.inl ⟨am_si m1 59 0 i (nI (if i = t then 0 else 100000000)), ?_, fun q hq => ?_, am_kp.si hh.2 rfl⟩) m ⟨fun q hq => absurd hq (Nat.not_lt_zero _), am_kp.rf⟩
    · show lp_X10_layFar_2 (N + 1) (nI t) (nI n) m1 = _
      rw [lp_X10_layFar_2.eq_2, hh.2.row 44 rfl, h0, if_pos (nI_le (Nat.le_refl _) (by omega))]
    · show lp_X10_layFar_2 (N + 1) (nI t) (nI i) m1 = lp_X10_layFar_2 N (nI t) (nI (i + 1)) _
      rw [lp_X10_layFar_2.eq_2, hh.2.row 44 rfl, h0, if_neg (nI_ge hi (by omega)), ck_in (by omega) (by decide), nI_clamp (by omega), nI_1]
      by_cases e : i = t
      · rw [if_pos e, if_neg (fun z => z (by rw [e]))]
        rfl
      · rw [if_neg e, if_pos (nI_ne (by omega) (by omega) e)]
        rfl
    · rw [rd_j]
      by_cases e : q = i
      · rw [if_pos e, e]
      · rw [if_neg e]; exact hh.1 q (by omega)
  obtain ⟨m1, e1, z1, k1⟩ := s1
  have s2 : ∃ m2, lp_X10_layFar_38 1000000 0 m1 = some m2 ∧ ∃ F', frG (rowOf n M) n t F' ∧ frM n F' m2 ∧ (∀ q, q < n → dsN (rowOf n M) n t q ≤ 7 → dsN (rowOf n M) n t q ≠ 8 → F' q = dsN (rowOf n M) n t q) ∧ am_kp [(59, 0)] [] 0 m m2 := by
    refine lp_up0 (fun N x a => lp_X10_layFar_38 N x a) (fun i m2 => ∃ F', frG (rowOf n M) n t F' ∧ frM n F' m2 ∧ (∀ q, q < n → dsN (rowOf n M) n t q ≤ i → dsN (rowOf n M) n t q ≠ 8 → F' q = dsN (rowOf n M) n t q) ∧ am_kp [(59, 0)] [] 0 m m2) _ 7 (by decide) (fun N m2 hh => ?_) (fun N i m2 hi hh => Or.inl ?_) m1 ⟨fun q => if q = t then 0 else 100000000, fun q hq => ?_, z1, fun q hq h1 h2 => ?_, k1⟩
    · refine ⟨m2, ?_, hh⟩
      show lp_X10_layFar_38 (N + 1) (nI 7) m2 = _
      rw [lp_X10_layFar_38.eq_2, if_pos (by decide)]
    · obtain ⟨F', f1, f2, f3, f4⟩ := hh
      obtain ⟨m3, e3, F3, g1, g2, g3, g4⟩ := rround_ok (hl.of (f4.row 92 rfl) (f4.row 93 rfl)) hn (by rw [f4.row 44 rfl]; exact h0) ht f1 f2 f3
      refine ⟨m3, ?_, F3, g1, g2, g3, f4.tr g4⟩
      show lp_X10_layFar_38 (N + 1) (nI i) m2 = lp_X10_layFar_38 N (nI (i + 1)) m3
      rw [lp_X10_layFar_38.eq_2, if_neg (show ¬ (7 : Int32) ≤ nI i from nI_ge (b := 7) hi (by decide)), e3, bd_s, nI_1]
    · dsimp only
      have h8 := dsN_8 (R := rowOf n M) (n := n) (t := t) (p := q)
      by_cases e : q = t
      · rw [if_pos e, e, dsN_t]
        exact ⟨by omega, Nat.le_refl _, fun z => by omega⟩
      · rw [if_neg e]
        exact ⟨Nat.le_refl _, by omega, fun _ => rfl⟩
    · have e : q = t := dsN_0 (Nat.le_zero.mp h1)
      dsimp only
      rw [if_pos e, e, dsN_t]
  obtain ⟨m2, e2, F', f1, f2, f3, f4⟩ := s2
  refine ⟨m2, ?_, fun q hq => ?_, f4⟩
  · unfold fn_X10_layFar
    rw [e1, bd_s, e2, bd_s]
  · rw [f2 q hq]
    unfold drI
    by_cases h : dsN (rowOf n M) n t q = 8
    · rw [if_pos h, (f1 q hq).2.2 h]
      rfl
    · have h8 := dsN_8 (R := rowOf n M) (n := n) (t := t) (p := q)
      rw [if_neg h, f3 q hq (by omega) h]
end RC
/-- the next one on the way -/
def nxF (R : Nat → Nat) (n t p q : Nat) : Bool := (R p).testBit q && decide (dsN R n t q + 1 = dsN R n t p)
def nxT (R : Nat → Nat) (n t p : Nat) : Nat := fst1 (nxF R n t p) n 0
def chN (R : Nat → Nat) (n t a : Nat) : Nat → Nat
  | 0 => a
  | k + 1 => nxT R n t (chN R n t a k)
section CH
variable {m : am_m} {R : Nat → Nat} {M A : Nat → Nat → Bool} {n t p a : Nat}
theorem nxT_ok (hn : n ≤ 7) {d : Nat} (h : dsN R n t p = d + 1) (hd : d < 7) : nxT R n t p < n ∧ nxF R n t p (nxT R n t p) = true ∧ dsN R n t (nxT R n t p) = d := by
  obtain ⟨q, q1, q2, q3⟩ := dsN_prev h hd
  have hf : nxF R n t p q = true := by
    unfold nxF
    rw [q2, Bool.true_and, decide_eq_true_iff]
    omega
  have h1 := fst1_lt hf q1
  have h1 : nxT R n t p ≤ q := h1
  have h2 := fst1_yes (nxF R n t p) n 0 (by show nxT R n t p < _; omega)
  have h2 : nxF R n t p (nxT R n t p) = true := h2
  refine ⟨by omega, h2, ?_⟩
  unfold nxF at h2
  rw [Bool.and_eq_true, decide_eq_true_iff] at h2
  omega
theorem chN_ok (hn : n ≤ 7) (ha : a < n) (h8 : dsN R n t a < n) : ∀ k, k ≤ dsN R n t a → chN R n t a k < n ∧ dsN R n t (chN R n t a k) = dsN R n t a - k
  | 0, _ => ⟨ha, rfl⟩
  | k + 1, hk => by
    obtain ⟨h1, h2⟩ := chN_ok hn ha h8 k (by omega)
    have := nxT_ok (R := R) (n := n) (t := t) (p := chN R n t a k) hn (d := dsN R n t a - (k + 1)) (by omega) (by omega)
    exact ⟨this.1, this.2.2⟩
theorem nearer_ok {d : Nat} (h : clsR n R m) (gd : gdR n R) (hp : p < n) (hs : ∀ q, q < n → m.1 32 0 q = dcI (dsN R n t q)) (hd : dsN R n t p = d + 1) (hd7 : d < 7) : fn_X6_nearer (nI p) m = some (nI (nxT R n t p)) := by
  have hn := gd.1
  obtain ⟨x1, x2, x3⟩ := nxT_ok (R := R) (n := n) (t := t) (p := p) hn hd hd7
  have key : ∃ b, lp_X6_nearer_2 1000000 (nI p) 0 m = some b ∧ b = .inr (nI (nxT R n t p)) := by
    refine lp_up0 (fun N x (_ : Unit) => lp_X6_nearer_2 N (nI p) x m) (fun i _ => i ≤ nxT R n t p) _ n (by omega) (fun N u hh => absurd hh (by omega)) (fun N i u hi hh => ?_) () (Nat.zero_le _)
    show (∃ a', lp_X6_nearer_2 (N + 1) (nI p) (nI i) m = lp_X6_nearer_2 N (nI p) (nI (i + 1)) m ∧ _) ∨ ∃ b, lp_X6_nearer_2 (N + 1) (nI p) (nI i) m = some b ∧ _
    have e8 : dsN R n t i ≤ 8 := dsN_8
    rw [lp_X6_nearer_2.eq_2, h.1, if_neg (nI_ge hi (by omega)), ck_in (by omega) (by decide), nI_clamp (by omega), h.2 p hp, nI_1]
    have hsp : m.1 32 0 p - 1 = nI d := by
      rw [hs p hp, hd]
      unfold dcI
      rw [if_neg (by omega), nI_pred]
    by_cases e : i = nxT R n t p
    · rw [← e] at x2 x3
      unfold nxF at x2
      rw [Bool.and_eq_true] at x2
      rw [if_neg (fun z => by rw [(isN (gd.lt hp) (by omega)).mp z] at x2; exact absurd x2.1 (by decide)), ck_in (by omega) (by decide), ck_in (by omega) (by decide), nI_clamp (by omega), hsp, if_neg (fun z => z (by rw [hs i hi]; exact (dcI_eq e8 (by omega)).mpr x3))]
      exact Or.inr ⟨_, rfl, by rw [e]⟩
    · have no := fst1_no (nxF R n t p) n 0 i (Nat.zero_le _) (by show i < nxT R n t p; omega)
      refine Or.inl ⟨(), ?_, by omega⟩
      cases hb : (R p).testBit i with
      | false => rw [if_pos ((isN (gd.lt hp) (by omega)).mpr hb)]
      | true =>
        unfold nxF at no
        rw [hb, Bool.true_and, decide_eq_false_iff_not] at no
        rw [if_neg (fun z => by rw [(isN (gd.lt hp) (by omega)).mp z] at hb; cases hb), ck_in (by omega) (by decide), ck_in (by omega) (by decide), nI_clamp (by omega), hsp, if_pos (fun z => by rw [hs i hi] at z; have := (dcI_eq e8 (by omega)).mp z; omega)]
  obtain ⟨b, e, hb⟩ := key
  unfold fn_X6_nearer
  rw [e, bd_s, hb]
theorem cstepOf_ok {i : Nat} (h : clsR n R m) (gd : gdR n R) (ht : t < n) (ha : a < n) (hs : ∀ q, q < n → m.1 32 0 q = dcI (dsN R n t q)) (h8 : dsN R n t a < n) (hi : i < dsN R n t a) : fn_X6_stepOf (nI a) (nI t) (nI i) m = some (nI (chN R n t a (i + 1))) := by
  have hn := gd.1
  unfold fn_X6_stepOf
  rw [show lp_X6_stepOf_6 1000000 (nI t) (nI i) (nI a) 0 m = some (nI (chN R n t a (i + 1))) from lp_eq (fun N x b => lp_X6_stepOf_6 N (nI t) (nI i) b x m) (fun k => nI (chN R n t a k)) _ (i + 1) (by omega) (fun N => ?_) (fun N k hk => ?_) 0 (by omega)]
  · rfl
  · show lp_X6_stepOf_6 (N + 1) (nI t) (nI i) _ (nI (i + 1)) m = _
    rw [lp_X6_stepOf_6.eq_2, if_pos (nI_lt (by omega) (by omega))]
  · show lp_X6_stepOf_6 (N + 1) (nI t) (nI i) (nI (chN R n t a k)) (nI k) m = lp_X6_stepOf_6 N (nI t) (nI i) _ (nI (k + 1)) m
    obtain ⟨c1, c2⟩ := chN_ok (R := R) (t := t) hn ha h8 k (by omega)
    have hne : chN R n t a k ≠ t := fun z => by rw [z, dsN_t] at c2; omega
    have nr := nearer_ok (t := t) h gd c1 hs (d := dsN R n t a - (k + 1)) (by omega) (by omega)
    have th : fn_X6_isThere (nI (chN R n t a k)) m = some 1 := by
      unfold fn_X6_isThere
      rw [h.1, if_neg (nI_pos (by omega)), if_neg (nI_ge c1 (by omega))]
    rw [lp_X6_stepOf_6.eq_2, if_neg (nI_nlt (by omega) (by omega)), th, bd_s, if_neg (by decide), if_neg (nI_ne (by omega) (by omega) hne), nr, bd_s, bd_s, nI_1]
    rfl
theorem drI_sub {d : Nat} (h : d + 1 ≤ 7) : drI (d + 1) - 1 = nI d := by
  unfold drI
  rw [if_neg (by omega), nI_pred]
theorem drI_eq {d k : Nat} (hd : d ≤ 8) (hk : k ≤ 7) : drI d = nI k ↔ d = k := by
  unfold drI
  by_cases h : d = 8
  · rw [if_pos h, show (100000000 : Int32) = nI 100000000 from rfl]
    exact ⟨fun z => by have := (nI_eq (a := 100000000) (by decide) (by omega)).mp z; omega, fun z => by omega⟩
  · rw [if_neg h]; exact nI_eq (by omega) (by omega)
theorem rnext_ok {d : Nat} {x3 x5 : Int32} (hl : laid n M A m) (hn : n ≤ 7) (hp : p < n) (hs : ∀ q, q < n → m.1 59 0 q = drI (dsN (rowOf n M) n t q)) (hd : dsN (rowOf n M) n t p = d + 1) (hd7 : d < 7) : lp_X10_chain_104 1000000 x3 (nI p) x5 0 m = some (nI (nxT (rowOf n M) n t p)) := by
  obtain ⟨x1, x2, x4⟩ := nxT_ok (R := rowOf n M) (n := n) (t := t) (p := p) hn hd hd7
  have key : ∃ b, lp_X10_chain_104 1000000 x3 (nI p) x5 0 m = some b ∧ b = nI (nxT (rowOf n M) n t p) := by
    refine lp_up0 (fun N x (_ : Unit) => lp_X10_chain_104 N x3 (nI p) x5 x m) (fun i _ => i ≤ nxT (rowOf n M) n t p) _ n (by omega) (fun N u hh => absurd hh (by omega)) (fun N i u hi hh => ?_) () (Nat.zero_le _)
    show (∃ a', lp_X10_chain_104 (N + 1) x3 (nI p) x5 (nI i) m = lp_X10_chain_104 N x3 (nI p) x5 (nI (i + 1)) m ∧ _) ∨ ∃ b, lp_X10_chain_104 (N + 1) x3 (nI p) x5 (nI i) m = some b ∧ _
    have e8 : dsN (rowOf n M) n t i ≤ 8 := dsN_8
    have hbit : (rowOf n M p).testBit i = M p i := by unfold rowOf; rw [sx_bit, decide_eq_true hi]; rfl
    rw [lp_X10_chain_104.eq_2, i7, ck_in (by omega) (by decide), nI_clamp (by omega), (hl p i hp hi).1, nI_1, ck_in (show i < 7 by omega) (by decide), ck_in (show p < 7 by omega) (by decide), nI_clamp (show i < 2 ^ 31 by omega), nI_clamp (show p < 2 ^ 31 by omega), hs p hp, hs i hi, hd, drI_sub (by omega)]
    by_cases e : i = nxT (rowOf n M) n t p
    · rw [← e] at x2 x4
      unfold nxF at x2
      rw [Bool.and_eq_true, hbit] at x2
      rw [x2.1, if_neg (show ¬ bv true = 0 by decide), if_pos ((drI_eq e8 (by omega)).mpr x4)]
      exact Or.inr ⟨_, rfl, by rw [e]⟩
    · have no := fst1_no (nxF (rowOf n M) n t p) n 0 i (Nat.zero_le _) (by show i < nxT (rowOf n M) n t p; omega)
      refine Or.inl ⟨(), ?_, by omega⟩
      cases hb : M p i with
      | false => rw [if_pos (show bv false = 0 from rfl)]
      | true =>
        unfold nxF at no
        rw [hbit, hb, Bool.true_and, decide_eq_false_iff_not] at no
        rw [if_neg (show ¬ bv true = 0 by decide), if_neg (fun z => by have := (drI_eq e8 (by omega)).mp z; omega)]
  obtain ⟨b, e, rfl⟩ := key
  exact e
theorem rstep_ok {i : Nat} (hl : laid n M A m) (hn : n ≤ 7) (ha : a < n) (hs : ∀ q, q < n → m.1 59 0 q = drI (dsN (rowOf n M) n t q)) (h8 : dsN (rowOf n M) n t a < n) (hi : i < dsN (rowOf n M) n t a) : lp_X10_chain_95 1000000 (nI i) (nI a) 0 m = some (nI (chN (rowOf n M) n t a (i + 1))) := by
  refine lp_eq (fun N x b => lp_X10_chain_95 N (nI i) b x m) (fun k => nI (chN (rowOf n M) n t a k)) _ (i + 1) (by omega) (fun N => ?_) (fun N k hk => ?_) 0 (by omega)
  · show lp_X10_chain_95 (N + 1) (nI i) _ (nI (i + 1)) m = _
    rw [lp_X10_chain_95.eq_2, if_pos (nI_lt (by omega) (by omega))]
  · show lp_X10_chain_95 (N + 1) (nI i) (nI (chN (rowOf n M) n t a k)) (nI k) m = lp_X10_chain_95 N (nI i) _ (nI (k + 1)) m
    obtain ⟨c1, c2⟩ := chN_ok (R := rowOf n M) (t := t) hn ha h8 k (by omega)
    rw [lp_X10_chain_95.eq_2, if_neg (nI_nlt (by omega) (by omega)), rnext_ok hl hn c1 hs (d := dsN (rowOf n M) n t a - (k + 1)) (by omega) (by omega), bd_s, nI_1]
    rfl
theorem op_chain {m : am_m} (h : Inv m) (a b c : Int32) : op_ok m (fun m => fn_X9_chain a b c m) (fun m => fn_X10_chain a b c m) := by
  obtain ⟨n, hn, e44, e8, en⟩ := h.n
  have hlook := fun (r : Int32) => op_look (f := fun m => fn_X9_chain a b c m) (g := fun m => fn_X10_chain a b c m) h (fun t => kp_X9_chain a b c m t) (fun m1 t => kp_X10_chain a b c m1 t) rfl rfl rfl r
  by_cases ha : 0 ≤ a ∧ a < nI n
  · by_cases hb : 0 ≤ b ∧ b < nI n
    · by_cases hc : (-1 : Int32) ≤ c
      · obtain ⟨lw, m1, e1, j1, s1, f1, l1⟩ := lookLive_ok h
        rw [en] at s1
        obtain ⟨p, hp, rfl⟩ := fk_of hn ha
        obtain ⟨t, ht, rfl⟩ := fk_of hn hb
        generalize hM : mtx (m.1 44 0) lw = M at s1
        have hcm : ∀ a b, M a b = M b a := by rw [← hM]; exact mtx_comm _ _
        have hci : ∀ a, M a a = false := by rw [← hM]; exact mtx_irr _ _
        have gd := rowOf_gd hn hcm hci
        obtain ⟨m2, e2, c2, z2⟩ := csteps_ok s1.cls gd ht hp
        have d8 := dsN_8 (R := rowOf n M) (n := n) (t := t) (p := p)
        have dn := dsN_n (R := rowOf n M) hn ht hp
        generalize hd : dsN (rowOf n M) n t p = d at *
        have cls : fn_X9_chain (nI p) (nI t) c m = (if c = (-1 : Int32) then some (dcI d, m2) else (if dcI d ≠ (-1 : Int32) then (if dcI d ≤ c then some ((-1), m2) else (fn_X6_stepOf (nI p) (nI t) c m2).bind fun r15 => some (r15, m2)) else some (dcI d, m2))) := by
          unfold fn_X9_chain
          rw [has_ok e8, if_pos ha, bd_s, if_neg (by decide), has_ok e8, if_pos hb, bd_s, if_neg (by decide), if_pos hc, e1, bd_s, e2, bd_s]
        have ref : ∀ m1', Inv m1' → m1'.1 44 = m.1 44 → ∃ m3, laid n M (atx (m.1 44 0) lw) m3 ∧ (∀ q, q < n → m3.1 59 0 q = drI (dsN (rowOf n M) n t q)) ∧ fn_X10_chain (nI p) (nI t) c m1' = (if drI d = (100000000 : Int32) then some ((-1), m3) else (if c ≠ (-1 : Int32) then (if c < drI d then (lp_X10_chain_95 1000000 c (nI p) 0 m3).bind fun q28 => some (q28, m3) else some ((-1), m3)) else some (drI d, m3))) := by
          intro m1' i1 f1'
          obtain ⟨m3, e3, l3, f3⟩ := lay_ok (m := m) (lw := lw) i1 f1' l1
          rw [en, hM] at l3
          obtain ⟨m4, e4, z4, k4⟩ := layFar_ok (t := t) l3 hn (by rw [f3]; exact e44) ht
          have z4p := z4 p hp
          rw [hd] at z4p
          refine ⟨m4, l3.of (k4.row 92 rfl) (k4.row 93 rfl), z4, ?_⟩
          have g44 : (am_si m1' 10 0 0 0).1 44 0 0 = nI n := by show m1'.1 44 0 0 = _; rw [f1']; exact e44
          unfold fn_X10_chain
          rw [isFolk_ok hn g44, if_pos ha, bd_s, if_neg (by decide), isFolk_ok hn g44, if_pos hb, bd_s, if_neg (by decide), if_pos hc, e3, bd_s, e4, bd_s, ck_in (by omega) (by decide), ck_in (by omega) (by decide), ck_in (by omega) (by decide), nI_clamp (by omega), z4p]
          by_cases hF : drI d = (100000000 : Int32)
          · rw [if_pos hF, if_pos hF, if_neg (fun z => z hF)]
          · rw [if_neg hF, if_neg hF, if_pos hF, ck_in (by omega) (by decide)]
        rcases dn with dn | dn
        · -- there is no way
          refine hlook (-1) ⟨m2, ?_⟩ (fun m1' i1 f1' => ?_)
          · show fn_X9_chain (nI p) (nI t) c m = _
            rw [cls, dn]
            by_cases c1 : c = -1
            · rw [if_pos c1]; rfl
            · rw [if_neg c1, if_neg (show ¬ dcI 8 ≠ (-1 : Int32) from fun z => z rfl)]; rfl
          · obtain ⟨m3, _, _, r3⟩ := ref m1' i1 f1'
            refine ⟨m3, ?_⟩
            show fn_X10_chain (nI p) (nI t) c m1' = _
            rw [r3, dn, if_pos (show drI 8 = (100000000 : Int32) from rfl)]
        · have ec : dcI d = nI d := by unfold dcI; rw [if_neg (by omega)]
          have er : drI d = nI d := by unfold drI; rw [if_neg (by omega)]
          have nF : ¬ drI d = (100000000 : Int32) := by
            rw [er]; exact nI_ne (b := 100000000) (by omega) (by decide) (by omega)
          by_cases c1 : c = -1
          · refine hlook (nI d) ⟨m2, ?_⟩ (fun m1' i1 f1' => ?_)
            · show fn_X9_chain (nI p) (nI t) c m = _
              rw [cls, if_pos c1, ec]
            · obtain ⟨m3, _, _, r3⟩ := ref m1' i1 f1'
              refine ⟨m3, ?_⟩
              show fn_X10_chain (nI p) (nI t) c m1' = _
              rw [r3, if_neg nF, if_neg (fun z => z c1), er]
          · have c0 : ¬ c < 0 := fun z => c1 (by
              rw [fa_eq]
              have h1 : (-1 : Int) ≤ c.toInt := (fa_le _ _).mp hc
              have h2 : c.toInt < 0 := (fa_lt _ _).mp z
              show c.toInt = -1
              omega)
            obtain ⟨i, hi31, rfl⟩ := nI_of c0
            by_cases hid : i < d
            · refine hlook (nI (chN (rowOf n M) n t p (i + 1))) ⟨m2, ?_⟩ (fun m1' i1 f1' => ?_)
              · show fn_X9_chain (nI p) (nI t) (nI i) m = _
                rw [cls, if_neg c1, ec, if_pos (show nI d ≠ (-1 : Int32) from nI_m1 (by omega)), if_neg (nI_ge hid (by omega)), cstepOf_ok c2 gd ht hp z2 (by rw [hd]; exact dn) (by rw [hd]; exact hid), bd_s]
              · obtain ⟨m3, l3, z3, r3⟩ := ref m1' i1 f1'
                refine ⟨m3, ?_⟩
                show fn_X10_chain (nI p) (nI t) (nI i) m1' = _
                rw [r3, if_neg nF, if_pos c1, er, if_pos (nI_lt hid (by omega)), rstep_ok l3 hn hp z3 (by rw [hd]; exact dn) (by rw [hd]; exact hid), bd_s]
            · refine hlook (-1) ⟨m2, ?_⟩ (fun m1' i1 f1' => ?_)
              · show fn_X9_chain (nI p) (nI t) (nI i) m = _
                rw [cls, if_neg c1, ec, if_pos (show nI d ≠ (-1 : Int32) from nI_m1 (by omega)), if_pos (nI_le (by omega) hi31)]
              · obtain ⟨m3, l3, z3, r3⟩ := ref m1' i1 f1'
                refine ⟨m3, ?_⟩
                show fn_X10_chain (nI p) (nI t) (nI i) m1' = _
                rw [r3, if_neg nF, if_pos c1, er, if_neg (nI_nlt (by omega) hi31)]
      · refine hlook (-1) ⟨m, ?_⟩ (fun m1' i1 f1' => ⟨am_si m1' 10 0 0 0, ?_⟩)
        · show fn_X9_chain a b c m = _
          unfold fn_X9_chain
          rw [has_ok e8, if_pos ha, bd_s, if_neg (by decide), has_ok e8, if_pos hb, bd_s, if_neg (by decide), if_neg hc]
        · show fn_X10_chain a b c m1' = _
          have g44 : (am_si m1' 10 0 0 0).1 44 0 0 = nI n := by show m1'.1 44 0 0 = _; rw [f1']; exact e44
          unfold fn_X10_chain
          rw [isFolk_ok hn g44, if_pos ha, bd_s, if_neg (by decide), isFolk_ok hn g44, if_pos hb, bd_s, if_neg (by decide), if_neg hc]
    · refine hlook (-1) ⟨m, ?_⟩ (fun m1' i1 f1' => ⟨am_si m1' 10 0 0 0, ?_⟩)
      · show fn_X9_chain a b c m = _
        unfold fn_X9_chain
        rw [has_ok e8, if_pos ha, bd_s, if_neg (by decide), has_ok e8, if_neg hb, bd_s, if_pos rfl]
      · show fn_X10_chain a b c m1' = _
        have g44 : (am_si m1' 10 0 0 0).1 44 0 0 = nI n := by show m1'.1 44 0 0 = _; rw [f1']; exact e44
        unfold fn_X10_chain
        rw [isFolk_ok hn g44, if_pos ha, bd_s, if_neg (by decide), isFolk_ok hn g44, if_neg hb, bd_s, if_pos rfl]
  · refine hlook (-1) ⟨m, ?_⟩ (fun m1' i1 f1' => ⟨am_si m1' 10 0 0 0, ?_⟩)
    · show fn_X9_chain a b c m = _
      unfold fn_X9_chain
      rw [has_ok e8, if_neg ha, bd_s, if_pos rfl]
    · show fn_X10_chain a b c m1' = _
      have g44 : (am_si m1' 10 0 0 0).1 44 0 0 = nI n := by show m1'.1 44 0 0 = _; rw [f1']; exact e44
      unfold fn_X10_chain
      rw [isFolk_ok hn g44, if_neg ha, bd_s, if_pos rfl]
end CH
