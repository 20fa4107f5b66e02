/-! how far one is from another one -/
/-- the first from q on, of N at most, of which f is so -/
def fst1 (f : Nat → Bool) : Nat → Nat → Nat
  | 0, q => q
  | N + 1, q => if f q then q else fst1 f N (q + 1)
theorem fst1_ge (f : Nat → Bool) : ∀ N q, q ≤ fst1 f N q ∧ fst1 f N q ≤ q + N
  | 0, q => ⟨Nat.le_refl _, Nat.le_refl _⟩
  | N + 1, q => by
    rw [fst1]
    cases f q with
    | true => rw [if_pos rfl]; exact ⟨Nat.le_refl _, by omega⟩
    | false =>
      rw [if_neg (by decide)]
      have := fst1_ge f N (q + 1)
      exact ⟨by omega, by omega⟩
theorem fst1_no (f : Nat → Bool) : ∀ N q j, q ≤ j → j < fst1 f N q → f j = false
  | 0, q, j, h1, h2 => by
    have : fst1 f 0 q = q := rfl
    omega
  | N + 1, q, j, h1, h2 => by
    rw [fst1] at h2
    cases hf : f q with
    | true => rw [hf, if_pos rfl] at h2; omega
    | false =>
      rw [hf, if_neg (by decide)] at h2
      by_cases e : j = q
      · rw [e]; exact hf
      · exact fst1_no f N (q + 1) j (by omega) h2
theorem fst1_yes (f : Nat → Bool) : ∀ N q, fst1 f N q < q + N → f (fst1 f N q) = true
  | 0, q, h => by
    have : fst1 f 0 q = q := rfl
    omega
  | N + 1, q, h => by
    rw [fst1] at h ⊢
    cases hf : f q with
    | true => rw [if_pos rfl]; exact hf
    | false =>
      rw [hf, if_neg (by decide)] at h
      rw [if_neg (by decide)]
      exact fst1_yes f N (q + 1) (by omega)
theorem fst1_lt {f : Nat → Bool} {N j : Nat} (h : f j = true) (hj : j < N) : fst1 f N 0 ≤ j := by
  by_cases c : fst1 f N 0 ≤ j
  · exact c
  · have := fst1_no f N 0 j (Nat.zero_le _) (by omega)
    rw [this] at h
    cases h
theorem fst1_eq {f : Nat → Bool} {N j : Nat} (h : f j = true) (hj : j < N) (hn : ∀ i, i < j → f i = false) : fst1 f N 0 = j := by
  have h1 := fst1_lt h hj
  by_cases c : fst1 f N 0 = j
  · exact c
  · have h2 := fst1_yes f N 0 (by omega)
    rw [hn _ (by omega)] at h2
    cases h2
/-- a walk of k steps to t -/
def wk (R : Nat → Nat) (n t : Nat) : Nat → Nat → Bool
  | 0, p => decide (p = t)
  | k + 1, p => decide (∃ q, q < n ∧ (R p).testBit q = true ∧ wk R n t k q = true)
/-- how far: 8 if there is no way -/
def dsN (R : Nat → Nat) (n t p : Nat) : Nat := fst1 (fun k => wk R n t k p) 8 0
section DS
variable {R : Nat → Nat} {n t p q : Nat}
theorem wk_s {k : Nat} : wk R n t (k + 1) p = true ↔ ∃ q, q < n ∧ (R p).testBit q = true ∧ wk R n t k q = true := by
  rw [wk, decide_eq_true_iff]
theorem dsN_8 : dsN R n t p ≤ 8 := by
  have := (fst1_ge (fun k => wk R n t k p) 8 0).2
  unfold dsN
  omega
theorem dsN_wk (h : dsN R n t p < 8) : wk R n t (dsN R n t p) p = true := fst1_yes (fun k => wk R n t k p) 8 0 (by rw [Nat.zero_add]; exact h)
theorem dsN_min {k : Nat} (h : k < dsN R n t p) : wk R n t k p = false := fst1_no (fun k => wk R n t k p) 8 0 k (Nat.zero_le _) h
theorem dsN_le {k : Nat} (hk : k < 8) (h : wk R n t k p = true) : dsN R n t p ≤ k := fst1_lt (f := fun k => wk R n t k p) h hk
theorem dsN_t : dsN R n t t = 0 := by
  have := dsN_le (R := R) (n := n) (t := t) (p := t) (k := 0) (by decide) (by rw [wk]; exact decide_eq_true rfl)
  omega
theorem dsN_0 (h : dsN R n t p = 0) : p = t := by
  have := dsN_wk (R := R) (n := n) (t := t) (p := p) (by omega)
  rw [h, wk, decide_eq_true_iff] at this
  exact this
/-- a step behind one that is d + 1 far -/
theorem dsN_prev {d : Nat} (h : dsN R n t p = d + 1) (hd : d < 7) : ∃ q, q < n ∧ (R p).testBit q = true ∧ dsN R n t q = d := by
  have := dsN_wk (R := R) (n := n) (t := t) (p := p) (by omega)
  rw [h] at this
  obtain ⟨q, h1, h2, h3⟩ := wk_s.mp this
  refine ⟨q, h1, h2, ?_⟩
  have h4 := dsN_le (k := d) (by omega) h3
  by_cases e : dsN R n t q = d
  · exact e
  · have h5 := dsN_wk (R := R) (n := n) (t := t) (p := q) (by omega)
    have h6 := dsN_min (R := R) (n := n) (t := t) (p := p) (k := dsN R n t q + 1) (by omega)
    rw [wk_s.mpr ⟨q, h1, h2, h5⟩] at h6
    cases h6
/-- those at most k far -/
def lvS (R : Nat → Nat) (n t k : Nat) : Nat := sx (fun p => decide (dsN R n t p ≤ k)) n
theorem lvS_bit (k : Nat) : (lvS R n t k).testBit p = (decide (p < n) && decide (dsN R n t p ≤ k)) := sx_bit _ p n
theorem dsN_all {d : Nat} (hp : p < n) (h : dsN R n t p = d) (hd : d < 8) : ∀ j, j ≤ d → ∃ q, q < n ∧ dsN R n t q = d - j
  | 0, _ => ⟨p, hp, h⟩
  | j + 1, hj => by
    obtain ⟨q, h1, h2⟩ := dsN_all hp h hd j (by omega)
    obtain ⟨q', h3, _, h5⟩ := dsN_prev (R := R) (n := n) (t := t) (p := q) (d := d - (j + 1)) (by omega) (by omega)
    exact ⟨q', h3, h5⟩
theorem lvS_pc (hn : n ≤ 7) (ht : t < n) {d : Nat} (hp : p < n) (h : dsN R n t p = d) (hd : d < 8) : ∀ k, k ≤ d → k + 1 ≤ pc (lvS R n t k)
  | 0, _ => by
    refine pc_pos (fun e => ?_) (sx_small _ hn)
    have := lvS_bit (R := R) (n := n) (t := t) (p := t) 0
    rw [e, Nat.zero_testBit, dsN_t, decide_eq_true ht] at this
    cases this
  | k + 1, hk => by
    have ih := lvS_pc hn ht hp h hd k (by omega)
    obtain ⟨q, h1, h2⟩ := dsN_all hp h hd (d - (k + 1)) (by omega)
    have h2 : dsN R n t q = k + 1 := by omega
    have := pc_grow (a := lvS R n t k) (b := lvS R n t (k + 1)) (sx_small _ hn) (fun j hj => by
      rw [lvS_bit, Bool.and_eq_true, decide_eq_true_iff, decide_eq_true_iff] at hj ⊢
      exact ⟨hj.1, by omega⟩) (fun e => by
      have a := lvS_bit (R := R) (n := n) (t := t) (p := q) (k + 1)
      have b := lvS_bit (R := R) (n := n) (t := t) (p := q) k
      rw [e, b, decide_eq_true h1, decide_eq_false (show ¬ dsN R n t q ≤ k by omega), decide_eq_true (show dsN R n t q ≤ k + 1 by omega)] at a
      cases a)
    omega
theorem dsN_n (hn : n ≤ 7) (ht : t < n) (hp : p < n) : dsN R n t p = 8 ∨ dsN R n t p < n := by
  have h8 := dsN_8 (R := R) (n := n) (t := t) (p := p)
  by_cases h : dsN R n t p = 8
  · exact Or.inl h
  · right
    have h1 := lvS_pc hn ht hp rfl (show dsN R n t p < 8 by omega) (dsN R n t p) (Nat.le_refl _)
    have h2 := pc_le_n (s := lvS R n t (dsN R n t p)) hn (sx_lt _ n)
    omega
/-- along an edge -/
theorem dsN_edge (hn : n ≤ 7) (ht : t < n) (hq : q < n) (he : (R p).testBit q = true) (h : dsN R n t q ≠ 8) : dsN R n t p ≤ dsN R n t q + 1 := by
  have h1 : dsN R n t q < n := by
    rcases dsN_n (R := R) hn ht hq with z | z
    · exact absurd z h
    · exact z
  exact dsN_le (by omega) (wk_s.mpr ⟨q, hq, he, dsN_wk (by omega)⟩)
end DS
/-- as the class has it, as the reference has it -/
def dcI (d : Nat) : Int32 := if d = 8 then -1 else nI d
def drI (d : Nat) : Int32 := if d = 8 then 100000000 else nI d
theorem dcI_eq {d k : Nat} (hd : d ≤ 8) (hk : k ≤ 7) : dcI d = nI k ↔ d = k := by
  unfold dcI
  by_cases h : d = 8
  · rw [if_pos h]
    exact ⟨fun z => absurd z.symm (nI_m1 (by omega)), fun z => by omega⟩
  · rw [if_neg h]; exact nI_eq (by omega) (by omega)
section CD
variable {m : am_m} {R : Nat → Nat} {n t p : Nat}
/-- the class's steps, when all that are at most k far are told -/
def stC (R : Nat → Nat) (n t k p : Nat) : Int32 := if dsN R n t p ≤ k then dcI (dsN R n t p) else -1
theorem stC_eq {k j : Nat} (hk : k ≤ 7) (hj : j ≤ k) : stC R n t k p = nI j ↔ dsN R n t p = j := by
  unfold stC
  by_cases h : dsN R n t p ≤ k
  · rw [if_pos h]; exact dcI_eq dsN_8 (by omega)
  · rw [if_neg h]; exact ⟨fun z => absurd z.symm (nI_m1 (by omega)), fun z => by omega⟩
theorem ahead_ok {k : Nat} {f : Nat → Nat} (h : clsR n R m) (gd : gdR n R) (hk : k ≤ 6) (hp : p < n) (hs : ∀ q, q < n → (m.1 32 0 q = nI k ↔ dsN R n t q = k)) : fn_X6_isStepAhead (nI p) (nI k) m = some (bv (decide (∃ q, q < n ∧ (R p).testBit q = true ∧ dsN R n t q = k))) := by
  have hn := gd.1
  have key : ∃ b, lp_X6_isStepAhead_2 1000000 (nI p) (nI k) 0 m = some b ∧ ((b = .inl () ∧ ¬ ∃ q, q < n ∧ (R p).testBit q = true ∧ dsN R n t q = k) ∨ (b = .inr 1 ∧ ∃ q, q < n ∧ (R p).testBit q = true ∧ dsN R n t q = k)) := by
    refine lp_up0 (fun N x (_ : Unit) => lp_X6_isStepAhead_2 N (nI p) (nI k) x m) (fun i _ => ¬ ∃ q, q < i ∧ (R p).testBit q = true ∧ dsN R n t q = k) _ n (by omega) (fun N a hh => ⟨.inl (), ?_, Or.inl ⟨rfl, hh⟩⟩) (fun N i a hi hh => ?_) () (fun ⟨q, z, _⟩ => absurd z (Nat.not_lt_zero _))
    · show lp_X6_isStepAhead_2 (N + 1) (nI p) (nI k) (nI n) m = _
      rw [lp_X6_isStepAhead_2.eq_2, h.1, if_pos (nI_le (Nat.le_refl _) (by omega))]
    · show (∃ a', lp_X6_isStepAhead_2 (N + 1) (nI p) (nI k) (nI i) m = lp_X6_isStepAhead_2 N (nI p) (nI k) (nI (i + 1)) m ∧ _) ∨ ∃ b, lp_X6_isStepAhead_2 (N + 1) (nI p) (nI k) (nI i) m = some b ∧ _
      have nx : ¬ ((R p).testBit i = true ∧ dsN R n t i = k) → ¬ ∃ q, q < i + 1 ∧ (R p).testBit q = true ∧ dsN R n t q = k := fun z ⟨q, h1, h2, h3⟩ => by
        by_cases e : q = i
        · rw [e] at h2 h3; exact z ⟨h2, h3⟩
        · exact hh ⟨q, by omega, h2, h3⟩
      rw [lp_X6_isStepAhead_2.eq_2, h.1, if_neg (nI_ge hi (by omega)), ck_in (by omega) (by decide), nI_clamp (by omega), nI_1]
      by_cases hd : dsN R n t i = k
      · rw [if_neg (fun z => z ((hs i hi).mpr hd)), ck_in (by omega) (by decide), nI_clamp (by omega), h.2 p hp]
        cases hb : (R p).testBit i with
        | false =>
          rw [if_pos ((isN (gd.lt hp) (by omega)).mpr hb)]
          exact Or.inl ⟨(), rfl, nx (fun z => by rw [hb] at z; exact absurd z.1 (by decide))⟩
        | true =>
          rw [if_neg (fun z => by rw [(isN (gd.lt hp) (by omega)).mp z] at hb; cases hb)]
          exact Or.inr ⟨_, rfl, Or.inr ⟨rfl, i, hi, hb, hd⟩⟩
      · rw [if_pos (fun z => hd ((hs i hi).mp z))]
        exact Or.inl ⟨(), rfl, nx (fun z => hd z.2)⟩
  obtain ⟨b, e, hb⟩ := key
  unfold fn_X6_isStepAhead
  rw [e, bd_s]
  rcases hb with ⟨rfl, hb⟩ | ⟨rfl, hb⟩
  · rw [decide_eq_false hb]; rfl
  · rw [decide_eq_true hb]; rfl
theorem cround_ok {k : Nat} {x1 : Int32} (h : clsR n R m) (gd : gdR n R) (ht : t < n) (hk : k < n) (hs : ∀ q, q < n → m.1 32 0 q = stC R n t k q) : ∃ m', lp_X6_stepsTo_61 1000000 x1 (nI k) 0 m = some m' ∧ (clsR n R m' ∧ ∀ q, q < n → m'.1 32 0 q = stC R n t (k + 1) q) := by
  have hn := gd.1
  refine lp_up0 (fun N x a => lp_X6_stepsTo_61 N x1 (nI k) x a) (fun i m1 => clsR n R m1 ∧ ∀ q, q < n → m1.1 32 0 q = if q < i then stC R n t (k + 1) q else stC R n t k q) _ n (by omega) (fun N m1 hh => ?_) (fun N i m1 hi hh => Or.inl ?_) m ⟨h, fun q hq => by rw [if_neg (by omega)]; exact hs q hq⟩
  · refine ⟨m1, ?_, hh.1, fun q hq => by rw [hh.2 q hq, if_pos hq]⟩
    show lp_X6_stepsTo_61 (N + 1) x1 (nI k) (nI n) m1 = _
    rw [lp_X6_stepsTo_61.eq_2, hh.1.1, if_pos (nI_le (Nat.le_refl _) (by omega))]
  · obtain ⟨h1, h2⟩ := hh
    have hsk : ∀ q, q < n → (m1.1 32 0 q = nI k ↔ dsN R n t q = k) := fun q hq => by
      rw [h2 q hq]
      by_cases c : q < i
      · rw [if_pos c]; exact stC_eq (by omega) (by omega)
      · rw [if_neg c]; exact stC_eq (by omega) (by omega)
    have ea := ahead_ok (t := t) (f := fun _ => 0) h1 gd (show k ≤ 6 by omega) hi hsk
    have ei : m1.1 32 0 i = stC R n t k i := by rw [h2 i hi, if_neg (by omega)]
    have upd : ∀ m2 : am_m, clsR n R m2 → (∀ q, q < n → m2.1 32 0 q = if q = i then stC R n t (k + 1) i else m1.1 32 0 q) → clsR n R m2 ∧ ∀ q, q < n → m2.1 32 0 q = if q < i + 1 then stC R n t (k + 1) q else stC R n t k q := fun m2 c2 q2 => by
      refine ⟨c2, fun q hq => ?_⟩
      rw [q2 q hq]
      by_cases e : q = i
      · rw [if_pos e, if_pos (by omega), e]
      · rw [if_neg e, h2 q hq]
        exact if_iff (by omega)
    show ∃ a', lp_X6_stepsTo_61 (N + 1) x1 (nI k) (nI i) m1 = lp_X6_stepsTo_61 N x1 (nI k) (nI (i + 1)) a' ∧ _
    rw [lp_X6_stepsTo_61.eq_2, h1.1, if_neg (nI_ge hi (by omega)), ck_in (by omega) (by decide), nI_clamp (by omega), nI_1, ei]
    by_cases c1 : stC R n t k i = -1
    · have hd : k < dsN R n t i := by
        unfold stC at c1
        by_cases z : dsN R n t i ≤ k
        · rw [if_pos z] at c1
          unfold dcI at c1
          rw [if_neg (by omega)] at c1
          exact absurd c1 (nI_m1 (by omega))
        · omega
      rw [if_neg (fun z => z c1), ea, bd_s]
      by_cases hx : ∃ q, q < n ∧ (R i).testBit q = true ∧ dsN R n t q = k
      · obtain ⟨q, q1, q2, q3⟩ := hx
        have he := dsN_edge (R := R) hn ht q1 q2 (by omega)
        have e2 : dsN R n t i = k + 1 := by omega
        have e3 : stC R n t (k + 1) i = nI (k + 1) := (stC_eq (by omega) (Nat.le_refl _)).mpr e2
        rw [decide_eq_true ⟨q, q1, q2, q3⟩, if_neg (show ¬ bv true = 0 by decide), ck_in (by omega) (by decide), nI_1, bd_s]
        refine ⟨_, rfl, upd _ (h1.of rfl rfl) (fun q hq => ?_)⟩
        rw [rd_j, e3]
      · rw [decide_eq_false hx, if_pos (show bv false = 0 from rfl), bd_s]
        refine ⟨m1, by rw [nI_1], upd m1 h1 (fun q hq => ?_)⟩
        by_cases e : q = i
        · rw [if_pos e, e, ei, c1]
          unfold stC
          by_cases z : dsN R n t i ≤ k + 1
          · exfalso
            have z2 : dsN R n t i = k + 1 := by omega
            obtain ⟨q', q1, q2, q3⟩ := dsN_prev z2 (by omega)
            exact hx ⟨q', q1, q2, q3⟩
          · rw [if_neg z]
        · rw [if_neg e]
    · rw [if_pos c1, bd_s]
      refine ⟨m1, by rw [nI_1], upd m1 h1 (fun q hq => ?_)⟩
      by_cases e : q = i
      · rw [if_pos e, e, ei]
        unfold stC
        unfold stC at c1
        by_cases z : dsN R n t i ≤ k
        · rw [if_pos z, if_pos (by omega)]
        · rw [if_neg z] at c1
          exact absurd rfl c1
      · rw [if_neg e]
theorem csteps_ok {a : Nat} (h : clsR n R m) (gd : gdR n R) (ht : t < n) (ha : a < n) : ∃ m', fn_X6_stepsTo (nI a) (nI t) m = some (dcI (dsN R n t a), m') ∧ clsR n R m' ∧ ∀ q, q < n → m'.1 32 0 q = dcI (dsN R n t q) := by
  have hn := gd.1
  have th : ∀ p, p < n → fn_X6_isThere (nI p) m = some 1 := fun p hp => by
    unfold fn_X6_isThere
    rw [h.1, if_neg (nI_pos (by omega)), if_neg (nI_ge hp (by omega))]
  have s1 : ∃ m1, lp_X6_stepsTo_20 1000000 (nI a) (nI t) 0 m = some m1 ∧ (clsR n R m1 ∧ ∀ q, q < n → m1.1 32 0 q = -1) := by
    refine lp_up0 (fun N x m1 => lp_X6_stepsTo_20 N (nI a) (nI t) x m1) (fun i m1 => clsR n R m1 ∧ ∀ q, q < i → m1.1 32 0 q = -1) _ n (by omega) (fun N m1 hh => ⟨m1, ?_, hh⟩) (fun N i m1 hi hh => Or.inl ⟨am_si m1 32 0 i (-1), ?_, hh.1.of rfl rfl, fun q hq => ?_⟩) m ⟨h, fun q hq => absurd hq (Nat.not_lt_zero _)⟩
    · show lp_X6_stepsTo_20 (N + 1) (nI a) (nI t) (nI n) m1 = _
      rw [lp_X6_stepsTo_20.eq_2, hh.1.1, if_pos (nI_le (Nat.le_refl _) (by omega))]
    · show lp_X6_stepsTo_20 (N + 1) (nI a) (nI t) (nI i) m1 = lp_X6_stepsTo_20 N (nI a) (nI t) (nI (i + 1)) _
      rw [lp_X6_stepsTo_20.eq_2, hh.1.1, if_neg (nI_ge hi (by omega)), ck_in (by omega) (by decide), nI_clamp (by omega), nI_1]
    · rw [rd_j]
      by_cases e : q = i
      · rw [if_pos e]
      · rw [if_neg e]; exact hh.2 q (by omega)
  obtain ⟨m1, e1, c1, z1⟩ := s1
  have s2 : ∃ m2, lp_X6_stepsTo_50 1000000 (nI a) 0 (am_si m1 32 0 t 0) = some m2 ∧ (clsR n R m2 ∧ ∀ q, q < n → m2.1 32 0 q = stC R n t n q) := by
    refine lp_up0 (fun N x m2 => lp_X6_stepsTo_50 N (nI a) x m2) (fun i m2 => clsR n R m2 ∧ ∀ q, q < n → m2.1 32 0 q = stC R n t i q) _ n (by omega) (fun N m2 hh => ⟨m2, ?_, hh⟩) (fun N i m2 hi hh => Or.inl ?_) (am_si m1 32 0 t 0) ⟨c1.of rfl rfl, fun q hq => ?_⟩
    · show lp_X6_stepsTo_50 (N + 1) (nI a) (nI n) m2 = _
      rw [lp_X6_stepsTo_50.eq_2, hh.1.1, if_pos (nI_le (Nat.le_refl _) (by omega))]
    · obtain ⟨m3, e3, c3⟩ := cround_ok (x1 := nI a) hh.1 gd ht hi hh.2
      refine ⟨m3, ?_, c3⟩
      show lp_X6_stepsTo_50 (N + 1) (nI a) (nI i) m2 = lp_X6_stepsTo_50 N (nI a) (nI (i + 1)) _
      rw [lp_X6_stepsTo_50.eq_2, hh.1.1, if_neg (nI_ge hi (by omega)), e3, bd_s, nI_1]
    · rw [rd_j]
      unfold stC
      by_cases e : q = t
      · rw [if_pos e, e, dsN_t, if_pos (Nat.le_refl _)]
        rfl
      · rw [if_neg e, z1 q hq, if_neg (fun z => e (dsN_0 (Nat.le_zero.mp z)))]
  obtain ⟨m2, e2, c2, z2⟩ := s2
  have z3 : ∀ q, q < n → m2.1 32 0 q = dcI (dsN R n t q) := fun q hq => by
    rw [z2 q hq]
    unfold stC
    by_cases z : dsN R n t q ≤ n
    · rw [if_pos z]
    · rw [if_neg z]
      rcases dsN_n (R := R) hn ht hq with y | y
      · rw [y]; rfl
      · omega
  refine ⟨m2, ?_, c2, z3⟩
  unfold fn_X6_stepsTo
  rw [th a ha, bd_s, if_neg (by decide), th t ht, bd_s, if_pos (by decide), e1, bd_s, ck_in (by omega) (by decide), nI_clamp (by omega), e2, bd_s, ck_in (by omega) (by decide), nI_clamp (by omega), z3 a ha]
end CD
