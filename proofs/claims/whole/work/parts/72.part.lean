/-! all partings, in the order of their rows of numbers -/
def upd1 (tr : Nat → Nat) (k s : Nat) : Nat → Nat := fun i => if i = k then s else tr i
/-- the set of number t among the first k -/
def stS (tr : Nat → Nat) (t k : Nat) : Nat := sx (fun i => decide (tr i = t)) k
/-- how many sets are told ahead of k -/
def sA (tr : Nat → Nat) : Nat → Nat
  | 0 => 0
  | k + 1 => if tr k < sA tr k then sA tr k else tr k + 1
/-- how many twos of a set may not sit together -/
def cnH (M : Nat → Nat → Bool) (tr : Nat → Nat) : Nat → Nat
  | 0 => 0
  | k + 1 => cnH M tr k + fb_ct (fun a => decide (tr a = tr k) && !M a k) k
/-- no two of a set that can't be in one -/
def okP (B : Nat → Nat → Bool) (tr : Nat → Nat) (k : Nat) : Prop := ∀ b, b < k → ∀ a, a < b → ¬ (tr a = tr b ∧ B a b = true)
/-- what a parting is worth -/
def wrt (md : Bool) (M B : Nat → Nat → Bool) (n c : Nat) (tr : Nat → Nat) : Option Nat := if (∀ t, t < c → 2 ≤ pc (stS tr t n)) ∧ (∀ b, b < n → ∀ a, a < b → ¬ (tr a = tr b ∧ B a b = true)) then some (if md then c else cnH M tr n) else none
/-- the best so far -/
abbrev pB : Type := Option (Nat × (Nat → Nat))
def upB (b : pB) (w : Option Nat) (tr : Nat → Nat) : pB := match w with
  | none => b
  | some v => (match b with
    | none => some (v, tr)
    | some q => if v < q.1 then some (v, tr) else some q)
def fdN (g : Nat → pB → pB) : Nat → pB → pB
  | 0, b => b
  | i + 1, b => g i (fdN g i b)
def pdf (W : Nat → (Nat → Nat) → Option Nat) : Nat → Nat → Nat → (Nat → Nat) → pB → pB
  | 0, _, c, tr, b => upB b (W c tr) tr
  | d + 1, k, c, tr, b => fdN (fun s b => pdf W d (k + 1) (if s < c then c else s + 1) (upd1 tr k s) b) (c + 1) b
/-- how many steps the reference makes of it -/
def stN : Nat → Nat → Nat
  | 0, _ => 1
  | d + 1, c => fb_sm (fun s => 1 + stN d (if s < c then c else s + 1)) (c + 1) + 1
section PT
variable {M B : Nat → Nat → Bool} {tr : Nat → Nat} {n k c s t : Nat} {md : Bool}
theorem stN_le : ∀ n, n < 8 → stN n 0 < 900000 := by decide +kernel
theorem upd1_ne {i : Nat} (h : i ≠ k) : upd1 tr k s i = tr i := if_neg h
theorem upd1_eq : upd1 tr k s k = s := if_pos rfl
theorem sA_cong {tr' : Nat → Nat} : ∀ k, (∀ i, i < k → tr' i = tr i) → sA tr' k = sA tr k
  | 0, _ => rfl
  | k + 1, h => by
    rw [sA, sA, sA_cong k (fun i hi => h i (by omega)), h k (by omega)]
theorem sA_upd : sA (upd1 tr k s) (k + 1) = if s < sA tr k then sA tr k else s + 1 := by
  rw [sA, upd1_eq, sA_cong k (fun i hi => upd1_ne (by omega))]
theorem sA_lt : ∀ k i, i < k → tr i < sA tr k
  | 0, i, h => absurd h (Nat.not_lt_zero _)
  | k + 1, i, h => by
    rw [sA]
    by_cases e : i = k
    · subst e
      by_cases c : tr i < sA tr i
      · rw [if_pos c]; exact c
      · rw [if_neg c]; omega
    · have := sA_lt k i (by omega)
      by_cases c : tr k < sA tr k
      · rw [if_pos c]; exact this
      · rw [if_neg c]; omega
theorem stS_cong {tr' : Nat → Nat} (h : ∀ i, i < k → tr' i = tr i) : stS tr' t k = stS tr t k := sx_cong (fun i hi => by rw [h i hi])
theorem stS_bit (i : Nat) : (stS tr t k).testBit i = (decide (i < k) && decide (tr i = t)) := sx_bit _ i k
theorem stS_s : stS (upd1 tr k s) t (k + 1) = if t = s then stS tr t k ||| 2 ^ k else stS tr t k := by
  have e : stS (upd1 tr k s) t k = stS tr t k := stS_cong (fun i hi => upd1_ne (by omega))
  unfold stS at e ⊢
  rw [sx, e, upd1_eq]
  by_cases h : t = s
  · rw [decide_eq_true h.symm, if_pos rfl, if_pos h]
  · rw [decide_eq_false (Ne.symm h), if_neg (by decide), if_neg h, Nat.or_zero]
theorem cnH_cong {tr' : Nat → Nat} : ∀ k, (∀ i, i < k → tr' i = tr i) → cnH M tr' k = cnH M tr k
  | 0, _ => rfl
  | k + 1, h => by
    rw [cnH, cnH, cnH_cong k (fun i hi => h i (by omega))]
    refine congrArg _ (fb_ct_cong (fun a ha => ?_))
    rw [h a (by omega), h k (by omega)]
theorem cnH_le : ∀ k, k ≤ 7 → cnH M tr k ≤ 7 * k
  | 0, _ => Nat.le_refl _
  | k + 1, h => by
    have h1 := cnH_le k (by omega)
    have h2 := fb_ct_le (fun a => decide (tr a = tr k) && !M a k) k
    rw [cnH]
    omega
theorem okP_cong {tr' : Nat → Nat} (h : ∀ i, i < k → tr' i = tr i) : okP B tr' k ↔ okP B tr k := by
  constructor
  · intro z b hb a ha q
    exact z b hb a ha (by rw [h a (by omega), h b hb]; exact q)
  · intro z b hb a ha q
    exact z b hb a ha (by rw [h a (by omega), h b hb] at q; exact q)
theorem okP_s (hk : okP B tr k) : okP B (upd1 tr k s) (k + 1) ↔ ∀ a, a < k → tr a = s → B a k = false := by
  constructor
  · intro z a ha e
    cases hb : B a k with
    | false => rfl
    | true => exact absurd ⟨by rw [upd1_ne (by omega), upd1_eq]; exact e, hb⟩ (z k (by omega) a ha)
  · intro z b hb a ha q
    by_cases e : b = k
    · subst e
      rw [upd1_ne (by omega), upd1_eq] at q
      rw [z a ha q.1] at q
      cases q.2
    · rw [upd1_ne (by omega), upd1_ne e] at q
      exact hk b (by omega) a ha q
theorem wrt_bad (h : ¬ okP B tr n) : wrt md M B n c tr = none := if_neg (fun z => h z.2)
theorem wrt_ok (h : okP B tr n) (h2 : ∀ t, t < c → 2 ≤ pc (stS tr t n)) : wrt md M B n c tr = some (if md then c else cnH M tr n) := if_pos ⟨h2, h⟩
theorem wrt_few (h : t < c) (h2 : ¬ 2 ≤ pc (stS tr t n)) : wrt md M B n c tr = none := if_neg (fun z => h2 (z.1 t h))
theorem fdN_id {g : Nat → pB → pB} : ∀ i b, (∀ s, s < i → ∀ b, g s b = b) → fdN g i b = b
  | 0, _, _ => rfl
  | i + 1, b, h => by rw [fdN, fdN_id i b (fun s hs => h s (by omega)), h i (by omega)]
/-- a parting that is bad already leads to nothing -/
theorem pdf_bad {b : pB} : ∀ (d k c : Nat) (tr : Nat → Nat) (b : pB), k + d = n → ¬ okP B tr k → pdf (wrt md M B n) d k c tr b = b
  | 0, k, c, tr, b, hk, h => by
    have : k = n := by omega
    subst this
    rw [pdf, wrt_bad h]
    rfl
  | d + 1, k, c, tr, b, hk, h => by
    rw [pdf]
    refine fdN_id _ _ (fun s _ b => pdf_bad (b := b) d (k + 1) _ _ b (by omega) (fun z => h ?_))
    intro x hx a ha q
    exact z x (by omega) a ha (by rw [upd1_ne (by omega), upd1_ne (by omega)]; exact q)
end PT
