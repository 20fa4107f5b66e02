/-! the reference's pile without a memory -/
def bnd (o : Nat) : Nat := if 31 ≤ o then 0 else if o = 30 then 1 else if o = 29 then 2 else if o = 28 then 3 else if 25 ≤ o then 4 else if 22 ≤ o then 6 else 5
abbrev rcd : Type := Nat → Nat × Nat
def rcu (c : rcd) (k : Nat) (v : Nat × Nat) : rcd := fun j => if j = k then v else c j
/-- what binds as l does or closer is written down, above s0 -/
def stl (P : rcd) (l s0 : Nat) : Nat → rcd → Nat → Nat × rcd × Nat
  | 0, c, b => (0, c, b)
  | s + 1, c, b => if s < s0 then (s + 1, c, b) else if bnd (P s).1 < l then (s + 1, c, b) else if (P s).1 = 29 ∨ (P s).1 = 30 then stl P l s0 s (rcu c (P s).2 ((c (P s).2).1, b)) b else stl P l s0 s (rcu c b ((P s).1, 0)) (b + 1)
/-- how many will be written -/
def pend (P : rcd) : Nat → Nat
  | 0 => 0
  | s + 1 => pend P s + (if (P s).1 < 29 then 1 else 0)
def inn (P : rcd) : Nat → Nat
  | 0 => 0
  | s + 1 => if 31 ≤ (P s).1 then (P s).1 else inn P s
def isc (P : rcd) : Nat → Bool
  | 0 => false
  | s + 1 => if 20 ≤ (P s).1 ∧ (P s).1 ≤ 24 then isc P s else decide (25 ≤ (P s).1 ∧ (P s).1 ≤ 27)
section ST
variable {P P' : rcd} {l l' s0 s1 : Nat}
theorem stl_low {s : Nat} {c : rcd} {b : Nat} (h : s ≤ s0) : stl P l s0 s c b = (s, c, b) := by
  cases s with
  | zero => rfl
  | succ s => rw [stl, if_pos (by omega)]
theorem stl_bdry {s : Nat} {c : rcd} {b : Nat} (h : s = 0 ∨ bnd (P (s - 1)).1 < l) : stl P l s0 s c b = (s, c, b) := by
  cases s with
  | zero => rfl
  | succ s =>
    rw [stl]
    by_cases c1 : s < s0
    · rw [if_pos c1]
    · rw [if_neg c1, if_pos (by rcases h with h | h; omega; exact h)]
theorem stl_stl (hs : s0 ≤ s1) (hl : l ≤ l') : ∀ (s : Nat) (c : rcd) (b : Nat), stl P l s0 s c b = stl P l s0 (stl P l' s1 s c b).1 (stl P l' s1 s c b).2.1 (stl P l' s1 s c b).2.2
  | 0, _, _ => rfl
  | s + 1, c, b => by
    rw [stl.eq_2 P l' s1]
    by_cases c1 : s < s1
    · rw [if_pos c1]
    rw [if_neg c1]
    by_cases c2 : bnd (P s).1 < l'
    · rw [if_pos c2]
    rw [if_neg c2]
    by_cases c3 : (P s).1 = 29 ∨ (P s).1 = 30
    · rw [if_pos c3, stl, if_neg (by omega), if_neg (by omega), if_pos c3]
      exact stl_stl hs hl s _ _
    · rw [if_neg c3, stl, if_neg (by omega), if_neg (by omega), if_neg c3]
      exact stl_stl hs hl s _ _
theorem stl_cong : ∀ (s : Nat) (c : rcd) (b : Nat), (∀ i, i < s → P' i = P i) → stl P' l s0 s c b = stl P l s0 s c b
  | 0, _, _, _ => rfl
  | s + 1, c, b, h => by
    have ih := stl_cong s
    rw [stl, stl, h s (by omega)]
    rw [ih _ _ (fun i hi => h i (by omega)), ih _ _ (fun i hi => h i (by omega))]
theorem stl_pend : ∀ (s : Nat) (c : rcd) (b : Nat), (∀ i, i < s → (P i).1 ≤ 32) → 1 ≤ l → (stl P l s0 s c b).2.2 + pend P (stl P l s0 s c b).1 = b + pend P s ∧ (stl P l s0 s c b).1 ≤ s
  | 0, _, _, _, _ => ⟨rfl, Nat.le_refl _⟩
  | s + 1, c, b, h, h1 => by
    have ih := stl_pend s
    rw [stl]
    by_cases c1 : s < s0
    · rw [if_pos c1]; exact ⟨rfl, Nat.le_refl _⟩
    rw [if_neg c1]
    by_cases c2 : bnd (P s).1 < l
    · rw [if_pos c2]; exact ⟨rfl, Nat.le_refl _⟩
    rw [if_neg c2]
    by_cases c3 : (P s).1 = 29 ∨ (P s).1 = 30
    · rw [if_pos c3]
      obtain ⟨a1, a2⟩ := ih (rcu c (P s).2 ((c (P s).2).1, b)) b (fun i hi => h i (by omega)) h1
      refine ⟨?_, by omega⟩
      rw [pend, if_neg (by omega)]; exact a1
    · rw [if_neg c3]
      obtain ⟨a1, a2⟩ := ih (rcu c b ((P s).1, 0)) (b + 1) (fun i hi => h i (by omega)) h1
      refine ⟨?_, by omega⟩
      have : (P s).1 < 29 := by
        unfold bnd at c2
        by_cases q : 31 ≤ (P s).1
        · rw [if_pos q] at c2; omega
        · omega
      rw [pend, if_pos this, a1]; omega
theorem stl_ge : ∀ (s : Nat) (c : rcd) (b : Nat), (stl P l s0 s c b).1 = s0 → ∀ i, s0 ≤ i → i < s → l ≤ bnd (P i).1
  | 0, _, _, _, i, _, h2 => by omega
  | s + 1, c, b, h, i, h1, h2 => by
    have ih := stl_ge s
    rw [stl] at h
    by_cases c1 : s < s0
    · omega
    rw [if_neg c1] at h
    by_cases c2 : bnd (P s).1 < l
    · rw [if_pos c2] at h
      have h : s + 1 = s0 := h
      omega
    rw [if_neg c2] at h
    by_cases e : i = s
    · rw [e]; omega
    by_cases c3 : (P s).1 = 29 ∨ (P s).1 = 30
    · rw [if_pos c3] at h; exact ih _ _ h i h1 (by omega)
    · rw [if_neg c3] at h; exact ih _ _ h i h1 (by omega)
theorem inn_up : ∀ {s : Nat}, s0 ≤ s → (∀ i, s0 ≤ i → i < s → (P i).1 < 31) → inn P s = inn P s0
  | 0, h, _ => by rw [show s0 = 0 by omega]
  | s + 1, h, h2 => by
    by_cases e : s0 = s + 1
    · rw [e]
    · rw [inn, if_neg (by have := h2 s (by omega) (by omega); omega)]
      exact inn_up (by omega) (fun i h3 h4 => h2 i h3 (by omega))
theorem inn_cong : ∀ {s : Nat}, (∀ i, i < s → P' i = P i) → inn P' s = inn P s
  | 0, _ => rfl
  | s + 1, h => by
    rw [inn, inn, h s (by omega), inn_cong (fun i hi => h i (by omega))]
theorem pend_cong : ∀ {s : Nat}, (∀ i, i < s → P' i = P i) → pend P' s = pend P s
  | 0, _ => rfl
  | s + 1, h => by
    rw [pend, pend, h s (by omega), pend_cong (fun i hi => h i (by omega))]
theorem isc_up : ∀ {s : Nat}, s0 ≤ s → (∀ i, s0 ≤ i → i < s → 20 ≤ (P i).1 ∧ (P i).1 ≤ 24) → isc P s = isc P s0
  | 0, h, _ => by rw [show s0 = 0 by omega]
  | s + 1, h, h2 => by
    by_cases e : s0 = s + 1
    · rw [e]
    · rw [isc, if_pos (h2 s (by omega) (by omega))]
      exact isc_up (by omega) (fun i h3 h4 => h2 i h3 (by omega))
theorem bnd_op {o : Nat} (h : 20 ≤ o) : (5 ≤ bnd o → o ≤ 24) ∧ (1 ≤ bnd o → o < 31) := by
  unfold bnd
  by_cases c1 : 31 ≤ o
  · rw [if_pos c1]; omega
  rw [if_neg c1]
  by_cases c2 : o = 30
  · rw [if_pos c2]; omega
  rw [if_neg c2]
  by_cases c3 : o = 29
  · rw [if_pos c3]; omega
  rw [if_neg c3]
  by_cases c4 : o = 28
  · rw [if_pos c4]; omega
  rw [if_neg c4]
  by_cases c5 : 25 ≤ o
  · rw [if_pos c5]; omega
  · exact ⟨fun _ => by omega, fun _ => by omega⟩
theorem rcu_ne {c : rcd} {k j : Nat} {v : Nat × Nat} (h : j ≠ k) : rcu c k v j = c j := if_neg h
theorem rcu_eq {c : rcd} {k : Nat} {v : Nat × Nat} : rcu c k v k = v := if_pos rfl
end ST
/-- it was read: from s0, b0 on, and what must still be written binds as l does -/
def rv (ord : Bool) (P : rcd) (l s0 b0 s : Nat) (c : rcd) (b : Nat) (f : dn) (h : Nat) : Prop := s0 ≤ s ∧ ∃ c2 b2, stl P l s0 s c b = (s0, c2, b2) ∧ (∀ k, k < b0 → c2 k = c k) ∧ (∀ k, b0 ≤ k → k < b2 → rc_ok ord (c2 k).1 (c2 k).2) ∧ ab_seg (fun k => rc_dec ord (c2 k).1 (c2 k).2) b0 b2 f h
section RV
variable {ord : Bool} {P : rcd} {l l' s0 b0 s b : Nat} {c : rcd} {f : dn} {h : Nat}
theorem rv.low (hr : rv ord P l' s0 b0 s c b f h) (hl : l ≤ l') : rv ord P l s0 b0 s c b f h := by
  obtain ⟨h1, c2, b2, h2, h3⟩ := hr
  refine ⟨h1, c2, b2, ?_, h3⟩
  rw [stl_stl (Nat.le_refl s0) hl s c b, h2]
  exact stl_low (Nat.le_refl _)
end RV
