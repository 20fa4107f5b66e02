/-! what holds of all that the pure reader reads -/
/-- f asks about those alone -/
def dw (aw : Nat) (f : dn) : Prop := ∀ env env' : Nat → Int64, (∀ i, i < 12 → env i = env' i) → (∀ N, N < 7 → aw.testBit N = true → env (12 + N) = env' (12 + N)) → f env = f env'
def pq_b (aw aw' : Nat) : Prop := ∀ N, aw.testBit N = true → aw'.testBit N = true
/-- does it read a TEST -/
def tst (w : Nat) : Bool := decide (w ≤ 3 ∨ w = 7 ∨ w = 8)
def pq_g (L : Nat) (s : pst) : Prop := s.1 ≤ L ∧ s.2.1 ≤ 50 ∧ s.2.2.1 < 128
def pq_f (w : Nat) (s : pst) : Prop := 1 ≤ s.2.2.2.2 ∧ dw s.2.2.1 s.2.2.2.1 ∧ (tst w = true → dn_01 s.2.2.2.1) ∧ (tst w = false → dn_bd s.2.2.2.1)
/-- what doesn't stand behind it -/
def pq_e (w k : Nat) : Prop := (w = 4 ∨ w = 5 ∨ w = 9 ∨ w = 10 → k ≠ 42 ∧ k ≠ 47 ∧ k ≠ 37) ∧ (w = 4 ∨ w = 9 → k ≠ 43 ∧ k ≠ 45) ∧ (w = 0 ∨ w = 1 ∨ w = 7 ∨ w = 8 → k ≠ 260) ∧ (w = 0 ∨ w = 7 → k ≠ 259)
def pq_in (T : Nat → Nat) (L w : Nat) (s : pst) : Prop := pq_g L s ∧ (7 ≤ w → pq_f w s) ∧ (w = 7 → lx_kd T L s.1 ≠ 260) ∧ (w = 9 → lx_kd T L s.1 ≠ 42 ∧ lx_kd T L s.1 ≠ 47 ∧ lx_kd T L s.1 ≠ 37)
def pq_out (T : Nat → Nat) (L w : Nat) (s s' : pst) : Prop := pq_g L s' ∧ s.1 ≤ s'.1 ∧ (w ≤ 6 → s.1 < s'.1) ∧ pq_b s.2.2.1 s'.2.2.1 ∧ pq_f w s' ∧ s.2.1 + s'.2.2.2.2 ≤ s'.2.1 + (if w ≤ 6 then 0 else s.2.2.2.2) ∧ pq_e w (lx_kd T L s'.1)
def pq_res (T : Nat → Nat) (L w : Nat) (s : pst) (r : Nat ⊕ pst) : Prop := match r with
  | .inl q => s.1 ≤ q ∧ q ≤ L
  | .inr s' => pq_out T L w s s'
section SK
variable {T : Nat → Nat} {L : Nat} {ord : Bool} {aw aw' : Nat} {f g : dn}
theorem dw.mono (h : dw aw f) (hb : pq_b aw aw') : dw aw' f := fun env env' h1 h2 => h env env' h1 (fun N hN q => h2 N hN (hb N q))
theorem dw_two {o : Nat} (h : dw aw f) (h' : dw aw g) : dw aw (dn_two o f g) := fun env env' h1 h2 => by unfold dn_two; rw [h env env' h1 h2, h' env env' h1 h2]
theorem dw_both {c : Int64} (h : dw aw f) (h' : dw aw g) : dw aw (dn_both c f g) := fun env env' h1 h2 => by unfold dn_both; rw [h env env' h1 h2, h' env env' h1 h2]
theorem dw_not (h : dw aw f) : dw aw (dn_not f) := fun env env' h1 h2 => by unfold dn_not; rw [h env env' h1 h2]
theorem dn_in_bd {v x : Int64} (h : dn_in v = some x) : -1000000000 ≤ x ∧ x ≤ 1000000000 := by
  unfold dn_in at h
  by_cases c : v < -1000000000 ∨ 1000000000 < v
  · rw [if_pos c] at h; cases h
  · rw [if_neg c] at h
    have e := Option.some.inj h
    subst e
    rw [fa_le64, fa_le64]
    rw [fa_lt64, fa_lt64] at c
    omega
theorem bd_two {o : Nat} (ho : o ≤ 4) : dn_bd (dn_two o f g) := by
  intro env v _ h
  unfold dn_two at h
  cases hf : f env with
  | none => rw [hf] at h; cases h
  | some x =>
    cases hg : g env with
    | none => rw [hf, hg] at h; cases h
    | some y =>
      rw [hf, hg] at h
      have h : dn_op o x y = some v := h
      have : o = 0 ∨ o = 1 ∨ o = 2 ∨ o = 3 ∨ o = 4 := by omega
      rcases this with rfl | rfl | rfl | rfl | rfl
      · exact dn_in_bd h
      · exact dn_in_bd h
      · exact dn_in_bd h
      · have h : (if y = 0 then none else dn_in (x / y)) = some v := h
        by_cases c : y = 0
        · rw [if_pos c] at h; cases h
        · rw [if_neg c] at h; exact dn_in_bd h
      · have h : (if y = 0 then none else dn_in (x - x / y * y)) = some v := h
        by_cases c : y = 0
        · rw [if_pos c] at h; cases h
        · rw [if_neg c] at h; exact dn_in_bd h
theorem x01 {c : Prop} {dc : Decidable c} {v : Int64} (h : some (if c then (1 : Int64) else 0) = some v) : v = 0 ∨ v = 1 := by
  by_cases q : c
  · rw [if_pos q] at h; exact Or.inr (Option.some.inj h).symm
  · rw [if_neg q] at h; exact Or.inl (Option.some.inj h).symm
theorem t01_two {o : Nat} (ho : 5 ≤ o ∧ o ≤ 7) : dn_01 (dn_two o f g) := by
  intro env v h
  unfold dn_two at h
  cases hf : f env with
  | none => rw [hf] at h; cases h
  | some x =>
    cases hg : g env with
    | none => rw [hf, hg] at h; cases h
    | some y =>
      rw [hf, hg] at h
      have h : dn_op o x y = some v := h
      have : o = 5 ∨ o = 6 ∨ o = 7 := by omega
      rcases this with rfl | rfl | rfl
      · exact x01 (c := x < y) h
      · exact x01 (c := y < x) h
      · exact x01 (c := x = y) h
theorem t01_both {c : Int64} (h1 : dn_01 f) (h2 : dn_01 g) : dn_01 (dn_both c f g) := by
  intro env v h
  unfold dn_both at h
  cases hf : f env with
  | none => rw [hf] at h; cases h
  | some x =>
    rw [hf] at h
    have h : (if x = c then some x else g env) = some v := h
    by_cases q : x = c
    · rw [if_pos q] at h
      rw [← Option.some.inj h]
      exact h1 env x hf
    · rw [if_neg q] at h; exact h2 env v h
theorem t01_not (h1 : dn_01 f) : dn_01 (dn_not f) := by
  intro env v h
  unfold dn_not at h
  cases hf : f env with
  | none => rw [hf] at h; cases h
  | some x =>
    rw [hf] at h
    have h : some (1 - x) = some v := h
    rw [← Option.some.inj h]
    rcases h1 env x hf with rfl | rfl
    · exact Or.inr rfl
    · exact Or.inl rfl
theorem not_not (f : dn) : dn_not (dn_not f) = f := by
  funext env
  unfold dn_not
  cases f env with
  | none => rfl
  | some x =>
    show some (1 - (1 - x)) = some x
    rw [Int64.sub_eq_add_neg (a := 1), Int64.neg_sub, Int64.add_comm, Int64.sub_add_cancel]
theorem kd_in {p : Nat} (h : p ≤ L) (hk : lx_kd T L p ≠ 257) : p < L := by
  rcases Nat.lt_or_eq_of_le h with h | h
  · exact h
  · rw [h, kd_L] at hk; exact absurd rfl hk
theorem nx_in {p : Nat} (h : p ≤ L) (hk : lx_kd T L p ≠ 257) : p < lx_nx T L p ∧ lx_nx T L p ≤ L := by
  have := nx_rng (T := T) h
  exact ⟨this.2.2 (kd_in h hk), this.2.1⟩
theorem or_bit {a n N : Nat} : (a ||| 2 ^ n).testBit N = (a.testBit N || decide (n = N)) := by rw [Nat.testBit_or, Nat.testBit_two_pow]
end SK
