/-! reading the memory; numbers as they stand in it -/
def nv (x : Int32) : Nat := x.toNatClampNeg
theorem nv_nI {n : Nat} (h : n < 2 ^ 31) : nv (nI n) = n := nI_clamp h
theorem nI_nv {x : Int32} (h : ¬ x < 0) : x = nI (nv x) := by
  obtain ⟨j, hj, rfl⟩ := nI_of h
  rw [nv_nI hj]
theorem nv_lt (x : Int32) : nv x < 2 ^ 31 := by
  by_cases h : x < 0
  · have h1 := fb_rng x
    show x.toInt.toNat < 2 ^ 31
    omega
  · obtain ⟨j, hj, rfl⟩ := nI_of h
    rw [nv_nI hj]
    exact hj
theorem ck_in {α : Type} {n N : Nat} {o : Option α} (h : n < N) (hN : N < 2 ^ 31) : am_ck (nI n) N o = o := if_neg (nI_in h hN)
theorem gd_t {α : Type} {c : Prop} [Decidable c] {o : Option α} (h : c) : am_gd c o = o := if_pos h
theorem bd_s {α β : Type} {a : α} {f : α → Option β} : (some a).bind f = f a := rfl
theorem bd_e {α β : Type} {o : Option α} {a : α} {f : α → Option β} (h : o = some a) : o.bind f = f a := by rw [h]; rfl
theorem if_iff {α : Type} {p q : Prop} [Decidable p] [Decidable q] (h : p ↔ q) {a b : α} : (if p then a else b) = if q then a else b := by
  by_cases hp : p
  · rw [if_pos hp, if_pos (h.mp hp)]
  · rw [if_neg hp, if_neg (fun z => hp (h.mpr z))]
section RD
variable {m : am_m} {c n k c' n' k' : Nat} {v : Int32} {w : Int64}
theorem rd_si : (am_si m c n k v).1 c' n' k' = if c' = c ∧ n' = n ∧ k' = k then v else m.1 c' n' k' := by
  show am_u3 m.1 c n k v c' n' k' = _
  unfold am_u3
  by_cases h1 : c' = c
  · by_cases h2 : n' = n
    · by_cases h3 : k' = k
      · rw [if_pos h1, if_pos h2, if_pos h3, if_pos ⟨h1, h2, h3⟩]
      · rw [if_pos h1, if_pos h2, if_neg h3, if_neg (fun q => h3 q.2.2)]
    · rw [if_pos h1, if_neg h2, if_neg (fun q => h2 q.2.1)]
  · rw [if_neg h1, if_neg (fun q => h1 q.1)]
theorem rd_sg : (am_sg m c n k w).2.1 c' n' k' = if c' = c ∧ n' = n ∧ k' = k then w else m.2.1 c' n' k' := by
  show am_u3 m.2.1 c n k w c' n' k' = _
  unfold am_u3
  by_cases h1 : c' = c
  · by_cases h2 : n' = n
    · by_cases h3 : k' = k
      · rw [if_pos h1, if_pos h2, if_pos h3, if_pos ⟨h1, h2, h3⟩]
      · rw [if_pos h1, if_pos h2, if_neg h3, if_neg (fun q => h3 q.2.2)]
    · rw [if_pos h1, if_neg h2, if_neg (fun q => h2 q.2.1)]
  · rw [if_neg h1, if_neg (fun q => h1 q.1)]
theorem rd_sig : (am_si m c n k v).2.1 = m.2.1 := rfl
theorem rd_sie : (am_si m c n k v).2.2 = m.2.2 := rfl
theorem rd_sgi : (am_sg m c n k w).1 = m.1 := rfl
theorem rd_sge : (am_sg m c n k w).2.2 = m.2.2 := rfl
theorem rd_sc {c0 n0 sp dp j : Nat} : (am_sc m c0 n0 c n sp dp j).1 c' n' k' = if c' = c ∧ n' = n then va_cpy (m.1 c0 n0) (m.1 c n) sp dp j k' else m.1 c' n' k' := by
  show am_u2 m.1 c n _ c' n' k' = _
  unfold am_u2
  by_cases h1 : c' = c
  · by_cases h2 : n' = n
    · rw [if_pos h1, if_pos h2, if_pos ⟨h1, h2⟩]
    · rw [if_pos h1, if_neg h2, if_neg (fun q => h2 q.2)]
  · rw [if_neg h1, if_neg (fun q => h1 q.1)]
theorem rd_scg {c0 n0 sp dp j : Nat} : (am_sc m c0 n0 c n sp dp j).2 = m.2 := rfl
end RD
section FR
variable {WI WL : List (Nat × Nat)} {E : Nat} {m m' : am_m}
theorem am_hit_any {W : List (Nat × Nat)} {c : Nat} (hc : Nat.ble 20 c = true) (k : Nat) : am_hit W c k = am_hit W c 0 := by
  unfold am_hit
  simp only [hc, Bool.true_or]
/-- a row of the memory that isn't touched -/
theorem am_kp.row (h : am_kp WI WL E m m') (c : Nat) (hc : (Nat.ble 20 c && !am_hit WI c 0) = true) : m'.1 c = m.1 c := by
  rw [Bool.and_eq_true] at hc
  funext n k
  refine h.1 c n k ?_
  rw [am_hit_any hc.1]
  exact (Bool.not_eq_true' _).mp hc.2
theorem am_kp.fld (h : am_kp WI WL E m m') (c n k : Nat) (hc : am_hit WI c k = false) : m'.1 c n k = m.1 c n k := h.1 c n k hc
theorem am_kp.rowL (h : am_kp WI WL E m m') (c : Nat) (hc : (Nat.ble 20 c && !am_hit WL c 0) = true) : m'.2.1 c = m.2.1 c := by
  rw [Bool.and_eq_true] at hc
  funext n k
  refine h.2.1 c n k ?_
  rw [am_hit_any hc.1]
  exact (Bool.not_eq_true' _).mp hc.2
theorem am_kp.fldL (h : am_kp WI WL E m m') (c n k : Nat) (hc : am_hit WL c k = false) : m'.2.1 c n k = m.2.1 c n k := h.2.1 c n k hc
/-- an object of which no field is touched -/
theorem am_kp.obj (h : am_kp WI WL E m m') (c : Nat) (hc : WI.all (fun q => !Nat.beq q.1 c) = true) : m'.1 c = m.1 c := by
  funext n k
  refine h.1 c n k ?_
  cases e : am_hit WI c k with
  | false => rfl
  | true =>
    obtain ⟨q, hq, hh⟩ := List.any_eq_true.mp e
    rw [Bool.and_eq_true] at hh
    have h2 := List.all_eq_true.mp hc q hq
    rw [hh.1] at h2
    cases h2
end FR
