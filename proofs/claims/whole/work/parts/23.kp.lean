/-! what a method leaves as it was; lists of (sort, field) of what may change: of a row all of it -/
def am_hit (W : List (Nat × Nat)) (c k : Nat) : Bool := W.any (fun q => Nat.beq q.1 c && (Nat.ble 20 c || Nat.beq q.2 k))
def am_ee (E : Nat) (e e' : am_e) : Prop := match E with
  | 0 => e' = e
  | 1 => e'.2.2 = e.2.2
  | 2 => e'.2.2.2 = e.2.2.2
  | _ => e'.2.2.2.2 = e.2.2.2.2
def am_kp (WI WL : List (Nat × Nat)) (E : Nat) (m m' : am_m) : Prop := (∀ c n k, am_hit WI c k = false → m'.1 c n k = m.1 c n k) ∧ (∀ c n k, am_hit WL c k = false → m'.2.1 c n k = m.2.1 c n k) ∧ am_ee E m.2.2 m'.2.2
theorem am_ee.rf {E : Nat} {e : am_e} : am_ee E e e := by
  rcases E with _ | _ | _ | E <;> exact rfl
theorem am_ee.tr {E : Nat} {a b c : am_e} (h : am_ee E a b) (g : am_ee E b c) : am_ee E a c := by
  rcases E with _ | _ | _ | E <;> exact Eq.trans g h
theorem am_ee.up {E : Nat} {a b : am_e} (h : am_ee E a b) : am_ee (E + 1) a b := by
  rcases E with _ | _ | _ | E
  · have h : b = a := h
    show b.2.2 = a.2.2
    rw [h]
  · have h : b.2.2 = a.2.2 := h
    show b.2.2.2 = a.2.2.2
    rw [h]
  · have h : b.2.2.2 = a.2.2.2 := h
    show b.2.2.2.2 = a.2.2.2.2
    rw [h]
  · exact h
theorem am_ee.mono {E E' : Nat} {a b : am_e} (h : am_ee E a b) (hE : Nat.ble E E' = true) : am_ee E' a b := by
  obtain ⟨d, rfl⟩ : ∃ d, E' = E + d := ⟨E' - E, by have := Nat.le_of_ble_eq_true hE; omega⟩
  clear hE
  induction d with
  | zero => exact h
  | succ d ih => exact ih.up
section KP
variable {WI WL WI' WL' : List (Nat × Nat)} {E E' : Nat} {m m1 m2 : am_m}
theorem am_hit_ne {W : List (Nat × Nat)} {c k c' n n' k' : Nat} (h : am_hit W c k = true) (h' : am_hit W c' k' = false) : ¬ (c' = c ∧ n' = n ∧ k' = k) := by
  rintro ⟨rfl, -, rfl⟩
  rw [h] at h'
  cases h'
theorem am_hit_row {W : List (Nat × Nat)} {c k c' k' : Nat} (h : am_hit W c k = true) (hc : Nat.ble 20 c = true) (h' : am_hit W c' k' = false) : ¬ c' = c := by
  rintro rfl
  have e : am_hit W c' k' = am_hit W c' k := by
    unfold am_hit
    simp only [hc, Bool.true_or]
  rw [e, h] at h'
  cases h'
theorem am_kp.rf : am_kp WI WL E m m := ⟨fun _ _ _ _ => rfl, fun _ _ _ _ => rfl, am_ee.rf⟩
theorem am_kp.tr (h : am_kp WI WL E m m1) (g : am_kp WI WL E m1 m2) : am_kp WI WL E m m2 := ⟨fun c n k hk => (g.1 c n k hk).trans (h.1 c n k hk), fun c n k hk => (g.2.1 c n k hk).trans (h.2.1 c n k hk), h.2.2.tr g.2.2⟩
theorem am_u3_nq {α : Type} {f : Nat → Nat → Nat → α} {a b k : Nat} {v : α} {x y z : Nat} (h : ¬ (x = a ∧ y = b ∧ z = k)) : am_u3 f a b k v x y z = f x y z := by
  unfold am_u3
  by_cases h1 : x = a
  · by_cases h2 : y = b
    · by_cases h3 : z = k
      · exact absurd ⟨h1, h2, h3⟩ h
      · rw [if_pos h1, if_pos h2, if_neg h3]
    · rw [if_pos h1, if_neg h2]
  · rw [if_neg h1]
theorem am_kp.si {c n k : Nat} {v : Int32} (h : am_kp WI WL E m m1) (hw : am_hit WI c k = true) : am_kp WI WL E m (am_si m1 c n k v) := ⟨fun c' n' k' hk => (am_u3_nq (am_hit_ne hw hk)).trans (h.1 c' n' k' hk), h.2.1, h.2.2⟩
theorem am_kp.sg {c n k : Nat} {v : Int64} (h : am_kp WI WL E m m1) (hw : am_hit WL c k = true) : am_kp WI WL E m (am_sg m1 c n k v) := ⟨h.1, fun c' n' k' hk => (am_u3_nq (am_hit_ne hw hk)).trans (h.2.1 c' n' k' hk), h.2.2⟩
theorem am_kp.sc {c0 n0 c1 n1 sp dp n : Nat} (h : am_kp WI WL E m m1) (hw : (am_hit WI c1 0 && Nat.ble 20 c1) = true) : am_kp WI WL E m (am_sc m1 c0 n0 c1 n1 sp dp n) := by
  rw [Bool.and_eq_true] at hw
  exact ⟨fun c' n' k' hk => (congrFun (am_u2_ne (fun q => am_hit_row hw.1 hw.2 hk q.1)) k').trans (h.1 c' n' k' hk), h.2.1, h.2.2⟩
theorem am_kp.sa {v : Option Nat} (h : am_kp WI WL E m m1) (hw : Nat.ble 1 E = true) : am_kp WI WL E m (am_sa m1 v) := ⟨h.1, h.2.1, h.2.2.tr (am_ee.mono (E := 1) rfl hw)⟩
theorem am_kp.sb {v : Option Nat} (h : am_kp WI WL E m m1) (hw : Nat.ble 1 E = true) : am_kp WI WL E m (am_sb m1 v) := ⟨h.1, h.2.1, h.2.2.tr (am_ee.mono (E := 1) rfl hw)⟩
theorem am_kp.ss {n k : Nat} {v : Option Nat} (h : am_kp WI WL E m m1) (hw : Nat.ble 2 E = true) : am_kp WI WL E m (am_ss m1 n k v) := ⟨h.1, h.2.1, h.2.2.tr (am_ee.mono (E := 2) rfl hw)⟩
theorem am_kp.su {n k : Nat} {v : Option Nat} (h : am_kp WI WL E m m1) (hw : Nat.ble 3 E = true) : am_kp WI WL E m (am_su m1 n k v) := ⟨h.1, h.2.1, h.2.2.tr (am_ee.mono (E := 3) rfl hw)⟩
def am_sub (A B : List (Nat × Nat)) : Bool := A.all (fun q => am_hit B q.1 q.2)
theorem am_sub_hit {A B : List (Nat × Nat)} (hs : am_sub A B = true) {c k : Nat} (h : am_hit B c k = false) : am_hit A c k = false := by
  cases hA : am_hit A c k with
  | false => rfl
  | true =>
    exfalso
    obtain ⟨q, hq, hh⟩ := List.any_eq_true.mp hA
    rw [Bool.and_eq_true] at hh
    have e1 : q.1 = c := Nat.eq_of_beq_eq_true hh.1
    have h2 := List.all_eq_true.mp hs q hq
    have h2 : am_hit B q.1 q.2 = true := h2
    rw [e1] at h2
    cases hc : Nat.ble 20 c with
    | true => exact am_hit_row h2 hc h rfl
    | false =>
      rw [hc, Bool.false_or] at hh
      have e2 : q.2 = k := Nat.eq_of_beq_eq_true hh.2
      rw [e2, h] at h2
      cases h2
theorem am_kp.mono (h : am_kp WI WL E m m1) (hs : (am_sub WI WI' && (am_sub WL WL' && Nat.ble E E')) = true) : am_kp WI' WL' E' m m1 := by
  rw [Bool.and_eq_true, Bool.and_eq_true] at hs
  exact ⟨fun c n k hk => h.1 c n k (am_sub_hit hs.1 hk), fun c n k hk => h.2.1 c n k (am_sub_hit hs.2.1 hk), h.2.2.mono hs.2.2⟩
end KP
