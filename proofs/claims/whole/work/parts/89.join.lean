/-! what was read is joined -/
section JN
variable {ord : Bool} {P P' : rcd} {l l' s0 b0 s b b2 : Nat} {c c2 c3 : rcd} {f g : dn} {h h' : Nat}
/-- it is written down from b0 to b2 -/
def rsg (ord : Bool) (c2 : rcd) (b0 b2 : Nat) (f : dn) (h : Nat) : Prop := (∀ k, b0 ≤ k → k < b2 → rc_ok ord (c2 k).1 (c2 k).2) ∧ ab_seg (fun k => rc_dec ord (c2 k).1 (c2 k).2) b0 b2 f h
theorem rsg.cong (hs : rsg ord c2 b0 b2 f h) (he : ∀ k, k < b2 → c3 k = c2 k) : rsg ord c3 b0 b2 f h := ⟨fun k h1 h2 => by rw [he k h2]; exact hs.1 k h1 h2, hs.2.cong (fun k _ h2 => by show rc_dec ord (c3 k).1 (c3 k).2 = _; rw [he k h2])⟩
theorem rv.of (hs : rsg ord c b0 b f h) : rv ord P l s b0 s c b f h := ⟨Nat.le_refl _, c, b, stl_low (Nat.le_refl _), fun _ _ => rfl, hs.1, hs.2⟩
theorem rv.out (hr : rv ord P l s0 b0 s c b f h) : ∃ c2 b2, stl P l s0 s c b = (s0, c2, b2) ∧ (∀ k, k < b0 → c2 k = c k) ∧ rsg ord c2 b0 b2 f h := by
  obtain ⟨h1, c2, b2, h2, h3, h4, h5⟩ := hr
  exact ⟨c2, b2, h2, h3, h4, h5⟩
/-- the reference's settling stops where it should -/
theorem rv.real (hr : rv ord P l s0 b0 s c b f h) (hb : s0 = 0 ∨ bnd (P (s0 - 1)).1 < l) : ∃ c2 b2, stl P l 0 s c b = (s0, c2, b2) ∧ (∀ k, k < b0 → c2 k = c k) ∧ rsg ord c2 b0 b2 f h := by
  obtain ⟨c2, b2, h2, h3, h4⟩ := hr.out
  refine ⟨c2, b2, ?_, h3, h4⟩
  rw [stl_stl (Nat.zero_le s0) (Nat.le_refl l) s c b, h2]
  exact stl_bdry hb
theorem rv_two {o : Nat} (ho : o < 8) (h1 : rsg ord c2 b0 b2 f h) (hb0 : b0 ≤ b2) (hP : P s0 = (20 + o, 0)) (hr : rv ord P l' (s0 + 1) b2 s c b g h') (hc : ∀ k, k < b2 → c k = c2 k) (hl : l ≤ l') (hlo : l ≤ bnd (20 + o)) : rv ord P l s0 b0 s c b (dn_two o f g) (h + h') := by
  obtain ⟨d1, d2, e1, e2, e3⟩ := hr.out
  have hs := hr.1
  have e4 : ∀ k, k < b2 → d1 k = c2 k := fun k hk => by rw [e2 k hk, hc k hk]
  have l1 := h1.2.1
  have l2 := e3.2.1
  refine ⟨by omega, rcu d1 d2 (20 + o, 0), d2 + 1, ?_, fun k hk => ?_, fun k k1 k2 => ?_, ?_⟩
  · rw [stl_stl (Nat.le_succ s0) hl s c b, e1, stl, if_neg (by omega), hP, if_neg (by show ¬ bnd (20 + o) < l; omega), if_neg (by show ¬ (20 + o = 29 ∨ 20 + o = 30); omega)]
    exact stl_low (Nat.le_refl _)
  · rw [rcu_ne (by omega), e2 k (by omega)]
  · by_cases ek : k = d2
    · rw [ek, rcu_eq]
      exact ⟨by show 20 + o ≤ 30; omega, by show 0 ≤ 1000; omega, fun z => by have z : 20 + o < 20 := z; omega⟩
    · rw [rcu_ne ek]
      by_cases q : k < b2
      · rw [e4 k q]; exact h1.1 k k1 q
      · exact e3.1 k (by omega) (by omega)
  · have s1 : ab_seg (fun k => rc_dec ord (rcu d1 d2 (20 + o, 0) k).1 (rcu d1 d2 (20 + o, 0) k).2) b0 b2 f h := h1.2.cong (fun k _ k2 => by
      show rc_dec ord (rcu d1 d2 (20 + o, 0) k).1 (rcu d1 d2 (20 + o, 0) k).2 = _
      rw [rcu_ne (by omega), e4 k k2])
    have s2 : ab_seg (fun k => rc_dec ord (rcu d1 d2 (20 + o, 0) k).1 (rcu d1 d2 (20 + o, 0) k).2) b2 d2 g h' := e3.2.cong (fun k _ k2 => by
      show rc_dec ord (rcu d1 d2 (20 + o, 0) k).1 (rcu d1 d2 (20 + o, 0) k).2 = _
      rw [rcu_ne (by omega)])
    refine s1.two ho s2 ?_
    show (rc_dec ord (rcu d1 d2 (20 + o, 0) d2).1 (rcu d1 d2 (20 + o, 0) d2).2).1 = o + 2
    rw [rcu_eq]
    unfold rc_dec
    rw [if_neg (by show ¬ 20 + o = 0; omega), if_neg (by show ¬ 20 + o < 20; omega), if_pos (by show 20 + o < 28; omega)]
    show 20 + o - 18 = o + 2
    omega
theorem rv_not (hP : P s0 = (28, 0)) (hr : rv ord P l' (s0 + 1) b0 s c b g h') (hl : l ≤ l') (hlo : l ≤ 3) : rv ord P l s0 b0 s c b (dn_not g) h' := by
  obtain ⟨d1, d2, e1, e2, e3⟩ := hr.out
  have hs := hr.1
  have l2 := e3.2.1
  refine ⟨by omega, rcu d1 d2 (28, 0), d2 + 1, ?_, fun k hk => ?_, fun k k1 k2 => ?_, ?_⟩
  · rw [stl_stl (Nat.le_succ s0) hl s c b, e1, stl, if_neg (by omega), hP, if_neg (by show ¬ 3 < l; omega), if_neg (by decide)]
    exact stl_low (Nat.le_refl _)
  · rw [rcu_ne (by omega), e2 k (by omega)]
  · by_cases ek : k = d2
    · rw [ek, rcu_eq]
      exact ⟨by decide, by decide, fun z => absurd z (by decide)⟩
    · rw [rcu_ne ek]; exact e3.1 k (by omega) (by omega)
  · have s2 : ab_seg (fun k => rc_dec ord (rcu d1 d2 (28, 0) k).1 (rcu d1 d2 (28, 0) k).2) b0 d2 g h' := e3.2.cong (fun k _ k2 => by
      show rc_dec ord (rcu d1 d2 (28, 0) k).1 (rcu d1 d2 (28, 0) k).2 = _
      rw [rcu_ne (by omega)])
    refine s2.not ?_
    show (rc_dec ord (rcu d1 d2 (28, 0) d2).1 (rcu d1 d2 (28, 0) d2).2).1 = 10
    rw [rcu_eq]
    rfl
theorem rv_both {o : Nat} {sg : Int64} (ho : o = 29 ∧ sg = 0 ∨ o = 30 ∧ sg = 1) (h1 : rsg ord c2 b0 b2 f h) (hP : P s0 = (o, b2)) (hr : rv ord P l' (s0 + 1) (b2 + 1) s c b g h') (hc : ∀ k, k < b2 → c k = c2 k) (hcb : (c b2).1 = o) (hl : l ≤ l') (hlo : l ≤ bnd o) (h400 : b + (s - s0) ≤ 1000) (hv : rvl P s b) (h1l : 1 ≤ l') : rv ord P l s0 b0 s c b (dn_both sg f g) (h + h') := by
  obtain ⟨d1, d2, e1, e2, e3⟩ := hr.out
  have hs := hr.1
  have e4 : ∀ k, k < b2 → d1 k = c2 k := fun k hk => by rw [e2 k (by omega), hc k hk]
  have l1 := h1.2.1
  have l2 := e3.2.1
  have o2 : o = 29 ∨ o = 30 := by omega
  have d2le : d2 ≤ 1000 := by
    have a := stl_pend (P := P) (l := l') (s0 := s0 + 1) s c b (fun i hi => (hv i hi).2.1) h1l
    rw [e1] at a
    have a : d2 + pend P (s0 + 1) = b + pend P s := a.1
    have pl : ∀ j, s0 + 1 ≤ j → pend P j ≤ pend P (s0 + 1) + (j - (s0 + 1)) := by
      intro j
      induction j with
      | zero => intro q; omega
      | succ j ih =>
        intro q
        by_cases e : s0 + 1 = j + 1
        · rw [e]; omega
        · have := ih (by omega)
          rw [pend]
          split <;> omega
    have := pl s hs
    omega
  have hd : (d1 b2).1 = o := by rw [e2 b2 (by omega)]; exact hcb
  refine ⟨by omega, rcu d1 b2 (o, d2), d2, ?_, fun k hk => ?_, fun k k1 k2 => ?_, ?_⟩
  · rw [stl_stl (Nat.le_succ s0) hl s c b, e1, stl, if_neg (by omega), hP, if_neg (by show ¬ bnd o < l; omega), if_pos o2]
    show stl P l s0 s0 (rcu d1 b2 ((d1 b2).1, d2)) d2 = _
    rw [hd]
    exact stl_low (Nat.le_refl _)
  · rw [rcu_ne (by omega), e2 k (by omega)]
  · by_cases ek : k = b2
    · rw [ek, rcu_eq]
      exact ⟨by show o ≤ 30; omega, d2le, fun z => by have z : o < 20 := z; omega⟩
    · rw [rcu_ne ek]
      by_cases q : k < b2
      · rw [e4 k q]; exact h1.1 k k1 q
      · exact e3.1 k (by omega) (by omega)
  · have s1 : ab_seg (fun k => rc_dec ord (rcu d1 b2 (o, d2) k).1 (rcu d1 b2 (o, d2) k).2) b0 b2 f h := h1.2.cong (fun k _ k2 => by
      show rc_dec ord (rcu d1 b2 (o, d2) k).1 (rcu d1 b2 (o, d2) k).2 = _
      rw [rcu_ne (by omega), e4 k k2])
    have s2 : ab_seg (fun k => rc_dec ord (rcu d1 b2 (o, d2) k).1 (rcu d1 b2 (o, d2) k).2) (b2 + 1) d2 g h' := e3.2.cong (fun k k1 _ => by
      show rc_dec ord (rcu d1 b2 (o, d2) k).1 (rcu d1 b2 (o, d2) k).2 = _
      rw [rcu_ne (by omega)])
    refine s1.both (t := if o = 29 then 11 else 12) ?_ ?_ s2
    · rcases ho with ⟨rfl, rfl⟩ | ⟨rfl, rfl⟩
      · exact Or.inl ⟨rfl, rfl⟩
      · exact Or.inr ⟨rfl, rfl⟩
    · show rc_dec ord (rcu d1 b2 (o, d2) b2).1 (rcu d1 b2 (o, d2) b2).2 = _
      rw [rcu_eq]
      rcases ho with ⟨rfl, rfl⟩ | ⟨rfl, rfl⟩ <;> rfl
end JN
