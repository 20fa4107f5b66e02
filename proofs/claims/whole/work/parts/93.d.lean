/-! the class's reader: joins, numbers and words -/
section CD
variable {T : Nat → Nat} {L n p : Nat} {m m' : am_m} {ord : Bool} {c c2 : rcd} {a a0 a1 lv aw dep : Nat} {f g : dn} {h h' : Nat}
theorem kd_286 (hT : ∀ k, k < L → T k < 256) (hp : p ≤ L) : lx_kd T L p ≤ 286 := by
  by_cases e : p < L
  · exact (kd_lt e (hT p e)).2
  · rw [show p = L by omega, kd_L]; decide
theorem csg.cong (hs : csg ord c2 a0 a1 f h) (he : ∀ k, k < a1 → c k = c2 k) : csg ord c a0 a1 f h := ⟨fun k h1 h2 => by rw [he k h2]; exact hs.1 k h1 h2, hs.2.cong (fun k _ h2 => by show cc_dec (c k).1 (c k).2 = _; rw [he k h2])⟩
theorem csg_two {k : Nat} (hk : k = 43 ∨ k = 45 ∨ k = 42 ∨ k = 47 ∨ k = 37 ∨ k = 60 ∨ k = 62 ∨ k = 61) (h1 : csg ord c2 a0 a1 f h) (h2 : csg ord c a1 a g h') (hc : ∀ j, j < a1 → c j = c2 j) : csg ord (rcu c a (k, 0)) a0 (a + 1) (dn_two (sp_o k) f g) (h + h') := by
  have l1 := h1.2.1
  have l2 := h2.2.1
  have kd : ccok ord (k, 0) ∧ cc_dec k 0 = (sp_o k + 2, 0) ∧ sp_o k < 8 := by
    rcases hk with rfl | rfl | rfl | rfl | rfl | rfl | rfl | rfl <;> refine ⟨⟨by decide, Nat.zero_le _, by decide, fun z => absurd z (by decide)⟩, by decide, by decide⟩
  have s1 := h1.cong (c := rcu c a (k, 0)) (fun j hj => by rw [rcu_ne (by omega), hc j hj])
  have s2 := h2.cong (c := rcu c a (k, 0)) (fun j hj => rcu_ne (by omega))
  refine ⟨fun j j1 j2 => ?_, s1.2.two kd.2.2 s2.2 ?_⟩
  · by_cases e : j = a
    · rw [e, rcu_eq]; exact kd.1
    · by_cases q : j < a1
      · exact s1.1 j j1 q
      · exact s2.1 j (by omega) (by omega)
  · show (cc_dec (rcu c a (k, 0) a).1 (rcu c a (k, 0) a).2).1 = _
    rw [rcu_eq]
    show (cc_dec k 0).1 = _
    rw [kd.2.1]
theorem csg_not (h2 : csg ord c a0 a g h') : csg ord (rcu c a (261, 0)) a0 (a + 1) (dn_not g) h' := by
  have l2 := h2.2.1
  have s2 := h2.cong (c := rcu c a (261, 0)) (fun j hj => rcu_ne (by omega))
  refine ⟨fun j j1 j2 => ?_, s2.2.not ?_⟩
  · by_cases e : j = a
    · rw [e, rcu_eq]; exact ⟨by decide, by decide, by decide, fun z => absurd z (by decide)⟩
    · exact s2.1 j j1 (by omega)
  · show (cc_dec (rcu c a (261, 0) a).1 (rcu c a (261, 0) a).2).1 = _
    rw [rcu_eq]
    rfl
theorem csg_both {t : Nat} {sg : Int64} (ht : t = 260 ∧ sg = 0 ∨ t = 259 ∧ sg = 1) (h1 : csg ord c2 a0 a1 f h) (h2 : csg ord c (a1 + 1) a g h') (hc : ∀ j, j < a1 → c j = c2 j) (ha : a ≤ 1000) : csg ord (rcu c a1 (t, a)) a0 a (dn_both sg f g) (h + h') := by
  have l1 := h1.2.1
  have l2 := h2.2.1
  have s1 := h1.cong (c := rcu c a1 (t, a)) (fun j hj => by rw [rcu_ne (by omega), hc j hj])
  have s2 : ab_seg (fun k => cc_dec (rcu c a1 (t, a) k).1 (rcu c a1 (t, a) k).2) (a1 + 1) a g h' := h2.2.cong (fun k k1 _ => by
    show cc_dec (rcu c a1 (t, a) k).1 (rcu c a1 (t, a) k).2 = _
    rw [rcu_ne (by omega)])
  have dc : cc_dec t a = (if t = 260 then 11 else 12, a) := by rcases ht with ⟨rfl, -⟩ | ⟨rfl, -⟩ <;> rfl
  refine ⟨fun j j1 j2 => ?_, s1.2.both (t := if t = 260 then 11 else 12) ?_ ?_ s2⟩
  · by_cases e : j = a1
    · rw [e, rcu_eq]
      refine ⟨by show t < 512; omega, ha, ?_, fun z => by have z : t = 258 := z; omega⟩
      show (cc_dec t a).1 < 13
      rw [dc]
      rcases ht with ⟨rfl, -⟩ | ⟨rfl, -⟩
      · exact (by decide : 11 < 13)
      · exact (by decide : 12 < 13)
    · by_cases q : j < a1
      · exact s1.1 j j1 q
      · rw [rcu_ne e]; exact h2.1 j (by omega) (by omega)
  · rcases ht with ⟨rfl, rfl⟩ | ⟨rfl, rfl⟩
    · exact Or.inl ⟨rfl, rfl⟩
    · exact Or.inr ⟨rfl, rfl⟩
  · show cc_dec (rcu c a1 (t, a) a1).1 (rcu c a1 (t, a) a1).2 = _
    rw [rcu_eq]; exact dc
theorem cskip {t : Nat} (ht : t < 512) (hm : cmm T L n ord m c a p lv aw) (h1 : a1 < a) (ha : a ≤ 448) : ∃ m', fn_X5_skipToHere 0 (nI a1) (nI t) m = some m' ∧ cmm T L n ord m' (rcu c a1 (t, a)) a p lv aw := by
  obtain ⟨hx, ⟨c1, c2, c3⟩, hl, ho, hw4⟩ := hm
  have k : am_kp [(29, 0)] [] 0 m (am_si m 29 0 a1 (nI (512 * a + t))) := am_kp.si am_kp.rf rfl
  refine ⟨am_si m 29 0 a1 (nI (512 * a + t)), ?_, hx.kp k rfl, ⟨c1, c2, fun j hj => ?_⟩, hl, ho, hw4⟩
  · unfold fn_X5_skipToHere
    rw [if_neg (nI_pos (by omega)), c1, if_neg (nI_ge (by omega) (by omega)), c2, ck_in (by omega) (by decide), nI_clamp (by omega), ccell ht]
  · rw [rd_j]
    unfold rcu
    by_cases e : j = a1
    · rw [if_pos e, if_pos e]
    · rw [if_neg e, if_neg e]; exact c3 j hj
theorem csg_wd {x : Nat} (hx : x < if ord then 19 else 8) : csg ord (rcu c a (258, x)) a (a + 1) (fun env => some (env x)) 1 := by
  have hx2 : x ≤ 1000 := by cases ord <;> simp at hx <;> omega
  refine ⟨fun j j1 j2 => ?_, ab_seg.word ?_⟩
  · rw [show j = a by omega, rcu_eq]; exact ⟨by show 258 < 512; decide, hx2, by show (cc_dec 258 x).1 < 13; exact (by decide : 1 < 13), fun _ => hx⟩
  · show cc_dec (rcu c a (258, x) a).1 (rcu c a (258, x) a).2 = _
    rw [rcu_eq]; rfl
theorem csg_nm {x : Nat} (hx : x ≤ 1000) : csg ord (rcu c a (256, x)) a (a + 1) (fun _ => some (lN x)) 1 := by
  refine ⟨fun j j1 j2 => ?_, ab_seg.num ?_⟩
  · rw [show j = a by omega, rcu_eq]; exact ⟨by show 256 < 512; decide, hx, by show (cc_dec 256 x).1 < 13; exact (by decide : 0 < 13), fun z => absurd (show 256 = 258 from z) (by decide)⟩
  · show cc_dec (rcu c a (256, x) a).1 (rcu c a (256, x) a).2 = _
    rw [rcu_eq]; rfl
end CD
