/-! what can be undone: a deed more -/
def puU (U r : Nat → Int32) (K : Nat) : Nat → Int32 := fun x => if 108 * K ≤ x ∧ x < 108 * K + 108 then r (4 + (x - 108 * K)) else U x
def puS (S : Nat → Int32) (K z : Nat) : Nat → Int32 := fun j => if j = K then nI z else S j
def puD (D d : Nat → Int32) (K : Nat) : Nat → Int32 := fun x => if 13 * K ≤ x ∧ x < 13 * K + 13 then d (x - 13 * K) else D x
def reK (K : Nat) : Nat := if K = 16 then 16 else K + 1
def reU (K : Nat) (U r : Nat → Int32) : Nat → Int32 := if K = 16 then puU (fun x => U (x + 108)) r 15 else puU U r K
def reS (K : Nat) (S : Nat → Int32) (z : Nat) : Nat → Int32 := if K = 16 then puS (fun j => S (j + 1)) 15 z else puS S K z
/-- of the class's cells, of the reference's -/
def cH (K : Nat) (U S r : Nat → Int32) (m : am_m) : Prop := K ≤ 16 ∧ iv_H (m.1 3 0 1) (m.1 24 0) (nI K) U S r
def rH (K : Nat) (U S : Nat → Int32) (m : am_m) : Prop := m.1 10 0 8 = nI K ∧ (∀ x, x < 108 * K → m.1 46 0 x = U x) ∧ ∀ j, j < K → m.1 47 0 j = S j
/-- a deed as the class keeps it -/
def dR (z : Nat) (a b w s : Int32) (r : Nat → Int32) : Nat → Int32 := fun i => if i = 0 then nI z else if i = 1 then a else if i = 2 then b else if i = 3 then w else if i = 4 then s else if i = 5 then r 4 else r (7 + (i - 6))
section HS
variable {m : am_m} {K z : Nat} {U S r r' : Nat → Int32}
theorem nI_K {a b : Nat} (ha : a ≤ 16) (hb : b ≤ 16) (h : nI a = nI b) : a = b := (nI_eq (by omega) (by omega)).mp h
theorem iv_step.cong {n : Nat} {a a' b b' d d' : Nat → Int32} (h : iv_step n a b d) (ha : ∀ i, i < 108 → a' i = a i) (hb : ∀ i, i < 108 → b' i = b i) (hd : ∀ i, i < 13 → d' i = d i) : iv_step n a' b' d' := by
  obtain ⟨h1, h2, h3, h4, h5⟩ := h
  refine ⟨by rw [ha 1 (by omega), hb 1 (by omega)]; exact h1, by rw [ha 2 (by omega), hb 2 (by omega)]; exact h2, by rw [hd 5 (by omega), ha 0 (by omega)]; exact h3, fun k hk => by rw [hd _ (by omega), ha _ (by omega)]; exact h4 k hk, fun p q hp hq => ?_⟩
  rw [hd 1 (by omega), hd 2 (by omega), hd 3 (by omega), hd 4 (by omega), ha (10 + (7 * p + q)) (by omega), ha (59 + (7 * p + q)) (by omega), hb (10 + (7 * p + q)) (by omega), hb (59 + (7 * p + q)) (by omega)]
  exact h5 p q hp hq
theorem put_cong {r s s' : Nat → Int32} (h : ∀ i, i < 108 → s' i = s i) : iv_put r s' = iv_put r s := by
  funext k
  unfold iv_put
  by_cases hk : 4 ≤ k ∧ k < 112
  · rw [if_pos hk, if_pos hk]; exact h _ (by omega)
  · rw [if_neg hk, if_neg hk]
theorem iv_H.cong {kept : Int32} {D D' U U' S S' : Nat → Int32} (h : iv_H kept D (nI K) U S r) (hK : K ≤ 16) (hU : ∀ x, x < 108 * K → U' x = U x) (hS : ∀ j, j < K → S' j = S j) (hD : ∀ x, x < 13 * K → D' x = D x) : iv_H kept D' (nI K) U' S' r := by
  obtain ⟨a2, K', a3, a4, a5⟩ := h
  have eK : K = K' := nI_K hK a3 a4
  subst eK
  refine ⟨a2, K, hK, rfl, fun j hj => ?_⟩
  obtain ⟨g1, g2, g3, g4⟩ := a5 j hj
  have eS := hS j hj
  have eU : ∀ i, i < 108 → U' (108 * j + i) = U (108 * j + i) := fun i hi => hU _ (by omega)
  refine ⟨by rw [eS, hD _ (by omega)]; exact g1, by rw [eS]; exact g2, by rw [put_cong eU]; exact g3, g4.cong eU ?_ (fun i hi => hD _ (by omega))⟩
  intro i hi
  by_cases ej : j + 1 = K
  · rw [if_pos ej, if_pos ej]
  · rw [if_neg ej, if_neg ej]; exact hU _ (by omega)
/-- the oldest is forgotten -/
theorem iv_H.drop {kept : Int32} {D : Nat → Int32} (h : iv_H kept D (nI 16) U S r) : iv_H (nI 15) (fun x => D (x + 13)) (nI 15) (fun x => U (x + 108)) (fun j => S (j + 1)) r := by
  obtain ⟨a2, K', a3, a4, a5⟩ := h
  have eK : 16 = K' := nI_K (by decide) a3 a4
  subst eK
  refine ⟨rfl, 15, by decide, rfl, fun j hj => ?_⟩
  obtain ⟨g1, g2, g3, g4⟩ := a5 (j + 1) (by omega)
  have e1 : ∀ i, 108 * (j + 1) + i = 108 * j + i + 108 := fun i => by omega
  have e2 : ∀ i, 13 * (j + 1) + i = 13 * j + i + 13 := fun i => by omega
  refine ⟨by show S (j + 1) = D (13 * j + 13); rw [g1]; rfl, g2, ?_, g4.cong (fun i _ => by show U (108 * j + i + 108) = _; rw [e1]) (fun i hi => ?_) (fun i _ => by show D (13 * j + i + 13) = _; rw [e2])⟩
  · rw [show (fun i => (fun x => U (x + 108)) (108 * j + i)) = (fun i => U (108 * (j + 1) + i)) from funext (fun i => by show U (108 * j + i + 108) = _; rw [e1])]
    exact g3
  · by_cases ej : j + 1 = 15
    · rw [if_pos ej, if_pos (show j + 1 + 1 = 16 by omega)]
    · rw [if_neg ej, if_neg (show ¬ j + 1 + 1 = 16 by omega)]
      show U (108 * (j + 1) + i + 108) = U (108 * (j + 1 + 1) + i)
      rw [show 108 * (j + 1) + i + 108 = 108 * (j + 1 + 1) + i by omega]
/-- one more is kept -/
theorem iv_H.push {kept : Int32} {D d : Nat → Int32} (h : iv_H kept D (nI K) U S r) (hK : K < 16) (hW : iv_W 999 r) (hz : z ≤ 3) (hd0 : d 0 = nI z) (he : ∀ k, (k < 4 ∨ 112 ≤ k) → r' k = r k) (hst : iv_step (nv (r 0)) (fun i => r (4 + i)) (fun i => r' (4 + i)) d) : iv_H (nI (K + 1)) (puD D d K) (nI (K + 1)) (puU U r K) (puS S K z) r' := by
  obtain ⟨a2, K', a3, a4, a5⟩ := h
  have eK : K = K' := nI_K (by omega) a3 a4
  subst eK
  have e0 : r' 0 = r 0 := he 0 (by omega)
  have ep : ∀ s : Nat → Int32, iv_put r' s = iv_put r s := fun s => by
    funext k
    unfold iv_put
    by_cases hk : 4 ≤ k ∧ k < 112
    · rw [if_pos hk, if_pos hk]
    · rw [if_neg hk, if_neg hk]; exact he k (by omega)
  have uN : ∀ j i, j < K → i < 108 → puU U r K (108 * j + i) = U (108 * j + i) := fun j i hj hi => if_neg (by omega)
  have uK : ∀ i, i < 108 → puU U r K (108 * K + i) = r (4 + i) := fun i hi => (if_pos (by omega)).trans (by rw [Nat.add_sub_cancel_left])
  have dN : ∀ j i, j < K → i < 13 → puD D d K (13 * j + i) = D (13 * j + i) := fun j i hj hi => if_neg (by omega)
  have dK : ∀ i, i < 13 → puD D d K (13 * K + i) = d i := fun i hi => (if_pos (by omega)).trans (by rw [Nat.add_sub_cancel_left])
  refine ⟨rfl, K + 1, by omega, rfl, fun j hj => ?_⟩
  by_cases ej : j = K
  · subst ej
    have es : puS S j z j = nI z := if_pos rfl
    refine ⟨by rw [es, ← hd0]; exact (dK 0 (by omega)).symm, ⟨z, hz, es⟩, ?_, ?_⟩
    · rw [ep, put_cong uK]
      have : iv_put r (fun i => r (4 + i)) = r := by
        funext k
        unfold iv_put
        by_cases hk : 4 ≤ k ∧ k < 112
        · rw [if_pos hk]; show r (4 + (k - 4)) = r k; rw [show 4 + (k - 4) = k by omega]
        · rw [if_neg hk]
      rw [this]; exact hW
    · rw [e0, if_pos rfl]
      exact hst.cong uK (fun i _ => rfl) dK
  · obtain ⟨g1, g2, g3, g4⟩ := a5 j (by omega)
    have es : puS S K z j = S j := if_neg ej
    refine ⟨by rw [es, g1]; exact (dN j 0 (by omega) (by omega)).symm, by rw [es]; exact g2, by rw [ep, put_cong (fun i hi => uN j i (by omega) hi)]; exact g3, ?_⟩
    rw [e0, if_neg (show ¬ j + 1 = K + 1 by omega)]
    refine g4.cong (fun i hi => uN j i (by omega) hi) (fun i hi => ?_) (fun i hi => dN j i (by omega) hi)
    by_cases e2 : j + 1 = K
    · rw [if_pos e2, e2]; exact uK i hi
    · rw [if_neg e2]; exact uN (j + 1) i (by omega) hi
/-- both sides as they are between the calls -/
theorem hH.split (h : hH m) : ∃ K, cH K (m.1 46 0) (m.1 47 0) (m.1 44 0) m ∧ rH K (m.1 46 0) (m.1 47 0) m := by
  obtain ⟨h1, K, h2, h3, h4⟩ := h
  exact ⟨K, ⟨h2, ⟨h1.trans h3, K, h2, rfl, h4⟩⟩, h3, fun _ _ => rfl, fun _ _ => rfl⟩
theorem hH.join (h1 : cH K U S (m.1 44 0) m) (h2 : rH K U S m) : hH m := by
  have := iv_H.cong h1.2 h1.1 h2.2.1 h2.2.2 (D' := m.1 24 0) (fun _ _ => rfl)
  unfold hH
  rw [h2.1]
  exact this
theorem keepAll_ok (hK : K ≤ 17) : ∃ m', fn_X10_keepAll (nI K) m = some m' ∧ ∀ x, m'.1 46 0 x = if 108 * K ≤ x ∧ x < 108 * K + 108 then m.1 44 0 (4 + (x - 108 * K)) else m.1 46 0 x := by
  refine (lp_up0 (fun N x a => lp_X10_keepAll_2 N (nI K) x a) (fun i m1 => m1.1 44 = m.1 44 ∧ ∀ x, m1.1 46 0 x = if 108 * K ≤ x ∧ x < 108 * K + i then m.1 44 0 (4 + (x - 108 * K)) else m.1 46 0 x) (fun m' => ∀ x, m'.1 46 0 x = if 108 * K ≤ x ∧ x < 108 * K + 108 then m.1 44 0 (4 + (x - 108 * K)) else m.1 46 0 x) 108 (by decide) (fun N m1 hh => ⟨m1, ?_, hh.2⟩) (fun N i m1 hi hh => Or.inl ⟨am_si m1 46 0 (108 * K + i) (m.1 44 0 (4 + i)), ?_, hh.1, fun x => ?_⟩) m ⟨rfl, fun x => (if_neg (by omega)).symm⟩).elim (fun m' he => ?_)
  · show lp_X10_keepAll_2 (N + 1) (nI K) (nI 108) m1 = _
    rw [lp_X10_keepAll_2.eq_2, if_pos (by decide)]
  · show lp_X10_keepAll_2 (N + 1) (nI K) (nI i) m1 = lp_X10_keepAll_2 N (nI K) (nI (i + 1)) _
    rw [lp_X10_keepAll_2.eq_2, if_neg (show ¬ (108 : Int32) ≤ nI i from nI_ge (b := 108) hi (by decide)), show (4 : Int32) = nI 4 from rfl, nI_add, ck_in (by omega) (by decide), show (108 : Int32) = nI 108 from rfl, pk_mul, nI_add, ck_in (by omega) (by decide), nI_clamp (by omega), nI_clamp (by omega), nI_1, hh.1]
  · rw [rd_j, hh.2]
    by_cases e : x = 108 * K + i
    · rw [if_pos e, if_pos (by omega), e, Nat.add_sub_cancel_left]
    · rw [if_neg e]
      exact if_iff (by omega)
  · refine ⟨m', ?_, he.2⟩
    unfold fn_X10_keepAll
    rw [show lp_X10_keepAll_2 1000000 (nI K) 0 m = _ from he.1]
    rfl
theorem putBack_ok (hK : K ≤ 17) : ∃ m', fn_X10_putBack (nI K) m = some m' ∧ ∀ x, m'.1 44 0 x = if 4 ≤ x ∧ x < 112 then m.1 46 0 (108 * K + (x - 4)) else m.1 44 0 x := by
  refine (lp_up0 (fun N x a => lp_X10_putBack_2 N (nI K) x a) (fun i m1 => m1.1 46 = m.1 46 ∧ ∀ x, m1.1 44 0 x = if 4 ≤ x ∧ x < 4 + i then m.1 46 0 (108 * K + (x - 4)) else m.1 44 0 x) (fun m' => ∀ x, m'.1 44 0 x = if 4 ≤ x ∧ x < 112 then m.1 46 0 (108 * K + (x - 4)) else m.1 44 0 x) 108 (by decide) (fun N m1 hh => ⟨m1, ?_, hh.2⟩) (fun N i m1 hi hh => Or.inl ⟨am_si m1 44 0 (4 + i) (m.1 46 0 (108 * K + i)), ?_, hh.1, fun x => ?_⟩) m ⟨rfl, fun x => (if_neg (by omega)).symm⟩).elim (fun m' he => ?_)
  · show lp_X10_putBack_2 (N + 1) (nI K) (nI 108) m1 = _
    rw [lp_X10_putBack_2.eq_2, if_pos (by decide)]
  · show lp_X10_putBack_2 (N + 1) (nI K) (nI i) m1 = lp_X10_putBack_2 N (nI K) (nI (i + 1)) _
    rw [lp_X10_putBack_2.eq_2, if_neg (show ¬ (108 : Int32) ≤ nI i from nI_ge (b := 108) hi (by decide)), show (108 : Int32) = nI 108 from rfl, pk_mul, nI_add, ck_in (by omega) (by decide), show (4 : Int32) = nI 4 from rfl, nI_add, ck_in (by omega) (by decide), nI_clamp (by omega), nI_clamp (by omega), nI_1, hh.1]
  · rw [rd_j, hh.2]
    by_cases e : x = 4 + i
    · rw [if_pos e, if_pos (by omega), e, Nat.add_sub_cancel_left]
    · rw [if_neg e]
      exact if_iff (by omega)
  · refine ⟨m', ?_, he.2⟩
    unfold fn_X10_putBack
    rw [show lp_X10_putBack_2 1000000 (nI K) 0 m = _ from he.1]
    rfl
theorem remember_ok (h : rH K U S m) (hK : K ≤ 16) : ∃ m', fn_X10_remember (nI z) m = some m' ∧ rH (reK K) (reU K U (m.1 44 0)) (reS K S z) m' := by
  have base : ∀ (k : Nat) (V T : Nat → Int32) (m1 : am_m), k < 16 → m1.1 44 = m.1 44 → rH k V T m1 → ∃ m', ((fn_X10_keepAll (m1.1 10 0 8) m1).bind fun r13 => am_ck (r13.1 10 0 8) 16 (some (am_si (am_si r13 47 0 (r13.1 10 0 8).toNatClampNeg (nI z)) 10 0 8 ((r13.1 10 0 8) + (1 : Int32))))) = some m' ∧ rH (k + 1) (puU V (m.1 44 0) k) (puS T k z) m' := by
    intro k V T m1 hk e44 h1
    obtain ⟨m2, e2, q2⟩ := keepAll_ok (m := m1) (K := k) (by omega)
    have k2 := kp_X10_keepAll _ _ _ e2
    rw [h1.1, e2, bd_s, k2.fld 10 0 8 rfl, h1.1, ck_in hk (by decide), nI_clamp (by omega), nI_1]
    refine ⟨_, rfl, rfl, fun x hx => ?_, fun j hj => ?_⟩
    · show m2.1 46 0 x = _
      rw [q2, e44]
      unfold puU
      by_cases hc : 108 * k ≤ x ∧ x < 108 * k + 108
      · rw [if_pos hc, if_pos hc]
      · rw [if_neg hc, if_neg hc]; exact h1.2.1 x (by omega)
    · show (am_si m2 47 0 k (nI z)).1 47 0 j = _
      rw [rd_j]
      unfold puS
      by_cases hc : j = k
      · rw [if_pos hc, if_pos hc]
      · rw [if_neg hc, if_neg hc, k2.row 47 rfl]; exact h1.2.2 j (by omega)
  unfold fn_X10_remember reK reU reS
  by_cases e : K = 16
  · rw [if_pos e, if_pos e, if_pos e]
    subst e
    rw [h.1, if_neg (show ¬ nI 16 ≠ (16 : Int32) from fun w => w rfl)]
    have s1 : ∃ m1, lp_X10_remember_11 1000000 (nI z) 0 m = some m1 ∧ (m1.1 44 = m.1 44 ∧ m1.1 47 = m.1 47 ∧ m1.1 10 0 8 = m.1 10 0 8 ∧ ∀ x, m1.1 46 0 x = if x < 1620 then m.1 46 0 (x + 108) else m.1 46 0 x) := by
      refine lp_up0 (fun N x a => lp_X10_remember_11 N (nI z) x a) (fun i m1 => m1.1 44 = m.1 44 ∧ m1.1 47 = m.1 47 ∧ m1.1 10 0 8 = m.1 10 0 8 ∧ ∀ x, m1.1 46 0 x = if x < i then m.1 46 0 (x + 108) else m.1 46 0 x) _ 1620 (by decide) (fun N m1 hh => ⟨m1, ?_, hh⟩) (fun N i m1 hi hh => Or.inl ⟨am_si m1 46 0 i (m.1 46 0 (i + 108)), ?_, hh.1, hh.2.1, hh.2.2.1, fun x => ?_⟩) m ⟨rfl, rfl, rfl, fun x => (if_neg (by omega)).symm⟩
      · show lp_X10_remember_11 (N + 1) (nI z) (nI 1620) m1 = _
        rw [lp_X10_remember_11.eq_2, if_pos (by decide)]
      · show lp_X10_remember_11 (N + 1) (nI z) (nI i) m1 = lp_X10_remember_11 N (nI z) (nI (i + 1)) _
        rw [lp_X10_remember_11.eq_2, if_neg (show ¬ (1620 : Int32) ≤ nI i from nI_ge (b := 1620) hi (by decide)), show (108 : Int32) = nI 108 from rfl, nI_add, ck_in (by omega) (by decide), ck_in (by omega) (by decide), nI_clamp (by omega), nI_clamp (by omega), nI_1, hh.2.2.2, if_neg (by omega)]
      · rw [rd_j, hh.2.2.2]
        by_cases e : x = i
        · rw [if_pos e, if_pos (by omega), e]
        · rw [if_neg e]
          exact if_iff (by omega)
    obtain ⟨m1, e1, f44, f47, f8, f46⟩ := s1
    have s2 : ∃ m2, lp_X10_remember_41 1000000 (nI z) 0 m1 = some m2 ∧ (m2.1 44 = m1.1 44 ∧ m2.1 46 = m1.1 46 ∧ m2.1 10 0 8 = m1.1 10 0 8 ∧ ∀ x, m2.1 47 0 x = if x < 15 then m1.1 47 0 (x + 1) else m1.1 47 0 x) := by
      refine lp_up0 (fun N x a => lp_X10_remember_41 N (nI z) x a) (fun i m2 => m2.1 44 = m1.1 44 ∧ m2.1 46 = m1.1 46 ∧ m2.1 10 0 8 = m1.1 10 0 8 ∧ ∀ x, m2.1 47 0 x = if x < i then m1.1 47 0 (x + 1) else m1.1 47 0 x) _ 15 (by decide) (fun N m2 hh => ⟨m2, ?_, hh⟩) (fun N i m2 hi hh => Or.inl ⟨am_si m2 47 0 i (m1.1 47 0 (i + 1)), ?_, hh.1, hh.2.1, hh.2.2.1, fun x => ?_⟩) m1 ⟨rfl, rfl, rfl, fun x => (if_neg (by omega)).symm⟩
      · show lp_X10_remember_41 (N + 1) (nI z) (nI 15) m2 = _
        rw [lp_X10_remember_41.eq_2, if_pos (by decide)]
      · show lp_X10_remember_41 (N + 1) (nI z) (nI i) m2 = lp_X10_remember_41 N (nI z) (nI (i + 1)) _
        rw [lp_X10_remember_41.eq_2, if_neg (show ¬ (15 : Int32) ≤ nI i from nI_ge (b := 15) hi (by decide)), show (1 : Int32) = nI 1 from rfl, nI_add, ck_in (by omega) (by decide), ck_in (by omega) (by decide), nI_clamp (by omega), nI_clamp (by omega), hh.2.2.2, if_neg (by omega)]
      · rw [rd_j, hh.2.2.2]
        by_cases e : x = i
        · rw [if_pos e, if_pos (by omega), e]
        · rw [if_neg e]
          exact if_iff (by omega)
    obtain ⟨m2, e2, g44, g46, g8, g47⟩ := s2
    rw [show (0 : Int32) = nI 0 from rfl] at *
    rw [e1, bd_s, e2, bd_s, bd_s]
    refine base 15 (fun x => U (x + 108)) (fun j => S (j + 1)) (am_si m2 10 0 8 ((m2.1 10 0 8) - (1 : Int32))) (by decide) (g44.trans f44) ⟨?_, fun x hx => ?_, fun j hj => ?_⟩
    · show (m2.1 10 0 8) - (1 : Int32) = nI 15
      rw [g8, f8, h.1]; rfl
    · show m2.1 46 0 x = _
      rw [g46, f46, if_pos (by omega)]; exact h.2.1 _ (by omega)
    · show m2.1 47 0 j = _
      rw [g47, if_pos (by omega), f47]; exact h.2.2 _ (by omega)
  · rw [if_neg e, if_neg e, if_neg e, h.1, if_pos (show nI K ≠ (16 : Int32) from nI_ne (b := 16) (by omega) (by decide) e), bd_s]
    have := base K U S m (by omega) rfl h
    rw [h.1] at this
    rw [h.1]
    exact this
end HS
