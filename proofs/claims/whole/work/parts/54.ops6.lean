/-! terms, force, sat, forget, end, feed -/
def tmS : Nat → Nat
  | 0 => 999
  | 1 => 10
  | _ => 9
section OPS6
variable {m : am_m}
theorem in_nat (b B : Int32) (m : am_m) : fn_X10_in b.toInt64 0 B.toInt64 m = some (if 0 ≤ b ∧ b ≤ B then 1 else 0) := by
  rw [show (0 : Int64) = (0 : Int32).toInt64 from rfl, in_32]
theorem op_terms (h : Inv m) (a b : Int32) : op_ok m (fun m => fn_X9_terms a b m) (fun m => fn_X10_terms a b m) := by
  have hW := h.w
  have hU := h.u
  by_cases H : ∃ t x, t < 3 ∧ x ≤ tmS t ∧ a = nI t ∧ b = nI x
  · obtain ⟨t, x, ht, hx, rfl, rfl⟩ := H
    have h3 : t = 0 ∨ t = 1 ∨ t = 2 := by omega
    have hx31 : x ≤ 999 := by rcases h3 with rfl | rfl | rfl <;> exact Nat.le_trans hx (by decide)
    have eT : m.1 39 0 t = m.1 44 0 (4 + t) := hU.2.2.2.2.1 t ht
    have kT := hW.k (k := 4 + t) (by omega) (by omega)
    have hr : ∀ k, (am_si m 44 0 (4 + t) (nI x)).1 44 0 k = if k = 4 + t then nI x else m.1 44 0 k := fun k => by rw [rd_j]
    have hr' : ∀ k, k ≠ 4 + t → (am_si m 44 0 (4 + t) (nI x)).1 44 0 k = m.1 44 0 k := fun k h1 => by rw [hr, if_neg h1]
    refine op_done (m.1 44 0 (4 + t)) h (mA := am_si (am_si m 39 0 t (nI x)) 3 0 1 0) (mB := am_si (am_si (am_si (am_si (am_si (am_si m 39 0 t (nI x)) 3 0 1 0) 9 0 17 0) 10 0 0 0) 10 0 8 0) 44 0 (4 + t) (nI x)) ?_ ?_ (am_kp.si (am_kp.si am_kp.rf rfl) rfl) (am_kp.si (am_kp.si (am_kp.si am_kp.rf rfl) rfl) rfl) (fun u hu => sm_U.si (m := m) 39 0 t (nI x) u (Or.inl (Ne.symm hu))) ?_ ?_ ((hr' 2 (by omega))) (fun j hj => hr' j (by omega)) (hH.zero rfl rfl)
    · show fn_X9_terms (nI t) (nI x) m = _
      unfold fn_X9_terms fn_X3_clear
      have em : fn_X9_mostOfTerm (nI t) m = some (nI (tmS t)) := by rcases h3 with rfl | rfl | rfl <;> rfl
      have ht9 : tmS t < 2 ^ 31 := by rcases h3 with rfl | rfl | rfl <;> decide
      rw [if_neg (nI_pos (by omega)), if_neg (show ¬ (3 : Int32) ≤ nI t from nI_ge (b := 3) ht (by decide)), if_neg (nI_pos (by omega)), em, bd_s, if_pos (nI_le hx ht9), ck_in ht (by decide), ck_in ht (by decide), nI_clamp (by omega), bd_s, eT, kT, told_ok (nI_pos' (nv_lt _)), bd_s]
    · show fn_X10_terms (nI t) (nI x) (am_si (am_si (am_si m 39 0 t (nI x)) 3 0 1 0) 9 0 17 0) = _
      unfold fn_X10_terms fn_X10_change
      have e1 : (4 : Int32) + nI t = nI (4 + t) := by rw [show (4 : Int32) = nI 4 from rfl, nI_add]
      have fin : ∀ M : am_m, M.1 44 = m.1 44 → (am_ck ((4 : Int32) + nI t) 5518 (am_ck ((4 : Int32) + nI t) 5518 (some (M.1 44 0 ((4 : Int32) + nI t).toNatClampNeg, am_si (am_si M 44 0 ((4 : Int32) + nI t).toNatClampNeg (nI x)) 10 0 1 0)))) = some (m.1 44 0 (4 + t), am_si (am_si M 44 0 (4 + t) (nI x)) 10 0 1 0) := fun M hM => by rw [e1, ck_in (by omega) (by decide), ck_in (by omega) (by decide), nI_clamp (by omega), hM]
      rcases h3 with rfl | rfl | rfl
      · rw [if_neg (by decide), show (999 : Int64) = (nI 999).toInt64 from rfl, in_nat, if_pos ⟨nI_pos' (by omega), nI_le hx (by decide)⟩, bd_s, bd_s, if_pos (by decide), fin (am_si (am_si (am_si (am_si (am_si m 39 0 0 (nI x)) 3 0 1 0) 9 0 17 0) 10 0 0 0) 10 0 8 0) rfl, bd_s]
      · rw [if_pos (by decide), if_neg (by decide), show (10 : Int64) = (nI 10).toInt64 from rfl, in_nat, if_pos ⟨nI_pos' (by omega), nI_le hx (by decide)⟩, bd_s, bd_s, if_pos (by decide), fin (am_si (am_si (am_si (am_si (am_si m 39 0 1 (nI x)) 3 0 1 0) 9 0 17 0) 10 0 0 0) 10 0 8 0) rfl, bd_s]
      · rw [if_pos (by decide), if_pos (by decide), if_neg (by decide), show (9 : Int64) = (nI 9).toInt64 from rfl, in_nat, if_pos ⟨nI_pos' (by omega), nI_le hx (by decide)⟩, bd_s, if_neg (by decide), bd_s, if_pos (by decide), fin (am_si (am_si (am_si (am_si (am_si m 39 0 2 (nI x)) 3 0 1 0) 9 0 17 0) 10 0 0 0) 10 0 8 0) rfl, bd_s]
    · refine hW.set (k := 4 + t) (x := x) hr (by omega) (by omega) (by omega) (by omega) ?_ ?_ ?_ (by omega) (by omega) (by omega) (by omega)
      · intro e; have e : t = 0 := by omega
        subst e; exact hx
      · intro e; have e : t = 1 := by omega
        subst e; exact hx
      · intro e; have e : t = 2 := by omega
        subst e; exact hx
    · refine iv_V.ch hU (fun k hk => Or.inl ⟨rfl, hr' _ (by omega)⟩) (fun k hk => ?_) (fun k hk => Or.inl ⟨rfl, hr' _ (by omega)⟩) (fun k hk => Or.inl ⟨rfl, rfl, hr' _ (by omega), hr' _ (by omega)⟩) (fun k hk => Or.inl ⟨rfl, hr' _ (by omega)⟩)
      by_cases e : k = t
      · subst e
        refine Or.inr ?_
        show (am_si m 39 0 k (nI x)).1 39 0 k = (am_si m 44 0 (4 + k) (nI x)).1 44 0 (4 + k)
        rw [rd_j, rd_j, if_pos rfl, if_pos rfl]
      · refine Or.inl ⟨?_, hr' _ (by omega)⟩
        show (am_si m 39 0 t (nI x)).1 39 0 k = _
        rw [rd_j, if_neg e]
  · have hno : ∀ t x, t < 3 → a = nI t → b = nI x → ¬ x ≤ tmS t := fun t x h1 h2 h3 h4 => H ⟨t, x, h1, h4, h2, h3⟩
    refine op_refuse h 1 (by decide) (by decide) ?_ ?_
    · show fn_X9_terms a b m = _
      unfold fn_X9_terms
      by_cases a0 : a < 0
      · rw [if_pos a0]; rfl
      rw [if_neg a0]
      by_cases a3 : (3 : Int32) ≤ a
      · rw [if_pos a3]; rfl
      rw [if_neg a3]
      by_cases b0 : b < 0
      · rw [if_pos b0]; rfl
      rw [if_neg b0]
      obtain ⟨t, ht, rfl⟩ := nI_of a0
      obtain ⟨x, hx, rfl⟩ := nI_of b0
      have ht3 : t < 3 := by
        by_cases z : t < 3
        · exact z
        · exact absurd (nI_le (a := 3) (by omega) ht) a3
      have hnx := hno t x ht3 rfl rfl
      have h3 : t = 0 ∨ t = 1 ∨ t = 2 := by omega
      have em : fn_X9_mostOfTerm (nI t) m = some (nI (tmS t)) := by rcases h3 with rfl | rfl | rfl <;> rfl
      rw [em, bd_s, if_neg (nI_ge (by omega) hx)]
      rfl
    · show fn_X10_terms a b _ = _
      unfold fn_X10_terms
      have no : ∀ t, t < 3 → tmS t < 2 ^ 31 → a = nI t → ¬ (0 ≤ b ∧ b ≤ nI (tmS t)) := fun t h1 h0 h2 h3 => by
        obtain ⟨x, hx, rfl⟩ := nI_of (an_nn h3.1)
        exact hno t x h1 h2 rfl ((nI_leI hx h0).mp h3.2)
      by_cases a0 : a = 0
      · rw [if_neg (fun z => z a0), show (999 : Int64) = (nI 999).toInt64 from rfl, in_nat, if_neg (show ¬ (0 ≤ b ∧ b ≤ nI 999) from no 0 (by decide) (by decide) a0), bd_s, bd_s, if_neg (by decide)]; rfl
      rw [if_pos a0]
      by_cases a1 : a = 1
      · rw [if_neg (fun z => z a1), show (10 : Int64) = (nI 10).toInt64 from rfl, in_nat, if_neg (show ¬ (0 ≤ b ∧ b ≤ nI 10) from no 1 (by decide) (by decide) a1), bd_s, bd_s, if_neg (by decide)]; rfl
      rw [if_pos a1]
      by_cases a2 : a = 2
      · rw [if_neg (fun z => z a2), show (9 : Int64) = (nI 9).toInt64 from rfl, in_nat, if_neg (show ¬ (0 ≤ b ∧ b ≤ nI 9) from no 2 (by decide) (by decide) a2), bd_s, if_pos rfl, bd_s, if_neg (by decide)]; rfl
      · rw [if_pos a2, bd_s, if_neg (by decide)]; rfl
theorem hasLaw_ok {a : Int32} {l : Nat} (e82 : m.1 8 0 2 = nI l) : fn_X8_hasLaw 0 a m = some (if (-1 : Int32) ≤ a ∧ a < nI l then 1 else 0) := by
  unfold fn_X8_hasLaw
  rw [e82]
  by_cases h1 : a < -1
  · rw [if_pos h1, if_neg (fun q => (fa_of_lt h1).2.1 q.1)]
  · by_cases h2 : nI l ≤ a
    · rw [if_neg h1, if_pos h2, if_neg (fun q => (fa_of_lt q.2).2.1 h2)]
    · rw [if_neg h1, if_neg h2, if_pos ⟨fa_of_nlt h1, fa_of_nle h2⟩]
theorem isLaw_ok {a : Int32} {l : Nat} (e2 : m.1 44 0 2 = nI l) (hl : l ≤ 6) : fn_X10_isLaw a m = some (if (-1 : Int32) ≤ a ∧ a < nI l then 1 else 0) := by
  unfold fn_X10_isLaw
  by_cases h1 : a = -1
  · rw [if_pos h1, if_pos ⟨by rw [h1]; decide, by rw [h1, fa_lt, nI_toInt (by omega)]; show (-1 : Int) < _; omega⟩]
  · rw [if_neg h1, e2, fk_pred _ (by omega), show (0 : Int64) = (0 : Int32).toInt64 from rfl, in_32, bd_s]
    have hi : (0 ≤ a ∧ a ≤ nI l - 1) ↔ ((-1 : Int32) ≤ a ∧ a < nI l) := by
      rw [le_pred (by omega), fa_le, fa_le]
      have hne : a.toInt ≠ -1 := fun z => h1 ((fa_eq _ _).mpr z)
      show (0 ≤ a.toInt ∧ _) ↔ (-1 ≤ a.toInt ∧ _)
      constructor
      · rintro ⟨z1, z2⟩; exact ⟨by omega, z2⟩
      · rintro ⟨z1, z2⟩; exact ⟨by omega, z2⟩
    by_cases h2 : (-1 : Int32) ≤ a ∧ a < nI l
    · rw [if_pos (hi.mpr h2), if_pos h2, if_neg (by decide)]
    · rw [if_neg (fun z => h2 (hi.mp z)), if_neg h2, if_pos rfl]
theorem law_rng {a : Int32} {l : Nat} (hl : l ≤ 6) (H : (-1 : Int32) ≤ a ∧ a < nI l) : a = -1 ∨ (a = nI (nv a) ∧ nv a < l) := by
  by_cases h0 : a < 0
  · left
    rw [fa_eq]
    have h1 : (-1 : Int) ≤ a.toInt := (fa_le _ _).mp H.1
    have h2 : a.toInt < 0 := (fa_lt _ _).mp h0
    show a.toInt = -1
    omega
  · right
    have e := nI_nv h0
    refine ⟨e, (nI_ltI (nv_lt a) (by omega)).mp ?_⟩
    rw [← e]
    exact H.2
theorem op_force (h : Inv m) (a : Int32) : op_ok m (fun m => fn_X9_force a m) (fun m => fn_X10_force a m) := by
  have hW := h.w
  have hU := h.u
  have e2 : m.1 44 0 2 = nI (nv (m.1 44 0 2)) := hW.k (by decide) (by decide)
  have e82 : m.1 8 0 2 = nI (nv (m.1 44 0 2)) := hU.2.2.1.trans e2
  have n6 : nv (m.1 44 0 2) ≤ 6 := hW.2.2.2.1
  by_cases H : (-1 : Int32) ≤ a ∧ a < nI (nv (m.1 44 0 2))
  · have ha := law_rng n6 H
    have hr : ∀ k, (am_si m 44 0 3 a).1 44 0 k = if k = 3 then a else m.1 44 0 k := fun k => by rw [rd_j]
    have hr' : ∀ k, k ≠ 3 → (am_si m 44 0 3 a).1 44 0 k = m.1 44 0 k := fun k h1 => by rw [hr, if_neg h1]
    have hr3 : (am_si m 44 0 3 a).1 44 0 3 = a := by rw [hr, if_pos rfl]
    have hW' : iv_W 999 ((am_si m 44 0 3 a).1 44 0) := by
      obtain ⟨w1, w2, w3, w4, w5, w6, w7, w8, w9, w10, w11, w12⟩ := hW
      refine ⟨fun k hk h3 => by rw [hr' k h3]; exact w1 k hk h3, by rw [hr' 0 (by decide)]; exact w2, by rw [hr' 1 (by decide)]; exact w3, by rw [hr' 2 (by decide)]; exact w4, by rw [hr3, hr' 2 (by decide)]; exact ha, by rw [hr' 4 (by decide)]; exact w6, by rw [hr' 5 (by decide)]; exact w7, by rw [hr' 6 (by decide)]; exact w8, fun k hk => by rw [hr' _ (by omega)]; exact w9 k hk, fun p q hp hq => by rw [hr' _ (by omega), hr' 0 (by decide)]; exact w10 p q hp hq, fun k hk => by rw [hr' _ (by omega)]; exact w11 k hk, fun k hk => by rw [hr' _ (by omega)]; exact w12 k hk⟩
    refine op_done (m.1 44 0 3) h (mA := am_si m 8 0 3 a) (mB := am_si (am_si (am_si (am_si m 8 0 3 a) 9 0 17 0) 10 0 0 0) 44 0 3 a) ?_ ?_ (am_kp.si am_kp.rf rfl) (am_kp.si (am_kp.si am_kp.rf rfl) rfl) (fun u hu => sm_U.si (m := m) 8 0 3 a u (Or.inl (Ne.symm hu))) hW' ?_ (hr' 2 (by omega)) (fun j hj => hr' j (by omega)) (iv_H.of h.1.2.2.2.1 hW' (hr' 0 (by omega)) (fun k h1 h2 => hr' k (by omega)))
    · show fn_X9_force a m = _
      unfold fn_X9_force
      rw [hasLaw_ok e82, if_pos H, bd_s, if_pos (by decide), told_ok (by decide), bd_s, hU.2.2.2.1]
    · show fn_X10_force a (am_si (am_si m 8 0 3 a) 9 0 17 0) = _
      unfold fn_X10_force fn_X10_change
      rw [isLaw_ok (l := nv (m.1 44 0 2)) (show (am_si (am_si (am_si m 8 0 3 a) 9 0 17 0) 10 0 0 0).1 44 0 2 = _ from e2) n6, if_pos H, bd_s, if_neg (by decide), show (3 : Int32) = nI 3 from rfl, ck_in (by decide) (by decide), ck_in (by decide) (by decide), nI_clamp (by decide), bd_s]
      rfl
    · refine iv_V.ch hU (fun k hk => ?_) (fun k hk => Or.inl ⟨rfl, hr' _ (by omega)⟩) (fun k hk => Or.inl ⟨rfl, hr' _ (by omega)⟩) (fun k hk => Or.inl ⟨rfl, rfl, hr' _ (by omega), hr' _ (by omega)⟩) (fun k hk => Or.inl ⟨rfl, hr' _ (by omega)⟩)
      by_cases e : k = 3
      · subst e
        refine Or.inr ?_
        show (am_si m 8 0 3 a).1 8 0 3 = (am_si m 44 0 3 a).1 44 0 3
        rw [rd_j, rd_j, if_pos rfl, if_pos rfl]
      · refine Or.inl ⟨?_, hr' _ (by omega)⟩
        show (am_si m 8 0 3 a).1 8 0 k = _
        rw [rd_j, if_neg e]
  · refine op_refuse h 2 (by decide) (by decide) ?_ ?_
    · show fn_X9_force a m = _
      unfold fn_X9_force
      rw [hasLaw_ok e82, if_neg H, bd_s, if_neg (by decide)]
      rfl
    · show fn_X10_force a _ = _
      unfold fn_X10_force
      rw [isLaw_ok (l := nv (m.1 44 0 2)) (show (am_si (st_9 (-nI 2) m) 10 0 0 0).1 44 0 2 = _ from (congrFun (congrFun ((st_9_kp (-nI 2) m).row 44 rfl) 0) 2).trans e2) n6, if_neg H, bd_s, if_pos rfl]
      rfl
theorem op_sat (h : Inv m) (a : Int32) : op_ok m (fun m => fn_X9_sat a m) (fun m => fn_X10_sat a m) := by
  obtain ⟨n, hn, e44, e8, en⟩ := h.n
  have hW := h.w
  have hU := h.u
  have h128 := pw_le hn
  have e1 : m.1 44 0 1 = nI (nv (m.1 44 0 1)) := hW.k (by decide) (by decide)
  have e81 : m.1 8 0 1 = nI (nv (m.1 44 0 1)) := hU.2.1.trans e1
  have c6 : nv (m.1 44 0 1) ≤ 6 := hW.2.2.1
  have n9 : ∀ v : Int32, (am_si (st_9 v m) 10 0 0 0).1 44 = m.1 44 := fun v => (st_9_kp v m).row 44 rfl
  by_cases H0 : 0 ≤ a ∧ a ≤ 127
  · obtain ⟨s, hs, rfl⟩ := nI_of (an_nn H0.1)
    have hs8 : s < 128 := by have := (nI_leI (b := 127) hs (by decide)).mp H0.2; omega
    have p7 := pc_le s
    have hc : ¬ nI s < 0 ∧ ¬ (127 : Int32) < nI s := ⟨nI_pos hs, nI_nlt (a := 127) (by omega) (by decide)⟩
    by_cases h2 : 2 ≤ pc s
    · by_cases h3 : s < 2 ^ n
      · by_cases h4 : nv (m.1 44 0 1) = 6
        · refine op_refuse h 5 (by decide) (by decide) ?_ ?_
          · show fn_X9_sat (nI s) m = _
            unfold fn_X9_sat
            rw [if_neg hc.1, if_neg hc.2, bc_ok hs8, bd_s, if_pos (show (2 : Int32) ≤ nI (pc s) from nI_le (a := 2) h2 (by omega)), hasSet_ok e8 hn, if_pos ⟨H0.1, nI_lt h3 (by omega)⟩, bd_s, if_pos (by decide), e81, h4, if_neg (by decide)]
            rfl
          · show fn_X10_sat (nI s) _ = _
            unfold fn_X10_sat
            rw [isSet_ok, if_pos H0, bd_s, if_neg (by decide), ones_ok hs8, bd_s, if_pos (show (2 : Int32) ≤ nI (pc s) from nI_le (a := 2) h2 (by omega)), areThere_ok (n := n) (by rw [n9]; exact e44) hn hs8, decide_eq_true h3, bd_s, if_pos (show bv true ≠ 0 by decide), (st_9_kp _ m).row 44 rfl, e1, h4, if_neg (fun z => z rfl)]
            rfl
        · have hc6 : nv (m.1 44 0 1) < 6 := by omega
          generalize ec : nv (m.1 44 0 1) = c at *
          have hr : ∀ k, (am_si (am_si m 44 0 (112 + c) (nI s)) 44 0 1 (nI (c + 1))).1 44 0 k = if k = 1 then nI (c + 1) else if k = 112 + c then nI s else m.1 44 0 k := fun k => by rw [rd_j, rd_j]
          have hr' : ∀ k, k ≠ 1 → k ≠ 112 + c → (am_si (am_si m 44 0 (112 + c) (nI s)) 44 0 1 (nI (c + 1))).1 44 0 k = m.1 44 0 k := fun k h1 h2 => by rw [hr, if_neg h1, if_neg h2]
          have hW' : iv_W 999 ((am_si (am_si m 44 0 (112 + c) (nI s)) 44 0 1 (nI (c + 1))).1 44 0) := (hW.set (k := 112 + c) (x := s) (r' := fun j => if j = 112 + c then nI s else m.1 44 0 j) (fun j => rfl) (by omega) (by omega) (by omega) (by omega) (by omega) (by omega) (by omega) (by omega) (by omega) (by omega) (by omega)).set (k := 1) (x := c + 1) hr (by omega) (by omega) (by omega) (by omega) (by omega) (by omega) (by omega) (by omega) (by omega) (by omega) (by omega)
          refine op_done (nI (c + 1)) h (mA := am_si (am_si m 40 0 c (nI s)) 8 0 1 (nI (c + 1))) (mB := am_si (am_si (am_si (am_si (am_si (am_si m 40 0 c (nI s)) 8 0 1 (nI (c + 1))) 9 0 17 0) 10 0 0 0) 44 0 (112 + c) (nI s)) 44 0 1 (nI (c + 1))) ?_ ?_ (am_kp.si (am_kp.si am_kp.rf rfl) rfl) (am_kp.si (am_kp.si (am_kp.si am_kp.rf rfl) rfl) rfl) (fun u hu => (sm_U.si (m := m) 40 0 c (nI s) u (Or.inl (Ne.symm hu))).tr (sm_U.si (m := am_si m 40 0 c (nI s)) 8 0 1 (nI (c + 1)) u (Or.inl (Ne.symm hu)))) hW' ?_ (hr' 2 (by omega) (by omega)) (fun j hj => hr' j (by omega) (by omega)) (iv_H.of h.1.2.2.2.1 hW' (hr' 0 (by omega) (by omega)) (fun k h1 h2 => hr' k (by omega) (by omega)))
          · show fn_X9_sat (nI s) m = _
            unfold fn_X9_sat
            rw [if_neg hc.1, if_neg hc.2, bc_ok hs8, bd_s, if_pos (show (2 : Int32) ≤ nI (pc s) from nI_le (a := 2) h2 (by omega)), hasSet_ok e8 hn, if_pos ⟨H0.1, nI_lt h3 (by omega)⟩, bd_s, if_pos (by decide), e81, if_pos (show nI c < (6 : Int32) from nI_lt (b := 6) hc6 (by decide)), ck_in hc6 (by decide), nI_clamp (by omega), nI_1, told_ok (nI_pos' (by omega)), bd_s]
          · show fn_X10_sat (nI s) (am_si (am_si (am_si m 40 0 c (nI s)) 8 0 1 (nI (c + 1))) 9 0 17 0) = _
            unfold fn_X10_sat
            rw [isSet_ok, if_pos H0, bd_s, if_neg (by decide), ones_ok hs8, bd_s, if_pos (show (2 : Int32) ≤ nI (pc s) from nI_le (a := 2) h2 (by omega)), areThere_ok (m := am_si (am_si (am_si (am_si m 40 0 c (nI s)) 8 0 1 (nI (c + 1))) 9 0 17 0) 10 0 0 0) (n := n) e44 hn hs8, decide_eq_true h3, bd_s, if_pos (show bv true ≠ 0 by decide), show (am_si (am_si (am_si m 40 0 c (nI s)) 8 0 1 (nI (c + 1))) 9 0 17 0).1 44 0 1 = nI c from e1, if_pos (show nI c ≠ (6 : Int32) from nI_ne (b := 6) (by omega) (by decide) h4), show (112 : Int32) = nI 112 from rfl, nI_add, ck_in (by omega) (by decide), nI_clamp (by omega), rd_j, if_neg (show ¬ 1 = 112 + c by omega), show (am_si (am_si (am_si (am_si m 40 0 c (nI s)) 8 0 1 (nI (c + 1))) 9 0 17 0) 10 0 0 0).1 44 0 1 = nI c from e1, nI_1, tell_ok (nI_pos' (by omega)), bd_s]
          · refine iv_V.ch hU (fun k hk => ?_) (fun k hk => Or.inl ⟨rfl, hr' _ (by omega) (by omega)⟩) (fun k hk => Or.inl ⟨rfl, hr' _ (by omega) (by omega)⟩) (fun k hk => Or.inl ⟨rfl, rfl, hr' _ (by omega) (by omega), hr' _ (by omega) (by omega)⟩) (fun k hk => ?_)
            · by_cases e : k = 1
              · subst e; exact Or.inr rfl
              · refine Or.inl ⟨?_, hr' k e (by omega)⟩
                show (am_si (am_si m 40 0 c (nI s)) 8 0 1 (nI (c + 1))).1 8 0 k = _
                rw [rd_j, if_neg e]
                rfl
            · by_cases e : k = c
              · subst e
                refine Or.inr ?_
                show (am_si m 40 0 k (nI s)).1 40 0 k = (am_si (am_si m 44 0 (112 + k) (nI s)) 44 0 1 (nI (k + 1))).1 44 0 (112 + k)
                rw [hr, rd_j, if_pos rfl, if_neg (by omega), if_pos rfl]
              · refine Or.inl ⟨?_, hr' _ (by omega) (by omega)⟩
                show (am_si m 40 0 c (nI s)).1 40 0 k = _
                rw [rd_j, if_neg e]
      · refine op_refuse h 2 (by decide) (by decide) ?_ ?_
        · show fn_X9_sat (nI s) m = _
          unfold fn_X9_sat
          rw [if_neg hc.1, if_neg hc.2, bc_ok hs8, bd_s, if_pos (show (2 : Int32) ≤ nI (pc s) from nI_le (a := 2) h2 (by omega)), hasSet_ok e8 hn, if_neg (fun z => h3 ((nI_ltI hs (by omega)).mp z.2)), bd_s, if_neg (by decide)]
          rfl
        · show fn_X10_sat (nI s) _ = _
          unfold fn_X10_sat
          rw [isSet_ok, if_pos H0, bd_s, if_neg (by decide), ones_ok hs8, bd_s, if_pos (show (2 : Int32) ≤ nI (pc s) from nI_le (a := 2) h2 (by omega)), areThere_ok (n := n) (by rw [n9]; exact e44) hn hs8, decide_eq_false h3, bd_s, if_neg (show ¬ bv false ≠ 0 by decide)]
          rfl
    · refine op_refuse h 1 (by decide) (by decide) ?_ ?_
      · show fn_X9_sat (nI s) m = _
        unfold fn_X9_sat
        rw [if_neg hc.1, if_neg hc.2, bc_ok hs8, bd_s, if_neg (show ¬ (2 : Int32) ≤ nI (pc s) from nI_ge (b := 2) (by omega) (by decide))]
        rfl
      · show fn_X10_sat (nI s) _ = _
        unfold fn_X10_sat
        rw [isSet_ok, if_pos H0, bd_s, if_neg (by decide), ones_ok hs8, bd_s, if_neg (show ¬ (2 : Int32) ≤ nI (pc s) from nI_ge (b := 2) (by omega) (by decide))]
        rfl
  · refine op_refuse h 1 (by decide) (by decide) ?_ ?_
    · show fn_X9_sat a m = _
      unfold fn_X9_sat
      by_cases h0 : a < 0
      · rw [if_pos h0]; rfl
      · rw [if_neg h0, if_pos (fa_of_nle (fun z => H0 ⟨fa_of_nlt h0, z⟩))]; rfl
    · show fn_X10_sat a _ = _
      unfold fn_X10_sat
      rw [isSet_ok, if_neg H0, bd_s, if_pos rfl]
      rfl
theorem op_forget (h : Inv m) : op_ok m (fun m => fn_X9_forget m) (fun m => fn_X10_forget m) := by
  have hW := h.w
  have hU := h.u
  have hr : ∀ k, (am_si m 44 0 1 (nI 0)).1 44 0 k = if k = 1 then nI 0 else m.1 44 0 k := fun k => by rw [rd_j]
  have hr' : ∀ k, k ≠ 1 → (am_si m 44 0 1 (nI 0)).1 44 0 k = m.1 44 0 k := fun k h1 => by rw [hr, if_neg h1]
  have hW' : iv_W 999 ((am_si m 44 0 1 (nI 0)).1 44 0) := hW.set (k := 1) (x := 0) hr (by omega) (by omega) (by omega) (by omega) (by omega) (by omega) (by omega) (by omega) (by omega) (by omega) (by omega)
  refine ⟨m.1 44 0 1, am_si m 8 0 1 0, am_si (am_si (am_si m 8 0 1 0) 10 0 0 0) 44 0 1 0, ?_, rfl, Inv0.lv (WI := lv0) h.1 (am_kp.si (am_kp.si (am_kp.si am_kp.rf rfl) rfl) rfl) rfl (fun u hu => sm_U.si (m := m) 8 0 1 0 u (Or.inl (Ne.symm hu))) hW' ?_ (hr' 2 (by omega)) (fun j hj => hr' j (by omega)) (iv_H.of h.1.2.2.2.1 hW' (hr' 0 (by omega)) (fun k h1 h2 => hr' k (by omega))), h.2⟩
  · show some (m.1 8 0 1, am_si m 8 0 1 0) = _
    rw [hU.2.1]
  · refine iv_V.ch hU (fun k hk => ?_) (fun k hk => Or.inl ⟨rfl, hr' _ (by omega)⟩) (fun k hk => Or.inl ⟨rfl, hr' _ (by omega)⟩) (fun k hk => Or.inl ⟨rfl, rfl, hr' _ (by omega), hr' _ (by omega)⟩) (fun k hk => Or.inl ⟨rfl, hr' _ (by omega)⟩)
    by_cases e : k = 1
    · subst e; exact Or.inr rfl
    · refine Or.inl ⟨?_, hr' k e⟩
      show (am_si m 8 0 1 0).1 8 0 k = _
      rw [rd_j, if_neg e]
end OPS6
