/-! the class keeps a deed; harm, pardon, undo -/
section KEEP
variable {m : am_m} {K z : Nat} {U S r r' : Nat → Int32}
theorem i13 (k i : Nat) : nI k * (13 : Int32) + nI i = nI (13 * k + i) := by rw [show (13 : Int32) = nI 13 from rfl, pk_mul, nI_add, Nat.mul_comm]
theorem cpy_gd {a b n A B : Nat} (ha : a + n ≤ A) (hb : b + n ≤ B) (hA : A < 2 ^ 31) (hB : B < 2 ^ 31) : ¬ (nI a < 0 ∨ nI b < 0 ∨ nI n < 0 ∨ A < (nI a).toNatClampNeg + (nI n).toNatClampNeg ∨ B < (nI b).toNatClampNeg + (nI n).toNatClampNeg) := by
  rw [nI_clamp (by omega), nI_clamp (by omega), nI_clamp (by omega)]
  rintro (z | z | z | z | z)
  · exact nI_pos (by omega) z
  · exact nI_pos (by omega) z
  · exact nI_pos (by omega) z
  · omega
  · omega
theorem forget_ok : ∃ m', fn_X3_forgetOldest 0 m = some m' ∧ m'.1 3 0 1 = nI 15 ∧ ∀ x, x < 195 → m'.1 24 0 x = m.1 24 0 (x + 13) := by
  refine (lp_up (fun N x a => lp_X3_forgetOldest_3 N 0 x a) (fun i m1 => 13 ≤ i ∧ ∀ x, m1.1 24 0 x = if x + 13 < i then m.1 24 0 (x + 13) else m.1 24 0 x) (fun m' => ∀ x, m'.1 24 0 x = if x + 13 < 208 then m.1 24 0 (x + 13) else m.1 24 0 x) 208 (fun N m1 hh => ⟨m1, ?_, hh.2⟩) (fun N i m1 hi hh => Or.inl ⟨am_si m1 24 0 (i - 13) (m.1 24 0 i), ?_, by omega, fun x => ?_⟩) 195 13 1000000 m (by decide) (by decide) ⟨by decide, fun x => (if_neg (by omega)).symm⟩).elim (fun m' he => ?_)
  · show lp_X3_forgetOldest_3 (N + 1) 0 (nI 208) m1 = _
    rw [lp_X3_forgetOldest_3.eq_2, if_pos (by decide)]
  · show lp_X3_forgetOldest_3 (N + 1) 0 (nI i) m1 = lp_X3_forgetOldest_3 N 0 (nI (i + 1)) _
    rw [lp_X3_forgetOldest_3.eq_2, if_neg (show ¬ (208 : Int32) ≤ nI i from nI_ge (b := 208) hi (by decide)), ck_in hi (by decide), show (13 : Int32) = nI 13 from rfl, pk_sub hh.1, ck_in (by omega) (by decide), nI_clamp (by omega), nI_clamp (by omega), nI_1, hh.2, if_neg (by omega)]
  · rw [rd_j, hh.2]
    by_cases e : x = i - 13
    · rw [if_pos e, if_pos (by omega), show x + 13 = i by omega]
    · rw [if_neg e]
      exact if_iff (by omega)
  · obtain ⟨e, q⟩ := he
    refine ⟨am_si m' 3 0 1 15, ?_, rfl, fun x hx => ?_⟩
    · unfold fn_X3_forgetOldest
      rw [show lp_X3_forgetOldest_3 1000000 0 13 m = _ from e]
      rfl
    · show m'.1 24 0 x = _
      rw [q, if_pos (by omega)]
theorem keep_ok {a b w s : Int32} (h : cH K U S r m) (hU : iv_U m 0 r) (hW : iv_W 999 r) (hz : z ≤ 3) (ew : fn_X8_weightOf 0 a b m = some w) (es : fn_X8_sinceOf 0 a b m = some s) : ∃ m', fn_X3_keep 0 (nI z) a b 0 m = some m' ∧ ∀ r', (∀ k, (k < 4 ∨ 112 ≤ k) → r' k = r k) → iv_step (nv (r 0)) (fun i => r (4 + i)) (fun i => r' (4 + i)) (dR z a b w s r) → ∀ m2 : am_m, m2.1 3 0 1 = m'.1 3 0 1 → m2.1 24 0 = m'.1 24 0 → cH (reK K) (reU K U r) (reS K S z) r' m2 := by
  have e4 : m.1 39 0 0 = r 4 := hU.2.2.2.2.1 0 (by decide)
  have e7 : ∀ i, i < 7 → m.1 36 0 i = r (7 + i) := hU.2.2.2.2.2.1
  have base : ∀ (k : Nat) (q4 : am_m), k < 16 → q4.1 3 0 1 = nI k → am_kp [(3, 1), (24, 0)] [] 0 m q4 → ∃ m', (am_ck (((q4.1 3 0 1) * (13 : Int32)) + (0 : Int32)) 208 (am_ck (((q4.1 3 0 1) * (13 : Int32)) + (1 : Int32)) 208 (am_ck (((q4.1 3 0 1) * (13 : Int32)) + (2 : Int32)) 208 ((fn_X8_weightOf 0 a b (am_si (am_si (am_si q4 24 0 (((q4.1 3 0 1) * (13 : Int32)) + (0 : Int32)).toNatClampNeg (nI z)) 24 0 (((q4.1 3 0 1) * (13 : Int32)) + (1 : Int32)).toNatClampNeg a) 24 0 (((q4.1 3 0 1) * (13 : Int32)) + (2 : Int32)).toNatClampNeg b)).bind fun r8 => am_ck (((q4.1 3 0 1) * (13 : Int32)) + (3 : Int32)) 208 ((fn_X8_sinceOf 0 a b (am_si (am_si (am_si (am_si q4 24 0 (((q4.1 3 0 1) * (13 : Int32)) + (0 : Int32)).toNatClampNeg (nI z)) 24 0 (((q4.1 3 0 1) * (13 : Int32)) + (1 : Int32)).toNatClampNeg a) 24 0 (((q4.1 3 0 1) * (13 : Int32)) + (2 : Int32)).toNatClampNeg b) 24 0 (((q4.1 3 0 1) * (13 : Int32)) + (3 : Int32)).toNatClampNeg r8)).bind fun r11 => am_ck (((q4.1 3 0 1) * (13 : Int32)) + (4 : Int32)) 208 (am_ck (((q4.1 3 0 1) * (13 : Int32)) + (5 : Int32)) 208 (am_gd (¬ ((0 : Int32) < 0 ∨ (((q4.1 3 0 1) * (13 : Int32)) + (6 : Int32)) < 0 ∨ (7 : Int32) < 0 ∨ 7 < (0 : Int32).toNatClampNeg + (7 : Int32).toNatClampNeg ∨ 208 < (((q4.1 3 0 1) * (13 : Int32)) + (6 : Int32)).toNatClampNeg + (7 : Int32).toNatClampNeg)) (some (am_si (am_sc (am_si (am_si (am_si (am_si (am_si (am_si q4 24 0 (((q4.1 3 0 1) * (13 : Int32)) + (0 : Int32)).toNatClampNeg (nI z)) 24 0 (((q4.1 3 0 1) * (13 : Int32)) + (1 : Int32)).toNatClampNeg a) 24 0 (((q4.1 3 0 1) * (13 : Int32)) + (2 : Int32)).toNatClampNeg b) 24 0 (((q4.1 3 0 1) * (13 : Int32)) + (3 : Int32)).toNatClampNeg r8) 24 0 (((q4.1 3 0 1) * (13 : Int32)) + (4 : Int32)).toNatClampNeg r11) 24 0 (((q4.1 3 0 1) * (13 : Int32)) + (5 : Int32)).toNatClampNeg (q4.1 39 0 0)) 36 0 24 0 (0 : Int32).toNatClampNeg (((q4.1 3 0 1) * (13 : Int32)) + (6 : Int32)).toNatClampNeg (7 : Int32).toNatClampNeg) 3 0 1 ((q4.1 3 0 1) + (1 : Int32))))))))))) = some m' ∧ m'.1 3 0 1 = nI (k + 1) ∧ ∀ x, x < 208 → m'.1 24 0 x = puD (q4.1 24 0) (dR z a b w s r) k x := by
    intro k q4 hk hq kq
    have w1 : ∀ M : am_m, M.1 8 = q4.1 8 → M.1 37 = q4.1 37 → fn_X8_weightOf 0 a b M = some w := fun M h1 h2 => by
      rw [← ew]
      unfold fn_X8_weightOf fn_X8_hasTwo
      rw [h1, h2, kq.obj 8 rfl, kq.row 37 rfl]
    have s1 : ∀ M : am_m, M.1 8 = q4.1 8 → M.1 38 = q4.1 38 → fn_X8_sinceOf 0 a b M = some s := fun M h1 h2 => by
      rw [← es]
      unfold fn_X8_sinceOf fn_X8_hasTwo
      rw [h1, h2, kq.obj 8 rfl, kq.row 38 rfl]
    have c : ∀ i, i < 13 → ((q4.1 3 0 1) * (13 : Int32)) + nI i = nI (13 * k + i) := fun i _ => by rw [hq, i13]
    rw [show (((q4.1 3 0 1) * (13 : Int32)) + (0 : Int32)) = nI (13 * k + 0) from c 0 (by omega), show (((q4.1 3 0 1) * (13 : Int32)) + (1 : Int32)) = nI (13 * k + 1) from c 1 (by omega), show (((q4.1 3 0 1) * (13 : Int32)) + (2 : Int32)) = nI (13 * k + 2) from c 2 (by omega), show (((q4.1 3 0 1) * (13 : Int32)) + (3 : Int32)) = nI (13 * k + 3) from c 3 (by omega), show (((q4.1 3 0 1) * (13 : Int32)) + (4 : Int32)) = nI (13 * k + 4) from c 4 (by omega), show (((q4.1 3 0 1) * (13 : Int32)) + (5 : Int32)) = nI (13 * k + 5) from c 5 (by omega), show (((q4.1 3 0 1) * (13 : Int32)) + (6 : Int32)) = nI (13 * k + 6) from c 6 (by omega)]
    rw [nI_clamp (by omega), nI_clamp (by omega), nI_clamp (by omega), nI_clamp (by omega), nI_clamp (by omega), nI_clamp (by omega), nI_clamp (by omega), ck_in (by omega) (by decide), ck_in (by omega) (by decide), ck_in (by omega) (by decide), w1 (am_si (am_si (am_si q4 24 0 (13 * k + 0) (nI z)) 24 0 (13 * k + 1) a) 24 0 (13 * k + 2) b) rfl rfl, bd_s, ck_in (by omega) (by decide), s1 (am_si (am_si (am_si (am_si q4 24 0 (13 * k + 0) (nI z)) 24 0 (13 * k + 1) a) 24 0 (13 * k + 2) b) 24 0 (13 * k + 3) w) rfl rfl, bd_s, ck_in (by omega) (by decide), ck_in (by omega) (by decide), hq, nI_1]
    have hg : ¬ ((0 : Int32) < 0 ∨ nI (13 * k + 6) < 0 ∨ (7 : Int32) < 0 ∨ 7 < (0 : Int32).toNatClampNeg + (7 : Int32).toNatClampNeg ∨ 208 < 13 * k + 6 + (7 : Int32).toNatClampNeg) := by
      have e7 : (7 : Int32).toNatClampNeg = 7 := by decide
      rintro (z | z | z | z | z)
      · exact absurd z (by decide)
      · exact nI_pos (by omega) z
      · exact absurd z (by decide)
      · exact absurd z (by decide)
      · omega
    rw [gd_t hg]
    refine ⟨_, rfl, rfl, fun x hx => ?_⟩
    show (am_sc (am_si (am_si (am_si (am_si (am_si (am_si q4 24 0 (13 * k + 0) (nI z)) 24 0 (13 * k + 1) a) 24 0 (13 * k + 2) b) 24 0 (13 * k + 3) w) 24 0 (13 * k + 4) s) 24 0 (13 * k + 5) (q4.1 39 0 0)) 36 0 24 0 0 (13 * k + 6) 7).1 24 0 x = _
    rw [rd_sc, if_pos ⟨rfl, rfl⟩]
    unfold puD dR
    by_cases h6 : 13 * k + 6 ≤ x ∧ x < 13 * k + 6 + 7
    · rw [pk_cpy_in h6.1 h6.2, if_pos (by omega), if_neg (by omega), if_neg (by omega), if_neg (by omega), if_neg (by omega), if_neg (by omega), if_neg (by omega)]
      show q4.1 36 0 (0 + (x - (13 * k + 6))) = _
      rw [kq.row 36 rfl, e7 _ (by omega)]
      congr 1
      omega
    · rw [pk_cpy_out (by omega), rd_j, rd_j, rd_j, rd_j, rd_j, rd_j, kq.row 39 rfl, e4]
      by_cases hin : 13 * k ≤ x ∧ x < 13 * k + 13
      · rw [if_pos hin]
        have hx6 : x - 13 * k = 0 ∨ x - 13 * k = 1 ∨ x - 13 * k = 2 ∨ x - 13 * k = 3 ∨ x - 13 * k = 4 ∨ x - 13 * k = 5 := by omega
        obtain ⟨i, hi, rfl⟩ : ∃ i, i < 6 ∧ x = 13 * k + i := ⟨x - 13 * k, by omega, by omega⟩
        rw [Nat.add_sub_cancel_left] at hx6 ⊢
        have ai : ∀ i j : Nat, (13 * k + i = 13 * k + j) ↔ i = j := fun i j => by omega
        simp only [ai]
        rcases hx6 with rfl | rfl | rfl | rfl | rfl | rfl <;> rfl
      · rw [if_neg hin, if_neg (by omega), if_neg (by omega), if_neg (by omega), if_neg (by omega), if_neg (by omega), if_neg (by omega)]
  unfold fn_X3_keep reK reU reS
  have hkept := h.2.1
  by_cases e : K = 16
  · subst e
    obtain ⟨m1, f1, f2, f3⟩ := forget_ok (m := m)
    obtain ⟨m2, g1, g2, g3⟩ := base 15 m1 (by decide) f2 (kp_X3_forgetOldest _ _ _ f1)
    rw [hkept, if_neg (by decide), f1, bd_s, bd_s, if_pos rfl, if_pos rfl, if_pos rfl]
    refine ⟨m2, g1, fun r' he hst m3 h1 h2 => ⟨by decide, ?_⟩⟩
    rw [h1, h2, g2]
    have := (iv_H.drop h.2).push (z := z) (d := dR z a b w s r) (by decide) hW hz rfl he hst
    refine this.cong (by decide) (fun x _ => rfl) (fun j _ => rfl) (fun x hx => ?_)
    rw [g3 x (by omega)]
    unfold puD
    by_cases hc : 13 * 15 ≤ x ∧ x < 13 * 15 + 13
    · rw [if_pos hc, if_pos hc]
    · rw [if_neg hc, if_neg hc]; exact f3 x (by omega)
  · have hK := h.1
    obtain ⟨m2, g1, g2, g3⟩ := base K m (by omega) hkept am_kp.rf
    rw [hkept, if_pos (show nI K < (16 : Int32) from nI_lt (b := 16) (by omega) (by decide)), bd_s, if_neg e, if_neg e, if_neg e]
    rw [hkept] at g1
    rw [hkept]
    refine ⟨m2, g1, fun r' he hst m3 h1 h2 => ⟨by omega, ?_⟩⟩
    rw [h1, h2, g2]
    have := h.2.push (z := z) (d := dR z a b w s r) (by omega) hW hz rfl he hst
    exact this.cong (by omega) (fun x _ => rfl) (fun j _ => rfl) (fun x hx => g3 x (by omega))
end KEEP
