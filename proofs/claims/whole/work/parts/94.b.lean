/-! the class's heads of CLAUSES -/
section HD
variable {m : am_m} {k : Nat}
theorem cmark {f : Nat} {v : Int32} (h2 : m.1 5 0 2 = nI (k + 1)) (hk : k < 12) (hl : m.2.2.2.2.2.2.1 28 0 = 72) (hf : f < 6) : fn_X5_mark 0 (nI f) v m = some (am_si m 28 0 (6 * k + f) v) := by
  have e : (nI (k + 1) - (1 : Int32)) * (6 : Int32) + nI f = nI (6 * k + f) := by
    rw [show (1 : Int32) = nI 1 from rfl, show (6 : Int32) = nI 6 from rfl, pk_sub (by omega), Nat.add_sub_cancel, pk_mul, nI_add, Nat.mul_comm]
  unfold fn_X5_mark
  rw [h2, hl, if_neg (nI_nle (by omega) (by omega)), if_neg (nI_pos (by omega)), if_neg (show ¬ (6 : Int32) ≤ nI f from nI_ge (b := 6) hf (by decide)), e, if_neg (show ¬ Int32.ofNat 72 ≤ nI (6 * k + f) from nI_ge (b := 72) (by omega) (by decide)), ck_in (by omega) (by decide), nI_clamp (by omega)]
theorem copen {h : Int32} (h2 : m.1 5 0 2 = nI k) (hk : k < 12) (hl : m.2.2.2.2.2.2.1 28 0 = 72) : ∃ m', fn_X5_open 0 h m = some m' ∧ m'.1 5 0 2 = nI (k + 1) ∧ (∀ i, m'.1 28 0 i = if i = 6 * k + 1 then 1 else if i = 6 * k then h else if 6 * k ≤ i ∧ i < 6 * k + 6 then -1 else m.1 28 0 i) ∧ am_kp [(5, 2), (28, 0)] [] 0 m m' := by
  have e6 : nI k * (6 : Int32) = nI (6 * k) := by rw [show (6 : Int32) = nI 6 from rfl, pk_mul, Nat.mul_comm]
  have key : ∃ m1, lp_X5_open_23 1000000 0 h (nI (6 * k)) 0 m = some m1 ∧ ((∀ i, m1.1 28 0 i = if 6 * k ≤ i ∧ i < 6 * k + 6 then -1 else m.1 28 0 i) ∧ am_kp [(5, 2), (28, 0)] [] 0 m m1 ∧ m1.1 5 = m.1 5) := by
    refine lp_up0 (fun N x b => lp_X5_open_23 N 0 h (nI (6 * k)) x b) (fun j m1 => (∀ i, m1.1 28 0 i = if 6 * k ≤ i ∧ i < 6 * k + j then -1 else m.1 28 0 i) ∧ am_kp [(5, 2), (28, 0)] [] 0 m m1 ∧ m1.1 5 = m.1 5) (fun m1 => (∀ i, m1.1 28 0 i = if 6 * k ≤ i ∧ i < 6 * k + 6 then -1 else m.1 28 0 i) ∧ am_kp [(5, 2), (28, 0)] [] 0 m m1 ∧ m1.1 5 = m.1 5) 6 (by decide) (fun N m1 hh => ⟨m1, ?_, hh⟩) (fun N j m1 hj hh => Or.inl ⟨am_si m1 28 0 (6 * k + j) (-1), ?_, fun i => ?_, am_kp.si hh.2.1 rfl, hh.2.2⟩) m ⟨fun i => (if_neg (by omega)).symm, am_kp.rf, rfl⟩
    · show lp_X5_open_23 (N + 1) 0 h (nI (6 * k)) (nI 6) m1 = _
      rw [lp_X5_open_23.eq_2, if_pos (by decide)]
    · show lp_X5_open_23 (N + 1) 0 h (nI (6 * k)) (nI j) m1 = lp_X5_open_23 N 0 h (nI (6 * k)) (nI (j + 1)) _
      have el : m1.2.2 = m.2.2 := hh.2.1.2.2
      rw [lp_X5_open_23.eq_2, if_neg (show ¬ (6 : Int32) ≤ nI j from nI_ge (b := 6) hj (by decide)), nI_add, el, hl, ck_in (by omega) (by decide), nI_clamp (by omega), nI_1]
    · rw [rd_j, hh.1]
      by_cases e : i = 6 * k + j
      · rw [if_pos e, if_pos (by omega)]
      · rw [if_neg e]
        exact if_iff (by omega)
  obtain ⟨m1, e1, e2, e3, e4⟩ := key
  have el : m1.2.2 = m.2.2 := e3.2.2
  refine ⟨am_si (am_si (am_si m1 28 0 (6 * k) h) 28 0 (6 * k + 1) 1) 5 0 2 (nI (k + 1)), ?_, rfl, fun i => ?_, am_kp.si (am_kp.si (am_kp.si e3 rfl) rfl) rfl⟩
  · unfold fn_X5_open
    rw [h2, hl, e6, show (6 : Int32) = nI 6 from rfl, nI_add, if_pos (show nI (6 * k + 6) ≤ Int32.ofNat 72 from nI_le (b := 72) (by omega) (by decide)), e1, bd_s, show (0 : Int32) = nI 0 from rfl, show (1 : Int32) = nI 1 from rfl, nI_add, nI_add, el, hl, ck_in (by omega) (by decide), ck_in (by omega) (by decide), nI_clamp (by omega), nI_clamp (by omega), e4, h2, nI_add]
    rfl
  · show (am_si (am_si m1 28 0 (6 * k) h) 28 0 (6 * k + 1) 1).1 28 0 i = _
    rw [rd_j, rd_j, e2]
end HD
