/-! how likely so few stumble; how long one lasts -/
def fwS (t : Int32) : Nat → Nat → Int64
  | 0, j => if j = 0 then 1000000000000 else 0
  | g + 1, j => fwS t g j * ((10 : Int32) - t).toInt64 / 10 + (if j = 0 then 0 else fwS t g (j - 1) * t.toInt64 / 10)
def smL (f : Nat → Int64) : Nat → Int64
  | 0 => 0
  | k + 1 => smL f k + f k
section FW
variable {m : am_m} {t : Int32}
theorem seatGuest_ok {g : Nat} (h : ∀ j, j < 20 → m.2.1 81 0 j = fwS t g j) : ∃ m', fn_X9_seatGuest t m = some m' ∧ m'.1 = m.1 ∧ ∀ j, j < 20 → m'.2.1 81 0 j = fwS t (g + 1) j := by
  have key : ∃ m', lp_X9_seatGuest_3 1000000 t (nI 20 - 1) m = some m' ∧ (m'.1 = m.1 ∧ ∀ j, j < 20 → m'.2.1 81 0 j = fwS t (g + 1) j) := by
    refine lp_dn (fun N x a => lp_X9_seatGuest_3 N t x a) (fun i m1 => i ≤ 20 ∧ m1.1 = m.1 ∧ ∀ j, j < 20 → m1.2.1 81 0 j = if i ≤ j then fwS t (g + 1) j else fwS t g j) _ (fun N m1 hp => ?_) (fun N i m1 hp => ?_) 20 1000000 m (by decide) ⟨Nat.le_refl _, rfl, fun j hj => by rw [if_neg (by omega)]; exact h j hj⟩
    · refine ⟨m1, ?_, hp.2.1, fun j hj => by rw [hp.2.2 j hj, if_pos (Nat.zero_le _)]⟩
      show lp_X9_seatGuest_3 (N + 1) t (-1) m1 = _
      rw [lp_X9_seatGuest_3.eq_2, if_pos (by decide)]
    · obtain ⟨p0, p1, p2⟩ := hp
      refine ⟨am_sg m1 81 0 i (fwS t (g + 1) i), ?_, by omega, p1, fun j hj => ?_⟩
      · show lp_X9_seatGuest_3 (N + 1) t (nI i) m1 = lp_X9_seatGuest_3 N t (nI i - 1) _
        have pi : m1.2.1 81 0 i = fwS t g i := by rw [p2 i (by omega), if_neg (by omega)]
        rw [lp_X9_seatGuest_3.eq_2, if_neg (nI_pos (by omega)), ck_in (by omega) (by decide), nI_clamp (by omega), pi]
        by_cases e : i = 0
        · subst e
          rw [if_pos (show nI 0 ≤ 0 by decide), bd_s, ck_in (by decide) (by decide), fwS, if_pos rfl]
        · have ei : nI i - 1 = nI (i - 1) := pk_sub (b := 1) (by omega)
          have pj : m1.2.1 81 0 (i - 1) = fwS t g (i - 1) := by rw [p2 (i - 1) (by omega), if_neg (by omega)]
          rw [if_neg (nI_nle (by omega) (by omega)), ei, ck_in (by omega) (by decide), nI_clamp (by omega), pj, bd_s, ck_in (by omega) (by decide), fwS, if_neg e]
      · rw [rd_jL, p2 j hj]
        by_cases e : j = i
        · rw [if_pos e, if_pos (by omega), e]
        · rw [if_neg e]
          exact if_iff (by omega)
  obtain ⟨m', e1, e2, e3⟩ := key
  refine ⟨m', ?_, e2, e3⟩
  unfold fn_X9_seatGuest
  have e1 : lp_X9_seatGuest_3 1000000 t 19 m = some m' := e1
  rw [e1, bd_s]
theorem cfew_ok {k n : Nat} (hk : 1 ≤ k ∧ k ≤ 20) (hn : n ≤ 99) (ht : m.1 39 0 1 = t) : ∃ m', fn_X9_few (nI k) (nI n) m = some (smL (fwS t n) k, m') := by
  have s1 : ∃ m1, lp_X9_few_27 1000000 (nI k) (nI n) 0 m = some m1 ∧ (m1.1 = m.1 ∧ ∀ j, j < 20 → m1.2.1 81 0 j = 0) := by
    refine (lp_up0 (fun N x a => lp_X9_few_27 N (nI k) (nI n) x a) (fun i m1 => m1.1 = m.1 ∧ ∀ j, j < i → m1.2.1 81 0 j = 0) _ 20 (by decide) (fun N m1 hp => ⟨m1, ?_, hp⟩) (fun N i m1 hi hp => Or.inl ⟨am_sg m1 81 0 i 0, ?_, hp.1, fun j hj => ?_⟩) m ⟨rfl, fun j hj => by omega⟩)
    · show lp_X9_few_27 (N + 1) (nI k) (nI n) (nI 20) m1 = _
      rw [lp_X9_few_27.eq_2, if_pos (by decide)]
    · show lp_X9_few_27 (N + 1) (nI k) (nI n) (nI i) m1 = lp_X9_few_27 N (nI k) (nI n) (nI (i + 1)) _
      rw [lp_X9_few_27.eq_2, if_neg (show ¬ (20 : Int32) ≤ nI i from nI_ge (b := 20) hi (by decide)), ck_in (by omega) (by decide), nI_clamp (by omega), nI_1]
    · rw [rd_jL]
      by_cases e : j = i
      · rw [if_pos e]
      · rw [if_neg e]; exact hp.2 j (by omega)
  obtain ⟨m1, e1, f1, g1⟩ := s1
  have s2 : ∃ m2, lp_X9_few_57 1000000 (nI k) (nI n) 0 (am_sg m1 81 0 0 1000000000000) = some m2 ∧ (m2.1 = m.1 ∧ ∀ j, j < 20 → m2.2.1 81 0 j = fwS t n j) := by
    refine (lp_up0 (fun N x a => lp_X9_few_57 N (nI k) (nI n) x a) (fun i m2 => m2.1 = m.1 ∧ ∀ j, j < 20 → m2.2.1 81 0 j = fwS t i j) _ n (by omega) (fun N m2 hp => ⟨m2, ?_, hp⟩) (fun N i m2 hi hp => Or.inl ?_) (am_sg m1 81 0 0 1000000000000) ⟨f1, fun j hj => ?_⟩)
    · show lp_X9_few_57 (N + 1) (nI k) (nI n) (nI n) m2 = _
      rw [lp_X9_few_57.eq_2, if_pos (nI_le (Nat.le_refl _) (by omega))]
    · obtain ⟨m3, e3, f3, g3⟩ := seatGuest_ok (t := t) hp.2
      refine ⟨m3, ?_, f3.trans hp.1, g3⟩
      show lp_X9_few_57 (N + 1) (nI k) (nI n) (nI i) m2 = lp_X9_few_57 N (nI k) (nI n) (nI (i + 1)) _
      rw [lp_X9_few_57.eq_2, if_neg (nI_ge hi (by omega)), hp.1, ht, e3, bd_s, nI_1]
    · rw [rd_jL, fwS]
      by_cases e : j = 0
      · rw [if_pos e, if_pos e]
      · rw [if_neg e, if_neg e]; exact g1 j hj
  obtain ⟨m2, e2, f2, g2⟩ := s2
  have s3 : lp_X9_few_86 1000000 (nI k) 0 0 m2 = some (smL (fwS t n) k) := by
    refine lp_eq (fun N x a => lp_X9_few_86 N (nI k) a x m2) (fun i => smL (fwS t n) i) _ k (by omega) (fun N => ?_) (fun N i hi => ?_) 0 (by omega)
    · show lp_X9_few_86 (N + 1) (nI k) _ (nI k) m2 = _
      rw [lp_X9_few_86.eq_2, if_pos (nI_le (Nat.le_refl _) (by omega))]
    · show lp_X9_few_86 (N + 1) (nI k) _ (nI i) m2 = lp_X9_few_86 N (nI k) _ (nI (i + 1)) m2
      rw [lp_X9_few_86.eq_2, if_neg (nI_ge hi (by omega)), ck_in (by omega) (by decide), nI_clamp (by omega), g2 i (by omega), nI_1]
      rfl
  refine ⟨m2, ?_⟩
  unfold fn_X9_few
  rw [if_neg (show ¬ nI k < (1 : Int32) from nI_nlt (b := 1) hk.1 (by omega)), if_neg (show ¬ (20 : Int32) < nI k from nI_nlt (a := 20) hk.2 (by decide)), if_neg (nI_pos (by omega)), if_pos (show nI n ≤ (99 : Int32) from nI_le (b := 99) hn (by decide)), e1, bd_s, e2, bd_s, s3, bd_s]
theorem rguest_ok {g k n x4 : Nat} (hk : 1 ≤ k ∧ k ≤ 20) (h : ∀ j, j < k → m.2.1 88 0 j = fwS t g j) : ∃ m', lp_X10_few_85 1000000 (nI k) (nI n) t (nI x4) (nI k - 1) m = some m' ∧ (m'.1 = m.1 ∧ ∀ j, j < k → m'.2.1 88 0 j = fwS t (g + 1) j) := by
  refine lp_dn (fun N x a => lp_X10_few_85 N (nI k) (nI n) t (nI x4) x a) (fun i m1 => i ≤ k ∧ m1.1 = m.1 ∧ ∀ j, j < k → m1.2.1 88 0 j = if i < j then fwS t (g + 1) j else if j = i then fwS t g j * ((10 : Int32) - t).toInt64 / 10 else fwS t g j) _ (fun N m1 hp => ?_) (fun N i m1 hp => ?_) k 1000000 m (by omega) ⟨Nat.le_refl _, rfl, fun j hj => by rw [if_neg (by omega), if_neg (by omega)]; exact h j hj⟩
  · refine ⟨m1, ?_, hp.2.1, fun j hj => ?_⟩
    · show lp_X10_few_85 (N + 1) (nI k) (nI n) t (nI x4) (-1) m1 = _
      rw [lp_X10_few_85.eq_2, if_pos (by decide)]
    · rw [hp.2.2 j hj]
      by_cases e : j = 0
      · rw [if_neg (by omega), if_pos e, fwS, if_pos e, Int64.add_zero]
      · rw [if_pos (by omega)]
  · obtain ⟨p0, p1, p2⟩ := hp
    have pi : m1.2.1 88 0 i = fwS t g i := by rw [p2 i (by omega), if_neg (by omega), if_neg (by omega)]
    refine ⟨am_sg (am_sg m1 88 0 i (fwS t g i * ((10 : Int32) - t).toInt64 / 10)) 88 0 (i + 1) ((am_sg m1 88 0 i (fwS t g i * ((10 : Int32) - t).toInt64 / 10)).2.1 88 0 (i + 1) + fwS t g i * t.toInt64 / 10), ?_, by omega, p1, ?_⟩
    · show lp_X10_few_85 (N + 1) (nI k) (nI n) t (nI x4) (nI i) m1 = lp_X10_few_85 N (nI k) (nI n) t (nI x4) (nI i - 1) _
      rw [lp_X10_few_85.eq_2, if_neg (nI_pos (by omega)), ck_in (by omega) (by decide), ck_in (by omega) (by decide), nI_clamp (by omega), nI_1, ck_in (by omega) (by decide), ck_in (by omega) (by decide), nI_clamp (by omega), pi]
    · intro j hj
      rw [rd_jL, rd_jL, rd_jL]
      by_cases e : j = i + 1
      · subst e
        rw [if_pos rfl, if_neg (by omega), p2 (i + 1) hj, if_neg (by omega), if_pos rfl, if_pos (by omega), fwS, if_neg (by omega), Nat.add_sub_cancel]
      · rw [if_neg e]
        by_cases e2 : j = i
        · subst e2
          rw [if_pos rfl, if_neg (by omega), if_pos rfl]
        · rw [if_neg e2, if_neg e2, p2 j hj]
          by_cases e3 : i + 1 < j
          · rw [if_pos e3, if_pos (by omega)]
          · rw [if_neg e3, if_neg e, if_neg (by omega)]
theorem rfew_ok {k n : Nat} (hk : 1 ≤ k ∧ k ≤ 20) (hn : n ≤ 99) (ht : m.1 44 0 5 = t) : ∃ m', fn_X10_few (nI k) (nI n) m = some (smL (fwS t n) k, m') := by
  have s1 : ∃ m1, lp_X10_few_35 1000000 (nI k) (nI n) 0 (am_si m 10 0 0 0) = some m1 ∧ (m1.1 44 = m.1 44 ∧ ∀ j, j < 21 → m1.2.1 88 0 j = fwS t 0 j) := by
    refine (lp_up0 (fun N x a => lp_X10_few_35 N (nI k) (nI n) x a) (fun i m1 => m1.1 44 = m.1 44 ∧ ∀ j, j < i → m1.2.1 88 0 j = fwS t 0 j) _ 21 (by decide) (fun N m1 hp => ⟨m1, ?_, hp⟩) (fun N i m1 hi hp => Or.inl ⟨am_sg m1 88 0 i (fwS t 0 i), ?_, hp.1, fun j hj => ?_⟩) (am_si m 10 0 0 0) ⟨rfl, fun j hj => by omega⟩)
    · show lp_X10_few_35 (N + 1) (nI k) (nI n) (nI 21) m1 = _
      rw [lp_X10_few_35.eq_2, if_pos (by decide)]
    · show lp_X10_few_35 (N + 1) (nI k) (nI n) (nI i) m1 = lp_X10_few_35 N (nI k) (nI n) (nI (i + 1)) _
      rw [lp_X10_few_35.eq_2, if_neg (show ¬ (21 : Int32) ≤ nI i from nI_ge (b := 21) hi (by decide)), ck_in (by omega) (by decide), nI_clamp (by omega), nI_1, fwS]
      by_cases e : i = 0
      · subst e
        rw [if_neg (show ¬ nI 0 ≠ 0 by decide), if_pos rfl]
      · rw [if_pos (show nI i ≠ 0 from nI_ne0 (by omega) (by omega)), if_neg e]
    · rw [rd_jL]
      by_cases e : j = i
      · rw [if_pos e, e]
      · rw [if_neg e]; exact hp.2 j (by omega)
  obtain ⟨m1, e1, f1, g1⟩ := s1
  have s2 : ∃ m2, lp_X10_few_74 1000000 (nI k) (nI n) t 0 m1 = some m2 ∧ (∀ j, j < k → m2.2.1 88 0 j = fwS t n j) := by
    refine (lp_up0 (fun N x a => lp_X10_few_74 N (nI k) (nI n) t x a) (fun i m2 => ∀ j, j < k → m2.2.1 88 0 j = fwS t i j) _ n (by omega) (fun N m2 hp => ⟨m2, ?_, hp⟩) (fun N i m2 hi hp => Or.inl ?_) m1 (fun j hj => g1 j (by omega)))
    · show lp_X10_few_74 (N + 1) (nI k) (nI n) t (nI n) m2 = _
      rw [lp_X10_few_74.eq_2, if_pos (nI_le (Nat.le_refl _) (by omega))]
    · obtain ⟨m3, e3, f3, g3⟩ := rguest_ok (t := t) (n := n) (x4 := i) hk hp
      refine ⟨m3, ?_, g3⟩
      show lp_X10_few_74 (N + 1) (nI k) (nI n) t (nI i) m2 = lp_X10_few_74 N (nI k) (nI n) t (nI (i + 1)) _
      rw [lp_X10_few_74.eq_2, if_neg (nI_ge hi (by omega)), e3, bd_s, nI_1]
  obtain ⟨m2, e2, g2⟩ := s2
  have s3 : lp_X10_few_157 1000000 (nI k) 0 0 m2 = some (smL (fwS t n) k) := by
    refine lp_eq (fun N x a => lp_X10_few_157 N (nI k) a x m2) (fun i => smL (fwS t n) i) _ k (by omega) (fun N => ?_) (fun N i hi => ?_) 0 (by omega)
    · show lp_X10_few_157 (N + 1) (nI k) _ (nI k) m2 = _
      rw [lp_X10_few_157.eq_2, if_pos (nI_le (Nat.le_refl _) (by omega))]
    · show lp_X10_few_157 (N + 1) (nI k) _ (nI i) m2 = lp_X10_few_157 N (nI k) _ (nI (i + 1)) m2
      rw [lp_X10_few_157.eq_2, if_neg (nI_ge hi (by omega)), ck_in (by omega) (by decide), nI_clamp (by omega), g2 i (by omega), nI_1]
      rfl
  refine ⟨m2, ?_⟩
  unfold fn_X10_few
  rw [show (1 : Int64) = (1 : Int32).toInt64 from rfl, show (20 : Int64) = (20 : Int32).toInt64 from rfl, in_32, if_pos ⟨nI_le (a := 1) hk.1 (by omega), nI_le (b := 20) hk.2 (by decide)⟩, bd_s, if_neg (by decide), show (0 : Int64) = (0 : Int32).toInt64 from rfl, show (99 : Int64) = (99 : Int32).toInt64 from rfl, in_32, if_pos ⟨nI_pos' (by omega), nI_le (b := 99) hn (by decide)⟩, bd_s, if_pos (by decide), e1, bd_s, f1, ht, e2, bd_s]
  rw [show Int32.toInt64 0 = (0 : Int64) from rfl, s3, bd_s]
theorem op_few (h : Inv m) (a b : Int32) : op_ok m (fun m => fn_X9_few a b m) (fun m => fn_X10_few a b m) := by
  by_cases H : ((1 : Int32) ≤ a ∧ a ≤ 20) ∧ (0 ≤ b ∧ b ≤ 99)
  · obtain ⟨k, hk, rfl⟩ := nI_of (show ¬ a < 0 from fun z => absurd (fa_trans z (by decide : (0 : Int32) ≤ 1)) (fun q => (fa_of_lt q).2.1 H.1.1))
    obtain ⟨n, hn, rfl⟩ := nI_of (an_nn H.2.1)
    have k1 : 1 ≤ k ∧ k ≤ 20 := ⟨(nI_leI (a := 1) (by decide) hk).mp H.1.1, (nI_leI (b := 20) hk (by decide)).mp H.1.2⟩
    have n1 : n ≤ 99 := (nI_leI (b := 99) hn (by decide)).mp H.2.2
    refine op_look h (fun t => kp_X9_few _ _ m t) (fun m1 t => kp_X10_few _ _ m1 t) rfl rfl rfl (smL (fwS (m.1 44 0 5) n) k) (cfew_ok k1 n1 (h.u.2.2.2.2.1 1 (by decide))) (fun m1 _ e => rfew_ok k1 n1 (by rw [e]))
  · refine op_look h (fun t => kp_X9_few _ _ m t) (fun m1 t => kp_X10_few _ _ m1 t) rfl rfl rfl (-1) ⟨m, ?_⟩ (fun m1 _ e => ⟨am_si m1 10 0 0 0, ?_⟩)
    · show fn_X9_few a b m = _
      unfold fn_X9_few
      by_cases h1 : a < 1
      · rw [if_pos h1]
      rw [if_neg h1]
      by_cases h2 : 20 < a
      · rw [if_pos h2]
      rw [if_neg h2]
      by_cases h3 : b < 0
      · rw [if_pos h3]
      rw [if_neg h3, if_neg (fun z => H ⟨⟨fa_of_nlt h1, fa_of_nlt h2⟩, fa_of_nlt h3, z⟩)]
    · show fn_X10_few a b m1 = _
      unfold fn_X10_few
      rw [show (1 : Int64) = (1 : Int32).toInt64 from rfl, show (20 : Int64) = (20 : Int32).toInt64 from rfl, in_32, bd_s]
      by_cases h1 : (1 : Int32) ≤ a ∧ a ≤ 20
      · rw [if_pos h1, if_neg (by decide), show (0 : Int64) = (0 : Int32).toInt64 from rfl, show (99 : Int64) = (99 : Int32).toInt64 from rfl, in_32, if_neg (fun z => H ⟨h1, z⟩), bd_s, if_neg (by decide)]
      · rw [if_neg h1, if_pos rfl]
end FW
