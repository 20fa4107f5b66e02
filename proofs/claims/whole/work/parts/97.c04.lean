-- X6_isThere
set_option maxRecDepth 100000 in
theorem ex_X6_isThere (d : Nat) (hd : 1 ≤ d) (a1 : Int32) (m : am_m) (t : Int32) (h : fn_X6_isThere a1 m = some t) : am_Ex am_cod d 69 [.inr (.inr (some (6, 0))), .inl a1] (am_mk m) (some (.inl t)) (am_mk m) 0 0 := by
  obtain ⟨d, rfl⟩ : ∃ e, d = e + 1 := ⟨d - 1, by omega⟩
  have htb : am_tab 69 = at_69 := rfl
  refine ⟨Nat.le_of_ble_eq_true rfl, ?_⟩
  unfold fn_X6_isThere at h
  show am_Go d 69 (0, [some (.inr (.inr (some (6, 0)))), some (.inl a1)], [], am_mk m) _ _ 0 0
  refine am_Go.n htb 1 (S' := (1, [some (.inr (.inr (some (6, 0)))), some (.inl a1)], [.inl a1], am_mk m)) rfl ?_
  by_cases hc1 : a1 < 0
  · rw [if_pos hc1] at h
    refine am_Go.c1 htb (S' := (16, [some (.inr (.inr (some (6, 0)))), some (.inl a1)], [], am_mk m)) (if_pos hc1) ?_
    refine am_Go.n htb 1 (S' := (17, [some (.inr (.inr (some (6, 0)))), some (.inl a1)], [.inl 0], am_mk m)) rfl ?_
    cases h
    exact am_Go.rt htb rfl
  · rw [if_neg hc1] at h
    refine am_Go.c1 htb (S' := (4, [some (.inr (.inr (some (6, 0)))), some (.inl a1)], [], am_mk m)) (if_neg hc1) ?_
    refine am_Go.n htb 3 (S' := (9, [some (.inr (.inr (some (6, 0)))), some (.inl a1)], [.inl (m.1 6 0 0), .inl a1], am_mk m)) rfl ?_
    by_cases hc2 : (m.1 6 0 0) ≤ a1
    · rw [if_pos hc2] at h
      refine am_Go.c1 htb (S' := (16, [some (.inr (.inr (some (6, 0)))), some (.inl a1)], [], am_mk m)) (if_pos hc2) ?_
      refine am_Go.n htb 1 (S' := (17, [some (.inr (.inr (some (6, 0)))), some (.inl a1)], [.inl 0], am_mk m)) rfl ?_
      cases h
      exact am_Go.rt htb rfl
    · rw [if_neg hc2] at h
      refine am_Go.c1 htb (S' := (12, [some (.inr (.inr (some (6, 0)))), some (.inl a1)], [], am_mk m)) (if_neg hc2) ?_
      refine am_Go.n htb 2 (S' := (17, [some (.inr (.inr (some (6, 0)))), some (.inl a1)], [.inl 1], am_mk m)) rfl ?_
      cases h
      exact am_Go.rt htb rfl
-- X6_mayOf
set_option maxRecDepth 100000 in
theorem ex_X6_mayOf (d : Nat) (hd : 2 ≤ d) (a1 : Int32) (m : am_m) (t : Int32) (h : fn_X6_mayOf a1 m = some t) : am_Ex am_cod d 70 [.inr (.inr (some (6, 0))), .inl a1] (am_mk m) (some (.inl t)) (am_mk m) 0 0 := by
  obtain ⟨d, rfl⟩ : ∃ e, d = e + 1 := ⟨d - 1, by omega⟩
  have htb : am_tab 70 = at_70 := rfl
  refine ⟨Nat.le_of_ble_eq_true rfl, ?_⟩
  unfold fn_X6_mayOf at h
  show am_Go d 70 (0, [some (.inr (.inr (some (6, 0)))), some (.inl a1)], [], am_mk m) _ _ 0 0
  refine am_Go.n htb 2 (S' := (2, [some (.inr (.inr (some (6, 0)))), some (.inl a1)], [.inl a1, .inr (.inr (some (6, 0)))], am_mk m)) rfl ?_
  obtain ⟨r1, h2, h⟩ := am_bd h
  refine am_Go.cl htb rfl (ex_X6_isThere d (by omega) a1 m r1 h2) ?_
  show am_Go d 70 (5, [some (.inr (.inr (some (6, 0)))), some (.inl a1)], [.inl r1], am_mk m) _ _ _ _
  by_cases hc3 : r1 = 0
  · rw [if_pos hc3] at h
    refine am_Go.c1 htb (S' := (17, [some (.inr (.inr (some (6, 0)))), some (.inl a1)], [], am_mk m)) (if_pos hc3) ?_
    refine am_Go.n htb 1 (S' := (18, [some (.inr (.inr (some (6, 0)))), some (.inl a1)], [.inl 0], am_mk m)) rfl ?_
    cases h
    exact am_Go.rt htb rfl
  · rw [if_neg hc3] at h
    refine am_Go.c1 htb (S' := (8, [some (.inr (.inr (some (6, 0)))), some (.inl a1)], [], am_mk m)) (if_neg hc3) ?_
    refine am_Go.n htb 3 (S' := (13, [some (.inr (.inr (some (6, 0)))), some (.inl a1)], [.inl a1, .inr (.inr (some (30, 0)))], am_mk m)) rfl ?_
    obtain ⟨hg4, h⟩ := am_ck_some h
    refine am_Go.c1 htb (S' := (14, [some (.inr (.inr (some (6, 0)))), some (.inl a1)], [.inl (m.1 30 0 a1.toNatClampNeg)], am_mk m)) (if_neg hg4) ?_
    refine am_Go.n htb 1 (S' := (18, [some (.inr (.inr (some (6, 0)))), some (.inl a1)], [.inl (m.1 30 0 a1.toNatClampNeg)], am_mk m)) rfl ?_
    cases h
    exact am_Go.rt htb rfl
-- X6_barsOf
set_option maxRecDepth 100000 in
theorem ex_X6_barsOf (d : Nat) (hd : 2 ≤ d) (a1 : Int32) (m : am_m) (t : Int32) (h : fn_X6_barsOf a1 m = some t) : am_Ex am_cod d 71 [.inr (.inr (some (6, 0))), .inl a1] (am_mk m) (some (.inl t)) (am_mk m) 0 0 := by
  obtain ⟨d, rfl⟩ : ∃ e, d = e + 1 := ⟨d - 1, by omega⟩
  have htb : am_tab 71 = at_71 := rfl
  refine ⟨Nat.le_of_ble_eq_true rfl, ?_⟩
  unfold fn_X6_barsOf at h
  show am_Go d 71 (0, [some (.inr (.inr (some (6, 0)))), some (.inl a1)], [], am_mk m) _ _ 0 0
  refine am_Go.n htb 2 (S' := (2, [some (.inr (.inr (some (6, 0)))), some (.inl a1)], [.inl a1, .inr (.inr (some (6, 0)))], am_mk m)) rfl ?_
  obtain ⟨r1, h2, h⟩ := am_bd h
  refine am_Go.cl htb rfl (ex_X6_isThere d (by omega) a1 m r1 h2) ?_
  show am_Go d 71 (5, [some (.inr (.inr (some (6, 0)))), some (.inl a1)], [.inl r1], am_mk m) _ _ _ _
  by_cases hc3 : r1 = 0
  · rw [if_pos hc3] at h
    refine am_Go.c1 htb (S' := (17, [some (.inr (.inr (some (6, 0)))), some (.inl a1)], [], am_mk m)) (if_pos hc3) ?_
    refine am_Go.n htb 1 (S' := (18, [some (.inr (.inr (some (6, 0)))), some (.inl a1)], [.inl 0], am_mk m)) rfl ?_
    cases h
    exact am_Go.rt htb rfl
  · rw [if_neg hc3] at h
    refine am_Go.c1 htb (S' := (8, [some (.inr (.inr (some (6, 0)))), some (.inl a1)], [], am_mk m)) (if_neg hc3) ?_
    refine am_Go.n htb 3 (S' := (13, [some (.inr (.inr (some (6, 0)))), some (.inl a1)], [.inl a1, .inr (.inr (some (31, 0)))], am_mk m)) rfl ?_
    obtain ⟨hg4, h⟩ := am_ck_some h
    refine am_Go.c1 htb (S' := (14, [some (.inr (.inr (some (6, 0)))), some (.inl a1)], [.inl (m.1 31 0 a1.toNatClampNeg)], am_mk m)) (if_neg hg4) ?_
    refine am_Go.n htb 1 (S' := (18, [some (.inr (.inr (some (6, 0)))), some (.inl a1)], [.inl (m.1 31 0 a1.toNatClampNeg)], am_mk m)) rfl ?_
    cases h
    exact am_Go.rt htb rfl
-- X2_isAllowed
set_option maxRecDepth 100000 in
theorem ex_X2_isAllowed (d : Nat) (hd : 3 ≤ d) (a2 : Int32) (a3 : Int32) (m : am_m) (t : Int32) (h : fn_X2_isAllowed a2 a3 m = some t) : am_Ex am_cod d 26 [.inr (.inr (some (2, 0))), .inr (.inr (some (6, 0))), .inl a2, .inl a3] (am_mk m) (some (.inl t)) (am_mk m) 0 0 := by
  obtain ⟨d, rfl⟩ : ∃ e, d = e + 1 := ⟨d - 1, by omega⟩
  have htb : am_tab 26 = at_26 := rfl
  refine ⟨Nat.le_of_ble_eq_true rfl, ?_⟩
  unfold fn_X2_isAllowed at h
  show am_Go d 26 (0, [some (.inr (.inr (some (2, 0)))), some (.inr (.inr (some (6, 0)))), some (.inl a2), some (.inl a3)], [], am_mk m) _ _ 0 0
  refine am_Go.n htb 2 (S' := (4, [some (.inr (.inr (some (2, 0)))), some (.inr (.inr (some (6, 0)))), some (.inl a2), some (.inl a3)], [.inl (m.1 2 0 0)], am_mk m)) rfl ?_
  by_cases hc1 : (m.1 2 0 0) = 0
  · rw [if_pos hc1] at h
    refine am_Go.c1 htb (S' := (27, [some (.inr (.inr (some (2, 0)))), some (.inr (.inr (some (6, 0)))), some (.inl a2), some (.inl a3)], [], am_mk m)) (if_pos hc1) ?_
    refine am_Go.n htb 3 (S' := (30, [some (.inr (.inr (some (2, 0)))), some (.inr (.inr (some (6, 0)))), some (.inl a2), some (.inl a3)], [.inl a2, .inr (.inr (some (6, 0))), .inl a3], am_mk m)) rfl ?_
    obtain ⟨r2, h3, h⟩ := am_bd h
    refine am_Go.cl htb rfl (ex_X6_barsOf d (by omega) a2 m r2 h3) ?_
    show am_Go d 26 (33, [some (.inr (.inr (some (2, 0)))), some (.inr (.inr (some (6, 0)))), some (.inl a2), some (.inl a3)], [.inl r2, .inl a3], am_mk m) _ _ _ _
    refine am_Go.n htb 1 (S' := (34, [some (.inr (.inr (some (2, 0)))), some (.inr (.inr (some (6, 0)))), some (.inl a2), some (.inl a3)], [.inl (a3 &&& r2)], am_mk m)) rfl ?_
    by_cases hc4 : (a3 &&& r2) ≠ 0
    · rw [if_pos hc4] at h
      refine am_Go.c1 htb (S' := (41, [some (.inr (.inr (some (2, 0)))), some (.inr (.inr (some (6, 0)))), some (.inl a2), some (.inl a3)], [], am_mk m)) (if_pos hc4) ?_
      refine am_Go.n htb 1 (S' := (42, [some (.inr (.inr (some (2, 0)))), some (.inr (.inr (some (6, 0)))), some (.inl a2), some (.inl a3)], [.inl 0], am_mk m)) rfl ?_
      cases h
      exact am_Go.rt htb rfl
    · rw [if_neg hc4] at h
      refine am_Go.c1 htb (S' := (37, [some (.inr (.inr (some (2, 0)))), some (.inr (.inr (some (6, 0)))), some (.inl a2), some (.inl a3)], [], am_mk m)) (if_neg hc4) ?_
      refine am_Go.n htb 2 (S' := (42, [some (.inr (.inr (some (2, 0)))), some (.inr (.inr (some (6, 0)))), some (.inl a2), some (.inl a3)], [.inl 1], am_mk m)) rfl ?_
      cases h
      exact am_Go.rt htb rfl
  · rw [if_neg hc1] at h
    refine am_Go.c1 htb (S' := (7, [some (.inr (.inr (some (2, 0)))), some (.inr (.inr (some (6, 0)))), some (.inl a2), some (.inl a3)], [], am_mk m)) (if_neg hc1) ?_
    refine am_Go.n htb 3 (S' := (10, [some (.inr (.inr (some (2, 0)))), some (.inr (.inr (some (6, 0)))), some (.inl a2), some (.inl a3)], [.inl a2, .inr (.inr (some (6, 0))), .inl a3], am_mk m)) rfl ?_
    obtain ⟨r5, h6, h⟩ := am_bd h
    refine am_Go.cl htb rfl (ex_X6_mayOf d (by omega) a2 m r5 h6) ?_
    show am_Go d 26 (13, [some (.inr (.inr (some (2, 0)))), some (.inr (.inr (some (6, 0)))), some (.inl a2), some (.inl a3)], [.inl r5, .inl a3], am_mk m) _ _ _ _
    refine am_Go.n htb 3 (S' := (16, [some (.inr (.inr (some (2, 0)))), some (.inr (.inr (some (6, 0)))), some (.inl a2), some (.inl a3)], [.inl (a3 &&& (r5 ^^^ (-1 : Int32)))], am_mk m)) rfl ?_
    by_cases hc7 : (a3 &&& (r5 ^^^ (-1 : Int32))) ≠ 0
    · rw [if_pos hc7] at h
      refine am_Go.c1 htb (S' := (23, [some (.inr (.inr (some (2, 0)))), some (.inr (.inr (some (6, 0)))), some (.inl a2), some (.inl a3)], [], am_mk m)) (if_pos hc7) ?_
      refine am_Go.n htb 2 (S' := (42, [some (.inr (.inr (some (2, 0)))), some (.inr (.inr (some (6, 0)))), some (.inl a2), some (.inl a3)], [.inl 0], am_mk m)) rfl ?_
      cases h
      exact am_Go.rt htb rfl
    · rw [if_neg hc7] at h
      refine am_Go.c1 htb (S' := (19, [some (.inr (.inr (some (2, 0)))), some (.inr (.inr (some (6, 0)))), some (.inl a2), some (.inl a3)], [], am_mk m)) (if_neg hc7) ?_
      refine am_Go.n htb 2 (S' := (42, [some (.inr (.inr (some (2, 0)))), some (.inr (.inr (some (6, 0)))), some (.inl a2), some (.inl a3)], [.inl 1], am_mk m)) rfl ?_
      cases h
      exact am_Go.rt htb rfl
-- X2_keepIfCheaper
set_option maxRecDepth 100000 in
theorem lt_X2_keepIfCheaper_2 (d : Nat) (hd : 2 ≤ d + 1) {r : Option am_V} {M' : am_M} {kc ks : Nat} {n : Nat} {x1 : Int32} {x2 : Int32} {x3 : Int32} {m : am_m} {t : Sum (Unit) (am_m)} (h : lp_X2_keepIfCheaper_2 n x1 x2 x3 m = some t) (hk : ∀ t', t = .inl t' → am_Go d 27 (33, [some (.inr (.inr (some (2, 0)))), some (.inl x1), some (.inl x2), none], [], am_mk m) r M' kc ks) (hr : ∀ t', t = .inr t' → r = none ∧ M' = am_mk t' ∧ kc = 0 ∧ ks = 0) : am_Go d 27 (2, [some (.inr (.inr (some (2, 0)))), some (.inl x1), some (.inl x2), some (.inl x3)], [], am_mk m) r M' kc ks := by
  have htb : am_tab 27 = at_27 := rfl
  induction n generalizing x3 with
  | zero => cases h
  | succ n ih =>
    unfold lp_X2_keepIfCheaper_2 at h
    refine am_Go.n htb 2 (S' := (4, [some (.inr (.inr (some (2, 0)))), some (.inl x1), some (.inl x2), some (.inl x3)], [.inl x1, .inl x3], am_mk m)) rfl ?_
    by_cases hc1 : x1 ≤ x3
    · rw [if_pos hc1] at h
      refine am_Go.c1 htb (S' := (33, [some (.inr (.inr (some (2, 0)))), some (.inl x1), some (.inl x2), some (.inl x3)], [], am_mk m)) (if_pos hc1) ?_
      cases h
      exact am_Go.fg (by exact ⟨rfl, ⟨rfl, ⟨rfl, trivial⟩⟩⟩) (hk _ rfl)
    · rw [if_neg hc1] at h
      refine am_Go.c1 htb (S' := (7, [some (.inr (.inr (some (2, 0)))), some (.inl x1), some (.inl x2), some (.inl x3)], [], am_mk m)) (if_neg hc1) ?_
      refine am_Go.n htb 2 (S' := (10, [some (.inr (.inr (some (2, 0)))), some (.inl x1), some (.inl x2), some (.inl x3)], [.inl 7, .inl x3], am_mk m)) rfl ?_
      by_cases hc2 : (7 : Int32) ≤ x3
      · rw [if_pos hc2] at h
        refine am_Go.c1 htb (S' := (33, [some (.inr (.inr (some (2, 0)))), some (.inl x1), some (.inl x2), some (.inl x3)], [], am_mk m)) (if_pos hc2) ?_
        cases h
        exact am_Go.fg (by exact ⟨rfl, ⟨rfl, ⟨rfl, trivial⟩⟩⟩) (hk _ rfl)
      · rw [if_neg hc2] at h
        refine am_Go.c1 htb (S' := (13, [some (.inr (.inr (some (2, 0)))), some (.inl x1), some (.inl x2), some (.inl x3)], [], am_mk m)) (if_neg hc2) ?_
        refine am_Go.n htb 3 (S' := (18, [some (.inr (.inr (some (2, 0)))), some (.inl x1), some (.inl x2), some (.inl x3)], [.inl x3, .inr (.inr (some (21, 0)))], am_mk m)) rfl ?_
        obtain ⟨hg3, h⟩ := am_ck_some h
        refine am_Go.c1 htb (S' := (19, [some (.inr (.inr (some (2, 0)))), some (.inl x1), some (.inl x2), some (.inl x3)], [.inl (m.1 21 0 x3.toNatClampNeg)], am_mk m)) (if_neg hg3) ?_
        obtain ⟨r4, h5, h⟩ := am_bd h
        refine am_Go.cl htb rfl (ex_J6_bitCount_0f7a4 d (by omega) (m.1 21 0 x3.toNatClampNeg) m r4 h5) ?_
        show am_Go d 27 (22, [some (.inr (.inr (some (2, 0)))), some (.inl x1), some (.inl x2), some (.inl x3)], [.inl r4], am_mk m) _ _ _ _
        refine am_Go.n htb 1 (S' := (23, [some (.inr (.inr (some (2, 0)))), some (.inl x1), some (.inl x2), some (.inl x3)], [.inl 2, .inl r4], am_mk m)) rfl ?_
        by_cases hc6 : (2 : Int32) ≤ r4
        · rw [if_pos hc6] at h
          refine am_Go.c1 htb (S' := (27, [some (.inr (.inr (some (2, 0)))), some (.inl x1), some (.inl x2), some (.inl x3)], [], am_mk m)) (if_pos hc6) ?_
          refine am_Go.n htb 2 (S' := (2, [some (.inr (.inr (some (2, 0)))), some (.inl x1), some (.inl x2), some (.inl (x3 + 1))], [], am_mk m)) rfl ?_
          first | exact ih h | exact ih h hk | exact ih h hr | exact ih h hk hr
        · rw [if_neg hc6] at h
          refine am_Go.c1 htb (S' := (26, [some (.inr (.inr (some (2, 0)))), some (.inl x1), some (.inl x2), some (.inl x3)], [], am_mk m)) (if_neg hc6) ?_
          cases h
          obtain ⟨rfl, rfl, rfl, rfl⟩ := hr _ rfl
          exact am_Go.rt htb rfl
set_option maxRecDepth 100000 in
theorem ex_X2_keepIfCheaper (d : Nat) (hd : 2 ≤ d) (a1 : Int32) (a2 : Int32) (m : am_m) (t : am_m) (h : fn_X2_keepIfCheaper a1 a2 m = some t) : am_Ex am_cod d 27 [.inr (.inr (some (2, 0))), .inl a1, .inl a2] (am_mk m) (none) (am_mk t) 0 0 := by
  obtain ⟨d, rfl⟩ : ∃ e, d = e + 1 := ⟨d - 1, by omega⟩
  have htb : am_tab 27 = at_27 := rfl
  refine ⟨Nat.le_of_ble_eq_true rfl, ?_⟩
  unfold fn_X2_keepIfCheaper at h
  show am_Go d 27 (0, [some (.inr (.inr (some (2, 0)))), some (.inl a1), some (.inl a2), none], [], am_mk m) _ _ 0 0
  refine am_Go.n htb 2 (S' := (2, [some (.inr (.inr (some (2, 0)))), some (.inl a1), some (.inl a2), some (.inl 0)], [], am_mk m)) rfl ?_
  obtain ⟨w15, h8, h⟩ := am_bd h
  refine lt_X2_keepIfCheaper_2 _ hd (h := h8) (hk := ?_) (hr := ?_)
  · intro q7 he
    subst he
    dsimp only at h
    refine am_Go.n htb 2 (S' := (37, [some (.inr (.inr (some (2, 0)))), some (.inl a1), some (.inl a2), none], [.inl (m.1 2 0 0)], am_mk m)) rfl ?_
    refine am_Go.cut (S := (45, [some (.inr (.inr (some (2, 0)))), some (.inl a1), some (.inl a2), none], [.inl (if (m.1 2 0 0) = 0 then a2 else a1)], am_mk m)) ?_ (fun key => ?_)
    · refine am_Go.n htb 4 (S' := (51, [some (.inr (.inr (some (2, 0)))), some (.inl a1), some (.inl a2), some (.inl (if (m.1 2 0 0) = 0 then a2 else a1))], [.inl (-1), .inl (m.1 2 0 2)], am_mk m)) rfl ?_
      by_cases hc10 : (m.1 2 0 2) = (-1 : Int32)
      · rw [if_pos hc10] at h
        refine am_Go.c1 htb (S' := (62, [some (.inr (.inr (some (2, 0)))), some (.inl a1), some (.inl a2), some (.inl (if (m.1 2 0 0) = 0 then a2 else a1))], [], am_mk m)) (if_pos hc10) ?_
        refine am_Go.n htb 10 (S' := (79, [some (.inr (.inr (some (2, 0)))), some (.inl a1), some (.inl a2), some (.inl (if (m.1 2 0 0) = 0 then a2 else a1))], [.inl 7, .inl 0, .inr (.inr (some (23, 0))), .inl 0, .inr (.inr (some (22, 0)))], am_mk (am_si m 2 0 2 (if (m.1 2 0 0) = 0 then a2 else a1)))) rfl ?_
        obtain ⟨hz11, h⟩ := am_gd_some h
        refine am_Go.c1 htb (S' := (82, [some (.inr (.inr (some (2, 0)))), some (.inl a1), some (.inl a2), some (.inl (if (m.1 2 0 0) = 0 then a2 else a1))], [], am_mk (am_sc (am_si m 2 0 2 (if (m.1 2 0 0) = 0 then a2 else a1)) 22 0 23 0 (0 : Int32).toNatClampNeg (0 : Int32).toNatClampNeg (7 : Int32).toNatClampNeg))) (by first | exact if_neg hz11 | rfl) ?_
        cases h
        exact am_Go.rt htb rfl
      · rw [if_neg hc10] at h
        refine am_Go.c1 htb (S' := (54, [some (.inr (.inr (some (2, 0)))), some (.inl a1), some (.inl a2), some (.inl (if (m.1 2 0 0) = 0 then a2 else a1))], [], am_mk m)) (if_neg hc10) ?_
        refine am_Go.n htb 3 (S' := (59, [some (.inr (.inr (some (2, 0)))), some (.inl a1), some (.inl a2), some (.inl (if (m.1 2 0 0) = 0 then a2 else a1))], [.inl (m.1 2 0 2), .inl (if (m.1 2 0 0) = 0 then a2 else a1)], am_mk m)) rfl ?_
        by_cases hc12 : (m.1 2 0 2) ≤ (if (m.1 2 0 0) = 0 then a2 else a1)
        · rw [if_pos hc12] at h
          refine am_Go.c1 htb (S' := (82, [some (.inr (.inr (some (2, 0)))), some (.inl a1), some (.inl a2), some (.inl (if (m.1 2 0 0) = 0 then a2 else a1))], [], am_mk m)) (if_pos hc12) ?_
          cases h
          exact am_Go.rt htb rfl
        · rw [if_neg hc12] at h
          refine am_Go.c1 htb (S' := (62, [some (.inr (.inr (some (2, 0)))), some (.inl a1), some (.inl a2), some (.inl (if (m.1 2 0 0) = 0 then a2 else a1))], [], am_mk m)) (if_neg hc12) ?_
          refine am_Go.n htb 10 (S' := (79, [some (.inr (.inr (some (2, 0)))), some (.inl a1), some (.inl a2), some (.inl (if (m.1 2 0 0) = 0 then a2 else a1))], [.inl 7, .inl 0, .inr (.inr (some (23, 0))), .inl 0, .inr (.inr (some (22, 0)))], am_mk (am_si m 2 0 2 (if (m.1 2 0 0) = 0 then a2 else a1)))) rfl ?_
          obtain ⟨hz13, h⟩ := am_gd_some h
          refine am_Go.c1 htb (S' := (82, [some (.inr (.inr (some (2, 0)))), some (.inl a1), some (.inl a2), some (.inl (if (m.1 2 0 0) = 0 then a2 else a1))], [], am_mk (am_sc (am_si m 2 0 2 (if (m.1 2 0 0) = 0 then a2 else a1)) 22 0 23 0 (0 : Int32).toNatClampNeg (0 : Int32).toNatClampNeg (7 : Int32).toNatClampNeg))) (by first | exact if_neg hz13 | rfl) ?_
          cases h
          exact am_Go.rt htb rfl
    · by_cases hc9 : (m.1 2 0 0) = 0
      · refine am_Go.c1 htb (S' := (44, [some (.inr (.inr (some (2, 0)))), some (.inl a1), some (.inl a2), none], [], am_mk m)) (if_pos hc9) ?_
        refine am_Go.n htb 1 (S' := (45, [some (.inr (.inr (some (2, 0)))), some (.inl a1), some (.inl a2), none], [.inl a2], am_mk m)) rfl ?_
        simp only [if_pos hc9] at key
        exact am_Go.fg (by exact ⟨rfl, ⟨rfl, ⟨rfl, trivial⟩⟩⟩) key
      · refine am_Go.c1 htb (S' := (40, [some (.inr (.inr (some (2, 0)))), some (.inl a1), some (.inl a2), none], [], am_mk m)) (if_neg hc9) ?_
        refine am_Go.n htb 2 (S' := (45, [some (.inr (.inr (some (2, 0)))), some (.inl a1), some (.inl a2), none], [.inl a1], am_mk m)) rfl ?_
        simp only [if_neg hc9] at key
        exact am_Go.fg (by exact ⟨rfl, ⟨rfl, ⟨rfl, trivial⟩⟩⟩) key
  · intro rr14 he
    subst he
    cases h
    exact ⟨rfl, rfl, rfl, rfl⟩
-- X2_place
set_option maxRecDepth 100000 in
theorem lt_X2_place_25 (d : Nat) (hd : 4 ≤ d + 1) (rc : am_rp) (hrc : am_rpok rc d) {r : Option am_V} {M' : am_M} {kc ks : Nat} {n : Nat} {x2 : Int32} {x3 : Int32} {x4 : Int32} {x5 : Int32} {m : am_m} {t : am_m} (h : lp_X2_place_25 rc n x2 x3 x4 x5 m = some t) (hk : am_Go d 25 (140, [some (.inr (.inr (some (2, 0)))), some (.inr (.inr (some (6, 0)))), some (.inl x2), some (.inl x3), some (.inl x4), none, none, none], [], am_mk t) r M' kc ks) : am_Go d 25 (25, [some (.inr (.inr (some (2, 0)))), some (.inr (.inr (some (6, 0)))), some (.inl x2), some (.inl x3), some (.inl x4), some (.inl x5), none, none], [], am_mk m) r M' kc ks := by
  have htb : am_tab 25 = at_25 := rfl
  induction n generalizing x5 m with
  | zero => cases h
  | succ n ih =>
    unfold lp_X2_place_25 at h
    refine am_Go.n htb 2 (S' := (28, [some (.inr (.inr (some (2, 0)))), some (.inr (.inr (some (6, 0)))), some (.inl x2), some (.inl x3), some (.inl x4), some (.inl x5), none, none], [.inl x3, .inl x5], am_mk m)) rfl ?_
    by_cases hc5 : x3 < x5
    · rw [if_pos hc5] at h
      refine am_Go.c1 htb (S' := (140, [some (.inr (.inr (some (2, 0)))), some (.inr (.inr (some (6, 0)))), some (.inl x2), some (.inl x3), some (.inl x4), some (.inl x5), none, none], [], am_mk m)) (if_pos hc5) ?_
      cases h
      exact am_Go.fg (by exact ⟨rfl, ⟨rfl, ⟨rfl, ⟨rfl, ⟨rfl, trivial⟩⟩⟩⟩⟩) hk
    · rw [if_neg hc5] at h
      refine am_Go.c1 htb (S' := (31, [some (.inr (.inr (some (2, 0)))), some (.inr (.inr (some (6, 0)))), some (.inl x2), some (.inl x3), some (.inl x4), some (.inl x5), none, none], [], am_mk m)) (if_neg hc5) ?_
      refine am_Go.n htb 2 (S' := (35, [some (.inr (.inr (some (2, 0)))), some (.inr (.inr (some (6, 0)))), some (.inl x2), some (.inl x3), some (.inl x4), some (.inl x5), none, none], [.inl 7, .inl x5], am_mk m)) rfl ?_
      by_cases hc6 : (7 : Int32) ≤ x5
      · rw [if_pos hc6] at h
        refine am_Go.c1 htb (S' := (140, [some (.inr (.inr (some (2, 0)))), some (.inr (.inr (some (6, 0)))), some (.inl x2), some (.inl x3), some (.inl x4), some (.inl x5), none, none], [], am_mk m)) (if_pos hc6) ?_
        cases h
        exact am_Go.fg (by exact ⟨rfl, ⟨rfl, ⟨rfl, ⟨rfl, ⟨rfl, trivial⟩⟩⟩⟩⟩) hk
      · rw [if_neg hc6] at h
        refine am_Go.c1 htb (S' := (38, [some (.inr (.inr (some (2, 0)))), some (.inr (.inr (some (6, 0)))), some (.inl x2), some (.inl x3), some (.inl x4), some (.inl x5), none, none], [], am_mk m)) (if_neg hc6) ?_
        refine am_Go.n htb 2 (S' := (41, [some (.inr (.inr (some (2, 0)))), some (.inr (.inr (some (6, 0)))), some (.inl x2), some (.inl x3), some (.inl x4), some (.inl x5), none, none], [.inl x3, .inl x5], am_mk m)) rfl ?_
        obtain ⟨q9, h26, h⟩ := am_bd h
        refine am_Go.cut (S := (55, [some (.inr (.inr (some (2, 0)))), some (.inr (.inr (some (6, 0)))), some (.inl x2), some (.inl x3), some (.inl x4), some (.inl x5), none, none], [.inl q9], am_mk m)) ?_ (fun key => ?_)
        · refine am_Go.n htb 5 (S' := (62, [some (.inr (.inr (some (2, 0)))), some (.inr (.inr (some (6, 0)))), some (.inl x2), some (.inl x3), some (.inl x4), some (.inl x5), some (.inl q9), none], [.inl q9, .inl x2, .inr (.inr (some (6, 0))), .inr (.inr (some (2, 0)))], am_mk m)) rfl ?_
          obtain ⟨r10, h11, h⟩ := am_bd h
          refine am_Go.cl htb rfl (ex_X2_isAllowed d (by omega) x2 q9 m r10 h11) ?_
          show am_Go d 25 (65, [some (.inr (.inr (some (2, 0)))), some (.inr (.inr (some (6, 0)))), some (.inl x2), some (.inl x3), some (.inl x4), some (.inl x5), some (.inl q9), none], [.inl r10], am_mk m) _ _ _ _
          obtain ⟨q24, h25, h⟩ := am_bd h
          refine am_Go.cut (S := (134, [some (.inr (.inr (some (2, 0)))), some (.inr (.inr (some (6, 0)))), some (.inl x2), some (.inl x3), some (.inl x4), some (.inl x5), some (.inl q9), none], [], am_mk q24)) ?_ (fun key => ?_)
          · refine am_Go.n htb 2 (S' := (25, [some (.inr (.inr (some (2, 0)))), some (.inr (.inr (some (6, 0)))), some (.inl x2), some (.inl x3), some (.inl x4), some (.inl (x5 + 1)), some (.inl q9), none], [], am_mk q24)) rfl ?_
            refine am_Go.fg (L0 := [some (.inr (.inr (some (2, 0)))), some (.inr (.inr (some (6, 0)))), some (.inl x2), some (.inl x3), some (.inl x4), some (.inl (x5 + 1)), none, none]) (by exact ⟨rfl, ⟨rfl, ⟨rfl, ⟨rfl, ⟨rfl, ⟨rfl, trivial⟩⟩⟩⟩⟩⟩) ?_
            first | exact ih h | exact ih h hk
          · have h := h25
            by_cases hc12 : r10 = 0
            · rw [if_pos hc12] at h
              refine am_Go.c1 htb (S' := (134, [some (.inr (.inr (some (2, 0)))), some (.inr (.inr (some (6, 0)))), some (.inl x2), some (.inl x3), some (.inl x4), some (.inl x5), some (.inl q9), none], [], am_mk m)) (if_pos hc12) ?_
              cases h
              exact am_Go.fg (by exact ⟨rfl, ⟨rfl, ⟨rfl, ⟨rfl, ⟨rfl, ⟨rfl, ⟨rfl, trivial⟩⟩⟩⟩⟩⟩⟩) key
            · rw [if_neg hc12] at h
              refine am_Go.c1 htb (S' := (68, [some (.inr (.inr (some (2, 0)))), some (.inr (.inr (some (6, 0)))), some (.inl x2), some (.inl x3), some (.inl x4), some (.inl x5), some (.inl q9), none], [], am_mk m)) (if_neg hc12) ?_
              refine am_Go.n htb 8 (S' := (80, [some (.inr (.inr (some (2, 0)))), some (.inr (.inr (some (6, 0)))), some (.inl x2), some (.inl x3), some (.inl x4), some (.inl x5), some (.inl q9), none], [.inl (q9 ||| ((1 : Int32) <<< (x2 &&& 31))), .inl x5, .inr (.inr (some (21, 0)))], am_mk m)) rfl ?_
              obtain ⟨hg13, h⟩ := am_ck_some h
              refine am_Go.c1 htb (S' := (81, [some (.inr (.inr (some (2, 0)))), some (.inr (.inr (some (6, 0)))), some (.inl x2), some (.inl x3), some (.inl x4), some (.inl x5), some (.inl q9), none], [], am_mk (am_si m 21 0 x5.toNatClampNeg (q9 ||| ((1 : Int32) <<< (x2 &&& 31)))))) (if_neg hg13) ?_
              refine am_Go.n htb 4 (S' := (88, [some (.inr (.inr (some (2, 0)))), some (.inr (.inr (some (6, 0)))), some (.inl x2), some (.inl x3), some (.inl x4), some (.inl x5), some (.inl q9), none], [.inl x5, .inl x2, .inr (.inr (some (22, 0)))], am_mk (am_si m 21 0 x5.toNatClampNeg (q9 ||| ((1 : Int32) <<< (x2 &&& 31)))))) rfl ?_
              obtain ⟨hg14, h⟩ := am_ck_some h
              refine am_Go.c1 htb (S' := (89, [some (.inr (.inr (some (2, 0)))), some (.inr (.inr (some (6, 0)))), some (.inl x2), some (.inl x3), some (.inl x4), some (.inl x5), some (.inl q9), none], [], am_mk (am_si (am_si m 21 0 x5.toNatClampNeg (q9 ||| ((1 : Int32) <<< (x2 &&& 31)))) 22 0 x2.toNatClampNeg x5))) (if_neg hg14) ?_
              refine am_Go.n htb 4 (S' := (95, [some (.inr (.inr (some (2, 0)))), some (.inr (.inr (some (6, 0)))), some (.inl x2), some (.inl x3), some (.inl x4), some (.inl x5), some (.inl q9), none], [.inl x2, .inr (.inr (some (6, 0))), .inl q9, .inl x4], am_mk (am_si (am_si m 21 0 x5.toNatClampNeg (q9 ||| ((1 : Int32) <<< (x2 &&& 31)))) 22 0 x2.toNatClampNeg x5))) rfl ?_
              obtain ⟨r15, h16, h⟩ := am_bd h
              refine am_Go.cl htb rfl (ex_X6_mayOf d (by omega) x2 (am_si (am_si m 21 0 x5.toNatClampNeg (q9 ||| ((1 : Int32) <<< (x2 &&& 31)))) 22 0 x2.toNatClampNeg x5) r15 h16) ?_
              show am_Go d 25 (98, [some (.inr (.inr (some (2, 0)))), some (.inr (.inr (some (6, 0)))), some (.inl x2), some (.inl x3), some (.inl x4), some (.inl x5), some (.inl q9), none], [.inl r15, .inl q9, .inl x4], am_mk (am_si (am_si m 21 0 x5.toNatClampNeg (q9 ||| ((1 : Int32) <<< (x2 &&& 31)))) 22 0 x2.toNatClampNeg x5)) _ _ _ _
              refine am_Go.n htb 3 (S' := (101, [some (.inr (.inr (some (2, 0)))), some (.inr (.inr (some (6, 0)))), some (.inl x2), some (.inl x3), some (.inl x4), some (.inl x5), some (.inl q9), none], [.inl (q9 &&& (r15 ^^^ (-1 : Int32))), .inl x4], am_mk (am_si (am_si m 21 0 x5.toNatClampNeg (q9 ||| ((1 : Int32) <<< (x2 &&& 31)))) 22 0 x2.toNatClampNeg x5))) rfl ?_
              obtain ⟨r17, h18, h⟩ := am_bd h
              refine am_Go.cl htb rfl (ex_J6_bitCount_0f7a4 d (by omega) (q9 &&& (r15 ^^^ (-1 : Int32))) (am_si (am_si m 21 0 x5.toNatClampNeg (q9 ||| ((1 : Int32) <<< (x2 &&& 31)))) 22 0 x2.toNatClampNeg x5) r17 h18) ?_
              show am_Go d 25 (104, [some (.inr (.inr (some (2, 0)))), some (.inr (.inr (some (6, 0)))), some (.inl x2), some (.inl x3), some (.inl x4), some (.inl x5), some (.inl q9), none], [.inl r17, .inl x4], am_mk (am_si (am_si m 21 0 x5.toNatClampNeg (q9 ||| ((1 : Int32) <<< (x2 &&& 31)))) 22 0 x2.toNatClampNeg x5)) _ _ _ _
              refine am_Go.n htb 11 (S' := (117, [some (.inr (.inr (some (2, 0)))), some (.inr (.inr (some (6, 0)))), some (.inl x2), some (.inl x3), some (.inl x4), some (.inl x5), some (.inl q9), some (.inl (x4 + r17))], [.inl (x5 + (1 : Int32)), .inl x3, .inl (x2 + (1 : Int32)), .inr (.inr (some (6, 0))), .inr (.inr (some (2, 0)))], am_mk (am_si (am_si m 21 0 x5.toNatClampNeg (q9 ||| ((1 : Int32) <<< (x2 &&& 31)))) 22 0 x2.toNatClampNeg x5))) rfl ?_
              obtain ⟨r19, h20, h⟩ := am_bd h
              refine am_Go.cl htb rfl (ex_J9_max_7cf53 d (by omega) x3 (x5 + (1 : Int32)) (am_si (am_si m 21 0 x5.toNatClampNeg (q9 ||| ((1 : Int32) <<< (x2 &&& 31)))) 22 0 x2.toNatClampNeg x5) r19 h20) ?_
              show am_Go d 25 (120, [some (.inr (.inr (some (2, 0)))), some (.inr (.inr (some (6, 0)))), some (.inl x2), some (.inl x3), some (.inl x4), some (.inl x5), some (.inl q9), some (.inl (x4 + r17))], [.inl r19, .inl (x2 + (1 : Int32)), .inr (.inr (some (6, 0))), .inr (.inr (some (2, 0)))], am_mk (am_si (am_si m 21 0 x5.toNatClampNeg (q9 ||| ((1 : Int32) <<< (x2 &&& 31)))) 22 0 x2.toNatClampNeg x5)) _ _ _ _
              refine am_Go.n htb 1 (S' := (122, [some (.inr (.inr (some (2, 0)))), some (.inr (.inr (some (6, 0)))), some (.inl x2), some (.inl x3), some (.inl x4), some (.inl x5), some (.inl q9), some (.inl (x4 + r17))], [.inl (x4 + r17), .inl r19, .inl (x2 + (1 : Int32)), .inr (.inr (some (6, 0))), .inr (.inr (some (2, 0)))], am_mk (am_si (am_si m 21 0 x5.toNatClampNeg (q9 ||| ((1 : Int32) <<< (x2 &&& 31)))) 22 0 x2.toNatClampNeg x5))) rfl ?_
              obtain ⟨r21, h22, h⟩ := am_bd h
              refine am_Go.cl htb rfl (hrc _ _ _ _ _ h22) ?_
              show am_Go d 25 (125, [some (.inr (.inr (some (2, 0)))), some (.inr (.inr (some (6, 0)))), some (.inl x2), some (.inl x3), some (.inl x4), some (.inl x5), some (.inl q9), some (.inl (x4 + r17))], [], am_mk r21) _ _ _ _
              refine am_Go.n htb 4 (S' := (133, [some (.inr (.inr (some (2, 0)))), some (.inr (.inr (some (6, 0)))), some (.inl x2), some (.inl x3), some (.inl x4), some (.inl x5), some (.inl q9), some (.inl (x4 + r17))], [.inl q9, .inl x5, .inr (.inr (some (21, 0)))], am_mk r21)) rfl ?_
              obtain ⟨hg23, h⟩ := am_ck_some h
              refine am_Go.c1 htb (S' := (134, [some (.inr (.inr (some (2, 0)))), some (.inr (.inr (some (6, 0)))), some (.inl x2), some (.inl x3), some (.inl x4), some (.inl x5), some (.inl q9), some (.inl (x4 + r17))], [], am_mk (am_si r21 21 0 x5.toNatClampNeg q9))) (if_neg hg23) ?_
              cases h
              exact am_Go.fg (by exact ⟨rfl, ⟨rfl, ⟨rfl, ⟨rfl, ⟨rfl, ⟨rfl, ⟨rfl, trivial⟩⟩⟩⟩⟩⟩⟩) key
        · have h := h26
          by_cases hc7 : x3 ≤ x5
          · rw [if_pos hc7] at h
            refine am_Go.c1 htb (S' := (54, [some (.inr (.inr (some (2, 0)))), some (.inr (.inr (some (6, 0)))), some (.inl x2), some (.inl x3), some (.inl x4), some (.inl x5), none, none], [], am_mk m)) (if_pos hc7) ?_
            refine am_Go.n htb 1 (S' := (55, [some (.inr (.inr (some (2, 0)))), some (.inr (.inr (some (6, 0)))), some (.inl x2), some (.inl x3), some (.inl x4), some (.inl x5), none, none], [.inl 0], am_mk m)) rfl ?_
            cases h
            exact am_Go.fg (by exact ⟨rfl, ⟨rfl, ⟨rfl, ⟨rfl, ⟨rfl, ⟨rfl, trivial⟩⟩⟩⟩⟩⟩) key
          · rw [if_neg hc7] at h
            refine am_Go.c1 htb (S' := (44, [some (.inr (.inr (some (2, 0)))), some (.inr (.inr (some (6, 0)))), some (.inl x2), some (.inl x3), some (.inl x4), some (.inl x5), none, none], [], am_mk m)) (if_neg hc7) ?_
            refine am_Go.n htb 3 (S' := (50, [some (.inr (.inr (some (2, 0)))), some (.inr (.inr (some (6, 0)))), some (.inl x2), some (.inl x3), some (.inl x4), some (.inl x5), none, none], [.inl x5, .inr (.inr (some (21, 0)))], am_mk m)) rfl ?_
            obtain ⟨hg8, h⟩ := am_ck_some h
            refine am_Go.c1 htb (S' := (51, [some (.inr (.inr (some (2, 0)))), some (.inr (.inr (some (6, 0)))), some (.inl x2), some (.inl x3), some (.inl x4), some (.inl x5), none, none], [.inl (m.1 21 0 x5.toNatClampNeg)], am_mk m)) (if_neg hg8) ?_
            refine am_Go.n htb 1 (S' := (55, [some (.inr (.inr (some (2, 0)))), some (.inr (.inr (some (6, 0)))), some (.inl x2), some (.inl x3), some (.inl x4), some (.inl x5), none, none], [.inl (m.1 21 0 x5.toNatClampNeg)], am_mk m)) rfl ?_
            cases h
            exact am_Go.fg (by exact ⟨rfl, ⟨rfl, ⟨rfl, ⟨rfl, ⟨rfl, ⟨rfl, trivial⟩⟩⟩⟩⟩⟩) key
set_option maxRecDepth 100000 in
theorem ex_X2_place (d : Nat) (hd : 4 ≤ d) (rc : am_rp) (hrc : am_rpok rc (d - 1)) (a2 : Int32) (a3 : Int32) (a4 : Int32) (m : am_m) (t : am_m) (h : fn_X2_place rc a2 a3 a4 m = some t) : am_Ex am_cod d 25 [.inr (.inr (some (2, 0))), .inr (.inr (some (6, 0))), .inl a2, .inl a3, .inl a4] (am_mk m) (none) (am_mk t) 0 0 := by
  obtain ⟨d, rfl⟩ : ∃ e, d = e + 1 := ⟨d - 1, by omega⟩
  have htb : am_tab 25 = at_25 := rfl
  refine ⟨Nat.le_of_ble_eq_true rfl, ?_⟩
  unfold fn_X2_place at h
  show am_Go d 25 (0, [some (.inr (.inr (some (2, 0)))), some (.inr (.inr (some (6, 0)))), some (.inl a2), some (.inl a3), some (.inl a4), none, none, none], [], am_mk m) _ _ 0 0
  refine am_Go.n htb 3 (S' := (5, [some (.inr (.inr (some (2, 0)))), some (.inr (.inr (some (6, 0)))), some (.inl a2), some (.inl a3), some (.inl a4), none, none, none], [.inl (m.1 2 0 1), .inl a2], am_mk m)) rfl ?_
  by_cases hc1 : (m.1 2 0 1) ≤ a2
  · rw [if_pos hc1] at h
    refine am_Go.c1 htb (S' := (14, [some (.inr (.inr (some (2, 0)))), some (.inr (.inr (some (6, 0)))), some (.inl a2), some (.inl a3), some (.inl a4), none, none, none], [], am_mk m)) (if_pos hc1) ?_
    refine am_Go.n htb 3 (S' := (18, [some (.inr (.inr (some (2, 0)))), some (.inr (.inr (some (6, 0)))), some (.inl a2), some (.inl a3), some (.inl a4), none, none, none], [.inl a4, .inl a3, .inr (.inr (some (2, 0)))], am_mk m)) rfl ?_
    obtain ⟨r2, h3, h⟩ := am_bd h
    refine am_Go.cl htb rfl (ex_X2_keepIfCheaper d (by omega) a3 a4 m r2 h3) ?_
    show am_Go d 25 (21, [some (.inr (.inr (some (2, 0)))), some (.inr (.inr (some (6, 0)))), some (.inl a2), some (.inl a3), some (.inl a4), none, none, none], [], am_mk r2) _ _ _ _
    cases h
    exact am_Go.rt htb rfl
  · rw [if_neg hc1] at h
    refine am_Go.c1 htb (S' := (8, [some (.inr (.inr (some (2, 0)))), some (.inr (.inr (some (6, 0)))), some (.inl a2), some (.inl a3), some (.inl a4), none, none, none], [], am_mk m)) (if_neg hc1) ?_
    refine am_Go.n htb 2 (S' := (11, [some (.inr (.inr (some (2, 0)))), some (.inr (.inr (some (6, 0)))), some (.inl a2), some (.inl a3), some (.inl a4), none, none, none], [.inl 7, .inl a2], am_mk m)) rfl ?_
    by_cases hc4 : a2 < (7 : Int32)
    · rw [if_pos hc4] at h
      refine am_Go.c1 htb (S' := (22, [some (.inr (.inr (some (2, 0)))), some (.inr (.inr (some (6, 0)))), some (.inl a2), some (.inl a3), some (.inl a4), none, none, none], [], am_mk m)) (if_pos hc4) ?_
      refine am_Go.n htb 2 (S' := (25, [some (.inr (.inr (some (2, 0)))), some (.inr (.inr (some (6, 0)))), some (.inl a2), some (.inl a3), some (.inl a4), some (.inl 0), none, none], [], am_mk m)) rfl ?_
      obtain ⟨q27, h28, h⟩ := am_bd h
      refine lt_X2_place_25 _ hd rc hrc (h := h28) (hk := ?_)
      cases h
      exact am_Go.rt htb rfl
    · rw [if_neg hc4] at h
      refine am_Go.c1 htb (S' := (14, [some (.inr (.inr (some (2, 0)))), some (.inr (.inr (some (6, 0)))), some (.inl a2), some (.inl a3), some (.inl a4), none, none, none], [], am_mk m)) (if_neg hc4) ?_
      refine am_Go.n htb 3 (S' := (18, [some (.inr (.inr (some (2, 0)))), some (.inr (.inr (some (6, 0)))), some (.inl a2), some (.inl a3), some (.inl a4), none, none, none], [.inl a4, .inl a3, .inr (.inr (some (2, 0)))], am_mk m)) rfl ?_
      obtain ⟨r29, h30, h⟩ := am_bd h
      refine am_Go.cl htb rfl (ex_X2_keepIfCheaper d (by omega) a3 a4 m r29 h30) ?_
      show am_Go d 25 (21, [some (.inr (.inr (some (2, 0)))), some (.inr (.inr (some (6, 0)))), some (.inl a2), some (.inl a3), some (.inl a4), none, none, none], [], am_mk r29) _ _ _ _
      cases h
      exact am_Go.rt htb rfl
theorem am_pl_ok : ∀ n, am_rpok (am_pl n) (n + 4)
  | 0 => fun _ _ _ _ _ h => by cases h
  | n + 1 => fun a b c m t h => by
    have ih : am_rpok (am_pl n) (n + 1 + 4 - 1) := by rw [show n + 1 + 4 - 1 = n + 4 by omega]; exact am_pl_ok n
    exact ex_X2_place _ (by omega) (am_pl n) ih a b c m t h
