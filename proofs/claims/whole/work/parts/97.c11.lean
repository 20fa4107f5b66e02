-- X4_readTest
set_option maxRecDepth 100000 in
theorem lt_X4_readTest_12 (d : Nat) (hd : 4 ≤ d + 1) (rc : am_rc) (hrc : am_rcok rc d) {r : Option am_V} {M' : am_M} {kc ks : Nat} {n : Nat} {x1 : Int32} {x2 : Int32} {m : am_m} {t : Sum (am_m) (Int32 × am_m)} (h : lp_X4_readTest_12 rc n x1 x2 m = some t) (hk : ∀ t', t = .inl t' → am_Go d 49 (85, [some (.inr (.inr (some (4, 0)))), some (.inl x1), none, none], [], am_mk t') r M' kc ks) (hr : ∀ t', t = .inr t' → r = some (.inl t'.1) ∧ M' = am_mk t'.2 ∧ kc = 0 ∧ ks = 0) : am_Go d 49 (12, [some (.inr (.inr (some (4, 0)))), some (.inl x1), some (.inl x2), none], [], am_mk m) r M' kc ks := by
  have htb : am_tab 49 = at_49 := rfl
  induction n generalizing x2 m with
  | zero => cases h
  | succ n ih =>
    unfold lp_X4_readTest_12 at h
    refine am_Go.n htb 2 (S' := (16, [some (.inr (.inr (some (4, 0)))), some (.inl x1), some (.inl x2), none], [.inl 401, .inl x2], am_mk m)) rfl ?_
    by_cases hc4 : (401 : Int32) ≤ x2
    · rw [if_pos hc4] at h
      refine am_Go.c1 htb (S' := (85, [some (.inr (.inr (some (4, 0)))), some (.inl x1), some (.inl x2), none], [], am_mk m)) (if_pos hc4) ?_
      cases h
      exact am_Go.fg (by exact ⟨rfl, ⟨rfl, trivial⟩⟩) (hk _ rfl)
    · rw [if_neg hc4] at h
      refine am_Go.c1 htb (S' := (19, [some (.inr (.inr (some (4, 0)))), some (.inl x1), some (.inl x2), none], [], am_mk m)) (if_neg hc4) ?_
      refine am_Go.n htb 3 (S' := (26, [some (.inr (.inr (some (4, 0)))), some (.inl x1), some (.inl x2), none], [.inl 259, .inl (m.1 4 0 6)], am_mk m)) rfl ?_
      by_cases hc5 : (m.1 4 0 6) ≠ (259 : Int32)
      · rw [if_pos hc5] at h
        refine am_Go.c1 htb (S' := (85, [some (.inr (.inr (some (4, 0)))), some (.inl x1), some (.inl x2), none], [], am_mk m)) (if_pos hc5) ?_
        cases h
        exact am_Go.fg (by exact ⟨rfl, ⟨rfl, trivial⟩⟩) (hk _ rfl)
      · rw [if_neg hc5] at h
        refine am_Go.c1 htb (S' := (29, [some (.inr (.inr (some (4, 0)))), some (.inl x1), some (.inl x2), none], [], am_mk m)) (if_neg hc5) ?_
        refine am_Go.n htb 8 (S' := (45, [some (.inr (.inr (some (4, 0)))), some (.inl x1), some (.inl x2), some (.inl (m.1 5 0 3))], [.inl 0, .inl 259, .inr (.inr (some (5, 0)))], am_mk m)) rfl ?_
        obtain ⟨r6, h7, h⟩ := am_bd h
        refine am_Go.cl htb rfl (ex_X5_put d (by omega) 0 259 0 m r6 h7) ?_
        show am_Go d 49 (48, [some (.inr (.inr (some (4, 0)))), some (.inl x1), some (.inl x2), some (.inl (m.1 5 0 3))], [], am_mk r6) _ _ _ _
        refine am_Go.n htb 5 (S' := (55, [some (.inr (.inr (some (4, 0)))), some (.inl x1), some (.inl x2), some (.inl (m.1 5 0 3))], [.inl ((r6.1 4 0 5) + (1 : Int32)), .inr (.inr (some (4, 0)))], am_mk r6)) rfl ?_
        obtain ⟨r8, h9, h⟩ := am_bd h
        refine am_Go.cl htb rfl (ex_X4_goTo d (by omega) ((r6.1 4 0 5) + (1 : Int32)) r6 r8 h9) ?_
        show am_Go d 49 (58, [some (.inr (.inr (some (4, 0)))), some (.inl x1), some (.inl x2), some (.inl (m.1 5 0 3))], [], am_mk r8) _ _ _ _
        refine am_Go.n htb 2 (S' := (60, [some (.inr (.inr (some (4, 0)))), some (.inl x1), some (.inl x2), some (.inl (m.1 5 0 3))], [.inl x1, .inr (.inr (some (4, 0)))], am_mk r8)) rfl ?_
        obtain ⟨r10, h11, h⟩ := am_bd h
        refine am_Go.cl htb rfl (hrc 1 _ _ _ h11) ?_
        show am_Go d 49 (63, [some (.inr (.inr (some (4, 0)))), some (.inl x1), some (.inl x2), some (.inl (m.1 5 0 3))], [.inl r10.1], am_mk r10.2) _ _ _ _
        by_cases hc12 : r10.1 ≠ 0
        · rw [if_pos hc12] at h
          refine am_Go.c1 htb (S' := (68, [some (.inr (.inr (some (4, 0)))), some (.inl x1), some (.inl x2), some (.inl (m.1 5 0 3))], [], am_mk r10.2)) (if_pos hc12) ?_
          refine am_Go.n htb 4 (S' := (76, [some (.inr (.inr (some (4, 0)))), some (.inl x1), some (.inl x2), some (.inl (m.1 5 0 3))], [.inl 259, .inl (m.1 5 0 3), .inr (.inr (some (5, 0)))], am_mk r10.2)) rfl ?_
          obtain ⟨r13, h14, h⟩ := am_bd h
          refine am_Go.cl htb rfl (ex_X5_skipToHere d (by omega) 0 (m.1 5 0 3) 259 r10.2 r13 h14) ?_
          show am_Go d 49 (79, [some (.inr (.inr (some (4, 0)))), some (.inl x1), some (.inl x2), some (.inl (m.1 5 0 3))], [], am_mk r13) _ _ _ _
          refine am_Go.n htb 2 (S' := (12, [some (.inr (.inr (some (4, 0)))), some (.inl x1), some (.inl (x2 + 1)), some (.inl (m.1 5 0 3))], [], am_mk r13)) rfl ?_
          refine am_Go.fg (L0 := [some (.inr (.inr (some (4, 0)))), some (.inl x1), some (.inl (x2 + 1)), none]) (by exact ⟨rfl, ⟨rfl, ⟨rfl, trivial⟩⟩⟩) ?_
          first | exact ih h | exact ih h hk | exact ih h hr | exact ih h hk hr
        · rw [if_neg hc12] at h
          refine am_Go.c1 htb (S' := (66, [some (.inr (.inr (some (4, 0)))), some (.inl x1), some (.inl x2), some (.inl (m.1 5 0 3))], [], am_mk r10.2)) (if_neg hc12) ?_
          refine am_Go.n htb 1 (S' := (67, [some (.inr (.inr (some (4, 0)))), some (.inl x1), some (.inl x2), some (.inl (m.1 5 0 3))], [.inl 0], am_mk r10.2)) rfl ?_
          cases h
          obtain ⟨rfl, rfl, rfl, rfl⟩ := hr _ rfl
          exact am_Go.rt htb rfl
set_option maxRecDepth 100000 in
theorem ex_X4_readTest (d : Nat) (hd : 4 ≤ d) (rc : am_rc) (hrc : am_rcok rc (d - 1)) (a1 : Int32) (m : am_m) (t : Int32 × am_m) (h : fn_X4_readTest rc a1 m = some t) : am_Ex am_cod d 49 [.inr (.inr (some (4, 0))), .inl a1] (am_mk m) (some (.inl t.1)) (am_mk t.2) 0 0 := by
  obtain ⟨d, rfl⟩ : ∃ e, d = e + 1 := ⟨d - 1, by omega⟩
  have htb : am_tab 49 = at_49 := rfl
  refine ⟨Nat.le_of_ble_eq_true rfl, ?_⟩
  unfold fn_X4_readTest at h
  show am_Go d 49 (0, [some (.inr (.inr (some (4, 0)))), some (.inl a1), none, none], [], am_mk m) _ _ 0 0
  refine am_Go.n htb 2 (S' := (2, [some (.inr (.inr (some (4, 0)))), some (.inl a1), none, none], [.inl a1, .inr (.inr (some (4, 0)))], am_mk m)) rfl ?_
  obtain ⟨r1, h2, h⟩ := am_bd h
  refine am_Go.cl htb rfl (hrc 1 _ _ _ h2) ?_
  show am_Go d 49 (5, [some (.inr (.inr (some (4, 0)))), some (.inl a1), none, none], [.inl r1.1], am_mk r1.2) _ _ _ _
  by_cases hc3 : r1.1 ≠ 0
  · rw [if_pos hc3] at h
    refine am_Go.c1 htb (S' := (10, [some (.inr (.inr (some (4, 0)))), some (.inl a1), none, none], [], am_mk r1.2)) (if_pos hc3) ?_
    refine am_Go.n htb 2 (S' := (12, [some (.inr (.inr (some (4, 0)))), some (.inl a1), some (.inl 0), none], [], am_mk r1.2)) rfl ?_
    obtain ⟨w18, h16, h⟩ := am_bd h
    refine lt_X4_readTest_12 _ hd rc hrc (h := h16) (hk := ?_) (hr := ?_)
    · intro q15 he
      subst he
      dsimp only at h
      refine am_Go.n htb 1 (S' := (86, [some (.inr (.inr (some (4, 0)))), some (.inl a1), none, none], [.inl 1], am_mk q15)) rfl ?_
      cases h
      exact am_Go.rt htb rfl
    · intro rr17 he
      subst he
      cases h
      exact ⟨rfl, rfl, rfl, rfl⟩
  · rw [if_neg hc3] at h
    refine am_Go.c1 htb (S' := (8, [some (.inr (.inr (some (4, 0)))), some (.inl a1), none, none], [], am_mk r1.2)) (if_neg hc3) ?_
    refine am_Go.n htb 1 (S' := (9, [some (.inr (.inr (some (4, 0)))), some (.inl a1), none, none], [.inl 0], am_mk r1.2)) rfl ?_
    cases h
    exact am_Go.rt htb rfl
theorem am_rd_ok : ∀ n, am_rcok (am_rd n) (n + 4)
  | 0 => fun _ _ _ _ h => by cases h
  | n + 1 => fun w a m t h => by
    have ih : am_rcok (am_rd n) (n + 1 + 4 - 1) := by rw [show n + 1 + 4 - 1 = n + 4 by omega]; exact am_rd_ok n
    match w, h with
    | 0, h => exact ex_X4_readTest _ (by omega) (am_rd n) ih a m t h
    | 1, h => exact ex_X4_readBoth _ (by omega) (am_rd n) ih a m t h
    | 2, h => exact ex_X4_readPlain _ (by omega) (am_rd n) ih a m t h
    | 3, h => exact ex_X4_readCompared _ (by omega) (am_rd n) ih a m t h
    | 4, h => exact ex_X4_readSum _ (by omega) (am_rd n) ih a m t h
    | 5, h => exact ex_X4_readTerm _ (by omega) (am_rd n) ih a m t h
    | 6, h => exact ex_X4_readPart _ (by omega) (am_rd n) ih a m t h
    | w + 7, h => cases h
-- X5_open
set_option maxRecDepth 100000 in
theorem lt_X5_open_23 (d : Nat) (hd : 1 ≤ d + 1) {r : Option am_V} {M' : am_M} {kc ks : Nat} {n : Nat} {x0 : Nat} {x1 : Int32} {x2 : Int32} {x3 : Int32} {m : am_m} {t : am_m} (h : lp_X5_open_23 n x0 x1 x2 x3 m = some t) (hk : am_Go d 61 (44, [some (.inr (.inr (some (5, x0)))), some (.inl x1), some (.inl x2), none], [], am_mk t) r M' kc ks) : am_Go d 61 (23, [some (.inr (.inr (some (5, x0)))), some (.inl x1), some (.inl x2), some (.inl x3)], [], am_mk m) r M' kc ks := by
  have htb : am_tab 61 = at_61 := rfl
  induction n generalizing x3 m with
  | zero => cases h
  | succ n ih =>
    unfold lp_X5_open_23 at h
    refine am_Go.n htb 2 (S' := (26, [some (.inr (.inr (some (5, x0)))), some (.inl x1), some (.inl x2), some (.inl x3)], [.inl 6, .inl x3], am_mk m)) rfl ?_
    by_cases hc2 : (6 : Int32) ≤ x3
    · rw [if_pos hc2] at h
      refine am_Go.c1 htb (S' := (44, [some (.inr (.inr (some (5, x0)))), some (.inl x1), some (.inl x2), some (.inl x3)], [], am_mk m)) (if_pos hc2) ?_
      cases h
      exact am_Go.fg (by exact ⟨rfl, ⟨rfl, ⟨rfl, trivial⟩⟩⟩) hk
    · rw [if_neg hc2] at h
      refine am_Go.c1 htb (S' := (29, [some (.inr (.inr (some (5, x0)))), some (.inl x1), some (.inl x2), some (.inl x3)], [], am_mk m)) (if_neg hc2) ?_
      refine am_Go.n htb 6 (S' := (37, [some (.inr (.inr (some (5, x0)))), some (.inl x1), some (.inl x2), some (.inl x3)], [.inl (-1), .inl (x2 + x3), .inr (.inr (some (28, x0)))], am_mk m)) rfl ?_
      obtain ⟨hg3, h⟩ := am_ck_some h
      refine am_Go.c1 htb (S' := (38, [some (.inr (.inr (some (5, x0)))), some (.inl x1), some (.inl x2), some (.inl x3)], [], am_mk (am_si m 28 x0 (x2 + x3).toNatClampNeg (-1)))) (if_neg hg3) ?_
      refine am_Go.n htb 2 (S' := (23, [some (.inr (.inr (some (5, x0)))), some (.inl x1), some (.inl x2), some (.inl (x3 + 1))], [], am_mk (am_si m 28 x0 (x2 + x3).toNatClampNeg (-1)))) rfl ?_
      first | exact ih h | exact ih h hk
set_option maxRecDepth 100000 in
theorem ex_X5_open (d : Nat) (hd : 1 ≤ d) (a0 : Nat) (a1 : Int32) (m : am_m) (t : am_m) (h : fn_X5_open a0 a1 m = some t) : am_Ex am_cod d 61 [.inr (.inr (some (5, a0))), .inl a1] (am_mk m) (none) (am_mk t) 0 0 := by
  obtain ⟨d, rfl⟩ : ∃ e, d = e + 1 := ⟨d - 1, by omega⟩
  have htb : am_tab 61 = at_61 := rfl
  refine ⟨Nat.le_of_ble_eq_true rfl, ?_⟩
  unfold fn_X5_open at h
  show am_Go d 61 (0, [some (.inr (.inr (some (5, a0)))), some (.inl a1), none, none], [], am_mk m) _ _ 0 0
  refine am_Go.n htb 11 (S' := (17, [some (.inr (.inr (some (5, a0)))), some (.inl a1), some (.inl ((m.1 5 a0 2) * (6 : Int32))), none], [.inl (Int32.ofNat (m.2.2.2.2.2.2.1 28 a0)), .inl (((m.1 5 a0 2) * (6 : Int32)) + (6 : Int32))], am_mk m)) rfl ?_
  by_cases hc1 : (((m.1 5 a0 2) * (6 : Int32)) + (6 : Int32)) ≤ (Int32.ofNat (m.2.2.2.2.2.2.1 28 a0))
  · rw [if_pos hc1] at h
    refine am_Go.c1 htb (S' := (21, [some (.inr (.inr (some (5, a0)))), some (.inl a1), some (.inl ((m.1 5 a0 2) * (6 : Int32))), none], [], am_mk m)) (if_pos hc1) ?_
    refine am_Go.n htb 2 (S' := (23, [some (.inr (.inr (some (5, a0)))), some (.inl a1), some (.inl ((m.1 5 a0 2) * (6 : Int32))), some (.inl 0)], [], am_mk m)) rfl ?_
    obtain ⟨q4, h5, h⟩ := am_bd h
    refine lt_X5_open_23 _ hd (h := h5) (hk := ?_)
    refine am_Go.n htb 6 (S' := (52, [some (.inr (.inr (some (5, a0)))), some (.inl a1), some (.inl ((m.1 5 a0 2) * (6 : Int32))), none], [.inl a1, .inl (((m.1 5 a0 2) * (6 : Int32)) + (0 : Int32)), .inr (.inr (some (28, a0)))], am_mk q4)) rfl ?_
    obtain ⟨hg6, h⟩ := am_ck_some h
    refine am_Go.c1 htb (S' := (53, [some (.inr (.inr (some (5, a0)))), some (.inl a1), some (.inl ((m.1 5 a0 2) * (6 : Int32))), none], [], am_mk (am_si q4 28 a0 (((m.1 5 a0 2) * (6 : Int32)) + (0 : Int32)).toNatClampNeg a1))) (if_neg hg6) ?_
    refine am_Go.n htb 6 (S' := (61, [some (.inr (.inr (some (5, a0)))), some (.inl a1), some (.inl ((m.1 5 a0 2) * (6 : Int32))), none], [.inl 1, .inl (((m.1 5 a0 2) * (6 : Int32)) + (1 : Int32)), .inr (.inr (some (28, a0)))], am_mk (am_si q4 28 a0 (((m.1 5 a0 2) * (6 : Int32)) + (0 : Int32)).toNatClampNeg a1))) rfl ?_
    obtain ⟨hg7, h⟩ := am_ck_some h
    refine am_Go.c1 htb (S' := (62, [some (.inr (.inr (some (5, a0)))), some (.inl a1), some (.inl ((m.1 5 a0 2) * (6 : Int32))), none], [], am_mk (am_si (am_si q4 28 a0 (((m.1 5 a0 2) * (6 : Int32)) + (0 : Int32)).toNatClampNeg a1) 28 a0 (((m.1 5 a0 2) * (6 : Int32)) + (1 : Int32)).toNatClampNeg 1))) (if_neg hg7) ?_
    refine am_Go.n htb 6 (S' := (72, [some (.inr (.inr (some (5, a0)))), some (.inl a1), some (.inl ((m.1 5 a0 2) * (6 : Int32))), none], [], am_mk (am_si (am_si (am_si q4 28 a0 (((m.1 5 a0 2) * (6 : Int32)) + (0 : Int32)).toNatClampNeg a1) 28 a0 (((m.1 5 a0 2) * (6 : Int32)) + (1 : Int32)).toNatClampNeg 1) 5 a0 2 ((q4.1 5 a0 2) + (1 : Int32))))) rfl ?_
    cases h
    exact am_Go.rt htb rfl
  · rw [if_neg hc1] at h
    refine am_Go.c1 htb (S' := (20, [some (.inr (.inr (some (5, a0)))), some (.inl a1), some (.inl ((m.1 5 a0 2) * (6 : Int32))), none], [], am_mk m)) (if_neg hc1) ?_
    cases h
    exact am_Go.rt htb rfl
-- X4_readClause
set_option maxRecDepth 100000 in
theorem lt_X4_readClause_42 (d : Nat) (hd : 45 ≤ d + 1) {r : Option am_V} {M' : am_M} {kc ks : Nat} {n : Nat} {x1 : Int32} {x2 : Int32} {m : am_m} {t : Sum (am_m) (Int32 × am_m)} (h : lp_X4_readClause_42 n x1 x2 m = some t) (hk : ∀ t', t = .inl t' → am_Go d 46 (118, [some (.inr (.inr (some (4, 0)))), some (.inl x1), none], [], am_mk t') r M' kc ks) (hr : ∀ t', t = .inr t' → r = some (.inl t'.1) ∧ M' = am_mk t'.2 ∧ kc = 0 ∧ ks = 0) : am_Go d 46 (42, [some (.inr (.inr (some (4, 0)))), some (.inl x1), some (.inl x2)], [], am_mk m) r M' kc ks := by
  have htb : am_tab 46 = at_46 := rfl
  induction n generalizing x2 m with
  | zero => cases h
  | succ n ih =>
    unfold lp_X4_readClause_42 at h
    refine am_Go.n htb 2 (S' := (44, [some (.inr (.inr (some (4, 0)))), some (.inl x1), some (.inl x2)], [.inl x1, .inl x2], am_mk m)) rfl ?_
    by_cases hc8 : x1 ≤ x2
    · rw [if_pos hc8] at h
      refine am_Go.c1 htb (S' := (118, [some (.inr (.inr (some (4, 0)))), some (.inl x1), some (.inl x2)], [], am_mk m)) (if_pos hc8) ?_
      cases h
      exact am_Go.fg (by exact ⟨rfl, ⟨rfl, trivial⟩⟩) (hk _ rfl)
    · rw [if_neg hc8] at h
      refine am_Go.c1 htb (S' := (47, [some (.inr (.inr (some (4, 0)))), some (.inl x1), some (.inl x2)], [], am_mk m)) (if_neg hc8) ?_
      refine am_Go.n htb 1 (S' := (48, [some (.inr (.inr (some (4, 0)))), some (.inl x1), some (.inl x2)], [.inl x2], am_mk m)) rfl ?_
      by_cases hc9 : x2 ≤ 0
      · rw [if_pos hc9] at h
        refine am_Go.c1 htb (S' := (74, [some (.inr (.inr (some (4, 0)))), some (.inl x1), some (.inl x2)], [], am_mk m)) (if_pos hc9) ?_
        refine am_Go.n htb 8 (S' := (88, [some (.inr (.inr (some (4, 0)))), some (.inl x1), some (.inl x2)], [.inl (m.1 5 0 3), .inl ((3 : Int32) + x2), .inr (.inr (some (5, 0)))], am_mk m)) rfl ?_
        obtain ⟨r10, h11, h⟩ := am_bd h
        refine am_Go.cl htb rfl (ex_X5_mark d (by omega) 0 ((3 : Int32) + x2) (m.1 5 0 3) m r10 h11) ?_
        show am_Go d 46 (91, [some (.inr (.inr (some (4, 0)))), some (.inl x1), some (.inl x2)], [], am_mk r10) _ _ _ _
        refine am_Go.n htb 2 (S' := (93, [some (.inr (.inr (some (4, 0)))), some (.inl x1), some (.inl x2)], [.inl 0, .inr (.inr (some (4, 0)))], am_mk r10)) rfl ?_
        obtain ⟨r12, h13, h⟩ := am_bd h
        refine am_Go.cl htb rfl (am_Ex_mono (by omega) (am_rd_ok 40 4 _ _ _ h13)) ?_
        show am_Go d 46 (96, [some (.inr (.inr (some (4, 0)))), some (.inl x1), some (.inl x2)], [.inl r12.1], am_mk r12.2) _ _ _ _
        by_cases hc14 : r12.1 ≠ 0
        · rw [if_pos hc14] at h
          refine am_Go.c1 htb (S' := (101, [some (.inr (.inr (some (4, 0)))), some (.inl x1), some (.inl x2)], [], am_mk r12.2)) (if_pos hc14) ?_
          refine am_Go.n htb 4 (S' := (109, [some (.inr (.inr (some (4, 0)))), some (.inl x1), some (.inl x2)], [.inl 0, .inl 257, .inr (.inr (some (5, 0)))], am_mk r12.2)) rfl ?_
          obtain ⟨r15, h16, h⟩ := am_bd h
          refine am_Go.cl htb rfl (ex_X5_put d (by omega) 0 257 0 r12.2 r15 h16) ?_
          show am_Go d 46 (112, [some (.inr (.inr (some (4, 0)))), some (.inl x1), some (.inl x2)], [], am_mk r15) _ _ _ _
          refine am_Go.n htb 2 (S' := (42, [some (.inr (.inr (some (4, 0)))), some (.inl x1), some (.inl (x2 + 1))], [], am_mk r15)) rfl ?_
          first | exact ih h | exact ih h hk | exact ih h hr | exact ih h hk hr
        · rw [if_neg hc14] at h
          refine am_Go.c1 htb (S' := (99, [some (.inr (.inr (some (4, 0)))), some (.inl x1), some (.inl x2)], [], am_mk r12.2)) (if_neg hc14) ?_
          refine am_Go.n htb 1 (S' := (100, [some (.inr (.inr (some (4, 0)))), some (.inl x1), some (.inl x2)], [.inl 0], am_mk r12.2)) rfl ?_
          cases h
          obtain ⟨rfl, rfl, rfl, rfl⟩ := hr _ rfl
          exact am_Go.rt htb rfl
      · rw [if_neg hc9] at h
        refine am_Go.c1 htb (S' := (51, [some (.inr (.inr (some (4, 0)))), some (.inl x1), some (.inl x2)], [], am_mk m)) (if_neg hc9) ?_
        refine am_Go.n htb 3 (S' := (54, [some (.inr (.inr (some (4, 0)))), some (.inl x1), some (.inl x2)], [.inl 1, .inl x2, .inr (.inr (some (4, 0)))], am_mk m)) rfl ?_
        refine am_Go.cut (S := (66, [some (.inr (.inr (some (4, 0)))), some (.inl x1), some (.inl x2)], [.inl (if x2 ≠ (1 : Int32) then (265 : Int32) else (264 : Int32)), .inr (.inr (some (4, 0)))], am_mk m)) ?_ (fun key => ?_)
        · obtain ⟨r18, h19, h⟩ := am_bd h
          refine am_Go.cl htb rfl (ex_X4_took d (by omega) (if x2 ≠ (1 : Int32) then (265 : Int32) else (264 : Int32)) m r18 h19) ?_
          show am_Go d 46 (69, [some (.inr (.inr (some (4, 0)))), some (.inl x1), some (.inl x2)], [.inl r18.1], am_mk r18.2) _ _ _ _
          by_cases hc20 : r18.1 ≠ 0
          · rw [if_pos hc20] at h
            refine am_Go.c1 htb (S' := (74, [some (.inr (.inr (some (4, 0)))), some (.inl x1), some (.inl x2)], [], am_mk r18.2)) (if_pos hc20) ?_
            refine am_Go.n htb 8 (S' := (88, [some (.inr (.inr (some (4, 0)))), some (.inl x1), some (.inl x2)], [.inl (r18.2.1 5 0 3), .inl ((3 : Int32) + x2), .inr (.inr (some (5, 0)))], am_mk r18.2)) rfl ?_
            obtain ⟨r21, h22, h⟩ := am_bd h
            refine am_Go.cl htb rfl (ex_X5_mark d (by omega) 0 ((3 : Int32) + x2) (r18.2.1 5 0 3) r18.2 r21 h22) ?_
            show am_Go d 46 (91, [some (.inr (.inr (some (4, 0)))), some (.inl x1), some (.inl x2)], [], am_mk r21) _ _ _ _
            refine am_Go.n htb 2 (S' := (93, [some (.inr (.inr (some (4, 0)))), some (.inl x1), some (.inl x2)], [.inl 0, .inr (.inr (some (4, 0)))], am_mk r21)) rfl ?_
            obtain ⟨r23, h24, h⟩ := am_bd h
            refine am_Go.cl htb rfl (am_Ex_mono (by omega) (am_rd_ok 40 4 _ _ _ h24)) ?_
            show am_Go d 46 (96, [some (.inr (.inr (some (4, 0)))), some (.inl x1), some (.inl x2)], [.inl r23.1], am_mk r23.2) _ _ _ _
            by_cases hc25 : r23.1 ≠ 0
            · rw [if_pos hc25] at h
              refine am_Go.c1 htb (S' := (101, [some (.inr (.inr (some (4, 0)))), some (.inl x1), some (.inl x2)], [], am_mk r23.2)) (if_pos hc25) ?_
              refine am_Go.n htb 4 (S' := (109, [some (.inr (.inr (some (4, 0)))), some (.inl x1), some (.inl x2)], [.inl 0, .inl 257, .inr (.inr (some (5, 0)))], am_mk r23.2)) rfl ?_
              obtain ⟨r26, h27, h⟩ := am_bd h
              refine am_Go.cl htb rfl (ex_X5_put d (by omega) 0 257 0 r23.2 r26 h27) ?_
              show am_Go d 46 (112, [some (.inr (.inr (some (4, 0)))), some (.inl x1), some (.inl x2)], [], am_mk r26) _ _ _ _
              refine am_Go.n htb 2 (S' := (42, [some (.inr (.inr (some (4, 0)))), some (.inl x1), some (.inl (x2 + 1))], [], am_mk r26)) rfl ?_
              first | exact ih h | exact ih h hk | exact ih h hr | exact ih h hk hr
            · rw [if_neg hc25] at h
              refine am_Go.c1 htb (S' := (99, [some (.inr (.inr (some (4, 0)))), some (.inl x1), some (.inl x2)], [], am_mk r23.2)) (if_neg hc25) ?_
              refine am_Go.n htb 1 (S' := (100, [some (.inr (.inr (some (4, 0)))), some (.inl x1), some (.inl x2)], [.inl 0], am_mk r23.2)) rfl ?_
              cases h
              obtain ⟨rfl, rfl, rfl, rfl⟩ := hr _ rfl
              exact am_Go.rt htb rfl
          · rw [if_neg hc20] at h
            refine am_Go.c1 htb (S' := (72, [some (.inr (.inr (some (4, 0)))), some (.inl x1), some (.inl x2)], [], am_mk r18.2)) (if_neg hc20) ?_
            refine am_Go.n htb 1 (S' := (73, [some (.inr (.inr (some (4, 0)))), some (.inl x1), some (.inl x2)], [.inl 0], am_mk r18.2)) rfl ?_
            cases h
            obtain ⟨rfl, rfl, rfl, rfl⟩ := hr _ rfl
            exact am_Go.rt htb rfl
        · by_cases hc17 : x2 ≠ (1 : Int32)
          · refine am_Go.c1 htb (S' := (63, [some (.inr (.inr (some (4, 0)))), some (.inl x1), some (.inl x2)], [.inr (.inr (some (4, 0)))], am_mk m)) (if_pos hc17) ?_
            refine am_Go.n htb 1 (S' := (66, [some (.inr (.inr (some (4, 0)))), some (.inl x1), some (.inl x2)], [.inl 265, .inr (.inr (some (4, 0)))], am_mk m)) rfl ?_
            simp only [if_pos hc17] at key
            exact am_Go.fg (by exact ⟨rfl, ⟨rfl, ⟨rfl, trivial⟩⟩⟩) key
          · refine am_Go.c1 htb (S' := (57, [some (.inr (.inr (some (4, 0)))), some (.inl x1), some (.inl x2)], [.inr (.inr (some (4, 0)))], am_mk m)) (if_neg hc17) ?_
            refine am_Go.n htb 2 (S' := (66, [some (.inr (.inr (some (4, 0)))), some (.inl x1), some (.inl x2)], [.inl 264, .inr (.inr (some (4, 0)))], am_mk m)) rfl ?_
            simp only [if_neg hc17] at key
            exact am_Go.fg (by exact ⟨rfl, ⟨rfl, ⟨rfl, trivial⟩⟩⟩) key
set_option maxRecDepth 100000 in
theorem ex_X4_readClause (d : Nat) (hd : 45 ≤ d)  (m : am_m) (t : Int32 × am_m) (h : fn_X4_readClause  m = some t) : am_Ex am_cod d 46 [.inr (.inr (some (4, 0)))] (am_mk m) (some (.inl t.1)) (am_mk t.2) 0 0 := by
  obtain ⟨d, rfl⟩ : ∃ e, d = e + 1 := ⟨d - 1, by omega⟩
  have htb : am_tab 46 = at_46 := rfl
  refine ⟨Nat.le_of_ble_eq_true rfl, ?_⟩
  unfold fn_X4_readClause at h
  show am_Go d 46 (0, [some (.inr (.inr (some (4, 0)))), none, none], [], am_mk m) _ _ 0 0
  refine am_Go.n htb 3 (S' := (5, [some (.inr (.inr (some (4, 0)))), none, none], [.inl (m.1 4 0 6), .inr (.inr (some (4, 0)))], am_mk m)) rfl ?_
  obtain ⟨r1, h2, h⟩ := am_bd h
  refine am_Go.cl htb rfl (ex_X4_sumsOf d (by omega) (m.1 4 0 6) m r1 h2) ?_
  show am_Go d 46 (8, [some (.inr (.inr (some (4, 0)))), none, none], [.inl r1], am_mk m) _ _ _ _
  refine am_Go.n htb 3 (S' := (11, [some (.inr (.inr (some (4, 0)))), some (.inl r1), none], [.inl (-1), .inl r1], am_mk m)) rfl ?_
  by_cases hc3 : r1 ≠ (-1 : Int32)
  · rw [if_pos hc3] at h
    refine am_Go.c1 htb (S' := (19, [some (.inr (.inr (some (4, 0)))), some (.inl r1), none], [], am_mk m)) (if_pos hc3) ?_
    refine am_Go.n htb 4 (S' := (27, [some (.inr (.inr (some (4, 0)))), some (.inl r1), none], [.inl (m.1 4 0 6), .inr (.inr (some (5, 0)))], am_mk m)) rfl ?_
    obtain ⟨r4, h5, h⟩ := am_bd h
    refine am_Go.cl htb rfl (ex_X5_open d (by omega) 0 (m.1 4 0 6) m r4 h5) ?_
    show am_Go d 46 (30, [some (.inr (.inr (some (4, 0)))), some (.inl r1), none], [], am_mk r4) _ _ _ _
    refine am_Go.n htb 5 (S' := (37, [some (.inr (.inr (some (4, 0)))), some (.inl r1), none], [.inl ((r4.1 4 0 5) + (1 : Int32)), .inr (.inr (some (4, 0)))], am_mk r4)) rfl ?_
    obtain ⟨r6, h7, h⟩ := am_bd h
    refine am_Go.cl htb rfl (ex_X4_goTo d (by omega) ((r4.1 4 0 5) + (1 : Int32)) r4 r6 h7) ?_
    show am_Go d 46 (40, [some (.inr (.inr (some (4, 0)))), some (.inl r1), none], [], am_mk r6) _ _ _ _
    refine am_Go.n htb 2 (S' := (42, [some (.inr (.inr (some (4, 0)))), some (.inl r1), some (.inl 0)], [], am_mk r6)) rfl ?_
    obtain ⟨w66, h29, h⟩ := am_bd h
    refine lt_X4_readClause_42 _ hd (h := h29) (hk := ?_) (hr := ?_)
    · intro q28 he
      subst he
      dsimp only at h
      refine am_Go.n htb 3 (S' := (125, [some (.inr (.inr (some (4, 0)))), some (.inl r1), none], [.inl 263, .inl (q28.1 4 0 6)], am_mk q28)) rfl ?_
      by_cases hc30 : (q28.1 4 0 6) ≠ (263 : Int32)
      · rw [if_pos hc30] at h
        refine am_Go.c1 htb (S' := (144, [some (.inr (.inr (some (4, 0)))), some (.inl r1), none], [], am_mk q28)) (if_pos hc30) ?_
        refine am_Go.n htb 3 (S' := (151, [some (.inr (.inr (some (4, 0)))), some (.inl r1), none], [.inl 262, .inl (q28.1 4 0 6)], am_mk q28)) rfl ?_
        by_cases hc31 : (q28.1 4 0 6) ≠ (262 : Int32)
        · rw [if_pos hc31] at h
          refine am_Go.c1 htb (S' := (200, [some (.inr (.inr (some (4, 0)))), some (.inl r1), none], [], am_mk q28)) (if_pos hc31) ?_
          refine am_Go.n htb 1 (S' := (201, [some (.inr (.inr (some (4, 0)))), some (.inl r1), none], [.inl 1], am_mk q28)) rfl ?_
          cases h
          exact am_Go.rt htb rfl
        · rw [if_neg hc31] at h
          refine am_Go.c1 htb (S' := (154, [some (.inr (.inr (some (4, 0)))), some (.inl r1), none], [], am_mk q28)) (if_neg hc31) ?_
          refine am_Go.n htb 5 (S' := (161, [some (.inr (.inr (some (4, 0)))), some (.inl r1), none], [.inl ((q28.1 4 0 5) + (1 : Int32)), .inr (.inr (some (4, 0)))], am_mk q28)) rfl ?_
          obtain ⟨r32, h33, h⟩ := am_bd h
          refine am_Go.cl htb rfl (ex_X4_goTo d (by omega) ((q28.1 4 0 5) + (1 : Int32)) q28 r32 h33) ?_
          show am_Go d 46 (164, [some (.inr (.inr (some (4, 0)))), some (.inl r1), none], [], am_mk r32) _ _ _ _
          refine am_Go.n htb 6 (S' := (176, [some (.inr (.inr (some (4, 0)))), some (.inl r1), none], [.inl (r32.1 5 0 3), .inl 2, .inr (.inr (some (5, 0)))], am_mk r32)) rfl ?_
          obtain ⟨r34, h35, h⟩ := am_bd h
          refine am_Go.cl htb rfl (ex_X5_mark d (by omega) 0 2 (r32.1 5 0 3) r32 r34 h35) ?_
          show am_Go d 46 (179, [some (.inr (.inr (some (4, 0)))), some (.inl r1), none], [], am_mk r34) _ _ _ _
          refine am_Go.n htb 2 (S' := (181, [some (.inr (.inr (some (4, 0)))), some (.inl r1), none], [.inl 0, .inr (.inr (some (4, 0)))], am_mk r34)) rfl ?_
          obtain ⟨r36, h37, h⟩ := am_bd h
          refine am_Go.cl htb rfl (am_Ex_mono (by omega) (am_rd_ok 40 0 _ _ _ h37)) ?_
          show am_Go d 46 (184, [some (.inr (.inr (some (4, 0)))), some (.inl r1), none], [.inl r36.1], am_mk r36.2) _ _ _ _
          by_cases hc38 : r36.1 ≠ 0
          · rw [if_pos hc38] at h
            refine am_Go.c1 htb (S' := (189, [some (.inr (.inr (some (4, 0)))), some (.inl r1), none], [], am_mk r36.2)) (if_pos hc38) ?_
            refine am_Go.n htb 4 (S' := (197, [some (.inr (.inr (some (4, 0)))), some (.inl r1), none], [.inl 0, .inl 257, .inr (.inr (some (5, 0)))], am_mk r36.2)) rfl ?_
            obtain ⟨r39, h40, h⟩ := am_bd h
            refine am_Go.cl htb rfl (ex_X5_put d (by omega) 0 257 0 r36.2 r39 h40) ?_
            show am_Go d 46 (200, [some (.inr (.inr (some (4, 0)))), some (.inl r1), none], [], am_mk r39) _ _ _ _
            refine am_Go.n htb 1 (S' := (201, [some (.inr (.inr (some (4, 0)))), some (.inl r1), none], [.inl 1], am_mk r39)) rfl ?_
            cases h
            exact am_Go.rt htb rfl
          · rw [if_neg hc38] at h
            refine am_Go.c1 htb (S' := (187, [some (.inr (.inr (some (4, 0)))), some (.inl r1), none], [], am_mk r36.2)) (if_neg hc38) ?_
            refine am_Go.n htb 1 (S' := (188, [some (.inr (.inr (some (4, 0)))), some (.inl r1), none], [.inl 0], am_mk r36.2)) rfl ?_
            cases h
            exact am_Go.rt htb rfl
      · rw [if_neg hc30] at h
        refine am_Go.c1 htb (S' := (128, [some (.inr (.inr (some (4, 0)))), some (.inl r1), none], [], am_mk q28)) (if_neg hc30) ?_
        refine am_Go.n htb 2 (S' := (132, [some (.inr (.inr (some (4, 0)))), some (.inl r1), none], [.inl (q28.1 4 0 9)], am_mk q28)) rfl ?_
        by_cases hc41 : (q28.1 4 0 9) = 0
        · rw [if_pos hc41] at h
          refine am_Go.c1 htb (S' := (144, [some (.inr (.inr (some (4, 0)))), some (.inl r1), none], [], am_mk q28)) (if_pos hc41) ?_
          refine am_Go.n htb 3 (S' := (151, [some (.inr (.inr (some (4, 0)))), some (.inl r1), none], [.inl 262, .inl (q28.1 4 0 6)], am_mk q28)) rfl ?_
          by_cases hc42 : (q28.1 4 0 6) ≠ (262 : Int32)
          · rw [if_pos hc42] at h
            refine am_Go.c1 htb (S' := (200, [some (.inr (.inr (some (4, 0)))), some (.inl r1), none], [], am_mk q28)) (if_pos hc42) ?_
            refine am_Go.n htb 1 (S' := (201, [some (.inr (.inr (some (4, 0)))), some (.inl r1), none], [.inl 1], am_mk q28)) rfl ?_
            cases h
            exact am_Go.rt htb rfl
          · rw [if_neg hc42] at h
            refine am_Go.c1 htb (S' := (154, [some (.inr (.inr (some (4, 0)))), some (.inl r1), none], [], am_mk q28)) (if_neg hc42) ?_
            refine am_Go.n htb 5 (S' := (161, [some (.inr (.inr (some (4, 0)))), some (.inl r1), none], [.inl ((q28.1 4 0 5) + (1 : Int32)), .inr (.inr (some (4, 0)))], am_mk q28)) rfl ?_
            obtain ⟨r43, h44, h⟩ := am_bd h
            refine am_Go.cl htb rfl (ex_X4_goTo d (by omega) ((q28.1 4 0 5) + (1 : Int32)) q28 r43 h44) ?_
            show am_Go d 46 (164, [some (.inr (.inr (some (4, 0)))), some (.inl r1), none], [], am_mk r43) _ _ _ _
            refine am_Go.n htb 6 (S' := (176, [some (.inr (.inr (some (4, 0)))), some (.inl r1), none], [.inl (r43.1 5 0 3), .inl 2, .inr (.inr (some (5, 0)))], am_mk r43)) rfl ?_
            obtain ⟨r45, h46, h⟩ := am_bd h
            refine am_Go.cl htb rfl (ex_X5_mark d (by omega) 0 2 (r43.1 5 0 3) r43 r45 h46) ?_
            show am_Go d 46 (179, [some (.inr (.inr (some (4, 0)))), some (.inl r1), none], [], am_mk r45) _ _ _ _
            refine am_Go.n htb 2 (S' := (181, [some (.inr (.inr (some (4, 0)))), some (.inl r1), none], [.inl 0, .inr (.inr (some (4, 0)))], am_mk r45)) rfl ?_
            obtain ⟨r47, h48, h⟩ := am_bd h
            refine am_Go.cl htb rfl (am_Ex_mono (by omega) (am_rd_ok 40 0 _ _ _ h48)) ?_
            show am_Go d 46 (184, [some (.inr (.inr (some (4, 0)))), some (.inl r1), none], [.inl r47.1], am_mk r47.2) _ _ _ _
            by_cases hc49 : r47.1 ≠ 0
            · rw [if_pos hc49] at h
              refine am_Go.c1 htb (S' := (189, [some (.inr (.inr (some (4, 0)))), some (.inl r1), none], [], am_mk r47.2)) (if_pos hc49) ?_
              refine am_Go.n htb 4 (S' := (197, [some (.inr (.inr (some (4, 0)))), some (.inl r1), none], [.inl 0, .inl 257, .inr (.inr (some (5, 0)))], am_mk r47.2)) rfl ?_
              obtain ⟨r50, h51, h⟩ := am_bd h
              refine am_Go.cl htb rfl (ex_X5_put d (by omega) 0 257 0 r47.2 r50 h51) ?_
              show am_Go d 46 (200, [some (.inr (.inr (some (4, 0)))), some (.inl r1), none], [], am_mk r50) _ _ _ _
              refine am_Go.n htb 1 (S' := (201, [some (.inr (.inr (some (4, 0)))), some (.inl r1), none], [.inl 1], am_mk r50)) rfl ?_
              cases h
              exact am_Go.rt htb rfl
            · rw [if_neg hc49] at h
              refine am_Go.c1 htb (S' := (187, [some (.inr (.inr (some (4, 0)))), some (.inl r1), none], [], am_mk r47.2)) (if_neg hc49) ?_
              refine am_Go.n htb 1 (S' := (188, [some (.inr (.inr (some (4, 0)))), some (.inl r1), none], [.inl 0], am_mk r47.2)) rfl ?_
              cases h
              exact am_Go.rt htb rfl
        · rw [if_neg hc41] at h
          refine am_Go.c1 htb (S' := (135, [some (.inr (.inr (some (4, 0)))), some (.inl r1), none], [], am_mk q28)) (if_neg hc41) ?_
          refine am_Go.n htb 1 (S' := (136, [some (.inr (.inr (some (4, 0)))), some (.inl r1), none], [.inr (.inr (some (4, 0)))], am_mk q28)) rfl ?_
          obtain ⟨r52, h53, h⟩ := am_bd h
          refine am_Go.cl htb rfl (ex_X4_readTimes d (by omega)  q28 r52 h53) ?_
          show am_Go d 46 (139, [some (.inr (.inr (some (4, 0)))), some (.inl r1), none], [.inl r52.1], am_mk r52.2) _ _ _ _
          by_cases hc54 : r52.1 ≠ 0
          · rw [if_pos hc54] at h
            refine am_Go.c1 htb (S' := (144, [some (.inr (.inr (some (4, 0)))), some (.inl r1), none], [], am_mk r52.2)) (if_pos hc54) ?_
            refine am_Go.n htb 3 (S' := (151, [some (.inr (.inr (some (4, 0)))), some (.inl r1), none], [.inl 262, .inl (r52.2.1 4 0 6)], am_mk r52.2)) rfl ?_
            by_cases hc55 : (r52.2.1 4 0 6) ≠ (262 : Int32)
            · rw [if_pos hc55] at h
              refine am_Go.c1 htb (S' := (200, [some (.inr (.inr (some (4, 0)))), some (.inl r1), none], [], am_mk r52.2)) (if_pos hc55) ?_
              refine am_Go.n htb 1 (S' := (201, [some (.inr (.inr (some (4, 0)))), some (.inl r1), none], [.inl 1], am_mk r52.2)) rfl ?_
              cases h
              exact am_Go.rt htb rfl
            · rw [if_neg hc55] at h
              refine am_Go.c1 htb (S' := (154, [some (.inr (.inr (some (4, 0)))), some (.inl r1), none], [], am_mk r52.2)) (if_neg hc55) ?_
              refine am_Go.n htb 5 (S' := (161, [some (.inr (.inr (some (4, 0)))), some (.inl r1), none], [.inl ((r52.2.1 4 0 5) + (1 : Int32)), .inr (.inr (some (4, 0)))], am_mk r52.2)) rfl ?_
              obtain ⟨r56, h57, h⟩ := am_bd h
              refine am_Go.cl htb rfl (ex_X4_goTo d (by omega) ((r52.2.1 4 0 5) + (1 : Int32)) r52.2 r56 h57) ?_
              show am_Go d 46 (164, [some (.inr (.inr (some (4, 0)))), some (.inl r1), none], [], am_mk r56) _ _ _ _
              refine am_Go.n htb 6 (S' := (176, [some (.inr (.inr (some (4, 0)))), some (.inl r1), none], [.inl (r56.1 5 0 3), .inl 2, .inr (.inr (some (5, 0)))], am_mk r56)) rfl ?_
              obtain ⟨r58, h59, h⟩ := am_bd h
              refine am_Go.cl htb rfl (ex_X5_mark d (by omega) 0 2 (r56.1 5 0 3) r56 r58 h59) ?_
              show am_Go d 46 (179, [some (.inr (.inr (some (4, 0)))), some (.inl r1), none], [], am_mk r58) _ _ _ _
              refine am_Go.n htb 2 (S' := (181, [some (.inr (.inr (some (4, 0)))), some (.inl r1), none], [.inl 0, .inr (.inr (some (4, 0)))], am_mk r58)) rfl ?_
              obtain ⟨r60, h61, h⟩ := am_bd h
              refine am_Go.cl htb rfl (am_Ex_mono (by omega) (am_rd_ok 40 0 _ _ _ h61)) ?_
              show am_Go d 46 (184, [some (.inr (.inr (some (4, 0)))), some (.inl r1), none], [.inl r60.1], am_mk r60.2) _ _ _ _
              by_cases hc62 : r60.1 ≠ 0
              · rw [if_pos hc62] at h
                refine am_Go.c1 htb (S' := (189, [some (.inr (.inr (some (4, 0)))), some (.inl r1), none], [], am_mk r60.2)) (if_pos hc62) ?_
                refine am_Go.n htb 4 (S' := (197, [some (.inr (.inr (some (4, 0)))), some (.inl r1), none], [.inl 0, .inl 257, .inr (.inr (some (5, 0)))], am_mk r60.2)) rfl ?_
                obtain ⟨r63, h64, h⟩ := am_bd h
                refine am_Go.cl htb rfl (ex_X5_put d (by omega) 0 257 0 r60.2 r63 h64) ?_
                show am_Go d 46 (200, [some (.inr (.inr (some (4, 0)))), some (.inl r1), none], [], am_mk r63) _ _ _ _
                refine am_Go.n htb 1 (S' := (201, [some (.inr (.inr (some (4, 0)))), some (.inl r1), none], [.inl 1], am_mk r63)) rfl ?_
                cases h
                exact am_Go.rt htb rfl
              · rw [if_neg hc62] at h
                refine am_Go.c1 htb (S' := (187, [some (.inr (.inr (some (4, 0)))), some (.inl r1), none], [], am_mk r60.2)) (if_neg hc62) ?_
                refine am_Go.n htb 1 (S' := (188, [some (.inr (.inr (some (4, 0)))), some (.inl r1), none], [.inl 0], am_mk r60.2)) rfl ?_
                cases h
                exact am_Go.rt htb rfl
          · rw [if_neg hc54] at h
            refine am_Go.c1 htb (S' := (142, [some (.inr (.inr (some (4, 0)))), some (.inl r1), none], [], am_mk r52.2)) (if_neg hc54) ?_
            refine am_Go.n htb 1 (S' := (143, [some (.inr (.inr (some (4, 0)))), some (.inl r1), none], [.inl 0], am_mk r52.2)) rfl ?_
            cases h
            exact am_Go.rt htb rfl
    · intro rr65 he
      subst he
      cases h
      exact ⟨rfl, rfl, rfl, rfl⟩
  · rw [if_neg hc3] at h
    refine am_Go.c1 htb (S' := (14, [some (.inr (.inr (some (4, 0)))), some (.inl r1), none], [], am_mk m)) (if_neg hc3) ?_
    refine am_Go.n htb 1 (S' := (15, [some (.inr (.inr (some (4, 0)))), some (.inl r1), none], [.inr (.inr (some (4, 0)))], am_mk m)) rfl ?_
    obtain ⟨r67, h68, h⟩ := am_bd h
    refine am_Go.cl htb rfl (ex_X4_failed d (by omega)  m r67 h68) ?_
    show am_Go d 46 (18, [some (.inr (.inr (some (4, 0)))), some (.inl r1), none], [.inl r67.1], am_mk r67.2) _ _ _ _
    obtain ⟨hz69, h⟩ := am_gd_some h
    cases h
    exact am_Go.rt htb (if_pos hz69)
