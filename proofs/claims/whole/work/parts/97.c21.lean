-- X9_orders
set_option maxRecDepth 100000 in
theorem lt_X9_orders_83 (d : Nat) (hd : 47 ≤ d + 1) {r : Option am_V} {M' : am_M} {kc ks : Nat} {n : Nat} {x1 : Int32} {m : am_m} {t : Sum (am_m) (Int32 × am_m)} (h : lp_X9_orders_83 n x1 m = some t) (hk : ∀ t', t = .inl t' → am_Go d 122 (152, [some (.inr (.inr (some (9, 0)))), none], [], am_mk t') r M' kc ks) (hr : ∀ t', t = .inr t' → r = some (.inl t'.1) ∧ M' = am_mk t'.2 ∧ kc = 0 ∧ ks = 0) : am_Go d 122 (83, [some (.inr (.inr (some (9, 0)))), some (.inl x1)], [], am_mk m) r M' kc ks := by
  have htb : am_tab 122 = at_122 := rfl
  induction n generalizing x1 m with
  | zero => cases h
  | succ n ih =>
    unfold lp_X9_orders_83 at h
    refine am_Go.n htb 5 (S' := (94, [some (.inr (.inr (some (9, 0)))), some (.inl x1)], [.inl (m.1 5 0 2), .inl x1], am_mk m)) rfl ?_
    by_cases hc12 : (m.1 5 0 2) ≤ x1
    · rw [if_pos hc12] at h
      refine am_Go.c1 htb (S' := (152, [some (.inr (.inr (some (9, 0)))), some (.inl x1)], [], am_mk m)) (if_pos hc12) ?_
      cases h
      exact am_Go.fg (by exact ⟨rfl, trivial⟩) (hk _ rfl)
    · rw [if_neg hc12] at h
      refine am_Go.c1 htb (S' := (97, [some (.inr (.inr (some (9, 0)))), some (.inl x1)], [], am_mk m)) (if_neg hc12) ?_
      refine am_Go.n htb 5 (S' := (106, [some (.inr (.inr (some (9, 0)))), some (.inl x1)], [.inl x1, .inr (.inr (some (5, 0))), .inr (.inr (some (9, 0)))], am_mk m)) rfl ?_
      obtain ⟨r13, h14, h⟩ := am_bd h
      refine am_Go.cl htb rfl (ex_X9_ranClause d (by omega) 0 x1 m r13 h14) ?_
      show am_Go d 122 (109, [some (.inr (.inr (some (9, 0)))), some (.inl x1)], [.inl r13.1], am_mk r13.2) _ _ _ _
      by_cases hc15 : r13.1 ≠ 0
      · rw [if_pos hc15] at h
        refine am_Go.c1 htb (S' := (146, [some (.inr (.inr (some (9, 0)))), some (.inl x1)], [], am_mk r13.2)) (if_pos hc15) ?_
        refine am_Go.n htb 2 (S' := (83, [some (.inr (.inr (some (9, 0)))), some (.inl (x1 + 1))], [], am_mk r13.2)) rfl ?_
        first | exact ih h | exact ih h hk | exact ih h hr | exact ih h hk hr
      · rw [if_neg hc15] at h
        refine am_Go.c1 htb (S' := (112, [some (.inr (.inr (some (9, 0)))), some (.inl x1)], [], am_mk r13.2)) (if_neg hc15) ?_
        refine am_Go.n htb 4 (S' := (120, [some (.inr (.inr (some (9, 0)))), some (.inl x1)], [.inr (.inr (some (8, 1))), .inr (.inr (some (8, 0)))], am_mk r13.2)) rfl ?_
        obtain ⟨r16, h17, h⟩ := am_bd h
        refine am_Go.cl htb rfl (ex_X8_become d (by omega) 0 1 r13.2 r16 h17) ?_
        show am_Go d 122 (123, [some (.inr (.inr (some (9, 0)))), some (.inl x1)], [], am_mk r16) _ _ _ _
        refine am_Go.n htb 4 (S' := (131, [some (.inr (.inr (some (9, 0)))), some (.inl x1)], [.inr (.inr (some (3, 1))), .inr (.inr (some (3, 0)))], am_mk r16)) rfl ?_
        obtain ⟨r18, h19, h⟩ := am_bd h
        refine am_Go.cl htb rfl (ex_X3_become d (by omega) 0 1 r16 r18 h19) ?_
        show am_Go d 122 (134, [some (.inr (.inr (some (9, 0)))), some (.inl x1)], [], am_mk r18) _ _ _ _
        refine am_Go.n htb 5 (S' := (142, [some (.inr (.inr (some (9, 0)))), some (.inl x1)], [.inl (-3), .inr (.inr (some (9, 0)))], am_mk (am_si r18 9 0 16 x1))) rfl ?_
        obtain ⟨r20, h21, h⟩ := am_bd h
        refine am_Go.cl htb rfl (ex_X9_told d (by omega) (-3) (am_si r18 9 0 16 x1) r20 h21) ?_
        show am_Go d 122 (145, [some (.inr (.inr (some (9, 0)))), some (.inl x1)], [.inl r20.1], am_mk r20.2) _ _ _ _
        cases h
        obtain ⟨rfl, rfl, rfl, rfl⟩ := hr _ rfl
        exact am_Go.rt htb rfl
set_option maxRecDepth 100000 in
theorem ex_X9_orders (d : Nat) (hd : 47 ≤ d)  (m : am_m) (t : Int32 × am_m) (h : fn_X9_orders  m = some t) : am_Ex am_cod d 122 [.inr (.inr (some (9, 0)))] (am_mk m) (some (.inl t.1)) (am_mk t.2) 0 0 := by
  obtain ⟨d, rfl⟩ : ∃ e, d = e + 1 := ⟨d - 1, by omega⟩
  have htb : am_tab 122 = at_122 := rfl
  refine ⟨Nat.le_of_ble_eq_true rfl, ?_⟩
  unfold fn_X9_orders at h
  show am_Go d 122 (0, [some (.inr (.inr (some (9, 0)))), none], [], am_mk m) _ _ 0 0
  refine am_Go.n htb 8 (S' := (14, [some (.inr (.inr (some (9, 0)))), none], [.inl 1, .inr (.inr (some (7, 0))), .inr (.inr (some (4, 0)))], am_mk (am_si m 9 0 16 (-1)))) rfl ?_
  obtain ⟨r1, h2, h⟩ := am_bd h
  refine am_Go.cl htb rfl (ex_X4_readWhole d (by omega) 1 (am_si m 9 0 16 (-1)) r1 h2) ?_
  show am_Go d 122 (17, [some (.inr (.inr (some (9, 0)))), none], [.inl r1.1], am_mk r1.2) _ _ _ _
  by_cases hc3 : r1.1 ≠ 0
  · rw [if_pos hc3] at h
    refine am_Go.c1 htb (S' := (27, [some (.inr (.inr (some (9, 0)))), none], [], am_mk r1.2)) (if_pos hc3) ?_
    refine am_Go.n htb 4 (S' := (35, [some (.inr (.inr (some (9, 0)))), none], [.inr (.inr (some (8, 0))), .inr (.inr (some (8, 1)))], am_mk r1.2)) rfl ?_
    obtain ⟨r4, h5, h⟩ := am_bd h
    refine am_Go.cl htb rfl (ex_X8_become d (by omega) 1 0 r1.2 r4 h5) ?_
    show am_Go d 122 (38, [some (.inr (.inr (some (9, 0)))), none], [], am_mk r4) _ _ _ _
    refine am_Go.n htb 4 (S' := (46, [some (.inr (.inr (some (9, 0)))), none], [.inr (.inr (some (3, 0))), .inr (.inr (some (3, 1)))], am_mk r4)) rfl ?_
    obtain ⟨r6, h7, h⟩ := am_bd h
    refine am_Go.cl htb rfl (ex_X3_become d (by omega) 1 0 r4 r6 h7) ?_
    show am_Go d 122 (49, [some (.inr (.inr (some (9, 0)))), none], [], am_mk r6) _ _ _ _
    refine am_Go.n htb 1 (S' := (50, [some (.inr (.inr (some (9, 0)))), none], [.inr (.inr (some (9, 0)))], am_mk r6)) rfl ?_
    obtain ⟨r8, h9, h⟩ := am_bd h
    refine am_Go.cl htb rfl (ex_X9_askLive d (by omega)  r6 r8 h9) ?_
    show am_Go d 122 (53, [some (.inr (.inr (some (9, 0)))), none], [], am_mk r8) _ _ _ _
    refine am_Go.n htb 15 (S' := (78, [some (.inr (.inr (some (9, 0)))), none], [.inl (r8.1 5 0 4), .inr (.inr (some (9, 0)))], am_mk (am_si (am_si r8 41 0 1 0) 41 0 2 (-1)))) rfl ?_
    obtain ⟨r10, h11, h⟩ := am_bd h
    refine am_Go.cl htb rfl (ex_X9_fillOrderWords d (by omega) (r8.1 5 0 4) (am_si (am_si r8 41 0 1 0) 41 0 2 (-1)) r10 h11) ?_
    show am_Go d 122 (81, [some (.inr (.inr (some (9, 0)))), none], [], am_mk r10) _ _ _ _
    refine am_Go.n htb 2 (S' := (83, [some (.inr (.inr (some (9, 0)))), some (.inl 0)], [], am_mk r10)) rfl ?_
    obtain ⟨w27, h23, h⟩ := am_bd h
    refine lt_X9_orders_83 _ hd (h := h23) (hk := ?_) (hr := ?_)
    · intro q22 he
      subst he
      dsimp only at h
      refine am_Go.n htb 5 (S' := (159, [some (.inr (.inr (some (9, 0)))), none], [.inl (q22.1 41 0 1), .inr (.inr (some (9, 0)))], am_mk q22)) rfl ?_
      obtain ⟨r24, h25, h⟩ := am_bd h
      refine am_Go.cl htb rfl (ex_X9_told d (by omega) (q22.1 41 0 1) q22 r24 h25) ?_
      show am_Go d 122 (162, [some (.inr (.inr (some (9, 0)))), none], [.inl r24.1], am_mk r24.2) _ _ _ _
      cases h
      exact am_Go.rt htb rfl
    · intro rr26 he
      subst he
      cases h
      exact ⟨rfl, rfl, rfl, rfl⟩
  · rw [if_neg hc3] at h
    refine am_Go.c1 htb (S' := (20, [some (.inr (.inr (some (9, 0)))), none], [], am_mk r1.2)) (if_neg hc3) ?_
    refine am_Go.n htb 2 (S' := (23, [some (.inr (.inr (some (9, 0)))), none], [.inl (-6), .inr (.inr (some (9, 0)))], am_mk r1.2)) rfl ?_
    obtain ⟨r28, h29, h⟩ := am_bd h
    refine am_Go.cl htb rfl (ex_X9_told d (by omega) (-6) r1.2 r28 h29) ?_
    show am_Go d 122 (26, [some (.inr (.inr (some (9, 0)))), none], [.inl r28.1], am_mk r28.2) _ _ _ _
    cases h
    exact am_Go.rt htb rfl
-- X9_fault
set_option maxRecDepth 100000 in
theorem ex_X9_fault (d : Nat) (hd : 1 ≤ d)  (m : am_m) (t : Int32) (h : fn_X9_fault  m = some t) : am_Ex am_cod d 123 [.inr (.inr (some (9, 0)))] (am_mk m) (some (.inl t)) (am_mk m) 0 0 := by
  obtain ⟨d, rfl⟩ : ∃ e, d = e + 1 := ⟨d - 1, by omega⟩
  have htb : am_tab 123 = at_123 := rfl
  refine ⟨Nat.le_of_ble_eq_true rfl, ?_⟩
  unfold fn_X9_fault at h
  show am_Go d 123 (0, [some (.inr (.inr (some (9, 0))))], [], am_mk m) _ _ 0 0
  refine am_Go.n htb 3 (S' := (7, [some (.inr (.inr (some (9, 0))))], [.inl (m.1 4 0 10)], am_mk m)) rfl ?_
  cases h
  exact am_Go.rt htb rfl
-- X9_stopped
set_option maxRecDepth 100000 in
theorem ex_X9_stopped (d : Nat) (hd : 1 ≤ d)  (m : am_m) (t : Int32) (h : fn_X9_stopped  m = some t) : am_Ex am_cod d 124 [.inr (.inr (some (9, 0)))] (am_mk m) (some (.inl t)) (am_mk m) 0 0 := by
  obtain ⟨d, rfl⟩ : ∃ e, d = e + 1 := ⟨d - 1, by omega⟩
  have htb : am_tab 124 = at_124 := rfl
  refine ⟨Nat.le_of_ble_eq_true rfl, ?_⟩
  unfold fn_X9_stopped at h
  show am_Go d 124 (0, [some (.inr (.inr (some (9, 0))))], [], am_mk m) _ _ 0 0
  refine am_Go.n htb 2 (S' := (4, [some (.inr (.inr (some (9, 0))))], [.inl (m.1 9 0 16)], am_mk m)) rfl ?_
  cases h
  exact am_Go.rt htb rfl
-- X9_force
set_option maxRecDepth 100000 in
theorem ex_X9_force (d : Nat) (hd : 3 ≤ d) (a1 : Int32) (m : am_m) (t : Int32 × am_m) (h : fn_X9_force a1 m = some t) : am_Ex am_cod d 125 [.inr (.inr (some (9, 0))), .inl a1] (am_mk m) (some (.inl t.1)) (am_mk t.2) 0 0 := by
  obtain ⟨d, rfl⟩ : ∃ e, d = e + 1 := ⟨d - 1, by omega⟩
  have htb : am_tab 125 = at_125 := rfl
  refine ⟨Nat.le_of_ble_eq_true rfl, ?_⟩
  unfold fn_X9_force at h
  show am_Go d 125 (0, [some (.inr (.inr (some (9, 0)))), some (.inl a1), none], [], am_mk m) _ _ 0 0
  refine am_Go.n htb 3 (S' := (5, [some (.inr (.inr (some (9, 0)))), some (.inl a1), none], [.inl a1, .inr (.inr (some (8, 0)))], am_mk m)) rfl ?_
  obtain ⟨r1, h2, h⟩ := am_bd h
  refine am_Go.cl htb rfl (ex_X8_hasLaw d (by omega) 0 a1 m r1 h2) ?_
  show am_Go d 125 (8, [some (.inr (.inr (some (9, 0)))), some (.inl a1), none], [.inl r1], am_mk m) _ _ _ _
  by_cases hc3 : r1 ≠ 0
  · rw [if_pos hc3] at h
    refine am_Go.c1 htb (S' := (18, [some (.inr (.inr (some (9, 0)))), some (.inl a1), none], [], am_mk m)) (if_pos hc3) ?_
    refine am_Go.n htb 10 (S' := (36, [some (.inr (.inr (some (9, 0)))), some (.inl a1), some (.inl (m.1 8 0 3))], [.inl 0, .inr (.inr (some (9, 0)))], am_mk (am_si m 8 0 3 a1))) rfl ?_
    obtain ⟨r4, h5, h⟩ := am_bd h
    refine am_Go.cl htb rfl (ex_X9_told d (by omega) 0 (am_si m 8 0 3 a1) r4 h5) ?_
    show am_Go d 125 (39, [some (.inr (.inr (some (9, 0)))), some (.inl a1), some (.inl (m.1 8 0 3))], [.inl r4.1], am_mk r4.2) _ _ _ _
    refine am_Go.n htb 2 (S' := (41, [some (.inr (.inr (some (9, 0)))), some (.inl a1), some (.inl (m.1 8 0 3))], [.inl (m.1 8 0 3)], am_mk r4.2)) rfl ?_
    cases h
    exact am_Go.rt htb rfl
  · rw [if_neg hc3] at h
    refine am_Go.c1 htb (S' := (11, [some (.inr (.inr (some (9, 0)))), some (.inl a1), none], [], am_mk m)) (if_neg hc3) ?_
    refine am_Go.n htb 2 (S' := (14, [some (.inr (.inr (some (9, 0)))), some (.inl a1), none], [.inl (-2), .inr (.inr (some (9, 0)))], am_mk m)) rfl ?_
    obtain ⟨r6, h7, h⟩ := am_bd h
    refine am_Go.cl htb rfl (ex_X9_told d (by omega) (-2) m r6 h7) ?_
    show am_Go d 125 (17, [some (.inr (.inr (some (9, 0)))), some (.inl a1), none], [.inl r6.1], am_mk r6.2) _ _ _ _
    cases h
    exact am_Go.rt htb rfl
-- X9_harm
set_option maxRecDepth 100000 in
theorem ex_X9_harm (d : Nat) (hd : 5 ≤ d) (a1 : Int32) (a2 : Int32) (a3 : Int32) (m : am_m) (t : Int32 × am_m) (h : fn_X9_harm a1 a2 a3 m = some t) : am_Ex am_cod d 126 [.inr (.inr (some (9, 0))), .inl a1, .inl a2, .inl a3] (am_mk m) (some (.inl t.1)) (am_mk t.2) 0 0 := by
  obtain ⟨d, rfl⟩ : ∃ e, d = e + 1 := ⟨d - 1, by omega⟩
  have htb : am_tab 126 = at_126 := rfl
  refine ⟨Nat.le_of_ble_eq_true rfl, ?_⟩
  unfold fn_X9_harm at h
  show am_Go d 126 (0, [some (.inr (.inr (some (9, 0)))), some (.inl a1), some (.inl a2), some (.inl a3)], [], am_mk m) _ _ 0 0
  refine am_Go.n htb 5 (S' := (5, [some (.inr (.inr (some (9, 0)))), some (.inl a1), some (.inl a2), some (.inl a3)], [.inl a3, .inl a2, .inl a1, .inr (.inr (some (9, 0))), .inr (.inr (some (9, 0)))], am_mk m)) rfl ?_
  obtain ⟨r1, h2, h⟩ := am_bd h
  refine am_Go.cl htb rfl (ex_X9_doHarm d (by omega) a1 a2 a3 m r1 h2) ?_
  show am_Go d 126 (8, [some (.inr (.inr (some (9, 0)))), some (.inl a1), some (.inl a2), some (.inl a3)], [.inl r1.1, .inr (.inr (some (9, 0)))], am_mk r1.2) _ _ _ _
  obtain ⟨r3, h4, h⟩ := am_bd h
  refine am_Go.cl htb rfl (ex_X9_told d (by omega) r1.1 r1.2 r3 h4) ?_
  show am_Go d 126 (11, [some (.inr (.inr (some (9, 0)))), some (.inl a1), some (.inl a2), some (.inl a3)], [.inl r3.1], am_mk r3.2) _ _ _ _
  cases h
  exact am_Go.rt htb rfl
-- X9_feast
set_option maxRecDepth 100000 in
theorem ex_X9_feast (d : Nat) (hd : 7 ≤ d) (a1 : Int32) (m : am_m) (t : Int32 × am_m) (h : fn_X9_feast a1 m = some t) : am_Ex am_cod d 127 [.inr (.inr (some (9, 0))), .inl a1] (am_mk m) (some (.inl t.1)) (am_mk t.2) 0 0 := by
  obtain ⟨d, rfl⟩ : ∃ e, d = e + 1 := ⟨d - 1, by omega⟩
  have htb : am_tab 127 = at_127 := rfl
  refine ⟨Nat.le_of_ble_eq_true rfl, ?_⟩
  unfold fn_X9_feast at h
  show am_Go d 127 (0, [some (.inr (.inr (some (9, 0)))), some (.inl a1)], [], am_mk m) _ _ 0 0
  refine am_Go.n htb 1 (S' := (1, [some (.inr (.inr (some (9, 0)))), some (.inl a1)], [.inr (.inr (some (9, 0)))], am_mk m)) rfl ?_
  obtain ⟨r1, h2, h⟩ := am_bd h
  refine am_Go.cl htb rfl (ex_X9_askLive d (by omega)  m r1 h2) ?_
  show am_Go d 127 (4, [some (.inr (.inr (some (9, 0)))), some (.inl a1)], [], am_mk r1) _ _ _ _
  refine am_Go.n htb 3 (S' := (7, [some (.inr (.inr (some (9, 0)))), some (.inl a1)], [.inl a1, .inr (.inr (some (9, 0))), .inr (.inr (some (9, 0)))], am_mk r1)) rfl ?_
  obtain ⟨r3, h4, h⟩ := am_bd h
  refine am_Go.cl htb rfl (ex_X9_doFeast d (by omega) a1 r1 r3 h4) ?_
  show am_Go d 127 (10, [some (.inr (.inr (some (9, 0)))), some (.inl a1)], [.inl r3.1, .inr (.inr (some (9, 0)))], am_mk r3.2) _ _ _ _
  obtain ⟨r5, h6, h⟩ := am_bd h
  refine am_Go.cl htb rfl (ex_X9_told d (by omega) r3.1 r3.2 r5 h6) ?_
  show am_Go d 127 (13, [some (.inr (.inr (some (9, 0)))), some (.inl a1)], [.inl r5.1], am_mk r5.2) _ _ _ _
  cases h
  exact am_Go.rt htb rfl
-- X9_pardon
set_option maxRecDepth 100000 in
theorem ex_X9_pardon (d : Nat) (hd : 5 ≤ d) (a1 : Int32) (a2 : Int32) (m : am_m) (t : Int32 × am_m) (h : fn_X9_pardon a1 a2 m = some t) : am_Ex am_cod d 128 [.inr (.inr (some (9, 0))), .inl a1, .inl a2] (am_mk m) (some (.inl t.1)) (am_mk t.2) 0 0 := by
  obtain ⟨d, rfl⟩ : ∃ e, d = e + 1 := ⟨d - 1, by omega⟩
  have htb : am_tab 128 = at_128 := rfl
  refine ⟨Nat.le_of_ble_eq_true rfl, ?_⟩
  unfold fn_X9_pardon at h
  show am_Go d 128 (0, [some (.inr (.inr (some (9, 0)))), some (.inl a1), some (.inl a2)], [], am_mk m) _ _ 0 0
  refine am_Go.n htb 4 (S' := (4, [some (.inr (.inr (some (9, 0)))), some (.inl a1), some (.inl a2)], [.inl a2, .inl a1, .inr (.inr (some (9, 0))), .inr (.inr (some (9, 0)))], am_mk m)) rfl ?_
  obtain ⟨r1, h2, h⟩ := am_bd h
  refine am_Go.cl htb rfl (ex_X9_doPardon d (by omega) a1 a2 m r1 h2) ?_
  show am_Go d 128 (7, [some (.inr (.inr (some (9, 0)))), some (.inl a1), some (.inl a2)], [.inl r1.1, .inr (.inr (some (9, 0)))], am_mk r1.2) _ _ _ _
  obtain ⟨r3, h4, h⟩ := am_bd h
  refine am_Go.cl htb rfl (ex_X9_told d (by omega) r1.1 r1.2 r3 h4) ?_
  show am_Go d 128 (10, [some (.inr (.inr (some (9, 0)))), some (.inl a1), some (.inl a2)], [.inl r3.1], am_mk r3.2) _ _ _ _
  cases h
  exact am_Go.rt htb rfl
-- X9_pass
set_option maxRecDepth 100000 in
theorem ex_X9_pass (d : Nat) (hd : 7 ≤ d)  (m : am_m) (t : Int32 × am_m) (h : fn_X9_pass  m = some t) : am_Ex am_cod d 129 [.inr (.inr (some (9, 0)))] (am_mk m) (some (.inl t.1)) (am_mk t.2) 0 0 := by
  obtain ⟨d, rfl⟩ : ∃ e, d = e + 1 := ⟨d - 1, by omega⟩
  have htb : am_tab 129 = at_129 := rfl
  refine ⟨Nat.le_of_ble_eq_true rfl, ?_⟩
  unfold fn_X9_pass at h
  show am_Go d 129 (0, [some (.inr (.inr (some (9, 0))))], [], am_mk m) _ _ 0 0
  refine am_Go.n htb 1 (S' := (1, [some (.inr (.inr (some (9, 0))))], [.inr (.inr (some (9, 0)))], am_mk m)) rfl ?_
  obtain ⟨r1, h2, h⟩ := am_bd h
  refine am_Go.cl htb rfl (ex_X9_askLive d (by omega)  m r1 h2) ?_
  show am_Go d 129 (4, [some (.inr (.inr (some (9, 0))))], [], am_mk r1) _ _ _ _
  refine am_Go.n htb 2 (S' := (6, [some (.inr (.inr (some (9, 0))))], [.inr (.inr (some (9, 0))), .inr (.inr (some (9, 0)))], am_mk r1)) rfl ?_
  obtain ⟨r3, h4, h⟩ := am_bd h
  refine am_Go.cl htb rfl (ex_X9_doPass d (by omega)  r1 r3 h4) ?_
  show am_Go d 129 (9, [some (.inr (.inr (some (9, 0))))], [.inl r3.1, .inr (.inr (some (9, 0)))], am_mk r3.2) _ _ _ _
  obtain ⟨r5, h6, h⟩ := am_bd h
  refine am_Go.cl htb rfl (ex_X9_told d (by omega) r3.1 r3.2 r5 h6) ?_
  show am_Go d 129 (12, [some (.inr (.inr (some (9, 0))))], [.inl r5.1], am_mk r5.2) _ _ _ _
  cases h
  exact am_Go.rt htb rfl
-- X9_undo
set_option maxRecDepth 100000 in
theorem ex_X9_undo (d : Nat) (hd : 4 ≤ d)  (m : am_m) (t : Int32 × am_m) (h : fn_X9_undo  m = some t) : am_Ex am_cod d 130 [.inr (.inr (some (9, 0)))] (am_mk m) (some (.inl t.1)) (am_mk t.2) 0 0 := by
  obtain ⟨d, rfl⟩ : ∃ e, d = e + 1 := ⟨d - 1, by omega⟩
  have htb : am_tab 130 = at_130 := rfl
  refine ⟨Nat.le_of_ble_eq_true rfl, ?_⟩
  unfold fn_X9_undo at h
  show am_Go d 130 (0, [some (.inr (.inr (some (9, 0))))], [], am_mk m) _ _ 0 0
  refine am_Go.n htb 5 (S' := (9, [some (.inr (.inr (some (9, 0))))], [.inr (.inr (some (8, 0))), .inr (.inr (some (3, 0))), .inr (.inr (some (9, 0)))], am_mk m)) rfl ?_
  obtain ⟨r1, h2, h⟩ := am_bd h
  refine am_Go.cl htb rfl (ex_X3_undoLatest d (by omega) 0 0 m r1 h2) ?_
  show am_Go d 130 (12, [some (.inr (.inr (some (9, 0))))], [.inl r1.1, .inr (.inr (some (9, 0)))], am_mk r1.2) _ _ _ _
  obtain ⟨r3, h4, h⟩ := am_bd h
  refine am_Go.cl htb rfl (ex_X9_told d (by omega) r1.1 r1.2 r3 h4) ?_
  show am_Go d 130 (15, [some (.inr (.inr (some (9, 0))))], [.inl r3.1], am_mk r3.2) _ _ _ _
  cases h
  exact am_Go.rt htb rfl
-- X9_lookLive
set_option maxRecDepth 100000 in
theorem ex_X9_lookLive (d : Nat) (hd : 6 ≤ d)  (m : am_m) (t : am_m) (h : fn_X9_lookLive  m = some t) : am_Ex am_cod d 156 [.inr (.inr (some (9, 0)))] (am_mk m) (none) (am_mk t) 0 0 := by
  obtain ⟨d, rfl⟩ : ∃ e, d = e + 1 := ⟨d - 1, by omega⟩
  have htb : am_tab 156 = at_156 := rfl
  refine ⟨Nat.le_of_ble_eq_true rfl, ?_⟩
  unfold fn_X9_lookLive at h
  show am_Go d 156 (0, [some (.inr (.inr (some (9, 0))))], [], am_mk m) _ _ 0 0
  refine am_Go.n htb 1 (S' := (1, [some (.inr (.inr (some (9, 0))))], [.inr (.inr (some (9, 0)))], am_mk m)) rfl ?_
  obtain ⟨r1, h2, h⟩ := am_bd h
  refine am_Go.cl htb rfl (ex_X9_askLive d (by omega)  m r1 h2) ?_
  show am_Go d 156 (4, [some (.inr (.inr (some (9, 0))))], [], am_mk r1) _ _ _ _
  refine am_Go.n htb 4 (S' := (12, [some (.inr (.inr (some (9, 0))))], [.inr (.inr (some (1, 0))), .inr (.inr (some (6, 0)))], am_mk r1)) rfl ?_
  obtain ⟨r3, h4, h⟩ := am_bd h
  refine am_Go.cl htb rfl (ex_X6_lookAt d (by omega)  r1 r3 h4) ?_
  show am_Go d 156 (15, [some (.inr (.inr (some (9, 0))))], [], am_mk r3) _ _ _ _
  cases h
  exact am_Go.rt htb rfl
-- X9_sizeOrSet
set_option maxRecDepth 100000 in
theorem ex_X9_sizeOrSet (d : Nat) (hd : 2 ≤ d) (a1 : Int32) (a2 : Int32) (m : am_m) (t : Int32) (h : fn_X9_sizeOrSet a1 a2 m = some t) : am_Ex am_cod d 158 [.inl a1, .inl a2] (am_mk m) (some (.inl t)) (am_mk m) 0 0 := by
  obtain ⟨d, rfl⟩ : ∃ e, d = e + 1 := ⟨d - 1, by omega⟩
  have htb : am_tab 158 = at_158 := rfl
  refine ⟨Nat.le_of_ble_eq_true rfl, ?_⟩
  unfold fn_X9_sizeOrSet at h
  show am_Go d 158 (0, [some (.inl a1), some (.inl a2)], [], am_mk m) _ _ 0 0
  refine am_Go.n htb 1 (S' := (1, [some (.inl a1), some (.inl a2)], [.inl a2], am_mk m)) rfl ?_
  by_cases hs1 : a2 = 0
  · rw [if_pos hs1] at h
    refine am_Go.o htb (am_o_sw [(0, 28), (1, 33)] 35) rfl (S' := (28, [some (.inl a1), some (.inl a2)], [], am_mk m)) (am_sw_eq (by simp only [am_sw, if_pos hs1])) ?_
    refine am_Go.n htb 1 (S' := (29, [some (.inl a1), some (.inl a2)], [.inl a1], am_mk m)) rfl ?_
    obtain ⟨r2, h3, h⟩ := am_bd h
    refine am_Go.cl htb rfl (ex_J6_bitCount_0f7a4 d (by omega) a1 m r2 h3) ?_
    show am_Go d 158 (32, [some (.inl a1), some (.inl a2)], [.inl r2], am_mk m) _ _ _ _
    cases h
    exact am_Go.rt htb rfl
  · rw [if_neg hs1] at h
    by_cases hs4 : a2 = 1
    · rw [if_pos hs4] at h
      refine am_Go.o htb (am_o_sw [(0, 28), (1, 33)] 35) rfl (S' := (33, [some (.inl a1), some (.inl a2)], [], am_mk m)) (am_sw_eq (by simp only [am_sw, if_neg hs1, if_pos hs4])) ?_
      refine am_Go.n htb 1 (S' := (34, [some (.inl a1), some (.inl a2)], [.inl a1], am_mk m)) rfl ?_
      cases h
      exact am_Go.rt htb rfl
    · rw [if_neg hs4] at h
      refine am_Go.o htb (am_o_sw [(0, 28), (1, 33)] 35) rfl (S' := (35, [some (.inl a1), some (.inl a2)], [], am_mk m)) (am_sw_eq (by simp only [am_sw, if_neg hs1, if_neg hs4, if_false])) ?_
      refine am_Go.n htb 1 (S' := (36, [some (.inl a1), some (.inl a2)], [.inl (-1)], am_mk m)) rfl ?_
      cases h
      exact am_Go.rt htb rfl
-- X9_largest
set_option maxRecDepth 100000 in
theorem ex_X9_largest (d : Nat) (hd : 7 ≤ d) (a1 : Int32) (m : am_m) (t : Int32 × am_m) (h : fn_X9_largest a1 m = some t) : am_Ex am_cod d 131 [.inr (.inr (some (9, 0))), .inl a1] (am_mk m) (some (.inl t.1)) (am_mk t.2) 0 0 := by
  obtain ⟨d, rfl⟩ : ∃ e, d = e + 1 := ⟨d - 1, by omega⟩
  have htb : am_tab 131 = at_131 := rfl
  refine ⟨Nat.le_of_ble_eq_true rfl, ?_⟩
  unfold fn_X9_largest at h
  show am_Go d 131 (0, [some (.inr (.inr (some (9, 0)))), some (.inl a1), none], [], am_mk m) _ _ 0 0
  refine am_Go.n htb 1 (S' := (1, [some (.inr (.inr (some (9, 0)))), some (.inl a1), none], [.inr (.inr (some (9, 0)))], am_mk m)) rfl ?_
  obtain ⟨r1, h2, h⟩ := am_bd h
  refine am_Go.cl htb rfl (ex_X9_lookLive d (by omega)  m r1 h2) ?_
  show am_Go d 131 (4, [some (.inr (.inr (some (9, 0)))), some (.inl a1), none], [], am_mk r1) _ _ _ _
  refine am_Go.n htb 2 (S' := (8, [some (.inr (.inr (some (9, 0)))), some (.inl a1), none], [.inr (.inr (some (6, 0)))], am_mk r1)) rfl ?_
  obtain ⟨r3, h4, h⟩ := am_bd h
  refine am_Go.cl htb rfl (ex_X6_largestTable d (by omega)  r1 r3 h4) ?_
  show am_Go d 131 (11, [some (.inr (.inr (some (9, 0)))), some (.inl a1), none], [.inl r3], am_mk r1) _ _ _ _
  refine am_Go.n htb 2 (S' := (13, [some (.inr (.inr (some (9, 0)))), some (.inl a1), some (.inl r3)], [.inl r3], am_mk r1)) rfl ?_
  by_cases hc5 : r3 ≠ 0
  · rw [if_pos hc5] at h
    refine am_Go.c1 htb (S' := (18, [some (.inr (.inr (some (9, 0)))), some (.inl a1), some (.inl r3)], [], am_mk r1)) (if_pos hc5) ?_
    refine am_Go.n htb 2 (S' := (20, [some (.inr (.inr (some (9, 0)))), some (.inl a1), some (.inl r3)], [.inl a1, .inl r3], am_mk r1)) rfl ?_
    obtain ⟨r6, h7, h⟩ := am_bd h
    refine am_Go.cl htb rfl (ex_X9_sizeOrSet d (by omega) r3 a1 r1 r6 h7) ?_
    show am_Go d 131 (23, [some (.inr (.inr (some (9, 0)))), some (.inl a1), some (.inl r3)], [.inl r6], am_mk r1) _ _ _ _
    cases h
    exact am_Go.rt htb rfl
  · rw [if_neg hc5] at h
    refine am_Go.c1 htb (S' := (16, [some (.inr (.inr (some (9, 0)))), some (.inl a1), some (.inl r3)], [], am_mk r1)) (if_neg hc5) ?_
    refine am_Go.n htb 1 (S' := (17, [some (.inr (.inr (some (9, 0)))), some (.inl a1), some (.inl r3)], [.inl (-1)], am_mk r1)) rfl ?_
    cases h
    exact am_Go.rt htb rfl
-- X9_tables
set_option maxRecDepth 100000 in
theorem ex_X9_tables (d : Nat) (hd : 17 ≤ d) (a1 : Int32) (m : am_m) (t : Int32 × am_m) (h : fn_X9_tables a1 m = some t) : am_Ex am_cod d 132 [.inr (.inr (some (9, 0))), .inl a1] (am_mk m) (some (.inl t.1)) (am_mk t.2) 0 0 := by
  obtain ⟨d, rfl⟩ : ∃ e, d = e + 1 := ⟨d - 1, by omega⟩
  have htb : am_tab 132 = at_132 := rfl
  refine ⟨Nat.le_of_ble_eq_true rfl, ?_⟩
  unfold fn_X9_tables at h
  show am_Go d 132 (0, [some (.inr (.inr (some (9, 0)))), some (.inl a1)], [], am_mk m) _ _ 0 0
  refine am_Go.n htb 1 (S' := (1, [some (.inr (.inr (some (9, 0)))), some (.inl a1)], [.inr (.inr (some (9, 0)))], am_mk m)) rfl ?_
  obtain ⟨r1, h2, h⟩ := am_bd h
  refine am_Go.cl htb rfl (ex_X9_lookLive d (by omega)  m r1 h2) ?_
  show am_Go d 132 (4, [some (.inr (.inr (some (9, 0)))), some (.inl a1)], [], am_mk r1) _ _ _ _
  refine am_Go.n htb 4 (S' := (12, [some (.inr (.inr (some (9, 0)))), some (.inl a1)], [.inr (.inr (some (6, 0))), .inr (.inr (some (2, 0)))], am_mk r1)) rfl ?_
  obtain ⟨r3, h4, h⟩ := am_bd h
  refine am_Go.cl htb rfl (ex_X2_intoTables d (by omega)  r1 r3 h4) ?_
  show am_Go d 132 (15, [some (.inr (.inr (some (9, 0)))), some (.inl a1)], [], am_mk r3) _ _ _ _
  refine am_Go.n htb 3 (S' := (20, [some (.inr (.inr (some (9, 0)))), some (.inl a1)], [.inl a1, .inr (.inr (some (2, 0)))], am_mk r3)) rfl ?_
  obtain ⟨r5, h6, h⟩ := am_bd h
  refine am_Go.cl htb rfl (ex_X2_answer d (by omega) a1 r3 r5 h6) ?_
  show am_Go d 132 (23, [some (.inr (.inr (some (9, 0)))), some (.inl a1)], [.inl r5], am_mk r3) _ _ _ _
  cases h
  exact am_Go.rt htb rfl
-- X9_newHarms
set_option maxRecDepth 100000 in
theorem ex_X9_newHarms (d : Nat) (hd : 17 ≤ d) (a1 : Int32) (m : am_m) (t : Int32 × am_m) (h : fn_X9_newHarms a1 m = some t) : am_Ex am_cod d 133 [.inr (.inr (some (9, 0))), .inl a1] (am_mk m) (some (.inl t.1)) (am_mk t.2) 0 0 := by
  obtain ⟨d, rfl⟩ : ∃ e, d = e + 1 := ⟨d - 1, by omega⟩
  have htb : am_tab 133 = at_133 := rfl
  refine ⟨Nat.le_of_ble_eq_true rfl, ?_⟩
  unfold fn_X9_newHarms at h
  show am_Go d 133 (0, [some (.inr (.inr (some (9, 0)))), some (.inl a1)], [], am_mk m) _ _ 0 0
  refine am_Go.n htb 1 (S' := (1, [some (.inr (.inr (some (9, 0)))), some (.inl a1)], [.inr (.inr (some (9, 0)))], am_mk m)) rfl ?_
  obtain ⟨r1, h2, h⟩ := am_bd h
  refine am_Go.cl htb rfl (ex_X9_lookLive d (by omega)  m r1 h2) ?_
  show am_Go d 133 (4, [some (.inr (.inr (some (9, 0)))), some (.inl a1)], [], am_mk r1) _ _ _ _
  refine am_Go.n htb 4 (S' := (12, [some (.inr (.inr (some (9, 0)))), some (.inl a1)], [.inr (.inr (some (1, 0))), .inr (.inr (some (6, 0)))], am_mk r1)) rfl ?_
  obtain ⟨r3, h4, h⟩ := am_bd h
  refine am_Go.cl htb rfl (ex_X6_lookAtBars d (by omega)  r1 r3 h4) ?_
  show am_Go d 133 (15, [some (.inr (.inr (some (9, 0)))), some (.inl a1)], [], am_mk r3) _ _ _ _
  refine am_Go.n htb 4 (S' := (23, [some (.inr (.inr (some (9, 0)))), some (.inl a1)], [.inr (.inr (some (6, 0))), .inr (.inr (some (2, 0)))], am_mk r3)) rfl ?_
  obtain ⟨r5, h6, h⟩ := am_bd h
  refine am_Go.cl htb rfl (ex_X2_intoSets d (by omega)  r3 r5 h6) ?_
  show am_Go d 133 (26, [some (.inr (.inr (some (9, 0)))), some (.inl a1)], [], am_mk r5) _ _ _ _
  refine am_Go.n htb 3 (S' := (31, [some (.inr (.inr (some (9, 0)))), some (.inl a1)], [.inl a1, .inr (.inr (some (2, 0)))], am_mk r5)) rfl ?_
  obtain ⟨r7, h8, h⟩ := am_bd h
  refine am_Go.cl htb rfl (ex_X2_answer d (by omega) a1 r5 r7 h8) ?_
  show am_Go d 133 (34, [some (.inr (.inr (some (9, 0)))), some (.inl a1)], [.inl r7], am_mk r5) _ _ _ _
  cases h
  exact am_Go.rt htb rfl
-- X9_leftOut
set_option maxRecDepth 100000 in
theorem ex_X9_leftOut (d : Nat) (hd : 7 ≤ d) (a1 : Int32) (m : am_m) (t : Int32 × am_m) (h : fn_X9_leftOut a1 m = some t) : am_Ex am_cod d 134 [.inr (.inr (some (9, 0))), .inl a1] (am_mk m) (some (.inl t.1)) (am_mk t.2) 0 0 := by
  obtain ⟨d, rfl⟩ : ∃ e, d = e + 1 := ⟨d - 1, by omega⟩
  have htb : am_tab 134 = at_134 := rfl
  refine ⟨Nat.le_of_ble_eq_true rfl, ?_⟩
  unfold fn_X9_leftOut at h
  show am_Go d 134 (0, [some (.inr (.inr (some (9, 0)))), some (.inl a1)], [], am_mk m) _ _ 0 0
  refine am_Go.n htb 1 (S' := (1, [some (.inr (.inr (some (9, 0)))), some (.inl a1)], [.inr (.inr (some (9, 0)))], am_mk m)) rfl ?_
  obtain ⟨r1, h2, h⟩ := am_bd h
  refine am_Go.cl htb rfl (ex_X9_lookLive d (by omega)  m r1 h2) ?_
  show am_Go d 134 (4, [some (.inr (.inr (some (9, 0)))), some (.inl a1)], [], am_mk r1) _ _ _ _
  refine am_Go.n htb 2 (S' := (8, [some (.inr (.inr (some (9, 0)))), some (.inl a1)], [.inr (.inr (some (6, 0)))], am_mk r1)) rfl ?_
  obtain ⟨r3, h4, h⟩ := am_bd h
  refine am_Go.cl htb rfl (ex_X6_fewestOut d (by omega)  r1 r3 h4) ?_
  show am_Go d 134 (11, [some (.inr (.inr (some (9, 0)))), some (.inl a1)], [.inl r3.1], am_mk r3.2) _ _ _ _
  refine am_Go.n htb 1 (S' := (12, [some (.inr (.inr (some (9, 0)))), some (.inl a1)], [.inl a1, .inl r3.1], am_mk r3.2)) rfl ?_
  obtain ⟨r5, h6, h⟩ := am_bd h
  refine am_Go.cl htb rfl (ex_X9_sizeOrSet d (by omega) r3.1 a1 r3.2 r5 h6) ?_
  show am_Go d 134 (15, [some (.inr (.inr (some (9, 0)))), some (.inl a1)], [.inl r5], am_mk r3.2) _ _ _ _
  cases h
  exact am_Go.rt htb rfl
-- X9_mostHurt
set_option maxRecDepth 100000 in
theorem lt_X9_mostHurt_8 (d : Nat) (hd : 6 ≤ d + 1) {r : Option am_V} {M' : am_M} {kc ks : Nat} {n : Nat} {x1 : Int32} {x2 : Int32} {x3 : Int32} {x4 : Int32} {x5 : Int32} {m : am_m} {t : Int32 × am_m} (h : lp_X9_mostHurt_8 n x1 x2 x3 x4 x5 m = some t) (hk : am_Go d 166 (57, [some (.inr (.inr (some (9, 0)))), some (.inl x1), some (.inl x2), some (.inl t.1), none, none, none], [], am_mk t.2) r M' kc ks) : am_Go d 166 (8, [some (.inr (.inr (some (9, 0)))), some (.inl x1), some (.inl x2), some (.inl x3), some (.inl x4), some (.inl x5), none], [], am_mk m) r M' kc ks := by
  have htb : am_tab 166 = at_166 := rfl
  induction n generalizing x3 x4 x5 m with
  | zero => cases h
  | succ n ih =>
    unfold lp_X9_mostHurt_8 at h
    refine am_Go.n htb 2 (S' := (12, [some (.inr (.inr (some (9, 0)))), some (.inl x1), some (.inl x2), some (.inl x3), some (.inl x4), some (.inl x5), none], [.inl 7, .inl x5], am_mk m)) rfl ?_
    by_cases hc1 : (7 : Int32) ≤ x5
    · rw [if_pos hc1] at h
      refine am_Go.c1 htb (S' := (57, [some (.inr (.inr (some (9, 0)))), some (.inl x1), some (.inl x2), some (.inl x3), some (.inl x4), some (.inl x5), none], [], am_mk m)) (if_pos hc1) ?_
      cases h
      exact am_Go.fg (by exact ⟨rfl, ⟨rfl, ⟨rfl, ⟨rfl, trivial⟩⟩⟩⟩) hk
    · rw [if_neg hc1] at h
      refine am_Go.c1 htb (S' := (15, [some (.inr (.inr (some (9, 0)))), some (.inl x1), some (.inl x2), some (.inl x3), some (.inl x4), some (.inl x5), none], [], am_mk m)) (if_neg hc1) ?_
      refine am_Go.n htb 6 (S' := (22, [some (.inr (.inr (some (9, 0)))), some (.inl x1), some (.inl x2), some (.inl x3), some (.inl x4), some (.inl x5), none], [.inl 1, .inl ((x1 >>> (x5 &&& 31)) &&& (1 : Int32))], am_mk m)) rfl ?_
      obtain ⟨q6, h7, h⟩ := am_bd h
      refine am_Go.cut (S := (51, [some (.inr (.inr (some (9, 0)))), some (.inl x1), some (.inl x2), some (.inl q6.1), some (.inl q6.2.1), some (.inl x5), none], [], am_mk q6.2.2)) ?_ (fun key => ?_)
      · refine am_Go.n htb 2 (S' := (8, [some (.inr (.inr (some (9, 0)))), some (.inl x1), some (.inl x2), some (.inl q6.1), some (.inl q6.2.1), some (.inl (x5 + 1)), none], [], am_mk q6.2.2)) rfl ?_
        first | exact ih h | exact ih h hk
      · have h := h7
        by_cases hc2 : ((x1 >>> (x5 &&& 31)) &&& (1 : Int32)) ≠ (1 : Int32)
        · rw [if_pos hc2] at h
          refine am_Go.c1 htb (S' := (51, [some (.inr (.inr (some (9, 0)))), some (.inl x1), some (.inl x2), some (.inl x3), some (.inl x4), some (.inl x5), none], [], am_mk m)) (if_pos hc2) ?_
          cases h
          exact am_Go.fg (by exact ⟨rfl, ⟨rfl, ⟨rfl, ⟨rfl, ⟨rfl, ⟨rfl, trivial⟩⟩⟩⟩⟩⟩) key
        · rw [if_neg hc2] at h
          refine am_Go.c1 htb (S' := (25, [some (.inr (.inr (some (9, 0)))), some (.inl x1), some (.inl x2), some (.inl x3), some (.inl x4), some (.inl x5), none], [], am_mk m)) (if_neg hc2) ?_
          refine am_Go.n htb 4 (S' := (32, [some (.inr (.inr (some (9, 0)))), some (.inl x1), some (.inl x2), some (.inl x3), some (.inl x4), some (.inl x5), none], [.inl x2, .inl x5, .inr (.inr (some (1, 0)))], am_mk m)) rfl ?_
          obtain ⟨r3, h4, h⟩ := am_bd h
          refine am_Go.cl htb rfl (ex_X1_sufferedBy d (by omega) x5 x2 m r3 h4) ?_
          show am_Go d 166 (35, [some (.inr (.inr (some (9, 0)))), some (.inl x1), some (.inl x2), some (.inl x3), some (.inl x4), some (.inl x5), none], [.inl r3.1], am_mk r3.2) _ _ _ _
          refine am_Go.n htb 3 (S' := (41, [some (.inr (.inr (some (9, 0)))), some (.inl x1), some (.inl x2), some (.inl x3), some (.inl x4), some (.inl x5), some (.inl r3.1)], [.inl x4, .inl r3.1], am_mk r3.2)) rfl ?_
          by_cases hc5 : r3.1 ≤ x4
          · rw [if_pos hc5] at h
            refine am_Go.c1 htb (S' := (51, [some (.inr (.inr (some (9, 0)))), some (.inl x1), some (.inl x2), some (.inl x3), some (.inl x4), some (.inl x5), some (.inl r3.1)], [], am_mk r3.2)) (if_pos hc5) ?_
            cases h
            exact am_Go.fg (by exact ⟨rfl, ⟨rfl, ⟨rfl, ⟨rfl, ⟨rfl, ⟨rfl, trivial⟩⟩⟩⟩⟩⟩) key
          · rw [if_neg hc5] at h
            refine am_Go.c1 htb (S' := (44, [some (.inr (.inr (some (9, 0)))), some (.inl x1), some (.inl x2), some (.inl x3), some (.inl x4), some (.inl x5), some (.inl r3.1)], [], am_mk r3.2)) (if_neg hc5) ?_
            refine am_Go.n htb 4 (S' := (51, [some (.inr (.inr (some (9, 0)))), some (.inl x1), some (.inl x2), some (.inl x5), some (.inl r3.1), some (.inl x5), some (.inl r3.1)], [], am_mk r3.2)) rfl ?_
            cases h
            exact am_Go.fg (by exact ⟨rfl, ⟨rfl, ⟨rfl, ⟨rfl, ⟨rfl, ⟨rfl, trivial⟩⟩⟩⟩⟩⟩) key
set_option maxRecDepth 100000 in
theorem ex_X9_mostHurt (d : Nat) (hd : 6 ≤ d) (a1 : Int32) (a2 : Int32) (m : am_m) (t : Int32 × am_m) (h : fn_X9_mostHurt a1 a2 m = some t) : am_Ex am_cod d 166 [.inr (.inr (some (9, 0))), .inl a1, .inl a2] (am_mk m) (some (.inl t.1)) (am_mk t.2) 0 0 := by
  obtain ⟨d, rfl⟩ : ∃ e, d = e + 1 := ⟨d - 1, by omega⟩
  have htb : am_tab 166 = at_166 := rfl
  refine ⟨Nat.le_of_ble_eq_true rfl, ?_⟩
  unfold fn_X9_mostHurt at h
  show am_Go d 166 (0, [some (.inr (.inr (some (9, 0)))), some (.inl a1), some (.inl a2), none, none, none, none], [], am_mk m) _ _ 0 0
  refine am_Go.n htb 6 (S' := (8, [some (.inr (.inr (some (9, 0)))), some (.inl a1), some (.inl a2), some (.inl (-1)), some (.inl (-1)), some (.inl 0), none], [], am_mk m)) rfl ?_
  obtain ⟨q8, h9, h⟩ := am_bd h
  refine lt_X9_mostHurt_8 _ hd (h := h9) (hk := ?_)
  refine am_Go.n htb 1 (S' := (58, [some (.inr (.inr (some (9, 0)))), some (.inl a1), some (.inl a2), some (.inl q8.1), none, none, none], [.inl q8.1], am_mk q8.2)) rfl ?_
  cases h
  exact am_Go.rt htb rfl
