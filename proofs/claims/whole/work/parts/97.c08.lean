-- X5_mark
set_option maxRecDepth 100000 in
theorem ex_X5_mark (d : Nat) (hd : 1 ≤ d) (a0 : Nat) (a1 : Int32) (a2 : Int32) (m : am_m) (t : am_m) (h : fn_X5_mark a0 a1 a2 m = some t) : am_Ex am_cod d 62 [.inr (.inr (some (5, a0))), .inl a1, .inl a2] (am_mk m) (none) (am_mk t) 0 0 := by
  obtain ⟨d, rfl⟩ : ∃ e, d = e + 1 := ⟨d - 1, by omega⟩
  have htb : am_tab 62 = at_62 := rfl
  refine ⟨Nat.le_of_ble_eq_true rfl, ?_⟩
  unfold fn_X5_mark at h
  show am_Go d 62 (0, [some (.inr (.inr (some (5, a0)))), some (.inl a1), some (.inl a2), none], [], am_mk m) _ _ 0 0
  refine am_Go.n htb 11 (S' := (16, [some (.inr (.inr (some (5, a0)))), some (.inl a1), some (.inl a2), some (.inl ((((m.1 5 a0 2) - (1 : Int32)) * (6 : Int32)) + a1))], [.inl (m.1 5 a0 2)], am_mk m)) rfl ?_
  by_cases hc1 : (m.1 5 a0 2) ≤ 0
  · rw [if_pos hc1] at h
    refine am_Go.c1 htb (S' := (45, [some (.inr (.inr (some (5, a0)))), some (.inl a1), some (.inl a2), some (.inl ((((m.1 5 a0 2) - (1 : Int32)) * (6 : Int32)) + a1))], [], am_mk m)) (if_pos hc1) ?_
    cases h
    exact am_Go.rt htb rfl
  · rw [if_neg hc1] at h
    refine am_Go.c1 htb (S' := (19, [some (.inr (.inr (some (5, a0)))), some (.inl a1), some (.inl a2), some (.inl ((((m.1 5 a0 2) - (1 : Int32)) * (6 : Int32)) + a1))], [], am_mk m)) (if_neg hc1) ?_
    refine am_Go.n htb 1 (S' := (20, [some (.inr (.inr (some (5, a0)))), some (.inl a1), some (.inl a2), some (.inl ((((m.1 5 a0 2) - (1 : Int32)) * (6 : Int32)) + a1))], [.inl a1], am_mk m)) rfl ?_
    by_cases hc2 : a1 < 0
    · rw [if_pos hc2] at h
      refine am_Go.c1 htb (S' := (45, [some (.inr (.inr (some (5, a0)))), some (.inl a1), some (.inl a2), some (.inl ((((m.1 5 a0 2) - (1 : Int32)) * (6 : Int32)) + a1))], [], am_mk m)) (if_pos hc2) ?_
      cases h
      exact am_Go.rt htb rfl
    · rw [if_neg hc2] at h
      refine am_Go.c1 htb (S' := (23, [some (.inr (.inr (some (5, a0)))), some (.inl a1), some (.inl a2), some (.inl ((((m.1 5 a0 2) - (1 : Int32)) * (6 : Int32)) + a1))], [], am_mk m)) (if_neg hc2) ?_
      refine am_Go.n htb 2 (S' := (26, [some (.inr (.inr (some (5, a0)))), some (.inl a1), some (.inl a2), some (.inl ((((m.1 5 a0 2) - (1 : Int32)) * (6 : Int32)) + a1))], [.inl 6, .inl a1], am_mk m)) rfl ?_
      by_cases hc3 : (6 : Int32) ≤ a1
      · rw [if_pos hc3] at h
        refine am_Go.c1 htb (S' := (45, [some (.inr (.inr (some (5, a0)))), some (.inl a1), some (.inl a2), some (.inl ((((m.1 5 a0 2) - (1 : Int32)) * (6 : Int32)) + a1))], [], am_mk m)) (if_pos hc3) ?_
        cases h
        exact am_Go.rt htb rfl
      · rw [if_neg hc3] at h
        refine am_Go.c1 htb (S' := (29, [some (.inr (.inr (some (5, a0)))), some (.inl a1), some (.inl a2), some (.inl ((((m.1 5 a0 2) - (1 : Int32)) * (6 : Int32)) + a1))], [], am_mk m)) (if_neg hc3) ?_
        refine am_Go.n htb 4 (S' := (35, [some (.inr (.inr (some (5, a0)))), some (.inl a1), some (.inl a2), some (.inl ((((m.1 5 a0 2) - (1 : Int32)) * (6 : Int32)) + a1))], [.inl (Int32.ofNat (m.2.2.2.2.2.2.1 28 a0)), .inl ((((m.1 5 a0 2) - (1 : Int32)) * (6 : Int32)) + a1)], am_mk m)) rfl ?_
        by_cases hc4 : (Int32.ofNat (m.2.2.2.2.2.2.1 28 a0)) ≤ ((((m.1 5 a0 2) - (1 : Int32)) * (6 : Int32)) + a1)
        · rw [if_pos hc4] at h
          refine am_Go.c1 htb (S' := (45, [some (.inr (.inr (some (5, a0)))), some (.inl a1), some (.inl a2), some (.inl ((((m.1 5 a0 2) - (1 : Int32)) * (6 : Int32)) + a1))], [], am_mk m)) (if_pos hc4) ?_
          cases h
          exact am_Go.rt htb rfl
        · rw [if_neg hc4] at h
          refine am_Go.c1 htb (S' := (38, [some (.inr (.inr (some (5, a0)))), some (.inl a1), some (.inl a2), some (.inl ((((m.1 5 a0 2) - (1 : Int32)) * (6 : Int32)) + a1))], [], am_mk m)) (if_neg hc4) ?_
          refine am_Go.n htb 4 (S' := (44, [some (.inr (.inr (some (5, a0)))), some (.inl a1), some (.inl a2), some (.inl ((((m.1 5 a0 2) - (1 : Int32)) * (6 : Int32)) + a1))], [.inl a2, .inl ((((m.1 5 a0 2) - (1 : Int32)) * (6 : Int32)) + a1), .inr (.inr (some (28, a0)))], am_mk m)) rfl ?_
          obtain ⟨hg5, h⟩ := am_ck_some h
          refine am_Go.c1 htb (S' := (45, [some (.inr (.inr (some (5, a0)))), some (.inl a1), some (.inl a2), some (.inl ((((m.1 5 a0 2) - (1 : Int32)) * (6 : Int32)) + a1))], [], am_mk (am_si m 28 a0 ((((m.1 5 a0 2) - (1 : Int32)) * (6 : Int32)) + a1).toNatClampNeg a2))) (if_neg hg5) ?_
          cases h
          exact am_Go.rt htb rfl
-- X4_readTimes
set_option maxRecDepth 100000 in
theorem ex_X4_readTimes (d : Nat) (hd : 3 ≤ d)  (m : am_m) (t : Int32 × am_m) (h : fn_X4_readTimes  m = some t) : am_Ex am_cod d 48 [.inr (.inr (some (4, 0)))] (am_mk m) (some (.inl t.1)) (am_mk t.2) 0 0 := by
  obtain ⟨d, rfl⟩ : ∃ e, d = e + 1 := ⟨d - 1, by omega⟩
  have htb : am_tab 48 = at_48 := rfl
  refine ⟨Nat.le_of_ble_eq_true rfl, ?_⟩
  unfold fn_X4_readTimes at h
  show am_Go d 48 (0, [some (.inr (.inr (some (4, 0))))], [], am_mk m) _ _ 0 0
  refine am_Go.n htb 5 (S' := (7, [some (.inr (.inr (some (4, 0))))], [.inl ((m.1 4 0 5) + (1 : Int32)), .inr (.inr (some (4, 0)))], am_mk m)) rfl ?_
  obtain ⟨r1, h2, h⟩ := am_bd h
  refine am_Go.cl htb rfl (ex_X4_goTo d (by omega) ((m.1 4 0 5) + (1 : Int32)) m r1 h2) ?_
  show am_Go d 48 (10, [some (.inr (.inr (some (4, 0))))], [], am_mk r1) _ _ _ _
  refine am_Go.n htb 3 (S' := (17, [some (.inr (.inr (some (4, 0))))], [.inl 256, .inl (r1.1 4 0 6)], am_mk r1)) rfl ?_
  by_cases hc3 : (r1.1 4 0 6) ≠ (256 : Int32)
  · rw [if_pos hc3] at h
    refine am_Go.c1 htb (S' := (37, [some (.inr (.inr (some (4, 0))))], [], am_mk r1)) (if_pos hc3) ?_
    refine am_Go.n htb 1 (S' := (38, [some (.inr (.inr (some (4, 0))))], [.inr (.inr (some (4, 0)))], am_mk r1)) rfl ?_
    obtain ⟨r4, h5, h⟩ := am_bd h
    refine am_Go.cl htb rfl (ex_X4_failed d (by omega)  r1 r4 h5) ?_
    show am_Go d 48 (41, [some (.inr (.inr (some (4, 0))))], [.inl r4.1], am_mk r4.2) _ _ _ _
    obtain ⟨hz6, h⟩ := am_gd_some h
    cases h
    exact am_Go.rt htb (if_pos hz6)
  · rw [if_neg hc3] at h
    refine am_Go.c1 htb (S' := (20, [some (.inr (.inr (some (4, 0))))], [], am_mk r1)) (if_neg hc3) ?_
    refine am_Go.n htb 3 (S' := (25, [some (.inr (.inr (some (4, 0))))], [.inl 1, .inl (r1.1 4 0 7)], am_mk r1)) rfl ?_
    by_cases hc7 : (r1.1 4 0 7) < (1 : Int32)
    · rw [if_pos hc7] at h
      refine am_Go.c1 htb (S' := (37, [some (.inr (.inr (some (4, 0))))], [], am_mk r1)) (if_pos hc7) ?_
      refine am_Go.n htb 1 (S' := (38, [some (.inr (.inr (some (4, 0))))], [.inr (.inr (some (4, 0)))], am_mk r1)) rfl ?_
      obtain ⟨r8, h9, h⟩ := am_bd h
      refine am_Go.cl htb rfl (ex_X4_failed d (by omega)  r1 r8 h9) ?_
      show am_Go d 48 (41, [some (.inr (.inr (some (4, 0))))], [.inl r8.1], am_mk r8.2) _ _ _ _
      obtain ⟨hz10, h⟩ := am_gd_some h
      cases h
      exact am_Go.rt htb (if_pos hz10)
    · rw [if_neg hc7] at h
      refine am_Go.c1 htb (S' := (28, [some (.inr (.inr (some (4, 0))))], [], am_mk r1)) (if_neg hc7) ?_
      refine am_Go.n htb 3 (S' := (34, [some (.inr (.inr (some (4, 0))))], [.inl 20, .inl (r1.1 4 0 7)], am_mk r1)) rfl ?_
      by_cases hc11 : (r1.1 4 0 7) ≤ (20 : Int32)
      · rw [if_pos hc11] at h
        refine am_Go.c1 htb (S' := (42, [some (.inr (.inr (some (4, 0))))], [], am_mk r1)) (if_pos hc11) ?_
        refine am_Go.n htb 5 (S' := (51, [some (.inr (.inr (some (4, 0))))], [.inl (r1.1 4 0 7), .inl 1, .inr (.inr (some (5, 0)))], am_mk r1)) rfl ?_
        obtain ⟨r12, h13, h⟩ := am_bd h
        refine am_Go.cl htb rfl (ex_X5_mark d (by omega) 0 1 (r1.1 4 0 7) r1 r12 h13) ?_
        show am_Go d 48 (54, [some (.inr (.inr (some (4, 0))))], [], am_mk r12) _ _ _ _
        refine am_Go.n htb 5 (S' := (61, [some (.inr (.inr (some (4, 0))))], [.inl ((r12.1 4 0 5) + (1 : Int32)), .inr (.inr (some (4, 0)))], am_mk r12)) rfl ?_
        obtain ⟨r14, h15, h⟩ := am_bd h
        refine am_Go.cl htb rfl (ex_X4_goTo d (by omega) ((r12.1 4 0 5) + (1 : Int32)) r12 r14 h15) ?_
        show am_Go d 48 (64, [some (.inr (.inr (some (4, 0))))], [], am_mk r14) _ _ _ _
        refine am_Go.n htb 1 (S' := (65, [some (.inr (.inr (some (4, 0))))], [.inl 1], am_mk r14)) rfl ?_
        cases h
        exact am_Go.rt htb rfl
      · rw [if_neg hc11] at h
        refine am_Go.c1 htb (S' := (37, [some (.inr (.inr (some (4, 0))))], [], am_mk r1)) (if_neg hc11) ?_
        refine am_Go.n htb 1 (S' := (38, [some (.inr (.inr (some (4, 0))))], [.inr (.inr (some (4, 0)))], am_mk r1)) rfl ?_
        obtain ⟨r16, h17, h⟩ := am_bd h
        refine am_Go.cl htb rfl (ex_X4_failed d (by omega)  r1 r16 h17) ?_
        show am_Go d 48 (41, [some (.inr (.inr (some (4, 0))))], [.inl r16.1], am_mk r16.2) _ _ _ _
        obtain ⟨hz18, h⟩ := am_gd_some h
        cases h
        exact am_Go.rt htb (if_pos hz18)
-- X5_put
set_option maxRecDepth 100000 in
theorem ex_X5_put (d : Nat) (hd : 1 ≤ d) (a0 : Nat) (a1 : Int32) (a2 : Int32) (m : am_m) (t : am_m) (h : fn_X5_put a0 a1 a2 m = some t) : am_Ex am_cod d 63 [.inr (.inr (some (5, a0))), .inl a1, .inl a2] (am_mk m) (none) (am_mk t) 0 0 := by
  obtain ⟨d, rfl⟩ : ∃ e, d = e + 1 := ⟨d - 1, by omega⟩
  have htb : am_tab 63 = at_63 := rfl
  refine ⟨Nat.le_of_ble_eq_true rfl, ?_⟩
  unfold fn_X5_put at h
  show am_Go d 63 (0, [some (.inr (.inr (some (5, a0)))), some (.inl a1), some (.inl a2)], [], am_mk m) _ _ 0 0
  refine am_Go.n htb 5 (S' := (9, [some (.inr (.inr (some (5, a0)))), some (.inl a1), some (.inl a2)], [.inl (Int32.ofNat (m.2.2.2.2.2.2.1 29 a0)), .inl (m.1 5 a0 3)], am_mk m)) rfl ?_
  by_cases hc1 : (Int32.ofNat (m.2.2.2.2.2.2.1 29 a0)) ≤ (m.1 5 a0 3)
  · rw [if_pos hc1] at h
    refine am_Go.c1 htb (S' := (37, [some (.inr (.inr (some (5, a0)))), some (.inl a1), some (.inl a2)], [], am_mk m)) (if_pos hc1) ?_
    cases h
    exact am_Go.rt htb rfl
  · rw [if_neg hc1] at h
    refine am_Go.c1 htb (S' := (12, [some (.inr (.inr (some (5, a0)))), some (.inl a1), some (.inl a2)], [], am_mk m)) (if_neg hc1) ?_
    refine am_Go.n htb 9 (S' := (26, [some (.inr (.inr (some (5, a0)))), some (.inl a1), some (.inl a2)], [.inl ((a2 <<< ((9 : Int32) &&& 31)) ||| a1), .inl (m.1 5 a0 3), .inr (.inr (some (29, a0)))], am_mk m)) rfl ?_
    obtain ⟨hg2, h⟩ := am_ck_some h
    refine am_Go.c1 htb (S' := (27, [some (.inr (.inr (some (5, a0)))), some (.inl a1), some (.inl a2)], [], am_mk (am_si m 29 a0 (m.1 5 a0 3).toNatClampNeg ((a2 <<< ((9 : Int32) &&& 31)) ||| a1)))) (if_neg hg2) ?_
    refine am_Go.n htb 6 (S' := (37, [some (.inr (.inr (some (5, a0)))), some (.inl a1), some (.inl a2)], [], am_mk (am_si (am_si m 29 a0 (m.1 5 a0 3).toNatClampNeg ((a2 <<< ((9 : Int32) &&& 31)) ||| a1)) 5 a0 3 ((m.1 5 a0 3) + (1 : Int32))))) rfl ?_
    cases h
    exact am_Go.rt htb rfl
-- X4_readLawWord
set_option maxRecDepth 100000 in
theorem ex_X4_readLawWord (d : Nat) (hd : 3 ≤ d)  (m : am_m) (t : Int32 × am_m) (h : fn_X4_readLawWord  m = some t) : am_Ex am_cod d 56 [.inr (.inr (some (4, 0)))] (am_mk m) (some (.inl t.1)) (am_mk t.2) 0 0 := by
  obtain ⟨d, rfl⟩ : ∃ e, d = e + 1 := ⟨d - 1, by omega⟩
  have htb : am_tab 56 = at_56 := rfl
  refine ⟨Nat.le_of_ble_eq_true rfl, ?_⟩
  unfold fn_X4_readLawWord at h
  show am_Go d 56 (0, [some (.inr (.inr (some (4, 0))))], [], am_mk m) _ _ 0 0
  refine am_Go.n htb 3 (S' := (7, [some (.inr (.inr (some (4, 0))))], [.inl 274, .inl (m.1 4 0 6)], am_mk m)) rfl ?_
  by_cases hc1 : (m.1 4 0 6) < (274 : Int32)
  · rw [if_pos hc1] at h
    refine am_Go.c1 htb (S' := (20, [some (.inr (.inr (some (4, 0))))], [], am_mk m)) (if_pos hc1) ?_
    refine am_Go.n htb 1 (S' := (21, [some (.inr (.inr (some (4, 0))))], [.inr (.inr (some (4, 0)))], am_mk m)) rfl ?_
    obtain ⟨r2, h3, h⟩ := am_bd h
    refine am_Go.cl htb rfl (ex_X4_failed d (by omega)  m r2 h3) ?_
    show am_Go d 56 (24, [some (.inr (.inr (some (4, 0))))], [.inl r2.1], am_mk r2.2) _ _ _ _
    obtain ⟨hz4, h⟩ := am_gd_some h
    cases h
    exact am_Go.rt htb (if_pos hz4)
  · rw [if_neg hc1] at h
    refine am_Go.c1 htb (S' := (10, [some (.inr (.inr (some (4, 0))))], [], am_mk m)) (if_neg hc1) ?_
    refine am_Go.n htb 3 (S' := (17, [some (.inr (.inr (some (4, 0))))], [.inl 281, .inl (m.1 4 0 6)], am_mk m)) rfl ?_
    by_cases hc5 : (m.1 4 0 6) ≤ (281 : Int32)
    · rw [if_pos hc5] at h
      refine am_Go.c1 htb (S' := (25, [some (.inr (.inr (some (4, 0))))], [], am_mk m)) (if_pos hc5) ?_
      refine am_Go.n htb 7 (S' := (40, [some (.inr (.inr (some (4, 0))))], [.inl ((m.1 4 0 6) - (274 : Int32)), .inl 258, .inr (.inr (some (5, 0)))], am_mk m)) rfl ?_
      obtain ⟨r6, h7, h⟩ := am_bd h
      refine am_Go.cl htb rfl (ex_X5_put d (by omega) 0 258 ((m.1 4 0 6) - (274 : Int32)) m r6 h7) ?_
      show am_Go d 56 (43, [some (.inr (.inr (some (4, 0))))], [], am_mk r6) _ _ _ _
      refine am_Go.n htb 5 (S' := (50, [some (.inr (.inr (some (4, 0))))], [.inl ((r6.1 4 0 5) + (1 : Int32)), .inr (.inr (some (4, 0)))], am_mk r6)) rfl ?_
      obtain ⟨r8, h9, h⟩ := am_bd h
      refine am_Go.cl htb rfl (ex_X4_goTo d (by omega) ((r6.1 4 0 5) + (1 : Int32)) r6 r8 h9) ?_
      show am_Go d 56 (53, [some (.inr (.inr (some (4, 0))))], [], am_mk r8) _ _ _ _
      refine am_Go.n htb 1 (S' := (54, [some (.inr (.inr (some (4, 0))))], [.inl 1], am_mk r8)) rfl ?_
      cases h
      exact am_Go.rt htb rfl
    · rw [if_neg hc5] at h
      refine am_Go.c1 htb (S' := (20, [some (.inr (.inr (some (4, 0))))], [], am_mk m)) (if_neg hc5) ?_
      refine am_Go.n htb 1 (S' := (21, [some (.inr (.inr (some (4, 0))))], [.inr (.inr (some (4, 0)))], am_mk m)) rfl ?_
      obtain ⟨r10, h11, h⟩ := am_bd h
      refine am_Go.cl htb rfl (ex_X4_failed d (by omega)  m r10 h11) ?_
      show am_Go d 56 (24, [some (.inr (.inr (some (4, 0))))], [.inl r10.1], am_mk r10.2) _ _ _ _
      obtain ⟨hz12, h⟩ := am_gd_some h
      cases h
      exact am_Go.rt htb (if_pos hz12)
-- X4_readOrderWord
set_option maxHeartbeats 10000000 in
set_option maxRecDepth 100000 in
theorem ex_X4_readOrderWord (d : Nat) (hd : 3 ≤ d)  (m : am_m) (t : Int32 × am_m) (h : fn_X4_readOrderWord  m = some t) : am_Ex am_cod d 57 [.inr (.inr (some (4, 0)))] (am_mk m) (some (.inl t.1)) (am_mk t.2) 0 0 := by
  obtain ⟨d, rfl⟩ : ∃ e, d = e + 1 := ⟨d - 1, by omega⟩
  have htb : am_tab 57 = at_57 := rfl
  refine ⟨Nat.le_of_ble_eq_true rfl, ?_⟩
  unfold fn_X4_readOrderWord at h
  show am_Go d 57 (0, [some (.inr (.inr (some (4, 0)))), none], [], am_mk m) _ _ 0 0
  refine am_Go.n htb 5 (S' := (9, [some (.inr (.inr (some (4, 0)))), some (.inl (m.1 4 0 6))], [.inl 278, .inl (m.1 4 0 6)], am_mk m)) rfl ?_
  by_cases hc1 : (m.1 4 0 6) = (278 : Int32)
  · rw [if_pos hc1] at h
    refine am_Go.c1 htb (S' := (19, [some (.inr (.inr (some (4, 0)))), some (.inl (m.1 4 0 6))], [], am_mk m)) (if_pos hc1) ?_
    refine am_Go.n htb 5 (S' := (26, [some (.inr (.inr (some (4, 0)))), some (.inl (m.1 4 0 6))], [.inl ((m.1 4 0 5) + (1 : Int32)), .inr (.inr (some (4, 0)))], am_mk m)) rfl ?_
    obtain ⟨r2, h3, h⟩ := am_bd h
    refine am_Go.cl htb rfl (ex_X4_goTo d (by omega) ((m.1 4 0 5) + (1 : Int32)) m r2 h3) ?_
    show am_Go d 57 (29, [some (.inr (.inr (some (4, 0)))), some (.inl (m.1 4 0 6))], [], am_mk r2) _ _ _ _
    refine am_Go.n htb 3 (S' := (36, [some (.inr (.inr (some (4, 0)))), some (.inl (m.1 4 0 6))], [.inl 256, .inl (r2.1 4 0 6)], am_mk r2)) rfl ?_
    by_cases hc4 : (r2.1 4 0 6) ≠ (256 : Int32)
    · rw [if_pos hc4] at h
      refine am_Go.c1 htb (S' := (48, [some (.inr (.inr (some (4, 0)))), some (.inl (m.1 4 0 6))], [], am_mk r2)) (if_pos hc4) ?_
      refine am_Go.n htb 1 (S' := (49, [some (.inr (.inr (some (4, 0)))), some (.inl (m.1 4 0 6))], [.inr (.inr (some (4, 0)))], am_mk r2)) rfl ?_
      obtain ⟨r5, h6, h⟩ := am_bd h
      refine am_Go.cl htb rfl (ex_X4_failed d (by omega)  r2 r5 h6) ?_
      show am_Go d 57 (52, [some (.inr (.inr (some (4, 0)))), some (.inl (m.1 4 0 6))], [.inl r5.1], am_mk r5.2) _ _ _ _
      obtain ⟨hz7, h⟩ := am_gd_some h
      cases h
      exact am_Go.rt htb (if_pos hz7)
    · rw [if_neg hc4] at h
      refine am_Go.c1 htb (S' := (39, [some (.inr (.inr (some (4, 0)))), some (.inl (m.1 4 0 6))], [], am_mk r2)) (if_neg hc4) ?_
      refine am_Go.n htb 3 (S' := (45, [some (.inr (.inr (some (4, 0)))), some (.inl (m.1 4 0 6))], [.inl 7, .inl (r2.1 4 0 7)], am_mk r2)) rfl ?_
      by_cases hc8 : (r2.1 4 0 7) < (7 : Int32)
      · rw [if_pos hc8] at h
        refine am_Go.c1 htb (S' := (53, [some (.inr (.inr (some (4, 0)))), some (.inl (m.1 4 0 6))], [], am_mk r2)) (if_pos hc8) ?_
        refine am_Go.n htb 5 (S' := (64, [some (.inr (.inr (some (4, 0)))), some (.inl (m.1 4 0 6))], [.inl 286, .inl (m.1 4 0 6), .inl 258, .inr (.inr (some (5, 0)))], am_mk r2)) rfl ?_
        refine am_Go.cut (S := (73, [some (.inr (.inr (some (4, 0)))), some (.inl (m.1 4 0 6))], [.inl (if (m.1 4 0 6) ≠ (286 : Int32) then (5 : Int32) else (12 : Int32)), .inl 258, .inr (.inr (some (5, 0)))], am_mk r2)) ?_ (fun key => ?_)
        · refine am_Go.n htb 3 (S' := (78, [some (.inr (.inr (some (4, 0)))), some (.inl (m.1 4 0 6))], [.inl ((if (m.1 4 0 6) ≠ (286 : Int32) then (5 : Int32) else (12 : Int32)) + (r2.1 4 0 7)), .inl 258, .inr (.inr (some (5, 0)))], am_mk r2)) rfl ?_
          obtain ⟨r10, h11, h⟩ := am_bd h
          refine am_Go.cl htb rfl (ex_X5_put d (by omega) 0 258 ((if (m.1 4 0 6) ≠ (286 : Int32) then (5 : Int32) else (12 : Int32)) + (r2.1 4 0 7)) r2 r10 h11) ?_
          show am_Go d 57 (81, [some (.inr (.inr (some (4, 0)))), some (.inl (m.1 4 0 6))], [], am_mk r10) _ _ _ _
          refine am_Go.n htb 6 (S' := (93, [some (.inr (.inr (some (4, 0)))), some (.inl (m.1 4 0 6))], [.inl 286, .inl (m.1 4 0 6), .inl (r10.1 5 0 4), .inr (.inr (some (5, 0)))], am_mk r10)) rfl ?_
          refine am_Go.cut (S := (106, [some (.inr (.inr (some (4, 0)))), some (.inl (m.1 4 0 6))], [.inl (if (m.1 4 0 6) ≠ (286 : Int32) then (0 : Int32) else ((1 : Int32) <<< ((r10.1 4 0 7) &&& 31))), .inl (r10.1 5 0 4), .inr (.inr (some (5, 0)))], am_mk r10)) ?_ (fun key => ?_)
          · refine am_Go.n htb 8 (S' := (180, [some (.inr (.inr (some (4, 0)))), some (.inl (m.1 4 0 6))], [.inl ((r10.1 4 0 5) + (1 : Int32)), .inr (.inr (some (4, 0)))], am_mk (am_si r10 5 0 4 ((r10.1 5 0 4) ||| (if (m.1 4 0 6) ≠ (286 : Int32) then (0 : Int32) else ((1 : Int32) <<< ((r10.1 4 0 7) &&& 31))))))) rfl ?_
            obtain ⟨r13, h14, h⟩ := am_bd h
            refine am_Go.cl htb rfl (ex_X4_goTo d (by omega) ((r10.1 4 0 5) + (1 : Int32)) (am_si r10 5 0 4 ((r10.1 5 0 4) ||| (if (m.1 4 0 6) ≠ (286 : Int32) then (0 : Int32) else ((1 : Int32) <<< ((r10.1 4 0 7) &&& 31))))) r13 h14) ?_
            show am_Go d 57 (183, [some (.inr (.inr (some (4, 0)))), some (.inl (m.1 4 0 6))], [], am_mk r13) _ _ _ _
            refine am_Go.n htb 1 (S' := (184, [some (.inr (.inr (some (4, 0)))), some (.inl (m.1 4 0 6))], [.inl 1], am_mk r13)) rfl ?_
            cases h
            exact am_Go.rt htb rfl
          · by_cases hc12 : (m.1 4 0 6) ≠ (286 : Int32)
            · refine am_Go.c1 htb (S' := (105, [some (.inr (.inr (some (4, 0)))), some (.inl (m.1 4 0 6))], [.inl (r10.1 5 0 4), .inr (.inr (some (5, 0)))], am_mk r10)) (if_pos hc12) ?_
              refine am_Go.n htb 1 (S' := (106, [some (.inr (.inr (some (4, 0)))), some (.inl (m.1 4 0 6))], [.inl 0, .inl (r10.1 5 0 4), .inr (.inr (some (5, 0)))], am_mk r10)) rfl ?_
              simp only [if_pos hc12] at key
              exact am_Go.fg (by exact ⟨rfl, ⟨rfl, trivial⟩⟩) key
            · refine am_Go.c1 htb (S' := (96, [some (.inr (.inr (some (4, 0)))), some (.inl (m.1 4 0 6))], [.inl (r10.1 5 0 4), .inr (.inr (some (5, 0)))], am_mk r10)) (if_neg hc12) ?_
              refine am_Go.n htb 5 (S' := (106, [some (.inr (.inr (some (4, 0)))), some (.inl (m.1 4 0 6))], [.inl ((1 : Int32) <<< ((r10.1 4 0 7) &&& 31)), .inl (r10.1 5 0 4), .inr (.inr (some (5, 0)))], am_mk r10)) rfl ?_
              simp only [if_neg hc12] at key
              exact am_Go.fg (by exact ⟨rfl, ⟨rfl, trivial⟩⟩) key
        · by_cases hc9 : (m.1 4 0 6) ≠ (286 : Int32)
          · refine am_Go.c1 htb (S' := (72, [some (.inr (.inr (some (4, 0)))), some (.inl (m.1 4 0 6))], [.inl 258, .inr (.inr (some (5, 0)))], am_mk r2)) (if_pos hc9) ?_
            refine am_Go.n htb 1 (S' := (73, [some (.inr (.inr (some (4, 0)))), some (.inl (m.1 4 0 6))], [.inl 5, .inl 258, .inr (.inr (some (5, 0)))], am_mk r2)) rfl ?_
            simp only [if_pos hc9] at key
            exact am_Go.fg (by exact ⟨rfl, ⟨rfl, trivial⟩⟩) key
          · refine am_Go.c1 htb (S' := (67, [some (.inr (.inr (some (4, 0)))), some (.inl (m.1 4 0 6))], [.inl 258, .inr (.inr (some (5, 0)))], am_mk r2)) (if_neg hc9) ?_
            refine am_Go.n htb 2 (S' := (73, [some (.inr (.inr (some (4, 0)))), some (.inl (m.1 4 0 6))], [.inl 12, .inl 258, .inr (.inr (some (5, 0)))], am_mk r2)) rfl ?_
            simp only [if_neg hc9] at key
            exact am_Go.fg (by exact ⟨rfl, ⟨rfl, trivial⟩⟩) key
      · rw [if_neg hc8] at h
        refine am_Go.c1 htb (S' := (48, [some (.inr (.inr (some (4, 0)))), some (.inl (m.1 4 0 6))], [], am_mk r2)) (if_neg hc8) ?_
        refine am_Go.n htb 1 (S' := (49, [some (.inr (.inr (some (4, 0)))), some (.inl (m.1 4 0 6))], [.inr (.inr (some (4, 0)))], am_mk r2)) rfl ?_
        obtain ⟨r15, h16, h⟩ := am_bd h
        refine am_Go.cl htb rfl (ex_X4_failed d (by omega)  r2 r15 h16) ?_
        show am_Go d 57 (52, [some (.inr (.inr (some (4, 0)))), some (.inl (m.1 4 0 6))], [.inl r15.1], am_mk r15.2) _ _ _ _
        obtain ⟨hz17, h⟩ := am_gd_some h
        cases h
        exact am_Go.rt htb (if_pos hz17)
  · rw [if_neg hc1] at h
    refine am_Go.c1 htb (S' := (12, [some (.inr (.inr (some (4, 0)))), some (.inl (m.1 4 0 6))], [], am_mk m)) (if_neg hc1) ?_
    refine am_Go.n htb 2 (S' := (16, [some (.inr (.inr (some (4, 0)))), some (.inl (m.1 4 0 6))], [.inl 286, .inl (m.1 4 0 6)], am_mk m)) rfl ?_
    by_cases hc18 : (m.1 4 0 6) ≠ (286 : Int32)
    · rw [if_pos hc18] at h
      refine am_Go.c1 htb (S' := (113, [some (.inr (.inr (some (4, 0)))), some (.inl (m.1 4 0 6))], [], am_mk m)) (if_pos hc18) ?_
      refine am_Go.n htb 2 (S' := (117, [some (.inr (.inr (some (4, 0)))), some (.inl (m.1 4 0 6))], [.inl 280, .inl (m.1 4 0 6)], am_mk m)) rfl ?_
      by_cases hc19 : (m.1 4 0 6) ≠ (280 : Int32)
      · rw [if_pos hc19] at h
        refine am_Go.c1 htb (S' := (134, [some (.inr (.inr (some (4, 0)))), some (.inl (m.1 4 0 6))], [], am_mk m)) (if_pos hc19) ?_
        refine am_Go.n htb 2 (S' := (138, [some (.inr (.inr (some (4, 0)))), some (.inl (m.1 4 0 6))], [.inl 282, .inl (m.1 4 0 6)], am_mk m)) rfl ?_
        by_cases hc20 : (m.1 4 0 6) < (282 : Int32)
        · rw [if_pos hc20] at h
          refine am_Go.c1 htb (S' := (168, [some (.inr (.inr (some (4, 0)))), some (.inl (m.1 4 0 6))], [], am_mk m)) (if_pos hc20) ?_
          refine am_Go.n htb 1 (S' := (169, [some (.inr (.inr (some (4, 0)))), some (.inl (m.1 4 0 6))], [.inr (.inr (some (4, 0)))], am_mk m)) rfl ?_
          obtain ⟨r21, h22, h⟩ := am_bd h
          refine am_Go.cl htb rfl (ex_X4_failed d (by omega)  m r21 h22) ?_
          show am_Go d 57 (172, [some (.inr (.inr (some (4, 0)))), some (.inl (m.1 4 0 6))], [.inl r21.1], am_mk r21.2) _ _ _ _
          obtain ⟨hz23, h⟩ := am_gd_some h
          cases h
          exact am_Go.rt htb (if_pos hz23)
        · rw [if_neg hc20] at h
          refine am_Go.c1 htb (S' := (141, [some (.inr (.inr (some (4, 0)))), some (.inl (m.1 4 0 6))], [], am_mk m)) (if_neg hc20) ?_
          refine am_Go.n htb 2 (S' := (145, [some (.inr (.inr (some (4, 0)))), some (.inl (m.1 4 0 6))], [.inl 285, .inl (m.1 4 0 6)], am_mk m)) rfl ?_
          by_cases hc24 : (285 : Int32) < (m.1 4 0 6)
          · rw [if_pos hc24] at h
            refine am_Go.c1 htb (S' := (168, [some (.inr (.inr (some (4, 0)))), some (.inl (m.1 4 0 6))], [], am_mk m)) (if_pos hc24) ?_
            refine am_Go.n htb 1 (S' := (169, [some (.inr (.inr (some (4, 0)))), some (.inl (m.1 4 0 6))], [.inr (.inr (some (4, 0)))], am_mk m)) rfl ?_
            obtain ⟨r25, h26, h⟩ := am_bd h
            refine am_Go.cl htb rfl (ex_X4_failed d (by omega)  m r25 h26) ?_
            show am_Go d 57 (172, [some (.inr (.inr (some (4, 0)))), some (.inl (m.1 4 0 6))], [.inl r25.1], am_mk r25.2) _ _ _ _
            obtain ⟨hz27, h⟩ := am_gd_some h
            cases h
            exact am_Go.rt htb (if_pos hz27)
          · rw [if_neg hc24] at h
            refine am_Go.c1 htb (S' := (148, [some (.inr (.inr (some (4, 0)))), some (.inl (m.1 4 0 6))], [], am_mk m)) (if_neg hc24) ?_
            refine am_Go.n htb 8 (S' := (162, [some (.inr (.inr (some (4, 0)))), some (.inl (m.1 4 0 6))], [.inl (((1 : Int32) + (m.1 4 0 6)) - (282 : Int32)), .inl 258, .inr (.inr (some (5, 0)))], am_mk m)) rfl ?_
            obtain ⟨r28, h29, h⟩ := am_bd h
            refine am_Go.cl htb rfl (ex_X5_put d (by omega) 0 258 (((1 : Int32) + (m.1 4 0 6)) - (282 : Int32)) m r28 h29) ?_
            show am_Go d 57 (165, [some (.inr (.inr (some (4, 0)))), some (.inl (m.1 4 0 6))], [], am_mk r28) _ _ _ _
            refine am_Go.n htb 6 (S' := (180, [some (.inr (.inr (some (4, 0)))), some (.inl (m.1 4 0 6))], [.inl ((r28.1 4 0 5) + (1 : Int32)), .inr (.inr (some (4, 0)))], am_mk r28)) rfl ?_
            obtain ⟨r30, h31, h⟩ := am_bd h
            refine am_Go.cl htb rfl (ex_X4_goTo d (by omega) ((r28.1 4 0 5) + (1 : Int32)) r28 r30 h31) ?_
            show am_Go d 57 (183, [some (.inr (.inr (some (4, 0)))), some (.inl (m.1 4 0 6))], [], am_mk r30) _ _ _ _
            refine am_Go.n htb 1 (S' := (184, [some (.inr (.inr (some (4, 0)))), some (.inl (m.1 4 0 6))], [.inl 1], am_mk r30)) rfl ?_
            cases h
            exact am_Go.rt htb rfl
      · rw [if_neg hc19] at h
        refine am_Go.c1 htb (S' := (120, [some (.inr (.inr (some (4, 0)))), some (.inl (m.1 4 0 6))], [], am_mk m)) (if_neg hc19) ?_
        refine am_Go.n htb 4 (S' := (128, [some (.inr (.inr (some (4, 0)))), some (.inl (m.1 4 0 6))], [.inl 0, .inl 258, .inr (.inr (some (5, 0)))], am_mk m)) rfl ?_
        obtain ⟨r32, h33, h⟩ := am_bd h
        refine am_Go.cl htb rfl (ex_X5_put d (by omega) 0 258 0 m r32 h33) ?_
        show am_Go d 57 (131, [some (.inr (.inr (some (4, 0)))), some (.inl (m.1 4 0 6))], [], am_mk r32) _ _ _ _
        refine am_Go.n htb 6 (S' := (180, [some (.inr (.inr (some (4, 0)))), some (.inl (m.1 4 0 6))], [.inl ((r32.1 4 0 5) + (1 : Int32)), .inr (.inr (some (4, 0)))], am_mk r32)) rfl ?_
        obtain ⟨r34, h35, h⟩ := am_bd h
        refine am_Go.cl htb rfl (ex_X4_goTo d (by omega) ((r32.1 4 0 5) + (1 : Int32)) r32 r34 h35) ?_
        show am_Go d 57 (183, [some (.inr (.inr (some (4, 0)))), some (.inl (m.1 4 0 6))], [], am_mk r34) _ _ _ _
        refine am_Go.n htb 1 (S' := (184, [some (.inr (.inr (some (4, 0)))), some (.inl (m.1 4 0 6))], [.inl 1], am_mk r34)) rfl ?_
        cases h
        exact am_Go.rt htb rfl
    · rw [if_neg hc18] at h
      refine am_Go.c1 htb (S' := (19, [some (.inr (.inr (some (4, 0)))), some (.inl (m.1 4 0 6))], [], am_mk m)) (if_neg hc18) ?_
      refine am_Go.n htb 5 (S' := (26, [some (.inr (.inr (some (4, 0)))), some (.inl (m.1 4 0 6))], [.inl ((m.1 4 0 5) + (1 : Int32)), .inr (.inr (some (4, 0)))], am_mk m)) rfl ?_
      obtain ⟨r36, h37, h⟩ := am_bd h
      refine am_Go.cl htb rfl (ex_X4_goTo d (by omega) ((m.1 4 0 5) + (1 : Int32)) m r36 h37) ?_
      show am_Go d 57 (29, [some (.inr (.inr (some (4, 0)))), some (.inl (m.1 4 0 6))], [], am_mk r36) _ _ _ _
      refine am_Go.n htb 3 (S' := (36, [some (.inr (.inr (some (4, 0)))), some (.inl (m.1 4 0 6))], [.inl 256, .inl (r36.1 4 0 6)], am_mk r36)) rfl ?_
      by_cases hc38 : (r36.1 4 0 6) ≠ (256 : Int32)
      · rw [if_pos hc38] at h
        refine am_Go.c1 htb (S' := (48, [some (.inr (.inr (some (4, 0)))), some (.inl (m.1 4 0 6))], [], am_mk r36)) (if_pos hc38) ?_
        refine am_Go.n htb 1 (S' := (49, [some (.inr (.inr (some (4, 0)))), some (.inl (m.1 4 0 6))], [.inr (.inr (some (4, 0)))], am_mk r36)) rfl ?_
        obtain ⟨r39, h40, h⟩ := am_bd h
        refine am_Go.cl htb rfl (ex_X4_failed d (by omega)  r36 r39 h40) ?_
        show am_Go d 57 (52, [some (.inr (.inr (some (4, 0)))), some (.inl (m.1 4 0 6))], [.inl r39.1], am_mk r39.2) _ _ _ _
        obtain ⟨hz41, h⟩ := am_gd_some h
        cases h
        exact am_Go.rt htb (if_pos hz41)
      · rw [if_neg hc38] at h
        refine am_Go.c1 htb (S' := (39, [some (.inr (.inr (some (4, 0)))), some (.inl (m.1 4 0 6))], [], am_mk r36)) (if_neg hc38) ?_
        refine am_Go.n htb 3 (S' := (45, [some (.inr (.inr (some (4, 0)))), some (.inl (m.1 4 0 6))], [.inl 7, .inl (r36.1 4 0 7)], am_mk r36)) rfl ?_
        by_cases hc42 : (r36.1 4 0 7) < (7 : Int32)
        · rw [if_pos hc42] at h
          refine am_Go.c1 htb (S' := (53, [some (.inr (.inr (some (4, 0)))), some (.inl (m.1 4 0 6))], [], am_mk r36)) (if_pos hc42) ?_
          refine am_Go.n htb 5 (S' := (64, [some (.inr (.inr (some (4, 0)))), some (.inl (m.1 4 0 6))], [.inl 286, .inl (m.1 4 0 6), .inl 258, .inr (.inr (some (5, 0)))], am_mk r36)) rfl ?_
          refine am_Go.cut (S := (73, [some (.inr (.inr (some (4, 0)))), some (.inl (m.1 4 0 6))], [.inl (if (m.1 4 0 6) ≠ (286 : Int32) then (5 : Int32) else (12 : Int32)), .inl 258, .inr (.inr (some (5, 0)))], am_mk r36)) ?_ (fun key => ?_)
          · refine am_Go.n htb 3 (S' := (78, [some (.inr (.inr (some (4, 0)))), some (.inl (m.1 4 0 6))], [.inl ((if (m.1 4 0 6) ≠ (286 : Int32) then (5 : Int32) else (12 : Int32)) + (r36.1 4 0 7)), .inl 258, .inr (.inr (some (5, 0)))], am_mk r36)) rfl ?_
            obtain ⟨r44, h45, h⟩ := am_bd h
            refine am_Go.cl htb rfl (ex_X5_put d (by omega) 0 258 ((if (m.1 4 0 6) ≠ (286 : Int32) then (5 : Int32) else (12 : Int32)) + (r36.1 4 0 7)) r36 r44 h45) ?_
            show am_Go d 57 (81, [some (.inr (.inr (some (4, 0)))), some (.inl (m.1 4 0 6))], [], am_mk r44) _ _ _ _
            refine am_Go.n htb 6 (S' := (93, [some (.inr (.inr (some (4, 0)))), some (.inl (m.1 4 0 6))], [.inl 286, .inl (m.1 4 0 6), .inl (r44.1 5 0 4), .inr (.inr (some (5, 0)))], am_mk r44)) rfl ?_
            refine am_Go.cut (S := (106, [some (.inr (.inr (some (4, 0)))), some (.inl (m.1 4 0 6))], [.inl (if (m.1 4 0 6) ≠ (286 : Int32) then (0 : Int32) else ((1 : Int32) <<< ((r44.1 4 0 7) &&& 31))), .inl (r44.1 5 0 4), .inr (.inr (some (5, 0)))], am_mk r44)) ?_ (fun key => ?_)
            · refine am_Go.n htb 8 (S' := (180, [some (.inr (.inr (some (4, 0)))), some (.inl (m.1 4 0 6))], [.inl ((r44.1 4 0 5) + (1 : Int32)), .inr (.inr (some (4, 0)))], am_mk (am_si r44 5 0 4 ((r44.1 5 0 4) ||| (if (m.1 4 0 6) ≠ (286 : Int32) then (0 : Int32) else ((1 : Int32) <<< ((r44.1 4 0 7) &&& 31))))))) rfl ?_
              obtain ⟨r47, h48, h⟩ := am_bd h
              refine am_Go.cl htb rfl (ex_X4_goTo d (by omega) ((r44.1 4 0 5) + (1 : Int32)) (am_si r44 5 0 4 ((r44.1 5 0 4) ||| (if (m.1 4 0 6) ≠ (286 : Int32) then (0 : Int32) else ((1 : Int32) <<< ((r44.1 4 0 7) &&& 31))))) r47 h48) ?_
              show am_Go d 57 (183, [some (.inr (.inr (some (4, 0)))), some (.inl (m.1 4 0 6))], [], am_mk r47) _ _ _ _
              refine am_Go.n htb 1 (S' := (184, [some (.inr (.inr (some (4, 0)))), some (.inl (m.1 4 0 6))], [.inl 1], am_mk r47)) rfl ?_
              cases h
              exact am_Go.rt htb rfl
            · by_cases hc46 : (m.1 4 0 6) ≠ (286 : Int32)
              · refine am_Go.c1 htb (S' := (105, [some (.inr (.inr (some (4, 0)))), some (.inl (m.1 4 0 6))], [.inl (r44.1 5 0 4), .inr (.inr (some (5, 0)))], am_mk r44)) (if_pos hc46) ?_
                refine am_Go.n htb 1 (S' := (106, [some (.inr (.inr (some (4, 0)))), some (.inl (m.1 4 0 6))], [.inl 0, .inl (r44.1 5 0 4), .inr (.inr (some (5, 0)))], am_mk r44)) rfl ?_
                simp only [if_pos hc46] at key
                exact am_Go.fg (by exact ⟨rfl, ⟨rfl, trivial⟩⟩) key
              · refine am_Go.c1 htb (S' := (96, [some (.inr (.inr (some (4, 0)))), some (.inl (m.1 4 0 6))], [.inl (r44.1 5 0 4), .inr (.inr (some (5, 0)))], am_mk r44)) (if_neg hc46) ?_
                refine am_Go.n htb 5 (S' := (106, [some (.inr (.inr (some (4, 0)))), some (.inl (m.1 4 0 6))], [.inl ((1 : Int32) <<< ((r44.1 4 0 7) &&& 31)), .inl (r44.1 5 0 4), .inr (.inr (some (5, 0)))], am_mk r44)) rfl ?_
                simp only [if_neg hc46] at key
                exact am_Go.fg (by exact ⟨rfl, ⟨rfl, trivial⟩⟩) key
          · by_cases hc43 : (m.1 4 0 6) ≠ (286 : Int32)
            · refine am_Go.c1 htb (S' := (72, [some (.inr (.inr (some (4, 0)))), some (.inl (m.1 4 0 6))], [.inl 258, .inr (.inr (some (5, 0)))], am_mk r36)) (if_pos hc43) ?_
              refine am_Go.n htb 1 (S' := (73, [some (.inr (.inr (some (4, 0)))), some (.inl (m.1 4 0 6))], [.inl 5, .inl 258, .inr (.inr (some (5, 0)))], am_mk r36)) rfl ?_
              simp only [if_pos hc43] at key
              exact am_Go.fg (by exact ⟨rfl, ⟨rfl, trivial⟩⟩) key
            · refine am_Go.c1 htb (S' := (67, [some (.inr (.inr (some (4, 0)))), some (.inl (m.1 4 0 6))], [.inl 258, .inr (.inr (some (5, 0)))], am_mk r36)) (if_neg hc43) ?_
              refine am_Go.n htb 2 (S' := (73, [some (.inr (.inr (some (4, 0)))), some (.inl (m.1 4 0 6))], [.inl 12, .inl 258, .inr (.inr (some (5, 0)))], am_mk r36)) rfl ?_
              simp only [if_neg hc43] at key
              exact am_Go.fg (by exact ⟨rfl, ⟨rfl, trivial⟩⟩) key
        · rw [if_neg hc42] at h
          refine am_Go.c1 htb (S' := (48, [some (.inr (.inr (some (4, 0)))), some (.inl (m.1 4 0 6))], [], am_mk r36)) (if_neg hc42) ?_
          refine am_Go.n htb 1 (S' := (49, [some (.inr (.inr (some (4, 0)))), some (.inl (m.1 4 0 6))], [.inr (.inr (some (4, 0)))], am_mk r36)) rfl ?_
          obtain ⟨r49, h50, h⟩ := am_bd h
          refine am_Go.cl htb rfl (ex_X4_failed d (by omega)  r36 r49 h50) ?_
          show am_Go d 57 (52, [some (.inr (.inr (some (4, 0)))), some (.inl (m.1 4 0 6))], [.inl r49.1], am_mk r49.2) _ _ _ _
          obtain ⟨hz51, h⟩ := am_gd_some h
          cases h
          exact am_Go.rt htb (if_pos hz51)
