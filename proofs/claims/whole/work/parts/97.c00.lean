-- X0_begin
set_option maxRecDepth 100000 in
theorem ex_X0_begin (d : Nat) (hd : 1 ≤ d) (a1 : Int32) (m : am_m) (t : am_m) (h : fn_X0_begin a1 m = some t) : am_Ex am_cod d 1 [.inr (.inr (some (0, 0))), .inl a1] (am_mk m) (none) (am_mk t) 0 0 := by
  obtain ⟨d, rfl⟩ : ∃ e, d = e + 1 := ⟨d - 1, by omega⟩
  have htb : am_tab 1 = at_1 := rfl
  refine ⟨Nat.le_of_ble_eq_true rfl, ?_⟩
  unfold fn_X0_begin at h
  show am_Go d 1 (0, [some (.inr (.inr (some (0, 0)))), some (.inl a1)], [], am_mk m) _ _ 0 0
  refine am_Go.n htb 4 (S' := (6, [some (.inr (.inr (some (0, 0)))), some (.inl a1)], [], am_mk (am_sg m 0 0 0 a1.toInt64))) rfl ?_
  cases h
  exact am_Go.rt htb rfl
-- X0_next
set_option maxRecDepth 100000 in
theorem ex_X0_next (d : Nat) (hd : 1 ≤ d) (a1 : Int32) (m : am_m) (t : Int32 × am_m) (h : fn_X0_next a1 m = some t) : am_Ex am_cod d 2 [.inr (.inr (some (0, 0))), .inl a1] (am_mk m) (some (.inl t.1)) (am_mk t.2) 0 0 := by
  obtain ⟨d, rfl⟩ : ∃ e, d = e + 1 := ⟨d - 1, by omega⟩
  have htb : am_tab 2 = at_2 := rfl
  refine ⟨Nat.le_of_ble_eq_true rfl, ?_⟩
  unfold fn_X0_next at h
  show am_Go d 2 (0, [some (.inr (.inr (some (0, 0)))), some (.inl a1)], [], am_mk m) _ _ 0 0
  refine am_Go.n htb 8 (S' := (16, [some (.inr (.inr (some (0, 0)))), some (.inl a1)], [.inr (.inl 1000003), .inr (.inl (((m.2.1 0 0 0) * (1103 : Int64)) + (12345 : Int64))), .inr (.inr (some (0, 0)))], am_mk m)) rfl ?_
  refine am_Go.c1 htb (S' := (17, [some (.inr (.inr (some (0, 0)))), some (.inl a1)], [.inr (.inl ((((m.2.1 0 0 0) * (1103 : Int64)) + (12345 : Int64)) - (((m.2.1 0 0 0) * (1103 : Int64)) + (12345 : Int64)) / (1000003 : Int64) * (1000003 : Int64))), .inr (.inr (some (0, 0)))], am_mk m)) rfl ?_
  refine am_Go.n htb 2 (S' := (21, [some (.inr (.inr (some (0, 0)))), some (.inl a1)], [.inl a1], am_mk (am_sg m 0 0 0 ((((m.2.1 0 0 0) * (1103 : Int64)) + (12345 : Int64)) - (((m.2.1 0 0 0) * (1103 : Int64)) + (12345 : Int64)) / (1000003 : Int64) * (1000003 : Int64))))) rfl ?_
  by_cases hc1 : a1 ≤ 0
  · rw [if_pos hc1] at h
    refine am_Go.c1 htb (S' := (35, [some (.inr (.inr (some (0, 0)))), some (.inl a1)], [], am_mk (am_sg m 0 0 0 ((((m.2.1 0 0 0) * (1103 : Int64)) + (12345 : Int64)) - (((m.2.1 0 0 0) * (1103 : Int64)) + (12345 : Int64)) / (1000003 : Int64) * (1000003 : Int64))))) (if_pos hc1) ?_
    refine am_Go.n htb 1 (S' := (36, [some (.inr (.inr (some (0, 0)))), some (.inl a1)], [.inl 0], am_mk (am_sg m 0 0 0 ((((m.2.1 0 0 0) * (1103 : Int64)) + (12345 : Int64)) - (((m.2.1 0 0 0) * (1103 : Int64)) + (12345 : Int64)) / (1000003 : Int64) * (1000003 : Int64))))) rfl ?_
    cases h
    exact am_Go.rt htb rfl
  · rw [if_neg hc1] at h
    refine am_Go.c1 htb (S' := (24, [some (.inr (.inr (some (0, 0)))), some (.inl a1)], [], am_mk (am_sg m 0 0 0 ((((m.2.1 0 0 0) * (1103 : Int64)) + (12345 : Int64)) - (((m.2.1 0 0 0) * (1103 : Int64)) + (12345 : Int64)) / (1000003 : Int64) * (1000003 : Int64))))) (if_neg hc1) ?_
    refine am_Go.n htb 4 (S' := (30, [some (.inr (.inr (some (0, 0)))), some (.inl a1)], [.inr (.inl a1.toInt64), .inr (.inl ((((m.2.1 0 0 0) * (1103 : Int64)) + (12345 : Int64)) - (((m.2.1 0 0 0) * (1103 : Int64)) + (12345 : Int64)) / (1000003 : Int64) * (1000003 : Int64)))], am_mk (am_sg m 0 0 0 ((((m.2.1 0 0 0) * (1103 : Int64)) + (12345 : Int64)) - (((m.2.1 0 0 0) * (1103 : Int64)) + (12345 : Int64)) / (1000003 : Int64) * (1000003 : Int64))))) rfl ?_
    obtain ⟨hz2, h⟩ := am_gd_some h
    refine am_Go.c1 htb (S' := (31, [some (.inr (.inr (some (0, 0)))), some (.inl a1)], [.inr (.inl (((((m.2.1 0 0 0) * (1103 : Int64)) + (12345 : Int64)) - (((m.2.1 0 0 0) * (1103 : Int64)) + (12345 : Int64)) / (1000003 : Int64) * (1000003 : Int64)) - ((((m.2.1 0 0 0) * (1103 : Int64)) + (12345 : Int64)) - (((m.2.1 0 0 0) * (1103 : Int64)) + (12345 : Int64)) / (1000003 : Int64) * (1000003 : Int64)) / a1.toInt64 * a1.toInt64))], am_mk (am_sg m 0 0 0 ((((m.2.1 0 0 0) * (1103 : Int64)) + (12345 : Int64)) - (((m.2.1 0 0 0) * (1103 : Int64)) + (12345 : Int64)) / (1000003 : Int64) * (1000003 : Int64))))) (if_neg hz2) ?_
    refine am_Go.n htb 2 (S' := (36, [some (.inr (.inr (some (0, 0)))), some (.inl a1)], [.inl ((((((m.2.1 0 0 0) * (1103 : Int64)) + (12345 : Int64)) - (((m.2.1 0 0 0) * (1103 : Int64)) + (12345 : Int64)) / (1000003 : Int64) * (1000003 : Int64)) - ((((m.2.1 0 0 0) * (1103 : Int64)) + (12345 : Int64)) - (((m.2.1 0 0 0) * (1103 : Int64)) + (12345 : Int64)) / (1000003 : Int64) * (1000003 : Int64)) / a1.toInt64 * a1.toInt64).toInt32)], am_mk (am_sg m 0 0 0 ((((m.2.1 0 0 0) * (1103 : Int64)) + (12345 : Int64)) - (((m.2.1 0 0 0) * (1103 : Int64)) + (12345 : Int64)) / (1000003 : Int64) * (1000003 : Int64))))) rfl ?_
    cases h
    exact am_Go.rt htb rfl
-- X1_look
set_option maxRecDepth 100000 in
theorem ex_X1_look (d : Nat) (hd : 1 ≤ d) (a1 : Nat) (a2 : Option Nat) (m : am_m) (t : am_m) (h : fn_X1_look a1 a2 m = some t) : am_Ex am_cod d 4 [.inr (.inr (some (1, 0))), .inr (.inr (some (8, a1))), .inr (.inr (Option.map (fun j => (5, j)) a2))] (am_mk m) (none) (am_mk t) 0 0 := by
  obtain ⟨d, rfl⟩ : ∃ e, d = e + 1 := ⟨d - 1, by omega⟩
  have htb : am_tab 4 = at_4 := rfl
  refine ⟨Nat.le_of_ble_eq_true rfl, ?_⟩
  unfold fn_X1_look at h
  show am_Go d 4 (0, [some (.inr (.inr (some (1, 0)))), some (.inr (.inr (some (8, a1)))), some (.inr (.inr (Option.map (fun j => (5, j)) a2)))], [], am_mk m) _ _ 0 0
  refine am_Go.n htb 2 (S' := (2, [some (.inr (.inr (some (1, 0)))), some (.inr (.inr (some (8, a1)))), some (.inr (.inr (Option.map (fun j => (5, j)) a2)))], [.inr (.inr (some (8, a1))), .inr (.inr (some (1, 0)))], am_mk m)) rfl ?_
  refine am_Go.o htb (am_o_pf 1 0 11) rfl (S' := (5, [some (.inr (.inr (some (1, 0)))), some (.inr (.inr (some (8, a1)))), some (.inr (.inr (Option.map (fun j => (5, j)) a2)))], [], am_mk (am_sa m (some a1)))) (am_pfa (some a1)) ?_
  refine am_Go.n htb 2 (S' := (7, [some (.inr (.inr (some (1, 0)))), some (.inr (.inr (some (8, a1)))), some (.inr (.inr (Option.map (fun j => (5, j)) a2)))], [.inr (.inr (Option.map (fun j => (5, j)) a2)), .inr (.inr (some (1, 0)))], am_mk (am_sa m (some a1)))) rfl ?_
  refine am_Go.o htb (am_o_pf 1 1 8) rfl (S' := (10, [some (.inr (.inr (some (1, 0)))), some (.inr (.inr (some (8, a1)))), some (.inr (.inr (Option.map (fun j => (5, j)) a2)))], [], am_mk (am_sb (am_sa m (some a1)) a2))) (am_pfb a2) ?_
  cases h
  exact am_Go.rt htb rfl
-- X1_folks
set_option maxRecDepth 100000 in
theorem ex_X1_folks (d : Nat) (hd : 1 ≤ d)  (m : am_m) (t : Int32) (h : fn_X1_folks  m = some t) : am_Ex am_cod d 5 [.inr (.inr (some (1, 0)))] (am_mk m) (some (.inl t)) (am_mk m) 0 0 := by
  obtain ⟨d, rfl⟩ : ∃ e, d = e + 1 := ⟨d - 1, by omega⟩
  have htb : am_tab 5 = at_5 := rfl
  refine ⟨Nat.le_of_ble_eq_true rfl, ?_⟩
  unfold fn_X1_folks at h
  show am_Go d 5 (0, [some (.inr (.inr (some (1, 0))))], [], am_mk m) _ _ 0 0
  refine am_Go.n htb 1 (S' := (1, [some (.inr (.inr (some (1, 0))))], [.inr (.inr (some (1, 0)))], am_mk m)) rfl ?_
  obtain ⟨u1, hu2, h⟩ := am_bd h
  refine am_Go.o htb (am_o_gf 1 0 11) rfl (S' := (4, [some (.inr (.inr (some (1, 0))))], [.inr (.inr (some (8, u1)))], am_mk m)) (am_gfd hu2) ?_
  refine am_Go.n htb 1 (S' := (7, [some (.inr (.inr (some (1, 0))))], [.inl (m.1 8 u1 0)], am_mk m)) rfl ?_
  cases h
  exact am_Go.rt htb rfl
-- X1_knowOne
set_option maxRecDepth 100000 in
theorem ex_X1_knowOne (d : Nat) (hd : 1 ≤ d) (a1 : Int32) (a2 : Int32) (a3 : Int32) (a4 : Int32) (m : am_m) (t : am_m) (h : fn_X1_knowOne a1 a2 a3 a4 m = some t) : am_Ex am_cod d 16 [.inr (.inr (some (1, 0))), .inl a1, .inl a2, .inl a3, .inl a4] (am_mk m) (none) (am_mk t) 0 0 := by
  obtain ⟨d, rfl⟩ : ∃ e, d = e + 1 := ⟨d - 1, by omega⟩
  have htb : am_tab 16 = at_16 := rfl
  refine ⟨Nat.le_of_ble_eq_true rfl, ?_⟩
  unfold fn_X1_knowOne at h
  show am_Go d 16 (0, [some (.inr (.inr (some (1, 0)))), some (.inl a1), some (.inl a2), some (.inl a3), some (.inl a4)], [], am_mk m) _ _ 0 0
  refine am_Go.n htb 39 (S' := (58, [some (.inr (.inr (some (1, 0)))), some (.inl a1), some (.inl a2), some (.inl a3), some (.inl a4)], [.inr (.inr (some (1, 0))), .inl 7, .inr (.inr (some (20, 0)))], am_mk (am_si (am_si (am_si (am_si (am_si (am_si (am_si m 20 0 0 a1) 20 0 1 (-1)) 20 0 2 (-1)) 20 0 3 (-1)) 20 0 4 a2) 20 0 5 a3) 20 0 6 a4))) rfl ?_
  obtain ⟨u1, hu2, h⟩ := am_bd h
  refine am_Go.o htb (am_o_gf 1 0 11) rfl (S' := (61, [some (.inr (.inr (some (1, 0)))), some (.inl a1), some (.inl a2), some (.inl a3), some (.inl a4)], [.inr (.inr (some (8, u1))), .inl 7, .inr (.inr (some (20, 0)))], am_mk (am_si (am_si (am_si (am_si (am_si (am_si (am_si m 20 0 0 a1) 20 0 1 (-1)) 20 0 2 (-1)) 20 0 3 (-1)) 20 0 4 a2) 20 0 5 a3) 20 0 6 a4))) (am_gfd hu2) ?_
  refine am_Go.n htb 4 (S' := (67, [some (.inr (.inr (some (1, 0)))), some (.inl a1), some (.inl a2), some (.inl a3), some (.inl a4)], [], am_mk (am_si (am_si (am_si (am_si (am_si (am_si (am_si (am_si m 20 0 0 a1) 20 0 1 (-1)) 20 0 2 (-1)) 20 0 3 (-1)) 20 0 4 a2) 20 0 5 a3) 20 0 6 a4) 20 0 7 (m.1 39 u1 2)))) rfl ?_
  cases h
  exact am_Go.rt htb rfl
-- X8_hasTwo
set_option maxRecDepth 100000 in
theorem ex_X8_hasTwo (d : Nat) (hd : 1 ≤ d) (a0 : Nat) (a1 : Int32) (a2 : Int32) (m : am_m) (t : Int32) (h : fn_X8_hasTwo a0 a1 a2 m = some t) : am_Ex am_cod d 99 [.inr (.inr (some (8, a0))), .inl a1, .inl a2] (am_mk m) (some (.inl t)) (am_mk m) 0 0 := by
  obtain ⟨d, rfl⟩ : ∃ e, d = e + 1 := ⟨d - 1, by omega⟩
  have htb : am_tab 99 = at_99 := rfl
  refine ⟨Nat.le_of_ble_eq_true rfl, ?_⟩
  unfold fn_X8_hasTwo at h
  show am_Go d 99 (0, [some (.inr (.inr (some (8, a0)))), some (.inl a1), some (.inl a2)], [], am_mk m) _ _ 0 0
  refine am_Go.n htb 1 (S' := (1, [some (.inr (.inr (some (8, a0)))), some (.inl a1), some (.inl a2)], [.inl a1], am_mk m)) rfl ?_
  by_cases hc1 : a1 < 0
  · rw [if_pos hc1] at h
    refine am_Go.c1 htb (S' := (33, [some (.inr (.inr (some (8, a0)))), some (.inl a1), some (.inl a2)], [], am_mk m)) (if_pos hc1) ?_
    refine am_Go.n htb 1 (S' := (34, [some (.inr (.inr (some (8, a0)))), some (.inl a1), some (.inl a2)], [.inl 0], am_mk m)) rfl ?_
    cases h
    exact am_Go.rt htb rfl
  · rw [if_neg hc1] at h
    refine am_Go.c1 htb (S' := (4, [some (.inr (.inr (some (8, a0)))), some (.inl a1), some (.inl a2)], [], am_mk m)) (if_neg hc1) ?_
    refine am_Go.n htb 3 (S' := (9, [some (.inr (.inr (some (8, a0)))), some (.inl a1), some (.inl a2)], [.inl (m.1 8 a0 0), .inl a1], am_mk m)) rfl ?_
    by_cases hc2 : (m.1 8 a0 0) ≤ a1
    · rw [if_pos hc2] at h
      refine am_Go.c1 htb (S' := (33, [some (.inr (.inr (some (8, a0)))), some (.inl a1), some (.inl a2)], [], am_mk m)) (if_pos hc2) ?_
      refine am_Go.n htb 1 (S' := (34, [some (.inr (.inr (some (8, a0)))), some (.inl a1), some (.inl a2)], [.inl 0], am_mk m)) rfl ?_
      cases h
      exact am_Go.rt htb rfl
    · rw [if_neg hc2] at h
      refine am_Go.c1 htb (S' := (12, [some (.inr (.inr (some (8, a0)))), some (.inl a1), some (.inl a2)], [], am_mk m)) (if_neg hc2) ?_
      refine am_Go.n htb 1 (S' := (13, [some (.inr (.inr (some (8, a0)))), some (.inl a1), some (.inl a2)], [.inl a2], am_mk m)) rfl ?_
      by_cases hc3 : a2 < 0
      · rw [if_pos hc3] at h
        refine am_Go.c1 htb (S' := (33, [some (.inr (.inr (some (8, a0)))), some (.inl a1), some (.inl a2)], [], am_mk m)) (if_pos hc3) ?_
        refine am_Go.n htb 1 (S' := (34, [some (.inr (.inr (some (8, a0)))), some (.inl a1), some (.inl a2)], [.inl 0], am_mk m)) rfl ?_
        cases h
        exact am_Go.rt htb rfl
      · rw [if_neg hc3] at h
        refine am_Go.c1 htb (S' := (16, [some (.inr (.inr (some (8, a0)))), some (.inl a1), some (.inl a2)], [], am_mk m)) (if_neg hc3) ?_
        refine am_Go.n htb 3 (S' := (21, [some (.inr (.inr (some (8, a0)))), some (.inl a1), some (.inl a2)], [.inl (m.1 8 a0 0), .inl a2], am_mk m)) rfl ?_
        by_cases hc4 : (m.1 8 a0 0) ≤ a2
        · rw [if_pos hc4] at h
          refine am_Go.c1 htb (S' := (33, [some (.inr (.inr (some (8, a0)))), some (.inl a1), some (.inl a2)], [], am_mk m)) (if_pos hc4) ?_
          refine am_Go.n htb 1 (S' := (34, [some (.inr (.inr (some (8, a0)))), some (.inl a1), some (.inl a2)], [.inl 0], am_mk m)) rfl ?_
          cases h
          exact am_Go.rt htb rfl
        · rw [if_neg hc4] at h
          refine am_Go.c1 htb (S' := (24, [some (.inr (.inr (some (8, a0)))), some (.inl a1), some (.inl a2)], [], am_mk m)) (if_neg hc4) ?_
          refine am_Go.n htb 2 (S' := (26, [some (.inr (.inr (some (8, a0)))), some (.inl a1), some (.inl a2)], [.inl a2, .inl a1], am_mk m)) rfl ?_
          by_cases hc5 : a1 = a2
          · rw [if_pos hc5] at h
            refine am_Go.c1 htb (S' := (33, [some (.inr (.inr (some (8, a0)))), some (.inl a1), some (.inl a2)], [], am_mk m)) (if_pos hc5) ?_
            refine am_Go.n htb 1 (S' := (34, [some (.inr (.inr (some (8, a0)))), some (.inl a1), some (.inl a2)], [.inl 0], am_mk m)) rfl ?_
            cases h
            exact am_Go.rt htb rfl
          · rw [if_neg hc5] at h
            refine am_Go.c1 htb (S' := (29, [some (.inr (.inr (some (8, a0)))), some (.inl a1), some (.inl a2)], [], am_mk m)) (if_neg hc5) ?_
            refine am_Go.n htb 2 (S' := (34, [some (.inr (.inr (some (8, a0)))), some (.inl a1), some (.inl a2)], [.inl 1], am_mk m)) rfl ?_
            cases h
            exact am_Go.rt htb rfl
-- X1_knowTwo
set_option maxHeartbeats 10000000 in
set_option maxRecDepth 100000 in
theorem ex_X1_knowTwo (d : Nat) (hd : 2 ≤ d) (a1 : Int32) (a2 : Int32) (m : am_m) (t : am_m) (h : fn_X1_knowTwo a1 a2 m = some t) : am_Ex am_cod d 15 [.inr (.inr (some (1, 0))), .inl a1, .inl a2] (am_mk m) (none) (am_mk t) 0 0 := by
  obtain ⟨d, rfl⟩ : ∃ e, d = e + 1 := ⟨d - 1, by omega⟩
  have htb : am_tab 15 = at_15 := rfl
  refine ⟨Nat.le_of_ble_eq_true rfl, ?_⟩
  unfold fn_X1_knowTwo at h
  show am_Go d 15 (0, [some (.inr (.inr (some (1, 0)))), some (.inl a1), some (.inl a2), none, none, none], [], am_mk m) _ _ 0 0
  refine am_Go.n htb 1 (S' := (1, [some (.inr (.inr (some (1, 0)))), some (.inl a1), some (.inl a2), none, none, none], [.inr (.inr (some (1, 0)))], am_mk m)) rfl ?_
  obtain ⟨u1, hu2, h⟩ := am_bd h
  refine am_Go.o htb (am_o_gf 1 0 11) rfl (S' := (4, [some (.inr (.inr (some (1, 0)))), some (.inl a1), some (.inl a2), none, none, none], [.inr (.inr (some (8, u1)))], am_mk m)) (am_gfd hu2) ?_
  refine am_Go.n htb 2 (S' := (6, [some (.inr (.inr (some (1, 0)))), some (.inl a1), some (.inl a2), none, none, none], [.inl a2, .inl a1, .inr (.inr (some (8, u1)))], am_mk m)) rfl ?_
  obtain ⟨r3, h4, h⟩ := am_bd h
  refine am_Go.cl htb rfl (ex_X8_hasTwo d (by omega) u1 a1 a2 m r3 h4) ?_
  show am_Go d 15 (9, [some (.inr (.inr (some (1, 0)))), some (.inl a1), some (.inl a2), none, none, none], [.inl r3], am_mk m) _ _ _ _
  refine am_Go.n htb 2 (S' := (11, [some (.inr (.inr (some (1, 0)))), some (.inl a1), some (.inl a2), some (.inl r3), none, none], [.inl r3], am_mk m)) rfl ?_
  refine am_Go.cut (S := (24, [some (.inr (.inr (some (1, 0)))), some (.inl a1), some (.inl a2), some (.inl r3), none, none], [.inl (if r3 = 0 then (0 : Int32) else ((a1 * (7 : Int32)) + a2))], am_mk m)) ?_ (fun key => ?_)
  · refine am_Go.n htb 2 (S' := (27, [some (.inr (.inr (some (1, 0)))), some (.inl a1), some (.inl a2), some (.inl r3), some (.inl (if r3 = 0 then (0 : Int32) else ((a1 * (7 : Int32)) + a2))), none], [.inl r3], am_mk m)) rfl ?_
    obtain ⟨q10, h29, h⟩ := am_bd h
    refine am_Go.cut (S := (44, [some (.inr (.inr (some (1, 0)))), some (.inl a1), some (.inl a2), some (.inl r3), some (.inl (if r3 = 0 then (0 : Int32) else ((a1 * (7 : Int32)) + a2))), none], [.inl q10], am_mk m)) ?_ (fun key => ?_)
    · refine am_Go.n htb 4 (S' := (49, [some (.inr (.inr (some (1, 0)))), some (.inl a1), some (.inl a2), some (.inl r3), some (.inl (if r3 = 0 then (0 : Int32) else ((a1 * (7 : Int32)) + a2))), some (.inl q10)], [.inl r3, .inl a1, .inr (.inr (some (1, 0)))], am_mk m)) rfl ?_
      obtain ⟨q15, h28, h⟩ := am_bd h
      refine am_Go.cut (S := (65, [some (.inr (.inr (some (1, 0)))), some (.inl a1), some (.inl a2), some (.inl r3), some (.inl (if r3 = 0 then (0 : Int32) else ((a1 * (7 : Int32)) + a2))), some (.inl q10)], [.inl q15, .inl a1, .inr (.inr (some (1, 0)))], am_mk m)) ?_ (fun key => ?_)
      · refine am_Go.n htb 2 (S' := (67, [some (.inr (.inr (some (1, 0)))), some (.inl a1), some (.inl a2), some (.inl r3), some (.inl (if r3 = 0 then (0 : Int32) else ((a1 * (7 : Int32)) + a2))), some (.inl q10)], [.inr (.inr (some (1, 0))), .inl (-1), .inl q15, .inl a1, .inr (.inr (some (1, 0)))], am_mk m)) rfl ?_
        obtain ⟨u16, hu17, h⟩ := am_bd h
        refine am_Go.o htb (am_o_gf 1 0 11) rfl (S' := (70, [some (.inr (.inr (some (1, 0)))), some (.inl a1), some (.inl a2), some (.inl r3), some (.inl (if r3 = 0 then (0 : Int32) else ((a1 * (7 : Int32)) + a2))), some (.inl q10)], [.inr (.inr (some (8, u16))), .inl (-1), .inl q15, .inl a1, .inr (.inr (some (1, 0)))], am_mk m)) (am_gfd hu17) ?_
        refine am_Go.n htb 3 (S' := (75, [some (.inr (.inr (some (1, 0)))), some (.inl a1), some (.inl a2), some (.inl r3), some (.inl (if r3 = 0 then (0 : Int32) else ((a1 * (7 : Int32)) + a2))), some (.inl q10)], [.inl (m.1 39 u16 0), .inl (-1), .inl q15, .inl a1, .inr (.inr (some (1, 0)))], am_mk m)) rfl ?_
        obtain ⟨r18, h19, h⟩ := am_bd h
        refine am_Go.cl htb rfl (ex_X1_knowOne d (by omega) a1 q15 (-1) (m.1 39 u16 0) m r18 h19) ?_
        show am_Go d 15 (78, [some (.inr (.inr (some (1, 0)))), some (.inl a1), some (.inl a2), some (.inl r3), some (.inl (if r3 = 0 then (0 : Int32) else ((a1 * (7 : Int32)) + a2))), some (.inl q10)], [], am_mk r18) _ _ _ _
        refine am_Go.n htb 14 (S' := (100, [some (.inr (.inr (some (1, 0)))), some (.inl a1), some (.inl a2), some (.inl r3), some (.inl (if r3 = 0 then (0 : Int32) else ((a1 * (7 : Int32)) + a2))), some (.inl q10)], [.inl q10, .inl 3, .inr (.inr (some (20, 0)))], am_mk (am_si (am_si r18 20 0 1 a2) 20 0 2 q10))) rfl ?_
        obtain ⟨q26, h27, h⟩ := am_bd h
        refine am_Go.cut (S := (127, [some (.inr (.inr (some (1, 0)))), some (.inl a1), some (.inl a2), some (.inl r3), some (.inl (if r3 = 0 then (0 : Int32) else ((a1 * (7 : Int32)) + a2))), some (.inl q10)], [.inl q26, .inl 3, .inr (.inr (some (20, 0)))], am_mk (am_si (am_si r18 20 0 1 a2) 20 0 2 q10))) ?_ (fun key => ?_)
        · refine am_Go.n htb 1 (S' := (128, [some (.inr (.inr (some (1, 0)))), some (.inl a1), some (.inl a2), some (.inl r3), some (.inl (if r3 = 0 then (0 : Int32) else ((a1 * (7 : Int32)) + a2))), some (.inl q10)], [], am_mk (am_si (am_si (am_si r18 20 0 1 a2) 20 0 2 q10) 20 0 3 q26))) rfl ?_
          cases h
          exact am_Go.rt htb rfl
        · have h := h27
          by_cases hc20 : q10 ≤ 0
          · rw [if_pos hc20] at h
            refine am_Go.c1 htb (S' := (126, [some (.inr (.inr (some (1, 0)))), some (.inl a1), some (.inl a2), some (.inl r3), some (.inl (if r3 = 0 then (0 : Int32) else ((a1 * (7 : Int32)) + a2))), some (.inl q10)], [.inl 3, .inr (.inr (some (20, 0)))], am_mk (am_si (am_si r18 20 0 1 a2) 20 0 2 q10))) (if_pos hc20) ?_
            refine am_Go.n htb 1 (S' := (127, [some (.inr (.inr (some (1, 0)))), some (.inl a1), some (.inl a2), some (.inl r3), some (.inl (if r3 = 0 then (0 : Int32) else ((a1 * (7 : Int32)) + a2))), some (.inl q10)], [.inl (-1), .inl 3, .inr (.inr (some (20, 0)))], am_mk (am_si (am_si r18 20 0 1 a2) 20 0 2 q10))) rfl ?_
            cases h
            exact am_Go.fg (by exact ⟨rfl, ⟨rfl, ⟨rfl, ⟨rfl, ⟨rfl, ⟨rfl, trivial⟩⟩⟩⟩⟩⟩) key
          · rw [if_neg hc20] at h
            refine am_Go.c1 htb (S' := (103, [some (.inr (.inr (some (1, 0)))), some (.inl a1), some (.inl a2), some (.inl r3), some (.inl (if r3 = 0 then (0 : Int32) else ((a1 * (7 : Int32)) + a2))), some (.inl q10)], [.inl 3, .inr (.inr (some (20, 0)))], am_mk (am_si (am_si r18 20 0 1 a2) 20 0 2 q10))) (if_neg hc20) ?_
            refine am_Go.n htb 1 (S' := (104, [some (.inr (.inr (some (1, 0)))), some (.inl a1), some (.inl a2), some (.inl r3), some (.inl (if r3 = 0 then (0 : Int32) else ((a1 * (7 : Int32)) + a2))), some (.inl q10)], [.inr (.inr (some (1, 0))), .inl 3, .inr (.inr (some (20, 0)))], am_mk (am_si (am_si r18 20 0 1 a2) 20 0 2 q10))) rfl ?_
            obtain ⟨u21, hu22, h⟩ := am_bd h
            refine am_Go.o htb (am_o_gf 1 0 11) rfl (S' := (107, [some (.inr (.inr (some (1, 0)))), some (.inl a1), some (.inl a2), some (.inl r3), some (.inl (if r3 = 0 then (0 : Int32) else ((a1 * (7 : Int32)) + a2))), some (.inl q10)], [.inr (.inr (some (8, u21))), .inl 3, .inr (.inr (some (20, 0)))], am_mk (am_si (am_si r18 20 0 1 a2) 20 0 2 q10))) (am_gfd hu22) ?_
            refine am_Go.n htb 4 (S' := (113, [some (.inr (.inr (some (1, 0)))), some (.inl a1), some (.inl a2), some (.inl r3), some (.inl (if r3 = 0 then (0 : Int32) else ((a1 * (7 : Int32)) + a2))), some (.inl q10)], [.inr (.inr (some (1, 0))), .inl (r18.1 39 u21 0), .inl 3, .inr (.inr (some (20, 0)))], am_mk (am_si (am_si r18 20 0 1 a2) 20 0 2 q10))) rfl ?_
            obtain ⟨u23, hu24, h⟩ := am_bd h
            refine am_Go.o htb (am_o_gf 1 0 11) rfl (S' := (116, [some (.inr (.inr (some (1, 0)))), some (.inl a1), some (.inl a2), some (.inl r3), some (.inl (if r3 = 0 then (0 : Int32) else ((a1 * (7 : Int32)) + a2))), some (.inl q10)], [.inr (.inr (some (8, u23))), .inl (r18.1 39 u21 0), .inl 3, .inr (.inr (some (20, 0)))], am_mk (am_si (am_si r18 20 0 1 a2) 20 0 2 q10))) (am_gfd hu24) ?_
            refine am_Go.n htb 2 (S' := (121, [some (.inr (.inr (some (1, 0)))), some (.inl a1), some (.inl a2), some (.inl r3), some (.inl (if r3 = 0 then (0 : Int32) else ((a1 * (7 : Int32)) + a2))), some (.inl q10)], [.inl (if r3 = 0 then (0 : Int32) else ((a1 * (7 : Int32)) + a2)), .inr (.inr (some (38, u23))), .inl (r18.1 39 u21 0), .inl 3, .inr (.inr (some (20, 0)))], am_mk (am_si (am_si r18 20 0 1 a2) 20 0 2 q10))) rfl ?_
            obtain ⟨hg25, h⟩ := am_ck_some h
            refine am_Go.c1 htb (S' := (122, [some (.inr (.inr (some (1, 0)))), some (.inl a1), some (.inl a2), some (.inl r3), some (.inl (if r3 = 0 then (0 : Int32) else ((a1 * (7 : Int32)) + a2))), some (.inl q10)], [.inl (r18.1 38 u23 (if r3 = 0 then (0 : Int32) else ((a1 * (7 : Int32)) + a2)).toNatClampNeg), .inl (r18.1 39 u21 0), .inl 3, .inr (.inr (some (20, 0)))], am_mk (am_si (am_si r18 20 0 1 a2) 20 0 2 q10))) (if_neg hg25) ?_
            refine am_Go.n htb 2 (S' := (127, [some (.inr (.inr (some (1, 0)))), some (.inl a1), some (.inl a2), some (.inl r3), some (.inl (if r3 = 0 then (0 : Int32) else ((a1 * (7 : Int32)) + a2))), some (.inl q10)], [.inl ((r18.1 39 u21 0) - (r18.1 38 u23 (if r3 = 0 then (0 : Int32) else ((a1 * (7 : Int32)) + a2)).toNatClampNeg)), .inl 3, .inr (.inr (some (20, 0)))], am_mk (am_si (am_si r18 20 0 1 a2) 20 0 2 q10))) rfl ?_
            cases h
            exact am_Go.fg (by exact ⟨rfl, ⟨rfl, ⟨rfl, ⟨rfl, ⟨rfl, ⟨rfl, trivial⟩⟩⟩⟩⟩⟩) key
      · have h := h28
        by_cases hc11 : r3 = 0
        · rw [if_pos hc11] at h
          refine am_Go.c1 htb (S' := (64, [some (.inr (.inr (some (1, 0)))), some (.inl a1), some (.inl a2), some (.inl r3), some (.inl (if r3 = 0 then (0 : Int32) else ((a1 * (7 : Int32)) + a2))), some (.inl q10)], [.inl a1, .inr (.inr (some (1, 0)))], am_mk m)) (if_pos hc11) ?_
          refine am_Go.n htb 1 (S' := (65, [some (.inr (.inr (some (1, 0)))), some (.inl a1), some (.inl a2), some (.inl r3), some (.inl (if r3 = 0 then (0 : Int32) else ((a1 * (7 : Int32)) + a2))), some (.inl q10)], [.inl (-1), .inl a1, .inr (.inr (some (1, 0)))], am_mk m)) rfl ?_
          cases h
          exact am_Go.fg (by exact ⟨rfl, ⟨rfl, ⟨rfl, ⟨rfl, ⟨rfl, ⟨rfl, trivial⟩⟩⟩⟩⟩⟩) key
        · rw [if_neg hc11] at h
          refine am_Go.c1 htb (S' := (52, [some (.inr (.inr (some (1, 0)))), some (.inl a1), some (.inl a2), some (.inl r3), some (.inl (if r3 = 0 then (0 : Int32) else ((a1 * (7 : Int32)) + a2))), some (.inl q10)], [.inl a1, .inr (.inr (some (1, 0)))], am_mk m)) (if_neg hc11) ?_
          refine am_Go.n htb 1 (S' := (53, [some (.inr (.inr (some (1, 0)))), some (.inl a1), some (.inl a2), some (.inl r3), some (.inl (if r3 = 0 then (0 : Int32) else ((a1 * (7 : Int32)) + a2))), some (.inl q10)], [.inr (.inr (some (1, 0))), .inl a1, .inr (.inr (some (1, 0)))], am_mk m)) rfl ?_
          obtain ⟨u12, hu13, h⟩ := am_bd h
          refine am_Go.o htb (am_o_gf 1 0 11) rfl (S' := (56, [some (.inr (.inr (some (1, 0)))), some (.inl a1), some (.inl a2), some (.inl r3), some (.inl (if r3 = 0 then (0 : Int32) else ((a1 * (7 : Int32)) + a2))), some (.inl q10)], [.inr (.inr (some (8, u12))), .inl a1, .inr (.inr (some (1, 0)))], am_mk m)) (am_gfd hu13) ?_
          refine am_Go.n htb 2 (S' := (60, [some (.inr (.inr (some (1, 0)))), some (.inl a1), some (.inl a2), some (.inl r3), some (.inl (if r3 = 0 then (0 : Int32) else ((a1 * (7 : Int32)) + a2))), some (.inl q10)], [.inl a1, .inr (.inr (some (36, u12))), .inl a1, .inr (.inr (some (1, 0)))], am_mk m)) rfl ?_
          obtain ⟨hg14, h⟩ := am_ck_some h
          refine am_Go.c1 htb (S' := (61, [some (.inr (.inr (some (1, 0)))), some (.inl a1), some (.inl a2), some (.inl r3), some (.inl (if r3 = 0 then (0 : Int32) else ((a1 * (7 : Int32)) + a2))), some (.inl q10)], [.inl (m.1 36 u12 a1.toNatClampNeg), .inl a1, .inr (.inr (some (1, 0)))], am_mk m)) (if_neg hg14) ?_
          refine am_Go.n htb 1 (S' := (65, [some (.inr (.inr (some (1, 0)))), some (.inl a1), some (.inl a2), some (.inl r3), some (.inl (if r3 = 0 then (0 : Int32) else ((a1 * (7 : Int32)) + a2))), some (.inl q10)], [.inl (m.1 36 u12 a1.toNatClampNeg), .inl a1, .inr (.inr (some (1, 0)))], am_mk m)) rfl ?_
          cases h
          exact am_Go.fg (by exact ⟨rfl, ⟨rfl, ⟨rfl, ⟨rfl, ⟨rfl, ⟨rfl, trivial⟩⟩⟩⟩⟩⟩) key
    · have h := h29
      by_cases hc6 : r3 = 0
      · rw [if_pos hc6] at h
        refine am_Go.c1 htb (S' := (43, [some (.inr (.inr (some (1, 0)))), some (.inl a1), some (.inl a2), some (.inl r3), some (.inl (if r3 = 0 then (0 : Int32) else ((a1 * (7 : Int32)) + a2))), none], [], am_mk m)) (if_pos hc6) ?_
        refine am_Go.n htb 1 (S' := (44, [some (.inr (.inr (some (1, 0)))), some (.inl a1), some (.inl a2), some (.inl r3), some (.inl (if r3 = 0 then (0 : Int32) else ((a1 * (7 : Int32)) + a2))), none], [.inl 0], am_mk m)) rfl ?_
        cases h
        exact am_Go.fg (by exact ⟨rfl, ⟨rfl, ⟨rfl, ⟨rfl, ⟨rfl, trivial⟩⟩⟩⟩⟩) key
      · rw [if_neg hc6] at h
        refine am_Go.c1 htb (S' := (30, [some (.inr (.inr (some (1, 0)))), some (.inl a1), some (.inl a2), some (.inl r3), some (.inl (if r3 = 0 then (0 : Int32) else ((a1 * (7 : Int32)) + a2))), none], [], am_mk m)) (if_neg hc6) ?_
        refine am_Go.n htb 1 (S' := (31, [some (.inr (.inr (some (1, 0)))), some (.inl a1), some (.inl a2), some (.inl r3), some (.inl (if r3 = 0 then (0 : Int32) else ((a1 * (7 : Int32)) + a2))), none], [.inr (.inr (some (1, 0)))], am_mk m)) rfl ?_
        obtain ⟨u7, hu8, h⟩ := am_bd h
        refine am_Go.o htb (am_o_gf 1 0 11) rfl (S' := (34, [some (.inr (.inr (some (1, 0)))), some (.inl a1), some (.inl a2), some (.inl r3), some (.inl (if r3 = 0 then (0 : Int32) else ((a1 * (7 : Int32)) + a2))), none], [.inr (.inr (some (8, u7)))], am_mk m)) (am_gfd hu8) ?_
        refine am_Go.n htb 2 (S' := (39, [some (.inr (.inr (some (1, 0)))), some (.inl a1), some (.inl a2), some (.inl r3), some (.inl (if r3 = 0 then (0 : Int32) else ((a1 * (7 : Int32)) + a2))), none], [.inl (if r3 = 0 then (0 : Int32) else ((a1 * (7 : Int32)) + a2)), .inr (.inr (some (37, u7)))], am_mk m)) rfl ?_
        obtain ⟨hg9, h⟩ := am_ck_some h
        refine am_Go.c1 htb (S' := (40, [some (.inr (.inr (some (1, 0)))), some (.inl a1), some (.inl a2), some (.inl r3), some (.inl (if r3 = 0 then (0 : Int32) else ((a1 * (7 : Int32)) + a2))), none], [.inl (m.1 37 u7 (if r3 = 0 then (0 : Int32) else ((a1 * (7 : Int32)) + a2)).toNatClampNeg)], am_mk m)) (if_neg hg9) ?_
        refine am_Go.n htb 1 (S' := (44, [some (.inr (.inr (some (1, 0)))), some (.inl a1), some (.inl a2), some (.inl r3), some (.inl (if r3 = 0 then (0 : Int32) else ((a1 * (7 : Int32)) + a2))), none], [.inl (m.1 37 u7 (if r3 = 0 then (0 : Int32) else ((a1 * (7 : Int32)) + a2)).toNatClampNeg)], am_mk m)) rfl ?_
        cases h
        exact am_Go.fg (by exact ⟨rfl, ⟨rfl, ⟨rfl, ⟨rfl, ⟨rfl, trivial⟩⟩⟩⟩⟩) key
  · by_cases hc5 : r3 = 0
    · refine am_Go.c1 htb (S' := (23, [some (.inr (.inr (some (1, 0)))), some (.inl a1), some (.inl a2), some (.inl r3), none, none], [], am_mk m)) (if_pos hc5) ?_
      refine am_Go.n htb 1 (S' := (24, [some (.inr (.inr (some (1, 0)))), some (.inl a1), some (.inl a2), some (.inl r3), none, none], [.inl 0], am_mk m)) rfl ?_
      simp only [if_pos hc5] at key
      exact am_Go.fg (by exact ⟨rfl, ⟨rfl, ⟨rfl, ⟨rfl, trivial⟩⟩⟩⟩) key
    · refine am_Go.c1 htb (S' := (14, [some (.inr (.inr (some (1, 0)))), some (.inl a1), some (.inl a2), some (.inl r3), none, none], [], am_mk m)) (if_neg hc5) ?_
      refine am_Go.n htb 6 (S' := (24, [some (.inr (.inr (some (1, 0)))), some (.inl a1), some (.inl a2), some (.inl r3), none, none], [.inl ((a1 * (7 : Int32)) + a2)], am_mk m)) rfl ?_
      simp only [if_neg hc5] at key
      exact am_Go.fg (by exact ⟨rfl, ⟨rfl, ⟨rfl, ⟨rfl, trivial⟩⟩⟩⟩) key
-- X1_joined
set_option maxHeartbeats 10000000 in
set_option maxRecDepth 100000 in
theorem ex_X1_joined (d : Nat) (hd : 1 ≤ d) (a1 : Int32) (a2 : Int64) (a3 : Int64) (m : am_m) (t : Int64) (h : fn_X1_joined a1 a2 a3 m = some t) : am_Ex am_cod d 19 [.inl a1, .inr (.inl a2), .inr (.inl a3)] (am_mk m) (some (.inr (.inl t))) (am_mk m) 0 0 := by
  obtain ⟨d, rfl⟩ : ∃ e, d = e + 1 := ⟨d - 1, by omega⟩
  have htb : am_tab 19 = at_19 := rfl
  refine ⟨Nat.le_of_ble_eq_true rfl, ?_⟩
  unfold fn_X1_joined at h
  show am_Go d 19 (0, [some (.inl a1), some (.inr (.inl a2)), none, some (.inr (.inl a3)), none, none, none], [], am_mk m) _ _ 0 0
  refine am_Go.n htb 1 (S' := (1, [some (.inl a1), some (.inr (.inl a2)), none, some (.inr (.inl a3)), none, none, none], [.inl a1], am_mk m)) rfl ?_
  obtain ⟨q25, h28, h⟩ := am_bd h
  refine am_Go.cut (S := (177, [some (.inl a1), some (.inr (.inl a2)), none, some (.inr (.inl a3)), none, some (.inr (.inl q25)), none], [], am_mk m)) ?_ (fun key => ?_)
  · refine am_Go.n htb 3 (S' := (183, [some (.inl a1), some (.inr (.inl a2)), none, some (.inr (.inl a3)), none, some (.inr (.inl q25)), none], [.inl (lg_cmp q25 (1000000000 : Int64))], am_mk m)) rfl ?_
    by_cases hc26 : 0 < (lg_cmp q25 (1000000000 : Int64))
    · rw [if_pos hc26] at h
      refine am_Go.c1 htb (S' := (195, [some (.inl a1), some (.inr (.inl a2)), none, some (.inr (.inl a3)), none, some (.inr (.inl q25)), none], [], am_mk m)) (if_pos hc26) ?_
      refine am_Go.n htb 2 (S' := (203, [some (.inl a1), some (.inr (.inl a2)), none, some (.inr (.inl a3)), none, some (.inr (.inl q25)), none], [.inr (.inl 2000000000)], am_mk m)) rfl ?_
      cases h
      exact am_Go.rt htb rfl
    · rw [if_neg hc26] at h
      refine am_Go.c1 htb (S' := (186, [some (.inl a1), some (.inr (.inl a2)), none, some (.inr (.inl a3)), none, some (.inr (.inl q25)), none], [], am_mk m)) (if_neg hc26) ?_
      refine am_Go.n htb 3 (S' := (192, [some (.inl a1), some (.inr (.inl a2)), none, some (.inr (.inl a3)), none, some (.inr (.inl q25)), none], [.inl (lg_cmp q25 (-1000000000 : Int64))], am_mk m)) rfl ?_
      by_cases hc27 : 0 ≤ (lg_cmp q25 (-1000000000 : Int64))
      · rw [if_pos hc27] at h
        refine am_Go.c1 htb (S' := (201, [some (.inl a1), some (.inr (.inl a2)), none, some (.inr (.inl a3)), none, some (.inr (.inl q25)), none], [], am_mk m)) (if_pos hc27) ?_
        refine am_Go.n htb 1 (S' := (203, [some (.inl a1), some (.inr (.inl a2)), none, some (.inr (.inl a3)), none, some (.inr (.inl q25)), none], [.inr (.inl q25)], am_mk m)) rfl ?_
        cases h
        exact am_Go.rt htb rfl
      · rw [if_neg hc27] at h
        refine am_Go.c1 htb (S' := (195, [some (.inl a1), some (.inr (.inl a2)), none, some (.inr (.inl a3)), none, some (.inr (.inl q25)), none], [], am_mk m)) (if_neg hc27) ?_
        refine am_Go.n htb 2 (S' := (203, [some (.inl a1), some (.inr (.inl a2)), none, some (.inr (.inl a3)), none, some (.inr (.inl q25)), none], [.inr (.inl 2000000000)], am_mk m)) rfl ?_
        cases h
        exact am_Go.rt htb rfl
  · have h := h28
    by_cases hs1 : a1 = 37
    · rw [if_pos hs1] at h
      refine am_Go.o htb (am_o_sw [(37, 112), (42, 84), (43, 68), (45, 76), (47, 92), (60, 132), (62, 148)] 164) rfl (S' := (112, [some (.inl a1), some (.inr (.inl a2)), none, some (.inr (.inl a3)), none, none, none], [], am_mk m)) (am_sw_eq (by simp only [am_sw, if_pos hs1])) ?_
      refine am_Go.n htb 3 (S' := (115, [some (.inl a1), some (.inr (.inl a2)), none, some (.inr (.inl a3)), none, none, none], [.inl (lg_cmp a3 (0 : Int64))], am_mk m)) rfl ?_
      obtain ⟨q4, h5, h⟩ := am_bd h
      refine am_Go.cut (S := (127, [some (.inl a1), some (.inr (.inl a2)), none, some (.inr (.inl a3)), none, none, none], [.inr (.inl q4)], am_mk m)) ?_ (fun key => ?_)
      · refine am_Go.n htb 2 (S' := (177, [some (.inl a1), some (.inr (.inl a2)), none, some (.inr (.inl a3)), none, some (.inr (.inl q4)), none], [], am_mk m)) rfl ?_
        cases h
        exact am_Go.fg (by exact ⟨rfl, ⟨rfl, ⟨rfl, ⟨rfl, trivial⟩⟩⟩⟩) key
      · have h := h5
        by_cases hc2 : (lg_cmp a3 (0 : Int64)) ≠ 0
        · rw [if_pos hc2] at h
          refine am_Go.c1 htb (S' := (124, [some (.inl a1), some (.inr (.inl a2)), none, some (.inr (.inl a3)), none, none, none], [], am_mk m)) (if_pos hc2) ?_
          refine am_Go.n htb 2 (S' := (126, [some (.inl a1), some (.inr (.inl a2)), none, some (.inr (.inl a3)), none, none, none], [.inr (.inl a3), .inr (.inl a2)], am_mk m)) rfl ?_
          obtain ⟨hz3, h⟩ := am_gd_some h
          refine am_Go.c1 htb (S' := (127, [some (.inl a1), some (.inr (.inl a2)), none, some (.inr (.inl a3)), none, none, none], [.inr (.inl (a2 - a2 / a3 * a3))], am_mk m)) (if_neg hz3) ?_
          cases h
          exact am_Go.fg (by exact ⟨rfl, ⟨rfl, ⟨rfl, trivial⟩⟩⟩) key
        · rw [if_neg hc2] at h
          refine am_Go.c1 htb (S' := (118, [some (.inl a1), some (.inr (.inl a2)), none, some (.inr (.inl a3)), none, none, none], [], am_mk m)) (if_neg hc2) ?_
          refine am_Go.n htb 2 (S' := (127, [some (.inl a1), some (.inr (.inl a2)), none, some (.inr (.inl a3)), none, none, none], [.inr (.inl 2000000000)], am_mk m)) rfl ?_
          cases h
          exact am_Go.fg (by exact ⟨rfl, ⟨rfl, ⟨rfl, trivial⟩⟩⟩) key
    · rw [if_neg hs1] at h
      by_cases hs6 : a1 = 42
      · rw [if_pos hs6] at h
        refine am_Go.o htb (am_o_sw [(37, 112), (42, 84), (43, 68), (45, 76), (47, 92), (60, 132), (62, 148)] 164) rfl (S' := (84, [some (.inl a1), some (.inr (.inl a2)), none, some (.inr (.inl a3)), none, none, none], [], am_mk m)) (am_sw_eq (by simp only [am_sw, if_neg hs1, if_pos hs6])) ?_
        refine am_Go.n htb 5 (S' := (177, [some (.inl a1), some (.inr (.inl a2)), none, some (.inr (.inl a3)), none, some (.inr (.inl (a2 * a3))), none], [], am_mk m)) rfl ?_
        cases h
        exact am_Go.fg (by exact ⟨rfl, ⟨rfl, ⟨rfl, ⟨rfl, trivial⟩⟩⟩⟩) key
      · rw [if_neg hs6] at h
        by_cases hs7 : a1 = 43
        · rw [if_pos hs7] at h
          refine am_Go.o htb (am_o_sw [(37, 112), (42, 84), (43, 68), (45, 76), (47, 92), (60, 132), (62, 148)] 164) rfl (S' := (68, [some (.inl a1), some (.inr (.inl a2)), none, some (.inr (.inl a3)), none, none, none], [], am_mk m)) (am_sw_eq (by simp only [am_sw, if_neg hs1, if_neg hs6, if_pos hs7])) ?_
          refine am_Go.n htb 5 (S' := (177, [some (.inl a1), some (.inr (.inl a2)), none, some (.inr (.inl a3)), none, some (.inr (.inl (a2 + a3))), none], [], am_mk m)) rfl ?_
          cases h
          exact am_Go.fg (by exact ⟨rfl, ⟨rfl, ⟨rfl, ⟨rfl, trivial⟩⟩⟩⟩) key
        · rw [if_neg hs7] at h
          by_cases hs8 : a1 = 45
          · rw [if_pos hs8] at h
            refine am_Go.o htb (am_o_sw [(37, 112), (42, 84), (43, 68), (45, 76), (47, 92), (60, 132), (62, 148)] 164) rfl (S' := (76, [some (.inl a1), some (.inr (.inl a2)), none, some (.inr (.inl a3)), none, none, none], [], am_mk m)) (am_sw_eq (by simp only [am_sw, if_neg hs1, if_neg hs6, if_neg hs7, if_pos hs8])) ?_
            refine am_Go.n htb 5 (S' := (177, [some (.inl a1), some (.inr (.inl a2)), none, some (.inr (.inl a3)), none, some (.inr (.inl (a2 - a3))), none], [], am_mk m)) rfl ?_
            cases h
            exact am_Go.fg (by exact ⟨rfl, ⟨rfl, ⟨rfl, ⟨rfl, trivial⟩⟩⟩⟩) key
          · rw [if_neg hs8] at h
            by_cases hs9 : a1 = 47
            · rw [if_pos hs9] at h
              refine am_Go.o htb (am_o_sw [(37, 112), (42, 84), (43, 68), (45, 76), (47, 92), (60, 132), (62, 148)] 164) rfl (S' := (92, [some (.inl a1), some (.inr (.inl a2)), none, some (.inr (.inl a3)), none, none, none], [], am_mk m)) (am_sw_eq (by simp only [am_sw, if_neg hs1, if_neg hs6, if_neg hs7, if_neg hs8, if_pos hs9])) ?_
              refine am_Go.n htb 3 (S' := (95, [some (.inl a1), some (.inr (.inl a2)), none, some (.inr (.inl a3)), none, none, none], [.inl (lg_cmp a3 (0 : Int64))], am_mk m)) rfl ?_
              obtain ⟨q12, h13, h⟩ := am_bd h
              refine am_Go.cut (S := (107, [some (.inl a1), some (.inr (.inl a2)), none, some (.inr (.inl a3)), none, none, none], [.inr (.inl q12)], am_mk m)) ?_ (fun key => ?_)
              · refine am_Go.n htb 2 (S' := (177, [some (.inl a1), some (.inr (.inl a2)), none, some (.inr (.inl a3)), none, some (.inr (.inl q12)), none], [], am_mk m)) rfl ?_
                cases h
                exact am_Go.fg (by exact ⟨rfl, ⟨rfl, ⟨rfl, ⟨rfl, trivial⟩⟩⟩⟩) key
              · have h := h13
                by_cases hc10 : (lg_cmp a3 (0 : Int64)) ≠ 0
                · rw [if_pos hc10] at h
                  refine am_Go.c1 htb (S' := (104, [some (.inl a1), some (.inr (.inl a2)), none, some (.inr (.inl a3)), none, none, none], [], am_mk m)) (if_pos hc10) ?_
                  refine am_Go.n htb 2 (S' := (106, [some (.inl a1), some (.inr (.inl a2)), none, some (.inr (.inl a3)), none, none, none], [.inr (.inl a3), .inr (.inl a2)], am_mk m)) rfl ?_
                  obtain ⟨hz11, h⟩ := am_gd_some h
                  refine am_Go.c1 htb (S' := (107, [some (.inl a1), some (.inr (.inl a2)), none, some (.inr (.inl a3)), none, none, none], [.inr (.inl (a2 / a3))], am_mk m)) (if_neg hz11) ?_
                  cases h
                  exact am_Go.fg (by exact ⟨rfl, ⟨rfl, ⟨rfl, trivial⟩⟩⟩) key
                · rw [if_neg hc10] at h
                  refine am_Go.c1 htb (S' := (98, [some (.inl a1), some (.inr (.inl a2)), none, some (.inr (.inl a3)), none, none, none], [], am_mk m)) (if_neg hc10) ?_
                  refine am_Go.n htb 2 (S' := (107, [some (.inl a1), some (.inr (.inl a2)), none, some (.inr (.inl a3)), none, none, none], [.inr (.inl 2000000000)], am_mk m)) rfl ?_
                  cases h
                  exact am_Go.fg (by exact ⟨rfl, ⟨rfl, ⟨rfl, trivial⟩⟩⟩) key
            · rw [if_neg hs9] at h
              by_cases hs14 : a1 = 60
              · rw [if_pos hs14] at h
                refine am_Go.o htb (am_o_sw [(37, 112), (42, 84), (43, 68), (45, 76), (47, 92), (60, 132), (62, 148)] 164) rfl (S' := (132, [some (.inl a1), some (.inr (.inl a2)), none, some (.inr (.inl a3)), none, none, none], [], am_mk m)) (am_sw_eq (by simp only [am_sw, if_neg hs1, if_neg hs6, if_neg hs7, if_neg hs8, if_neg hs9, if_pos hs14])) ?_
                refine am_Go.n htb 3 (S' := (135, [some (.inl a1), some (.inr (.inl a2)), none, some (.inr (.inl a3)), none, none, none], [.inl (lg_cmp a2 a3)], am_mk m)) rfl ?_
                obtain ⟨q16, h17, h⟩ := am_bd h
                refine am_Go.cut (S := (143, [some (.inl a1), some (.inr (.inl a2)), none, some (.inr (.inl a3)), none, none, none], [.inr (.inl q16)], am_mk m)) ?_ (fun key => ?_)
                · refine am_Go.n htb 2 (S' := (177, [some (.inl a1), some (.inr (.inl a2)), none, some (.inr (.inl a3)), none, some (.inr (.inl q16)), none], [], am_mk m)) rfl ?_
                  cases h
                  exact am_Go.fg (by exact ⟨rfl, ⟨rfl, ⟨rfl, ⟨rfl, trivial⟩⟩⟩⟩) key
                · have h := h17
                  by_cases hc15 : 0 ≤ (lg_cmp a2 a3)
                  · rw [if_pos hc15] at h
                    refine am_Go.c1 htb (S' := (142, [some (.inl a1), some (.inr (.inl a2)), none, some (.inr (.inl a3)), none, none, none], [], am_mk m)) (if_pos hc15) ?_
                    refine am_Go.n htb 1 (S' := (143, [some (.inl a1), some (.inr (.inl a2)), none, some (.inr (.inl a3)), none, none, none], [.inr (.inl 0)], am_mk m)) rfl ?_
                    cases h
                    exact am_Go.fg (by exact ⟨rfl, ⟨rfl, ⟨rfl, trivial⟩⟩⟩) key
                  · rw [if_neg hc15] at h
                    refine am_Go.c1 htb (S' := (138, [some (.inl a1), some (.inr (.inl a2)), none, some (.inr (.inl a3)), none, none, none], [], am_mk m)) (if_neg hc15) ?_
                    refine am_Go.n htb 2 (S' := (143, [some (.inl a1), some (.inr (.inl a2)), none, some (.inr (.inl a3)), none, none, none], [.inr (.inl 1)], am_mk m)) rfl ?_
                    cases h
                    exact am_Go.fg (by exact ⟨rfl, ⟨rfl, ⟨rfl, trivial⟩⟩⟩) key
              · rw [if_neg hs14] at h
                by_cases hs18 : a1 = 62
                · rw [if_pos hs18] at h
                  refine am_Go.o htb (am_o_sw [(37, 112), (42, 84), (43, 68), (45, 76), (47, 92), (60, 132), (62, 148)] 164) rfl (S' := (148, [some (.inl a1), some (.inr (.inl a2)), none, some (.inr (.inl a3)), none, none, none], [], am_mk m)) (am_sw_eq (by simp only [am_sw, if_neg hs1, if_neg hs6, if_neg hs7, if_neg hs8, if_neg hs9, if_neg hs14, if_pos hs18])) ?_
                  refine am_Go.n htb 3 (S' := (151, [some (.inl a1), some (.inr (.inl a2)), none, some (.inr (.inl a3)), none, none, none], [.inl (lg_cmp a2 a3)], am_mk m)) rfl ?_
                  obtain ⟨q20, h21, h⟩ := am_bd h
                  refine am_Go.cut (S := (159, [some (.inl a1), some (.inr (.inl a2)), none, some (.inr (.inl a3)), none, none, none], [.inr (.inl q20)], am_mk m)) ?_ (fun key => ?_)
                  · refine am_Go.n htb 2 (S' := (177, [some (.inl a1), some (.inr (.inl a2)), none, some (.inr (.inl a3)), none, some (.inr (.inl q20)), none], [], am_mk m)) rfl ?_
                    cases h
                    exact am_Go.fg (by exact ⟨rfl, ⟨rfl, ⟨rfl, ⟨rfl, trivial⟩⟩⟩⟩) key
                  · have h := h21
                    by_cases hc19 : (lg_cmp a2 a3) ≤ 0
                    · rw [if_pos hc19] at h
                      refine am_Go.c1 htb (S' := (158, [some (.inl a1), some (.inr (.inl a2)), none, some (.inr (.inl a3)), none, none, none], [], am_mk m)) (if_pos hc19) ?_
                      refine am_Go.n htb 1 (S' := (159, [some (.inl a1), some (.inr (.inl a2)), none, some (.inr (.inl a3)), none, none, none], [.inr (.inl 0)], am_mk m)) rfl ?_
                      cases h
                      exact am_Go.fg (by exact ⟨rfl, ⟨rfl, ⟨rfl, trivial⟩⟩⟩) key
                    · rw [if_neg hc19] at h
                      refine am_Go.c1 htb (S' := (154, [some (.inl a1), some (.inr (.inl a2)), none, some (.inr (.inl a3)), none, none, none], [], am_mk m)) (if_neg hc19) ?_
                      refine am_Go.n htb 2 (S' := (159, [some (.inl a1), some (.inr (.inl a2)), none, some (.inr (.inl a3)), none, none, none], [.inr (.inl 1)], am_mk m)) rfl ?_
                      cases h
                      exact am_Go.fg (by exact ⟨rfl, ⟨rfl, ⟨rfl, trivial⟩⟩⟩) key
                · rw [if_neg hs18] at h
                  refine am_Go.o htb (am_o_sw [(37, 112), (42, 84), (43, 68), (45, 76), (47, 92), (60, 132), (62, 148)] 164) rfl (S' := (164, [some (.inl a1), some (.inr (.inl a2)), none, some (.inr (.inl a3)), none, none, none], [], am_mk m)) (am_sw_eq (by simp only [am_sw, if_neg hs1, if_neg hs6, if_neg hs7, if_neg hs8, if_neg hs9, if_neg hs14, if_neg hs18, if_false])) ?_
                  refine am_Go.n htb 3 (S' := (167, [some (.inl a1), some (.inr (.inl a2)), none, some (.inr (.inl a3)), none, none, none], [.inl (lg_cmp a2 a3)], am_mk m)) rfl ?_
                  obtain ⟨q23, h24, h⟩ := am_bd h
                  refine am_Go.cut (S := (175, [some (.inl a1), some (.inr (.inl a2)), none, some (.inr (.inl a3)), none, none, none], [.inr (.inl q23)], am_mk m)) ?_ (fun key => ?_)
                  · refine am_Go.n htb 1 (S' := (177, [some (.inl a1), some (.inr (.inl a2)), none, some (.inr (.inl a3)), none, some (.inr (.inl q23)), none], [], am_mk m)) rfl ?_
                    cases h
                    exact am_Go.fg (by exact ⟨rfl, ⟨rfl, ⟨rfl, ⟨rfl, trivial⟩⟩⟩⟩) key
                  · have h := h24
                    by_cases hc22 : (lg_cmp a2 a3) ≠ 0
                    · rw [if_pos hc22] at h
                      refine am_Go.c1 htb (S' := (174, [some (.inl a1), some (.inr (.inl a2)), none, some (.inr (.inl a3)), none, none, none], [], am_mk m)) (if_pos hc22) ?_
                      refine am_Go.n htb 1 (S' := (175, [some (.inl a1), some (.inr (.inl a2)), none, some (.inr (.inl a3)), none, none, none], [.inr (.inl 0)], am_mk m)) rfl ?_
                      cases h
                      exact am_Go.fg (by exact ⟨rfl, ⟨rfl, ⟨rfl, trivial⟩⟩⟩) key
                    · rw [if_neg hc22] at h
                      refine am_Go.c1 htb (S' := (170, [some (.inl a1), some (.inr (.inl a2)), none, some (.inr (.inl a3)), none, none, none], [], am_mk m)) (if_neg hc22) ?_
                      refine am_Go.n htb 2 (S' := (175, [some (.inl a1), some (.inr (.inl a2)), none, some (.inr (.inl a3)), none, none, none], [.inr (.inl 1)], am_mk m)) rfl ?_
                      cases h
                      exact am_Go.fg (by exact ⟨rfl, ⟨rfl, ⟨rfl, trivial⟩⟩⟩) key
