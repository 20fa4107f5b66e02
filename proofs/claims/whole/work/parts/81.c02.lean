-- X8_setHarm
set_option maxRecDepth 100000 in
theorem ex_X8_setHarm (d : Nat) (hd : 2 ≤ d) (a0 : Nat) (a1 : Int32) (a2 : Int32) (a3 : Int32) (a4 : Int32) (m : am_m) (t : am_m) (h : fn_X8_setHarm a0 a1 a2 a3 a4 m = some t) : am_Ex am_cod d 106 [.inr (.inr (some (8, a0))), .inl a1, .inl a2, .inl a3, .inl a4] (am_mk m) (none) (am_mk t) 0 0 := by
  obtain ⟨d, rfl⟩ : ∃ e, d = e + 1 := ⟨d - 1, by omega⟩
  have htb : am_tab 106 = at_106 := rfl
  refine ⟨Nat.le_of_ble_eq_true rfl, ?_⟩
  unfold fn_X8_setHarm at h
  show am_Go d 106 (0, [some (.inr (.inr (some (8, a0)))), some (.inl a1), some (.inl a2), some (.inl a3), some (.inl a4)], [], am_mk m) _ _ 0 0
  refine am_Go.n htb 3 (S' := (3, [some (.inr (.inr (some (8, a0)))), some (.inl a1), some (.inl a2), some (.inl a3), some (.inl a4)], [.inl a2, .inl a1, .inr (.inr (some (8, a0)))], am_mk m)) rfl ?_
  obtain ⟨r1, h2, h⟩ := am_bd h
  refine am_Go.cl htb rfl (ex_X8_hasTwo d (by omega) a0 a1 a2 m r1 h2) ?_
  show am_Go d 106 (6, [some (.inr (.inr (some (8, a0)))), some (.inl a1), some (.inl a2), some (.inl a3), some (.inl a4)], [.inl r1], am_mk m) _ _ _ _
  by_cases hc3 : r1 = 0
  · rw [if_pos hc3] at h
    refine am_Go.c1 htb (S' := (34, [some (.inr (.inr (some (8, a0)))), some (.inl a1), some (.inl a2), some (.inl a3), some (.inl a4)], [], am_mk m)) (if_pos hc3) ?_
    cases h
    exact am_Go.rt htb rfl
  · rw [if_neg hc3] at h
    refine am_Go.c1 htb (S' := (9, [some (.inr (.inr (some (8, a0)))), some (.inl a1), some (.inl a2), some (.inl a3), some (.inl a4)], [], am_mk m)) (if_neg hc3) ?_
    refine am_Go.n htb 8 (S' := (20, [some (.inr (.inr (some (8, a0)))), some (.inl a1), some (.inl a2), some (.inl a3), some (.inl a4)], [.inl a3, .inl ((a1 * (7 : Int32)) + a2), .inr (.inr (some (37, a0)))], am_mk m)) rfl ?_
    obtain ⟨hg4, h⟩ := am_ck_some h
    refine am_Go.c1 htb (S' := (21, [some (.inr (.inr (some (8, a0)))), some (.inl a1), some (.inl a2), some (.inl a3), some (.inl a4)], [], am_mk (am_si m 37 a0 ((a1 * (7 : Int32)) + a2).toNatClampNeg a3))) (if_neg hg4) ?_
    refine am_Go.n htb 8 (S' := (33, [some (.inr (.inr (some (8, a0)))), some (.inl a1), some (.inl a2), some (.inl a3), some (.inl a4)], [.inl a4, .inl ((a1 * (7 : Int32)) + a2), .inr (.inr (some (38, a0)))], am_mk (am_si m 37 a0 ((a1 * (7 : Int32)) + a2).toNatClampNeg a3))) rfl ?_
    obtain ⟨hg5, h⟩ := am_ck_some h
    refine am_Go.c1 htb (S' := (34, [some (.inr (.inr (some (8, a0)))), some (.inl a1), some (.inl a2), some (.inl a3), some (.inl a4)], [], am_mk (am_si (am_si m 37 a0 ((a1 * (7 : Int32)) + a2).toNatClampNeg a3) 38 a0 ((a1 * (7 : Int32)) + a2).toNatClampNeg a4))) (if_neg hg5) ?_
    cases h
    exact am_Go.rt htb rfl
-- X3_undoLatest
set_option maxRecDepth 100000 in
theorem ex_X3_undoLatest (d : Nat) (hd : 3 ≤ d) (a0 : Nat) (a1 : Nat) (m : am_m) (t : Int32 × am_m) (h : fn_X3_undoLatest a0 a1 m = some t) : am_Ex am_cod d 33 [.inr (.inr (some (3, a0))), .inr (.inr (some (8, a1)))] (am_mk m) (some (.inl t.1)) (am_mk t.2) 0 0 := by
  obtain ⟨d, rfl⟩ : ∃ e, d = e + 1 := ⟨d - 1, by omega⟩
  have htb : am_tab 33 = at_33 := rfl
  refine ⟨Nat.le_of_ble_eq_true rfl, ?_⟩
  unfold fn_X3_undoLatest at h
  show am_Go d 33 (0, [some (.inr (.inr (some (3, a0)))), some (.inr (.inr (some (8, a1)))), none], [], am_mk m) _ _ 0 0
  refine am_Go.n htb 3 (S' := (5, [some (.inr (.inr (some (3, a0)))), some (.inr (.inr (some (8, a1)))), none], [.inl 1, .inl (m.1 3 a0 1)], am_mk m)) rfl ?_
  by_cases hc1 : (1 : Int32) ≤ (m.1 3 a0 1)
  · rw [if_pos hc1] at h
    refine am_Go.c1 htb (S' := (11, [some (.inr (.inr (some (3, a0)))), some (.inr (.inr (some (8, a1)))), none], [], am_mk m)) (if_pos hc1) ?_
    refine am_Go.n htb 19 (S' := (41, [some (.inr (.inr (some (3, a0)))), some (.inr (.inr (some (8, a1)))), some (.inl (((am_si m 3 a0 1 ((m.1 3 a0 1) - (1 : Int32))).1 3 a0 1) * (13 : Int32)))], [.inl ((((am_si m 3 a0 1 ((m.1 3 a0 1) - (1 : Int32))).1 3 a0 1) * (13 : Int32)) + (5 : Int32)), .inr (.inr (some (24, a0))), .inl 0, .inr (.inr (some (39, a1)))], am_mk (am_si m 3 a0 1 ((m.1 3 a0 1) - (1 : Int32))))) rfl ?_
    obtain ⟨hg2, h⟩ := am_ck_some h
    refine am_Go.c1 htb (S' := (42, [some (.inr (.inr (some (3, a0)))), some (.inr (.inr (some (8, a1)))), some (.inl (((am_si m 3 a0 1 ((m.1 3 a0 1) - (1 : Int32))).1 3 a0 1) * (13 : Int32)))], [.inl (m.1 24 a0 ((((am_si m 3 a0 1 ((m.1 3 a0 1) - (1 : Int32))).1 3 a0 1) * (13 : Int32)) + (5 : Int32)).toNatClampNeg), .inl 0, .inr (.inr (some (39, a1)))], am_mk (am_si m 3 a0 1 ((m.1 3 a0 1) - (1 : Int32))))) (if_neg hg2) ?_
    refine am_Go.n htb 10 (S' := (58, [some (.inr (.inr (some (3, a0)))), some (.inr (.inr (some (8, a1)))), some (.inl (((am_si m 3 a0 1 ((m.1 3 a0 1) - (1 : Int32))).1 3 a0 1) * (13 : Int32)))], [.inl 7, .inl 0, .inr (.inr (some (36, a1))), .inl ((((am_si m 3 a0 1 ((m.1 3 a0 1) - (1 : Int32))).1 3 a0 1) * (13 : Int32)) + (6 : Int32)), .inr (.inr (some (24, a0)))], am_mk (am_si (am_si m 3 a0 1 ((m.1 3 a0 1) - (1 : Int32))) 39 a1 0 (m.1 24 a0 ((((am_si m 3 a0 1 ((m.1 3 a0 1) - (1 : Int32))).1 3 a0 1) * (13 : Int32)) + (5 : Int32)).toNatClampNeg)))) rfl ?_
    obtain ⟨hz3, h⟩ := am_gd_some h
    refine am_Go.c1 htb (S' := (61, [some (.inr (.inr (some (3, a0)))), some (.inr (.inr (some (8, a1)))), some (.inl (((am_si m 3 a0 1 ((m.1 3 a0 1) - (1 : Int32))).1 3 a0 1) * (13 : Int32)))], [], am_mk (am_sc (am_si (am_si m 3 a0 1 ((m.1 3 a0 1) - (1 : Int32))) 39 a1 0 (m.1 24 a0 ((((am_si m 3 a0 1 ((m.1 3 a0 1) - (1 : Int32))).1 3 a0 1) * (13 : Int32)) + (5 : Int32)).toNatClampNeg)) 24 a0 36 a1 ((((am_si m 3 a0 1 ((m.1 3 a0 1) - (1 : Int32))).1 3 a0 1) * (13 : Int32)) + (6 : Int32)).toNatClampNeg (0 : Int32).toNatClampNeg (7 : Int32).toNatClampNeg))) (if_neg hz3) ?_
    refine am_Go.n htb 6 (S' := (69, [some (.inr (.inr (some (3, a0)))), some (.inr (.inr (some (8, a1)))), some (.inl (((am_si m 3 a0 1 ((m.1 3 a0 1) - (1 : Int32))).1 3 a0 1) * (13 : Int32)))], [.inl ((((am_si m 3 a0 1 ((m.1 3 a0 1) - (1 : Int32))).1 3 a0 1) * (13 : Int32)) + (1 : Int32)), .inr (.inr (some (24, a0))), .inr (.inr (some (8, a1)))], am_mk (am_sc (am_si (am_si m 3 a0 1 ((m.1 3 a0 1) - (1 : Int32))) 39 a1 0 (m.1 24 a0 ((((am_si m 3 a0 1 ((m.1 3 a0 1) - (1 : Int32))).1 3 a0 1) * (13 : Int32)) + (5 : Int32)).toNatClampNeg)) 24 a0 36 a1 ((((am_si m 3 a0 1 ((m.1 3 a0 1) - (1 : Int32))).1 3 a0 1) * (13 : Int32)) + (6 : Int32)).toNatClampNeg (0 : Int32).toNatClampNeg (7 : Int32).toNatClampNeg))) rfl ?_
    obtain ⟨hg4, h⟩ := am_ck_some h
    refine am_Go.c1 htb (S' := (70, [some (.inr (.inr (some (3, a0)))), some (.inr (.inr (some (8, a1)))), some (.inl (((am_si m 3 a0 1 ((m.1 3 a0 1) - (1 : Int32))).1 3 a0 1) * (13 : Int32)))], [.inl (m.1 24 a0 ((((am_si m 3 a0 1 ((m.1 3 a0 1) - (1 : Int32))).1 3 a0 1) * (13 : Int32)) + (1 : Int32)).toNatClampNeg), .inr (.inr (some (8, a1)))], am_mk (am_sc (am_si (am_si m 3 a0 1 ((m.1 3 a0 1) - (1 : Int32))) 39 a1 0 (m.1 24 a0 ((((am_si m 3 a0 1 ((m.1 3 a0 1) - (1 : Int32))).1 3 a0 1) * (13 : Int32)) + (5 : Int32)).toNatClampNeg)) 24 a0 36 a1 ((((am_si m 3 a0 1 ((m.1 3 a0 1) - (1 : Int32))).1 3 a0 1) * (13 : Int32)) + (6 : Int32)).toNatClampNeg (0 : Int32).toNatClampNeg (7 : Int32).toNatClampNeg))) (if_neg hg4) ?_
    refine am_Go.n htb 5 (S' := (77, [some (.inr (.inr (some (3, a0)))), some (.inr (.inr (some (8, a1)))), some (.inl (((am_si m 3 a0 1 ((m.1 3 a0 1) - (1 : Int32))).1 3 a0 1) * (13 : Int32)))], [.inl ((((am_si m 3 a0 1 ((m.1 3 a0 1) - (1 : Int32))).1 3 a0 1) * (13 : Int32)) + (2 : Int32)), .inr (.inr (some (24, a0))), .inl (m.1 24 a0 ((((am_si m 3 a0 1 ((m.1 3 a0 1) - (1 : Int32))).1 3 a0 1) * (13 : Int32)) + (1 : Int32)).toNatClampNeg), .inr (.inr (some (8, a1)))], am_mk (am_sc (am_si (am_si m 3 a0 1 ((m.1 3 a0 1) - (1 : Int32))) 39 a1 0 (m.1 24 a0 ((((am_si m 3 a0 1 ((m.1 3 a0 1) - (1 : Int32))).1 3 a0 1) * (13 : Int32)) + (5 : Int32)).toNatClampNeg)) 24 a0 36 a1 ((((am_si m 3 a0 1 ((m.1 3 a0 1) - (1 : Int32))).1 3 a0 1) * (13 : Int32)) + (6 : Int32)).toNatClampNeg (0 : Int32).toNatClampNeg (7 : Int32).toNatClampNeg))) rfl ?_
    obtain ⟨hg5, h⟩ := am_ck_some h
    refine am_Go.c1 htb (S' := (78, [some (.inr (.inr (some (3, a0)))), some (.inr (.inr (some (8, a1)))), some (.inl (((am_si m 3 a0 1 ((m.1 3 a0 1) - (1 : Int32))).1 3 a0 1) * (13 : Int32)))], [.inl (m.1 24 a0 ((((am_si m 3 a0 1 ((m.1 3 a0 1) - (1 : Int32))).1 3 a0 1) * (13 : Int32)) + (2 : Int32)).toNatClampNeg), .inl (m.1 24 a0 ((((am_si m 3 a0 1 ((m.1 3 a0 1) - (1 : Int32))).1 3 a0 1) * (13 : Int32)) + (1 : Int32)).toNatClampNeg), .inr (.inr (some (8, a1)))], am_mk (am_sc (am_si (am_si m 3 a0 1 ((m.1 3 a0 1) - (1 : Int32))) 39 a1 0 (m.1 24 a0 ((((am_si m 3 a0 1 ((m.1 3 a0 1) - (1 : Int32))).1 3 a0 1) * (13 : Int32)) + (5 : Int32)).toNatClampNeg)) 24 a0 36 a1 ((((am_si m 3 a0 1 ((m.1 3 a0 1) - (1 : Int32))).1 3 a0 1) * (13 : Int32)) + (6 : Int32)).toNatClampNeg (0 : Int32).toNatClampNeg (7 : Int32).toNatClampNeg))) (if_neg hg5) ?_
    refine am_Go.n htb 5 (S' := (85, [some (.inr (.inr (some (3, a0)))), some (.inr (.inr (some (8, a1)))), some (.inl (((am_si m 3 a0 1 ((m.1 3 a0 1) - (1 : Int32))).1 3 a0 1) * (13 : Int32)))], [.inl ((((am_si m 3 a0 1 ((m.1 3 a0 1) - (1 : Int32))).1 3 a0 1) * (13 : Int32)) + (3 : Int32)), .inr (.inr (some (24, a0))), .inl (m.1 24 a0 ((((am_si m 3 a0 1 ((m.1 3 a0 1) - (1 : Int32))).1 3 a0 1) * (13 : Int32)) + (2 : Int32)).toNatClampNeg), .inl (m.1 24 a0 ((((am_si m 3 a0 1 ((m.1 3 a0 1) - (1 : Int32))).1 3 a0 1) * (13 : Int32)) + (1 : Int32)).toNatClampNeg), .inr (.inr (some (8, a1)))], am_mk (am_sc (am_si (am_si m 3 a0 1 ((m.1 3 a0 1) - (1 : Int32))) 39 a1 0 (m.1 24 a0 ((((am_si m 3 a0 1 ((m.1 3 a0 1) - (1 : Int32))).1 3 a0 1) * (13 : Int32)) + (5 : Int32)).toNatClampNeg)) 24 a0 36 a1 ((((am_si m 3 a0 1 ((m.1 3 a0 1) - (1 : Int32))).1 3 a0 1) * (13 : Int32)) + (6 : Int32)).toNatClampNeg (0 : Int32).toNatClampNeg (7 : Int32).toNatClampNeg))) rfl ?_
    obtain ⟨hg6, h⟩ := am_ck_some h
    refine am_Go.c1 htb (S' := (86, [some (.inr (.inr (some (3, a0)))), some (.inr (.inr (some (8, a1)))), some (.inl (((am_si m 3 a0 1 ((m.1 3 a0 1) - (1 : Int32))).1 3 a0 1) * (13 : Int32)))], [.inl (m.1 24 a0 ((((am_si m 3 a0 1 ((m.1 3 a0 1) - (1 : Int32))).1 3 a0 1) * (13 : Int32)) + (3 : Int32)).toNatClampNeg), .inl (m.1 24 a0 ((((am_si m 3 a0 1 ((m.1 3 a0 1) - (1 : Int32))).1 3 a0 1) * (13 : Int32)) + (2 : Int32)).toNatClampNeg), .inl (m.1 24 a0 ((((am_si m 3 a0 1 ((m.1 3 a0 1) - (1 : Int32))).1 3 a0 1) * (13 : Int32)) + (1 : Int32)).toNatClampNeg), .inr (.inr (some (8, a1)))], am_mk (am_sc (am_si (am_si m 3 a0 1 ((m.1 3 a0 1) - (1 : Int32))) 39 a1 0 (m.1 24 a0 ((((am_si m 3 a0 1 ((m.1 3 a0 1) - (1 : Int32))).1 3 a0 1) * (13 : Int32)) + (5 : Int32)).toNatClampNeg)) 24 a0 36 a1 ((((am_si m 3 a0 1 ((m.1 3 a0 1) - (1 : Int32))).1 3 a0 1) * (13 : Int32)) + (6 : Int32)).toNatClampNeg (0 : Int32).toNatClampNeg (7 : Int32).toNatClampNeg))) (if_neg hg6) ?_
    refine am_Go.n htb 5 (S' := (93, [some (.inr (.inr (some (3, a0)))), some (.inr (.inr (some (8, a1)))), some (.inl (((am_si m 3 a0 1 ((m.1 3 a0 1) - (1 : Int32))).1 3 a0 1) * (13 : Int32)))], [.inl ((((am_si m 3 a0 1 ((m.1 3 a0 1) - (1 : Int32))).1 3 a0 1) * (13 : Int32)) + (4 : Int32)), .inr (.inr (some (24, a0))), .inl (m.1 24 a0 ((((am_si m 3 a0 1 ((m.1 3 a0 1) - (1 : Int32))).1 3 a0 1) * (13 : Int32)) + (3 : Int32)).toNatClampNeg), .inl (m.1 24 a0 ((((am_si m 3 a0 1 ((m.1 3 a0 1) - (1 : Int32))).1 3 a0 1) * (13 : Int32)) + (2 : Int32)).toNatClampNeg), .inl (m.1 24 a0 ((((am_si m 3 a0 1 ((m.1 3 a0 1) - (1 : Int32))).1 3 a0 1) * (13 : Int32)) + (1 : Int32)).toNatClampNeg), .inr (.inr (some (8, a1)))], am_mk (am_sc (am_si (am_si m 3 a0 1 ((m.1 3 a0 1) - (1 : Int32))) 39 a1 0 (m.1 24 a0 ((((am_si m 3 a0 1 ((m.1 3 a0 1) - (1 : Int32))).1 3 a0 1) * (13 : Int32)) + (5 : Int32)).toNatClampNeg)) 24 a0 36 a1 ((((am_si m 3 a0 1 ((m.1 3 a0 1) - (1 : Int32))).1 3 a0 1) * (13 : Int32)) + (6 : Int32)).toNatClampNeg (0 : Int32).toNatClampNeg (7 : Int32).toNatClampNeg))) rfl ?_
    obtain ⟨hg7, h⟩ := am_ck_some h
    refine am_Go.c1 htb (S' := (94, [some (.inr (.inr (some (3, a0)))), some (.inr (.inr (some (8, a1)))), some (.inl (((am_si m 3 a0 1 ((m.1 3 a0 1) - (1 : Int32))).1 3 a0 1) * (13 : Int32)))], [.inl (m.1 24 a0 ((((am_si m 3 a0 1 ((m.1 3 a0 1) - (1 : Int32))).1 3 a0 1) * (13 : Int32)) + (4 : Int32)).toNatClampNeg), .inl (m.1 24 a0 ((((am_si m 3 a0 1 ((m.1 3 a0 1) - (1 : Int32))).1 3 a0 1) * (13 : Int32)) + (3 : Int32)).toNatClampNeg), .inl (m.1 24 a0 ((((am_si m 3 a0 1 ((m.1 3 a0 1) - (1 : Int32))).1 3 a0 1) * (13 : Int32)) + (2 : Int32)).toNatClampNeg), .inl (m.1 24 a0 ((((am_si m 3 a0 1 ((m.1 3 a0 1) - (1 : Int32))).1 3 a0 1) * (13 : Int32)) + (1 : Int32)).toNatClampNeg), .inr (.inr (some (8, a1)))], am_mk (am_sc (am_si (am_si m 3 a0 1 ((m.1 3 a0 1) - (1 : Int32))) 39 a1 0 (m.1 24 a0 ((((am_si m 3 a0 1 ((m.1 3 a0 1) - (1 : Int32))).1 3 a0 1) * (13 : Int32)) + (5 : Int32)).toNatClampNeg)) 24 a0 36 a1 ((((am_si m 3 a0 1 ((m.1 3 a0 1) - (1 : Int32))).1 3 a0 1) * (13 : Int32)) + (6 : Int32)).toNatClampNeg (0 : Int32).toNatClampNeg (7 : Int32).toNatClampNeg))) (if_neg hg7) ?_
    obtain ⟨r8, h9, h⟩ := am_bd h
    refine am_Go.cl htb rfl (ex_X8_setHarm d (by omega) a1 (m.1 24 a0 ((((am_si m 3 a0 1 ((m.1 3 a0 1) - (1 : Int32))).1 3 a0 1) * (13 : Int32)) + (1 : Int32)).toNatClampNeg) (m.1 24 a0 ((((am_si m 3 a0 1 ((m.1 3 a0 1) - (1 : Int32))).1 3 a0 1) * (13 : Int32)) + (2 : Int32)).toNatClampNeg) (m.1 24 a0 ((((am_si m 3 a0 1 ((m.1 3 a0 1) - (1 : Int32))).1 3 a0 1) * (13 : Int32)) + (3 : Int32)).toNatClampNeg) (m.1 24 a0 ((((am_si m 3 a0 1 ((m.1 3 a0 1) - (1 : Int32))).1 3 a0 1) * (13 : Int32)) + (4 : Int32)).toNatClampNeg) (am_sc (am_si (am_si m 3 a0 1 ((m.1 3 a0 1) - (1 : Int32))) 39 a1 0 (m.1 24 a0 ((((am_si m 3 a0 1 ((m.1 3 a0 1) - (1 : Int32))).1 3 a0 1) * (13 : Int32)) + (5 : Int32)).toNatClampNeg)) 24 a0 36 a1 ((((am_si m 3 a0 1 ((m.1 3 a0 1) - (1 : Int32))).1 3 a0 1) * (13 : Int32)) + (6 : Int32)).toNatClampNeg (0 : Int32).toNatClampNeg (7 : Int32).toNatClampNeg) r8 h9) ?_
    show am_Go d 33 (97, [some (.inr (.inr (some (3, a0)))), some (.inr (.inr (some (8, a1)))), some (.inl (((am_si m 3 a0 1 ((m.1 3 a0 1) - (1 : Int32))).1 3 a0 1) * (13 : Int32)))], [], am_mk r8) _ _ _ _
    refine am_Go.n htb 5 (S' := (104, [some (.inr (.inr (some (3, a0)))), some (.inr (.inr (some (8, a1)))), some (.inl (((am_si m 3 a0 1 ((m.1 3 a0 1) - (1 : Int32))).1 3 a0 1) * (13 : Int32)))], [.inl ((((am_si m 3 a0 1 ((m.1 3 a0 1) - (1 : Int32))).1 3 a0 1) * (13 : Int32)) + (0 : Int32)), .inr (.inr (some (24, a0)))], am_mk r8)) rfl ?_
    obtain ⟨hg10, h⟩ := am_ck_some h
    refine am_Go.c1 htb (S' := (105, [some (.inr (.inr (some (3, a0)))), some (.inr (.inr (some (8, a1)))), some (.inl (((am_si m 3 a0 1 ((m.1 3 a0 1) - (1 : Int32))).1 3 a0 1) * (13 : Int32)))], [.inl (r8.1 24 a0 ((((am_si m 3 a0 1 ((m.1 3 a0 1) - (1 : Int32))).1 3 a0 1) * (13 : Int32)) + (0 : Int32)).toNatClampNeg)], am_mk r8)) (if_neg hg10) ?_
    cases h
    exact am_Go.rt htb rfl
  · rw [if_neg hc1] at h
    refine am_Go.c1 htb (S' := (8, [some (.inr (.inr (some (3, a0)))), some (.inr (.inr (some (8, a1)))), none], [], am_mk m)) (if_neg hc1) ?_
    refine am_Go.n htb 1 (S' := (10, [some (.inr (.inr (some (3, a0)))), some (.inr (.inr (some (8, a1)))), none], [.inl (-3)], am_mk m)) rfl ?_
    cases h
    exact am_Go.rt htb rfl
-- X4_addToken
set_option maxRecDepth 100000 in
theorem ex_X4_addToken (d : Nat) (hd : 1 ≤ d) (a1 : Int32) (a2 : Int32) (a3 : Int32) (m : am_m) (t : am_m) (h : fn_X4_addToken a1 a2 a3 m = some t) : am_Ex am_cod d 37 [.inr (.inr (some (4, 0))), .inl a1, .inl a2, .inl a3] (am_mk m) (none) (am_mk t) 0 0 := by
  obtain ⟨d, rfl⟩ : ∃ e, d = e + 1 := ⟨d - 1, by omega⟩
  have htb : am_tab 37 = at_37 := rfl
  refine ⟨Nat.le_of_ble_eq_true rfl, ?_⟩
  unfold fn_X4_addToken at h
  show am_Go d 37 (0, [some (.inr (.inr (some (4, 0)))), some (.inl a1), some (.inl a2), some (.inl a3)], [], am_mk m) _ _ 0 0
  refine am_Go.n htb 3 (S' := (7, [some (.inr (.inr (some (4, 0)))), some (.inl a1), some (.inl a2), some (.inl a3)], [.inl 401, .inl (m.1 4 0 4)], am_mk m)) rfl ?_
  by_cases hc1 : (401 : Int32) ≤ (m.1 4 0 4)
  · rw [if_pos hc1] at h
    refine am_Go.c1 htb (S' := (50, [some (.inr (.inr (some (4, 0)))), some (.inl a1), some (.inl a2), some (.inl a3)], [], am_mk m)) (if_pos hc1) ?_
    cases h
    exact am_Go.rt htb rfl
  · rw [if_neg hc1] at h
    refine am_Go.c1 htb (S' := (10, [some (.inr (.inr (some (4, 0)))), some (.inl a1), some (.inl a2), some (.inl a3)], [], am_mk m)) (if_neg hc1) ?_
    refine am_Go.n htb 5 (S' := (19, [some (.inr (.inr (some (4, 0)))), some (.inl a1), some (.inl a2), some (.inl a3)], [.inl a1, .inl (m.1 4 0 4), .inr (.inr (some (25, 0)))], am_mk m)) rfl ?_
    obtain ⟨hg2, h⟩ := am_ck_some h
    refine am_Go.c1 htb (S' := (20, [some (.inr (.inr (some (4, 0)))), some (.inl a1), some (.inl a2), some (.inl a3)], [], am_mk (am_si m 25 0 (m.1 4 0 4).toNatClampNeg a1))) (if_neg hg2) ?_
    refine am_Go.n htb 5 (S' := (29, [some (.inr (.inr (some (4, 0)))), some (.inl a1), some (.inl a2), some (.inl a3)], [.inl a2, .inl (m.1 4 0 4), .inr (.inr (some (26, 0)))], am_mk (am_si m 25 0 (m.1 4 0 4).toNatClampNeg a1))) rfl ?_
    obtain ⟨hg3, h⟩ := am_ck_some h
    refine am_Go.c1 htb (S' := (30, [some (.inr (.inr (some (4, 0)))), some (.inl a1), some (.inl a2), some (.inl a3)], [], am_mk (am_si (am_si m 25 0 (m.1 4 0 4).toNatClampNeg a1) 26 0 (m.1 4 0 4).toNatClampNeg a2))) (if_neg hg3) ?_
    refine am_Go.n htb 5 (S' := (39, [some (.inr (.inr (some (4, 0)))), some (.inl a1), some (.inl a2), some (.inl a3)], [.inl a3, .inl (m.1 4 0 4), .inr (.inr (some (27, 0)))], am_mk (am_si (am_si m 25 0 (m.1 4 0 4).toNatClampNeg a1) 26 0 (m.1 4 0 4).toNatClampNeg a2))) rfl ?_
    obtain ⟨hg4, h⟩ := am_ck_some h
    refine am_Go.c1 htb (S' := (40, [some (.inr (.inr (some (4, 0)))), some (.inl a1), some (.inl a2), some (.inl a3)], [], am_mk (am_si (am_si (am_si m 25 0 (m.1 4 0 4).toNatClampNeg a1) 26 0 (m.1 4 0 4).toNatClampNeg a2) 27 0 (m.1 4 0 4).toNatClampNeg a3))) (if_neg hg4) ?_
    refine am_Go.n htb 6 (S' := (50, [some (.inr (.inr (some (4, 0)))), some (.inl a1), some (.inl a2), some (.inl a3)], [], am_mk (am_si (am_si (am_si (am_si m 25 0 (m.1 4 0 4).toNatClampNeg a1) 26 0 (m.1 4 0 4).toNatClampNeg a2) 27 0 (m.1 4 0 4).toNatClampNeg a3) 4 0 4 ((m.1 4 0 4) + (1 : Int32))))) rfl ?_
    cases h
    exact am_Go.rt htb rfl
-- X4_isLetter
set_option maxRecDepth 100000 in
theorem ex_X4_isLetter (d : Nat) (hd : 1 ≤ d) (a1 : Int32) (m : am_m) (t : Int32) (h : fn_X4_isLetter a1 m = some t) : am_Ex am_cod d 38 [.inl a1] (am_mk m) (some (.inl t)) (am_mk m) 0 0 := by
  obtain ⟨d, rfl⟩ : ∃ e, d = e + 1 := ⟨d - 1, by omega⟩
  have htb : am_tab 38 = at_38 := rfl
  refine ⟨Nat.le_of_ble_eq_true rfl, ?_⟩
  unfold fn_X4_isLetter at h
  show am_Go d 38 (0, [some (.inl a1)], [], am_mk m) _ _ 0 0
  refine am_Go.n htb 2 (S' := (3, [some (.inl a1)], [.inl 97, .inl a1], am_mk m)) rfl ?_
  by_cases hc1 : a1 < (97 : Int32)
  · rw [if_pos hc1] at h
    refine am_Go.c1 htb (S' := (16, [some (.inl a1)], [], am_mk m)) (if_pos hc1) ?_
    refine am_Go.n htb 1 (S' := (17, [some (.inl a1)], [.inl 0], am_mk m)) rfl ?_
    cases h
    exact am_Go.rt htb rfl
  · rw [if_neg hc1] at h
    refine am_Go.c1 htb (S' := (6, [some (.inl a1)], [], am_mk m)) (if_neg hc1) ?_
    refine am_Go.n htb 2 (S' := (9, [some (.inl a1)], [.inl 122, .inl a1], am_mk m)) rfl ?_
    by_cases hc2 : (122 : Int32) < a1
    · rw [if_pos hc2] at h
      refine am_Go.c1 htb (S' := (16, [some (.inl a1)], [], am_mk m)) (if_pos hc2) ?_
      refine am_Go.n htb 1 (S' := (17, [some (.inl a1)], [.inl 0], am_mk m)) rfl ?_
      cases h
      exact am_Go.rt htb rfl
    · rw [if_neg hc2] at h
      refine am_Go.c1 htb (S' := (12, [some (.inl a1)], [], am_mk m)) (if_neg hc2) ?_
      refine am_Go.n htb 2 (S' := (17, [some (.inl a1)], [.inl 1], am_mk m)) rfl ?_
      cases h
      exact am_Go.rt htb rfl
-- X4_isDigit
set_option maxRecDepth 100000 in
theorem ex_X4_isDigit (d : Nat) (hd : 1 ≤ d) (a1 : Int32) (m : am_m) (t : Int32) (h : fn_X4_isDigit a1 m = some t) : am_Ex am_cod d 39 [.inl a1] (am_mk m) (some (.inl t)) (am_mk m) 0 0 := by
  obtain ⟨d, rfl⟩ : ∃ e, d = e + 1 := ⟨d - 1, by omega⟩
  have htb : am_tab 39 = at_39 := rfl
  refine ⟨Nat.le_of_ble_eq_true rfl, ?_⟩
  unfold fn_X4_isDigit at h
  show am_Go d 39 (0, [some (.inl a1)], [], am_mk m) _ _ 0 0
  refine am_Go.n htb 2 (S' := (3, [some (.inl a1)], [.inl 48, .inl a1], am_mk m)) rfl ?_
  by_cases hc1 : a1 < (48 : Int32)
  · rw [if_pos hc1] at h
    refine am_Go.c1 htb (S' := (16, [some (.inl a1)], [], am_mk m)) (if_pos hc1) ?_
    refine am_Go.n htb 1 (S' := (17, [some (.inl a1)], [.inl 0], am_mk m)) rfl ?_
    cases h
    exact am_Go.rt htb rfl
  · rw [if_neg hc1] at h
    refine am_Go.c1 htb (S' := (6, [some (.inl a1)], [], am_mk m)) (if_neg hc1) ?_
    refine am_Go.n htb 2 (S' := (9, [some (.inl a1)], [.inl 57, .inl a1], am_mk m)) rfl ?_
    by_cases hc2 : (57 : Int32) < a1
    · rw [if_pos hc2] at h
      refine am_Go.c1 htb (S' := (16, [some (.inl a1)], [], am_mk m)) (if_pos hc2) ?_
      refine am_Go.n htb 1 (S' := (17, [some (.inl a1)], [.inl 0], am_mk m)) rfl ?_
      cases h
      exact am_Go.rt htb rfl
    · rw [if_neg hc2] at h
      refine am_Go.c1 htb (S' := (12, [some (.inl a1)], [], am_mk m)) (if_neg hc2) ?_
      refine am_Go.n htb 2 (S' := (17, [some (.inl a1)], [.inl 1], am_mk m)) rfl ?_
      cases h
      exact am_Go.rt htb rfl
-- X7_byteAt
set_option maxRecDepth 100000 in
theorem ex_X7_byteAt (d : Nat) (hd : 1 ≤ d) (a1 : Int32) (m : am_m) (t : Int32) (h : fn_X7_byteAt a1 m = some t) : am_Ex am_cod d 95 [.inr (.inr (some (7, 0))), .inl a1] (am_mk m) (some (.inl t)) (am_mk m) 0 0 := by
  obtain ⟨d, rfl⟩ : ∃ e, d = e + 1 := ⟨d - 1, by omega⟩
  have htb : am_tab 95 = at_95 := rfl
  refine ⟨Nat.le_of_ble_eq_true rfl, ?_⟩
  unfold fn_X7_byteAt at h
  show am_Go d 95 (0, [some (.inr (.inr (some (7, 0)))), some (.inl a1)], [], am_mk m) _ _ 0 0
  refine am_Go.n htb 1 (S' := (1, [some (.inr (.inr (some (7, 0)))), some (.inl a1)], [.inl a1], am_mk m)) rfl ?_
  by_cases hc1 : a1 < 0
  · rw [if_pos hc1] at h
    refine am_Go.c1 htb (S' := (21, [some (.inr (.inr (some (7, 0)))), some (.inl a1)], [], am_mk m)) (if_pos hc1) ?_
    refine am_Go.n htb 1 (S' := (22, [some (.inr (.inr (some (7, 0)))), some (.inl a1)], [.inl (-1)], am_mk m)) rfl ?_
    cases h
    exact am_Go.rt htb rfl
  · rw [if_neg hc1] at h
    refine am_Go.c1 htb (S' := (4, [some (.inr (.inr (some (7, 0)))), some (.inl a1)], [], am_mk m)) (if_neg hc1) ?_
    refine am_Go.n htb 3 (S' := (9, [some (.inr (.inr (some (7, 0)))), some (.inl a1)], [.inl (m.1 7 0 1), .inl a1], am_mk m)) rfl ?_
    by_cases hc2 : (m.1 7 0 1) ≤ a1
    · rw [if_pos hc2] at h
      refine am_Go.c1 htb (S' := (21, [some (.inr (.inr (some (7, 0)))), some (.inl a1)], [], am_mk m)) (if_pos hc2) ?_
      refine am_Go.n htb 1 (S' := (22, [some (.inr (.inr (some (7, 0)))), some (.inl a1)], [.inl (-1)], am_mk m)) rfl ?_
      cases h
      exact am_Go.rt htb rfl
    · rw [if_neg hc2] at h
      refine am_Go.c1 htb (S' := (12, [some (.inr (.inr (some (7, 0)))), some (.inl a1)], [], am_mk m)) (if_neg hc2) ?_
      refine am_Go.n htb 3 (S' := (17, [some (.inr (.inr (some (7, 0)))), some (.inl a1)], [.inl a1, .inr (.inr (some (35, 0)))], am_mk m)) rfl ?_
      obtain ⟨hg3, h⟩ := am_ck_some h
      refine am_Go.c1 htb (S' := (18, [some (.inr (.inr (some (7, 0)))), some (.inl a1)], [.inl (m.1 35 0 a1.toNatClampNeg)], am_mk m)) (if_neg hg3) ?_
      refine am_Go.n htb 1 (S' := (22, [some (.inr (.inr (some (7, 0)))), some (.inl a1)], [.inl (m.1 35 0 a1.toNatClampNeg)], am_mk m)) rfl ?_
      cases h
      exact am_Go.rt htb rfl
-- X4_numberOf
set_option maxRecDepth 100000 in
theorem lt_X4_numberOf_5 (d : Nat) (hd : 2 ≤ d + 1) {r : Option am_V} {M' : am_M} {kc ks : Nat} {n : Nat} {x2 : Int32} {x3 : Int32} {x4 : Int32} {m : am_m} {t : Int32} (h : lp_X4_numberOf_5 n x2 x3 x4 m = some t) (hk : am_Go d 40 (38, [some (.inr (.inr (some (7, 0)))), none, some (.inl x2), some (.inl t), none], [], am_mk m) r M' kc ks) : am_Go d 40 (5, [some (.inr (.inr (some (7, 0)))), none, some (.inl x2), some (.inl x3), some (.inl x4)], [], am_mk m) r M' kc ks := by
  have htb : am_tab 40 = at_40 := rfl
  induction n generalizing x3 x4 with
  | zero => cases h
  | succ n ih =>
    unfold lp_X4_numberOf_5 at h
    refine am_Go.n htb 2 (S' := (8, [some (.inr (.inr (some (7, 0)))), none, some (.inl x2), some (.inl x3), some (.inl x4)], [.inl x2, .inl x4], am_mk m)) rfl ?_
    by_cases hc1 : x2 ≤ x4
    · rw [if_pos hc1] at h
      refine am_Go.c1 htb (S' := (38, [some (.inr (.inr (some (7, 0)))), none, some (.inl x2), some (.inl x3), some (.inl x4)], [], am_mk m)) (if_pos hc1) ?_
      cases h
      exact am_Go.fg (by exact ⟨rfl, ⟨rfl, ⟨rfl, trivial⟩⟩⟩) hk
    · rw [if_neg hc1] at h
      refine am_Go.c1 htb (S' := (11, [some (.inr (.inr (some (7, 0)))), none, some (.inl x2), some (.inl x3), some (.inl x4)], [], am_mk m)) (if_neg hc1) ?_
      refine am_Go.n htb 6 (S' := (21, [some (.inr (.inr (some (7, 0)))), none, some (.inl x2), some (.inl x3), some (.inl x4)], [.inl x4, .inr (.inr (some (7, 0))), .inl (x3 * (10 : Int32)), .inl 1001], am_mk m)) rfl ?_
      obtain ⟨r2, h3, h⟩ := am_bd h
      refine am_Go.cl htb rfl (ex_X7_byteAt d (by omega) x4 m r2 h3) ?_
      show am_Go d 40 (24, [some (.inr (.inr (some (7, 0)))), none, some (.inl x2), some (.inl x3), some (.inl x4)], [.inl r2, .inl (x3 * (10 : Int32)), .inl 1001], am_mk m) _ _ _ _
      refine am_Go.n htb 3 (S' := (28, [some (.inr (.inr (some (7, 0)))), none, some (.inl x2), some (.inl x3), some (.inl x4)], [.inl (((x3 * (10 : Int32)) + r2) - (48 : Int32)), .inl 1001], am_mk m)) rfl ?_
      obtain ⟨r4, h5, h⟩ := am_bd h
      refine am_Go.cl htb rfl (ex_J9_min_7cf53 d (by omega) 1001 (((x3 * (10 : Int32)) + r2) - (48 : Int32)) m r4 h5) ?_
      show am_Go d 40 (31, [some (.inr (.inr (some (7, 0)))), none, some (.inl x2), some (.inl x3), some (.inl x4)], [.inl r4], am_mk m) _ _ _ _
      refine am_Go.n htb 3 (S' := (5, [some (.inr (.inr (some (7, 0)))), none, some (.inl x2), some (.inl r4), some (.inl (x4 + 1))], [], am_mk m)) rfl ?_
      first | exact ih h | exact ih h hk
set_option maxRecDepth 100000 in
theorem ex_X4_numberOf (d : Nat) (hd : 2 ≤ d) (a2 : Int32) (a3 : Int32) (m : am_m) (t : Int32) (h : fn_X4_numberOf a2 a3 m = some t) : am_Ex am_cod d 40 [.inr (.inr (some (7, 0))), .inl a2, .inl a3] (am_mk m) (some (.inl t)) (am_mk m) 0 0 := by
  obtain ⟨d, rfl⟩ : ∃ e, d = e + 1 := ⟨d - 1, by omega⟩
  have htb : am_tab 40 = at_40 := rfl
  refine ⟨Nat.le_of_ble_eq_true rfl, ?_⟩
  unfold fn_X4_numberOf at h
  show am_Go d 40 (0, [some (.inr (.inr (some (7, 0)))), some (.inl a2), some (.inl a3), none, none], [], am_mk m) _ _ 0 0
  refine am_Go.n htb 4 (S' := (5, [some (.inr (.inr (some (7, 0)))), some (.inl a2), some (.inl a3), some (.inl 0), some (.inl a2)], [], am_mk m)) rfl ?_
  refine am_Go.fg (L0 := [some (.inr (.inr (some (7, 0)))), none, some (.inl a3), some (.inl 0), some (.inl a2)]) (by exact ⟨rfl, ⟨rfl, ⟨rfl, ⟨rfl, trivial⟩⟩⟩⟩) ?_
  obtain ⟨q6, h7, h⟩ := am_bd h
  refine lt_X4_numberOf_5 _ hd (h := h7) (hk := ?_)
  refine am_Go.n htb 1 (S' := (39, [some (.inr (.inr (some (7, 0)))), none, some (.inl a3), some (.inl q6), none], [.inl q6], am_mk m)) rfl ?_
  cases h
  exact am_Go.rt htb rfl
-- X4_isSame
set_option maxRecDepth 100000 in
theorem lt_X4_isSame_3 (d : Nat) (hd : 2 ≤ d + 1) {r : Option am_V} {M' : am_M} {kc ks : Nat} {n : Nat} {x1 : Int32} {x2 : Int32} {x3 : Int32} {x4 : Int32} {m : am_m} {t : Sum (Unit) (Int32)} (h : lp_X4_isSame_3 n x1 x2 x3 x4 m = some t) (hk : ∀ t', t = .inl t' → am_Go d 42 (37, [some (.inr (.inr (some (7, 0)))), some (.inl x1), some (.inl x2), some (.inl x3), none], [], am_mk m) r M' kc ks) (hr : ∀ t', t = .inr t' → r = some (.inl t') ∧ M' = am_mk m ∧ kc = 0 ∧ ks = 0) : am_Go d 42 (3, [some (.inr (.inr (some (7, 0)))), some (.inl x1), some (.inl x2), some (.inl x3), some (.inl x4)], [], am_mk m) r M' kc ks := by
  have htb : am_tab 42 = at_42 := rfl
  induction n generalizing x4 with
  | zero => cases h
  | succ n ih =>
    unfold lp_X4_isSame_3 at h
    refine am_Go.n htb 2 (S' := (6, [some (.inr (.inr (some (7, 0)))), some (.inl x1), some (.inl x2), some (.inl x3), some (.inl x4)], [.inl x3, .inl x4], am_mk m)) rfl ?_
    by_cases hc1 : x3 ≤ x4
    · rw [if_pos hc1] at h
      refine am_Go.c1 htb (S' := (37, [some (.inr (.inr (some (7, 0)))), some (.inl x1), some (.inl x2), some (.inl x3), some (.inl x4)], [], am_mk m)) (if_pos hc1) ?_
      cases h
      exact am_Go.fg (by exact ⟨rfl, ⟨rfl, ⟨rfl, ⟨rfl, trivial⟩⟩⟩⟩) (hk _ rfl)
    · rw [if_neg hc1] at h
      refine am_Go.c1 htb (S' := (9, [some (.inr (.inr (some (7, 0)))), some (.inl x1), some (.inl x2), some (.inl x3), some (.inl x4)], [], am_mk m)) (if_neg hc1) ?_
      refine am_Go.n htb 4 (S' := (14, [some (.inr (.inr (some (7, 0)))), some (.inl x1), some (.inl x2), some (.inl x3), some (.inl x4)], [.inl (x1 + x4), .inr (.inr (some (7, 0)))], am_mk m)) rfl ?_
      obtain ⟨r2, h3, h⟩ := am_bd h
      refine am_Go.cl htb rfl (ex_X7_byteAt d (by omega) (x1 + x4) m r2 h3) ?_
      show am_Go d 42 (17, [some (.inr (.inr (some (7, 0)))), some (.inl x1), some (.inl x2), some (.inl x3), some (.inl x4)], [.inl r2], am_mk m) _ _ _ _
      obtain ⟨hg4, h⟩ := am_ck_some h
      refine am_Go.c1 htb (S' := (26, [some (.inr (.inr (some (7, 0)))), some (.inl x1), some (.inl x2), some (.inl x3), some (.inl x4)], [.inl (am_ch (x2 + x4)), .inl r2], am_mk m)) (if_neg hg4) ?_
      by_cases hc5 : r2 = (am_ch (x2 + x4))
      · rw [if_pos hc5] at h
        refine am_Go.c1 htb (S' := (31, [some (.inr (.inr (some (7, 0)))), some (.inl x1), some (.inl x2), some (.inl x3), some (.inl x4)], [], am_mk m)) (if_pos hc5) ?_
        refine am_Go.n htb 2 (S' := (3, [some (.inr (.inr (some (7, 0)))), some (.inl x1), some (.inl x2), some (.inl x3), some (.inl (x4 + 1))], [], am_mk m)) rfl ?_
        first | exact ih h | exact ih h hk | exact ih h hr | exact ih h hk hr
      · rw [if_neg hc5] at h
        refine am_Go.c1 htb (S' := (29, [some (.inr (.inr (some (7, 0)))), some (.inl x1), some (.inl x2), some (.inl x3), some (.inl x4)], [], am_mk m)) (if_neg hc5) ?_
        refine am_Go.n htb 1 (S' := (30, [some (.inr (.inr (some (7, 0)))), some (.inl x1), some (.inl x2), some (.inl x3), some (.inl x4)], [.inl 0], am_mk m)) rfl ?_
        cases h
        obtain ⟨rfl, rfl, rfl, rfl⟩ := hr _ rfl
        exact am_Go.rt htb rfl
set_option maxRecDepth 100000 in
theorem ex_X4_isSame (d : Nat) (hd : 2 ≤ d) (a2 : Int32) (a3 : Int32) (a4 : Int32) (m : am_m) (t : Int32) (h : fn_X4_isSame a2 a3 a4 m = some t) : am_Ex am_cod d 42 [.inr (.inr (some (7, 0))), .inl a2, .inl a3, .inl a4] (am_mk m) (some (.inl t)) (am_mk m) 0 0 := by
  obtain ⟨d, rfl⟩ : ∃ e, d = e + 1 := ⟨d - 1, by omega⟩
  have htb : am_tab 42 = at_42 := rfl
  refine ⟨Nat.le_of_ble_eq_true rfl, ?_⟩
  unfold fn_X4_isSame at h
  show am_Go d 42 (0, [some (.inr (.inr (some (7, 0)))), some (.inl a2), some (.inl a3), some (.inl a4), none], [], am_mk m) _ _ 0 0
  refine am_Go.n htb 2 (S' := (3, [some (.inr (.inr (some (7, 0)))), some (.inl a2), some (.inl a3), some (.inl a4), some (.inl 0)], [], am_mk m)) rfl ?_
  obtain ⟨w9, h7, h⟩ := am_bd h
  refine lt_X4_isSame_3 _ hd (h := h7) (hk := ?_) (hr := ?_)
  · intro q6 he
    subst he
    dsimp only at h
    refine am_Go.n htb 1 (S' := (38, [some (.inr (.inr (some (7, 0)))), some (.inl a2), some (.inl a3), some (.inl a4), none], [.inl 1], am_mk m)) rfl ?_
    cases h
    exact am_Go.rt htb rfl
  · intro rr8 he
    subst he
    cases h
    exact ⟨rfl, rfl, rfl, rfl⟩
-- X4_wordOf
set_option maxRecDepth 100000 in
theorem lt_X4_wordOf_10 (d : Nat) (hd : 3 ≤ d + 1) {r : Option am_V} {M' : am_M} {kc ks : Nat} {n : Nat} {x1 : Int32} {x2 : Int32} {x3 : Int32} {x4 : Int32} {x5 : Int32} {m : am_m} {t : Sum (Unit) (Int32)} (h : lp_X4_wordOf_10 n x1 x2 x3 x4 x5 m = some t) (hk : ∀ t', t = .inl t' → am_Go d 41 (75, [some (.inr (.inr (some (7, 0)))), some (.inl x1), some (.inl x2), none, none, none], [], am_mk m) r M' kc ks) (hr : ∀ t', t = .inr t' → r = some (.inl t') ∧ M' = am_mk m ∧ kc = 0 ∧ ks = 0) : am_Go d 41 (10, [some (.inr (.inr (some (7, 0)))), some (.inl x1), some (.inl x2), some (.inl x3), some (.inl x4), some (.inl x5)], [], am_mk m) r M' kc ks := by
  have htb : am_tab 41 = at_41 := rfl
  induction n generalizing x3 x4 x5 with
  | zero => cases h
  | succ n ih =>
    unfold lp_X4_wordOf_10 at h
    refine am_Go.n htb 1 (S' := (12, [some (.inr (.inr (some (7, 0)))), some (.inl x1), some (.inl x2), some (.inl x3), some (.inl x4), some (.inl x5)], [.inl x5], am_mk m)) rfl ?_
    refine am_Go.c1 htb (S' := (17, [some (.inr (.inr (some (7, 0)))), some (.inl x1), some (.inl x2), some (.inl x3), some (.inl x4), some (.inl x5)], [.inl 145, .inl x5], am_mk m)) rfl ?_
    by_cases hc1 : (145 : Int32) ≤ x5
    · rw [if_pos hc1] at h
      refine am_Go.c1 htb (S' := (75, [some (.inr (.inr (some (7, 0)))), some (.inl x1), some (.inl x2), some (.inl x3), some (.inl x4), some (.inl x5)], [], am_mk m)) (if_pos hc1) ?_
      cases h
      exact am_Go.fg (by exact ⟨rfl, ⟨rfl, ⟨rfl, trivial⟩⟩⟩) (hk _ rfl)
    · rw [if_neg hc1] at h
      refine am_Go.c1 htb (S' := (20, [some (.inr (.inr (some (7, 0)))), some (.inl x1), some (.inl x2), some (.inl x3), some (.inl x4), some (.inl x5)], [], am_mk m)) (if_neg hc1) ?_
      obtain ⟨hg2, h⟩ := am_ck_some h
      refine am_Go.c1 htb (S' := (27, [some (.inr (.inr (some (7, 0)))), some (.inl x1), some (.inl x2), some (.inl x3), some (.inl x4), some (.inl x5)], [.inl (am_ch x5)], am_mk m)) (if_neg hg2) ?_
      refine am_Go.n htb 1 (S' := (29, [some (.inr (.inr (some (7, 0)))), some (.inl x1), some (.inl x2), some (.inl x3), some (.inl x4), some (.inl x5)], [.inl 32, .inl (am_ch x5)], am_mk m)) rfl ?_
      by_cases hc3 : (am_ch x5) ≠ (32 : Int32)
      · rw [if_pos hc3] at h
        refine am_Go.c1 htb (S' := (69, [some (.inr (.inr (some (7, 0)))), some (.inl x1), some (.inl x2), some (.inl x3), some (.inl x4), some (.inl x5)], [], am_mk m)) (if_pos hc3) ?_
        refine am_Go.n htb 2 (S' := (10, [some (.inr (.inr (some (7, 0)))), some (.inl x1), some (.inl x2), some (.inl x3), some (.inl x4), some (.inl (x5 + 1))], [], am_mk m)) rfl ?_
        first | exact ih h | exact ih h hk | exact ih h hr | exact ih h hk hr
      · rw [if_neg hc3] at h
        refine am_Go.c1 htb (S' := (32, [some (.inr (.inr (some (7, 0)))), some (.inl x1), some (.inl x2), some (.inl x3), some (.inl x4), some (.inl x5)], [], am_mk m)) (if_neg hc3) ?_
        refine am_Go.n htb 6 (S' := (40, [some (.inr (.inr (some (7, 0)))), some (.inl x1), some (.inl x2), some (.inl x3), some (.inl x4), some (.inl x5)], [.inl (x2 - x1), .inl (x5 - x4)], am_mk m)) rfl ?_
        by_cases hc4 : (x5 - x4) ≠ (x2 - x1)
        · rw [if_pos hc4] at h
          refine am_Go.c1 htb (S' := (60, [some (.inr (.inr (some (7, 0)))), some (.inl x1), some (.inl x2), some (.inl x3), some (.inl x4), some (.inl x5)], [], am_mk m)) (if_pos hc4) ?_
          refine am_Go.n htb 7 (S' := (10, [some (.inr (.inr (some (7, 0)))), some (.inl x1), some (.inl x2), some (.inl (x3 + 1)), some (.inl (x5 + (1 : Int32))), some (.inl (x5 + 1))], [], am_mk m)) rfl ?_
          first | exact ih h | exact ih h hk | exact ih h hr | exact ih h hk hr
        · rw [if_neg hc4] at h
          refine am_Go.c1 htb (S' := (43, [some (.inr (.inr (some (7, 0)))), some (.inl x1), some (.inl x2), some (.inl x3), some (.inl x4), some (.inl x5)], [], am_mk m)) (if_neg hc4) ?_
          refine am_Go.n htb 6 (S' := (52, [some (.inr (.inr (some (7, 0)))), some (.inl x1), some (.inl x2), some (.inl x3), some (.inl x4), some (.inl x5)], [.inl (x5 - x4), .inl x4, .inl x1, .inr (.inr (some (7, 0)))], am_mk m)) rfl ?_
          obtain ⟨r5, h6, h⟩ := am_bd h
          refine am_Go.cl htb rfl (ex_X4_isSame d (by omega) x1 x4 (x5 - x4) m r5 h6) ?_
          show am_Go d 41 (55, [some (.inr (.inr (some (7, 0)))), some (.inl x1), some (.inl x2), some (.inl x3), some (.inl x4), some (.inl x5)], [.inl r5], am_mk m) _ _ _ _
          by_cases hc7 : r5 = 0
          · rw [if_pos hc7] at h
            refine am_Go.c1 htb (S' := (60, [some (.inr (.inr (some (7, 0)))), some (.inl x1), some (.inl x2), some (.inl x3), some (.inl x4), some (.inl x5)], [], am_mk m)) (if_pos hc7) ?_
            refine am_Go.n htb 7 (S' := (10, [some (.inr (.inr (some (7, 0)))), some (.inl x1), some (.inl x2), some (.inl (x3 + 1)), some (.inl (x5 + (1 : Int32))), some (.inl (x5 + 1))], [], am_mk m)) rfl ?_
            first | exact ih h | exact ih h hk | exact ih h hr | exact ih h hk hr
          · rw [if_neg hc7] at h
            refine am_Go.c1 htb (S' := (58, [some (.inr (.inr (some (7, 0)))), some (.inl x1), some (.inl x2), some (.inl x3), some (.inl x4), some (.inl x5)], [], am_mk m)) (if_neg hc7) ?_
            refine am_Go.n htb 1 (S' := (59, [some (.inr (.inr (some (7, 0)))), some (.inl x1), some (.inl x2), some (.inl x3), some (.inl x4), some (.inl x5)], [.inl x3], am_mk m)) rfl ?_
            cases h
            obtain ⟨rfl, rfl, rfl, rfl⟩ := hr _ rfl
            exact am_Go.rt htb rfl
set_option maxRecDepth 100000 in
theorem ex_X4_wordOf (d : Nat) (hd : 3 ≤ d) (a2 : Int32) (a3 : Int32) (m : am_m) (t : Int32) (h : fn_X4_wordOf a2 a3 m = some t) : am_Ex am_cod d 41 [.inr (.inr (some (7, 0))), .inl a2, .inl a3] (am_mk m) (some (.inl t)) (am_mk m) 0 0 := by
  obtain ⟨d, rfl⟩ : ∃ e, d = e + 1 := ⟨d - 1, by omega⟩
  have htb : am_tab 41 = at_41 := rfl
  refine ⟨Nat.le_of_ble_eq_true rfl, ?_⟩
  unfold fn_X4_wordOf at h
  show am_Go d 41 (0, [some (.inr (.inr (some (7, 0)))), some (.inl a2), some (.inl a3), none, none, none], [], am_mk m) _ _ 0 0
  refine am_Go.n htb 6 (S' := (10, [some (.inr (.inr (some (7, 0)))), some (.inl a2), some (.inl a3), some (.inl 259), some (.inl 0), some (.inl 0)], [], am_mk m)) rfl ?_
  obtain ⟨w11, h9, h⟩ := am_bd h
  refine lt_X4_wordOf_10 _ hd (h := h9) (hk := ?_) (hr := ?_)
  · intro q8 he
    subst he
    dsimp only at h
    refine am_Go.n htb 1 (S' := (78, [some (.inr (.inr (some (7, 0)))), some (.inl a2), some (.inl a3), none, none, none], [.inl 258], am_mk m)) rfl ?_
    cases h
    exact am_Go.rt htb rfl
  · intro rr10 he
    subst he
    cases h
    exact ⟨rfl, rfl, rfl, rfl⟩
-- X4_split
set_option maxRecDepth 100000 in
theorem lt_X4_split_83 (d : Nat) (hd : 4 ≤ d + 1) {r : Option am_V} {M' : am_M} {kc ks : Nat} {n : Nat} {x2 : Int32} {x3 : Int32} {m : am_m} {t : Int32} (h : lp_X4_split_83 n x2 x3 m = some t) (hk : am_Go d 36 (108, [some (.inr (.inr (some (4, 0)))), some (.inr (.inr (some (7, 0)))), some (.inl t), some (.inl x3), none], [], am_mk m) r M' kc ks) : am_Go d 36 (83, [some (.inr (.inr (some (4, 0)))), some (.inr (.inr (some (7, 0)))), some (.inl x2), some (.inl x3), none], [], am_mk m) r M' kc ks := by
  have htb : am_tab 36 = at_36 := rfl
  induction n generalizing x2 with
  | zero => cases h
  | succ n ih =>
    unfold lp_X4_split_83 at h
    refine am_Go.n htb 3 (S' := (88, [some (.inr (.inr (some (4, 0)))), some (.inr (.inr (some (7, 0)))), some (.inl x2), some (.inl x3), none], [.inl (m.1 7 0 1), .inl x2], am_mk m)) rfl ?_
    by_cases hc13 : (m.1 7 0 1) ≤ x2
    · rw [if_pos hc13] at h
      refine am_Go.c1 htb (S' := (108, [some (.inr (.inr (some (4, 0)))), some (.inr (.inr (some (7, 0)))), some (.inl x2), some (.inl x3), none], [], am_mk m)) (if_pos hc13) ?_
      cases h
      exact am_Go.fg (by exact ⟨rfl, ⟨rfl, ⟨rfl, ⟨rfl, trivial⟩⟩⟩⟩) hk
    · rw [if_neg hc13] at h
      refine am_Go.c1 htb (S' := (91, [some (.inr (.inr (some (4, 0)))), some (.inr (.inr (some (7, 0)))), some (.inl x2), some (.inl x3), none], [], am_mk m)) (if_neg hc13) ?_
      refine am_Go.n htb 2 (S' := (93, [some (.inr (.inr (some (4, 0)))), some (.inr (.inr (some (7, 0)))), some (.inl x2), some (.inl x3), none], [.inl x2, .inr (.inr (some (7, 0)))], am_mk m)) rfl ?_
      obtain ⟨r14, h15, h⟩ := am_bd h
      refine am_Go.cl htb rfl (ex_X7_byteAt d (by omega) x2 m r14 h15) ?_
      show am_Go d 36 (96, [some (.inr (.inr (some (4, 0)))), some (.inr (.inr (some (7, 0)))), some (.inl x2), some (.inl x3), none], [.inl r14], am_mk m) _ _ _ _
      obtain ⟨r16, h17, h⟩ := am_bd h
      refine am_Go.cl htb rfl (ex_X4_isDigit d (by omega) r14 m r16 h17) ?_
      show am_Go d 36 (99, [some (.inr (.inr (some (4, 0)))), some (.inr (.inr (some (7, 0)))), some (.inl x2), some (.inl x3), none], [.inl r16], am_mk m) _ _ _ _
      by_cases hc18 : r16 = 0
      · rw [if_pos hc18] at h
        refine am_Go.c1 htb (S' := (108, [some (.inr (.inr (some (4, 0)))), some (.inr (.inr (some (7, 0)))), some (.inl x2), some (.inl x3), none], [], am_mk m)) (if_pos hc18) ?_
        cases h
        exact am_Go.fg (by exact ⟨rfl, ⟨rfl, ⟨rfl, ⟨rfl, trivial⟩⟩⟩⟩) hk
      · rw [if_neg hc18] at h
        refine am_Go.c1 htb (S' := (102, [some (.inr (.inr (some (4, 0)))), some (.inr (.inr (some (7, 0)))), some (.inl x2), some (.inl x3), none], [], am_mk m)) (if_neg hc18) ?_
        refine am_Go.n htb 2 (S' := (83, [some (.inr (.inr (some (4, 0)))), some (.inr (.inr (some (7, 0)))), some (.inl (x2 + 1)), some (.inl x3), none], [], am_mk m)) rfl ?_
        first | exact ih h | exact ih h hk
set_option maxRecDepth 100000 in
theorem lt_X4_split_35 (d : Nat) (hd : 4 ≤ d + 1) {r : Option am_V} {M' : am_M} {kc ks : Nat} {n : Nat} {x2 : Int32} {x3 : Int32} {m : am_m} {t : Int32} (h : lp_X4_split_35 n x2 x3 m = some t) (hk : am_Go d 36 (60, [some (.inr (.inr (some (4, 0)))), some (.inr (.inr (some (7, 0)))), some (.inl t), some (.inl x3), none], [], am_mk m) r M' kc ks) : am_Go d 36 (35, [some (.inr (.inr (some (4, 0)))), some (.inr (.inr (some (7, 0)))), some (.inl x2), some (.inl x3), none], [], am_mk m) r M' kc ks := by
  have htb : am_tab 36 = at_36 := rfl
  induction n generalizing x2 with
  | zero => cases h
  | succ n ih =>
    unfold lp_X4_split_35 at h
    refine am_Go.n htb 3 (S' := (40, [some (.inr (.inr (some (4, 0)))), some (.inr (.inr (some (7, 0)))), some (.inl x2), some (.inl x3), none], [.inl (m.1 7 0 1), .inl x2], am_mk m)) rfl ?_
    by_cases hc25 : (m.1 7 0 1) ≤ x2
    · rw [if_pos hc25] at h
      refine am_Go.c1 htb (S' := (60, [some (.inr (.inr (some (4, 0)))), some (.inr (.inr (some (7, 0)))), some (.inl x2), some (.inl x3), none], [], am_mk m)) (if_pos hc25) ?_
      cases h
      exact am_Go.fg (by exact ⟨rfl, ⟨rfl, ⟨rfl, ⟨rfl, trivial⟩⟩⟩⟩) hk
    · rw [if_neg hc25] at h
      refine am_Go.c1 htb (S' := (43, [some (.inr (.inr (some (4, 0)))), some (.inr (.inr (some (7, 0)))), some (.inl x2), some (.inl x3), none], [], am_mk m)) (if_neg hc25) ?_
      refine am_Go.n htb 2 (S' := (45, [some (.inr (.inr (some (4, 0)))), some (.inr (.inr (some (7, 0)))), some (.inl x2), some (.inl x3), none], [.inl x2, .inr (.inr (some (7, 0)))], am_mk m)) rfl ?_
      obtain ⟨r26, h27, h⟩ := am_bd h
      refine am_Go.cl htb rfl (ex_X7_byteAt d (by omega) x2 m r26 h27) ?_
      show am_Go d 36 (48, [some (.inr (.inr (some (4, 0)))), some (.inr (.inr (some (7, 0)))), some (.inl x2), some (.inl x3), none], [.inl r26], am_mk m) _ _ _ _
      obtain ⟨r28, h29, h⟩ := am_bd h
      refine am_Go.cl htb rfl (ex_X4_isLetter d (by omega) r26 m r28 h29) ?_
      show am_Go d 36 (51, [some (.inr (.inr (some (4, 0)))), some (.inr (.inr (some (7, 0)))), some (.inl x2), some (.inl x3), none], [.inl r28], am_mk m) _ _ _ _
      by_cases hc30 : r28 = 0
      · rw [if_pos hc30] at h
        refine am_Go.c1 htb (S' := (60, [some (.inr (.inr (some (4, 0)))), some (.inr (.inr (some (7, 0)))), some (.inl x2), some (.inl x3), none], [], am_mk m)) (if_pos hc30) ?_
        cases h
        exact am_Go.fg (by exact ⟨rfl, ⟨rfl, ⟨rfl, ⟨rfl, trivial⟩⟩⟩⟩) hk
      · rw [if_neg hc30] at h
        refine am_Go.c1 htb (S' := (54, [some (.inr (.inr (some (4, 0)))), some (.inr (.inr (some (7, 0)))), some (.inl x2), some (.inl x3), none], [], am_mk m)) (if_neg hc30) ?_
        refine am_Go.n htb 2 (S' := (35, [some (.inr (.inr (some (4, 0)))), some (.inr (.inr (some (7, 0)))), some (.inl (x2 + 1)), some (.inl x3), none], [], am_mk m)) rfl ?_
        first | exact ih h | exact ih h hk
set_option maxRecDepth 100000 in
theorem lt_X4_split_7 (d : Nat) (hd : 4 ≤ d + 1) {r : Option am_V} {M' : am_M} {kc ks : Nat} {n : Nat} {x2 : Int32} {m : am_m} {t : am_m} (h : lp_X4_split_7 n x2 m = some t) (hk : am_Go d 36 (143, [some (.inr (.inr (some (4, 0)))), some (.inr (.inr (some (7, 0)))), none, none, none], [], am_mk t) r M' kc ks) : am_Go d 36 (7, [some (.inr (.inr (some (4, 0)))), some (.inr (.inr (some (7, 0)))), some (.inl x2), none, none], [], am_mk m) r M' kc ks := by
  have htb : am_tab 36 = at_36 := rfl
  induction n generalizing x2 m with
  | zero => cases h
  | succ n ih =>
    unfold lp_X4_split_7 at h
    refine am_Go.n htb 3 (S' := (12, [some (.inr (.inr (some (4, 0)))), some (.inr (.inr (some (7, 0)))), some (.inl x2), none, none], [.inl (m.1 7 0 1), .inl x2], am_mk m)) rfl ?_
    by_cases hc1 : (m.1 7 0 1) ≤ x2
    · rw [if_pos hc1] at h
      refine am_Go.c1 htb (S' := (143, [some (.inr (.inr (some (4, 0)))), some (.inr (.inr (some (7, 0)))), some (.inl x2), none, none], [], am_mk m)) (if_pos hc1) ?_
      cases h
      exact am_Go.fg (by exact ⟨rfl, ⟨rfl, trivial⟩⟩) hk
    · rw [if_neg hc1] at h
      refine am_Go.c1 htb (S' := (15, [some (.inr (.inr (some (4, 0)))), some (.inr (.inr (some (7, 0)))), some (.inl x2), none, none], [], am_mk m)) (if_neg hc1) ?_
      refine am_Go.n htb 4 (S' := (19, [some (.inr (.inr (some (4, 0)))), some (.inr (.inr (some (7, 0)))), some (.inl x2), some (.inl x2), none], [.inl x2, .inr (.inr (some (7, 0)))], am_mk m)) rfl ?_
      obtain ⟨r2, h3, h⟩ := am_bd h
      refine am_Go.cl htb rfl (ex_X7_byteAt d (by omega) x2 m r2 h3) ?_
      show am_Go d 36 (22, [some (.inr (.inr (some (4, 0)))), some (.inr (.inr (some (7, 0)))), some (.inl x2), some (.inl x2), none], [.inl r2], am_mk m) _ _ _ _
      refine am_Go.n htb 3 (S' := (29, [some (.inr (.inr (some (4, 0)))), some (.inr (.inr (some (7, 0)))), some (.inl (x2 + 1)), some (.inl x2), some (.inl r2)], [.inl r2], am_mk m)) rfl ?_
      obtain ⟨r4, h5, h⟩ := am_bd h
      refine am_Go.cl htb rfl (ex_X4_isLetter d (by omega) r2 m r4 h5) ?_
      show am_Go d 36 (32, [some (.inr (.inr (some (4, 0)))), some (.inr (.inr (some (7, 0)))), some (.inl (x2 + 1)), some (.inl x2), some (.inl r2)], [.inl r4], am_mk m) _ _ _ _
      obtain ⟨q37, h38, h⟩ := am_bd h
      refine am_Go.cut (S := (140, [some (.inr (.inr (some (4, 0)))), some (.inr (.inr (some (7, 0)))), some (.inl q37.1), some (.inl x2), some (.inl r2)], [], am_mk q37.2)) ?_ (fun key => ?_)
      · refine am_Go.n htb 1 (S' := (7, [some (.inr (.inr (some (4, 0)))), some (.inr (.inr (some (7, 0)))), some (.inl q37.1), some (.inl x2), some (.inl r2)], [], am_mk q37.2)) rfl ?_
        refine am_Go.fg (L0 := [some (.inr (.inr (some (4, 0)))), some (.inr (.inr (some (7, 0)))), some (.inl q37.1), none, none]) (by exact ⟨rfl, ⟨rfl, ⟨rfl, trivial⟩⟩⟩) ?_
        first | exact ih h | exact ih h hk
      · have h := h38
        by_cases hc6 : r4 = 0
        · rw [if_pos hc6] at h
          refine am_Go.c1 htb (S' := (75, [some (.inr (.inr (some (4, 0)))), some (.inr (.inr (some (7, 0)))), some (.inl (x2 + 1)), some (.inl x2), some (.inl r2)], [], am_mk m)) (if_pos hc6) ?_
          refine am_Go.n htb 1 (S' := (77, [some (.inr (.inr (some (4, 0)))), some (.inr (.inr (some (7, 0)))), some (.inl (x2 + 1)), some (.inl x2), some (.inl r2)], [.inl r2], am_mk m)) rfl ?_
          obtain ⟨r7, h8, h⟩ := am_bd h
          refine am_Go.cl htb rfl (ex_X4_isDigit d (by omega) r2 m r7 h8) ?_
          show am_Go d 36 (80, [some (.inr (.inr (some (4, 0)))), some (.inr (.inr (some (7, 0)))), some (.inl (x2 + 1)), some (.inl x2), some (.inl r2)], [.inl r7], am_mk m) _ _ _ _
          by_cases hc9 : r7 = 0
          · rw [if_pos hc9] at h
            refine am_Go.c1 htb (S' := (125, [some (.inr (.inr (some (4, 0)))), some (.inr (.inr (some (7, 0)))), some (.inl (x2 + 1)), some (.inl x2), some (.inl r2)], [], am_mk m)) (if_pos hc9) ?_
            refine am_Go.n htb 2 (S' := (129, [some (.inr (.inr (some (4, 0)))), some (.inr (.inr (some (7, 0)))), some (.inl (x2 + 1)), some (.inl x2), some (.inl r2)], [.inl 32, .inl r2], am_mk m)) rfl ?_
            by_cases hc10 : r2 = (32 : Int32)
            · rw [if_pos hc10] at h
              refine am_Go.c1 htb (S' := (140, [some (.inr (.inr (some (4, 0)))), some (.inr (.inr (some (7, 0)))), some (.inl (x2 + 1)), some (.inl x2), some (.inl r2)], [], am_mk m)) (if_pos hc10) ?_
              cases h
              exact am_Go.fg (by exact ⟨rfl, ⟨rfl, ⟨rfl, ⟨rfl, ⟨rfl, trivial⟩⟩⟩⟩⟩) key
            · rw [if_neg hc10] at h
              refine am_Go.c1 htb (S' := (132, [some (.inr (.inr (some (4, 0)))), some (.inr (.inr (some (7, 0)))), some (.inl (x2 + 1)), some (.inl x2), some (.inl r2)], [], am_mk m)) (if_neg hc10) ?_
              refine am_Go.n htb 4 (S' := (137, [some (.inr (.inr (some (4, 0)))), some (.inr (.inr (some (7, 0)))), some (.inl (x2 + 1)), some (.inl x2), some (.inl r2)], [.inl x2, .inl 0, .inl r2, .inr (.inr (some (4, 0)))], am_mk m)) rfl ?_
              obtain ⟨r11, h12, h⟩ := am_bd h
              refine am_Go.cl htb rfl (ex_X4_addToken d (by omega) r2 0 x2 m r11 h12) ?_
              show am_Go d 36 (140, [some (.inr (.inr (some (4, 0)))), some (.inr (.inr (some (7, 0)))), some (.inl (x2 + 1)), some (.inl x2), some (.inl r2)], [], am_mk r11) _ _ _ _
              cases h
              exact am_Go.fg (by exact ⟨rfl, ⟨rfl, ⟨rfl, ⟨rfl, ⟨rfl, trivial⟩⟩⟩⟩⟩) key
          · rw [if_neg hc9] at h
            refine am_Go.c1 htb (S' := (83, [some (.inr (.inr (some (4, 0)))), some (.inr (.inr (some (7, 0)))), some (.inl (x2 + 1)), some (.inl x2), some (.inl r2)], [], am_mk m)) (if_neg hc9) ?_
            refine am_Go.fg (L0 := [some (.inr (.inr (some (4, 0)))), some (.inr (.inr (some (7, 0)))), some (.inl (x2 + 1)), some (.inl x2), none]) (by exact ⟨rfl, ⟨rfl, ⟨rfl, ⟨rfl, trivial⟩⟩⟩⟩) ?_
            obtain ⟨q19, h20, h⟩ := am_bd h
            refine lt_X4_split_83 _ hd (h := h20) (hk := ?_)
            refine am_Go.n htb 5 (S' := (115, [some (.inr (.inr (some (4, 0)))), some (.inr (.inr (some (7, 0)))), some (.inl q19), some (.inl x2), none], [.inl q19, .inl x2, .inr (.inr (some (7, 0))), .inl 256, .inr (.inr (some (4, 0)))], am_mk m)) rfl ?_
            obtain ⟨r21, h22, h⟩ := am_bd h
            refine am_Go.cl htb rfl (ex_X4_numberOf d (by omega) x2 q19 m r21 h22) ?_
            show am_Go d 36 (118, [some (.inr (.inr (some (4, 0)))), some (.inr (.inr (some (7, 0)))), some (.inl q19), some (.inl x2), none], [.inl r21, .inl 256, .inr (.inr (some (4, 0)))], am_mk m) _ _ _ _
            refine am_Go.n htb 1 (S' := (119, [some (.inr (.inr (some (4, 0)))), some (.inr (.inr (some (7, 0)))), some (.inl q19), some (.inl x2), none], [.inl x2, .inl r21, .inl 256, .inr (.inr (some (4, 0)))], am_mk m)) rfl ?_
            obtain ⟨r23, h24, h⟩ := am_bd h
            refine am_Go.cl htb rfl (ex_X4_addToken d (by omega) 256 r21 x2 m r23 h24) ?_
            show am_Go d 36 (122, [some (.inr (.inr (some (4, 0)))), some (.inr (.inr (some (7, 0)))), some (.inl q19), some (.inl x2), none], [], am_mk r23) _ _ _ _
            refine am_Go.n htb 1 (S' := (140, [some (.inr (.inr (some (4, 0)))), some (.inr (.inr (some (7, 0)))), some (.inl q19), some (.inl x2), none], [], am_mk r23)) rfl ?_
            cases h
            exact am_Go.fg (by exact ⟨rfl, ⟨rfl, ⟨rfl, ⟨rfl, trivial⟩⟩⟩⟩) key
        · rw [if_neg hc6] at h
          refine am_Go.c1 htb (S' := (35, [some (.inr (.inr (some (4, 0)))), some (.inr (.inr (some (7, 0)))), some (.inl (x2 + 1)), some (.inl x2), some (.inl r2)], [], am_mk m)) (if_neg hc6) ?_
          refine am_Go.fg (L0 := [some (.inr (.inr (some (4, 0)))), some (.inr (.inr (some (7, 0)))), some (.inl (x2 + 1)), some (.inl x2), none]) (by exact ⟨rfl, ⟨rfl, ⟨rfl, ⟨rfl, trivial⟩⟩⟩⟩) ?_
          obtain ⟨q31, h32, h⟩ := am_bd h
          refine lt_X4_split_35 _ hd (h := h32) (hk := ?_)
          refine am_Go.n htb 4 (S' := (64, [some (.inr (.inr (some (4, 0)))), some (.inr (.inr (some (7, 0)))), some (.inl q31), some (.inl x2), none], [.inl q31, .inl x2, .inr (.inr (some (7, 0))), .inr (.inr (some (4, 0)))], am_mk m)) rfl ?_
          obtain ⟨r33, h34, h⟩ := am_bd h
          refine am_Go.cl htb rfl (ex_X4_wordOf d (by omega) x2 q31 m r33 h34) ?_
          show am_Go d 36 (67, [some (.inr (.inr (some (4, 0)))), some (.inr (.inr (some (7, 0)))), some (.inl q31), some (.inl x2), none], [.inl r33, .inr (.inr (some (4, 0)))], am_mk m) _ _ _ _
          refine am_Go.n htb 2 (S' := (69, [some (.inr (.inr (some (4, 0)))), some (.inr (.inr (some (7, 0)))), some (.inl q31), some (.inl x2), none], [.inl x2, .inl 0, .inl r33, .inr (.inr (some (4, 0)))], am_mk m)) rfl ?_
          obtain ⟨r35, h36, h⟩ := am_bd h
          refine am_Go.cl htb rfl (ex_X4_addToken d (by omega) r33 0 x2 m r35 h36) ?_
          show am_Go d 36 (72, [some (.inr (.inr (some (4, 0)))), some (.inr (.inr (some (7, 0)))), some (.inl q31), some (.inl x2), none], [], am_mk r35) _ _ _ _
          refine am_Go.n htb 1 (S' := (140, [some (.inr (.inr (some (4, 0)))), some (.inr (.inr (some (7, 0)))), some (.inl q31), some (.inl x2), none], [], am_mk r35)) rfl ?_
          cases h
          exact am_Go.fg (by exact ⟨rfl, ⟨rfl, ⟨rfl, ⟨rfl, trivial⟩⟩⟩⟩) key
set_option maxRecDepth 100000 in
theorem ex_X4_split (d : Nat) (hd : 4 ≤ d)  (m : am_m) (t : am_m) (h : fn_X4_split  m = some t) : am_Ex am_cod d 36 [.inr (.inr (some (4, 0))), .inr (.inr (some (7, 0)))] (am_mk m) (none) (am_mk t) 0 0 := by
  obtain ⟨d, rfl⟩ : ∃ e, d = e + 1 := ⟨d - 1, by omega⟩
  have htb : am_tab 36 = at_36 := rfl
  refine ⟨Nat.le_of_ble_eq_true rfl, ?_⟩
  unfold fn_X4_split at h
  show am_Go d 36 (0, [some (.inr (.inr (some (4, 0)))), some (.inr (.inr (some (7, 0)))), none, none, none], [], am_mk m) _ _ 0 0
  refine am_Go.n htb 5 (S' := (7, [some (.inr (.inr (some (4, 0)))), some (.inr (.inr (some (7, 0)))), some (.inl 0), none, none], [], am_mk (am_si m 4 0 4 0))) rfl ?_
  obtain ⟨q39, h40, h⟩ := am_bd h
  refine lt_X4_split_7 _ hd (h := h40) (hk := ?_)
  refine am_Go.n htb 5 (S' := (152, [some (.inr (.inr (some (4, 0)))), some (.inr (.inr (some (7, 0)))), none, none, none], [.inl (q39.1 7 0 1), .inl 0, .inl 257, .inr (.inr (some (4, 0)))], am_mk q39)) rfl ?_
  obtain ⟨r41, h42, h⟩ := am_bd h
  refine am_Go.cl htb rfl (ex_X4_addToken d (by omega) 257 0 (q39.1 7 0 1) q39 r41 h42) ?_
  show am_Go d 36 (155, [some (.inr (.inr (some (4, 0)))), some (.inr (.inr (some (7, 0)))), none, none, none], [], am_mk r41) _ _ _ _
  cases h
  exact am_Go.rt htb rfl
-- X4_goTo
set_option maxRecDepth 100000 in
theorem ex_X4_goTo (d : Nat) (hd : 2 ≤ d) (a1 : Int32) (m : am_m) (t : am_m) (h : fn_X4_goTo a1 m = some t) : am_Ex am_cod d 43 [.inr (.inr (some (4, 0))), .inl a1] (am_mk m) (none) (am_mk t) 0 0 := by
  obtain ⟨d, rfl⟩ : ∃ e, d = e + 1 := ⟨d - 1, by omega⟩
  have htb : am_tab 43 = at_43 := rfl
  refine ⟨Nat.le_of_ble_eq_true rfl, ?_⟩
  unfold fn_X4_goTo at h
  show am_Go d 43 (0, [some (.inr (.inr (some (4, 0)))), some (.inl a1)], [], am_mk m) _ _ 0 0
  refine am_Go.n htb 7 (S' := (9, [some (.inr (.inr (some (4, 0)))), some (.inl a1)], [.inl ((m.1 4 0 4) - (1 : Int32)), .inl a1, .inl 0, .inr (.inr (some (4, 0)))], am_mk m)) rfl ?_
  obtain ⟨r1, h2, h⟩ := am_bd h
  refine am_Go.cl htb rfl (ex_J9_min_7cf53 d (by omega) a1 ((m.1 4 0 4) - (1 : Int32)) m r1 h2) ?_
  show am_Go d 43 (12, [some (.inr (.inr (some (4, 0)))), some (.inl a1)], [.inl r1, .inl 0, .inr (.inr (some (4, 0)))], am_mk m) _ _ _ _
  obtain ⟨r3, h4, h⟩ := am_bd h
  refine am_Go.cl htb rfl (ex_J9_max_7cf53 d (by omega) 0 r1 m r3 h4) ?_
  show am_Go d 43 (15, [some (.inr (.inr (some (4, 0)))), some (.inl a1)], [.inl r3, .inr (.inr (some (4, 0)))], am_mk m) _ _ _ _
  refine am_Go.n htb 6 (S' := (27, [some (.inr (.inr (some (4, 0)))), some (.inl a1)], [.inl r3, .inr (.inr (some (25, 0))), .inr (.inr (some (4, 0)))], am_mk (am_si m 4 0 5 r3))) rfl ?_
  obtain ⟨hg5, h⟩ := am_ck_some h
  refine am_Go.c1 htb (S' := (28, [some (.inr (.inr (some (4, 0)))), some (.inl a1)], [.inl (m.1 25 0 r3.toNatClampNeg), .inr (.inr (some (4, 0)))], am_mk (am_si m 4 0 5 r3))) (if_neg hg5) ?_
  refine am_Go.n htb 6 (S' := (40, [some (.inr (.inr (some (4, 0)))), some (.inl a1)], [.inl r3, .inr (.inr (some (26, 0))), .inr (.inr (some (4, 0)))], am_mk (am_si (am_si m 4 0 5 r3) 4 0 6 (m.1 25 0 r3.toNatClampNeg)))) rfl ?_
  obtain ⟨hg6, h⟩ := am_ck_some h
  refine am_Go.c1 htb (S' := (41, [some (.inr (.inr (some (4, 0)))), some (.inl a1)], [.inl (m.1 26 0 r3.toNatClampNeg), .inr (.inr (some (4, 0)))], am_mk (am_si (am_si m 4 0 5 r3) 4 0 6 (m.1 25 0 r3.toNatClampNeg)))) (if_neg hg6) ?_
  refine am_Go.n htb 1 (S' := (44, [some (.inr (.inr (some (4, 0)))), some (.inl a1)], [], am_mk (am_si (am_si (am_si m 4 0 5 r3) 4 0 6 (m.1 25 0 r3.toNatClampNeg)) 4 0 7 (m.1 26 0 r3.toNatClampNeg)))) rfl ?_
  cases h
  exact am_Go.rt htb rfl
-- X4_failed
set_option maxRecDepth 100000 in
theorem ex_X4_failed (d : Nat) (hd : 1 ≤ d)  (m : am_m) (t : Int32 × am_m) (h : fn_X4_failed  m = some t) : am_Ex am_cod d 44 [.inr (.inr (some (4, 0)))] (am_mk m) (some (.inl t.1)) (am_mk t.2) 0 0 := by
  obtain ⟨d, rfl⟩ : ∃ e, d = e + 1 := ⟨d - 1, by omega⟩
  have htb : am_tab 44 = at_44 := rfl
  refine ⟨Nat.le_of_ble_eq_true rfl, ?_⟩
  unfold fn_X4_failed at h
  show am_Go d 44 (0, [some (.inr (.inr (some (4, 0))))], [], am_mk m) _ _ 0 0
  refine am_Go.n htb 5 (S' := (9, [some (.inr (.inr (some (4, 0))))], [.inl (m.1 4 0 5), .inr (.inr (some (27, 0))), .inr (.inr (some (4, 0)))], am_mk m)) rfl ?_
  obtain ⟨hg1, h⟩ := am_ck_some h
  refine am_Go.c1 htb (S' := (10, [some (.inr (.inr (some (4, 0))))], [.inl (m.1 27 0 (m.1 4 0 5).toNatClampNeg), .inr (.inr (some (4, 0)))], am_mk m)) (if_neg hg1) ?_
  refine am_Go.n htb 2 (S' := (14, [some (.inr (.inr (some (4, 0))))], [.inl 0], am_mk (am_si m 4 0 10 (m.1 27 0 (m.1 4 0 5).toNatClampNeg)))) rfl ?_
  cases h
  exact am_Go.rt htb rfl
-- X4_took
set_option maxRecDepth 100000 in
theorem ex_X4_took (d : Nat) (hd : 3 ≤ d) (a1 : Int32) (m : am_m) (t : Int32 × am_m) (h : fn_X4_took a1 m = some t) : am_Ex am_cod d 45 [.inr (.inr (some (4, 0))), .inl a1] (am_mk m) (some (.inl t.1)) (am_mk t.2) 0 0 := by
  obtain ⟨d, rfl⟩ : ∃ e, d = e + 1 := ⟨d - 1, by omega⟩
  have htb : am_tab 45 = at_45 := rfl
  refine ⟨Nat.le_of_ble_eq_true rfl, ?_⟩
  unfold fn_X4_took at h
  show am_Go d 45 (0, [some (.inr (.inr (some (4, 0)))), some (.inl a1)], [], am_mk m) _ _ 0 0
  refine am_Go.n htb 3 (S' := (5, [some (.inr (.inr (some (4, 0)))), some (.inl a1)], [.inl a1, .inl (m.1 4 0 6)], am_mk m)) rfl ?_
  by_cases hc1 : (m.1 4 0 6) = a1
  · rw [if_pos hc1] at h
    refine am_Go.c1 htb (S' := (13, [some (.inr (.inr (some (4, 0)))), some (.inl a1)], [], am_mk m)) (if_pos hc1) ?_
    refine am_Go.n htb 5 (S' := (20, [some (.inr (.inr (some (4, 0)))), some (.inl a1)], [.inl ((m.1 4 0 5) + (1 : Int32)), .inr (.inr (some (4, 0)))], am_mk m)) rfl ?_
    obtain ⟨r2, h3, h⟩ := am_bd h
    refine am_Go.cl htb rfl (ex_X4_goTo d (by omega) ((m.1 4 0 5) + (1 : Int32)) m r2 h3) ?_
    show am_Go d 45 (23, [some (.inr (.inr (some (4, 0)))), some (.inl a1)], [], am_mk r2) _ _ _ _
    refine am_Go.n htb 1 (S' := (24, [some (.inr (.inr (some (4, 0)))), some (.inl a1)], [.inl 1], am_mk r2)) rfl ?_
    cases h
    exact am_Go.rt htb rfl
  · rw [if_neg hc1] at h
    refine am_Go.c1 htb (S' := (8, [some (.inr (.inr (some (4, 0)))), some (.inl a1)], [], am_mk m)) (if_neg hc1) ?_
    refine am_Go.n htb 1 (S' := (9, [some (.inr (.inr (some (4, 0)))), some (.inl a1)], [.inr (.inr (some (4, 0)))], am_mk m)) rfl ?_
    obtain ⟨r4, h5, h⟩ := am_bd h
    refine am_Go.cl htb rfl (ex_X4_failed d (by omega)  m r4 h5) ?_
    show am_Go d 45 (12, [some (.inr (.inr (some (4, 0)))), some (.inl a1)], [.inl r4.1], am_mk r4.2) _ _ _ _
    obtain ⟨hz6, h⟩ := am_gd_some h
    cases h
    exact am_Go.rt htb (if_pos hz6)
-- X4_sumsOf
set_option maxRecDepth 100000 in
theorem ex_X4_sumsOf (d : Nat) (hd : 1 ≤ d) (a1 : Int32) (m : am_m) (t : Int32) (h : fn_X4_sumsOf a1 m = some t) : am_Ex am_cod d 47 [.inr (.inr (some (4, 0))), .inl a1] (am_mk m) (some (.inl t)) (am_mk m) 0 0 := by
  obtain ⟨d, rfl⟩ : ∃ e, d = e + 1 := ⟨d - 1, by omega⟩
  have htb : am_tab 47 = at_47 := rfl
  refine ⟨Nat.le_of_ble_eq_true rfl, ?_⟩
  unfold fn_X4_sumsOf at h
  show am_Go d 47 (0, [some (.inr (.inr (some (4, 0)))), some (.inl a1)], [], am_mk m) _ _ 0 0
  refine am_Go.n htb 1 (S' := (1, [some (.inr (.inr (some (4, 0)))), some (.inl a1)], [.inl a1], am_mk m)) rfl ?_
  by_cases hs1 : a1 = 266
  · rw [if_pos hs1] at h
    refine am_Go.o htb (am_o_sw [(266, 48), (267, 48), (268, 48), (269, 61), (270, 74), (271, 87), (272, 100), (273, 113)] 126) rfl (S' := (48, [some (.inr (.inr (some (4, 0)))), some (.inl a1)], [], am_mk m)) (am_sw_eq (by simp only [am_sw, if_pos hs1])) ?_
    refine am_Go.n htb 2 (S' := (52, [some (.inr (.inr (some (4, 0)))), some (.inl a1)], [.inl (m.1 4 0 9)], am_mk m)) rfl ?_
    by_cases hc2 : (m.1 4 0 9) = 0
    · rw [if_pos hc2] at h
      refine am_Go.c1 htb (S' := (59, [some (.inr (.inr (some (4, 0)))), some (.inl a1)], [], am_mk m)) (if_pos hc2) ?_
      refine am_Go.n htb 1 (S' := (60, [some (.inr (.inr (some (4, 0)))), some (.inl a1)], [.inl 1], am_mk m)) rfl ?_
      cases h
      exact am_Go.rt htb rfl
    · rw [if_neg hc2] at h
      refine am_Go.c1 htb (S' := (55, [some (.inr (.inr (some (4, 0)))), some (.inl a1)], [], am_mk m)) (if_neg hc2) ?_
      refine am_Go.n htb 2 (S' := (60, [some (.inr (.inr (some (4, 0)))), some (.inl a1)], [.inl (-1)], am_mk m)) rfl ?_
      cases h
      exact am_Go.rt htb rfl
  · rw [if_neg hs1] at h
    by_cases hs3 : a1 = 267
    · rw [if_pos hs3] at h
      refine am_Go.o htb (am_o_sw [(266, 48), (267, 48), (268, 48), (269, 61), (270, 74), (271, 87), (272, 100), (273, 113)] 126) rfl (S' := (48, [some (.inr (.inr (some (4, 0)))), some (.inl a1)], [], am_mk m)) (am_sw_eq (by simp only [am_sw, if_neg hs1, if_pos hs3])) ?_
      refine am_Go.n htb 2 (S' := (52, [some (.inr (.inr (some (4, 0)))), some (.inl a1)], [.inl (m.1 4 0 9)], am_mk m)) rfl ?_
      by_cases hc4 : (m.1 4 0 9) = 0
      · rw [if_pos hc4] at h
        refine am_Go.c1 htb (S' := (59, [some (.inr (.inr (some (4, 0)))), some (.inl a1)], [], am_mk m)) (if_pos hc4) ?_
        refine am_Go.n htb 1 (S' := (60, [some (.inr (.inr (some (4, 0)))), some (.inl a1)], [.inl 1], am_mk m)) rfl ?_
        cases h
        exact am_Go.rt htb rfl
      · rw [if_neg hc4] at h
        refine am_Go.c1 htb (S' := (55, [some (.inr (.inr (some (4, 0)))), some (.inl a1)], [], am_mk m)) (if_neg hc4) ?_
        refine am_Go.n htb 2 (S' := (60, [some (.inr (.inr (some (4, 0)))), some (.inl a1)], [.inl (-1)], am_mk m)) rfl ?_
        cases h
        exact am_Go.rt htb rfl
    · rw [if_neg hs3] at h
      by_cases hs5 : a1 = 268
      · rw [if_pos hs5] at h
        refine am_Go.o htb (am_o_sw [(266, 48), (267, 48), (268, 48), (269, 61), (270, 74), (271, 87), (272, 100), (273, 113)] 126) rfl (S' := (48, [some (.inr (.inr (some (4, 0)))), some (.inl a1)], [], am_mk m)) (am_sw_eq (by simp only [am_sw, if_neg hs1, if_neg hs3, if_pos hs5])) ?_
        refine am_Go.n htb 2 (S' := (52, [some (.inr (.inr (some (4, 0)))), some (.inl a1)], [.inl (m.1 4 0 9)], am_mk m)) rfl ?_
        by_cases hc6 : (m.1 4 0 9) = 0
        · rw [if_pos hc6] at h
          refine am_Go.c1 htb (S' := (59, [some (.inr (.inr (some (4, 0)))), some (.inl a1)], [], am_mk m)) (if_pos hc6) ?_
          refine am_Go.n htb 1 (S' := (60, [some (.inr (.inr (some (4, 0)))), some (.inl a1)], [.inl 1], am_mk m)) rfl ?_
          cases h
          exact am_Go.rt htb rfl
        · rw [if_neg hc6] at h
          refine am_Go.c1 htb (S' := (55, [some (.inr (.inr (some (4, 0)))), some (.inl a1)], [], am_mk m)) (if_neg hc6) ?_
          refine am_Go.n htb 2 (S' := (60, [some (.inr (.inr (some (4, 0)))), some (.inl a1)], [.inl (-1)], am_mk m)) rfl ?_
          cases h
          exact am_Go.rt htb rfl
      · rw [if_neg hs5] at h
        by_cases hs7 : a1 = 269
        · rw [if_pos hs7] at h
          refine am_Go.o htb (am_o_sw [(266, 48), (267, 48), (268, 48), (269, 61), (270, 74), (271, 87), (272, 100), (273, 113)] 126) rfl (S' := (61, [some (.inr (.inr (some (4, 0)))), some (.inl a1)], [], am_mk m)) (am_sw_eq (by simp only [am_sw, if_neg hs1, if_neg hs3, if_neg hs5, if_pos hs7])) ?_
          refine am_Go.n htb 2 (S' := (65, [some (.inr (.inr (some (4, 0)))), some (.inl a1)], [.inl (m.1 4 0 9)], am_mk m)) rfl ?_
          by_cases hc8 : (m.1 4 0 9) = 0
          · rw [if_pos hc8] at h
            refine am_Go.c1 htb (S' := (72, [some (.inr (.inr (some (4, 0)))), some (.inl a1)], [], am_mk m)) (if_pos hc8) ?_
            refine am_Go.n htb 1 (S' := (73, [some (.inr (.inr (some (4, 0)))), some (.inl a1)], [.inl 0], am_mk m)) rfl ?_
            cases h
            exact am_Go.rt htb rfl
          · rw [if_neg hc8] at h
            refine am_Go.c1 htb (S' := (68, [some (.inr (.inr (some (4, 0)))), some (.inl a1)], [], am_mk m)) (if_neg hc8) ?_
            refine am_Go.n htb 2 (S' := (73, [some (.inr (.inr (some (4, 0)))), some (.inl a1)], [.inl (-1)], am_mk m)) rfl ?_
            cases h
            exact am_Go.rt htb rfl
        · rw [if_neg hs7] at h
          by_cases hs9 : a1 = 270
          · rw [if_pos hs9] at h
            refine am_Go.o htb (am_o_sw [(266, 48), (267, 48), (268, 48), (269, 61), (270, 74), (271, 87), (272, 100), (273, 113)] 126) rfl (S' := (74, [some (.inr (.inr (some (4, 0)))), some (.inl a1)], [], am_mk m)) (am_sw_eq (by simp only [am_sw, if_neg hs1, if_neg hs3, if_neg hs5, if_neg hs7, if_pos hs9])) ?_
            refine am_Go.n htb 2 (S' := (78, [some (.inr (.inr (some (4, 0)))), some (.inl a1)], [.inl (m.1 4 0 9)], am_mk m)) rfl ?_
            by_cases hc10 : (m.1 4 0 9) = 0
            · rw [if_pos hc10] at h
              refine am_Go.c1 htb (S' := (85, [some (.inr (.inr (some (4, 0)))), some (.inl a1)], [], am_mk m)) (if_pos hc10) ?_
              refine am_Go.n htb 1 (S' := (86, [some (.inr (.inr (some (4, 0)))), some (.inl a1)], [.inl (-1)], am_mk m)) rfl ?_
              cases h
              exact am_Go.rt htb rfl
            · rw [if_neg hc10] at h
              refine am_Go.c1 htb (S' := (81, [some (.inr (.inr (some (4, 0)))), some (.inl a1)], [], am_mk m)) (if_neg hc10) ?_
              refine am_Go.n htb 2 (S' := (86, [some (.inr (.inr (some (4, 0)))), some (.inl a1)], [.inl 3], am_mk m)) rfl ?_
              cases h
              exact am_Go.rt htb rfl
          · rw [if_neg hs9] at h
            by_cases hs11 : a1 = 271
            · rw [if_pos hs11] at h
              refine am_Go.o htb (am_o_sw [(266, 48), (267, 48), (268, 48), (269, 61), (270, 74), (271, 87), (272, 100), (273, 113)] 126) rfl (S' := (87, [some (.inr (.inr (some (4, 0)))), some (.inl a1)], [], am_mk m)) (am_sw_eq (by simp only [am_sw, if_neg hs1, if_neg hs3, if_neg hs5, if_neg hs7, if_neg hs9, if_pos hs11])) ?_
              refine am_Go.n htb 2 (S' := (91, [some (.inr (.inr (some (4, 0)))), some (.inl a1)], [.inl (m.1 4 0 9)], am_mk m)) rfl ?_
              by_cases hc12 : (m.1 4 0 9) = 0
              · rw [if_pos hc12] at h
                refine am_Go.c1 htb (S' := (98, [some (.inr (.inr (some (4, 0)))), some (.inl a1)], [], am_mk m)) (if_pos hc12) ?_
                refine am_Go.n htb 1 (S' := (99, [some (.inr (.inr (some (4, 0)))), some (.inl a1)], [.inl (-1)], am_mk m)) rfl ?_
                cases h
                exact am_Go.rt htb rfl
              · rw [if_neg hc12] at h
                refine am_Go.c1 htb (S' := (94, [some (.inr (.inr (some (4, 0)))), some (.inl a1)], [], am_mk m)) (if_neg hc12) ?_
                refine am_Go.n htb 2 (S' := (99, [some (.inr (.inr (some (4, 0)))), some (.inl a1)], [.inl 1], am_mk m)) rfl ?_
                cases h
                exact am_Go.rt htb rfl
            · rw [if_neg hs11] at h
              by_cases hs13 : a1 = 272
              · rw [if_pos hs13] at h
                refine am_Go.o htb (am_o_sw [(266, 48), (267, 48), (268, 48), (269, 61), (270, 74), (271, 87), (272, 100), (273, 113)] 126) rfl (S' := (100, [some (.inr (.inr (some (4, 0)))), some (.inl a1)], [], am_mk m)) (am_sw_eq (by simp only [am_sw, if_neg hs1, if_neg hs3, if_neg hs5, if_neg hs7, if_neg hs9, if_neg hs11, if_pos hs13])) ?_
                refine am_Go.n htb 2 (S' := (104, [some (.inr (.inr (some (4, 0)))), some (.inl a1)], [.inl (m.1 4 0 9)], am_mk m)) rfl ?_
                by_cases hc14 : (m.1 4 0 9) = 0
                · rw [if_pos hc14] at h
                  refine am_Go.c1 htb (S' := (111, [some (.inr (.inr (some (4, 0)))), some (.inl a1)], [], am_mk m)) (if_pos hc14) ?_
                  refine am_Go.n htb 1 (S' := (112, [some (.inr (.inr (some (4, 0)))), some (.inl a1)], [.inl (-1)], am_mk m)) rfl ?_
                  cases h
                  exact am_Go.rt htb rfl
                · rw [if_neg hc14] at h
                  refine am_Go.c1 htb (S' := (107, [some (.inr (.inr (some (4, 0)))), some (.inl a1)], [], am_mk m)) (if_neg hc14) ?_
                  refine am_Go.n htb 2 (S' := (112, [some (.inr (.inr (some (4, 0)))), some (.inl a1)], [.inl 2], am_mk m)) rfl ?_
                  cases h
                  exact am_Go.rt htb rfl
              · rw [if_neg hs13] at h
                by_cases hs15 : a1 = 273
                · rw [if_pos hs15] at h
                  refine am_Go.o htb (am_o_sw [(266, 48), (267, 48), (268, 48), (269, 61), (270, 74), (271, 87), (272, 100), (273, 113)] 126) rfl (S' := (113, [some (.inr (.inr (some (4, 0)))), some (.inl a1)], [], am_mk m)) (am_sw_eq (by simp only [am_sw, if_neg hs1, if_neg hs3, if_neg hs5, if_neg hs7, if_neg hs9, if_neg hs11, if_neg hs13, if_pos hs15])) ?_
                  refine am_Go.n htb 2 (S' := (117, [some (.inr (.inr (some (4, 0)))), some (.inl a1)], [.inl (m.1 4 0 9)], am_mk m)) rfl ?_
                  by_cases hc16 : (m.1 4 0 9) = 0
                  · rw [if_pos hc16] at h
                    refine am_Go.c1 htb (S' := (124, [some (.inr (.inr (some (4, 0)))), some (.inl a1)], [], am_mk m)) (if_pos hc16) ?_
                    refine am_Go.n htb 1 (S' := (125, [some (.inr (.inr (some (4, 0)))), some (.inl a1)], [.inl (-1)], am_mk m)) rfl ?_
                    cases h
                    exact am_Go.rt htb rfl
                  · rw [if_neg hc16] at h
                    refine am_Go.c1 htb (S' := (120, [some (.inr (.inr (some (4, 0)))), some (.inl a1)], [], am_mk m)) (if_neg hc16) ?_
                    refine am_Go.n htb 2 (S' := (125, [some (.inr (.inr (some (4, 0)))), some (.inl a1)], [.inl 0], am_mk m)) rfl ?_
                    cases h
                    exact am_Go.rt htb rfl
                · rw [if_neg hs15] at h
                  refine am_Go.o htb (am_o_sw [(266, 48), (267, 48), (268, 48), (269, 61), (270, 74), (271, 87), (272, 100), (273, 113)] 126) rfl (S' := (126, [some (.inr (.inr (some (4, 0)))), some (.inl a1)], [], am_mk m)) (am_sw_eq (by simp only [am_sw, if_neg hs1, if_neg hs3, if_neg hs5, if_neg hs7, if_neg hs9, if_neg hs11, if_neg hs13, if_neg hs15, if_false])) ?_
                  refine am_Go.n htb 1 (S' := (127, [some (.inr (.inr (some (4, 0)))), some (.inl a1)], [.inl (-1)], am_mk m)) rfl ?_
                  cases h
                  exact am_Go.rt htb rfl
-- X5_mark
set_option maxRecDepth 100000 in
theorem ex_X5_mark (d : Nat) (hd : 1 ≤ d) (a0 : Nat) (a1 : Int32) (a2 : Int32) (m : am_m) (t : am_m) (h : fn_X5_mark a0 a1 a2 m = some t) : am_Ex am_cod d 62 [.inr (.inr (some (5, a0))), .inl a1, .inl a2] (am_mk m) (none) (am_mk t) 0 0 := by
  obtain ⟨d, rfl⟩ : ∃ e, d = e + 1 := ⟨d - 1, by omega⟩
  have htb : am_tab 62 = at_62 := rfl
  refine ⟨Nat.le_of_ble_eq_true rfl, ?_⟩
  unfold fn_X5_mark at h
  show am_Go d 62 (0, [some (.inr (.inr (some (5, a0)))), some (.inl a1), some (.inl a2), none], [], am_mk m) _ _ 0 0
  refine am_Go.n htb 11 (S' := (16, [some (.inr (.inr (some (5, a0)))), some (.inl a1), some (.inl a2), some (.inl ((((m.1 5 a0 2) - (1 : Int32)) * (6 : Int32)) + a1))], [.inl (m.1 5 a0 2)], am_mk m)) rfl ?_
  by_cases hc1 : (m.1 5 a0 2) ≤ 0
  · rw [if_pos hc1] at h
    refine am_Go.c1 htb (S' := (45, [some (.inr (.inr (some (5, a0)))), some (.inl a1), some (.inl a2), some (.inl ((((m.1 5 a0 2) - (1 : Int32)) * (6 : Int32)) + a1))], [], am_mk m)) (if_pos hc1) ?_
    cases h
    exact am_Go.rt htb rfl
  · rw [if_neg hc1] at h
    refine am_Go.c1 htb (S' := (19, [some (.inr (.inr (some (5, a0)))), some (.inl a1), some (.inl a2), some (.inl ((((m.1 5 a0 2) - (1 : Int32)) * (6 : Int32)) + a1))], [], am_mk m)) (if_neg hc1) ?_
    refine am_Go.n htb 1 (S' := (20, [some (.inr (.inr (some (5, a0)))), some (.inl a1), some (.inl a2), some (.inl ((((m.1 5 a0 2) - (1 : Int32)) * (6 : Int32)) + a1))], [.inl a1], am_mk m)) rfl ?_
    by_cases hc2 : a1 < 0
    · rw [if_pos hc2] at h
      refine am_Go.c1 htb (S' := (45, [some (.inr (.inr (some (5, a0)))), some (.inl a1), some (.inl a2), some (.inl ((((m.1 5 a0 2) - (1 : Int32)) * (6 : Int32)) + a1))], [], am_mk m)) (if_pos hc2) ?_
      cases h
      exact am_Go.rt htb rfl
    · rw [if_neg hc2] at h
      refine am_Go.c1 htb (S' := (23, [some (.inr (.inr (some (5, a0)))), some (.inl a1), some (.inl a2), some (.inl ((((m.1 5 a0 2) - (1 : Int32)) * (6 : Int32)) + a1))], [], am_mk m)) (if_neg hc2) ?_
      refine am_Go.n htb 2 (S' := (26, [some (.inr (.inr (some (5, a0)))), some (.inl a1), some (.inl a2), some (.inl ((((m.1 5 a0 2) - (1 : Int32)) * (6 : Int32)) + a1))], [.inl 6, .inl a1], am_mk m)) rfl ?_
      by_cases hc3 : (6 : Int32) ≤ a1
      · rw [if_pos hc3] at h
        refine am_Go.c1 htb (S' := (45, [some (.inr (.inr (some (5, a0)))), some (.inl a1), some (.inl a2), some (.inl ((((m.1 5 a0 2) - (1 : Int32)) * (6 : Int32)) + a1))], [], am_mk m)) (if_pos hc3) ?_
        cases h
        exact am_Go.rt htb rfl
      · rw [if_neg hc3] at h
        refine am_Go.c1 htb (S' := (29, [some (.inr (.inr (some (5, a0)))), some (.inl a1), some (.inl a2), some (.inl ((((m.1 5 a0 2) - (1 : Int32)) * (6 : Int32)) + a1))], [], am_mk m)) (if_neg hc3) ?_
        refine am_Go.n htb 4 (S' := (35, [some (.inr (.inr (some (5, a0)))), some (.inl a1), some (.inl a2), some (.inl ((((m.1 5 a0 2) - (1 : Int32)) * (6 : Int32)) + a1))], [.inl (Int32.ofNat (m.2.2.2.2.2.2.1 28 a0)), .inl ((((m.1 5 a0 2) - (1 : Int32)) * (6 : Int32)) + a1)], am_mk m)) rfl ?_
        by_cases hc4 : (Int32.ofNat (m.2.2.2.2.2.2.1 28 a0)) ≤ ((((m.1 5 a0 2) - (1 : Int32)) * (6 : Int32)) + a1)
        · rw [if_pos hc4] at h
          refine am_Go.c1 htb (S' := (45, [some (.inr (.inr (some (5, a0)))), some (.inl a1), some (.inl a2), some (.inl ((((m.1 5 a0 2) - (1 : Int32)) * (6 : Int32)) + a1))], [], am_mk m)) (if_pos hc4) ?_
          cases h
          exact am_Go.rt htb rfl
        · rw [if_neg hc4] at h
          refine am_Go.c1 htb (S' := (38, [some (.inr (.inr (some (5, a0)))), some (.inl a1), some (.inl a2), some (.inl ((((m.1 5 a0 2) - (1 : Int32)) * (6 : Int32)) + a1))], [], am_mk m)) (if_neg hc4) ?_
          refine am_Go.n htb 4 (S' := (44, [some (.inr (.inr (some (5, a0)))), some (.inl a1), some (.inl a2), some (.inl ((((m.1 5 a0 2) - (1 : Int32)) * (6 : Int32)) + a1))], [.inl a2, .inl ((((m.1 5 a0 2) - (1 : Int32)) * (6 : Int32)) + a1), .inr (.inr (some (28, a0)))], am_mk m)) rfl ?_
          obtain ⟨hg5, h⟩ := am_ck_some h
          refine am_Go.c1 htb (S' := (45, [some (.inr (.inr (some (5, a0)))), some (.inl a1), some (.inl a2), some (.inl ((((m.1 5 a0 2) - (1 : Int32)) * (6 : Int32)) + a1))], [], am_mk (am_si m 28 a0 ((((m.1 5 a0 2) - (1 : Int32)) * (6 : Int32)) + a1).toNatClampNeg a2))) (if_neg hg5) ?_
          cases h
          exact am_Go.rt htb rfl
-- X4_readTimes
set_option maxRecDepth 100000 in
theorem ex_X4_readTimes (d : Nat) (hd : 3 ≤ d)  (m : am_m) (t : Int32 × am_m) (h : fn_X4_readTimes  m = some t) : am_Ex am_cod d 48 [.inr (.inr (some (4, 0)))] (am_mk m) (some (.inl t.1)) (am_mk t.2) 0 0 := by
  obtain ⟨d, rfl⟩ : ∃ e, d = e + 1 := ⟨d - 1, by omega⟩
  have htb : am_tab 48 = at_48 := rfl
  refine ⟨Nat.le_of_ble_eq_true rfl, ?_⟩
  unfold fn_X4_readTimes at h
  show am_Go d 48 (0, [some (.inr (.inr (some (4, 0))))], [], am_mk m) _ _ 0 0
  refine am_Go.n htb 5 (S' := (7, [some (.inr (.inr (some (4, 0))))], [.inl ((m.1 4 0 5) + (1 : Int32)), .inr (.inr (some (4, 0)))], am_mk m)) rfl ?_
  obtain ⟨r1, h2, h⟩ := am_bd h
  refine am_Go.cl htb rfl (ex_X4_goTo d (by omega) ((m.1 4 0 5) + (1 : Int32)) m r1 h2) ?_
  show am_Go d 48 (10, [some (.inr (.inr (some (4, 0))))], [], am_mk r1) _ _ _ _
  refine am_Go.n htb 3 (S' := (17, [some (.inr (.inr (some (4, 0))))], [.inl 256, .inl (r1.1 4 0 6)], am_mk r1)) rfl ?_
  by_cases hc3 : (r1.1 4 0 6) ≠ (256 : Int32)
  · rw [if_pos hc3] at h
    refine am_Go.c1 htb (S' := (37, [some (.inr (.inr (some (4, 0))))], [], am_mk r1)) (if_pos hc3) ?_
    refine am_Go.n htb 1 (S' := (38, [some (.inr (.inr (some (4, 0))))], [.inr (.inr (some (4, 0)))], am_mk r1)) rfl ?_
    obtain ⟨r4, h5, h⟩ := am_bd h
    refine am_Go.cl htb rfl (ex_X4_failed d (by omega)  r1 r4 h5) ?_
    show am_Go d 48 (41, [some (.inr (.inr (some (4, 0))))], [.inl r4.1], am_mk r4.2) _ _ _ _
    obtain ⟨hz6, h⟩ := am_gd_some h
    cases h
    exact am_Go.rt htb (if_pos hz6)
  · rw [if_neg hc3] at h
    refine am_Go.c1 htb (S' := (20, [some (.inr (.inr (some (4, 0))))], [], am_mk r1)) (if_neg hc3) ?_
    refine am_Go.n htb 3 (S' := (25, [some (.inr (.inr (some (4, 0))))], [.inl 1, .inl (r1.1 4 0 7)], am_mk r1)) rfl ?_
    by_cases hc7 : (r1.1 4 0 7) < (1 : Int32)
    · rw [if_pos hc7] at h
      refine am_Go.c1 htb (S' := (37, [some (.inr (.inr (some (4, 0))))], [], am_mk r1)) (if_pos hc7) ?_
      refine am_Go.n htb 1 (S' := (38, [some (.inr (.inr (some (4, 0))))], [.inr (.inr (some (4, 0)))], am_mk r1)) rfl ?_
      obtain ⟨r8, h9, h⟩ := am_bd h
      refine am_Go.cl htb rfl (ex_X4_failed d (by omega)  r1 r8 h9) ?_
      show am_Go d 48 (41, [some (.inr (.inr (some (4, 0))))], [.inl r8.1], am_mk r8.2) _ _ _ _
      obtain ⟨hz10, h⟩ := am_gd_some h
      cases h
      exact am_Go.rt htb (if_pos hz10)
    · rw [if_neg hc7] at h
      refine am_Go.c1 htb (S' := (28, [some (.inr (.inr (some (4, 0))))], [], am_mk r1)) (if_neg hc7) ?_
      refine am_Go.n htb 3 (S' := (34, [some (.inr (.inr (some (4, 0))))], [.inl 20, .inl (r1.1 4 0 7)], am_mk r1)) rfl ?_
      by_cases hc11 : (r1.1 4 0 7) ≤ (20 : Int32)
      · rw [if_pos hc11] at h
        refine am_Go.c1 htb (S' := (42, [some (.inr (.inr (some (4, 0))))], [], am_mk r1)) (if_pos hc11) ?_
        refine am_Go.n htb 5 (S' := (51, [some (.inr (.inr (some (4, 0))))], [.inl (r1.1 4 0 7), .inl 1, .inr (.inr (some (5, 0)))], am_mk r1)) rfl ?_
        obtain ⟨r12, h13, h⟩ := am_bd h
        refine am_Go.cl htb rfl (ex_X5_mark d (by omega) 0 1 (r1.1 4 0 7) r1 r12 h13) ?_
        show am_Go d 48 (54, [some (.inr (.inr (some (4, 0))))], [], am_mk r12) _ _ _ _
        refine am_Go.n htb 5 (S' := (61, [some (.inr (.inr (some (4, 0))))], [.inl ((r12.1 4 0 5) + (1 : Int32)), .inr (.inr (some (4, 0)))], am_mk r12)) rfl ?_
        obtain ⟨r14, h15, h⟩ := am_bd h
        refine am_Go.cl htb rfl (ex_X4_goTo d (by omega) ((r12.1 4 0 5) + (1 : Int32)) r12 r14 h15) ?_
        show am_Go d 48 (64, [some (.inr (.inr (some (4, 0))))], [], am_mk r14) _ _ _ _
        refine am_Go.n htb 1 (S' := (65, [some (.inr (.inr (some (4, 0))))], [.inl 1], am_mk r14)) rfl ?_
        cases h
        exact am_Go.rt htb rfl
      · rw [if_neg hc11] at h
        refine am_Go.c1 htb (S' := (37, [some (.inr (.inr (some (4, 0))))], [], am_mk r1)) (if_neg hc11) ?_
        refine am_Go.n htb 1 (S' := (38, [some (.inr (.inr (some (4, 0))))], [.inr (.inr (some (4, 0)))], am_mk r1)) rfl ?_
        obtain ⟨r16, h17, h⟩ := am_bd h
        refine am_Go.cl htb rfl (ex_X4_failed d (by omega)  r1 r16 h17) ?_
        show am_Go d 48 (41, [some (.inr (.inr (some (4, 0))))], [.inl r16.1], am_mk r16.2) _ _ _ _
        obtain ⟨hz18, h⟩ := am_gd_some h
        cases h
        exact am_Go.rt htb (if_pos hz18)
-- X5_put
set_option maxRecDepth 100000 in
theorem ex_X5_put (d : Nat) (hd : 1 ≤ d) (a0 : Nat) (a1 : Int32) (a2 : Int32) (m : am_m) (t : am_m) (h : fn_X5_put a0 a1 a2 m = some t) : am_Ex am_cod d 63 [.inr (.inr (some (5, a0))), .inl a1, .inl a2] (am_mk m) (none) (am_mk t) 0 0 := by
  obtain ⟨d, rfl⟩ : ∃ e, d = e + 1 := ⟨d - 1, by omega⟩
  have htb : am_tab 63 = at_63 := rfl
  refine ⟨Nat.le_of_ble_eq_true rfl, ?_⟩
  unfold fn_X5_put at h
  show am_Go d 63 (0, [some (.inr (.inr (some (5, a0)))), some (.inl a1), some (.inl a2)], [], am_mk m) _ _ 0 0
  refine am_Go.n htb 5 (S' := (9, [some (.inr (.inr (some (5, a0)))), some (.inl a1), some (.inl a2)], [.inl (Int32.ofNat (m.2.2.2.2.2.2.1 29 a0)), .inl (m.1 5 a0 3)], am_mk m)) rfl ?_
  by_cases hc1 : (Int32.ofNat (m.2.2.2.2.2.2.1 29 a0)) ≤ (m.1 5 a0 3)
  · rw [if_pos hc1] at h
    refine am_Go.c1 htb (S' := (37, [some (.inr (.inr (some (5, a0)))), some (.inl a1), some (.inl a2)], [], am_mk m)) (if_pos hc1) ?_
    cases h
    exact am_Go.rt htb rfl
  · rw [if_neg hc1] at h
    refine am_Go.c1 htb (S' := (12, [some (.inr (.inr (some (5, a0)))), some (.inl a1), some (.inl a2)], [], am_mk m)) (if_neg hc1) ?_
    refine am_Go.n htb 9 (S' := (26, [some (.inr (.inr (some (5, a0)))), some (.inl a1), some (.inl a2)], [.inl ((a2 <<< ((9 : Int32) &&& 31)) ||| a1), .inl (m.1 5 a0 3), .inr (.inr (some (29, a0)))], am_mk m)) rfl ?_
    obtain ⟨hg2, h⟩ := am_ck_some h
    refine am_Go.c1 htb (S' := (27, [some (.inr (.inr (some (5, a0)))), some (.inl a1), some (.inl a2)], [], am_mk (am_si m 29 a0 (m.1 5 a0 3).toNatClampNeg ((a2 <<< ((9 : Int32) &&& 31)) ||| a1)))) (if_neg hg2) ?_
    refine am_Go.n htb 6 (S' := (37, [some (.inr (.inr (some (5, a0)))), some (.inl a1), some (.inl a2)], [], am_mk (am_si (am_si m 29 a0 (m.1 5 a0 3).toNatClampNeg ((a2 <<< ((9 : Int32) &&& 31)) ||| a1)) 5 a0 3 ((m.1 5 a0 3) + (1 : Int32))))) rfl ?_
    cases h
    exact am_Go.rt htb rfl
-- X4_readLawWord
set_option maxRecDepth 100000 in
theorem ex_X4_readLawWord (d : Nat) (hd : 3 ≤ d)  (m : am_m) (t : Int32 × am_m) (h : fn_X4_readLawWord  m = some t) : am_Ex am_cod d 56 [.inr (.inr (some (4, 0)))] (am_mk m) (some (.inl t.1)) (am_mk t.2) 0 0 := by
  obtain ⟨d, rfl⟩ : ∃ e, d = e + 1 := ⟨d - 1, by omega⟩
  have htb : am_tab 56 = at_56 := rfl
  refine ⟨Nat.le_of_ble_eq_true rfl, ?_⟩
  unfold fn_X4_readLawWord at h
  show am_Go d 56 (0, [some (.inr (.inr (some (4, 0))))], [], am_mk m) _ _ 0 0
  refine am_Go.n htb 3 (S' := (7, [some (.inr (.inr (some (4, 0))))], [.inl 274, .inl (m.1 4 0 6)], am_mk m)) rfl ?_
  by_cases hc1 : (m.1 4 0 6) < (274 : Int32)
  · rw [if_pos hc1] at h
    refine am_Go.c1 htb (S' := (20, [some (.inr (.inr (some (4, 0))))], [], am_mk m)) (if_pos hc1) ?_
    refine am_Go.n htb 1 (S' := (21, [some (.inr (.inr (some (4, 0))))], [.inr (.inr (some (4, 0)))], am_mk m)) rfl ?_
    obtain ⟨r2, h3, h⟩ := am_bd h
    refine am_Go.cl htb rfl (ex_X4_failed d (by omega)  m r2 h3) ?_
    show am_Go d 56 (24, [some (.inr (.inr (some (4, 0))))], [.inl r2.1], am_mk r2.2) _ _ _ _
    obtain ⟨hz4, h⟩ := am_gd_some h
    cases h
    exact am_Go.rt htb (if_pos hz4)
  · rw [if_neg hc1] at h
    refine am_Go.c1 htb (S' := (10, [some (.inr (.inr (some (4, 0))))], [], am_mk m)) (if_neg hc1) ?_
    refine am_Go.n htb 3 (S' := (17, [some (.inr (.inr (some (4, 0))))], [.inl 281, .inl (m.1 4 0 6)], am_mk m)) rfl ?_
    by_cases hc5 : (m.1 4 0 6) ≤ (281 : Int32)
    · rw [if_pos hc5] at h
      refine am_Go.c1 htb (S' := (25, [some (.inr (.inr (some (4, 0))))], [], am_mk m)) (if_pos hc5) ?_
      refine am_Go.n htb 7 (S' := (40, [some (.inr (.inr (some (4, 0))))], [.inl ((m.1 4 0 6) - (274 : Int32)), .inl 258, .inr (.inr (some (5, 0)))], am_mk m)) rfl ?_
      obtain ⟨r6, h7, h⟩ := am_bd h
      refine am_Go.cl htb rfl (ex_X5_put d (by omega) 0 258 ((m.1 4 0 6) - (274 : Int32)) m r6 h7) ?_
      show am_Go d 56 (43, [some (.inr (.inr (some (4, 0))))], [], am_mk r6) _ _ _ _
      refine am_Go.n htb 5 (S' := (50, [some (.inr (.inr (some (4, 0))))], [.inl ((r6.1 4 0 5) + (1 : Int32)), .inr (.inr (some (4, 0)))], am_mk r6)) rfl ?_
      obtain ⟨r8, h9, h⟩ := am_bd h
      refine am_Go.cl htb rfl (ex_X4_goTo d (by omega) ((r6.1 4 0 5) + (1 : Int32)) r6 r8 h9) ?_
      show am_Go d 56 (53, [some (.inr (.inr (some (4, 0))))], [], am_mk r8) _ _ _ _
      refine am_Go.n htb 1 (S' := (54, [some (.inr (.inr (some (4, 0))))], [.inl 1], am_mk r8)) rfl ?_
      cases h
      exact am_Go.rt htb rfl
    · rw [if_neg hc5] at h
      refine am_Go.c1 htb (S' := (20, [some (.inr (.inr (some (4, 0))))], [], am_mk m)) (if_neg hc5) ?_
      refine am_Go.n htb 1 (S' := (21, [some (.inr (.inr (some (4, 0))))], [.inr (.inr (some (4, 0)))], am_mk m)) rfl ?_
      obtain ⟨r10, h11, h⟩ := am_bd h
      refine am_Go.cl htb rfl (ex_X4_failed d (by omega)  m r10 h11) ?_
      show am_Go d 56 (24, [some (.inr (.inr (some (4, 0))))], [.inl r10.1], am_mk r10.2) _ _ _ _
      obtain ⟨hz12, h⟩ := am_gd_some h
      cases h
      exact am_Go.rt htb (if_pos hz12)
-- X4_readOrderWord
set_option maxHeartbeats 10000000 in
set_option maxRecDepth 100000 in
theorem ex_X4_readOrderWord (d : Nat) (hd : 3 ≤ d)  (m : am_m) (t : Int32 × am_m) (h : fn_X4_readOrderWord  m = some t) : am_Ex am_cod d 57 [.inr (.inr (some (4, 0)))] (am_mk m) (some (.inl t.1)) (am_mk t.2) 0 0 := by
  obtain ⟨d, rfl⟩ : ∃ e, d = e + 1 := ⟨d - 1, by omega⟩
  have htb : am_tab 57 = at_57 := rfl
  refine ⟨Nat.le_of_ble_eq_true rfl, ?_⟩
  unfold fn_X4_readOrderWord at h
  show am_Go d 57 (0, [some (.inr (.inr (some (4, 0)))), none], [], am_mk m) _ _ 0 0
  refine am_Go.n htb 5 (S' := (9, [some (.inr (.inr (some (4, 0)))), some (.inl (m.1 4 0 6))], [.inl 278, .inl (m.1 4 0 6)], am_mk m)) rfl ?_
  by_cases hc1 : (m.1 4 0 6) = (278 : Int32)
  · rw [if_pos hc1] at h
    refine am_Go.c1 htb (S' := (19, [some (.inr (.inr (some (4, 0)))), some (.inl (m.1 4 0 6))], [], am_mk m)) (if_pos hc1) ?_
    refine am_Go.n htb 5 (S' := (26, [some (.inr (.inr (some (4, 0)))), some (.inl (m.1 4 0 6))], [.inl ((m.1 4 0 5) + (1 : Int32)), .inr (.inr (some (4, 0)))], am_mk m)) rfl ?_
    obtain ⟨r2, h3, h⟩ := am_bd h
    refine am_Go.cl htb rfl (ex_X4_goTo d (by omega) ((m.1 4 0 5) + (1 : Int32)) m r2 h3) ?_
    show am_Go d 57 (29, [some (.inr (.inr (some (4, 0)))), some (.inl (m.1 4 0 6))], [], am_mk r2) _ _ _ _
    refine am_Go.n htb 3 (S' := (36, [some (.inr (.inr (some (4, 0)))), some (.inl (m.1 4 0 6))], [.inl 256, .inl (r2.1 4 0 6)], am_mk r2)) rfl ?_
    by_cases hc4 : (r2.1 4 0 6) ≠ (256 : Int32)
    · rw [if_pos hc4] at h
      refine am_Go.c1 htb (S' := (48, [some (.inr (.inr (some (4, 0)))), some (.inl (m.1 4 0 6))], [], am_mk r2)) (if_pos hc4) ?_
      refine am_Go.n htb 1 (S' := (49, [some (.inr (.inr (some (4, 0)))), some (.inl (m.1 4 0 6))], [.inr (.inr (some (4, 0)))], am_mk r2)) rfl ?_
      obtain ⟨r5, h6, h⟩ := am_bd h
      refine am_Go.cl htb rfl (ex_X4_failed d (by omega)  r2 r5 h6) ?_
      show am_Go d 57 (52, [some (.inr (.inr (some (4, 0)))), some (.inl (m.1 4 0 6))], [.inl r5.1], am_mk r5.2) _ _ _ _
      obtain ⟨hz7, h⟩ := am_gd_some h
      cases h
      exact am_Go.rt htb (if_pos hz7)
    · rw [if_neg hc4] at h
      refine am_Go.c1 htb (S' := (39, [some (.inr (.inr (some (4, 0)))), some (.inl (m.1 4 0 6))], [], am_mk r2)) (if_neg hc4) ?_
      refine am_Go.n htb 3 (S' := (45, [some (.inr (.inr (some (4, 0)))), some (.inl (m.1 4 0 6))], [.inl 7, .inl (r2.1 4 0 7)], am_mk r2)) rfl ?_
      by_cases hc8 : (r2.1 4 0 7) < (7 : Int32)
      · rw [if_pos hc8] at h
        refine am_Go.c1 htb (S' := (53, [some (.inr (.inr (some (4, 0)))), some (.inl (m.1 4 0 6))], [], am_mk r2)) (if_pos hc8) ?_
        refine am_Go.n htb 5 (S' := (64, [some (.inr (.inr (some (4, 0)))), some (.inl (m.1 4 0 6))], [.inl 286, .inl (m.1 4 0 6), .inl 258, .inr (.inr (some (5, 0)))], am_mk r2)) rfl ?_
        refine am_Go.cut (S := (73, [some (.inr (.inr (some (4, 0)))), some (.inl (m.1 4 0 6))], [.inl (if (m.1 4 0 6) ≠ (286 : Int32) then (5 : Int32) else (12 : Int32)), .inl 258, .inr (.inr (some (5, 0)))], am_mk r2)) ?_ (fun key => ?_)
        · refine am_Go.n htb 3 (S' := (78, [some (.inr (.inr (some (4, 0)))), some (.inl (m.1 4 0 6))], [.inl ((if (m.1 4 0 6) ≠ (286 : Int32) then (5 : Int32) else (12 : Int32)) + (r2.1 4 0 7)), .inl 258, .inr (.inr (some (5, 0)))], am_mk r2)) rfl ?_
          obtain ⟨r10, h11, h⟩ := am_bd h
          refine am_Go.cl htb rfl (ex_X5_put d (by omega) 0 258 ((if (m.1 4 0 6) ≠ (286 : Int32) then (5 : Int32) else (12 : Int32)) + (r2.1 4 0 7)) r2 r10 h11) ?_
          show am_Go d 57 (81, [some (.inr (.inr (some (4, 0)))), some (.inl (m.1 4 0 6))], [], am_mk r10) _ _ _ _
          refine am_Go.n htb 6 (S' := (93, [some (.inr (.inr (some (4, 0)))), some (.inl (m.1 4 0 6))], [.inl 286, .inl (m.1 4 0 6), .inl (r10.1 5 0 4), .inr (.inr (some (5, 0)))], am_mk r10)) rfl ?_
          refine am_Go.cut (S := (106, [some (.inr (.inr (some (4, 0)))), some (.inl (m.1 4 0 6))], [.inl (if (m.1 4 0 6) ≠ (286 : Int32) then (0 : Int32) else ((1 : Int32) <<< ((r10.1 4 0 7) &&& 31))), .inl (r10.1 5 0 4), .inr (.inr (some (5, 0)))], am_mk r10)) ?_ (fun key => ?_)
          · refine am_Go.n htb 8 (S' := (180, [some (.inr (.inr (some (4, 0)))), some (.inl (m.1 4 0 6))], [.inl ((r10.1 4 0 5) + (1 : Int32)), .inr (.inr (some (4, 0)))], am_mk (am_si r10 5 0 4 ((r10.1 5 0 4) ||| (if (m.1 4 0 6) ≠ (286 : Int32) then (0 : Int32) else ((1 : Int32) <<< ((r10.1 4 0 7) &&& 31))))))) rfl ?_
            obtain ⟨r13, h14, h⟩ := am_bd h
            refine am_Go.cl htb rfl (ex_X4_goTo d (by omega) ((r10.1 4 0 5) + (1 : Int32)) (am_si r10 5 0 4 ((r10.1 5 0 4) ||| (if (m.1 4 0 6) ≠ (286 : Int32) then (0 : Int32) else ((1 : Int32) <<< ((r10.1 4 0 7) &&& 31))))) r13 h14) ?_
            show am_Go d 57 (183, [some (.inr (.inr (some (4, 0)))), some (.inl (m.1 4 0 6))], [], am_mk r13) _ _ _ _
            refine am_Go.n htb 1 (S' := (184, [some (.inr (.inr (some (4, 0)))), some (.inl (m.1 4 0 6))], [.inl 1], am_mk r13)) rfl ?_
            cases h
            exact am_Go.rt htb rfl
          · by_cases hc12 : (m.1 4 0 6) ≠ (286 : Int32)
            · refine am_Go.c1 htb (S' := (105, [some (.inr (.inr (some (4, 0)))), some (.inl (m.1 4 0 6))], [.inl (r10.1 5 0 4), .inr (.inr (some (5, 0)))], am_mk r10)) (if_pos hc12) ?_
              refine am_Go.n htb 1 (S' := (106, [some (.inr (.inr (some (4, 0)))), some (.inl (m.1 4 0 6))], [.inl 0, .inl (r10.1 5 0 4), .inr (.inr (some (5, 0)))], am_mk r10)) rfl ?_
              simp only [if_pos hc12] at key
              exact am_Go.fg (by exact ⟨rfl, ⟨rfl, trivial⟩⟩) key
            · refine am_Go.c1 htb (S' := (96, [some (.inr (.inr (some (4, 0)))), some (.inl (m.1 4 0 6))], [.inl (r10.1 5 0 4), .inr (.inr (some (5, 0)))], am_mk r10)) (if_neg hc12) ?_
              refine am_Go.n htb 5 (S' := (106, [some (.inr (.inr (some (4, 0)))), some (.inl (m.1 4 0 6))], [.inl ((1 : Int32) <<< ((r10.1 4 0 7) &&& 31)), .inl (r10.1 5 0 4), .inr (.inr (some (5, 0)))], am_mk r10)) rfl ?_
              simp only [if_neg hc12] at key
              exact am_Go.fg (by exact ⟨rfl, ⟨rfl, trivial⟩⟩) key
        · by_cases hc9 : (m.1 4 0 6) ≠ (286 : Int32)
          · refine am_Go.c1 htb (S' := (72, [some (.inr (.inr (some (4, 0)))), some (.inl (m.1 4 0 6))], [.inl 258, .inr (.inr (some (5, 0)))], am_mk r2)) (if_pos hc9) ?_
            refine am_Go.n htb 1 (S' := (73, [some (.inr (.inr (some (4, 0)))), some (.inl (m.1 4 0 6))], [.inl 5, .inl 258, .inr (.inr (some (5, 0)))], am_mk r2)) rfl ?_
            simp only [if_pos hc9] at key
            exact am_Go.fg (by exact ⟨rfl, ⟨rfl, trivial⟩⟩) key
          · refine am_Go.c1 htb (S' := (67, [some (.inr (.inr (some (4, 0)))), some (.inl (m.1 4 0 6))], [.inl 258, .inr (.inr (some (5, 0)))], am_mk r2)) (if_neg hc9) ?_
            refine am_Go.n htb 2 (S' := (73, [some (.inr (.inr (some (4, 0)))), some (.inl (m.1 4 0 6))], [.inl 12, .inl 258, .inr (.inr (some (5, 0)))], am_mk r2)) rfl ?_
            simp only [if_neg hc9] at key
            exact am_Go.fg (by exact ⟨rfl, ⟨rfl, trivial⟩⟩) key
      · rw [if_neg hc8] at h
        refine am_Go.c1 htb (S' := (48, [some (.inr (.inr (some (4, 0)))), some (.inl (m.1 4 0 6))], [], am_mk r2)) (if_neg hc8) ?_
        refine am_Go.n htb 1 (S' := (49, [some (.inr (.inr (some (4, 0)))), some (.inl (m.1 4 0 6))], [.inr (.inr (some (4, 0)))], am_mk r2)) rfl ?_
        obtain ⟨r15, h16, h⟩ := am_bd h
        refine am_Go.cl htb rfl (ex_X4_failed d (by omega)  r2 r15 h16) ?_
        show am_Go d 57 (52, [some (.inr (.inr (some (4, 0)))), some (.inl (m.1 4 0 6))], [.inl r15.1], am_mk r15.2) _ _ _ _
        obtain ⟨hz17, h⟩ := am_gd_some h
        cases h
        exact am_Go.rt htb (if_pos hz17)
  · rw [if_neg hc1] at h
    refine am_Go.c1 htb (S' := (12, [some (.inr (.inr (some (4, 0)))), some (.inl (m.1 4 0 6))], [], am_mk m)) (if_neg hc1) ?_
    refine am_Go.n htb 2 (S' := (16, [some (.inr (.inr (some (4, 0)))), some (.inl (m.1 4 0 6))], [.inl 286, .inl (m.1 4 0 6)], am_mk m)) rfl ?_
    by_cases hc18 : (m.1 4 0 6) ≠ (286 : Int32)
    · rw [if_pos hc18] at h
      refine am_Go.c1 htb (S' := (113, [some (.inr (.inr (some (4, 0)))), some (.inl (m.1 4 0 6))], [], am_mk m)) (if_pos hc18) ?_
      refine am_Go.n htb 2 (S' := (117, [some (.inr (.inr (some (4, 0)))), some (.inl (m.1 4 0 6))], [.inl 280, .inl (m.1 4 0 6)], am_mk m)) rfl ?_
      by_cases hc19 : (m.1 4 0 6) ≠ (280 : Int32)
      · rw [if_pos hc19] at h
        refine am_Go.c1 htb (S' := (134, [some (.inr (.inr (some (4, 0)))), some (.inl (m.1 4 0 6))], [], am_mk m)) (if_pos hc19) ?_
        refine am_Go.n htb 2 (S' := (138, [some (.inr (.inr (some (4, 0)))), some (.inl (m.1 4 0 6))], [.inl 282, .inl (m.1 4 0 6)], am_mk m)) rfl ?_
        by_cases hc20 : (m.1 4 0 6) < (282 : Int32)
        · rw [if_pos hc20] at h
          refine am_Go.c1 htb (S' := (168, [some (.inr (.inr (some (4, 0)))), some (.inl (m.1 4 0 6))], [], am_mk m)) (if_pos hc20) ?_
          refine am_Go.n htb 1 (S' := (169, [some (.inr (.inr (some (4, 0)))), some (.inl (m.1 4 0 6))], [.inr (.inr (some (4, 0)))], am_mk m)) rfl ?_
          obtain ⟨r21, h22, h⟩ := am_bd h
          refine am_Go.cl htb rfl (ex_X4_failed d (by omega)  m r21 h22) ?_
          show am_Go d 57 (172, [some (.inr (.inr (some (4, 0)))), some (.inl (m.1 4 0 6))], [.inl r21.1], am_mk r21.2) _ _ _ _
          obtain ⟨hz23, h⟩ := am_gd_some h
          cases h
          exact am_Go.rt htb (if_pos hz23)
        · rw [if_neg hc20] at h
          refine am_Go.c1 htb (S' := (141, [some (.inr (.inr (some (4, 0)))), some (.inl (m.1 4 0 6))], [], am_mk m)) (if_neg hc20) ?_
          refine am_Go.n htb 2 (S' := (145, [some (.inr (.inr (some (4, 0)))), some (.inl (m.1 4 0 6))], [.inl 285, .inl (m.1 4 0 6)], am_mk m)) rfl ?_
          by_cases hc24 : (285 : Int32) < (m.1 4 0 6)
          · rw [if_pos hc24] at h
            refine am_Go.c1 htb (S' := (168, [some (.inr (.inr (some (4, 0)))), some (.inl (m.1 4 0 6))], [], am_mk m)) (if_pos hc24) ?_
            refine am_Go.n htb 1 (S' := (169, [some (.inr (.inr (some (4, 0)))), some (.inl (m.1 4 0 6))], [.inr (.inr (some (4, 0)))], am_mk m)) rfl ?_
            obtain ⟨r25, h26, h⟩ := am_bd h
            refine am_Go.cl htb rfl (ex_X4_failed d (by omega)  m r25 h26) ?_
            show am_Go d 57 (172, [some (.inr (.inr (some (4, 0)))), some (.inl (m.1 4 0 6))], [.inl r25.1], am_mk r25.2) _ _ _ _
            obtain ⟨hz27, h⟩ := am_gd_some h
            cases h
            exact am_Go.rt htb (if_pos hz27)
          · rw [if_neg hc24] at h
            refine am_Go.c1 htb (S' := (148, [some (.inr (.inr (some (4, 0)))), some (.inl (m.1 4 0 6))], [], am_mk m)) (if_neg hc24) ?_
            refine am_Go.n htb 8 (S' := (162, [some (.inr (.inr (some (4, 0)))), some (.inl (m.1 4 0 6))], [.inl (((1 : Int32) + (m.1 4 0 6)) - (282 : Int32)), .inl 258, .inr (.inr (some (5, 0)))], am_mk m)) rfl ?_
            obtain ⟨r28, h29, h⟩ := am_bd h
            refine am_Go.cl htb rfl (ex_X5_put d (by omega) 0 258 (((1 : Int32) + (m.1 4 0 6)) - (282 : Int32)) m r28 h29) ?_
            show am_Go d 57 (165, [some (.inr (.inr (some (4, 0)))), some (.inl (m.1 4 0 6))], [], am_mk r28) _ _ _ _
            refine am_Go.n htb 6 (S' := (180, [some (.inr (.inr (some (4, 0)))), some (.inl (m.1 4 0 6))], [.inl ((r28.1 4 0 5) + (1 : Int32)), .inr (.inr (some (4, 0)))], am_mk r28)) rfl ?_
            obtain ⟨r30, h31, h⟩ := am_bd h
            refine am_Go.cl htb rfl (ex_X4_goTo d (by omega) ((r28.1 4 0 5) + (1 : Int32)) r28 r30 h31) ?_
            show am_Go d 57 (183, [some (.inr (.inr (some (4, 0)))), some (.inl (m.1 4 0 6))], [], am_mk r30) _ _ _ _
            refine am_Go.n htb 1 (S' := (184, [some (.inr (.inr (some (4, 0)))), some (.inl (m.1 4 0 6))], [.inl 1], am_mk r30)) rfl ?_
            cases h
            exact am_Go.rt htb rfl
      · rw [if_neg hc19] at h
        refine am_Go.c1 htb (S' := (120, [some (.inr (.inr (some (4, 0)))), some (.inl (m.1 4 0 6))], [], am_mk m)) (if_neg hc19) ?_
        refine am_Go.n htb 4 (S' := (128, [some (.inr (.inr (some (4, 0)))), some (.inl (m.1 4 0 6))], [.inl 0, .inl 258, .inr (.inr (some (5, 0)))], am_mk m)) rfl ?_
        obtain ⟨r32, h33, h⟩ := am_bd h
        refine am_Go.cl htb rfl (ex_X5_put d (by omega) 0 258 0 m r32 h33) ?_
        show am_Go d 57 (131, [some (.inr (.inr (some (4, 0)))), some (.inl (m.1 4 0 6))], [], am_mk r32) _ _ _ _
        refine am_Go.n htb 6 (S' := (180, [some (.inr (.inr (some (4, 0)))), some (.inl (m.1 4 0 6))], [.inl ((r32.1 4 0 5) + (1 : Int32)), .inr (.inr (some (4, 0)))], am_mk r32)) rfl ?_
        obtain ⟨r34, h35, h⟩ := am_bd h
        refine am_Go.cl htb rfl (ex_X4_goTo d (by omega) ((r32.1 4 0 5) + (1 : Int32)) r32 r34 h35) ?_
        show am_Go d 57 (183, [some (.inr (.inr (some (4, 0)))), some (.inl (m.1 4 0 6))], [], am_mk r34) _ _ _ _
        refine am_Go.n htb 1 (S' := (184, [some (.inr (.inr (some (4, 0)))), some (.inl (m.1 4 0 6))], [.inl 1], am_mk r34)) rfl ?_
        cases h
        exact am_Go.rt htb rfl
    · rw [if_neg hc18] at h
      refine am_Go.c1 htb (S' := (19, [some (.inr (.inr (some (4, 0)))), some (.inl (m.1 4 0 6))], [], am_mk m)) (if_neg hc18) ?_
      refine am_Go.n htb 5 (S' := (26, [some (.inr (.inr (some (4, 0)))), some (.inl (m.1 4 0 6))], [.inl ((m.1 4 0 5) + (1 : Int32)), .inr (.inr (some (4, 0)))], am_mk m)) rfl ?_
      obtain ⟨r36, h37, h⟩ := am_bd h
      refine am_Go.cl htb rfl (ex_X4_goTo d (by omega) ((m.1 4 0 5) + (1 : Int32)) m r36 h37) ?_
      show am_Go d 57 (29, [some (.inr (.inr (some (4, 0)))), some (.inl (m.1 4 0 6))], [], am_mk r36) _ _ _ _
      refine am_Go.n htb 3 (S' := (36, [some (.inr (.inr (some (4, 0)))), some (.inl (m.1 4 0 6))], [.inl 256, .inl (r36.1 4 0 6)], am_mk r36)) rfl ?_
      by_cases hc38 : (r36.1 4 0 6) ≠ (256 : Int32)
      · rw [if_pos hc38] at h
        refine am_Go.c1 htb (S' := (48, [some (.inr (.inr (some (4, 0)))), some (.inl (m.1 4 0 6))], [], am_mk r36)) (if_pos hc38) ?_
        refine am_Go.n htb 1 (S' := (49, [some (.inr (.inr (some (4, 0)))), some (.inl (m.1 4 0 6))], [.inr (.inr (some (4, 0)))], am_mk r36)) rfl ?_
        obtain ⟨r39, h40, h⟩ := am_bd h
        refine am_Go.cl htb rfl (ex_X4_failed d (by omega)  r36 r39 h40) ?_
        show am_Go d 57 (52, [some (.inr (.inr (some (4, 0)))), some (.inl (m.1 4 0 6))], [.inl r39.1], am_mk r39.2) _ _ _ _
        obtain ⟨hz41, h⟩ := am_gd_some h
        cases h
        exact am_Go.rt htb (if_pos hz41)
      · rw [if_neg hc38] at h
        refine am_Go.c1 htb (S' := (39, [some (.inr (.inr (some (4, 0)))), some (.inl (m.1 4 0 6))], [], am_mk r36)) (if_neg hc38) ?_
        refine am_Go.n htb 3 (S' := (45, [some (.inr (.inr (some (4, 0)))), some (.inl (m.1 4 0 6))], [.inl 7, .inl (r36.1 4 0 7)], am_mk r36)) rfl ?_
        by_cases hc42 : (r36.1 4 0 7) < (7 : Int32)
        · rw [if_pos hc42] at h
          refine am_Go.c1 htb (S' := (53, [some (.inr (.inr (some (4, 0)))), some (.inl (m.1 4 0 6))], [], am_mk r36)) (if_pos hc42) ?_
          refine am_Go.n htb 5 (S' := (64, [some (.inr (.inr (some (4, 0)))), some (.inl (m.1 4 0 6))], [.inl 286, .inl (m.1 4 0 6), .inl 258, .inr (.inr (some (5, 0)))], am_mk r36)) rfl ?_
          refine am_Go.cut (S := (73, [some (.inr (.inr (some (4, 0)))), some (.inl (m.1 4 0 6))], [.inl (if (m.1 4 0 6) ≠ (286 : Int32) then (5 : Int32) else (12 : Int32)), .inl 258, .inr (.inr (some (5, 0)))], am_mk r36)) ?_ (fun key => ?_)
          · refine am_Go.n htb 3 (S' := (78, [some (.inr (.inr (some (4, 0)))), some (.inl (m.1 4 0 6))], [.inl ((if (m.1 4 0 6) ≠ (286 : Int32) then (5 : Int32) else (12 : Int32)) + (r36.1 4 0 7)), .inl 258, .inr (.inr (some (5, 0)))], am_mk r36)) rfl ?_
            obtain ⟨r44, h45, h⟩ := am_bd h
            refine am_Go.cl htb rfl (ex_X5_put d (by omega) 0 258 ((if (m.1 4 0 6) ≠ (286 : Int32) then (5 : Int32) else (12 : Int32)) + (r36.1 4 0 7)) r36 r44 h45) ?_
            show am_Go d 57 (81, [some (.inr (.inr (some (4, 0)))), some (.inl (m.1 4 0 6))], [], am_mk r44) _ _ _ _
            refine am_Go.n htb 6 (S' := (93, [some (.inr (.inr (some (4, 0)))), some (.inl (m.1 4 0 6))], [.inl 286, .inl (m.1 4 0 6), .inl (r44.1 5 0 4), .inr (.inr (some (5, 0)))], am_mk r44)) rfl ?_
            refine am_Go.cut (S := (106, [some (.inr (.inr (some (4, 0)))), some (.inl (m.1 4 0 6))], [.inl (if (m.1 4 0 6) ≠ (286 : Int32) then (0 : Int32) else ((1 : Int32) <<< ((r44.1 4 0 7) &&& 31))), .inl (r44.1 5 0 4), .inr (.inr (some (5, 0)))], am_mk r44)) ?_ (fun key => ?_)
            · refine am_Go.n htb 8 (S' := (180, [some (.inr (.inr (some (4, 0)))), some (.inl (m.1 4 0 6))], [.inl ((r44.1 4 0 5) + (1 : Int32)), .inr (.inr (some (4, 0)))], am_mk (am_si r44 5 0 4 ((r44.1 5 0 4) ||| (if (m.1 4 0 6) ≠ (286 : Int32) then (0 : Int32) else ((1 : Int32) <<< ((r44.1 4 0 7) &&& 31))))))) rfl ?_
              obtain ⟨r47, h48, h⟩ := am_bd h
              refine am_Go.cl htb rfl (ex_X4_goTo d (by omega) ((r44.1 4 0 5) + (1 : Int32)) (am_si r44 5 0 4 ((r44.1 5 0 4) ||| (if (m.1 4 0 6) ≠ (286 : Int32) then (0 : Int32) else ((1 : Int32) <<< ((r44.1 4 0 7) &&& 31))))) r47 h48) ?_
              show am_Go d 57 (183, [some (.inr (.inr (some (4, 0)))), some (.inl (m.1 4 0 6))], [], am_mk r47) _ _ _ _
              refine am_Go.n htb 1 (S' := (184, [some (.inr (.inr (some (4, 0)))), some (.inl (m.1 4 0 6))], [.inl 1], am_mk r47)) rfl ?_
              cases h
              exact am_Go.rt htb rfl
            · by_cases hc46 : (m.1 4 0 6) ≠ (286 : Int32)
              · refine am_Go.c1 htb (S' := (105, [some (.inr (.inr (some (4, 0)))), some (.inl (m.1 4 0 6))], [.inl (r44.1 5 0 4), .inr (.inr (some (5, 0)))], am_mk r44)) (if_pos hc46) ?_
                refine am_Go.n htb 1 (S' := (106, [some (.inr (.inr (some (4, 0)))), some (.inl (m.1 4 0 6))], [.inl 0, .inl (r44.1 5 0 4), .inr (.inr (some (5, 0)))], am_mk r44)) rfl ?_
                simp only [if_pos hc46] at key
                exact am_Go.fg (by exact ⟨rfl, ⟨rfl, trivial⟩⟩) key
              · refine am_Go.c1 htb (S' := (96, [some (.inr (.inr (some (4, 0)))), some (.inl (m.1 4 0 6))], [.inl (r44.1 5 0 4), .inr (.inr (some (5, 0)))], am_mk r44)) (if_neg hc46) ?_
                refine am_Go.n htb 5 (S' := (106, [some (.inr (.inr (some (4, 0)))), some (.inl (m.1 4 0 6))], [.inl ((1 : Int32) <<< ((r44.1 4 0 7) &&& 31)), .inl (r44.1 5 0 4), .inr (.inr (some (5, 0)))], am_mk r44)) rfl ?_
                simp only [if_neg hc46] at key
                exact am_Go.fg (by exact ⟨rfl, ⟨rfl, trivial⟩⟩) key
          · by_cases hc43 : (m.1 4 0 6) ≠ (286 : Int32)
            · refine am_Go.c1 htb (S' := (72, [some (.inr (.inr (some (4, 0)))), some (.inl (m.1 4 0 6))], [.inl 258, .inr (.inr (some (5, 0)))], am_mk r36)) (if_pos hc43) ?_
              refine am_Go.n htb 1 (S' := (73, [some (.inr (.inr (some (4, 0)))), some (.inl (m.1 4 0 6))], [.inl 5, .inl 258, .inr (.inr (some (5, 0)))], am_mk r36)) rfl ?_
              simp only [if_pos hc43] at key
              exact am_Go.fg (by exact ⟨rfl, ⟨rfl, trivial⟩⟩) key
            · refine am_Go.c1 htb (S' := (67, [some (.inr (.inr (some (4, 0)))), some (.inl (m.1 4 0 6))], [.inl 258, .inr (.inr (some (5, 0)))], am_mk r36)) (if_neg hc43) ?_
              refine am_Go.n htb 2 (S' := (73, [some (.inr (.inr (some (4, 0)))), some (.inl (m.1 4 0 6))], [.inl 12, .inl 258, .inr (.inr (some (5, 0)))], am_mk r36)) rfl ?_
              simp only [if_neg hc43] at key
              exact am_Go.fg (by exact ⟨rfl, ⟨rfl, trivial⟩⟩) key
        · rw [if_neg hc42] at h
          refine am_Go.c1 htb (S' := (48, [some (.inr (.inr (some (4, 0)))), some (.inl (m.1 4 0 6))], [], am_mk r36)) (if_neg hc42) ?_
          refine am_Go.n htb 1 (S' := (49, [some (.inr (.inr (some (4, 0)))), some (.inl (m.1 4 0 6))], [.inr (.inr (some (4, 0)))], am_mk r36)) rfl ?_
          obtain ⟨r49, h50, h⟩ := am_bd h
          refine am_Go.cl htb rfl (ex_X4_failed d (by omega)  r36 r49 h50) ?_
          show am_Go d 57 (52, [some (.inr (.inr (some (4, 0)))), some (.inl (m.1 4 0 6))], [.inl r49.1], am_mk r49.2) _ _ _ _
          obtain ⟨hz51, h⟩ := am_gd_some h
          cases h
          exact am_Go.rt htb (if_pos hz51)
-- X4_readPart
set_option maxRecDepth 100000 in
theorem ex_X4_readPart (d : Nat) (hd : 4 ≤ d) (rc : am_rc) (hrc : am_rcok rc (d - 1)) (a1 : Int32) (m : am_m) (t : Int32 × am_m) (h : fn_X4_readPart rc a1 m = some t) : am_Ex am_cod d 55 [.inr (.inr (some (4, 0))), .inl a1] (am_mk m) (some (.inl t.1)) (am_mk t.2) 0 0 := by
  obtain ⟨d, rfl⟩ : ∃ e, d = e + 1 := ⟨d - 1, by omega⟩
  have htb : am_tab 55 = at_55 := rfl
  refine ⟨Nat.le_of_ble_eq_true rfl, ?_⟩
  unfold fn_X4_readPart at h
  show am_Go d 55 (0, [some (.inr (.inr (some (4, 0)))), some (.inl a1)], [], am_mk m) _ _ 0 0
  refine am_Go.n htb 3 (S' := (6, [some (.inr (.inr (some (4, 0)))), some (.inl a1)], [.inl 91, .inl (m.1 4 0 6)], am_mk m)) rfl ?_
  by_cases hc1 : (m.1 4 0 6) ≠ (91 : Int32)
  · rw [if_pos hc1] at h
    refine am_Go.c1 htb (S' := (55, [some (.inr (.inr (some (4, 0)))), some (.inl a1)], [], am_mk m)) (if_pos hc1) ?_
    refine am_Go.n htb 3 (S' := (61, [some (.inr (.inr (some (4, 0)))), some (.inl a1)], [.inl 50, .inl (m.1 4 0 8)], am_mk m)) rfl ?_
    by_cases hc2 : (m.1 4 0 8) < (50 : Int32)
    · rw [if_pos hc2] at h
      refine am_Go.c1 htb (S' := (69, [some (.inr (.inr (some (4, 0)))), some (.inl a1)], [], am_mk m)) (if_pos hc2) ?_
      refine am_Go.n htb 9 (S' := (86, [some (.inr (.inr (some (4, 0)))), some (.inl a1)], [.inl 256, .inl (m.1 4 0 6)], am_mk (am_si m 4 0 8 ((m.1 4 0 8) + (1 : Int32))))) rfl ?_
      by_cases hc3 : (m.1 4 0 6) = (256 : Int32)
      · rw [if_pos hc3] at h
        refine am_Go.c1 htb (S' := (108, [some (.inr (.inr (some (4, 0)))), some (.inl a1)], [], am_mk (am_si m 4 0 8 ((m.1 4 0 8) + (1 : Int32))))) (if_pos hc3) ?_
        refine am_Go.n htb 3 (S' := (115, [some (.inr (.inr (some (4, 0)))), some (.inl a1)], [.inl 1000, .inl (m.1 4 0 7)], am_mk (am_si m 4 0 8 ((m.1 4 0 8) + (1 : Int32))))) rfl ?_
        by_cases hc4 : (m.1 4 0 7) ≤ (1000 : Int32)
        · rw [if_pos hc4] at h
          refine am_Go.c1 htb (S' := (123, [some (.inr (.inr (some (4, 0)))), some (.inl a1)], [], am_mk (am_si m 4 0 8 ((m.1 4 0 8) + (1 : Int32))))) (if_pos hc4) ?_
          refine am_Go.n htb 5 (S' := (134, [some (.inr (.inr (some (4, 0)))), some (.inl a1)], [.inl (m.1 4 0 7), .inl 256, .inr (.inr (some (5, 0)))], am_mk (am_si m 4 0 8 ((m.1 4 0 8) + (1 : Int32))))) rfl ?_
          obtain ⟨r5, h6, h⟩ := am_bd h
          refine am_Go.cl htb rfl (ex_X5_put d (by omega) 0 256 (m.1 4 0 7) (am_si m 4 0 8 ((m.1 4 0 8) + (1 : Int32))) r5 h6) ?_
          show am_Go d 55 (137, [some (.inr (.inr (some (4, 0)))), some (.inl a1)], [], am_mk r5) _ _ _ _
          refine am_Go.n htb 5 (S' := (144, [some (.inr (.inr (some (4, 0)))), some (.inl a1)], [.inl ((r5.1 4 0 5) + (1 : Int32)), .inr (.inr (some (4, 0)))], am_mk r5)) rfl ?_
          obtain ⟨r7, h8, h⟩ := am_bd h
          refine am_Go.cl htb rfl (ex_X4_goTo d (by omega) ((r5.1 4 0 5) + (1 : Int32)) r5 r7 h8) ?_
          show am_Go d 55 (147, [some (.inr (.inr (some (4, 0)))), some (.inl a1)], [], am_mk r7) _ _ _ _
          refine am_Go.n htb 1 (S' := (148, [some (.inr (.inr (some (4, 0)))), some (.inl a1)], [.inl 1], am_mk r7)) rfl ?_
          cases h
          exact am_Go.rt htb rfl
        · rw [if_neg hc4] at h
          refine am_Go.c1 htb (S' := (118, [some (.inr (.inr (some (4, 0)))), some (.inl a1)], [], am_mk (am_si m 4 0 8 ((m.1 4 0 8) + (1 : Int32))))) (if_neg hc4) ?_
          refine am_Go.n htb 1 (S' := (119, [some (.inr (.inr (some (4, 0)))), some (.inl a1)], [.inr (.inr (some (4, 0)))], am_mk (am_si m 4 0 8 ((m.1 4 0 8) + (1 : Int32))))) rfl ?_
          obtain ⟨r9, h10, h⟩ := am_bd h
          refine am_Go.cl htb rfl (ex_X4_failed d (by omega)  (am_si m 4 0 8 ((m.1 4 0 8) + (1 : Int32))) r9 h10) ?_
          show am_Go d 55 (122, [some (.inr (.inr (some (4, 0)))), some (.inl a1)], [.inl r9.1], am_mk r9.2) _ _ _ _
          obtain ⟨hz11, h⟩ := am_gd_some h
          cases h
          exact am_Go.rt htb (if_pos hz11)
      · rw [if_neg hc3] at h
        refine am_Go.c1 htb (S' := (89, [some (.inr (.inr (some (4, 0)))), some (.inl a1)], [], am_mk (am_si m 4 0 8 ((m.1 4 0 8) + (1 : Int32))))) (if_neg hc3) ?_
        refine am_Go.n htb 2 (S' := (93, [some (.inr (.inr (some (4, 0)))), some (.inl a1)], [.inl (m.1 4 0 9)], am_mk (am_si m 4 0 8 ((m.1 4 0 8) + (1 : Int32))))) rfl ?_
        by_cases hc12 : (m.1 4 0 9) = 0
        · rw [if_pos hc12] at h
          refine am_Go.c1 htb (S' := (103, [some (.inr (.inr (some (4, 0)))), some (.inl a1)], [], am_mk (am_si m 4 0 8 ((m.1 4 0 8) + (1 : Int32))))) (if_pos hc12) ?_
          refine am_Go.n htb 1 (S' := (104, [some (.inr (.inr (some (4, 0)))), some (.inl a1)], [.inr (.inr (some (4, 0)))], am_mk (am_si m 4 0 8 ((m.1 4 0 8) + (1 : Int32))))) rfl ?_
          obtain ⟨r13, h14, h⟩ := am_bd h
          refine am_Go.cl htb rfl (ex_X4_readLawWord d (by omega)  (am_si m 4 0 8 ((m.1 4 0 8) + (1 : Int32))) r13 h14) ?_
          show am_Go d 55 (107, [some (.inr (.inr (some (4, 0)))), some (.inl a1)], [.inl r13.1], am_mk r13.2) _ _ _ _
          obtain ⟨hz15, h⟩ := am_gd_some h
          cases h
          exact am_Go.rt htb (if_pos hz15)
        · rw [if_neg hc12] at h
          refine am_Go.c1 htb (S' := (96, [some (.inr (.inr (some (4, 0)))), some (.inl a1)], [], am_mk (am_si m 4 0 8 ((m.1 4 0 8) + (1 : Int32))))) (if_neg hc12) ?_
          refine am_Go.n htb 1 (S' := (97, [some (.inr (.inr (some (4, 0)))), some (.inl a1)], [.inr (.inr (some (4, 0)))], am_mk (am_si m 4 0 8 ((m.1 4 0 8) + (1 : Int32))))) rfl ?_
          obtain ⟨r16, h17, h⟩ := am_bd h
          refine am_Go.cl htb rfl (ex_X4_readOrderWord d (by omega)  (am_si m 4 0 8 ((m.1 4 0 8) + (1 : Int32))) r16 h17) ?_
          show am_Go d 55 (100, [some (.inr (.inr (some (4, 0)))), some (.inl a1)], [.inl r16.1], am_mk r16.2) _ _ _ _
          refine am_Go.n htb 1 (S' := (107, [some (.inr (.inr (some (4, 0)))), some (.inl a1)], [.inl r16.1], am_mk r16.2)) rfl ?_
          obtain ⟨hz18, h⟩ := am_gd_some h
          cases h
          exact am_Go.rt htb (if_pos hz18)
    · rw [if_neg hc2] at h
      refine am_Go.c1 htb (S' := (64, [some (.inr (.inr (some (4, 0)))), some (.inl a1)], [], am_mk m)) (if_neg hc2) ?_
      refine am_Go.n htb 1 (S' := (65, [some (.inr (.inr (some (4, 0)))), some (.inl a1)], [.inr (.inr (some (4, 0)))], am_mk m)) rfl ?_
      obtain ⟨r19, h20, h⟩ := am_bd h
      refine am_Go.cl htb rfl (ex_X4_failed d (by omega)  m r19 h20) ?_
      show am_Go d 55 (68, [some (.inr (.inr (some (4, 0)))), some (.inl a1)], [.inl r19.1], am_mk r19.2) _ _ _ _
      obtain ⟨hz21, h⟩ := am_gd_some h
      cases h
      exact am_Go.rt htb (if_pos hz21)
  · rw [if_neg hc1] at h
    refine am_Go.c1 htb (S' := (9, [some (.inr (.inr (some (4, 0)))), some (.inl a1)], [], am_mk m)) (if_neg hc1) ?_
    refine am_Go.n htb 2 (S' := (12, [some (.inr (.inr (some (4, 0)))), some (.inl a1)], [.inl 8, .inl a1], am_mk m)) rfl ?_
    by_cases hc22 : a1 < (8 : Int32)
    · rw [if_pos hc22] at h
      refine am_Go.c1 htb (S' := (20, [some (.inr (.inr (some (4, 0)))), some (.inl a1)], [], am_mk m)) (if_pos hc22) ?_
      refine am_Go.n htb 5 (S' := (27, [some (.inr (.inr (some (4, 0)))), some (.inl a1)], [.inl ((m.1 4 0 5) + (1 : Int32)), .inr (.inr (some (4, 0)))], am_mk m)) rfl ?_
      obtain ⟨r23, h24, h⟩ := am_bd h
      refine am_Go.cl htb rfl (ex_X4_goTo d (by omega) ((m.1 4 0 5) + (1 : Int32)) m r23 h24) ?_
      show am_Go d 55 (30, [some (.inr (.inr (some (4, 0)))), some (.inl a1)], [], am_mk r23) _ _ _ _
      refine am_Go.n htb 4 (S' := (34, [some (.inr (.inr (some (4, 0)))), some (.inl a1)], [.inl (a1 + (1 : Int32)), .inr (.inr (some (4, 0)))], am_mk r23)) rfl ?_
      obtain ⟨r25, h26, h⟩ := am_bd h
      refine am_Go.cl htb rfl (hrc 4 _ _ _ h26) ?_
      show am_Go d 55 (37, [some (.inr (.inr (some (4, 0)))), some (.inl a1)], [.inl r25.1], am_mk r25.2) _ _ _ _
      by_cases hc27 : r25.1 = 0
      · rw [if_pos hc27] at h
        refine am_Go.c1 htb (S' := (53, [some (.inr (.inr (some (4, 0)))), some (.inl a1)], [], am_mk r25.2)) (if_pos hc27) ?_
        refine am_Go.n htb 1 (S' := (54, [some (.inr (.inr (some (4, 0)))), some (.inl a1)], [.inl 0], am_mk r25.2)) rfl ?_
        cases h
        exact am_Go.rt htb rfl
      · rw [if_neg hc27] at h
        refine am_Go.c1 htb (S' := (40, [some (.inr (.inr (some (4, 0)))), some (.inl a1)], [], am_mk r25.2)) (if_neg hc27) ?_
        refine am_Go.n htb 2 (S' := (43, [some (.inr (.inr (some (4, 0)))), some (.inl a1)], [.inl 93, .inr (.inr (some (4, 0)))], am_mk r25.2)) rfl ?_
        obtain ⟨r28, h29, h⟩ := am_bd h
        refine am_Go.cl htb rfl (ex_X4_took d (by omega) 93 r25.2 r28 h29) ?_
        show am_Go d 55 (46, [some (.inr (.inr (some (4, 0)))), some (.inl a1)], [.inl r28.1], am_mk r28.2) _ _ _ _
        by_cases hc30 : r28.1 = 0
        · rw [if_pos hc30] at h
          refine am_Go.c1 htb (S' := (53, [some (.inr (.inr (some (4, 0)))), some (.inl a1)], [], am_mk r28.2)) (if_pos hc30) ?_
          refine am_Go.n htb 1 (S' := (54, [some (.inr (.inr (some (4, 0)))), some (.inl a1)], [.inl 0], am_mk r28.2)) rfl ?_
          cases h
          exact am_Go.rt htb rfl
        · rw [if_neg hc30] at h
          refine am_Go.c1 htb (S' := (49, [some (.inr (.inr (some (4, 0)))), some (.inl a1)], [], am_mk r28.2)) (if_neg hc30) ?_
          refine am_Go.n htb 2 (S' := (54, [some (.inr (.inr (some (4, 0)))), some (.inl a1)], [.inl 1], am_mk r28.2)) rfl ?_
          cases h
          exact am_Go.rt htb rfl
    · rw [if_neg hc22] at h
      refine am_Go.c1 htb (S' := (15, [some (.inr (.inr (some (4, 0)))), some (.inl a1)], [], am_mk m)) (if_neg hc22) ?_
      refine am_Go.n htb 1 (S' := (16, [some (.inr (.inr (some (4, 0)))), some (.inl a1)], [.inr (.inr (some (4, 0)))], am_mk m)) rfl ?_
      obtain ⟨r31, h32, h⟩ := am_bd h
      refine am_Go.cl htb rfl (ex_X4_failed d (by omega)  m r31 h32) ?_
      show am_Go d 55 (19, [some (.inr (.inr (some (4, 0)))), some (.inl a1)], [.inl r31.1], am_mk r31.2) _ _ _ _
      obtain ⟨hz33, h⟩ := am_gd_some h
      cases h
      exact am_Go.rt htb (if_pos hz33)
-- X4_readTerm
set_option maxRecDepth 100000 in
theorem lt_X4_readTerm_12 (d : Nat) (hd : 4 ≤ d + 1) (rc : am_rc) (hrc : am_rcok rc d) {r : Option am_V} {M' : am_M} {kc ks : Nat} {n : Nat} {x1 : Int32} {x2 : Int32} {m : am_m} {t : Sum (am_m) (Int32 × am_m)} (h : lp_X4_readTerm_12 rc n x1 x2 m = some t) (hk : ∀ t', t = .inl t' → am_Go d 54 (86, [some (.inr (.inr (some (4, 0)))), some (.inl x1), none, none], [], am_mk t') r M' kc ks) (hr : ∀ t', t = .inr t' → r = some (.inl t'.1) ∧ M' = am_mk t'.2 ∧ kc = 0 ∧ ks = 0) : am_Go d 54 (12, [some (.inr (.inr (some (4, 0)))), some (.inl x1), some (.inl x2), none], [], am_mk m) r M' kc ks := by
  have htb : am_tab 54 = at_54 := rfl
  induction n generalizing x2 m with
  | zero => cases h
  | succ n ih =>
    unfold lp_X4_readTerm_12 at h
    refine am_Go.n htb 2 (S' := (16, [some (.inr (.inr (some (4, 0)))), some (.inl x1), some (.inl x2), none], [.inl 401, .inl x2], am_mk m)) rfl ?_
    by_cases hc4 : (401 : Int32) ≤ x2
    · rw [if_pos hc4] at h
      refine am_Go.c1 htb (S' := (86, [some (.inr (.inr (some (4, 0)))), some (.inl x1), some (.inl x2), none], [], am_mk m)) (if_pos hc4) ?_
      cases h
      exact am_Go.fg (by exact ⟨rfl, ⟨rfl, trivial⟩⟩) (hk _ rfl)
    · rw [if_neg hc4] at h
      refine am_Go.c1 htb (S' := (19, [some (.inr (.inr (some (4, 0)))), some (.inl x1), some (.inl x2), none], [], am_mk m)) (if_neg hc4) ?_
      refine am_Go.n htb 3 (S' := (25, [some (.inr (.inr (some (4, 0)))), some (.inl x1), some (.inl x2), none], [.inl 42, .inl (m.1 4 0 6)], am_mk m)) rfl ?_
      by_cases hc5 : (m.1 4 0 6) = (42 : Int32)
      · rw [if_pos hc5] at h
        refine am_Go.c1 htb (S' := (46, [some (.inr (.inr (some (4, 0)))), some (.inl x1), some (.inl x2), none], [], am_mk m)) (if_pos hc5) ?_
        refine am_Go.n htb 8 (S' := (58, [some (.inr (.inr (some (4, 0)))), some (.inl x1), some (.inl x2), some (.inl (m.1 4 0 6))], [.inl ((m.1 4 0 5) + (1 : Int32)), .inr (.inr (some (4, 0)))], am_mk m)) rfl ?_
        obtain ⟨r6, h7, h⟩ := am_bd h
        refine am_Go.cl htb rfl (ex_X4_goTo d (by omega) ((m.1 4 0 5) + (1 : Int32)) m r6 h7) ?_
        show am_Go d 54 (61, [some (.inr (.inr (some (4, 0)))), some (.inl x1), some (.inl x2), some (.inl (m.1 4 0 6))], [], am_mk r6) _ _ _ _
        refine am_Go.n htb 2 (S' := (63, [some (.inr (.inr (some (4, 0)))), some (.inl x1), some (.inl x2), some (.inl (m.1 4 0 6))], [.inl x1, .inr (.inr (some (4, 0)))], am_mk r6)) rfl ?_
        obtain ⟨r8, h9, h⟩ := am_bd h
        refine am_Go.cl htb rfl (hrc 6 _ _ _ h9) ?_
        show am_Go d 54 (66, [some (.inr (.inr (some (4, 0)))), some (.inl x1), some (.inl x2), some (.inl (m.1 4 0 6))], [.inl r8.1], am_mk r8.2) _ _ _ _
        by_cases hc10 : r8.1 ≠ 0
        · rw [if_pos hc10] at h
          refine am_Go.c1 htb (S' := (71, [some (.inr (.inr (some (4, 0)))), some (.inl x1), some (.inl x2), some (.inl (m.1 4 0 6))], [], am_mk r8.2)) (if_pos hc10) ?_
          refine am_Go.n htb 4 (S' := (77, [some (.inr (.inr (some (4, 0)))), some (.inl x1), some (.inl x2), some (.inl (m.1 4 0 6))], [.inl 0, .inl (m.1 4 0 6), .inr (.inr (some (5, 0)))], am_mk r8.2)) rfl ?_
          obtain ⟨r11, h12, h⟩ := am_bd h
          refine am_Go.cl htb rfl (ex_X5_put d (by omega) 0 (m.1 4 0 6) 0 r8.2 r11 h12) ?_
          show am_Go d 54 (80, [some (.inr (.inr (some (4, 0)))), some (.inl x1), some (.inl x2), some (.inl (m.1 4 0 6))], [], am_mk r11) _ _ _ _
          refine am_Go.n htb 2 (S' := (12, [some (.inr (.inr (some (4, 0)))), some (.inl x1), some (.inl (x2 + 1)), some (.inl (m.1 4 0 6))], [], am_mk r11)) rfl ?_
          refine am_Go.fg (L0 := [some (.inr (.inr (some (4, 0)))), some (.inl x1), some (.inl (x2 + 1)), none]) (by exact ⟨rfl, ⟨rfl, ⟨rfl, trivial⟩⟩⟩) ?_
          first | exact ih h | exact ih h hk | exact ih h hr | exact ih h hk hr
        · rw [if_neg hc10] at h
          refine am_Go.c1 htb (S' := (69, [some (.inr (.inr (some (4, 0)))), some (.inl x1), some (.inl x2), some (.inl (m.1 4 0 6))], [], am_mk r8.2)) (if_neg hc10) ?_
          refine am_Go.n htb 1 (S' := (70, [some (.inr (.inr (some (4, 0)))), some (.inl x1), some (.inl x2), some (.inl (m.1 4 0 6))], [.inl 0], am_mk r8.2)) rfl ?_
          cases h
          obtain ⟨rfl, rfl, rfl, rfl⟩ := hr _ rfl
          exact am_Go.rt htb rfl
      · rw [if_neg hc5] at h
        refine am_Go.c1 htb (S' := (28, [some (.inr (.inr (some (4, 0)))), some (.inl x1), some (.inl x2), none], [], am_mk m)) (if_neg hc5) ?_
        refine am_Go.n htb 3 (S' := (34, [some (.inr (.inr (some (4, 0)))), some (.inl x1), some (.inl x2), none], [.inl 47, .inl (m.1 4 0 6)], am_mk m)) rfl ?_
        by_cases hc13 : (m.1 4 0 6) = (47 : Int32)
        · rw [if_pos hc13] at h
          refine am_Go.c1 htb (S' := (46, [some (.inr (.inr (some (4, 0)))), some (.inl x1), some (.inl x2), none], [], am_mk m)) (if_pos hc13) ?_
          refine am_Go.n htb 8 (S' := (58, [some (.inr (.inr (some (4, 0)))), some (.inl x1), some (.inl x2), some (.inl (m.1 4 0 6))], [.inl ((m.1 4 0 5) + (1 : Int32)), .inr (.inr (some (4, 0)))], am_mk m)) rfl ?_
          obtain ⟨r14, h15, h⟩ := am_bd h
          refine am_Go.cl htb rfl (ex_X4_goTo d (by omega) ((m.1 4 0 5) + (1 : Int32)) m r14 h15) ?_
          show am_Go d 54 (61, [some (.inr (.inr (some (4, 0)))), some (.inl x1), some (.inl x2), some (.inl (m.1 4 0 6))], [], am_mk r14) _ _ _ _
          refine am_Go.n htb 2 (S' := (63, [some (.inr (.inr (some (4, 0)))), some (.inl x1), some (.inl x2), some (.inl (m.1 4 0 6))], [.inl x1, .inr (.inr (some (4, 0)))], am_mk r14)) rfl ?_
          obtain ⟨r16, h17, h⟩ := am_bd h
          refine am_Go.cl htb rfl (hrc 6 _ _ _ h17) ?_
          show am_Go d 54 (66, [some (.inr (.inr (some (4, 0)))), some (.inl x1), some (.inl x2), some (.inl (m.1 4 0 6))], [.inl r16.1], am_mk r16.2) _ _ _ _
          by_cases hc18 : r16.1 ≠ 0
          · rw [if_pos hc18] at h
            refine am_Go.c1 htb (S' := (71, [some (.inr (.inr (some (4, 0)))), some (.inl x1), some (.inl x2), some (.inl (m.1 4 0 6))], [], am_mk r16.2)) (if_pos hc18) ?_
            refine am_Go.n htb 4 (S' := (77, [some (.inr (.inr (some (4, 0)))), some (.inl x1), some (.inl x2), some (.inl (m.1 4 0 6))], [.inl 0, .inl (m.1 4 0 6), .inr (.inr (some (5, 0)))], am_mk r16.2)) rfl ?_
            obtain ⟨r19, h20, h⟩ := am_bd h
            refine am_Go.cl htb rfl (ex_X5_put d (by omega) 0 (m.1 4 0 6) 0 r16.2 r19 h20) ?_
            show am_Go d 54 (80, [some (.inr (.inr (some (4, 0)))), some (.inl x1), some (.inl x2), some (.inl (m.1 4 0 6))], [], am_mk r19) _ _ _ _
            refine am_Go.n htb 2 (S' := (12, [some (.inr (.inr (some (4, 0)))), some (.inl x1), some (.inl (x2 + 1)), some (.inl (m.1 4 0 6))], [], am_mk r19)) rfl ?_
            refine am_Go.fg (L0 := [some (.inr (.inr (some (4, 0)))), some (.inl x1), some (.inl (x2 + 1)), none]) (by exact ⟨rfl, ⟨rfl, ⟨rfl, trivial⟩⟩⟩) ?_
            first | exact ih h | exact ih h hk | exact ih h hr | exact ih h hk hr
          · rw [if_neg hc18] at h
            refine am_Go.c1 htb (S' := (69, [some (.inr (.inr (some (4, 0)))), some (.inl x1), some (.inl x2), some (.inl (m.1 4 0 6))], [], am_mk r16.2)) (if_neg hc18) ?_
            refine am_Go.n htb 1 (S' := (70, [some (.inr (.inr (some (4, 0)))), some (.inl x1), some (.inl x2), some (.inl (m.1 4 0 6))], [.inl 0], am_mk r16.2)) rfl ?_
            cases h
            obtain ⟨rfl, rfl, rfl, rfl⟩ := hr _ rfl
            exact am_Go.rt htb rfl
        · rw [if_neg hc13] at h
          refine am_Go.c1 htb (S' := (37, [some (.inr (.inr (some (4, 0)))), some (.inl x1), some (.inl x2), none], [], am_mk m)) (if_neg hc13) ?_
          refine am_Go.n htb 3 (S' := (43, [some (.inr (.inr (some (4, 0)))), some (.inl x1), some (.inl x2), none], [.inl 37, .inl (m.1 4 0 6)], am_mk m)) rfl ?_
          by_cases hc21 : (m.1 4 0 6) ≠ (37 : Int32)
          · rw [if_pos hc21] at h
            refine am_Go.c1 htb (S' := (86, [some (.inr (.inr (some (4, 0)))), some (.inl x1), some (.inl x2), none], [], am_mk m)) (if_pos hc21) ?_
            cases h
            exact am_Go.fg (by exact ⟨rfl, ⟨rfl, trivial⟩⟩) (hk _ rfl)
          · rw [if_neg hc21] at h
            refine am_Go.c1 htb (S' := (46, [some (.inr (.inr (some (4, 0)))), some (.inl x1), some (.inl x2), none], [], am_mk m)) (if_neg hc21) ?_
            refine am_Go.n htb 8 (S' := (58, [some (.inr (.inr (some (4, 0)))), some (.inl x1), some (.inl x2), some (.inl (m.1 4 0 6))], [.inl ((m.1 4 0 5) + (1 : Int32)), .inr (.inr (some (4, 0)))], am_mk m)) rfl ?_
            obtain ⟨r22, h23, h⟩ := am_bd h
            refine am_Go.cl htb rfl (ex_X4_goTo d (by omega) ((m.1 4 0 5) + (1 : Int32)) m r22 h23) ?_
            show am_Go d 54 (61, [some (.inr (.inr (some (4, 0)))), some (.inl x1), some (.inl x2), some (.inl (m.1 4 0 6))], [], am_mk r22) _ _ _ _
            refine am_Go.n htb 2 (S' := (63, [some (.inr (.inr (some (4, 0)))), some (.inl x1), some (.inl x2), some (.inl (m.1 4 0 6))], [.inl x1, .inr (.inr (some (4, 0)))], am_mk r22)) rfl ?_
            obtain ⟨r24, h25, h⟩ := am_bd h
            refine am_Go.cl htb rfl (hrc 6 _ _ _ h25) ?_
            show am_Go d 54 (66, [some (.inr (.inr (some (4, 0)))), some (.inl x1), some (.inl x2), some (.inl (m.1 4 0 6))], [.inl r24.1], am_mk r24.2) _ _ _ _
            by_cases hc26 : r24.1 ≠ 0
            · rw [if_pos hc26] at h
              refine am_Go.c1 htb (S' := (71, [some (.inr (.inr (some (4, 0)))), some (.inl x1), some (.inl x2), some (.inl (m.1 4 0 6))], [], am_mk r24.2)) (if_pos hc26) ?_
              refine am_Go.n htb 4 (S' := (77, [some (.inr (.inr (some (4, 0)))), some (.inl x1), some (.inl x2), some (.inl (m.1 4 0 6))], [.inl 0, .inl (m.1 4 0 6), .inr (.inr (some (5, 0)))], am_mk r24.2)) rfl ?_
              obtain ⟨r27, h28, h⟩ := am_bd h
              refine am_Go.cl htb rfl (ex_X5_put d (by omega) 0 (m.1 4 0 6) 0 r24.2 r27 h28) ?_
              show am_Go d 54 (80, [some (.inr (.inr (some (4, 0)))), some (.inl x1), some (.inl x2), some (.inl (m.1 4 0 6))], [], am_mk r27) _ _ _ _
              refine am_Go.n htb 2 (S' := (12, [some (.inr (.inr (some (4, 0)))), some (.inl x1), some (.inl (x2 + 1)), some (.inl (m.1 4 0 6))], [], am_mk r27)) rfl ?_
              refine am_Go.fg (L0 := [some (.inr (.inr (some (4, 0)))), some (.inl x1), some (.inl (x2 + 1)), none]) (by exact ⟨rfl, ⟨rfl, ⟨rfl, trivial⟩⟩⟩) ?_
              first | exact ih h | exact ih h hk | exact ih h hr | exact ih h hk hr
            · rw [if_neg hc26] at h
              refine am_Go.c1 htb (S' := (69, [some (.inr (.inr (some (4, 0)))), some (.inl x1), some (.inl x2), some (.inl (m.1 4 0 6))], [], am_mk r24.2)) (if_neg hc26) ?_
              refine am_Go.n htb 1 (S' := (70, [some (.inr (.inr (some (4, 0)))), some (.inl x1), some (.inl x2), some (.inl (m.1 4 0 6))], [.inl 0], am_mk r24.2)) rfl ?_
              cases h
              obtain ⟨rfl, rfl, rfl, rfl⟩ := hr _ rfl
              exact am_Go.rt htb rfl
set_option maxRecDepth 100000 in
theorem ex_X4_readTerm (d : Nat) (hd : 4 ≤ d) (rc : am_rc) (hrc : am_rcok rc (d - 1)) (a1 : Int32) (m : am_m) (t : Int32 × am_m) (h : fn_X4_readTerm rc a1 m = some t) : am_Ex am_cod d 54 [.inr (.inr (some (4, 0))), .inl a1] (am_mk m) (some (.inl t.1)) (am_mk t.2) 0 0 := by
  obtain ⟨d, rfl⟩ : ∃ e, d = e + 1 := ⟨d - 1, by omega⟩
  have htb : am_tab 54 = at_54 := rfl
  refine ⟨Nat.le_of_ble_eq_true rfl, ?_⟩
  unfold fn_X4_readTerm at h
  show am_Go d 54 (0, [some (.inr (.inr (some (4, 0)))), some (.inl a1), none, none], [], am_mk m) _ _ 0 0
  refine am_Go.n htb 2 (S' := (2, [some (.inr (.inr (some (4, 0)))), some (.inl a1), none, none], [.inl a1, .inr (.inr (some (4, 0)))], am_mk m)) rfl ?_
  obtain ⟨r1, h2, h⟩ := am_bd h
  refine am_Go.cl htb rfl (hrc 6 _ _ _ h2) ?_
  show am_Go d 54 (5, [some (.inr (.inr (some (4, 0)))), some (.inl a1), none, none], [.inl r1.1], am_mk r1.2) _ _ _ _
  by_cases hc3 : r1.1 ≠ 0
  · rw [if_pos hc3] at h
    refine am_Go.c1 htb (S' := (10, [some (.inr (.inr (some (4, 0)))), some (.inl a1), none, none], [], am_mk r1.2)) (if_pos hc3) ?_
    refine am_Go.n htb 2 (S' := (12, [some (.inr (.inr (some (4, 0)))), some (.inl a1), some (.inl 0), none], [], am_mk r1.2)) rfl ?_
    obtain ⟨w32, h30, h⟩ := am_bd h
    refine lt_X4_readTerm_12 _ hd rc hrc (h := h30) (hk := ?_) (hr := ?_)
    · intro q29 he
      subst he
      dsimp only at h
      refine am_Go.n htb 1 (S' := (87, [some (.inr (.inr (some (4, 0)))), some (.inl a1), none, none], [.inl 1], am_mk q29)) rfl ?_
      cases h
      exact am_Go.rt htb rfl
    · intro rr31 he
      subst he
      cases h
      exact ⟨rfl, rfl, rfl, rfl⟩
  · rw [if_neg hc3] at h
    refine am_Go.c1 htb (S' := (8, [some (.inr (.inr (some (4, 0)))), some (.inl a1), none, none], [], am_mk r1.2)) (if_neg hc3) ?_
    refine am_Go.n htb 1 (S' := (9, [some (.inr (.inr (some (4, 0)))), some (.inl a1), none, none], [.inl 0], am_mk r1.2)) rfl ?_
    cases h
    exact am_Go.rt htb rfl
