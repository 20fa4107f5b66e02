-- X3_undoLatest
set_option maxRecDepth 100000 in
theorem ex_X3_undoLatest (d : Nat) (hd : 3 ≤ d) (a0 : Nat) (a1 : Nat) (m : am_m) (t : Int32 × am_m) (h : fn_X3_undoLatest a0 a1 m = some t) : am_Ex am_cod d 33 [.inr (.inr (some (3, a0))), .inr (.inr (some (8, a1)))] (am_mk m) (some (.inl t.1)) (am_mk t.2) 0 0 := by
  obtain ⟨d, rfl⟩ : ∃ e, d = e + 1 := ⟨d - 1, by omega⟩
  have htb : am_tab 33 = at_33 := rfl
  refine ⟨Nat.le_of_ble_eq_true rfl, ?_⟩
  unfold fn_X3_undoLatest at h
  show am_Go d 33 (0, [some (.inr (.inr (some (3, a0)))), some (.inr (.inr (some (8, a1)))), none], [], am_mk m) _ _ 0 0
  refine am_Go.n htb 3 (S' := (5, [some (.inr (.inr (some (3, a0)))), some (.inr (.inr (some (8, a1)))), none], [.inl 1, .inl (m.1 3 a0 1)], am_mk m)) rfl ?_
  by_cases hc1 : (1 : Int32) ≤ (m.1 3 a0 1)
  · rw [if_pos hc1] at h
    refine am_Go.c1 htb (S' := (11, [some (.inr (.inr (some (3, a0)))), some (.inr (.inr (some (8, a1)))), none], [], am_mk m)) (if_pos hc1) ?_
    refine am_Go.n htb 19 (S' := (41, [some (.inr (.inr (some (3, a0)))), some (.inr (.inr (some (8, a1)))), some (.inl (((am_si m 3 a0 1 ((m.1 3 a0 1) - (1 : Int32))).1 3 a0 1) * (13 : Int32)))], [.inl ((((am_si m 3 a0 1 ((m.1 3 a0 1) - (1 : Int32))).1 3 a0 1) * (13 : Int32)) + (5 : Int32)), .inr (.inr (some (24, a0))), .inl 0, .inr (.inr (some (39, a1)))], am_mk (am_si m 3 a0 1 ((m.1 3 a0 1) - (1 : Int32))))) rfl ?_
    obtain ⟨hg2, h⟩ := am_ck_some h
    refine am_Go.c1 htb (S' := (42, [some (.inr (.inr (some (3, a0)))), some (.inr (.inr (some (8, a1)))), some (.inl (((am_si m 3 a0 1 ((m.1 3 a0 1) - (1 : Int32))).1 3 a0 1) * (13 : Int32)))], [.inl (m.1 24 a0 ((((am_si m 3 a0 1 ((m.1 3 a0 1) - (1 : Int32))).1 3 a0 1) * (13 : Int32)) + (5 : Int32)).toNatClampNeg), .inl 0, .inr (.inr (some (39, a1)))], am_mk (am_si m 3 a0 1 ((m.1 3 a0 1) - (1 : Int32))))) (if_neg hg2) ?_
    refine am_Go.n htb 10 (S' := (58, [some (.inr (.inr (some (3, a0)))), some (.inr (.inr (some (8, a1)))), some (.inl (((am_si m 3 a0 1 ((m.1 3 a0 1) - (1 : Int32))).1 3 a0 1) * (13 : Int32)))], [.inl 7, .inl 0, .inr (.inr (some (36, a1))), .inl ((((am_si m 3 a0 1 ((m.1 3 a0 1) - (1 : Int32))).1 3 a0 1) * (13 : Int32)) + (6 : Int32)), .inr (.inr (some (24, a0)))], am_mk (am_si (am_si m 3 a0 1 ((m.1 3 a0 1) - (1 : Int32))) 39 a1 0 (m.1 24 a0 ((((am_si m 3 a0 1 ((m.1 3 a0 1) - (1 : Int32))).1 3 a0 1) * (13 : Int32)) + (5 : Int32)).toNatClampNeg)))) rfl ?_
    obtain ⟨hz3, h⟩ := am_gd_some h
    refine am_Go.c1 htb (S' := (61, [some (.inr (.inr (some (3, a0)))), some (.inr (.inr (some (8, a1)))), some (.inl (((am_si m 3 a0 1 ((m.1 3 a0 1) - (1 : Int32))).1 3 a0 1) * (13 : Int32)))], [], am_mk (am_sc (am_si (am_si m 3 a0 1 ((m.1 3 a0 1) - (1 : Int32))) 39 a1 0 (m.1 24 a0 ((((am_si m 3 a0 1 ((m.1 3 a0 1) - (1 : Int32))).1 3 a0 1) * (13 : Int32)) + (5 : Int32)).toNatClampNeg)) 24 a0 36 a1 ((((am_si m 3 a0 1 ((m.1 3 a0 1) - (1 : Int32))).1 3 a0 1) * (13 : Int32)) + (6 : Int32)).toNatClampNeg (0 : Int32).toNatClampNeg (7 : Int32).toNatClampNeg))) (by first | exact if_neg hz3 | rfl) ?_
    refine am_Go.n htb 6 (S' := (69, [some (.inr (.inr (some (3, a0)))), some (.inr (.inr (some (8, a1)))), some (.inl (((am_si m 3 a0 1 ((m.1 3 a0 1) - (1 : Int32))).1 3 a0 1) * (13 : Int32)))], [.inl ((((am_si m 3 a0 1 ((m.1 3 a0 1) - (1 : Int32))).1 3 a0 1) * (13 : Int32)) + (1 : Int32)), .inr (.inr (some (24, a0))), .inr (.inr (some (8, a1)))], am_mk (am_sc (am_si (am_si m 3 a0 1 ((m.1 3 a0 1) - (1 : Int32))) 39 a1 0 (m.1 24 a0 ((((am_si m 3 a0 1 ((m.1 3 a0 1) - (1 : Int32))).1 3 a0 1) * (13 : Int32)) + (5 : Int32)).toNatClampNeg)) 24 a0 36 a1 ((((am_si m 3 a0 1 ((m.1 3 a0 1) - (1 : Int32))).1 3 a0 1) * (13 : Int32)) + (6 : Int32)).toNatClampNeg (0 : Int32).toNatClampNeg (7 : Int32).toNatClampNeg))) rfl ?_
    obtain ⟨hg4, h⟩ := am_ck_some h
    refine am_Go.c1 htb (S' := (70, [some (.inr (.inr (some (3, a0)))), some (.inr (.inr (some (8, a1)))), some (.inl (((am_si m 3 a0 1 ((m.1 3 a0 1) - (1 : Int32))).1 3 a0 1) * (13 : Int32)))], [.inl (m.1 24 a0 ((((am_si m 3 a0 1 ((m.1 3 a0 1) - (1 : Int32))).1 3 a0 1) * (13 : Int32)) + (1 : Int32)).toNatClampNeg), .inr (.inr (some (8, a1)))], am_mk (am_sc (am_si (am_si m 3 a0 1 ((m.1 3 a0 1) - (1 : Int32))) 39 a1 0 (m.1 24 a0 ((((am_si m 3 a0 1 ((m.1 3 a0 1) - (1 : Int32))).1 3 a0 1) * (13 : Int32)) + (5 : Int32)).toNatClampNeg)) 24 a0 36 a1 ((((am_si m 3 a0 1 ((m.1 3 a0 1) - (1 : Int32))).1 3 a0 1) * (13 : Int32)) + (6 : Int32)).toNatClampNeg (0 : Int32).toNatClampNeg (7 : Int32).toNatClampNeg))) (if_neg hg4) ?_
    refine am_Go.n htb 5 (S' := (77, [some (.inr (.inr (some (3, a0)))), some (.inr (.inr (some (8, a1)))), some (.inl (((am_si m 3 a0 1 ((m.1 3 a0 1) - (1 : Int32))).1 3 a0 1) * (13 : Int32)))], [.inl ((((am_si m 3 a0 1 ((m.1 3 a0 1) - (1 : Int32))).1 3 a0 1) * (13 : Int32)) + (2 : Int32)), .inr (.inr (some (24, a0))), .inl (m.1 24 a0 ((((am_si m 3 a0 1 ((m.1 3 a0 1) - (1 : Int32))).1 3 a0 1) * (13 : Int32)) + (1 : Int32)).toNatClampNeg), .inr (.inr (some (8, a1)))], am_mk (am_sc (am_si (am_si m 3 a0 1 ((m.1 3 a0 1) - (1 : Int32))) 39 a1 0 (m.1 24 a0 ((((am_si m 3 a0 1 ((m.1 3 a0 1) - (1 : Int32))).1 3 a0 1) * (13 : Int32)) + (5 : Int32)).toNatClampNeg)) 24 a0 36 a1 ((((am_si m 3 a0 1 ((m.1 3 a0 1) - (1 : Int32))).1 3 a0 1) * (13 : Int32)) + (6 : Int32)).toNatClampNeg (0 : Int32).toNatClampNeg (7 : Int32).toNatClampNeg))) rfl ?_
    obtain ⟨hg5, h⟩ := am_ck_some h
    refine am_Go.c1 htb (S' := (78, [some (.inr (.inr (some (3, a0)))), some (.inr (.inr (some (8, a1)))), some (.inl (((am_si m 3 a0 1 ((m.1 3 a0 1) - (1 : Int32))).1 3 a0 1) * (13 : Int32)))], [.inl (m.1 24 a0 ((((am_si m 3 a0 1 ((m.1 3 a0 1) - (1 : Int32))).1 3 a0 1) * (13 : Int32)) + (2 : Int32)).toNatClampNeg), .inl (m.1 24 a0 ((((am_si m 3 a0 1 ((m.1 3 a0 1) - (1 : Int32))).1 3 a0 1) * (13 : Int32)) + (1 : Int32)).toNatClampNeg), .inr (.inr (some (8, a1)))], am_mk (am_sc (am_si (am_si m 3 a0 1 ((m.1 3 a0 1) - (1 : Int32))) 39 a1 0 (m.1 24 a0 ((((am_si m 3 a0 1 ((m.1 3 a0 1) - (1 : Int32))).1 3 a0 1) * (13 : Int32)) + (5 : Int32)).toNatClampNeg)) 24 a0 36 a1 ((((am_si m 3 a0 1 ((m.1 3 a0 1) - (1 : Int32))).1 3 a0 1) * (13 : Int32)) + (6 : Int32)).toNatClampNeg (0 : Int32).toNatClampNeg (7 : Int32).toNatClampNeg))) (if_neg hg5) ?_
    refine am_Go.n htb 5 (S' := (85, [some (.inr (.inr (some (3, a0)))), some (.inr (.inr (some (8, a1)))), some (.inl (((am_si m 3 a0 1 ((m.1 3 a0 1) - (1 : Int32))).1 3 a0 1) * (13 : Int32)))], [.inl ((((am_si m 3 a0 1 ((m.1 3 a0 1) - (1 : Int32))).1 3 a0 1) * (13 : Int32)) + (3 : Int32)), .inr (.inr (some (24, a0))), .inl (m.1 24 a0 ((((am_si m 3 a0 1 ((m.1 3 a0 1) - (1 : Int32))).1 3 a0 1) * (13 : Int32)) + (2 : Int32)).toNatClampNeg), .inl (m.1 24 a0 ((((am_si m 3 a0 1 ((m.1 3 a0 1) - (1 : Int32))).1 3 a0 1) * (13 : Int32)) + (1 : Int32)).toNatClampNeg), .inr (.inr (some (8, a1)))], am_mk (am_sc (am_si (am_si m 3 a0 1 ((m.1 3 a0 1) - (1 : Int32))) 39 a1 0 (m.1 24 a0 ((((am_si m 3 a0 1 ((m.1 3 a0 1) - (1 : Int32))).1 3 a0 1) * (13 : Int32)) + (5 : Int32)).toNatClampNeg)) 24 a0 36 a1 ((((am_si m 3 a0 1 ((m.1 3 a0 1) - (1 : Int32))).1 3 a0 1) * (13 : Int32)) + (6 : Int32)).toNatClampNeg (0 : Int32).toNatClampNeg (7 : Int32).toNatClampNeg))) rfl ?_
    obtain ⟨hg6, h⟩ := am_ck_some h
    refine am_Go.c1 htb (S' := (86, [some (.inr (.inr (some (3, a0)))), some (.inr (.inr (some (8, a1)))), some (.inl (((am_si m 3 a0 1 ((m.1 3 a0 1) - (1 : Int32))).1 3 a0 1) * (13 : Int32)))], [.inl (m.1 24 a0 ((((am_si m 3 a0 1 ((m.1 3 a0 1) - (1 : Int32))).1 3 a0 1) * (13 : Int32)) + (3 : Int32)).toNatClampNeg), .inl (m.1 24 a0 ((((am_si m 3 a0 1 ((m.1 3 a0 1) - (1 : Int32))).1 3 a0 1) * (13 : Int32)) + (2 : Int32)).toNatClampNeg), .inl (m.1 24 a0 ((((am_si m 3 a0 1 ((m.1 3 a0 1) - (1 : Int32))).1 3 a0 1) * (13 : Int32)) + (1 : Int32)).toNatClampNeg), .inr (.inr (some (8, a1)))], am_mk (am_sc (am_si (am_si m 3 a0 1 ((m.1 3 a0 1) - (1 : Int32))) 39 a1 0 (m.1 24 a0 ((((am_si m 3 a0 1 ((m.1 3 a0 1) - (1 : Int32))).1 3 a0 1) * (13 : Int32)) + (5 : Int32)).toNatClampNeg)) 24 a0 36 a1 ((((am_si m 3 a0 1 ((m.1 3 a0 1) - (1 : Int32))).1 3 a0 1) * (13 : Int32)) + (6 : Int32)).toNatClampNeg (0 : Int32).toNatClampNeg (7 : Int32).toNatClampNeg))) (if_neg hg6) ?_
    refine am_Go.n htb 5 (S' := (93, [some (.inr (.inr (some (3, a0)))), some (.inr (.inr (some (8, a1)))), some (.inl (((am_si m 3 a0 1 ((m.1 3 a0 1) - (1 : Int32))).1 3 a0 1) * (13 : Int32)))], [.inl ((((am_si m 3 a0 1 ((m.1 3 a0 1) - (1 : Int32))).1 3 a0 1) * (13 : Int32)) + (4 : Int32)), .inr (.inr (some (24, a0))), .inl (m.1 24 a0 ((((am_si m 3 a0 1 ((m.1 3 a0 1) - (1 : Int32))).1 3 a0 1) * (13 : Int32)) + (3 : Int32)).toNatClampNeg), .inl (m.1 24 a0 ((((am_si m 3 a0 1 ((m.1 3 a0 1) - (1 : Int32))).1 3 a0 1) * (13 : Int32)) + (2 : Int32)).toNatClampNeg), .inl (m.1 24 a0 ((((am_si m 3 a0 1 ((m.1 3 a0 1) - (1 : Int32))).1 3 a0 1) * (13 : Int32)) + (1 : Int32)).toNatClampNeg), .inr (.inr (some (8, a1)))], am_mk (am_sc (am_si (am_si m 3 a0 1 ((m.1 3 a0 1) - (1 : Int32))) 39 a1 0 (m.1 24 a0 ((((am_si m 3 a0 1 ((m.1 3 a0 1) - (1 : Int32))).1 3 a0 1) * (13 : Int32)) + (5 : Int32)).toNatClampNeg)) 24 a0 36 a1 ((((am_si m 3 a0 1 ((m.1 3 a0 1) - (1 : Int32))).1 3 a0 1) * (13 : Int32)) + (6 : Int32)).toNatClampNeg (0 : Int32).toNatClampNeg (7 : Int32).toNatClampNeg))) rfl ?_
    obtain ⟨hg7, h⟩ := am_ck_some h
    refine am_Go.c1 htb (S' := (94, [some (.inr (.inr (some (3, a0)))), some (.inr (.inr (some (8, a1)))), some (.inl (((am_si m 3 a0 1 ((m.1 3 a0 1) - (1 : Int32))).1 3 a0 1) * (13 : Int32)))], [.inl (m.1 24 a0 ((((am_si m 3 a0 1 ((m.1 3 a0 1) - (1 : Int32))).1 3 a0 1) * (13 : Int32)) + (4 : Int32)).toNatClampNeg), .inl (m.1 24 a0 ((((am_si m 3 a0 1 ((m.1 3 a0 1) - (1 : Int32))).1 3 a0 1) * (13 : Int32)) + (3 : Int32)).toNatClampNeg), .inl (m.1 24 a0 ((((am_si m 3 a0 1 ((m.1 3 a0 1) - (1 : Int32))).1 3 a0 1) * (13 : Int32)) + (2 : Int32)).toNatClampNeg), .inl (m.1 24 a0 ((((am_si m 3 a0 1 ((m.1 3 a0 1) - (1 : Int32))).1 3 a0 1) * (13 : Int32)) + (1 : Int32)).toNatClampNeg), .inr (.inr (some (8, a1)))], am_mk (am_sc (am_si (am_si m 3 a0 1 ((m.1 3 a0 1) - (1 : Int32))) 39 a1 0 (m.1 24 a0 ((((am_si m 3 a0 1 ((m.1 3 a0 1) - (1 : Int32))).1 3 a0 1) * (13 : Int32)) + (5 : Int32)).toNatClampNeg)) 24 a0 36 a1 ((((am_si m 3 a0 1 ((m.1 3 a0 1) - (1 : Int32))).1 3 a0 1) * (13 : Int32)) + (6 : Int32)).toNatClampNeg (0 : Int32).toNatClampNeg (7 : Int32).toNatClampNeg))) (if_neg hg7) ?_
    obtain ⟨r8, h9, h⟩ := am_bd h
    refine am_Go.cl htb rfl (ex_X8_setHarm d (by omega) a1 (m.1 24 a0 ((((am_si m 3 a0 1 ((m.1 3 a0 1) - (1 : Int32))).1 3 a0 1) * (13 : Int32)) + (1 : Int32)).toNatClampNeg) (m.1 24 a0 ((((am_si m 3 a0 1 ((m.1 3 a0 1) - (1 : Int32))).1 3 a0 1) * (13 : Int32)) + (2 : Int32)).toNatClampNeg) (m.1 24 a0 ((((am_si m 3 a0 1 ((m.1 3 a0 1) - (1 : Int32))).1 3 a0 1) * (13 : Int32)) + (3 : Int32)).toNatClampNeg) (m.1 24 a0 ((((am_si m 3 a0 1 ((m.1 3 a0 1) - (1 : Int32))).1 3 a0 1) * (13 : Int32)) + (4 : Int32)).toNatClampNeg) (am_sc (am_si (am_si m 3 a0 1 ((m.1 3 a0 1) - (1 : Int32))) 39 a1 0 (m.1 24 a0 ((((am_si m 3 a0 1 ((m.1 3 a0 1) - (1 : Int32))).1 3 a0 1) * (13 : Int32)) + (5 : Int32)).toNatClampNeg)) 24 a0 36 a1 ((((am_si m 3 a0 1 ((m.1 3 a0 1) - (1 : Int32))).1 3 a0 1) * (13 : Int32)) + (6 : Int32)).toNatClampNeg (0 : Int32).toNatClampNeg (7 : Int32).toNatClampNeg) r8 h9) ?_
    show am_Go d 33 (97, [some (.inr (.inr (some (3, a0)))), some (.inr (.inr (some (8, a1)))), some (.inl (((am_si m 3 a0 1 ((m.1 3 a0 1) - (1 : Int32))).1 3 a0 1) * (13 : Int32)))], [], am_mk r8) _ _ _ _
    refine am_Go.n htb 5 (S' := (104, [some (.inr (.inr (some (3, a0)))), some (.inr (.inr (some (8, a1)))), some (.inl (((am_si m 3 a0 1 ((m.1 3 a0 1) - (1 : Int32))).1 3 a0 1) * (13 : Int32)))], [.inl ((((am_si m 3 a0 1 ((m.1 3 a0 1) - (1 : Int32))).1 3 a0 1) * (13 : Int32)) + (0 : Int32)), .inr (.inr (some (24, a0)))], am_mk r8)) rfl ?_
    obtain ⟨hg10, h⟩ := am_ck_some h
    refine am_Go.c1 htb (S' := (105, [some (.inr (.inr (some (3, a0)))), some (.inr (.inr (some (8, a1)))), some (.inl (((am_si m 3 a0 1 ((m.1 3 a0 1) - (1 : Int32))).1 3 a0 1) * (13 : Int32)))], [.inl (r8.1 24 a0 ((((am_si m 3 a0 1 ((m.1 3 a0 1) - (1 : Int32))).1 3 a0 1) * (13 : Int32)) + (0 : Int32)).toNatClampNeg)], am_mk r8)) (if_neg hg10) ?_
    cases h
    exact am_Go.rt htb rfl
  · rw [if_neg hc1] at h
    refine am_Go.c1 htb (S' := (8, [some (.inr (.inr (some (3, a0)))), some (.inr (.inr (some (8, a1)))), none], [], am_mk m)) (if_neg hc1) ?_
    refine am_Go.n htb 1 (S' := (10, [some (.inr (.inr (some (3, a0)))), some (.inr (.inr (some (8, a1)))), none], [.inl (-3)], am_mk m)) rfl ?_
    cases h
    exact am_Go.rt htb rfl
-- X4_addToken
set_option maxRecDepth 100000 in
theorem ex_X4_addToken (d : Nat) (hd : 1 ≤ d) (a1 : Int32) (a2 : Int32) (a3 : Int32) (m : am_m) (t : am_m) (h : fn_X4_addToken a1 a2 a3 m = some t) : am_Ex am_cod d 37 [.inr (.inr (some (4, 0))), .inl a1, .inl a2, .inl a3] (am_mk m) (none) (am_mk t) 0 0 := by
  obtain ⟨d, rfl⟩ : ∃ e, d = e + 1 := ⟨d - 1, by omega⟩
  have htb : am_tab 37 = at_37 := rfl
  refine ⟨Nat.le_of_ble_eq_true rfl, ?_⟩
  unfold fn_X4_addToken at h
  show am_Go d 37 (0, [some (.inr (.inr (some (4, 0)))), some (.inl a1), some (.inl a2), some (.inl a3)], [], am_mk m) _ _ 0 0
  refine am_Go.n htb 3 (S' := (7, [some (.inr (.inr (some (4, 0)))), some (.inl a1), some (.inl a2), some (.inl a3)], [.inl 401, .inl (m.1 4 0 4)], am_mk m)) rfl ?_
  by_cases hc1 : (401 : Int32) ≤ (m.1 4 0 4)
  · rw [if_pos hc1] at h
    refine am_Go.c1 htb (S' := (50, [some (.inr (.inr (some (4, 0)))), some (.inl a1), some (.inl a2), some (.inl a3)], [], am_mk m)) (if_pos hc1) ?_
    cases h
    exact am_Go.rt htb rfl
  · rw [if_neg hc1] at h
    refine am_Go.c1 htb (S' := (10, [some (.inr (.inr (some (4, 0)))), some (.inl a1), some (.inl a2), some (.inl a3)], [], am_mk m)) (if_neg hc1) ?_
    refine am_Go.n htb 5 (S' := (19, [some (.inr (.inr (some (4, 0)))), some (.inl a1), some (.inl a2), some (.inl a3)], [.inl a1, .inl (m.1 4 0 4), .inr (.inr (some (25, 0)))], am_mk m)) rfl ?_
    obtain ⟨hg2, h⟩ := am_ck_some h
    refine am_Go.c1 htb (S' := (20, [some (.inr (.inr (some (4, 0)))), some (.inl a1), some (.inl a2), some (.inl a3)], [], am_mk (am_si m 25 0 (m.1 4 0 4).toNatClampNeg a1))) (if_neg hg2) ?_
    refine am_Go.n htb 5 (S' := (29, [some (.inr (.inr (some (4, 0)))), some (.inl a1), some (.inl a2), some (.inl a3)], [.inl a2, .inl (m.1 4 0 4), .inr (.inr (some (26, 0)))], am_mk (am_si m 25 0 (m.1 4 0 4).toNatClampNeg a1))) rfl ?_
    obtain ⟨hg3, h⟩ := am_ck_some h
    refine am_Go.c1 htb (S' := (30, [some (.inr (.inr (some (4, 0)))), some (.inl a1), some (.inl a2), some (.inl a3)], [], am_mk (am_si (am_si m 25 0 (m.1 4 0 4).toNatClampNeg a1) 26 0 (m.1 4 0 4).toNatClampNeg a2))) (if_neg hg3) ?_
    refine am_Go.n htb 5 (S' := (39, [some (.inr (.inr (some (4, 0)))), some (.inl a1), some (.inl a2), some (.inl a3)], [.inl a3, .inl (m.1 4 0 4), .inr (.inr (some (27, 0)))], am_mk (am_si (am_si m 25 0 (m.1 4 0 4).toNatClampNeg a1) 26 0 (m.1 4 0 4).toNatClampNeg a2))) rfl ?_
    obtain ⟨hg4, h⟩ := am_ck_some h
    refine am_Go.c1 htb (S' := (40, [some (.inr (.inr (some (4, 0)))), some (.inl a1), some (.inl a2), some (.inl a3)], [], am_mk (am_si (am_si (am_si m 25 0 (m.1 4 0 4).toNatClampNeg a1) 26 0 (m.1 4 0 4).toNatClampNeg a2) 27 0 (m.1 4 0 4).toNatClampNeg a3))) (if_neg hg4) ?_
    refine am_Go.n htb 6 (S' := (50, [some (.inr (.inr (some (4, 0)))), some (.inl a1), some (.inl a2), some (.inl a3)], [], am_mk (am_si (am_si (am_si (am_si m 25 0 (m.1 4 0 4).toNatClampNeg a1) 26 0 (m.1 4 0 4).toNatClampNeg a2) 27 0 (m.1 4 0 4).toNatClampNeg a3) 4 0 4 ((m.1 4 0 4) + (1 : Int32))))) rfl ?_
    cases h
    exact am_Go.rt htb rfl
-- X4_isLetter
set_option maxRecDepth 100000 in
theorem ex_X4_isLetter (d : Nat) (hd : 1 ≤ d) (a1 : Int32) (m : am_m) (t : Int32) (h : fn_X4_isLetter a1 m = some t) : am_Ex am_cod d 38 [.inl a1] (am_mk m) (some (.inl t)) (am_mk m) 0 0 := by
  obtain ⟨d, rfl⟩ : ∃ e, d = e + 1 := ⟨d - 1, by omega⟩
  have htb : am_tab 38 = at_38 := rfl
  refine ⟨Nat.le_of_ble_eq_true rfl, ?_⟩
  unfold fn_X4_isLetter at h
  show am_Go d 38 (0, [some (.inl a1)], [], am_mk m) _ _ 0 0
  refine am_Go.n htb 2 (S' := (3, [some (.inl a1)], [.inl 97, .inl a1], am_mk m)) rfl ?_
  by_cases hc1 : a1 < (97 : Int32)
  · rw [if_pos hc1] at h
    refine am_Go.c1 htb (S' := (16, [some (.inl a1)], [], am_mk m)) (if_pos hc1) ?_
    refine am_Go.n htb 1 (S' := (17, [some (.inl a1)], [.inl 0], am_mk m)) rfl ?_
    cases h
    exact am_Go.rt htb rfl
  · rw [if_neg hc1] at h
    refine am_Go.c1 htb (S' := (6, [some (.inl a1)], [], am_mk m)) (if_neg hc1) ?_
    refine am_Go.n htb 2 (S' := (9, [some (.inl a1)], [.inl 122, .inl a1], am_mk m)) rfl ?_
    by_cases hc2 : (122 : Int32) < a1
    · rw [if_pos hc2] at h
      refine am_Go.c1 htb (S' := (16, [some (.inl a1)], [], am_mk m)) (if_pos hc2) ?_
      refine am_Go.n htb 1 (S' := (17, [some (.inl a1)], [.inl 0], am_mk m)) rfl ?_
      cases h
      exact am_Go.rt htb rfl
    · rw [if_neg hc2] at h
      refine am_Go.c1 htb (S' := (12, [some (.inl a1)], [], am_mk m)) (if_neg hc2) ?_
      refine am_Go.n htb 2 (S' := (17, [some (.inl a1)], [.inl 1], am_mk m)) rfl ?_
      cases h
      exact am_Go.rt htb rfl
-- X4_isDigit
set_option maxRecDepth 100000 in
theorem ex_X4_isDigit (d : Nat) (hd : 1 ≤ d) (a1 : Int32) (m : am_m) (t : Int32) (h : fn_X4_isDigit a1 m = some t) : am_Ex am_cod d 39 [.inl a1] (am_mk m) (some (.inl t)) (am_mk m) 0 0 := by
  obtain ⟨d, rfl⟩ : ∃ e, d = e + 1 := ⟨d - 1, by omega⟩
  have htb : am_tab 39 = at_39 := rfl
  refine ⟨Nat.le_of_ble_eq_true rfl, ?_⟩
  unfold fn_X4_isDigit at h
  show am_Go d 39 (0, [some (.inl a1)], [], am_mk m) _ _ 0 0
  refine am_Go.n htb 2 (S' := (3, [some (.inl a1)], [.inl 48, .inl a1], am_mk m)) rfl ?_
  by_cases hc1 : a1 < (48 : Int32)
  · rw [if_pos hc1] at h
    refine am_Go.c1 htb (S' := (16, [some (.inl a1)], [], am_mk m)) (if_pos hc1) ?_
    refine am_Go.n htb 1 (S' := (17, [some (.inl a1)], [.inl 0], am_mk m)) rfl ?_
    cases h
    exact am_Go.rt htb rfl
  · rw [if_neg hc1] at h
    refine am_Go.c1 htb (S' := (6, [some (.inl a1)], [], am_mk m)) (if_neg hc1) ?_
    refine am_Go.n htb 2 (S' := (9, [some (.inl a1)], [.inl 57, .inl a1], am_mk m)) rfl ?_
    by_cases hc2 : (57 : Int32) < a1
    · rw [if_pos hc2] at h
      refine am_Go.c1 htb (S' := (16, [some (.inl a1)], [], am_mk m)) (if_pos hc2) ?_
      refine am_Go.n htb 1 (S' := (17, [some (.inl a1)], [.inl 0], am_mk m)) rfl ?_
      cases h
      exact am_Go.rt htb rfl
    · rw [if_neg hc2] at h
      refine am_Go.c1 htb (S' := (12, [some (.inl a1)], [], am_mk m)) (if_neg hc2) ?_
      refine am_Go.n htb 2 (S' := (17, [some (.inl a1)], [.inl 1], am_mk m)) rfl ?_
      cases h
      exact am_Go.rt htb rfl
-- X7_byteAt
set_option maxRecDepth 100000 in
theorem ex_X7_byteAt (d : Nat) (hd : 1 ≤ d) (a1 : Int32) (m : am_m) (t : Int32) (h : fn_X7_byteAt a1 m = some t) : am_Ex am_cod d 95 [.inr (.inr (some (7, 0))), .inl a1] (am_mk m) (some (.inl t)) (am_mk m) 0 0 := by
  obtain ⟨d, rfl⟩ : ∃ e, d = e + 1 := ⟨d - 1, by omega⟩
  have htb : am_tab 95 = at_95 := rfl
  refine ⟨Nat.le_of_ble_eq_true rfl, ?_⟩
  unfold fn_X7_byteAt at h
  show am_Go d 95 (0, [some (.inr (.inr (some (7, 0)))), some (.inl a1)], [], am_mk m) _ _ 0 0
  refine am_Go.n htb 1 (S' := (1, [some (.inr (.inr (some (7, 0)))), some (.inl a1)], [.inl a1], am_mk m)) rfl ?_
  by_cases hc1 : a1 < 0
  · rw [if_pos hc1] at h
    refine am_Go.c1 htb (S' := (21, [some (.inr (.inr (some (7, 0)))), some (.inl a1)], [], am_mk m)) (if_pos hc1) ?_
    refine am_Go.n htb 1 (S' := (22, [some (.inr (.inr (some (7, 0)))), some (.inl a1)], [.inl (-1)], am_mk m)) rfl ?_
    cases h
    exact am_Go.rt htb rfl
  · rw [if_neg hc1] at h
    refine am_Go.c1 htb (S' := (4, [some (.inr (.inr (some (7, 0)))), some (.inl a1)], [], am_mk m)) (if_neg hc1) ?_
    refine am_Go.n htb 3 (S' := (9, [some (.inr (.inr (some (7, 0)))), some (.inl a1)], [.inl (m.1 7 0 1), .inl a1], am_mk m)) rfl ?_
    by_cases hc2 : (m.1 7 0 1) ≤ a1
    · rw [if_pos hc2] at h
      refine am_Go.c1 htb (S' := (21, [some (.inr (.inr (some (7, 0)))), some (.inl a1)], [], am_mk m)) (if_pos hc2) ?_
      refine am_Go.n htb 1 (S' := (22, [some (.inr (.inr (some (7, 0)))), some (.inl a1)], [.inl (-1)], am_mk m)) rfl ?_
      cases h
      exact am_Go.rt htb rfl
    · rw [if_neg hc2] at h
      refine am_Go.c1 htb (S' := (12, [some (.inr (.inr (some (7, 0)))), some (.inl a1)], [], am_mk m)) (if_neg hc2) ?_
      refine am_Go.n htb 3 (S' := (17, [some (.inr (.inr (some (7, 0)))), some (.inl a1)], [.inl a1, .inr (.inr (some (35, 0)))], am_mk m)) rfl ?_
      obtain ⟨hg3, h⟩ := am_ck_some h
      refine am_Go.c1 htb (S' := (18, [some (.inr (.inr (some (7, 0)))), some (.inl a1)], [.inl (m.1 35 0 a1.toNatClampNeg)], am_mk m)) (if_neg hg3) ?_
      refine am_Go.n htb 1 (S' := (22, [some (.inr (.inr (some (7, 0)))), some (.inl a1)], [.inl (m.1 35 0 a1.toNatClampNeg)], am_mk m)) rfl ?_
      cases h
      exact am_Go.rt htb rfl
-- X4_numberOf
set_option maxRecDepth 100000 in
theorem lt_X4_numberOf_5 (d : Nat) (hd : 2 ≤ d + 1) {r : Option am_V} {M' : am_M} {kc ks : Nat} {n : Nat} {x2 : Int32} {x3 : Int32} {x4 : Int32} {m : am_m} {t : Int32} (h : lp_X4_numberOf_5 n x2 x3 x4 m = some t) (hk : am_Go d 40 (38, [some (.inr (.inr (some (7, 0)))), none, some (.inl x2), some (.inl t), none], [], am_mk m) r M' kc ks) : am_Go d 40 (5, [some (.inr (.inr (some (7, 0)))), none, some (.inl x2), some (.inl x3), some (.inl x4)], [], am_mk m) r M' kc ks := by
  have htb : am_tab 40 = at_40 := rfl
  induction n generalizing x3 x4 with
  | zero => cases h
  | succ n ih =>
    unfold lp_X4_numberOf_5 at h
    refine am_Go.n htb 2 (S' := (8, [some (.inr (.inr (some (7, 0)))), none, some (.inl x2), some (.inl x3), some (.inl x4)], [.inl x2, .inl x4], am_mk m)) rfl ?_
    by_cases hc1 : x2 ≤ x4
    · rw [if_pos hc1] at h
      refine am_Go.c1 htb (S' := (38, [some (.inr (.inr (some (7, 0)))), none, some (.inl x2), some (.inl x3), some (.inl x4)], [], am_mk m)) (if_pos hc1) ?_
      cases h
      exact am_Go.fg (by exact ⟨rfl, ⟨rfl, ⟨rfl, trivial⟩⟩⟩) hk
    · rw [if_neg hc1] at h
      refine am_Go.c1 htb (S' := (11, [some (.inr (.inr (some (7, 0)))), none, some (.inl x2), some (.inl x3), some (.inl x4)], [], am_mk m)) (if_neg hc1) ?_
      refine am_Go.n htb 6 (S' := (21, [some (.inr (.inr (some (7, 0)))), none, some (.inl x2), some (.inl x3), some (.inl x4)], [.inl x4, .inr (.inr (some (7, 0))), .inl (x3 * (10 : Int32)), .inl 1001], am_mk m)) rfl ?_
      obtain ⟨r2, h3, h⟩ := am_bd h
      refine am_Go.cl htb rfl (ex_X7_byteAt d (by omega) x4 m r2 h3) ?_
      show am_Go d 40 (24, [some (.inr (.inr (some (7, 0)))), none, some (.inl x2), some (.inl x3), some (.inl x4)], [.inl r2, .inl (x3 * (10 : Int32)), .inl 1001], am_mk m) _ _ _ _
      refine am_Go.n htb 3 (S' := (28, [some (.inr (.inr (some (7, 0)))), none, some (.inl x2), some (.inl x3), some (.inl x4)], [.inl (((x3 * (10 : Int32)) + r2) - (48 : Int32)), .inl 1001], am_mk m)) rfl ?_
      obtain ⟨r4, h5, h⟩ := am_bd h
      refine am_Go.cl htb rfl (ex_J9_min_7cf53 d (by omega) 1001 (((x3 * (10 : Int32)) + r2) - (48 : Int32)) m r4 h5) ?_
      show am_Go d 40 (31, [some (.inr (.inr (some (7, 0)))), none, some (.inl x2), some (.inl x3), some (.inl x4)], [.inl r4], am_mk m) _ _ _ _
      refine am_Go.n htb 3 (S' := (5, [some (.inr (.inr (some (7, 0)))), none, some (.inl x2), some (.inl r4), some (.inl (x4 + 1))], [], am_mk m)) rfl ?_
      first | exact ih h | exact ih h hk
set_option maxRecDepth 100000 in
theorem ex_X4_numberOf (d : Nat) (hd : 2 ≤ d) (a2 : Int32) (a3 : Int32) (m : am_m) (t : Int32) (h : fn_X4_numberOf a2 a3 m = some t) : am_Ex am_cod d 40 [.inr (.inr (some (7, 0))), .inl a2, .inl a3] (am_mk m) (some (.inl t)) (am_mk m) 0 0 := by
  obtain ⟨d, rfl⟩ : ∃ e, d = e + 1 := ⟨d - 1, by omega⟩
  have htb : am_tab 40 = at_40 := rfl
  refine ⟨Nat.le_of_ble_eq_true rfl, ?_⟩
  unfold fn_X4_numberOf at h
  show am_Go d 40 (0, [some (.inr (.inr (some (7, 0)))), some (.inl a2), some (.inl a3), none, none], [], am_mk m) _ _ 0 0
  refine am_Go.n htb 4 (S' := (5, [some (.inr (.inr (some (7, 0)))), some (.inl a2), some (.inl a3), some (.inl 0), some (.inl a2)], [], am_mk m)) rfl ?_
  refine am_Go.fg (L0 := [some (.inr (.inr (some (7, 0)))), none, some (.inl a3), some (.inl 0), some (.inl a2)]) (by exact ⟨rfl, ⟨rfl, ⟨rfl, ⟨rfl, trivial⟩⟩⟩⟩) ?_
  obtain ⟨q6, h7, h⟩ := am_bd h
  refine lt_X4_numberOf_5 _ hd (h := h7) (hk := ?_)
  refine am_Go.n htb 1 (S' := (39, [some (.inr (.inr (some (7, 0)))), none, some (.inl a3), some (.inl q6), none], [.inl q6], am_mk m)) rfl ?_
  cases h
  exact am_Go.rt htb rfl
-- X4_isSame
set_option maxRecDepth 100000 in
theorem lt_X4_isSame_3 (d : Nat) (hd : 2 ≤ d + 1) {r : Option am_V} {M' : am_M} {kc ks : Nat} {n : Nat} {x1 : Int32} {x2 : Int32} {x3 : Int32} {x4 : Int32} {m : am_m} {t : Sum (Unit) (Int32)} (h : lp_X4_isSame_3 n x1 x2 x3 x4 m = some t) (hk : ∀ t', t = .inl t' → am_Go d 42 (37, [some (.inr (.inr (some (7, 0)))), some (.inl x1), some (.inl x2), some (.inl x3), none], [], am_mk m) r M' kc ks) (hr : ∀ t', t = .inr t' → r = some (.inl t') ∧ M' = am_mk m ∧ kc = 0 ∧ ks = 0) : am_Go d 42 (3, [some (.inr (.inr (some (7, 0)))), some (.inl x1), some (.inl x2), some (.inl x3), some (.inl x4)], [], am_mk m) r M' kc ks := by
  have htb : am_tab 42 = at_42 := rfl
  induction n generalizing x4 with
  | zero => cases h
  | succ n ih =>
    unfold lp_X4_isSame_3 at h
    refine am_Go.n htb 2 (S' := (6, [some (.inr (.inr (some (7, 0)))), some (.inl x1), some (.inl x2), some (.inl x3), some (.inl x4)], [.inl x3, .inl x4], am_mk m)) rfl ?_
    by_cases hc1 : x3 ≤ x4
    · rw [if_pos hc1] at h
      refine am_Go.c1 htb (S' := (37, [some (.inr (.inr (some (7, 0)))), some (.inl x1), some (.inl x2), some (.inl x3), some (.inl x4)], [], am_mk m)) (if_pos hc1) ?_
      cases h
      exact am_Go.fg (by exact ⟨rfl, ⟨rfl, ⟨rfl, ⟨rfl, trivial⟩⟩⟩⟩) (hk _ rfl)
    · rw [if_neg hc1] at h
      refine am_Go.c1 htb (S' := (9, [some (.inr (.inr (some (7, 0)))), some (.inl x1), some (.inl x2), some (.inl x3), some (.inl x4)], [], am_mk m)) (if_neg hc1) ?_
      refine am_Go.n htb 4 (S' := (14, [some (.inr (.inr (some (7, 0)))), some (.inl x1), some (.inl x2), some (.inl x3), some (.inl x4)], [.inl (x1 + x4), .inr (.inr (some (7, 0)))], am_mk m)) rfl ?_
      obtain ⟨r2, h3, h⟩ := am_bd h
      refine am_Go.cl htb rfl (ex_X7_byteAt d (by omega) (x1 + x4) m r2 h3) ?_
      show am_Go d 42 (17, [some (.inr (.inr (some (7, 0)))), some (.inl x1), some (.inl x2), some (.inl x3), some (.inl x4)], [.inl r2], am_mk m) _ _ _ _
      obtain ⟨hg4, h⟩ := am_ck_some h
      refine am_Go.c1 htb (S' := (26, [some (.inr (.inr (some (7, 0)))), some (.inl x1), some (.inl x2), some (.inl x3), some (.inl x4)], [.inl (am_ch (x2 + x4)), .inl r2], am_mk m)) (if_neg hg4) ?_
      by_cases hc5 : r2 = (am_ch (x2 + x4))
      · rw [if_pos hc5] at h
        refine am_Go.c1 htb (S' := (31, [some (.inr (.inr (some (7, 0)))), some (.inl x1), some (.inl x2), some (.inl x3), some (.inl x4)], [], am_mk m)) (if_pos hc5) ?_
        refine am_Go.n htb 2 (S' := (3, [some (.inr (.inr (some (7, 0)))), some (.inl x1), some (.inl x2), some (.inl x3), some (.inl (x4 + 1))], [], am_mk m)) rfl ?_
        first | exact ih h | exact ih h hk | exact ih h hr | exact ih h hk hr
      · rw [if_neg hc5] at h
        refine am_Go.c1 htb (S' := (29, [some (.inr (.inr (some (7, 0)))), some (.inl x1), some (.inl x2), some (.inl x3), some (.inl x4)], [], am_mk m)) (if_neg hc5) ?_
        refine am_Go.n htb 1 (S' := (30, [some (.inr (.inr (some (7, 0)))), some (.inl x1), some (.inl x2), some (.inl x3), some (.inl x4)], [.inl 0], am_mk m)) rfl ?_
        cases h
        obtain ⟨rfl, rfl, rfl, rfl⟩ := hr _ rfl
        exact am_Go.rt htb rfl
set_option maxRecDepth 100000 in
theorem ex_X4_isSame (d : Nat) (hd : 2 ≤ d) (a2 : Int32) (a3 : Int32) (a4 : Int32) (m : am_m) (t : Int32) (h : fn_X4_isSame a2 a3 a4 m = some t) : am_Ex am_cod d 42 [.inr (.inr (some (7, 0))), .inl a2, .inl a3, .inl a4] (am_mk m) (some (.inl t)) (am_mk m) 0 0 := by
  obtain ⟨d, rfl⟩ : ∃ e, d = e + 1 := ⟨d - 1, by omega⟩
  have htb : am_tab 42 = at_42 := rfl
  refine ⟨Nat.le_of_ble_eq_true rfl, ?_⟩
  unfold fn_X4_isSame at h
  show am_Go d 42 (0, [some (.inr (.inr (some (7, 0)))), some (.inl a2), some (.inl a3), some (.inl a4), none], [], am_mk m) _ _ 0 0
  refine am_Go.n htb 2 (S' := (3, [some (.inr (.inr (some (7, 0)))), some (.inl a2), some (.inl a3), some (.inl a4), some (.inl 0)], [], am_mk m)) rfl ?_
  obtain ⟨w9, h7, h⟩ := am_bd h
  refine lt_X4_isSame_3 _ hd (h := h7) (hk := ?_) (hr := ?_)
  · intro q6 he
    subst he
    dsimp only at h
    refine am_Go.n htb 1 (S' := (38, [some (.inr (.inr (some (7, 0)))), some (.inl a2), some (.inl a3), some (.inl a4), none], [.inl 1], am_mk m)) rfl ?_
    cases h
    exact am_Go.rt htb rfl
  · intro rr8 he
    subst he
    cases h
    exact ⟨rfl, rfl, rfl, rfl⟩
-- X4_wordOf
set_option maxRecDepth 100000 in
theorem lt_X4_wordOf_10 (d : Nat) (hd : 3 ≤ d + 1) {r : Option am_V} {M' : am_M} {kc ks : Nat} {n : Nat} {x1 : Int32} {x2 : Int32} {x3 : Int32} {x4 : Int32} {x5 : Int32} {m : am_m} {t : Sum (Unit) (Int32)} (h : lp_X4_wordOf_10 n x1 x2 x3 x4 x5 m = some t) (hk : ∀ t', t = .inl t' → am_Go d 41 (75, [some (.inr (.inr (some (7, 0)))), some (.inl x1), some (.inl x2), none, none, none], [], am_mk m) r M' kc ks) (hr : ∀ t', t = .inr t' → r = some (.inl t') ∧ M' = am_mk m ∧ kc = 0 ∧ ks = 0) : am_Go d 41 (10, [some (.inr (.inr (some (7, 0)))), some (.inl x1), some (.inl x2), some (.inl x3), some (.inl x4), some (.inl x5)], [], am_mk m) r M' kc ks := by
  have htb : am_tab 41 = at_41 := rfl
  induction n generalizing x3 x4 x5 with
  | zero => cases h
  | succ n ih =>
    unfold lp_X4_wordOf_10 at h
    refine am_Go.n htb 1 (S' := (12, [some (.inr (.inr (some (7, 0)))), some (.inl x1), some (.inl x2), some (.inl x3), some (.inl x4), some (.inl x5)], [.inl x5], am_mk m)) rfl ?_
    refine am_Go.c1 htb (S' := (17, [some (.inr (.inr (some (7, 0)))), some (.inl x1), some (.inl x2), some (.inl x3), some (.inl x4), some (.inl x5)], [.inl 145, .inl x5], am_mk m)) rfl ?_
    by_cases hc1 : (145 : Int32) ≤ x5
    · rw [if_pos hc1] at h
      refine am_Go.c1 htb (S' := (75, [some (.inr (.inr (some (7, 0)))), some (.inl x1), some (.inl x2), some (.inl x3), some (.inl x4), some (.inl x5)], [], am_mk m)) (if_pos hc1) ?_
      cases h
      exact am_Go.fg (by exact ⟨rfl, ⟨rfl, ⟨rfl, trivial⟩⟩⟩) (hk _ rfl)
    · rw [if_neg hc1] at h
      refine am_Go.c1 htb (S' := (20, [some (.inr (.inr (some (7, 0)))), some (.inl x1), some (.inl x2), some (.inl x3), some (.inl x4), some (.inl x5)], [], am_mk m)) (if_neg hc1) ?_
      obtain ⟨hg2, h⟩ := am_ck_some h
      refine am_Go.c1 htb (S' := (27, [some (.inr (.inr (some (7, 0)))), some (.inl x1), some (.inl x2), some (.inl x3), some (.inl x4), some (.inl x5)], [.inl (am_ch x5)], am_mk m)) (if_neg hg2) ?_
      refine am_Go.n htb 1 (S' := (29, [some (.inr (.inr (some (7, 0)))), some (.inl x1), some (.inl x2), some (.inl x3), some (.inl x4), some (.inl x5)], [.inl 32, .inl (am_ch x5)], am_mk m)) rfl ?_
      by_cases hc3 : (am_ch x5) ≠ (32 : Int32)
      · rw [if_pos hc3] at h
        refine am_Go.c1 htb (S' := (69, [some (.inr (.inr (some (7, 0)))), some (.inl x1), some (.inl x2), some (.inl x3), some (.inl x4), some (.inl x5)], [], am_mk m)) (if_pos hc3) ?_
        refine am_Go.n htb 2 (S' := (10, [some (.inr (.inr (some (7, 0)))), some (.inl x1), some (.inl x2), some (.inl x3), some (.inl x4), some (.inl (x5 + 1))], [], am_mk m)) rfl ?_
        first | exact ih h | exact ih h hk | exact ih h hr | exact ih h hk hr
      · rw [if_neg hc3] at h
        refine am_Go.c1 htb (S' := (32, [some (.inr (.inr (some (7, 0)))), some (.inl x1), some (.inl x2), some (.inl x3), some (.inl x4), some (.inl x5)], [], am_mk m)) (if_neg hc3) ?_
        refine am_Go.n htb 6 (S' := (40, [some (.inr (.inr (some (7, 0)))), some (.inl x1), some (.inl x2), some (.inl x3), some (.inl x4), some (.inl x5)], [.inl (x2 - x1), .inl (x5 - x4)], am_mk m)) rfl ?_
        by_cases hc4 : (x5 - x4) ≠ (x2 - x1)
        · rw [if_pos hc4] at h
          refine am_Go.c1 htb (S' := (60, [some (.inr (.inr (some (7, 0)))), some (.inl x1), some (.inl x2), some (.inl x3), some (.inl x4), some (.inl x5)], [], am_mk m)) (if_pos hc4) ?_
          refine am_Go.n htb 7 (S' := (10, [some (.inr (.inr (some (7, 0)))), some (.inl x1), some (.inl x2), some (.inl (x3 + 1)), some (.inl (x5 + (1 : Int32))), some (.inl (x5 + 1))], [], am_mk m)) rfl ?_
          first | exact ih h | exact ih h hk | exact ih h hr | exact ih h hk hr
        · rw [if_neg hc4] at h
          refine am_Go.c1 htb (S' := (43, [some (.inr (.inr (some (7, 0)))), some (.inl x1), some (.inl x2), some (.inl x3), some (.inl x4), some (.inl x5)], [], am_mk m)) (if_neg hc4) ?_
          refine am_Go.n htb 6 (S' := (52, [some (.inr (.inr (some (7, 0)))), some (.inl x1), some (.inl x2), some (.inl x3), some (.inl x4), some (.inl x5)], [.inl (x5 - x4), .inl x4, .inl x1, .inr (.inr (some (7, 0)))], am_mk m)) rfl ?_
          obtain ⟨r5, h6, h⟩ := am_bd h
          refine am_Go.cl htb rfl (ex_X4_isSame d (by omega) x1 x4 (x5 - x4) m r5 h6) ?_
          show am_Go d 41 (55, [some (.inr (.inr (some (7, 0)))), some (.inl x1), some (.inl x2), some (.inl x3), some (.inl x4), some (.inl x5)], [.inl r5], am_mk m) _ _ _ _
          by_cases hc7 : r5 = 0
          · rw [if_pos hc7] at h
            refine am_Go.c1 htb (S' := (60, [some (.inr (.inr (some (7, 0)))), some (.inl x1), some (.inl x2), some (.inl x3), some (.inl x4), some (.inl x5)], [], am_mk m)) (if_pos hc7) ?_
            refine am_Go.n htb 7 (S' := (10, [some (.inr (.inr (some (7, 0)))), some (.inl x1), some (.inl x2), some (.inl (x3 + 1)), some (.inl (x5 + (1 : Int32))), some (.inl (x5 + 1))], [], am_mk m)) rfl ?_
            first | exact ih h | exact ih h hk | exact ih h hr | exact ih h hk hr
          · rw [if_neg hc7] at h
            refine am_Go.c1 htb (S' := (58, [some (.inr (.inr (some (7, 0)))), some (.inl x1), some (.inl x2), some (.inl x3), some (.inl x4), some (.inl x5)], [], am_mk m)) (if_neg hc7) ?_
            refine am_Go.n htb 1 (S' := (59, [some (.inr (.inr (some (7, 0)))), some (.inl x1), some (.inl x2), some (.inl x3), some (.inl x4), some (.inl x5)], [.inl x3], am_mk m)) rfl ?_
            cases h
            obtain ⟨rfl, rfl, rfl, rfl⟩ := hr _ rfl
            exact am_Go.rt htb rfl
set_option maxRecDepth 100000 in
theorem ex_X4_wordOf (d : Nat) (hd : 3 ≤ d) (a2 : Int32) (a3 : Int32) (m : am_m) (t : Int32) (h : fn_X4_wordOf a2 a3 m = some t) : am_Ex am_cod d 41 [.inr (.inr (some (7, 0))), .inl a2, .inl a3] (am_mk m) (some (.inl t)) (am_mk m) 0 0 := by
  obtain ⟨d, rfl⟩ : ∃ e, d = e + 1 := ⟨d - 1, by omega⟩
  have htb : am_tab 41 = at_41 := rfl
  refine ⟨Nat.le_of_ble_eq_true rfl, ?_⟩
  unfold fn_X4_wordOf at h
  show am_Go d 41 (0, [some (.inr (.inr (some (7, 0)))), some (.inl a2), some (.inl a3), none, none, none], [], am_mk m) _ _ 0 0
  refine am_Go.n htb 6 (S' := (10, [some (.inr (.inr (some (7, 0)))), some (.inl a2), some (.inl a3), some (.inl 259), some (.inl 0), some (.inl 0)], [], am_mk m)) rfl ?_
  obtain ⟨w11, h9, h⟩ := am_bd h
  refine lt_X4_wordOf_10 _ hd (h := h9) (hk := ?_) (hr := ?_)
  · intro q8 he
    subst he
    dsimp only at h
    refine am_Go.n htb 1 (S' := (78, [some (.inr (.inr (some (7, 0)))), some (.inl a2), some (.inl a3), none, none, none], [.inl 258], am_mk m)) rfl ?_
    cases h
    exact am_Go.rt htb rfl
  · intro rr10 he
    subst he
    cases h
    exact ⟨rfl, rfl, rfl, rfl⟩
