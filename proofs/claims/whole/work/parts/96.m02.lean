-- X10_begin
set_option maxRecDepth 100000 in
theorem ex_X10_begin (d : Nat) (hd : 3 ≤ d)  (m : am_m) (t : am_m) (h : fn_X10_begin  m = some t) : am_Ex am_cod d 204 [.inr (.inr (some (10, 0)))] (am_mk m) (none) (am_mk t) 0 0 := by
  obtain ⟨d, rfl⟩ : ∃ e, d = e + 1 := ⟨d - 1, by omega⟩
  have htb : am_tab 204 = at_204 := rfl
  refine ⟨Nat.le_of_ble_eq_true rfl, ?_⟩
  unfold fn_X10_begin at h
  show am_Go d 204 (0, [some (.inr (.inr (some (10, 0))))], [], am_mk m) _ _ 0 0
  refine am_Go.n htb 10 (S' := (16, [some (.inr (.inr (some (10, 0))))], [.inr (.inr (some (10, 0)))], am_mk (am_si (am_si (am_si m 10 0 15 0) 10 0 19 0) 10 0 18 (-1)))) rfl ?_
  obtain ⟨r1, h2, h⟩ := am_bd h
  refine am_Go.cl htb rfl (ex_X10_next d (by omega)  (am_si (am_si (am_si m 10 0 15 0) 10 0 19 0) 10 0 18 (-1)) r1 h2) ?_
  show am_Go d 204 (19, [some (.inr (.inr (some (10, 0))))], [], am_mk r1) _ _ _ _
  cases h
  exact am_Go.rt htb rfl
-- X10_isWord
set_option maxRecDepth 100000 in
theorem ex_X10_isWord (d : Nat) (hd : 1 ≤ d) (a1 : Int64) (m : am_m) (t : Int32) (h : fn_X10_isWord a1 m = some t) : am_Ex am_cod d 206 [.inr (.inr (some (10, 0))), .inr (.inl a1)] (am_mk m) (some (.inl t)) (am_mk m) 0 0 := by
  obtain ⟨d, rfl⟩ : ∃ e, d = e + 1 := ⟨d - 1, by omega⟩
  have htb : am_tab 206 = at_206 := rfl
  refine ⟨Nat.le_of_ble_eq_true rfl, ?_⟩
  unfold fn_X10_isWord at h
  show am_Go d 206 (0, [some (.inr (.inr (some (10, 0)))), some (.inr (.inl a1)), none], [], am_mk m) _ _ 0 0
  refine am_Go.n htb 3 (S' := (5, [some (.inr (.inr (some (10, 0)))), some (.inr (.inl a1)), none], [.inl 1, .inl (m.1 10 0 16)], am_mk m)) rfl ?_
  by_cases hc1 : (m.1 10 0 16) ≠ (1 : Int32)
  · rw [if_pos hc1] at h
    refine am_Go.c1 htb (S' := (21, [some (.inr (.inr (some (10, 0)))), some (.inr (.inl a1)), none], [], am_mk m)) (if_pos hc1) ?_
    refine am_Go.n htb 1 (S' := (22, [some (.inr (.inr (some (10, 0)))), some (.inr (.inl a1)), none], [.inl 0], am_mk m)) rfl ?_
    cases h
    exact am_Go.rt htb rfl
  · rw [if_neg hc1] at h
    refine am_Go.c1 htb (S' := (8, [some (.inr (.inr (some (10, 0)))), some (.inr (.inl a1)), none], [], am_mk m)) (if_neg hc1) ?_
    refine am_Go.n htb 4 (S' := (14, [some (.inr (.inr (some (10, 0)))), some (.inr (.inl a1)), none], [.inl (lg_cmp (m.2.1 10 0 17) a1)], am_mk m)) rfl ?_
    by_cases hc2 : (lg_cmp (m.2.1 10 0 17) a1) ≠ 0
    · rw [if_pos hc2] at h
      refine am_Go.c1 htb (S' := (21, [some (.inr (.inr (some (10, 0)))), some (.inr (.inl a1)), none], [], am_mk m)) (if_pos hc2) ?_
      refine am_Go.n htb 1 (S' := (22, [some (.inr (.inr (some (10, 0)))), some (.inr (.inl a1)), none], [.inl 0], am_mk m)) rfl ?_
      cases h
      exact am_Go.rt htb rfl
    · rw [if_neg hc2] at h
      refine am_Go.c1 htb (S' := (17, [some (.inr (.inr (some (10, 0)))), some (.inr (.inl a1)), none], [], am_mk m)) (if_neg hc2) ?_
      refine am_Go.n htb 2 (S' := (22, [some (.inr (.inr (some (10, 0)))), some (.inr (.inl a1)), none], [.inl 1], am_mk m)) rfl ?_
      cases h
      exact am_Go.rt htb rfl
-- X10_isSign
set_option maxRecDepth 100000 in
theorem ex_X10_isSign (d : Nat) (hd : 1 ≤ d) (a1 : Int32) (m : am_m) (t : Int32) (h : fn_X10_isSign a1 m = some t) : am_Ex am_cod d 207 [.inr (.inr (some (10, 0))), .inl a1] (am_mk m) (some (.inl t)) (am_mk m) 0 0 := by
  obtain ⟨d, rfl⟩ : ∃ e, d = e + 1 := ⟨d - 1, by omega⟩
  have htb : am_tab 207 = at_207 := rfl
  refine ⟨Nat.le_of_ble_eq_true rfl, ?_⟩
  unfold fn_X10_isSign at h
  show am_Go d 207 (0, [some (.inr (.inr (some (10, 0)))), some (.inl a1)], [], am_mk m) _ _ 0 0
  refine am_Go.n htb 3 (S' := (5, [some (.inr (.inr (some (10, 0)))), some (.inl a1)], [.inl 3, .inl (m.1 10 0 16)], am_mk m)) rfl ?_
  by_cases hc1 : (m.1 10 0 16) ≠ (3 : Int32)
  · rw [if_pos hc1] at h
    refine am_Go.c1 htb (S' := (22, [some (.inr (.inr (some (10, 0)))), some (.inl a1)], [], am_mk m)) (if_pos hc1) ?_
    refine am_Go.n htb 1 (S' := (23, [some (.inr (.inr (some (10, 0)))), some (.inl a1)], [.inl 0], am_mk m)) rfl ?_
    cases h
    exact am_Go.rt htb rfl
  · rw [if_neg hc1] at h
    refine am_Go.c1 htb (S' := (8, [some (.inr (.inr (some (10, 0)))), some (.inl a1)], [], am_mk m)) (if_neg hc1) ?_
    refine am_Go.n htb 5 (S' := (15, [some (.inr (.inr (some (10, 0)))), some (.inl a1)], [.inl (lg_cmp (m.2.1 10 0 17) a1.toInt64)], am_mk m)) rfl ?_
    by_cases hc2 : (lg_cmp (m.2.1 10 0 17) a1.toInt64) ≠ 0
    · rw [if_pos hc2] at h
      refine am_Go.c1 htb (S' := (22, [some (.inr (.inr (some (10, 0)))), some (.inl a1)], [], am_mk m)) (if_pos hc2) ?_
      refine am_Go.n htb 1 (S' := (23, [some (.inr (.inr (some (10, 0)))), some (.inl a1)], [.inl 0], am_mk m)) rfl ?_
      cases h
      exact am_Go.rt htb rfl
    · rw [if_neg hc2] at h
      refine am_Go.c1 htb (S' := (18, [some (.inr (.inr (some (10, 0)))), some (.inl a1)], [], am_mk m)) (if_neg hc2) ?_
      refine am_Go.n htb 2 (S' := (23, [some (.inr (.inr (some (10, 0)))), some (.inl a1)], [.inl 1], am_mk m)) rfl ?_
      cases h
      exact am_Go.rt htb rfl
-- X10_must
set_option maxRecDepth 100000 in
theorem ex_X10_must (d : Nat) (hd : 3 ≤ d) (a1 : Int32) (m : am_m) (t : am_m) (h : fn_X10_must a1 m = some t) : am_Ex am_cod d 208 [.inr (.inr (some (10, 0))), .inl a1] (am_mk m) (none) (am_mk t) 0 0 := by
  obtain ⟨d, rfl⟩ : ∃ e, d = e + 1 := ⟨d - 1, by omega⟩
  have htb : am_tab 208 = at_208 := rfl
  refine ⟨Nat.le_of_ble_eq_true rfl, ?_⟩
  unfold fn_X10_must at h
  show am_Go d 208 (0, [some (.inr (.inr (some (10, 0)))), some (.inl a1)], [], am_mk m) _ _ 0 0
  refine am_Go.n htb 2 (S' := (4, [some (.inr (.inr (some (10, 0)))), some (.inl a1)], [.inl (m.1 10 0 19)], am_mk m)) rfl ?_
  obtain ⟨q3, h7, h⟩ := am_bd h
  refine am_Go.cut (S := (24, [some (.inr (.inr (some (10, 0)))), some (.inl a1)], [], am_mk q3)) ?_ (fun key => ?_)
  · refine am_Go.n htb 2 (S' := (28, [some (.inr (.inr (some (10, 0)))), some (.inl a1)], [.inl (q3.1 10 0 19)], am_mk q3)) rfl ?_
    by_cases hc4 : (q3.1 10 0 19) ≠ 0
    · rw [if_pos hc4] at h
      refine am_Go.c1 htb (S' := (35, [some (.inr (.inr (some (10, 0)))), some (.inl a1)], [], am_mk q3)) (if_pos hc4) ?_
      cases h
      exact am_Go.rt htb rfl
    · rw [if_neg hc4] at h
      refine am_Go.c1 htb (S' := (31, [some (.inr (.inr (some (10, 0)))), some (.inl a1)], [], am_mk q3)) (if_neg hc4) ?_
      refine am_Go.n htb 1 (S' := (32, [some (.inr (.inr (some (10, 0)))), some (.inl a1)], [.inr (.inr (some (10, 0)))], am_mk q3)) rfl ?_
      obtain ⟨r5, h6, h⟩ := am_bd h
      refine am_Go.cl htb rfl (ex_X10_next d (by omega)  q3 r5 h6) ?_
      show am_Go d 208 (35, [some (.inr (.inr (some (10, 0)))), some (.inl a1)], [], am_mk r5) _ _ _ _
      cases h
      exact am_Go.rt htb rfl
  · have h := h7
    by_cases hc1 : (m.1 10 0 19) ≠ 0
    · rw [if_pos hc1] at h
      refine am_Go.c1 htb (S' := (24, [some (.inr (.inr (some (10, 0)))), some (.inl a1)], [], am_mk m)) (if_pos hc1) ?_
      cases h
      exact am_Go.fg (by exact ⟨rfl, ⟨rfl, trivial⟩⟩) key
    · rw [if_neg hc1] at h
      refine am_Go.c1 htb (S' := (7, [some (.inr (.inr (some (10, 0)))), some (.inl a1)], [], am_mk m)) (if_neg hc1) ?_
      refine am_Go.n htb 1 (S' := (8, [some (.inr (.inr (some (10, 0)))), some (.inl a1)], [.inl a1], am_mk m)) rfl ?_
      by_cases hc2 : a1 ≠ 0
      · rw [if_pos hc2] at h
        refine am_Go.c1 htb (S' := (24, [some (.inr (.inr (some (10, 0)))), some (.inl a1)], [], am_mk m)) (if_pos hc2) ?_
        cases h
        exact am_Go.fg (by exact ⟨rfl, ⟨rfl, trivial⟩⟩) key
      · rw [if_neg hc2] at h
        refine am_Go.c1 htb (S' := (11, [some (.inr (.inr (some (10, 0)))), some (.inl a1)], [], am_mk m)) (if_neg hc2) ?_
        refine am_Go.n htb 7 (S' := (24, [some (.inr (.inr (some (10, 0)))), some (.inl a1)], [], am_mk (am_si (am_si m 10 0 19 1) 10 0 18 (m.1 10 0 14)))) rfl ?_
        cases h
        exact am_Go.fg (by exact ⟨rfl, ⟨rfl, trivial⟩⟩) key
-- X10_number
set_option maxRecDepth 100000 in
theorem ex_X10_number (d : Nat) (hd : 4 ≤ d) (a1 : Int64) (a2 : Int64) (m : am_m) (t : Int32 × am_m) (h : fn_X10_number a1 a2 m = some t) : am_Ex am_cod d 209 [.inr (.inr (some (10, 0))), .inr (.inl a1), .inr (.inl a2)] (am_mk m) (some (.inl t.1)) (am_mk t.2) 0 0 := by
  obtain ⟨d, rfl⟩ : ∃ e, d = e + 1 := ⟨d - 1, by omega⟩
  have htb : am_tab 209 = at_209 := rfl
  refine ⟨Nat.le_of_ble_eq_true rfl, ?_⟩
  unfold fn_X10_number at h
  show am_Go d 209 (0, [some (.inr (.inr (some (10, 0)))), some (.inr (.inl a1)), none, some (.inr (.inl a2)), none, none], [], am_mk m) _ _ 0 0
  refine am_Go.n htb 8 (S' := (13, [some (.inr (.inr (some (10, 0)))), some (.inr (.inl a1)), none, some (.inr (.inl a2)), none, some (.inl ((m.2.1 10 0 17).toInt32))], [.inl 2, .inl (m.1 10 0 16), .inr (.inr (some (10, 0)))], am_mk m)) rfl ?_
  obtain ⟨q5, h8, h⟩ := am_bd h
  refine am_Go.cut (S := (33, [some (.inr (.inr (some (10, 0)))), some (.inr (.inl a1)), none, some (.inr (.inl a2)), none, some (.inl ((m.2.1 10 0 17).toInt32))], [.inl q5, .inr (.inr (some (10, 0)))], am_mk m)) ?_ (fun key => ?_)
  · obtain ⟨r6, h7, h⟩ := am_bd h
    refine am_Go.cl htb rfl (ex_X10_must d (by omega) q5 m r6 h7) ?_
    show am_Go d 209 (36, [some (.inr (.inr (some (10, 0)))), some (.inr (.inl a1)), none, some (.inr (.inl a2)), none, some (.inl ((m.2.1 10 0 17).toInt32))], [], am_mk r6) _ _ _ _
    refine am_Go.n htb 1 (S' := (38, [some (.inr (.inr (some (10, 0)))), some (.inr (.inl a1)), none, some (.inr (.inl a2)), none, some (.inl ((m.2.1 10 0 17).toInt32))], [.inl ((m.2.1 10 0 17).toInt32)], am_mk r6)) rfl ?_
    cases h
    exact am_Go.rt htb rfl
  · have h := h8
    by_cases hc1 : (m.1 10 0 16) ≠ (2 : Int32)
    · rw [if_pos hc1] at h
      refine am_Go.c1 htb (S' := (32, [some (.inr (.inr (some (10, 0)))), some (.inr (.inl a1)), none, some (.inr (.inl a2)), none, some (.inl ((m.2.1 10 0 17).toInt32))], [.inr (.inr (some (10, 0)))], am_mk m)) (if_pos hc1) ?_
      refine am_Go.n htb 1 (S' := (33, [some (.inr (.inr (some (10, 0)))), some (.inr (.inl a1)), none, some (.inr (.inl a2)), none, some (.inl ((m.2.1 10 0 17).toInt32))], [.inl 0, .inr (.inr (some (10, 0)))], am_mk m)) rfl ?_
      cases h
      exact am_Go.fg (by exact ⟨rfl, ⟨rfl, ⟨rfl, ⟨rfl, trivial⟩⟩⟩⟩) key
    · rw [if_neg hc1] at h
      refine am_Go.c1 htb (S' := (16, [some (.inr (.inr (some (10, 0)))), some (.inr (.inl a1)), none, some (.inr (.inl a2)), none, some (.inl ((m.2.1 10 0 17).toInt32))], [.inr (.inr (some (10, 0)))], am_mk m)) (if_neg hc1) ?_
      refine am_Go.n htb 4 (S' := (22, [some (.inr (.inr (some (10, 0)))), some (.inr (.inl a1)), none, some (.inr (.inl a2)), none, some (.inl ((m.2.1 10 0 17).toInt32))], [.inr (.inl a2), .inr (.inl a1), .inr (.inl (m.2.1 10 0 17)), .inr (.inr (some (10, 0)))], am_mk m)) rfl ?_
      obtain ⟨r2, h3, h⟩ := am_bd h
      refine am_Go.cl htb rfl (ex_X10_in d (by omega) (m.2.1 10 0 17) a1 a2 m r2 h3) ?_
      show am_Go d 209 (25, [some (.inr (.inr (some (10, 0)))), some (.inr (.inl a1)), none, some (.inr (.inl a2)), none, some (.inl ((m.2.1 10 0 17).toInt32))], [.inl r2, .inr (.inr (some (10, 0)))], am_mk m) _ _ _ _
      by_cases hc4 : r2 = 0
      · rw [if_pos hc4] at h
        refine am_Go.c1 htb (S' := (32, [some (.inr (.inr (some (10, 0)))), some (.inr (.inl a1)), none, some (.inr (.inl a2)), none, some (.inl ((m.2.1 10 0 17).toInt32))], [.inr (.inr (some (10, 0)))], am_mk m)) (if_pos hc4) ?_
        refine am_Go.n htb 1 (S' := (33, [some (.inr (.inr (some (10, 0)))), some (.inr (.inl a1)), none, some (.inr (.inl a2)), none, some (.inl ((m.2.1 10 0 17).toInt32))], [.inl 0, .inr (.inr (some (10, 0)))], am_mk m)) rfl ?_
        cases h
        exact am_Go.fg (by exact ⟨rfl, ⟨rfl, ⟨rfl, ⟨rfl, trivial⟩⟩⟩⟩) key
      · rw [if_neg hc4] at h
        refine am_Go.c1 htb (S' := (28, [some (.inr (.inr (some (10, 0)))), some (.inr (.inl a1)), none, some (.inr (.inl a2)), none, some (.inl ((m.2.1 10 0 17).toInt32))], [.inr (.inr (some (10, 0)))], am_mk m)) (if_neg hc4) ?_
        refine am_Go.n htb 2 (S' := (33, [some (.inr (.inr (some (10, 0)))), some (.inr (.inl a1)), none, some (.inr (.inl a2)), none, some (.inl ((m.2.1 10 0 17).toInt32))], [.inl 1, .inr (.inr (some (10, 0)))], am_mk m)) rfl ?_
        cases h
        exact am_Go.fg (by exact ⟨rfl, ⟨rfl, ⟨rfl, ⟨rfl, trivial⟩⟩⟩⟩) key
-- X10_fault
set_option maxRecDepth 100000 in
theorem ex_X10_fault (d : Nat) (hd : 1 ≤ d)  (m : am_m) (t : Int32 × am_m) (h : fn_X10_fault  m = some t) : am_Ex am_cod d 210 [.inr (.inr (some (10, 0)))] (am_mk m) (some (.inl t.1)) (am_mk t.2) 0 0 := by
  obtain ⟨d, rfl⟩ : ∃ e, d = e + 1 := ⟨d - 1, by omega⟩
  have htb : am_tab 210 = at_210 := rfl
  refine ⟨Nat.le_of_ble_eq_true rfl, ?_⟩
  unfold fn_X10_fault at h
  show am_Go d 210 (0, [some (.inr (.inr (some (10, 0))))], [], am_mk m) _ _ 0 0
  refine am_Go.n htb 5 (S' := (9, [some (.inr (.inr (some (10, 0))))], [.inl (m.1 10 0 18)], am_mk (am_si m 10 0 0 0))) rfl ?_
  cases h
  exact am_Go.rt htb rfl
-- X10_emit
set_option maxRecDepth 100000 in
theorem ex_X10_emit (d : Nat) (hd : 1 ≤ d) (a1 : Int32) (a2 : Int32) (m : am_m) (t : am_m) (h : fn_X10_emit a1 a2 m = some t) : am_Ex am_cod d 211 [.inr (.inr (some (10, 0))), .inl a1, .inl a2] (am_mk m) (none) (am_mk t) 0 0 := by
  obtain ⟨d, rfl⟩ : ∃ e, d = e + 1 := ⟨d - 1, by omega⟩
  have htb : am_tab 211 = at_211 := rfl
  refine ⟨Nat.le_of_ble_eq_true rfl, ?_⟩
  unfold fn_X10_emit at h
  show am_Go d 211 (0, [some (.inr (.inr (some (10, 0)))), some (.inl a1), some (.inl a2)], [], am_mk m) _ _ 0 0
  refine am_Go.n htb 5 (S' := (9, [some (.inr (.inr (some (10, 0)))), some (.inl a1), some (.inl a2)], [.inl a1, .inl (m.1 10 0 23), .inr (.inr (some (52, 0)))], am_mk m)) rfl ?_
  obtain ⟨hg1, h⟩ := am_ck_some h
  refine am_Go.c1 htb (S' := (10, [some (.inr (.inr (some (10, 0)))), some (.inl a1), some (.inl a2)], [], am_mk (am_si m 52 0 (m.1 10 0 23).toNatClampNeg a1))) (if_neg hg1) ?_
  refine am_Go.n htb 5 (S' := (19, [some (.inr (.inr (some (10, 0)))), some (.inl a1), some (.inl a2)], [.inl a2, .inl (m.1 10 0 23), .inr (.inr (some (53, 0)))], am_mk (am_si m 52 0 (m.1 10 0 23).toNatClampNeg a1))) rfl ?_
  obtain ⟨hg2, h⟩ := am_ck_some h
  refine am_Go.c1 htb (S' := (20, [some (.inr (.inr (some (10, 0)))), some (.inl a1), some (.inl a2)], [], am_mk (am_si (am_si m 52 0 (m.1 10 0 23).toNatClampNeg a1) 53 0 (m.1 10 0 23).toNatClampNeg a2))) (if_neg hg2) ?_
  refine am_Go.n htb 6 (S' := (30, [some (.inr (.inr (some (10, 0)))), some (.inl a1), some (.inl a2)], [], am_mk (am_si (am_si (am_si m 52 0 (m.1 10 0 23).toNatClampNeg a1) 53 0 (m.1 10 0 23).toNatClampNeg a2) 10 0 23 ((m.1 10 0 23) + (1 : Int32))))) rfl ?_
  cases h
  exact am_Go.rt htb rfl
-- X10_push
set_option maxRecDepth 100000 in
theorem ex_X10_push (d : Nat) (hd : 1 ≤ d) (a1 : Int32) (a2 : Int32) (m : am_m) (t : am_m) (h : fn_X10_push a1 a2 m = some t) : am_Ex am_cod d 212 [.inr (.inr (some (10, 0))), .inl a1, .inl a2] (am_mk m) (none) (am_mk t) 0 0 := by
  obtain ⟨d, rfl⟩ : ∃ e, d = e + 1 := ⟨d - 1, by omega⟩
  have htb : am_tab 212 = at_212 := rfl
  refine ⟨Nat.le_of_ble_eq_true rfl, ?_⟩
  unfold fn_X10_push at h
  show am_Go d 212 (0, [some (.inr (.inr (some (10, 0)))), some (.inl a1), some (.inl a2)], [], am_mk m) _ _ 0 0
  refine am_Go.n htb 5 (S' := (9, [some (.inr (.inr (some (10, 0)))), some (.inl a1), some (.inl a2)], [.inl a1, .inl (m.1 10 0 29), .inr (.inr (some (54, 0)))], am_mk m)) rfl ?_
  obtain ⟨hg1, h⟩ := am_ck_some h
  refine am_Go.c1 htb (S' := (10, [some (.inr (.inr (some (10, 0)))), some (.inl a1), some (.inl a2)], [], am_mk (am_si m 54 0 (m.1 10 0 29).toNatClampNeg a1))) (if_neg hg1) ?_
  refine am_Go.n htb 5 (S' := (19, [some (.inr (.inr (some (10, 0)))), some (.inl a1), some (.inl a2)], [.inl a2, .inl (m.1 10 0 29), .inr (.inr (some (55, 0)))], am_mk (am_si m 54 0 (m.1 10 0 29).toNatClampNeg a1))) rfl ?_
  obtain ⟨hg2, h⟩ := am_ck_some h
  refine am_Go.c1 htb (S' := (20, [some (.inr (.inr (some (10, 0)))), some (.inl a1), some (.inl a2)], [], am_mk (am_si (am_si m 54 0 (m.1 10 0 29).toNatClampNeg a1) 55 0 (m.1 10 0 29).toNatClampNeg a2))) (if_neg hg2) ?_
  refine am_Go.n htb 6 (S' := (30, [some (.inr (.inr (some (10, 0)))), some (.inl a1), some (.inl a2)], [], am_mk (am_si (am_si (am_si m 54 0 (m.1 10 0 29).toNatClampNeg a1) 55 0 (m.1 10 0 29).toNatClampNeg a2) 10 0 29 ((m.1 10 0 29) + (1 : Int32))))) rfl ?_
  cases h
  exact am_Go.rt htb rfl
-- X10_binds
set_option maxRecDepth 100000 in
theorem ex_X10_binds (d : Nat) (hd : 1 ≤ d) (a1 : Int32) (m : am_m) (t : Int32) (h : fn_X10_binds a1 m = some t) : am_Ex am_cod d 213 [.inl a1] (am_mk m) (some (.inl t)) (am_mk m) 0 0 := by
  obtain ⟨d, rfl⟩ : ∃ e, d = e + 1 := ⟨d - 1, by omega⟩
  have htb : am_tab 213 = at_213 := rfl
  refine ⟨Nat.le_of_ble_eq_true rfl, ?_⟩
  unfold fn_X10_binds at h
  show am_Go d 213 (0, [some (.inl a1)], [], am_mk m) _ _ 0 0
  refine am_Go.n htb 2 (S' := (3, [some (.inl a1)], [.inl 31, .inl a1], am_mk m)) rfl ?_
  by_cases hc1 : a1 < (31 : Int32)
  · rw [if_pos hc1] at h
    refine am_Go.c1 htb (S' := (10, [some (.inl a1)], [], am_mk m)) (if_pos hc1) ?_
    refine am_Go.n htb 2 (S' := (13, [some (.inl a1)], [.inl 30, .inl a1], am_mk m)) rfl ?_
    by_cases hc2 : a1 ≠ (30 : Int32)
    · rw [if_pos hc2] at h
      refine am_Go.c1 htb (S' := (20, [some (.inl a1)], [], am_mk m)) (if_pos hc2) ?_
      refine am_Go.n htb 2 (S' := (23, [some (.inl a1)], [.inl 29, .inl a1], am_mk m)) rfl ?_
      by_cases hc3 : a1 ≠ (29 : Int32)
      · rw [if_pos hc3] at h
        refine am_Go.c1 htb (S' := (30, [some (.inl a1)], [], am_mk m)) (if_pos hc3) ?_
        refine am_Go.n htb 2 (S' := (33, [some (.inl a1)], [.inl 28, .inl a1], am_mk m)) rfl ?_
        by_cases hc4 : a1 ≠ (28 : Int32)
        · rw [if_pos hc4] at h
          refine am_Go.c1 htb (S' := (40, [some (.inl a1)], [], am_mk m)) (if_pos hc4) ?_
          refine am_Go.n htb 2 (S' := (43, [some (.inl a1)], [.inl 25, .inl a1], am_mk m)) rfl ?_
          by_cases hc5 : a1 < (25 : Int32)
          · rw [if_pos hc5] at h
            refine am_Go.c1 htb (S' := (50, [some (.inl a1)], [], am_mk m)) (if_pos hc5) ?_
            refine am_Go.n htb 2 (S' := (53, [some (.inl a1)], [.inl 22, .inl a1], am_mk m)) rfl ?_
            by_cases hc6 : a1 < (22 : Int32)
            · rw [if_pos hc6] at h
              refine am_Go.c1 htb (S' := (61, [some (.inl a1)], [], am_mk m)) (if_pos hc6) ?_
              refine am_Go.n htb 1 (S' := (62, [some (.inl a1)], [.inl 5], am_mk m)) rfl ?_
              cases h
              exact am_Go.rt htb rfl
            · rw [if_neg hc6] at h
              refine am_Go.c1 htb (S' := (56, [some (.inl a1)], [], am_mk m)) (if_neg hc6) ?_
              refine am_Go.n htb 2 (S' := (62, [some (.inl a1)], [.inl 6], am_mk m)) rfl ?_
              cases h
              exact am_Go.rt htb rfl
          · rw [if_neg hc5] at h
            refine am_Go.c1 htb (S' := (46, [some (.inl a1)], [], am_mk m)) (if_neg hc5) ?_
            refine am_Go.n htb 2 (S' := (62, [some (.inl a1)], [.inl 4], am_mk m)) rfl ?_
            cases h
            exact am_Go.rt htb rfl
        · rw [if_neg hc4] at h
          refine am_Go.c1 htb (S' := (36, [some (.inl a1)], [], am_mk m)) (if_neg hc4) ?_
          refine am_Go.n htb 2 (S' := (62, [some (.inl a1)], [.inl 3], am_mk m)) rfl ?_
          cases h
          exact am_Go.rt htb rfl
      · rw [if_neg hc3] at h
        refine am_Go.c1 htb (S' := (26, [some (.inl a1)], [], am_mk m)) (if_neg hc3) ?_
        refine am_Go.n htb 2 (S' := (62, [some (.inl a1)], [.inl 2], am_mk m)) rfl ?_
        cases h
        exact am_Go.rt htb rfl
    · rw [if_neg hc2] at h
      refine am_Go.c1 htb (S' := (16, [some (.inl a1)], [], am_mk m)) (if_neg hc2) ?_
      refine am_Go.n htb 2 (S' := (62, [some (.inl a1)], [.inl 1], am_mk m)) rfl ?_
      cases h
      exact am_Go.rt htb rfl
  · rw [if_neg hc1] at h
    refine am_Go.c1 htb (S' := (6, [some (.inl a1)], [], am_mk m)) (if_neg hc1) ?_
    refine am_Go.n htb 2 (S' := (62, [some (.inl a1)], [.inl 0], am_mk m)) rfl ?_
    cases h
    exact am_Go.rt htb rfl
-- X10_settle
set_option maxRecDepth 100000 in
theorem lt_X10_settle_0 (d : Nat) (hd : 2 ≤ d + 1) {r : Option am_V} {M' : am_M} {kc ks : Nat} {n : Nat} {x1 : Int32} {m : am_m} {t : am_m} (h : lp_X10_settle_0 n x1 m = some t) (hk : am_Go d 214 (101, [some (.inr (.inr (some (10, 0)))), some (.inl x1)], [], am_mk t) r M' kc ks) : am_Go d 214 (0, [some (.inr (.inr (some (10, 0)))), some (.inl x1)], [], am_mk m) r M' kc ks := by
  have htb : am_tab 214 = at_214 := rfl
  induction n generalizing m with
  | zero => cases h
  | succ n ih =>
    unfold lp_X10_settle_0 at h
    refine am_Go.n htb 2 (S' := (4, [some (.inr (.inr (some (10, 0)))), some (.inl x1)], [.inl (m.1 10 0 29)], am_mk m)) rfl ?_
    by_cases hc1 : (m.1 10 0 29) ≤ 0
    · rw [if_pos hc1] at h
      refine am_Go.c1 htb (S' := (101, [some (.inr (.inr (some (10, 0)))), some (.inl x1)], [], am_mk m)) (if_pos hc1) ?_
      cases h
      exact am_Go.fg (by exact ⟨rfl, ⟨rfl, trivial⟩⟩) hk
    · rw [if_neg hc1] at h
      refine am_Go.c1 htb (S' := (7, [some (.inr (.inr (some (10, 0)))), some (.inl x1)], [], am_mk m)) (if_neg hc1) ?_
      refine am_Go.n htb 6 (S' := (17, [some (.inr (.inr (some (10, 0)))), some (.inl x1)], [.inl ((m.1 10 0 29) - (1 : Int32)), .inr (.inr (some (54, 0)))], am_mk m)) rfl ?_
      obtain ⟨hg2, h⟩ := am_ck_some h
      refine am_Go.c1 htb (S' := (18, [some (.inr (.inr (some (10, 0)))), some (.inl x1)], [.inl (m.1 54 0 ((m.1 10 0 29) - (1 : Int32)).toNatClampNeg)], am_mk m)) (if_neg hg2) ?_
      obtain ⟨r3, h4, h⟩ := am_bd h
      refine am_Go.cl htb rfl (ex_X10_binds d (by omega) (m.1 54 0 ((m.1 10 0 29) - (1 : Int32)).toNatClampNeg) m r3 h4) ?_
      show am_Go d 214 (21, [some (.inr (.inr (some (10, 0)))), some (.inl x1)], [.inl r3], am_mk m) _ _ _ _
      refine am_Go.n htb 1 (S' := (22, [some (.inr (.inr (some (10, 0)))), some (.inl x1)], [.inl x1, .inl r3], am_mk m)) rfl ?_
      by_cases hc5 : r3 < x1
      · rw [if_pos hc5] at h
        refine am_Go.c1 htb (S' := (101, [some (.inr (.inr (some (10, 0)))), some (.inl x1)], [], am_mk m)) (if_pos hc5) ?_
        cases h
        exact am_Go.fg (by exact ⟨rfl, ⟨rfl, trivial⟩⟩) hk
      · rw [if_neg hc5] at h
        refine am_Go.c1 htb (S' := (25, [some (.inr (.inr (some (10, 0)))), some (.inl x1)], [], am_mk m)) (if_neg hc5) ?_
        refine am_Go.n htb 10 (S' := (43, [some (.inr (.inr (some (10, 0)))), some (.inl x1)], [.inl ((m.1 10 0 29) - (1 : Int32)), .inr (.inr (some (54, 0)))], am_mk (am_si m 10 0 29 ((m.1 10 0 29) - (1 : Int32))))) rfl ?_
        obtain ⟨hg6, h⟩ := am_ck_some h
        refine am_Go.c1 htb (S' := (44, [some (.inr (.inr (some (10, 0)))), some (.inl x1)], [.inl (m.1 54 0 ((m.1 10 0 29) - (1 : Int32)).toNatClampNeg)], am_mk (am_si m 10 0 29 ((m.1 10 0 29) - (1 : Int32))))) (if_neg hg6) ?_
        refine am_Go.n htb 1 (S' := (46, [some (.inr (.inr (some (10, 0)))), some (.inl x1)], [.inl 29, .inl (m.1 54 0 ((m.1 10 0 29) - (1 : Int32)).toNatClampNeg)], am_mk (am_si m 10 0 29 ((m.1 10 0 29) - (1 : Int32))))) rfl ?_
        by_cases hc7 : (m.1 54 0 ((m.1 10 0 29) - (1 : Int32)).toNatClampNeg) = (29 : Int32)
        · rw [if_pos hc7] at h
          refine am_Go.c1 htb (S' := (63, [some (.inr (.inr (some (10, 0)))), some (.inl x1)], [], am_mk (am_si m 10 0 29 ((m.1 10 0 29) - (1 : Int32))))) (if_pos hc7) ?_
          refine am_Go.n htb 6 (S' := (75, [some (.inr (.inr (some (10, 0)))), some (.inl x1)], [.inl ((m.1 10 0 29) - (1 : Int32)), .inr (.inr (some (55, 0))), .inr (.inr (some (53, 0)))], am_mk (am_si m 10 0 29 ((m.1 10 0 29) - (1 : Int32))))) rfl ?_
          obtain ⟨hg8, h⟩ := am_ck_some h
          refine am_Go.c1 htb (S' := (76, [some (.inr (.inr (some (10, 0)))), some (.inl x1)], [.inl (m.1 55 0 ((m.1 10 0 29) - (1 : Int32)).toNatClampNeg), .inr (.inr (some (53, 0)))], am_mk (am_si m 10 0 29 ((m.1 10 0 29) - (1 : Int32))))) (if_neg hg8) ?_
          refine am_Go.n htb 2 (S' := (80, [some (.inr (.inr (some (10, 0)))), some (.inl x1)], [.inl (m.1 10 0 23), .inl (m.1 55 0 ((m.1 10 0 29) - (1 : Int32)).toNatClampNeg), .inr (.inr (some (53, 0)))], am_mk (am_si m 10 0 29 ((m.1 10 0 29) - (1 : Int32))))) rfl ?_
          obtain ⟨hg9, h⟩ := am_ck_some h
          refine am_Go.c1 htb (S' := (81, [some (.inr (.inr (some (10, 0)))), some (.inl x1)], [], am_mk (am_si (am_si m 10 0 29 ((m.1 10 0 29) - (1 : Int32))) 53 0 (m.1 55 0 ((m.1 10 0 29) - (1 : Int32)).toNatClampNeg).toNatClampNeg (m.1 10 0 23)))) (if_neg hg9) ?_
          refine am_Go.n htb 1 (S' := (0, [some (.inr (.inr (some (10, 0)))), some (.inl x1)], [], am_mk (am_si (am_si m 10 0 29 ((m.1 10 0 29) - (1 : Int32))) 53 0 (m.1 55 0 ((m.1 10 0 29) - (1 : Int32)).toNatClampNeg).toNatClampNeg (m.1 10 0 23)))) rfl ?_
          first | exact ih h | exact ih h hk
        · rw [if_neg hc7] at h
          refine am_Go.c1 htb (S' := (49, [some (.inr (.inr (some (10, 0)))), some (.inl x1)], [], am_mk (am_si m 10 0 29 ((m.1 10 0 29) - (1 : Int32))))) (if_neg hc7) ?_
          refine am_Go.n htb 4 (S' := (57, [some (.inr (.inr (some (10, 0)))), some (.inl x1)], [.inl ((m.1 10 0 29) - (1 : Int32)), .inr (.inr (some (54, 0)))], am_mk (am_si m 10 0 29 ((m.1 10 0 29) - (1 : Int32))))) rfl ?_
          obtain ⟨hg10, h⟩ := am_ck_some h
          refine am_Go.c1 htb (S' := (58, [some (.inr (.inr (some (10, 0)))), some (.inl x1)], [.inl (m.1 54 0 ((m.1 10 0 29) - (1 : Int32)).toNatClampNeg)], am_mk (am_si m 10 0 29 ((m.1 10 0 29) - (1 : Int32))))) (if_neg hg10) ?_
          refine am_Go.n htb 1 (S' := (60, [some (.inr (.inr (some (10, 0)))), some (.inl x1)], [.inl 30, .inl (m.1 54 0 ((m.1 10 0 29) - (1 : Int32)).toNatClampNeg)], am_mk (am_si m 10 0 29 ((m.1 10 0 29) - (1 : Int32))))) rfl ?_
          by_cases hc11 : (m.1 54 0 ((m.1 10 0 29) - (1 : Int32)).toNatClampNeg) ≠ (30 : Int32)
          · rw [if_pos hc11] at h
            refine am_Go.c1 htb (S' := (84, [some (.inr (.inr (some (10, 0)))), some (.inl x1)], [], am_mk (am_si m 10 0 29 ((m.1 10 0 29) - (1 : Int32))))) (if_pos hc11) ?_
            refine am_Go.n htb 5 (S' := (93, [some (.inr (.inr (some (10, 0)))), some (.inl x1)], [.inl ((m.1 10 0 29) - (1 : Int32)), .inr (.inr (some (54, 0))), .inr (.inr (some (10, 0)))], am_mk (am_si m 10 0 29 ((m.1 10 0 29) - (1 : Int32))))) rfl ?_
            obtain ⟨hg12, h⟩ := am_ck_some h
            refine am_Go.c1 htb (S' := (94, [some (.inr (.inr (some (10, 0)))), some (.inl x1)], [.inl (m.1 54 0 ((m.1 10 0 29) - (1 : Int32)).toNatClampNeg), .inr (.inr (some (10, 0)))], am_mk (am_si m 10 0 29 ((m.1 10 0 29) - (1 : Int32))))) (if_neg hg12) ?_
            refine am_Go.n htb 1 (S' := (95, [some (.inr (.inr (some (10, 0)))), some (.inl x1)], [.inl 0, .inl (m.1 54 0 ((m.1 10 0 29) - (1 : Int32)).toNatClampNeg), .inr (.inr (some (10, 0)))], am_mk (am_si m 10 0 29 ((m.1 10 0 29) - (1 : Int32))))) rfl ?_
            obtain ⟨r13, h14, h⟩ := am_bd h
            refine am_Go.cl htb rfl (ex_X10_emit d (by omega) (m.1 54 0 ((m.1 10 0 29) - (1 : Int32)).toNatClampNeg) 0 (am_si m 10 0 29 ((m.1 10 0 29) - (1 : Int32))) r13 h14) ?_
            show am_Go d 214 (98, [some (.inr (.inr (some (10, 0)))), some (.inl x1)], [], am_mk r13) _ _ _ _
            refine am_Go.n htb 1 (S' := (0, [some (.inr (.inr (some (10, 0)))), some (.inl x1)], [], am_mk r13)) rfl ?_
            first | exact ih h | exact ih h hk
          · rw [if_neg hc11] at h
            refine am_Go.c1 htb (S' := (63, [some (.inr (.inr (some (10, 0)))), some (.inl x1)], [], am_mk (am_si m 10 0 29 ((m.1 10 0 29) - (1 : Int32))))) (if_neg hc11) ?_
            refine am_Go.n htb 6 (S' := (75, [some (.inr (.inr (some (10, 0)))), some (.inl x1)], [.inl ((m.1 10 0 29) - (1 : Int32)), .inr (.inr (some (55, 0))), .inr (.inr (some (53, 0)))], am_mk (am_si m 10 0 29 ((m.1 10 0 29) - (1 : Int32))))) rfl ?_
            obtain ⟨hg15, h⟩ := am_ck_some h
            refine am_Go.c1 htb (S' := (76, [some (.inr (.inr (some (10, 0)))), some (.inl x1)], [.inl (m.1 55 0 ((m.1 10 0 29) - (1 : Int32)).toNatClampNeg), .inr (.inr (some (53, 0)))], am_mk (am_si m 10 0 29 ((m.1 10 0 29) - (1 : Int32))))) (if_neg hg15) ?_
            refine am_Go.n htb 2 (S' := (80, [some (.inr (.inr (some (10, 0)))), some (.inl x1)], [.inl (m.1 10 0 23), .inl (m.1 55 0 ((m.1 10 0 29) - (1 : Int32)).toNatClampNeg), .inr (.inr (some (53, 0)))], am_mk (am_si m 10 0 29 ((m.1 10 0 29) - (1 : Int32))))) rfl ?_
            obtain ⟨hg16, h⟩ := am_ck_some h
            refine am_Go.c1 htb (S' := (81, [some (.inr (.inr (some (10, 0)))), some (.inl x1)], [], am_mk (am_si (am_si m 10 0 29 ((m.1 10 0 29) - (1 : Int32))) 53 0 (m.1 55 0 ((m.1 10 0 29) - (1 : Int32)).toNatClampNeg).toNatClampNeg (m.1 10 0 23)))) (if_neg hg16) ?_
            refine am_Go.n htb 1 (S' := (0, [some (.inr (.inr (some (10, 0)))), some (.inl x1)], [], am_mk (am_si (am_si m 10 0 29 ((m.1 10 0 29) - (1 : Int32))) 53 0 (m.1 55 0 ((m.1 10 0 29) - (1 : Int32)).toNatClampNeg).toNatClampNeg (m.1 10 0 23)))) rfl ?_
            first | exact ih h | exact ih h hk
set_option maxRecDepth 100000 in
theorem ex_X10_settle (d : Nat) (hd : 2 ≤ d) (a1 : Int32) (m : am_m) (t : am_m) (h : fn_X10_settle a1 m = some t) : am_Ex am_cod d 214 [.inr (.inr (some (10, 0))), .inl a1] (am_mk m) (none) (am_mk t) 0 0 := by
  obtain ⟨d, rfl⟩ : ∃ e, d = e + 1 := ⟨d - 1, by omega⟩
  have htb : am_tab 214 = at_214 := rfl
  refine ⟨Nat.le_of_ble_eq_true rfl, ?_⟩
  unfold fn_X10_settle at h
  show am_Go d 214 (0, [some (.inr (.inr (some (10, 0)))), some (.inl a1)], [], am_mk m) _ _ 0 0
  obtain ⟨q17, h18, h⟩ := am_bd h
  refine lt_X10_settle_0 _ hd (h := h18) (hk := ?_)
  cases h
  exact am_Go.rt htb rfl
-- X10_inner
set_option maxRecDepth 100000 in
theorem lt_X10_inner_4 (d : Nat) (hd : 1 ≤ d + 1) {r : Option am_V} {M' : am_M} {kc ks : Nat} {n : Nat} {x1 : Int32} {x2 : Int32} {m : am_m} {t : Int32} (h : lp_X10_inner_4 n x1 x2 m = some t) (hk : am_Go d 215 (40, [some (.inr (.inr (some (10, 0)))), some (.inl t), none], [], am_mk m) r M' kc ks) : am_Go d 215 (4, [some (.inr (.inr (some (10, 0)))), some (.inl x1), some (.inl x2)], [], am_mk m) r M' kc ks := by
  have htb : am_tab 215 = at_215 := rfl
  induction n generalizing x1 x2 with
  | zero => cases h
  | succ n ih =>
    unfold lp_X10_inner_4 at h
    refine am_Go.n htb 3 (S' := (9, [some (.inr (.inr (some (10, 0)))), some (.inl x1), some (.inl x2)], [.inl (m.1 10 0 29), .inl x2], am_mk m)) rfl ?_
    by_cases hc1 : (m.1 10 0 29) ≤ x2
    · rw [if_pos hc1] at h
      refine am_Go.c1 htb (S' := (40, [some (.inr (.inr (some (10, 0)))), some (.inl x1), some (.inl x2)], [], am_mk m)) (if_pos hc1) ?_
      cases h
      exact am_Go.fg (by exact ⟨rfl, ⟨rfl, trivial⟩⟩) hk
    · rw [if_neg hc1] at h
      refine am_Go.c1 htb (S' := (12, [some (.inr (.inr (some (10, 0)))), some (.inl x1), some (.inl x2)], [], am_mk m)) (if_neg hc1) ?_
      refine am_Go.n htb 3 (S' := (17, [some (.inr (.inr (some (10, 0)))), some (.inl x1), some (.inl x2)], [.inl x2, .inr (.inr (some (54, 0)))], am_mk m)) rfl ?_
      obtain ⟨hg2, h⟩ := am_ck_some h
      refine am_Go.c1 htb (S' := (18, [some (.inr (.inr (some (10, 0)))), some (.inl x1), some (.inl x2)], [.inl (m.1 54 0 x2.toNatClampNeg)], am_mk m)) (if_neg hg2) ?_
      refine am_Go.n htb 1 (S' := (20, [some (.inr (.inr (some (10, 0)))), some (.inl x1), some (.inl x2)], [.inl 31, .inl (m.1 54 0 x2.toNatClampNeg)], am_mk m)) rfl ?_
      obtain ⟨q5, h6, h⟩ := am_bd h
      refine am_Go.cut (S := (33, [some (.inr (.inr (some (10, 0)))), some (.inl x1), some (.inl x2)], [.inl q5], am_mk m)) ?_ (fun key => ?_)
      · refine am_Go.n htb 3 (S' := (4, [some (.inr (.inr (some (10, 0)))), some (.inl q5), some (.inl (x2 + 1))], [], am_mk m)) rfl ?_
        first | exact ih h | exact ih h hk
      · have h := h6
        by_cases hc3 : (m.1 54 0 x2.toNatClampNeg) < (31 : Int32)
        · rw [if_pos hc3] at h
          refine am_Go.c1 htb (S' := (32, [some (.inr (.inr (some (10, 0)))), some (.inl x1), some (.inl x2)], [], am_mk m)) (if_pos hc3) ?_
          refine am_Go.n htb 1 (S' := (33, [some (.inr (.inr (some (10, 0)))), some (.inl x1), some (.inl x2)], [.inl x1], am_mk m)) rfl ?_
          cases h
          exact am_Go.fg (by exact ⟨rfl, ⟨rfl, ⟨rfl, trivial⟩⟩⟩) key
        · rw [if_neg hc3] at h
          refine am_Go.c1 htb (S' := (23, [some (.inr (.inr (some (10, 0)))), some (.inl x1), some (.inl x2)], [], am_mk m)) (if_neg hc3) ?_
          refine am_Go.n htb 3 (S' := (28, [some (.inr (.inr (some (10, 0)))), some (.inl x1), some (.inl x2)], [.inl x2, .inr (.inr (some (54, 0)))], am_mk m)) rfl ?_
          obtain ⟨hg4, h⟩ := am_ck_some h
          refine am_Go.c1 htb (S' := (29, [some (.inr (.inr (some (10, 0)))), some (.inl x1), some (.inl x2)], [.inl (m.1 54 0 x2.toNatClampNeg)], am_mk m)) (if_neg hg4) ?_
          refine am_Go.n htb 1 (S' := (33, [some (.inr (.inr (some (10, 0)))), some (.inl x1), some (.inl x2)], [.inl (m.1 54 0 x2.toNatClampNeg)], am_mk m)) rfl ?_
          cases h
          exact am_Go.fg (by exact ⟨rfl, ⟨rfl, ⟨rfl, trivial⟩⟩⟩) key
set_option maxRecDepth 100000 in
theorem ex_X10_inner (d : Nat) (hd : 1 ≤ d)  (m : am_m) (t : Int32) (h : fn_X10_inner  m = some t) : am_Ex am_cod d 215 [.inr (.inr (some (10, 0)))] (am_mk m) (some (.inl t)) (am_mk m) 0 0 := by
  obtain ⟨d, rfl⟩ : ∃ e, d = e + 1 := ⟨d - 1, by omega⟩
  have htb : am_tab 215 = at_215 := rfl
  refine ⟨Nat.le_of_ble_eq_true rfl, ?_⟩
  unfold fn_X10_inner at h
  show am_Go d 215 (0, [some (.inr (.inr (some (10, 0)))), none, none], [], am_mk m) _ _ 0 0
  refine am_Go.n htb 4 (S' := (4, [some (.inr (.inr (some (10, 0)))), some (.inl (-1)), some (.inl 0)], [], am_mk m)) rfl ?_
  obtain ⟨q7, h8, h⟩ := am_bd h
  refine lt_X10_inner_4 _ hd (h := h8) (hk := ?_)
  refine am_Go.n htb 1 (S' := (41, [some (.inr (.inr (some (10, 0)))), some (.inl q7), none], [.inl q7], am_mk m)) rfl ?_
  cases h
  exact am_Go.rt htb rfl
-- X10_isCompared
set_option maxRecDepth 100000 in
theorem lt_X10_isCompared_7 (d : Nat) (hd : 2 ≤ d + 1) {r : Option am_V} {M' : am_M} {kc ks : Nat} {n : Nat} {x1 : Int32} {m : am_m} {t : Int32} (h : lp_X10_isCompared_7 n x1 m = some t) (hk : am_Go d 216 (36, [some (.inr (.inr (some (10, 0)))), some (.inl t)], [], am_mk m) r M' kc ks) : am_Go d 216 (7, [some (.inr (.inr (some (10, 0)))), some (.inl x1)], [], am_mk m) r M' kc ks := by
  have htb : am_tab 216 = at_216 := rfl
  induction n generalizing x1 with
  | zero => cases h
  | succ n ih =>
    unfold lp_X10_isCompared_7 at h
    refine am_Go.n htb 1 (S' := (8, [some (.inr (.inr (some (10, 0)))), some (.inl x1)], [.inl x1], am_mk m)) rfl ?_
    by_cases hc1 : x1 < 0
    · rw [if_pos hc1] at h
      refine am_Go.c1 htb (S' := (36, [some (.inr (.inr (some (10, 0)))), some (.inl x1)], [], am_mk m)) (if_pos hc1) ?_
      cases h
      exact am_Go.fg (by exact ⟨rfl, ⟨rfl, trivial⟩⟩) hk
    · rw [if_neg hc1] at h
      refine am_Go.c1 htb (S' := (11, [some (.inr (.inr (some (10, 0)))), some (.inl x1)], [], am_mk m)) (if_neg hc1) ?_
      refine am_Go.n htb 3 (S' := (16, [some (.inr (.inr (some (10, 0)))), some (.inl x1)], [.inl x1, .inr (.inr (some (54, 0)))], am_mk m)) rfl ?_
      obtain ⟨hg2, h⟩ := am_ck_some h
      refine am_Go.c1 htb (S' := (17, [some (.inr (.inr (some (10, 0)))), some (.inl x1)], [.inl (m.1 54 0 x1.toNatClampNeg)], am_mk m)) (if_neg hg2) ?_
      refine am_Go.n htb 3 (S' := (24, [some (.inr (.inr (some (10, 0)))), some (.inl x1)], [.inr (.inl 24), .inr (.inl 20), .inr (.inl ((m.1 54 0 x1.toNatClampNeg).toInt64))], am_mk m)) rfl ?_
      obtain ⟨r3, h4, h⟩ := am_bd h
      refine am_Go.cl htb rfl (ex_X10_in d (by omega) ((m.1 54 0 x1.toNatClampNeg).toInt64) 20 24 m r3 h4) ?_
      show am_Go d 216 (27, [some (.inr (.inr (some (10, 0)))), some (.inl x1)], [.inl r3], am_mk m) _ _ _ _
      by_cases hc5 : r3 = 0
      · rw [if_pos hc5] at h
        refine am_Go.c1 htb (S' := (36, [some (.inr (.inr (some (10, 0)))), some (.inl x1)], [], am_mk m)) (if_pos hc5) ?_
        cases h
        exact am_Go.fg (by exact ⟨rfl, ⟨rfl, trivial⟩⟩) hk
      · rw [if_neg hc5] at h
        refine am_Go.c1 htb (S' := (30, [some (.inr (.inr (some (10, 0)))), some (.inl x1)], [], am_mk m)) (if_neg hc5) ?_
        refine am_Go.o htb (am_o_inc 1 (-1)) rfl (S' := (33, [some (.inr (.inr (some (10, 0)))), some (.inl (x1 - 1))], [], am_mk m)) (am_incn rfl rfl) ?_
        refine am_Go.n htb 1 (S' := (7, [some (.inr (.inr (some (10, 0)))), some (.inl (x1 - 1))], [], am_mk m)) rfl ?_
        first | exact ih h | exact ih h hk
set_option maxRecDepth 100000 in
theorem ex_X10_isCompared (d : Nat) (hd : 2 ≤ d)  (m : am_m) (t : Int32) (h : fn_X10_isCompared  m = some t) : am_Ex am_cod d 216 [.inr (.inr (some (10, 0)))] (am_mk m) (some (.inl t)) (am_mk m) 0 0 := by
  obtain ⟨d, rfl⟩ : ∃ e, d = e + 1 := ⟨d - 1, by omega⟩
  have htb : am_tab 216 = at_216 := rfl
  refine ⟨Nat.le_of_ble_eq_true rfl, ?_⟩
  unfold fn_X10_isCompared at h
  show am_Go d 216 (0, [some (.inr (.inr (some (10, 0)))), none], [], am_mk m) _ _ 0 0
  refine am_Go.n htb 5 (S' := (7, [some (.inr (.inr (some (10, 0)))), some (.inl ((m.1 10 0 29) - (1 : Int32)))], [], am_mk m)) rfl ?_
  obtain ⟨q6, h7, h⟩ := am_bd h
  refine lt_X10_isCompared_7 _ hd (h := h7) (hk := ?_)
  refine am_Go.n htb 1 (S' := (37, [some (.inr (.inr (some (10, 0)))), some (.inl q6)], [.inl q6], am_mk m)) rfl ?_
  by_cases hc8 : q6 < 0
  · rw [if_pos hc8] at h
    refine am_Go.c1 htb (S' := (63, [some (.inr (.inr (some (10, 0)))), some (.inl q6)], [], am_mk m)) (if_pos hc8) ?_
    refine am_Go.n htb 1 (S' := (64, [some (.inr (.inr (some (10, 0)))), some (.inl q6)], [.inl 0], am_mk m)) rfl ?_
    cases h
    exact am_Go.rt htb rfl
  · rw [if_neg hc8] at h
    refine am_Go.c1 htb (S' := (40, [some (.inr (.inr (some (10, 0)))), some (.inl q6)], [], am_mk m)) (if_neg hc8) ?_
    refine am_Go.n htb 3 (S' := (45, [some (.inr (.inr (some (10, 0)))), some (.inl q6)], [.inl q6, .inr (.inr (some (54, 0)))], am_mk m)) rfl ?_
    obtain ⟨hg9, h⟩ := am_ck_some h
    refine am_Go.c1 htb (S' := (46, [some (.inr (.inr (some (10, 0)))), some (.inl q6)], [.inl (m.1 54 0 q6.toNatClampNeg)], am_mk m)) (if_neg hg9) ?_
    refine am_Go.n htb 3 (S' := (53, [some (.inr (.inr (some (10, 0)))), some (.inl q6)], [.inr (.inl 27), .inr (.inl 25), .inr (.inl ((m.1 54 0 q6.toNatClampNeg).toInt64))], am_mk m)) rfl ?_
    obtain ⟨r10, h11, h⟩ := am_bd h
    refine am_Go.cl htb rfl (ex_X10_in d (by omega) ((m.1 54 0 q6.toNatClampNeg).toInt64) 25 27 m r10 h11) ?_
    show am_Go d 216 (56, [some (.inr (.inr (some (10, 0)))), some (.inl q6)], [.inl r10], am_mk m) _ _ _ _
    by_cases hc12 : r10 = 0
    · rw [if_pos hc12] at h
      refine am_Go.c1 htb (S' := (63, [some (.inr (.inr (some (10, 0)))), some (.inl q6)], [], am_mk m)) (if_pos hc12) ?_
      refine am_Go.n htb 1 (S' := (64, [some (.inr (.inr (some (10, 0)))), some (.inl q6)], [.inl 0], am_mk m)) rfl ?_
      cases h
      exact am_Go.rt htb rfl
    · rw [if_neg hc12] at h
      refine am_Go.c1 htb (S' := (59, [some (.inr (.inr (some (10, 0)))), some (.inl q6)], [], am_mk m)) (if_neg hc12) ?_
      refine am_Go.n htb 2 (S' := (64, [some (.inr (.inr (some (10, 0)))), some (.inl q6)], [.inl 1], am_mk m)) rfl ?_
      cases h
      exact am_Go.rt htb rfl
-- X10_partAt
set_option maxRecDepth 100000 in
theorem lt_X10_partAt_4 (d : Nat) (hd : 2 ≤ d + 1) {r : Option am_V} {M' : am_M} {kc ks : Nat} {n : Nat} {x1 : Int32} {x2 : Int32} {m : am_m} {t : Int32} (h : lp_X10_partAt_4 n x1 x2 m = some t) (hk : am_Go d 217 (37, [some (.inr (.inr (some (10, 0)))), some (.inl t), none], [], am_mk m) r M' kc ks) : am_Go d 217 (4, [some (.inr (.inr (some (10, 0)))), some (.inl x1), some (.inl x2)], [], am_mk m) r M' kc ks := by
  have htb : am_tab 217 = at_217 := rfl
  induction n generalizing x1 x2 with
  | zero => cases h
  | succ n ih =>
    unfold lp_X10_partAt_4 at h
    refine am_Go.n htb 2 (S' := (7, [some (.inr (.inr (some (10, 0)))), some (.inl x1), some (.inl x2)], [.inl 8, .inl x2], am_mk m)) rfl ?_
    by_cases hc1 : (8 : Int32) ≤ x2
    · rw [if_pos hc1] at h
      refine am_Go.c1 htb (S' := (37, [some (.inr (.inr (some (10, 0)))), some (.inl x1), some (.inl x2)], [], am_mk m)) (if_pos hc1) ?_
      cases h
      exact am_Go.fg (by exact ⟨rfl, ⟨rfl, trivial⟩⟩) hk
    · rw [if_neg hc1] at h
      refine am_Go.c1 htb (S' := (10, [some (.inr (.inr (some (10, 0)))), some (.inl x1), some (.inl x2)], [], am_mk m)) (if_neg hc1) ?_
      refine am_Go.n htb 4 (S' := (16, [some (.inr (.inr (some (10, 0)))), some (.inl x1), some (.inl x2)], [.inl x2, .inr (.inr (some (82, 0))), .inr (.inr (some (10, 0)))], am_mk m)) rfl ?_
      obtain ⟨hg2, h⟩ := am_ck_some h
      refine am_Go.c1 htb (S' := (17, [some (.inr (.inr (some (10, 0)))), some (.inl x1), some (.inl x2)], [.inr (.inl (m.2.1 82 0 x2.toNatClampNeg)), .inr (.inr (some (10, 0)))], am_mk m)) (if_neg hg2) ?_
      obtain ⟨r3, h4, h⟩ := am_bd h
      refine am_Go.cl htb rfl (ex_X10_isWord d (by omega) (m.2.1 82 0 x2.toNatClampNeg) m r3 h4) ?_
      show am_Go d 217 (20, [some (.inr (.inr (some (10, 0)))), some (.inl x1), some (.inl x2)], [.inl r3], am_mk m) _ _ _ _
      refine am_Go.cut (S := (30, [some (.inr (.inr (some (10, 0)))), some (.inl x1), some (.inl x2)], [.inl (if r3 = 0 then x1 else (x2 + (1 : Int32)))], am_mk m)) ?_ (fun key => ?_)
      · refine am_Go.n htb 3 (S' := (4, [some (.inr (.inr (some (10, 0)))), some (.inl (if r3 = 0 then x1 else (x2 + (1 : Int32)))), some (.inl (x2 + 1))], [], am_mk m)) rfl ?_
        first | exact ih h | exact ih h hk
      · by_cases hc5 : r3 = 0
        · refine am_Go.c1 htb (S' := (29, [some (.inr (.inr (some (10, 0)))), some (.inl x1), some (.inl x2)], [], am_mk m)) (if_pos hc5) ?_
          refine am_Go.n htb 1 (S' := (30, [some (.inr (.inr (some (10, 0)))), some (.inl x1), some (.inl x2)], [.inl x1], am_mk m)) rfl ?_
          simp only [if_pos hc5] at key
          exact am_Go.fg (by exact ⟨rfl, ⟨rfl, ⟨rfl, trivial⟩⟩⟩) key
        · refine am_Go.c1 htb (S' := (23, [some (.inr (.inr (some (10, 0)))), some (.inl x1), some (.inl x2)], [], am_mk m)) (if_neg hc5) ?_
          refine am_Go.n htb 4 (S' := (30, [some (.inr (.inr (some (10, 0)))), some (.inl x1), some (.inl x2)], [.inl (x2 + (1 : Int32))], am_mk m)) rfl ?_
          simp only [if_neg hc5] at key
          exact am_Go.fg (by exact ⟨rfl, ⟨rfl, ⟨rfl, trivial⟩⟩⟩) key
set_option maxRecDepth 100000 in
theorem ex_X10_partAt (d : Nat) (hd : 2 ≤ d)  (m : am_m) (t : Int32) (h : fn_X10_partAt  m = some t) : am_Ex am_cod d 217 [.inr (.inr (some (10, 0)))] (am_mk m) (some (.inl t)) (am_mk m) 0 0 := by
  obtain ⟨d, rfl⟩ : ∃ e, d = e + 1 := ⟨d - 1, by omega⟩
  have htb : am_tab 217 = at_217 := rfl
  refine ⟨Nat.le_of_ble_eq_true rfl, ?_⟩
  unfold fn_X10_partAt at h
  show am_Go d 217 (0, [some (.inr (.inr (some (10, 0)))), none, none], [], am_mk m) _ _ 0 0
  refine am_Go.n htb 4 (S' := (4, [some (.inr (.inr (some (10, 0)))), some (.inl (-1)), some (.inl 0)], [], am_mk m)) rfl ?_
  obtain ⟨q6, h7, h⟩ := am_bd h
  refine lt_X10_partAt_4 _ hd (h := h7) (hk := ?_)
  refine am_Go.n htb 1 (S' := (38, [some (.inr (.inr (some (10, 0)))), some (.inl q6), none], [.inl q6], am_mk m)) rfl ?_
  cases h
  exact am_Go.rt htb rfl
-- X10_orderPartAt
set_option maxRecDepth 100000 in
theorem lt_X10_orderPartAt_4 (d : Nat) (hd : 2 ≤ d + 1) {r : Option am_V} {M' : am_M} {kc ks : Nat} {n : Nat} {x1 : Int32} {x2 : Int32} {m : am_m} {t : Int32} (h : lp_X10_orderPartAt_4 n x1 x2 m = some t) (hk : am_Go d 218 (37, [some (.inr (.inr (some (10, 0)))), some (.inl t), none], [], am_mk m) r M' kc ks) : am_Go d 218 (4, [some (.inr (.inr (some (10, 0)))), some (.inl x1), some (.inl x2)], [], am_mk m) r M' kc ks := by
  have htb : am_tab 218 = at_218 := rfl
  induction n generalizing x1 x2 with
  | zero => cases h
  | succ n ih =>
    unfold lp_X10_orderPartAt_4 at h
    refine am_Go.n htb 2 (S' := (7, [some (.inr (.inr (some (10, 0)))), some (.inl x1), some (.inl x2)], [.inl 7, .inl x2], am_mk m)) rfl ?_
    by_cases hc1 : (7 : Int32) ≤ x2
    · rw [if_pos hc1] at h
      refine am_Go.c1 htb (S' := (37, [some (.inr (.inr (some (10, 0)))), some (.inl x1), some (.inl x2)], [], am_mk m)) (if_pos hc1) ?_
      cases h
      exact am_Go.fg (by exact ⟨rfl, ⟨rfl, trivial⟩⟩) hk
    · rw [if_neg hc1] at h
      refine am_Go.c1 htb (S' := (10, [some (.inr (.inr (some (10, 0)))), some (.inl x1), some (.inl x2)], [], am_mk m)) (if_neg hc1) ?_
      refine am_Go.n htb 4 (S' := (16, [some (.inr (.inr (some (10, 0)))), some (.inl x1), some (.inl x2)], [.inl x2, .inr (.inr (some (83, 0))), .inr (.inr (some (10, 0)))], am_mk m)) rfl ?_
      obtain ⟨hg2, h⟩ := am_ck_some h
      refine am_Go.c1 htb (S' := (17, [some (.inr (.inr (some (10, 0)))), some (.inl x1), some (.inl x2)], [.inr (.inl (m.2.1 83 0 x2.toNatClampNeg)), .inr (.inr (some (10, 0)))], am_mk m)) (if_neg hg2) ?_
      obtain ⟨r3, h4, h⟩ := am_bd h
      refine am_Go.cl htb rfl (ex_X10_isWord d (by omega) (m.2.1 83 0 x2.toNatClampNeg) m r3 h4) ?_
      show am_Go d 218 (20, [some (.inr (.inr (some (10, 0)))), some (.inl x1), some (.inl x2)], [.inl r3], am_mk m) _ _ _ _
      refine am_Go.cut (S := (30, [some (.inr (.inr (some (10, 0)))), some (.inl x1), some (.inl x2)], [.inl (if r3 = 0 then x1 else (x2 + (1 : Int32)))], am_mk m)) ?_ (fun key => ?_)
      · refine am_Go.n htb 3 (S' := (4, [some (.inr (.inr (some (10, 0)))), some (.inl (if r3 = 0 then x1 else (x2 + (1 : Int32)))), some (.inl (x2 + 1))], [], am_mk m)) rfl ?_
        first | exact ih h | exact ih h hk
      · by_cases hc5 : r3 = 0
        · refine am_Go.c1 htb (S' := (29, [some (.inr (.inr (some (10, 0)))), some (.inl x1), some (.inl x2)], [], am_mk m)) (if_pos hc5) ?_
          refine am_Go.n htb 1 (S' := (30, [some (.inr (.inr (some (10, 0)))), some (.inl x1), some (.inl x2)], [.inl x1], am_mk m)) rfl ?_
          simp only [if_pos hc5] at key
          exact am_Go.fg (by exact ⟨rfl, ⟨rfl, ⟨rfl, trivial⟩⟩⟩) key
        · refine am_Go.c1 htb (S' := (23, [some (.inr (.inr (some (10, 0)))), some (.inl x1), some (.inl x2)], [], am_mk m)) (if_neg hc5) ?_
          refine am_Go.n htb 4 (S' := (30, [some (.inr (.inr (some (10, 0)))), some (.inl x1), some (.inl x2)], [.inl (x2 + (1 : Int32))], am_mk m)) rfl ?_
          simp only [if_neg hc5] at key
          exact am_Go.fg (by exact ⟨rfl, ⟨rfl, ⟨rfl, trivial⟩⟩⟩) key
set_option maxRecDepth 100000 in
theorem ex_X10_orderPartAt (d : Nat) (hd : 2 ≤ d)  (m : am_m) (t : Int32) (h : fn_X10_orderPartAt  m = some t) : am_Ex am_cod d 218 [.inr (.inr (some (10, 0)))] (am_mk m) (some (.inl t)) (am_mk m) 0 0 := by
  obtain ⟨d, rfl⟩ : ∃ e, d = e + 1 := ⟨d - 1, by omega⟩
  have htb : am_tab 218 = at_218 := rfl
  refine ⟨Nat.le_of_ble_eq_true rfl, ?_⟩
  unfold fn_X10_orderPartAt at h
  show am_Go d 218 (0, [some (.inr (.inr (some (10, 0)))), none, none], [], am_mk m) _ _ 0 0
  refine am_Go.n htb 4 (S' := (4, [some (.inr (.inr (some (10, 0)))), some (.inl (-1)), some (.inl 0)], [], am_mk m)) rfl ?_
  obtain ⟨q6, h7, h⟩ := am_bd h
  refine lt_X10_orderPartAt_4 _ hd (h := h7) (hk := ?_)
  refine am_Go.n htb 1 (S' := (38, [some (.inr (.inr (some (10, 0)))), some (.inl q6), none], [.inl q6], am_mk m)) rfl ?_
  cases h
  exact am_Go.rt htb rfl
-- X10_openBracket
set_option maxRecDepth 100000 in
theorem ex_X10_openBracket (d : Nat) (hd : 4 ≤ d) (a1 : Int32) (m : am_m) (t : am_m) (h : fn_X10_openBracket a1 m = some t) : am_Ex am_cod d 219 [.inr (.inr (some (10, 0))), .inl a1] (am_mk m) (none) (am_mk t) 0 0 := by
  obtain ⟨d, rfl⟩ : ∃ e, d = e + 1 := ⟨d - 1, by omega⟩
  have htb : am_tab 219 = at_219 := rfl
  refine ⟨Nat.le_of_ble_eq_true rfl, ?_⟩
  unfold fn_X10_openBracket at h
  show am_Go d 219 (0, [some (.inr (.inr (some (10, 0)))), some (.inl a1)], [], am_mk m) _ _ 0 0
  refine am_Go.n htb 4 (S' := (7, [some (.inr (.inr (some (10, 0)))), some (.inl a1)], [.inl 8, .inl (m.1 10 0 30), .inr (.inr (some (10, 0)))], am_mk m)) rfl ?_
  refine am_Go.cut (S := (15, [some (.inr (.inr (some (10, 0)))), some (.inl a1)], [.inl (if (8 : Int32) ≤ (m.1 10 0 30) then (0 : Int32) else (1 : Int32)), .inr (.inr (some (10, 0)))], am_mk m)) ?_ (fun key => ?_)
  · obtain ⟨r2, h3, h⟩ := am_bd h
    refine am_Go.cl htb rfl (ex_X10_must d (by omega) (if (8 : Int32) ≤ (m.1 10 0 30) then (0 : Int32) else (1 : Int32)) m r2 h3) ?_
    show am_Go d 219 (18, [some (.inr (.inr (some (10, 0)))), some (.inl a1)], [], am_mk r2) _ _ _ _
    refine am_Go.n htb 2 (S' := (22, [some (.inr (.inr (some (10, 0)))), some (.inl a1)], [.inl (r2.1 10 0 19)], am_mk r2)) rfl ?_
    by_cases hc4 : (r2.1 10 0 19) ≠ 0
    · rw [if_pos hc4] at h
      refine am_Go.c1 htb (S' := (41, [some (.inr (.inr (some (10, 0)))), some (.inl a1)], [], am_mk r2)) (if_pos hc4) ?_
      cases h
      exact am_Go.rt htb rfl
    · rw [if_neg hc4] at h
      refine am_Go.c1 htb (S' := (25, [some (.inr (.inr (some (10, 0)))), some (.inl a1)], [], am_mk r2)) (if_neg hc4) ?_
      refine am_Go.n htb 9 (S' := (38, [some (.inr (.inr (some (10, 0)))), some (.inl a1)], [.inl 0, .inl a1, .inr (.inr (some (10, 0)))], am_mk (am_si r2 10 0 30 ((r2.1 10 0 30) + (1 : Int32))))) rfl ?_
      obtain ⟨r5, h6, h⟩ := am_bd h
      refine am_Go.cl htb rfl (ex_X10_push d (by omega) a1 0 (am_si r2 10 0 30 ((r2.1 10 0 30) + (1 : Int32))) r5 h6) ?_
      show am_Go d 219 (41, [some (.inr (.inr (some (10, 0)))), some (.inl a1)], [], am_mk r5) _ _ _ _
      cases h
      exact am_Go.rt htb rfl
  · by_cases hc1 : (8 : Int32) ≤ (m.1 10 0 30)
    · refine am_Go.c1 htb (S' := (14, [some (.inr (.inr (some (10, 0)))), some (.inl a1)], [.inr (.inr (some (10, 0)))], am_mk m)) (if_pos hc1) ?_
      refine am_Go.n htb 1 (S' := (15, [some (.inr (.inr (some (10, 0)))), some (.inl a1)], [.inl 0, .inr (.inr (some (10, 0)))], am_mk m)) rfl ?_
      simp only [if_pos hc1] at key
      exact am_Go.fg (by exact ⟨rfl, ⟨rfl, trivial⟩⟩) key
    · refine am_Go.c1 htb (S' := (10, [some (.inr (.inr (some (10, 0)))), some (.inl a1)], [.inr (.inr (some (10, 0)))], am_mk m)) (if_neg hc1) ?_
      refine am_Go.n htb 2 (S' := (15, [some (.inr (.inr (some (10, 0)))), some (.inl a1)], [.inl 1, .inr (.inr (some (10, 0)))], am_mk m)) rfl ?_
      simp only [if_neg hc1] at key
      exact am_Go.fg (by exact ⟨rfl, ⟨rfl, trivial⟩⟩) key
-- X10_leaf
set_option maxRecDepth 100000 in
theorem ex_X10_leaf (d : Nat) (hd : 4 ≤ d) (a1 : Int32) (a2 : Int32) (a3 : Int32) (m : am_m) (t : am_m) (h : fn_X10_leaf a1 a2 a3 m = some t) : am_Ex am_cod d 220 [.inr (.inr (some (10, 0))), .inl a1, .inl a2, .inl a3] (am_mk m) (none) (am_mk t) 0 0 := by
  obtain ⟨d, rfl⟩ : ∃ e, d = e + 1 := ⟨d - 1, by omega⟩
  have htb : am_tab 220 = at_220 := rfl
  refine ⟨Nat.le_of_ble_eq_true rfl, ?_⟩
  unfold fn_X10_leaf at h
  show am_Go d 220 (0, [some (.inr (.inr (some (10, 0)))), some (.inl a1), some (.inl a2), some (.inl a3)], [], am_mk m) _ _ 0 0
  refine am_Go.n htb 2 (S' := (2, [some (.inr (.inr (some (10, 0)))), some (.inl a1), some (.inl a2), some (.inl a3)], [.inl a1, .inr (.inr (some (10, 0)))], am_mk m)) rfl ?_
  obtain ⟨q3, h9, h⟩ := am_bd h
  refine am_Go.cut (S := (19, [some (.inr (.inr (some (10, 0)))), some (.inl a1), some (.inl a2), some (.inl a3)], [.inl q3, .inr (.inr (some (10, 0)))], am_mk m)) ?_ (fun key => ?_)
  · obtain ⟨r4, h5, h⟩ := am_bd h
    refine am_Go.cl htb rfl (ex_X10_must d (by omega) q3 m r4 h5) ?_
    show am_Go d 220 (22, [some (.inr (.inr (some (10, 0)))), some (.inl a1), some (.inl a2), some (.inl a3)], [], am_mk r4) _ _ _ _
    refine am_Go.n htb 2 (S' := (26, [some (.inr (.inr (some (10, 0)))), some (.inl a1), some (.inl a2), some (.inl a3)], [.inl (r4.1 10 0 19)], am_mk r4)) rfl ?_
    by_cases hc6 : (r4.1 10 0 19) ≠ 0
    · rw [if_pos hc6] at h
      refine am_Go.c1 htb (S' := (45, [some (.inr (.inr (some (10, 0)))), some (.inl a1), some (.inl a2), some (.inl a3)], [], am_mk r4)) (if_pos hc6) ?_
      cases h
      exact am_Go.rt htb rfl
    · rw [if_neg hc6] at h
      refine am_Go.c1 htb (S' := (29, [some (.inr (.inr (some (10, 0)))), some (.inl a1), some (.inl a2), some (.inl a3)], [], am_mk r4)) (if_neg hc6) ?_
      refine am_Go.n htb 3 (S' := (32, [some (.inr (.inr (some (10, 0)))), some (.inl a1), some (.inl a2), some (.inl a3)], [.inl a3, .inl a2, .inr (.inr (some (10, 0)))], am_mk r4)) rfl ?_
      obtain ⟨r7, h8, h⟩ := am_bd h
      refine am_Go.cl htb rfl (ex_X10_emit d (by omega) a2 a3 r4 r7 h8) ?_
      show am_Go d 220 (35, [some (.inr (.inr (some (10, 0)))), some (.inl a1), some (.inl a2), some (.inl a3)], [], am_mk r7) _ _ _ _
      refine am_Go.n htb 6 (S' := (45, [some (.inr (.inr (some (10, 0)))), some (.inl a1), some (.inl a2), some (.inl a3)], [], am_mk (am_si r7 10 0 26 ((r7.1 10 0 26) + (1 : Int32))))) rfl ?_
      cases h
      exact am_Go.rt htb rfl
  · have h := h9
    by_cases hc1 : a1 = 0
    · rw [if_pos hc1] at h
      refine am_Go.c1 htb (S' := (18, [some (.inr (.inr (some (10, 0)))), some (.inl a1), some (.inl a2), some (.inl a3)], [.inr (.inr (some (10, 0)))], am_mk m)) (if_pos hc1) ?_
      refine am_Go.n htb 1 (S' := (19, [some (.inr (.inr (some (10, 0)))), some (.inl a1), some (.inl a2), some (.inl a3)], [.inl 0, .inr (.inr (some (10, 0)))], am_mk m)) rfl ?_
      cases h
      exact am_Go.fg (by exact ⟨rfl, ⟨rfl, ⟨rfl, ⟨rfl, trivial⟩⟩⟩⟩) key
    · rw [if_neg hc1] at h
      refine am_Go.c1 htb (S' := (5, [some (.inr (.inr (some (10, 0)))), some (.inl a1), some (.inl a2), some (.inl a3)], [.inr (.inr (some (10, 0)))], am_mk m)) (if_neg hc1) ?_
      refine am_Go.n htb 3 (S' := (11, [some (.inr (.inr (some (10, 0)))), some (.inl a1), some (.inl a2), some (.inl a3)], [.inl 50, .inl (m.1 10 0 26), .inr (.inr (some (10, 0)))], am_mk m)) rfl ?_
      by_cases hc2 : (50 : Int32) ≤ (m.1 10 0 26)
      · rw [if_pos hc2] at h
        refine am_Go.c1 htb (S' := (18, [some (.inr (.inr (some (10, 0)))), some (.inl a1), some (.inl a2), some (.inl a3)], [.inr (.inr (some (10, 0)))], am_mk m)) (if_pos hc2) ?_
        refine am_Go.n htb 1 (S' := (19, [some (.inr (.inr (some (10, 0)))), some (.inl a1), some (.inl a2), some (.inl a3)], [.inl 0, .inr (.inr (some (10, 0)))], am_mk m)) rfl ?_
        cases h
        exact am_Go.fg (by exact ⟨rfl, ⟨rfl, ⟨rfl, ⟨rfl, trivial⟩⟩⟩⟩) key
      · rw [if_neg hc2] at h
        refine am_Go.c1 htb (S' := (14, [some (.inr (.inr (some (10, 0)))), some (.inl a1), some (.inl a2), some (.inl a3)], [.inr (.inr (some (10, 0)))], am_mk m)) (if_neg hc2) ?_
        refine am_Go.n htb 2 (S' := (19, [some (.inr (.inr (some (10, 0)))), some (.inl a1), some (.inl a2), some (.inl a3)], [.inl 1, .inr (.inr (some (10, 0)))], am_mk m)) rfl ?_
        cases h
        exact am_Go.fg (by exact ⟨rfl, ⟨rfl, ⟨rfl, ⟨rfl, trivial⟩⟩⟩⟩) key
-- X10_readPart
set_option maxHeartbeats 10000000 in
set_option maxRecDepth 100000 in
theorem ex_X10_readPart (d : Nat) (hd : 5 ≤ d)  (m : am_m) (t : Int32 × am_m) (h : fn_X10_readPart  m = some t) : am_Ex am_cod d 221 [.inr (.inr (some (10, 0)))] (am_mk m) (some (.inl t.1)) (am_mk t.2) 0 0 := by
  obtain ⟨d, rfl⟩ : ∃ e, d = e + 1 := ⟨d - 1, by omega⟩
  have htb : am_tab 221 = at_221 := rfl
  refine ⟨Nat.le_of_ble_eq_true rfl, ?_⟩
  unfold fn_X10_readPart at h
  show am_Go d 221 (0, [some (.inr (.inr (some (10, 0)))), none, none, none], [], am_mk m) _ _ 0 0
  refine am_Go.n htb 2 (S' := (3, [some (.inr (.inr (some (10, 0)))), none, none, none], [.inl 91, .inr (.inr (some (10, 0)))], am_mk m)) rfl ?_
  obtain ⟨r1, h2, h⟩ := am_bd h
  refine am_Go.cl htb rfl (ex_X10_isSign d (by omega) 91 m r1 h2) ?_
  show am_Go d 221 (6, [some (.inr (.inr (some (10, 0)))), none, none, none], [.inl r1], am_mk m) _ _ _ _
  by_cases hc3 : r1 = 0
  · rw [if_pos hc3] at h
    refine am_Go.c1 htb (S' := (17, [some (.inr (.inr (some (10, 0)))), none, none, none], [], am_mk m)) (if_pos hc3) ?_
    refine am_Go.n htb 2 (S' := (21, [some (.inr (.inr (some (10, 0)))), none, none, none], [.inl (m.1 10 0 20)], am_mk m)) rfl ?_
    obtain ⟨q9, h28, h⟩ := am_bd h
    refine am_Go.cut (S := (35, [some (.inr (.inr (some (10, 0)))), none, none, none], [.inl q9], am_mk m)) ?_ (fun key => ?_)
    · refine am_Go.n htb 4 (S' := (41, [some (.inr (.inr (some (10, 0)))), some (.inl q9), none, none], [.inl 2, .inl (m.1 10 0 16)], am_mk m)) rfl ?_
      obtain ⟨q12, h27, h⟩ := am_bd h
      refine am_Go.cut (S := (60, [some (.inr (.inr (some (10, 0)))), some (.inl q9), none, none], [.inl q12], am_mk m)) ?_ (fun key => ?_)
      · refine am_Go.n htb 4 (S' := (64, [some (.inr (.inr (some (10, 0)))), some (.inl q9), some (.inl q12), none], [.inl (-1), .inl q9, .inr (.inr (some (10, 0)))], am_mk m)) rfl ?_
        obtain ⟨q15, h26, h⟩ := am_bd h
        refine am_Go.cut (S := (76, [some (.inr (.inr (some (10, 0)))), some (.inl q9), some (.inl q12), none], [.inl q15, .inr (.inr (some (10, 0)))], am_mk m)) ?_ (fun key => ?_)
        · refine am_Go.n htb 2 (S' := (78, [some (.inr (.inr (some (10, 0)))), some (.inl q9), some (.inl q12), none], [.inl (-1), .inl q9, .inl q15, .inr (.inr (some (10, 0)))], am_mk m)) rfl ?_
          refine am_Go.cut (S := (86, [some (.inr (.inr (some (10, 0)))), some (.inl q9), some (.inl q12), none], [.inl (if q9 ≠ (-1 : Int32) then q9 else (0 : Int32)), .inl q15, .inr (.inr (some (10, 0)))], am_mk m)) ?_ (fun key => ?_)
          · refine am_Go.n htb 1 (S' := (87, [some (.inr (.inr (some (10, 0)))), some (.inl q9), some (.inl q12), none], [.inl q12, .inl (if q9 ≠ (-1 : Int32) then q9 else (0 : Int32)), .inl q15, .inr (.inr (some (10, 0)))], am_mk m)) rfl ?_
            refine am_Go.cut (S := (99, [some (.inr (.inr (some (10, 0)))), some (.inl q9), some (.inl q12), none], [.inl (if q12 = 0 then (0 : Int32) else ((m.2.1 10 0 17).toInt32)), .inl (if q9 ≠ (-1 : Int32) then q9 else (0 : Int32)), .inl q15, .inr (.inr (some (10, 0)))], am_mk m)) ?_ (fun key => ?_)
            · obtain ⟨r18, h19, h⟩ := am_bd h
              refine am_Go.cl htb rfl (ex_X10_leaf d (by omega) q15 (if q9 ≠ (-1 : Int32) then q9 else (0 : Int32)) (if q12 = 0 then (0 : Int32) else ((m.2.1 10 0 17).toInt32)) m r18 h19) ?_
              show am_Go d 221 (102, [some (.inr (.inr (some (10, 0)))), some (.inl q9), some (.inl q12), none], [], am_mk r18) _ _ _ _
              refine am_Go.n htb 2 (S' := (106, [some (.inr (.inr (some (10, 0)))), some (.inl q9), some (.inl q12), none], [.inl (r18.1 10 0 20)], am_mk r18)) rfl ?_
              by_cases hc20 : (r18.1 10 0 20) = 0
              · rw [if_pos hc20] at h
                refine am_Go.c1 htb (S' := (143, [some (.inr (.inr (some (10, 0)))), some (.inl q9), some (.inl q12), none], [], am_mk r18)) (if_pos hc20) ?_
                refine am_Go.n htb 1 (S' := (144, [some (.inr (.inr (some (10, 0)))), some (.inl q9), some (.inl q12), none], [.inl 3], am_mk r18)) rfl ?_
                cases h
                exact am_Go.rt htb rfl
              · rw [if_neg hc20] at h
                refine am_Go.c1 htb (S' := (109, [some (.inr (.inr (some (10, 0)))), some (.inl q9), some (.inl q12), none], [], am_mk r18)) (if_neg hc20) ?_
                refine am_Go.n htb 2 (S' := (112, [some (.inr (.inr (some (10, 0)))), some (.inl q9), some (.inl q12), none], [.inl 6, .inl q9], am_mk r18)) rfl ?_
                by_cases hc21 : q9 < (6 : Int32)
                · rw [if_pos hc21] at h
                  refine am_Go.c1 htb (S' := (143, [some (.inr (.inr (some (10, 0)))), some (.inl q9), some (.inl q12), none], [], am_mk r18)) (if_pos hc21) ?_
                  refine am_Go.n htb 1 (S' := (144, [some (.inr (.inr (some (10, 0)))), some (.inl q9), some (.inl q12), none], [.inl 3], am_mk r18)) rfl ?_
                  cases h
                  exact am_Go.rt htb rfl
                · rw [if_neg hc21] at h
                  refine am_Go.c1 htb (S' := (115, [some (.inr (.inr (some (10, 0)))), some (.inl q9), some (.inl q12), none], [], am_mk r18)) (if_neg hc21) ?_
                  refine am_Go.n htb 2 (S' := (119, [some (.inr (.inr (some (10, 0)))), some (.inl q9), some (.inl q12), none], [.inl (r18.1 10 0 19)], am_mk r18)) rfl ?_
                  by_cases hc22 : (r18.1 10 0 19) ≠ 0
                  · rw [if_pos hc22] at h
                    refine am_Go.c1 htb (S' := (143, [some (.inr (.inr (some (10, 0)))), some (.inl q9), some (.inl q12), none], [], am_mk r18)) (if_pos hc22) ?_
                    refine am_Go.n htb 1 (S' := (144, [some (.inr (.inr (some (10, 0)))), some (.inl q9), some (.inl q12), none], [.inl 3], am_mk r18)) rfl ?_
                    cases h
                    exact am_Go.rt htb rfl
                  · rw [if_neg hc22] at h
                    refine am_Go.c1 htb (S' := (122, [some (.inr (.inr (some (10, 0)))), some (.inl q9), some (.inl q12), none], [], am_mk r18)) (if_neg hc22) ?_
                    refine am_Go.n htb 11 (S' := (139, [some (.inr (.inr (some (10, 0)))), some (.inl q9), some (.inl q12), some (.inl ((r18.1 10 0 23) - (1 : Int32)))], [.inr (.inl 6), .inr (.inl 0), .inr (.inr (some (10, 0))), .inl ((r18.1 10 0 23) - (1 : Int32)), .inr (.inr (some (53, 0)))], am_mk r18)) rfl ?_
                    obtain ⟨r23, h24, h⟩ := am_bd h
                    refine am_Go.cl htb rfl (ex_X10_number d (by omega) 0 6 r18 r23 h24) ?_
                    show am_Go d 221 (142, [some (.inr (.inr (some (10, 0)))), some (.inl q9), some (.inl q12), some (.inl ((r18.1 10 0 23) - (1 : Int32)))], [.inl r23.1, .inl ((r18.1 10 0 23) - (1 : Int32)), .inr (.inr (some (53, 0)))], am_mk r23.2) _ _ _ _
                    obtain ⟨hg25, h⟩ := am_ck_some h
                    refine am_Go.c1 htb (S' := (143, [some (.inr (.inr (some (10, 0)))), some (.inl q9), some (.inl q12), some (.inl ((r18.1 10 0 23) - (1 : Int32)))], [], am_mk (am_si r23.2 53 0 ((r18.1 10 0 23) - (1 : Int32)).toNatClampNeg r23.1))) (if_neg hg25) ?_
                    refine am_Go.n htb 1 (S' := (144, [some (.inr (.inr (some (10, 0)))), some (.inl q9), some (.inl q12), some (.inl ((r18.1 10 0 23) - (1 : Int32)))], [.inl 3], am_mk (am_si r23.2 53 0 ((r18.1 10 0 23) - (1 : Int32)).toNatClampNeg r23.1))) rfl ?_
                    cases h
                    exact am_Go.rt htb rfl
            · by_cases hc17 : q12 = 0
              · refine am_Go.c1 htb (S' := (98, [some (.inr (.inr (some (10, 0)))), some (.inl q9), some (.inl q12), none], [.inl (if q9 ≠ (-1 : Int32) then q9 else (0 : Int32)), .inl q15, .inr (.inr (some (10, 0)))], am_mk m)) (if_pos hc17) ?_
                refine am_Go.n htb 1 (S' := (99, [some (.inr (.inr (some (10, 0)))), some (.inl q9), some (.inl q12), none], [.inl 0, .inl (if q9 ≠ (-1 : Int32) then q9 else (0 : Int32)), .inl q15, .inr (.inr (some (10, 0)))], am_mk m)) rfl ?_
                simp only [if_pos hc17] at key
                exact am_Go.fg (by exact ⟨rfl, ⟨rfl, ⟨rfl, trivial⟩⟩⟩) key
              · refine am_Go.c1 htb (S' := (90, [some (.inr (.inr (some (10, 0)))), some (.inl q9), some (.inl q12), none], [.inl (if q9 ≠ (-1 : Int32) then q9 else (0 : Int32)), .inl q15, .inr (.inr (some (10, 0)))], am_mk m)) (if_neg hc17) ?_
                refine am_Go.n htb 4 (S' := (99, [some (.inr (.inr (some (10, 0)))), some (.inl q9), some (.inl q12), none], [.inl ((m.2.1 10 0 17).toInt32), .inl (if q9 ≠ (-1 : Int32) then q9 else (0 : Int32)), .inl q15, .inr (.inr (some (10, 0)))], am_mk m)) rfl ?_
                simp only [if_neg hc17] at key
                exact am_Go.fg (by exact ⟨rfl, ⟨rfl, ⟨rfl, trivial⟩⟩⟩) key
          · by_cases hc16 : q9 ≠ (-1 : Int32)
            · refine am_Go.c1 htb (S' := (85, [some (.inr (.inr (some (10, 0)))), some (.inl q9), some (.inl q12), none], [.inl q15, .inr (.inr (some (10, 0)))], am_mk m)) (if_pos hc16) ?_
              refine am_Go.n htb 1 (S' := (86, [some (.inr (.inr (some (10, 0)))), some (.inl q9), some (.inl q12), none], [.inl q9, .inl q15, .inr (.inr (some (10, 0)))], am_mk m)) rfl ?_
              simp only [if_pos hc16] at key
              exact am_Go.fg (by exact ⟨rfl, ⟨rfl, ⟨rfl, trivial⟩⟩⟩) key
            · refine am_Go.c1 htb (S' := (81, [some (.inr (.inr (some (10, 0)))), some (.inl q9), some (.inl q12), none], [.inl q15, .inr (.inr (some (10, 0)))], am_mk m)) (if_neg hc16) ?_
              refine am_Go.n htb 2 (S' := (86, [some (.inr (.inr (some (10, 0)))), some (.inl q9), some (.inl q12), none], [.inl 0, .inl q15, .inr (.inr (some (10, 0)))], am_mk m)) rfl ?_
              simp only [if_neg hc16] at key
              exact am_Go.fg (by exact ⟨rfl, ⟨rfl, ⟨rfl, trivial⟩⟩⟩) key
        · have h := h26
          by_cases hc13 : q9 ≠ (-1 : Int32)
          · rw [if_pos hc13] at h
            refine am_Go.c1 htb (S' := (71, [some (.inr (.inr (some (10, 0)))), some (.inl q9), some (.inl q12), none], [.inr (.inr (some (10, 0)))], am_mk m)) (if_pos hc13) ?_
            refine am_Go.n htb 2 (S' := (76, [some (.inr (.inr (some (10, 0)))), some (.inl q9), some (.inl q12), none], [.inl 1, .inr (.inr (some (10, 0)))], am_mk m)) rfl ?_
            cases h
            exact am_Go.fg (by exact ⟨rfl, ⟨rfl, ⟨rfl, trivial⟩⟩⟩) key
          · rw [if_neg hc13] at h
            refine am_Go.c1 htb (S' := (67, [some (.inr (.inr (some (10, 0)))), some (.inl q9), some (.inl q12), none], [.inr (.inr (some (10, 0)))], am_mk m)) (if_neg hc13) ?_
            refine am_Go.n htb 1 (S' := (68, [some (.inr (.inr (some (10, 0)))), some (.inl q9), some (.inl q12), none], [.inl q12, .inr (.inr (some (10, 0)))], am_mk m)) rfl ?_
            by_cases hc14 : q12 = 0
            · rw [if_pos hc14] at h
              refine am_Go.c1 htb (S' := (75, [some (.inr (.inr (some (10, 0)))), some (.inl q9), some (.inl q12), none], [.inr (.inr (some (10, 0)))], am_mk m)) (if_pos hc14) ?_
              refine am_Go.n htb 1 (S' := (76, [some (.inr (.inr (some (10, 0)))), some (.inl q9), some (.inl q12), none], [.inl 0, .inr (.inr (some (10, 0)))], am_mk m)) rfl ?_
              cases h
              exact am_Go.fg (by exact ⟨rfl, ⟨rfl, ⟨rfl, trivial⟩⟩⟩) key
            · rw [if_neg hc14] at h
              refine am_Go.c1 htb (S' := (71, [some (.inr (.inr (some (10, 0)))), some (.inl q9), some (.inl q12), none], [.inr (.inr (some (10, 0)))], am_mk m)) (if_neg hc14) ?_
              refine am_Go.n htb 2 (S' := (76, [some (.inr (.inr (some (10, 0)))), some (.inl q9), some (.inl q12), none], [.inl 1, .inr (.inr (some (10, 0)))], am_mk m)) rfl ?_
              cases h
              exact am_Go.fg (by exact ⟨rfl, ⟨rfl, ⟨rfl, trivial⟩⟩⟩) key
      · have h := h27
        by_cases hc10 : (m.1 10 0 16) ≠ (2 : Int32)
        · rw [if_pos hc10] at h
          refine am_Go.c1 htb (S' := (59, [some (.inr (.inr (some (10, 0)))), some (.inl q9), none, none], [], am_mk m)) (if_pos hc10) ?_
          refine am_Go.n htb 1 (S' := (60, [some (.inr (.inr (some (10, 0)))), some (.inl q9), none, none], [.inl 0], am_mk m)) rfl ?_
          cases h
          exact am_Go.fg (by exact ⟨rfl, ⟨rfl, trivial⟩⟩) key
        · rw [if_neg hc10] at h
          refine am_Go.c1 htb (S' := (44, [some (.inr (.inr (some (10, 0)))), some (.inl q9), none, none], [], am_mk m)) (if_neg hc10) ?_
          refine am_Go.n htb 4 (S' := (52, [some (.inr (.inr (some (10, 0)))), some (.inl q9), none, none], [.inl (lg_cmp (m.2.1 10 0 17) (1000 : Int64))], am_mk m)) rfl ?_
          by_cases hc11 : 0 < (lg_cmp (m.2.1 10 0 17) (1000 : Int64))
          · rw [if_pos hc11] at h
            refine am_Go.c1 htb (S' := (59, [some (.inr (.inr (some (10, 0)))), some (.inl q9), none, none], [], am_mk m)) (if_pos hc11) ?_
            refine am_Go.n htb 1 (S' := (60, [some (.inr (.inr (some (10, 0)))), some (.inl q9), none, none], [.inl 0], am_mk m)) rfl ?_
            cases h
            exact am_Go.fg (by exact ⟨rfl, ⟨rfl, trivial⟩⟩) key
          · rw [if_neg hc11] at h
            refine am_Go.c1 htb (S' := (55, [some (.inr (.inr (some (10, 0)))), some (.inl q9), none, none], [], am_mk m)) (if_neg hc11) ?_
            refine am_Go.n htb 2 (S' := (60, [some (.inr (.inr (some (10, 0)))), some (.inl q9), none, none], [.inl 1], am_mk m)) rfl ?_
            cases h
            exact am_Go.fg (by exact ⟨rfl, ⟨rfl, trivial⟩⟩) key
    · have h := h28
      by_cases hc4 : (m.1 10 0 20) = 0
      · rw [if_pos hc4] at h
        refine am_Go.c1 htb (S' := (31, [some (.inr (.inr (some (10, 0)))), none, none, none], [], am_mk m)) (if_pos hc4) ?_
        refine am_Go.n htb 1 (S' := (32, [some (.inr (.inr (some (10, 0)))), none, none, none], [.inr (.inr (some (10, 0)))], am_mk m)) rfl ?_
        obtain ⟨r5, h6, h⟩ := am_bd h
        refine am_Go.cl htb rfl (ex_X10_partAt d (by omega)  m r5 h6) ?_
        show am_Go d 221 (35, [some (.inr (.inr (some (10, 0)))), none, none, none], [.inl r5], am_mk m) _ _ _ _
        cases h
        exact am_Go.fg (by exact ⟨rfl, trivial⟩) key
      · rw [if_neg hc4] at h
        refine am_Go.c1 htb (S' := (24, [some (.inr (.inr (some (10, 0)))), none, none, none], [], am_mk m)) (if_neg hc4) ?_
        refine am_Go.n htb 1 (S' := (25, [some (.inr (.inr (some (10, 0)))), none, none, none], [.inr (.inr (some (10, 0)))], am_mk m)) rfl ?_
        obtain ⟨r7, h8, h⟩ := am_bd h
        refine am_Go.cl htb rfl (ex_X10_orderPartAt d (by omega)  m r7 h8) ?_
        show am_Go d 221 (28, [some (.inr (.inr (some (10, 0)))), none, none, none], [.inl r7], am_mk m) _ _ _ _
        refine am_Go.n htb 1 (S' := (35, [some (.inr (.inr (some (10, 0)))), none, none, none], [.inl r7], am_mk m)) rfl ?_
        cases h
        exact am_Go.fg (by exact ⟨rfl, trivial⟩) key
  · rw [if_neg hc3] at h
    refine am_Go.c1 htb (S' := (9, [some (.inr (.inr (some (10, 0)))), none, none, none], [], am_mk m)) (if_neg hc3) ?_
    refine am_Go.n htb 2 (S' := (12, [some (.inr (.inr (some (10, 0)))), none, none, none], [.inl 32, .inr (.inr (some (10, 0)))], am_mk m)) rfl ?_
    obtain ⟨r29, h30, h⟩ := am_bd h
    refine am_Go.cl htb rfl (ex_X10_openBracket d (by omega) 32 m r29 h30) ?_
    show am_Go d 221 (15, [some (.inr (.inr (some (10, 0)))), none, none, none], [], am_mk r29) _ _ _ _
    refine am_Go.n htb 1 (S' := (16, [some (.inr (.inr (some (10, 0)))), none, none, none], [.inl 1], am_mk r29)) rfl ?_
    cases h
    exact am_Go.rt htb rfl
-- X10_readPlain
set_option maxRecDepth 100000 in
theorem ex_X10_readPlain (d : Nat) (hd : 6 ≤ d)  (m : am_m) (t : Int32 × am_m) (h : fn_X10_readPlain  m = some t) : am_Ex am_cod d 222 [.inr (.inr (some (10, 0)))] (am_mk m) (some (.inl t.1)) (am_mk t.2) 0 0 := by
  obtain ⟨d, rfl⟩ : ∃ e, d = e + 1 := ⟨d - 1, by omega⟩
  have htb : am_tab 222 = at_222 := rfl
  refine ⟨Nat.le_of_ble_eq_true rfl, ?_⟩
  unfold fn_X10_readPlain at h
  show am_Go d 222 (0, [some (.inr (.inr (some (10, 0))))], [], am_mk m) _ _ 0 0
  refine am_Go.n htb 2 (S' := (4, [some (.inr (.inr (some (10, 0))))], [.inr (.inl 14836), .inr (.inr (some (10, 0)))], am_mk m)) rfl ?_
  obtain ⟨r1, h2, h⟩ := am_bd h
  refine am_Go.cl htb rfl (ex_X10_isWord d (by omega) 14836 m r1 h2) ?_
  show am_Go d 222 (7, [some (.inr (.inr (some (10, 0))))], [.inl r1], am_mk m) _ _ _ _
  by_cases hc3 : r1 = 0
  · rw [if_pos hc3] at h
    refine am_Go.c1 htb (S' := (23, [some (.inr (.inr (some (10, 0))))], [], am_mk m)) (if_pos hc3) ?_
    refine am_Go.n htb 2 (S' := (26, [some (.inr (.inr (some (10, 0))))], [.inl 40, .inr (.inr (some (10, 0)))], am_mk m)) rfl ?_
    obtain ⟨r4, h5, h⟩ := am_bd h
    refine am_Go.cl htb rfl (ex_X10_isSign d (by omega) 40 m r4 h5) ?_
    show am_Go d 222 (29, [some (.inr (.inr (some (10, 0))))], [.inl r4], am_mk m) _ _ _ _
    by_cases hc6 : r4 = 0
    · rw [if_pos hc6] at h
      refine am_Go.c1 htb (S' := (40, [some (.inr (.inr (some (10, 0))))], [], am_mk m)) (if_pos hc6) ?_
      refine am_Go.n htb 1 (S' := (41, [some (.inr (.inr (some (10, 0))))], [.inr (.inr (some (10, 0)))], am_mk m)) rfl ?_
      obtain ⟨r7, h8, h⟩ := am_bd h
      refine am_Go.cl htb rfl (ex_X10_readPart d (by omega)  m r7 h8) ?_
      show am_Go d 222 (44, [some (.inr (.inr (some (10, 0))))], [.inl r7.1], am_mk r7.2) _ _ _ _
      cases h
      exact am_Go.rt htb rfl
    · rw [if_neg hc6] at h
      refine am_Go.c1 htb (S' := (32, [some (.inr (.inr (some (10, 0))))], [], am_mk m)) (if_neg hc6) ?_
      refine am_Go.n htb 2 (S' := (35, [some (.inr (.inr (some (10, 0))))], [.inl 31, .inr (.inr (some (10, 0)))], am_mk m)) rfl ?_
      obtain ⟨r9, h10, h⟩ := am_bd h
      refine am_Go.cl htb rfl (ex_X10_openBracket d (by omega) 31 m r9 h10) ?_
      show am_Go d 222 (38, [some (.inr (.inr (some (10, 0))))], [], am_mk r9) _ _ _ _
      refine am_Go.n htb 1 (S' := (39, [some (.inr (.inr (some (10, 0))))], [.inl 0], am_mk r9)) rfl ?_
      cases h
      exact am_Go.rt htb rfl
  · rw [if_neg hc3] at h
    refine am_Go.c1 htb (S' := (10, [some (.inr (.inr (some (10, 0))))], [], am_mk m)) (if_neg hc3) ?_
    refine am_Go.n htb 3 (S' := (14, [some (.inr (.inr (some (10, 0))))], [.inl 0, .inl 28, .inr (.inr (some (10, 0)))], am_mk m)) rfl ?_
    obtain ⟨r11, h12, h⟩ := am_bd h
    refine am_Go.cl htb rfl (ex_X10_push d (by omega) 28 0 m r11 h12) ?_
    show am_Go d 222 (17, [some (.inr (.inr (some (10, 0))))], [], am_mk r11) _ _ _ _
    refine am_Go.n htb 1 (S' := (18, [some (.inr (.inr (some (10, 0))))], [.inr (.inr (some (10, 0)))], am_mk r11)) rfl ?_
    obtain ⟨r13, h14, h⟩ := am_bd h
    refine am_Go.cl htb rfl (ex_X10_next d (by omega)  r11 r13 h14) ?_
    show am_Go d 222 (21, [some (.inr (.inr (some (10, 0))))], [], am_mk r13) _ _ _ _
    refine am_Go.n htb 1 (S' := (22, [some (.inr (.inr (some (10, 0))))], [.inl 0], am_mk r13)) rfl ?_
    cases h
    exact am_Go.rt htb rfl
-- X10_behindSum
set_option maxHeartbeats 10000000 in
set_option maxRecDepth 100000 in
theorem ex_X10_behindSum (d : Nat) (hd : 4 ≤ d) (a1 : Int32) (m : am_m) (t : Int32 × am_m) (h : fn_X10_behindSum a1 m = some t) : am_Ex am_cod d 223 [.inr (.inr (some (10, 0))), .inl a1] (am_mk m) (some (.inl t.1)) (am_mk t.2) 0 0 := by
  obtain ⟨d, rfl⟩ : ∃ e, d = e + 1 := ⟨d - 1, by omega⟩
  have htb : am_tab 223 = at_223 := rfl
  refine ⟨Nat.le_of_ble_eq_true rfl, ?_⟩
  unfold fn_X10_behindSum at h
  show am_Go d 223 (0, [some (.inr (.inr (some (10, 0)))), some (.inl a1), none, none], [], am_mk m) _ _ 0 0
  refine am_Go.n htb 2 (S' := (3, [some (.inr (.inr (some (10, 0)))), some (.inl a1), none, none], [.inl 43, .inr (.inr (some (10, 0)))], am_mk m)) rfl ?_
  obtain ⟨r1, h2, h⟩ := am_bd h
  refine am_Go.cl htb rfl (ex_X10_isSign d (by omega) 43 m r1 h2) ?_
  show am_Go d 223 (6, [some (.inr (.inr (some (10, 0)))), some (.inl a1), none, none], [.inl r1], am_mk m) _ _ _ _
  obtain ⟨q16, h86, h⟩ := am_bd h
  refine am_Go.cut (S := (71, [some (.inr (.inr (some (10, 0)))), some (.inl a1), none, none], [.inl q16], am_mk m)) ?_ (fun key => ?_)
  · refine am_Go.n htb 3 (S' := (74, [some (.inr (.inr (some (10, 0)))), some (.inl a1), some (.inl q16), none], [.inl (-1), .inl q16], am_mk m)) rfl ?_
    by_cases hc17 : q16 = (-1 : Int32)
    · rw [if_pos hc17] at h
      refine am_Go.c1 htb (S' := (97, [some (.inr (.inr (some (10, 0)))), some (.inl a1), some (.inl q16), none], [], am_mk m)) (if_pos hc17) ?_
      refine am_Go.n htb 1 (S' := (98, [some (.inr (.inr (some (10, 0)))), some (.inl a1), some (.inl q16), none], [.inr (.inr (some (10, 0)))], am_mk m)) rfl ?_
      obtain ⟨r18, h19, h⟩ := am_bd h
      refine am_Go.cl htb rfl (ex_X10_inner d (by omega)  m r18 h19) ?_
      show am_Go d 223 (101, [some (.inr (.inr (some (10, 0)))), some (.inl a1), some (.inl q16), none], [.inl r18], am_mk m) _ _ _ _
      refine am_Go.n htb 3 (S' := (105, [some (.inr (.inr (some (10, 0)))), some (.inl a1), some (.inl q16), some (.inl r18)], [.inl 32, .inl r18], am_mk m)) rfl ?_
      by_cases hc20 : r18 ≠ (32 : Int32)
      · rw [if_pos hc20] at h
        refine am_Go.c1 htb (S' := (152, [some (.inr (.inr (some (10, 0)))), some (.inl a1), some (.inl q16), some (.inl r18)], [], am_mk m)) (if_pos hc20) ?_
        refine am_Go.n htb 2 (S' := (154, [some (.inr (.inr (some (10, 0)))), some (.inl a1), some (.inl q16), some (.inl r18)], [.inl (-1), .inl r18], am_mk m)) rfl ?_
        by_cases hc21 : r18 ≠ (-1 : Int32)
        · rw [if_pos hc21] at h
          refine am_Go.c1 htb (S' := (163, [some (.inr (.inr (some (10, 0)))), some (.inl a1), some (.inl q16), some (.inl r18)], [], am_mk m)) (if_pos hc21) ?_
          refine am_Go.n htb 1 (S' := (164, [some (.inr (.inr (some (10, 0)))), some (.inl a1), some (.inl q16), some (.inl r18)], [.inr (.inr (some (10, 0)))], am_mk m)) rfl ?_
          obtain ⟨r22, h23, h⟩ := am_bd h
          refine am_Go.cl htb rfl (ex_X10_isCompared d (by omega)  m r22 h23) ?_
          show am_Go d 223 (167, [some (.inr (.inr (some (10, 0)))), some (.inl a1), some (.inl q16), some (.inl r18)], [.inl r22], am_mk m) _ _ _ _
          by_cases hc24 : r22 = 0
          · rw [if_pos hc24] at h
            refine am_Go.c1 htb (S' := (172, [some (.inr (.inr (some (10, 0)))), some (.inl a1), some (.inl q16), some (.inl r18)], [], am_mk m)) (if_pos hc24) ?_
            refine am_Go.n htb 2 (S' := (175, [some (.inr (.inr (some (10, 0)))), some (.inl a1), some (.inl q16), some (.inl r18)], [.inl 60, .inr (.inr (some (10, 0)))], am_mk m)) rfl ?_
            obtain ⟨r25, h26, h⟩ := am_bd h
            refine am_Go.cl htb rfl (ex_X10_isSign d (by omega) 60 m r25 h26) ?_
            show am_Go d 223 (178, [some (.inr (.inr (some (10, 0)))), some (.inl a1), some (.inl q16), some (.inl r18)], [.inl r25], am_mk m) _ _ _ _
            obtain ⟨q31, h45, h⟩ := am_bd h
            refine am_Go.cut (S := (202, [some (.inr (.inr (some (10, 0)))), some (.inl a1), some (.inl q16), some (.inl r18)], [.inl q31], am_mk m)) ?_ (fun key => ?_)
            · refine am_Go.n htb 4 (S' := (207, [some (.inr (.inr (some (10, 0)))), some (.inl a1), some (.inl q31), some (.inl r18)], [.inl 27, .inl q31, .inr (.inr (some (10, 0)))], am_mk m)) rfl ?_
              obtain ⟨q36, h44, h⟩ := am_bd h
              refine am_Go.cut (S := (224, [some (.inr (.inr (some (10, 0)))), some (.inl a1), some (.inl q31), some (.inl r18)], [.inl q36, .inr (.inr (some (10, 0)))], am_mk m)) ?_ (fun key => ?_)
              · obtain ⟨r37, h38, h⟩ := am_bd h
                refine am_Go.cl htb rfl (ex_X10_must d (by omega) q36 m r37 h38) ?_
                show am_Go d 223 (227, [some (.inr (.inr (some (10, 0)))), some (.inl a1), some (.inl q31), some (.inl r18)], [], am_mk r37) _ _ _ _
                refine am_Go.n htb 2 (S' := (231, [some (.inr (.inr (some (10, 0)))), some (.inl a1), some (.inl q31), some (.inl r18)], [.inl (r37.1 10 0 19)], am_mk r37)) rfl ?_
                by_cases hc39 : (r37.1 10 0 19) ≠ 0
                · rw [if_pos hc39] at h
                  refine am_Go.c1 htb (S' := (245, [some (.inr (.inr (some (10, 0)))), some (.inl a1), some (.inl q31), some (.inl r18)], [], am_mk r37)) (if_pos hc39) ?_
                  refine am_Go.n htb 1 (S' := (246, [some (.inr (.inr (some (10, 0)))), some (.inl a1), some (.inl q31), some (.inl r18)], [.inl 1], am_mk r37)) rfl ?_
                  cases h
                  exact am_Go.rt htb rfl
                · rw [if_neg hc39] at h
                  refine am_Go.c1 htb (S' := (234, [some (.inr (.inr (some (10, 0)))), some (.inl a1), some (.inl q31), some (.inl r18)], [], am_mk r37)) (if_neg hc39) ?_
                  refine am_Go.n htb 2 (S' := (236, [some (.inr (.inr (some (10, 0)))), some (.inl a1), some (.inl q31), some (.inl r18)], [.inl 5, .inr (.inr (some (10, 0)))], am_mk r37)) rfl ?_
                  obtain ⟨r40, h41, h⟩ := am_bd h
                  refine am_Go.cl htb rfl (ex_X10_settle d (by omega) 5 r37 r40 h41) ?_
                  show am_Go d 223 (239, [some (.inr (.inr (some (10, 0)))), some (.inl a1), some (.inl q31), some (.inl r18)], [], am_mk r40) _ _ _ _
                  refine am_Go.n htb 3 (S' := (242, [some (.inr (.inr (some (10, 0)))), some (.inl a1), some (.inl q31), some (.inl r18)], [.inl 0, .inl q31, .inr (.inr (some (10, 0)))], am_mk r40)) rfl ?_
                  obtain ⟨r42, h43, h⟩ := am_bd h
                  refine am_Go.cl htb rfl (ex_X10_push d (by omega) q31 0 r40 r42 h43) ?_
                  show am_Go d 223 (245, [some (.inr (.inr (some (10, 0)))), some (.inl a1), some (.inl q31), some (.inl r18)], [], am_mk r42) _ _ _ _
                  refine am_Go.n htb 1 (S' := (246, [some (.inr (.inr (some (10, 0)))), some (.inl a1), some (.inl q31), some (.inl r18)], [.inl 1], am_mk r42)) rfl ?_
                  cases h
                  exact am_Go.rt htb rfl
              · have h := h44
                by_cases hc32 : q31 ≠ (27 : Int32)
                · rw [if_pos hc32] at h
                  refine am_Go.c1 htb (S' := (219, [some (.inr (.inr (some (10, 0)))), some (.inl a1), some (.inl q31), some (.inl r18)], [.inr (.inr (some (10, 0)))], am_mk m)) (if_pos hc32) ?_
                  refine am_Go.n htb 2 (S' := (224, [some (.inr (.inr (some (10, 0)))), some (.inl a1), some (.inl q31), some (.inl r18)], [.inl 1, .inr (.inr (some (10, 0)))], am_mk m)) rfl ?_
                  cases h
                  exact am_Go.fg (by exact ⟨rfl, ⟨rfl, ⟨rfl, ⟨rfl, trivial⟩⟩⟩⟩) key
                · rw [if_neg hc32] at h
                  refine am_Go.c1 htb (S' := (210, [some (.inr (.inr (some (10, 0)))), some (.inl a1), some (.inl q31), some (.inl r18)], [.inr (.inr (some (10, 0)))], am_mk m)) (if_neg hc32) ?_
                  refine am_Go.n htb 2 (S' := (213, [some (.inr (.inr (some (10, 0)))), some (.inl a1), some (.inl q31), some (.inl r18)], [.inl 61, .inr (.inr (some (10, 0))), .inr (.inr (some (10, 0)))], am_mk m)) rfl ?_
                  obtain ⟨r33, h34, h⟩ := am_bd h
                  refine am_Go.cl htb rfl (ex_X10_isSign d (by omega) 61 m r33 h34) ?_
                  show am_Go d 223 (216, [some (.inr (.inr (some (10, 0)))), some (.inl a1), some (.inl q31), some (.inl r18)], [.inl r33, .inr (.inr (some (10, 0)))], am_mk m) _ _ _ _
                  by_cases hc35 : r33 = 0
                  · rw [if_pos hc35] at h
                    refine am_Go.c1 htb (S' := (223, [some (.inr (.inr (some (10, 0)))), some (.inl a1), some (.inl q31), some (.inl r18)], [.inr (.inr (some (10, 0)))], am_mk m)) (if_pos hc35) ?_
                    refine am_Go.n htb 1 (S' := (224, [some (.inr (.inr (some (10, 0)))), some (.inl a1), some (.inl q31), some (.inl r18)], [.inl 0, .inr (.inr (some (10, 0)))], am_mk m)) rfl ?_
                    cases h
                    exact am_Go.fg (by exact ⟨rfl, ⟨rfl, ⟨rfl, ⟨rfl, trivial⟩⟩⟩⟩) key
                  · rw [if_neg hc35] at h
                    refine am_Go.c1 htb (S' := (219, [some (.inr (.inr (some (10, 0)))), some (.inl a1), some (.inl q31), some (.inl r18)], [.inr (.inr (some (10, 0)))], am_mk m)) (if_neg hc35) ?_
                    refine am_Go.n htb 2 (S' := (224, [some (.inr (.inr (some (10, 0)))), some (.inl a1), some (.inl q31), some (.inl r18)], [.inl 1, .inr (.inr (some (10, 0)))], am_mk m)) rfl ?_
                    cases h
                    exact am_Go.fg (by exact ⟨rfl, ⟨rfl, ⟨rfl, ⟨rfl, trivial⟩⟩⟩⟩) key
            · have h := h45
              by_cases hc27 : r25 = 0
              · rw [if_pos hc27] at h
                refine am_Go.c1 htb (S' := (186, [some (.inr (.inr (some (10, 0)))), some (.inl a1), some (.inl q16), some (.inl r18)], [], am_mk m)) (if_pos hc27) ?_
                refine am_Go.n htb 2 (S' := (189, [some (.inr (.inr (some (10, 0)))), some (.inl a1), some (.inl q16), some (.inl r18)], [.inl 62, .inr (.inr (some (10, 0)))], am_mk m)) rfl ?_
                obtain ⟨r28, h29, h⟩ := am_bd h
                refine am_Go.cl htb rfl (ex_X10_isSign d (by omega) 62 m r28 h29) ?_
                show am_Go d 223 (192, [some (.inr (.inr (some (10, 0)))), some (.inl a1), some (.inl q16), some (.inl r18)], [.inl r28], am_mk m) _ _ _ _
                by_cases hc30 : r28 = 0
                · rw [if_pos hc30] at h
                  refine am_Go.c1 htb (S' := (200, [some (.inr (.inr (some (10, 0)))), some (.inl a1), some (.inl q16), some (.inl r18)], [], am_mk m)) (if_pos hc30) ?_
                  refine am_Go.n htb 1 (S' := (202, [some (.inr (.inr (some (10, 0)))), some (.inl a1), some (.inl q16), some (.inl r18)], [.inl 27], am_mk m)) rfl ?_
                  cases h
                  exact am_Go.fg (by exact ⟨rfl, ⟨rfl, ⟨rfl, ⟨rfl, trivial⟩⟩⟩⟩) key
                · rw [if_neg hc30] at h
                  refine am_Go.c1 htb (S' := (195, [some (.inr (.inr (some (10, 0)))), some (.inl a1), some (.inl q16), some (.inl r18)], [], am_mk m)) (if_neg hc30) ?_
                  refine am_Go.n htb 2 (S' := (202, [some (.inr (.inr (some (10, 0)))), some (.inl a1), some (.inl q16), some (.inl r18)], [.inl 26], am_mk m)) rfl ?_
                  cases h
                  exact am_Go.fg (by exact ⟨rfl, ⟨rfl, ⟨rfl, ⟨rfl, trivial⟩⟩⟩⟩) key
              · rw [if_neg hc27] at h
                refine am_Go.c1 htb (S' := (181, [some (.inr (.inr (some (10, 0)))), some (.inl a1), some (.inl q16), some (.inl r18)], [], am_mk m)) (if_neg hc27) ?_
                refine am_Go.n htb 2 (S' := (202, [some (.inr (.inr (some (10, 0)))), some (.inl a1), some (.inl q16), some (.inl r18)], [.inl 25], am_mk m)) rfl ?_
                cases h
                exact am_Go.fg (by exact ⟨rfl, ⟨rfl, ⟨rfl, ⟨rfl, trivial⟩⟩⟩⟩) key
          · rw [if_neg hc24] at h
            refine am_Go.c1 htb (S' := (170, [some (.inr (.inr (some (10, 0)))), some (.inl a1), some (.inl q16), some (.inl r18)], [], am_mk m)) (if_neg hc24) ?_
            refine am_Go.n htb 1 (S' := (171, [some (.inr (.inr (some (10, 0)))), some (.inl a1), some (.inl q16), some (.inl r18)], [.inl 2], am_mk m)) rfl ?_
            cases h
            exact am_Go.rt htb rfl
        · rw [if_neg hc21] at h
          refine am_Go.c1 htb (S' := (157, [some (.inr (.inr (some (10, 0)))), some (.inl a1), some (.inl q16), some (.inl r18)], [], am_mk m)) (if_neg hc21) ?_
          refine am_Go.n htb 1 (S' := (158, [some (.inr (.inr (some (10, 0)))), some (.inl a1), some (.inl q16), some (.inl r18)], [.inl a1], am_mk m)) rfl ?_
          by_cases hc46 : a1 ≠ 0
          · rw [if_pos hc46] at h
            refine am_Go.c1 htb (S' := (163, [some (.inr (.inr (some (10, 0)))), some (.inl a1), some (.inl q16), some (.inl r18)], [], am_mk m)) (if_pos hc46) ?_
            refine am_Go.n htb 1 (S' := (164, [some (.inr (.inr (some (10, 0)))), some (.inl a1), some (.inl q16), some (.inl r18)], [.inr (.inr (some (10, 0)))], am_mk m)) rfl ?_
            obtain ⟨r47, h48, h⟩ := am_bd h
            refine am_Go.cl htb rfl (ex_X10_isCompared d (by omega)  m r47 h48) ?_
            show am_Go d 223 (167, [some (.inr (.inr (some (10, 0)))), some (.inl a1), some (.inl q16), some (.inl r18)], [.inl r47], am_mk m) _ _ _ _
            by_cases hc49 : r47 = 0
            · rw [if_pos hc49] at h
              refine am_Go.c1 htb (S' := (172, [some (.inr (.inr (some (10, 0)))), some (.inl a1), some (.inl q16), some (.inl r18)], [], am_mk m)) (if_pos hc49) ?_
              refine am_Go.n htb 2 (S' := (175, [some (.inr (.inr (some (10, 0)))), some (.inl a1), some (.inl q16), some (.inl r18)], [.inl 60, .inr (.inr (some (10, 0)))], am_mk m)) rfl ?_
              obtain ⟨r50, h51, h⟩ := am_bd h
              refine am_Go.cl htb rfl (ex_X10_isSign d (by omega) 60 m r50 h51) ?_
              show am_Go d 223 (178, [some (.inr (.inr (some (10, 0)))), some (.inl a1), some (.inl q16), some (.inl r18)], [.inl r50], am_mk m) _ _ _ _
              obtain ⟨q56, h70, h⟩ := am_bd h
              refine am_Go.cut (S := (202, [some (.inr (.inr (some (10, 0)))), some (.inl a1), some (.inl q16), some (.inl r18)], [.inl q56], am_mk m)) ?_ (fun key => ?_)
              · refine am_Go.n htb 4 (S' := (207, [some (.inr (.inr (some (10, 0)))), some (.inl a1), some (.inl q56), some (.inl r18)], [.inl 27, .inl q56, .inr (.inr (some (10, 0)))], am_mk m)) rfl ?_
                obtain ⟨q61, h69, h⟩ := am_bd h
                refine am_Go.cut (S := (224, [some (.inr (.inr (some (10, 0)))), some (.inl a1), some (.inl q56), some (.inl r18)], [.inl q61, .inr (.inr (some (10, 0)))], am_mk m)) ?_ (fun key => ?_)
                · obtain ⟨r62, h63, h⟩ := am_bd h
                  refine am_Go.cl htb rfl (ex_X10_must d (by omega) q61 m r62 h63) ?_
                  show am_Go d 223 (227, [some (.inr (.inr (some (10, 0)))), some (.inl a1), some (.inl q56), some (.inl r18)], [], am_mk r62) _ _ _ _
                  refine am_Go.n htb 2 (S' := (231, [some (.inr (.inr (some (10, 0)))), some (.inl a1), some (.inl q56), some (.inl r18)], [.inl (r62.1 10 0 19)], am_mk r62)) rfl ?_
                  by_cases hc64 : (r62.1 10 0 19) ≠ 0
                  · rw [if_pos hc64] at h
                    refine am_Go.c1 htb (S' := (245, [some (.inr (.inr (some (10, 0)))), some (.inl a1), some (.inl q56), some (.inl r18)], [], am_mk r62)) (if_pos hc64) ?_
                    refine am_Go.n htb 1 (S' := (246, [some (.inr (.inr (some (10, 0)))), some (.inl a1), some (.inl q56), some (.inl r18)], [.inl 1], am_mk r62)) rfl ?_
                    cases h
                    exact am_Go.rt htb rfl
                  · rw [if_neg hc64] at h
                    refine am_Go.c1 htb (S' := (234, [some (.inr (.inr (some (10, 0)))), some (.inl a1), some (.inl q56), some (.inl r18)], [], am_mk r62)) (if_neg hc64) ?_
                    refine am_Go.n htb 2 (S' := (236, [some (.inr (.inr (some (10, 0)))), some (.inl a1), some (.inl q56), some (.inl r18)], [.inl 5, .inr (.inr (some (10, 0)))], am_mk r62)) rfl ?_
                    obtain ⟨r65, h66, h⟩ := am_bd h
                    refine am_Go.cl htb rfl (ex_X10_settle d (by omega) 5 r62 r65 h66) ?_
                    show am_Go d 223 (239, [some (.inr (.inr (some (10, 0)))), some (.inl a1), some (.inl q56), some (.inl r18)], [], am_mk r65) _ _ _ _
                    refine am_Go.n htb 3 (S' := (242, [some (.inr (.inr (some (10, 0)))), some (.inl a1), some (.inl q56), some (.inl r18)], [.inl 0, .inl q56, .inr (.inr (some (10, 0)))], am_mk r65)) rfl ?_
                    obtain ⟨r67, h68, h⟩ := am_bd h
                    refine am_Go.cl htb rfl (ex_X10_push d (by omega) q56 0 r65 r67 h68) ?_
                    show am_Go d 223 (245, [some (.inr (.inr (some (10, 0)))), some (.inl a1), some (.inl q56), some (.inl r18)], [], am_mk r67) _ _ _ _
                    refine am_Go.n htb 1 (S' := (246, [some (.inr (.inr (some (10, 0)))), some (.inl a1), some (.inl q56), some (.inl r18)], [.inl 1], am_mk r67)) rfl ?_
                    cases h
                    exact am_Go.rt htb rfl
                · have h := h69
                  by_cases hc57 : q56 ≠ (27 : Int32)
                  · rw [if_pos hc57] at h
                    refine am_Go.c1 htb (S' := (219, [some (.inr (.inr (some (10, 0)))), some (.inl a1), some (.inl q56), some (.inl r18)], [.inr (.inr (some (10, 0)))], am_mk m)) (if_pos hc57) ?_
                    refine am_Go.n htb 2 (S' := (224, [some (.inr (.inr (some (10, 0)))), some (.inl a1), some (.inl q56), some (.inl r18)], [.inl 1, .inr (.inr (some (10, 0)))], am_mk m)) rfl ?_
                    cases h
                    exact am_Go.fg (by exact ⟨rfl, ⟨rfl, ⟨rfl, ⟨rfl, trivial⟩⟩⟩⟩) key
                  · rw [if_neg hc57] at h
                    refine am_Go.c1 htb (S' := (210, [some (.inr (.inr (some (10, 0)))), some (.inl a1), some (.inl q56), some (.inl r18)], [.inr (.inr (some (10, 0)))], am_mk m)) (if_neg hc57) ?_
                    refine am_Go.n htb 2 (S' := (213, [some (.inr (.inr (some (10, 0)))), some (.inl a1), some (.inl q56), some (.inl r18)], [.inl 61, .inr (.inr (some (10, 0))), .inr (.inr (some (10, 0)))], am_mk m)) rfl ?_
                    obtain ⟨r58, h59, h⟩ := am_bd h
                    refine am_Go.cl htb rfl (ex_X10_isSign d (by omega) 61 m r58 h59) ?_
                    show am_Go d 223 (216, [some (.inr (.inr (some (10, 0)))), some (.inl a1), some (.inl q56), some (.inl r18)], [.inl r58, .inr (.inr (some (10, 0)))], am_mk m) _ _ _ _
                    by_cases hc60 : r58 = 0
                    · rw [if_pos hc60] at h
                      refine am_Go.c1 htb (S' := (223, [some (.inr (.inr (some (10, 0)))), some (.inl a1), some (.inl q56), some (.inl r18)], [.inr (.inr (some (10, 0)))], am_mk m)) (if_pos hc60) ?_
                      refine am_Go.n htb 1 (S' := (224, [some (.inr (.inr (some (10, 0)))), some (.inl a1), some (.inl q56), some (.inl r18)], [.inl 0, .inr (.inr (some (10, 0)))], am_mk m)) rfl ?_
                      cases h
                      exact am_Go.fg (by exact ⟨rfl, ⟨rfl, ⟨rfl, ⟨rfl, trivial⟩⟩⟩⟩) key
                    · rw [if_neg hc60] at h
                      refine am_Go.c1 htb (S' := (219, [some (.inr (.inr (some (10, 0)))), some (.inl a1), some (.inl q56), some (.inl r18)], [.inr (.inr (some (10, 0)))], am_mk m)) (if_neg hc60) ?_
                      refine am_Go.n htb 2 (S' := (224, [some (.inr (.inr (some (10, 0)))), some (.inl a1), some (.inl q56), some (.inl r18)], [.inl 1, .inr (.inr (some (10, 0)))], am_mk m)) rfl ?_
                      cases h
                      exact am_Go.fg (by exact ⟨rfl, ⟨rfl, ⟨rfl, ⟨rfl, trivial⟩⟩⟩⟩) key
              · have h := h70
                by_cases hc52 : r50 = 0
                · rw [if_pos hc52] at h
                  refine am_Go.c1 htb (S' := (186, [some (.inr (.inr (some (10, 0)))), some (.inl a1), some (.inl q16), some (.inl r18)], [], am_mk m)) (if_pos hc52) ?_
                  refine am_Go.n htb 2 (S' := (189, [some (.inr (.inr (some (10, 0)))), some (.inl a1), some (.inl q16), some (.inl r18)], [.inl 62, .inr (.inr (some (10, 0)))], am_mk m)) rfl ?_
                  obtain ⟨r53, h54, h⟩ := am_bd h
                  refine am_Go.cl htb rfl (ex_X10_isSign d (by omega) 62 m r53 h54) ?_
                  show am_Go d 223 (192, [some (.inr (.inr (some (10, 0)))), some (.inl a1), some (.inl q16), some (.inl r18)], [.inl r53], am_mk m) _ _ _ _
                  by_cases hc55 : r53 = 0
                  · rw [if_pos hc55] at h
                    refine am_Go.c1 htb (S' := (200, [some (.inr (.inr (some (10, 0)))), some (.inl a1), some (.inl q16), some (.inl r18)], [], am_mk m)) (if_pos hc55) ?_
                    refine am_Go.n htb 1 (S' := (202, [some (.inr (.inr (some (10, 0)))), some (.inl a1), some (.inl q16), some (.inl r18)], [.inl 27], am_mk m)) rfl ?_
                    cases h
                    exact am_Go.fg (by exact ⟨rfl, ⟨rfl, ⟨rfl, ⟨rfl, trivial⟩⟩⟩⟩) key
                  · rw [if_neg hc55] at h
                    refine am_Go.c1 htb (S' := (195, [some (.inr (.inr (some (10, 0)))), some (.inl a1), some (.inl q16), some (.inl r18)], [], am_mk m)) (if_neg hc55) ?_
                    refine am_Go.n htb 2 (S' := (202, [some (.inr (.inr (some (10, 0)))), some (.inl a1), some (.inl q16), some (.inl r18)], [.inl 26], am_mk m)) rfl ?_
                    cases h
                    exact am_Go.fg (by exact ⟨rfl, ⟨rfl, ⟨rfl, ⟨rfl, trivial⟩⟩⟩⟩) key
                · rw [if_neg hc52] at h
                  refine am_Go.c1 htb (S' := (181, [some (.inr (.inr (some (10, 0)))), some (.inl a1), some (.inl q16), some (.inl r18)], [], am_mk m)) (if_neg hc52) ?_
                  refine am_Go.n htb 2 (S' := (202, [some (.inr (.inr (some (10, 0)))), some (.inl a1), some (.inl q16), some (.inl r18)], [.inl 25], am_mk m)) rfl ?_
                  cases h
                  exact am_Go.fg (by exact ⟨rfl, ⟨rfl, ⟨rfl, ⟨rfl, trivial⟩⟩⟩⟩) key
            · rw [if_neg hc49] at h
              refine am_Go.c1 htb (S' := (170, [some (.inr (.inr (some (10, 0)))), some (.inl a1), some (.inl q16), some (.inl r18)], [], am_mk m)) (if_neg hc49) ?_
              refine am_Go.n htb 1 (S' := (171, [some (.inr (.inr (some (10, 0)))), some (.inl a1), some (.inl q16), some (.inl r18)], [.inl 2], am_mk m)) rfl ?_
              cases h
              exact am_Go.rt htb rfl
          · rw [if_neg hc46] at h
            refine am_Go.c1 htb (S' := (161, [some (.inr (.inr (some (10, 0)))), some (.inl a1), some (.inl q16), some (.inl r18)], [], am_mk m)) (if_neg hc46) ?_
            refine am_Go.n htb 1 (S' := (162, [some (.inr (.inr (some (10, 0)))), some (.inl a1), some (.inl q16), some (.inl r18)], [.inl 4], am_mk m)) rfl ?_
            cases h
            exact am_Go.rt htb rfl
      · rw [if_neg hc20] at h
        refine am_Go.c1 htb (S' := (108, [some (.inr (.inr (some (10, 0)))), some (.inl a1), some (.inl q16), some (.inl r18)], [], am_mk m)) (if_neg hc20) ?_
        refine am_Go.n htb 3 (S' := (112, [some (.inr (.inr (some (10, 0)))), some (.inl a1), some (.inl q16), some (.inl r18)], [.inl 93, .inr (.inr (some (10, 0))), .inr (.inr (some (10, 0)))], am_mk m)) rfl ?_
        obtain ⟨r71, h72, h⟩ := am_bd h
        refine am_Go.cl htb rfl (ex_X10_isSign d (by omega) 93 m r71 h72) ?_
        show am_Go d 223 (115, [some (.inr (.inr (some (10, 0)))), some (.inl a1), some (.inl q16), some (.inl r18)], [.inl r71, .inr (.inr (some (10, 0)))], am_mk m) _ _ _ _
        obtain ⟨r73, h74, h⟩ := am_bd h
        refine am_Go.cl htb rfl (ex_X10_must d (by omega) r71 m r73 h74) ?_
        show am_Go d 223 (118, [some (.inr (.inr (some (10, 0)))), some (.inl a1), some (.inl q16), some (.inl r18)], [], am_mk r73) _ _ _ _
        refine am_Go.n htb 2 (S' := (122, [some (.inr (.inr (some (10, 0)))), some (.inl a1), some (.inl q16), some (.inl r18)], [.inl (r73.1 10 0 19)], am_mk r73)) rfl ?_
        by_cases hc75 : (r73.1 10 0 19) ≠ 0
        · rw [if_pos hc75] at h
          refine am_Go.c1 htb (S' := (150, [some (.inr (.inr (some (10, 0)))), some (.inl a1), some (.inl q16), some (.inl r18)], [], am_mk r73)) (if_pos hc75) ?_
          refine am_Go.n htb 1 (S' := (151, [some (.inr (.inr (some (10, 0)))), some (.inl a1), some (.inl q16), some (.inl r18)], [.inl 3], am_mk r73)) rfl ?_
          cases h
          exact am_Go.rt htb rfl
        · rw [if_neg hc75] at h
          refine am_Go.c1 htb (S' := (125, [some (.inr (.inr (some (10, 0)))), some (.inl a1), some (.inl q16), some (.inl r18)], [], am_mk r73)) (if_neg hc75) ?_
          refine am_Go.n htb 2 (S' := (127, [some (.inr (.inr (some (10, 0)))), some (.inl a1), some (.inl q16), some (.inl r18)], [.inl 5, .inr (.inr (some (10, 0)))], am_mk r73)) rfl ?_
          obtain ⟨r76, h77, h⟩ := am_bd h
          refine am_Go.cl htb rfl (ex_X10_settle d (by omega) 5 r73 r76 h77) ?_
          show am_Go d 223 (130, [some (.inr (.inr (some (10, 0)))), some (.inl a1), some (.inl q16), some (.inl r18)], [], am_mk r76) _ _ _ _
          refine am_Go.n htb 13 (S' := (151, [some (.inr (.inr (some (10, 0)))), some (.inl a1), some (.inl q16), some (.inl r18)], [.inl 3], am_mk (am_si (am_si r76 10 0 29 ((r76.1 10 0 29) - (1 : Int32))) 10 0 30 ((r76.1 10 0 30) - (1 : Int32))))) rfl ?_
          cases h
          exact am_Go.rt htb rfl
    · rw [if_neg hc17] at h
      refine am_Go.c1 htb (S' := (77, [some (.inr (.inr (some (10, 0)))), some (.inl a1), some (.inl q16), none], [], am_mk m)) (if_neg hc17) ?_
      refine am_Go.n htb 2 (S' := (79, [some (.inr (.inr (some (10, 0)))), some (.inl a1), some (.inl q16), none], [.inl q16, .inr (.inr (some (10, 0)))], am_mk m)) rfl ?_
      obtain ⟨r78, h79, h⟩ := am_bd h
      refine am_Go.cl htb rfl (ex_X10_binds d (by omega) q16 m r78 h79) ?_
      show am_Go d 223 (82, [some (.inr (.inr (some (10, 0)))), some (.inl a1), some (.inl q16), none], [.inl r78, .inr (.inr (some (10, 0)))], am_mk m) _ _ _ _
      obtain ⟨r80, h81, h⟩ := am_bd h
      refine am_Go.cl htb rfl (ex_X10_settle d (by omega) r78 m r80 h81) ?_
      show am_Go d 223 (85, [some (.inr (.inr (some (10, 0)))), some (.inl a1), some (.inl q16), none], [], am_mk r80) _ _ _ _
      refine am_Go.n htb 3 (S' := (88, [some (.inr (.inr (some (10, 0)))), some (.inl a1), some (.inl q16), none], [.inl 0, .inl q16, .inr (.inr (some (10, 0)))], am_mk r80)) rfl ?_
      obtain ⟨r82, h83, h⟩ := am_bd h
      refine am_Go.cl htb rfl (ex_X10_push d (by omega) q16 0 r80 r82 h83) ?_
      show am_Go d 223 (91, [some (.inr (.inr (some (10, 0)))), some (.inl a1), some (.inl q16), none], [], am_mk r82) _ _ _ _
      refine am_Go.n htb 1 (S' := (92, [some (.inr (.inr (some (10, 0)))), some (.inl a1), some (.inl q16), none], [.inr (.inr (some (10, 0)))], am_mk r82)) rfl ?_
      obtain ⟨r84, h85, h⟩ := am_bd h
      refine am_Go.cl htb rfl (ex_X10_next d (by omega)  r82 r84 h85) ?_
      show am_Go d 223 (95, [some (.inr (.inr (some (10, 0)))), some (.inl a1), some (.inl q16), none], [], am_mk r84) _ _ _ _
      refine am_Go.n htb 1 (S' := (96, [some (.inr (.inr (some (10, 0)))), some (.inl a1), some (.inl q16), none], [.inl 1], am_mk r84)) rfl ?_
      cases h
      exact am_Go.rt htb rfl
  · have h := h86
    by_cases hc3 : r1 = 0
    · rw [if_pos hc3] at h
      refine am_Go.c1 htb (S' := (14, [some (.inr (.inr (some (10, 0)))), some (.inl a1), none, none], [], am_mk m)) (if_pos hc3) ?_
      refine am_Go.n htb 2 (S' := (17, [some (.inr (.inr (some (10, 0)))), some (.inl a1), none, none], [.inl 45, .inr (.inr (some (10, 0)))], am_mk m)) rfl ?_
      obtain ⟨r4, h5, h⟩ := am_bd h
      refine am_Go.cl htb rfl (ex_X10_isSign d (by omega) 45 m r4 h5) ?_
      show am_Go d 223 (20, [some (.inr (.inr (some (10, 0)))), some (.inl a1), none, none], [.inl r4], am_mk m) _ _ _ _
      by_cases hc6 : r4 = 0
      · rw [if_pos hc6] at h
        refine am_Go.c1 htb (S' := (28, [some (.inr (.inr (some (10, 0)))), some (.inl a1), none, none], [], am_mk m)) (if_pos hc6) ?_
        refine am_Go.n htb 2 (S' := (31, [some (.inr (.inr (some (10, 0)))), some (.inl a1), none, none], [.inl 42, .inr (.inr (some (10, 0)))], am_mk m)) rfl ?_
        obtain ⟨r7, h8, h⟩ := am_bd h
        refine am_Go.cl htb rfl (ex_X10_isSign d (by omega) 42 m r7 h8) ?_
        show am_Go d 223 (34, [some (.inr (.inr (some (10, 0)))), some (.inl a1), none, none], [.inl r7], am_mk m) _ _ _ _
        by_cases hc9 : r7 = 0
        · rw [if_pos hc9] at h
          refine am_Go.c1 htb (S' := (42, [some (.inr (.inr (some (10, 0)))), some (.inl a1), none, none], [], am_mk m)) (if_pos hc9) ?_
          refine am_Go.n htb 2 (S' := (45, [some (.inr (.inr (some (10, 0)))), some (.inl a1), none, none], [.inl 47, .inr (.inr (some (10, 0)))], am_mk m)) rfl ?_
          obtain ⟨r10, h11, h⟩ := am_bd h
          refine am_Go.cl htb rfl (ex_X10_isSign d (by omega) 47 m r10 h11) ?_
          show am_Go d 223 (48, [some (.inr (.inr (some (10, 0)))), some (.inl a1), none, none], [.inl r10], am_mk m) _ _ _ _
          by_cases hc12 : r10 = 0
          · rw [if_pos hc12] at h
            refine am_Go.c1 htb (S' := (56, [some (.inr (.inr (some (10, 0)))), some (.inl a1), none, none], [], am_mk m)) (if_pos hc12) ?_
            refine am_Go.n htb 2 (S' := (59, [some (.inr (.inr (some (10, 0)))), some (.inl a1), none, none], [.inl 37, .inr (.inr (some (10, 0)))], am_mk m)) rfl ?_
            obtain ⟨r13, h14, h⟩ := am_bd h
            refine am_Go.cl htb rfl (ex_X10_isSign d (by omega) 37 m r13 h14) ?_
            show am_Go d 223 (62, [some (.inr (.inr (some (10, 0)))), some (.inl a1), none, none], [.inl r13], am_mk m) _ _ _ _
            by_cases hc15 : r13 = 0
            · rw [if_pos hc15] at h
              refine am_Go.c1 htb (S' := (70, [some (.inr (.inr (some (10, 0)))), some (.inl a1), none, none], [], am_mk m)) (if_pos hc15) ?_
              refine am_Go.n htb 1 (S' := (71, [some (.inr (.inr (some (10, 0)))), some (.inl a1), none, none], [.inl (-1)], am_mk m)) rfl ?_
              cases h
              exact am_Go.fg (by exact ⟨rfl, ⟨rfl, trivial⟩⟩) key
            · rw [if_neg hc15] at h
              refine am_Go.c1 htb (S' := (65, [some (.inr (.inr (some (10, 0)))), some (.inl a1), none, none], [], am_mk m)) (if_neg hc15) ?_
              refine am_Go.n htb 2 (S' := (71, [some (.inr (.inr (some (10, 0)))), some (.inl a1), none, none], [.inl 24], am_mk m)) rfl ?_
              cases h
              exact am_Go.fg (by exact ⟨rfl, ⟨rfl, trivial⟩⟩) key
          · rw [if_neg hc12] at h
            refine am_Go.c1 htb (S' := (51, [some (.inr (.inr (some (10, 0)))), some (.inl a1), none, none], [], am_mk m)) (if_neg hc12) ?_
            refine am_Go.n htb 2 (S' := (71, [some (.inr (.inr (some (10, 0)))), some (.inl a1), none, none], [.inl 23], am_mk m)) rfl ?_
            cases h
            exact am_Go.fg (by exact ⟨rfl, ⟨rfl, trivial⟩⟩) key
        · rw [if_neg hc9] at h
          refine am_Go.c1 htb (S' := (37, [some (.inr (.inr (some (10, 0)))), some (.inl a1), none, none], [], am_mk m)) (if_neg hc9) ?_
          refine am_Go.n htb 2 (S' := (71, [some (.inr (.inr (some (10, 0)))), some (.inl a1), none, none], [.inl 22], am_mk m)) rfl ?_
          cases h
          exact am_Go.fg (by exact ⟨rfl, ⟨rfl, trivial⟩⟩) key
      · rw [if_neg hc6] at h
        refine am_Go.c1 htb (S' := (23, [some (.inr (.inr (some (10, 0)))), some (.inl a1), none, none], [], am_mk m)) (if_neg hc6) ?_
        refine am_Go.n htb 2 (S' := (71, [some (.inr (.inr (some (10, 0)))), some (.inl a1), none, none], [.inl 21], am_mk m)) rfl ?_
        cases h
        exact am_Go.fg (by exact ⟨rfl, ⟨rfl, trivial⟩⟩) key
    · rw [if_neg hc3] at h
      refine am_Go.c1 htb (S' := (9, [some (.inr (.inr (some (10, 0)))), some (.inl a1), none, none], [], am_mk m)) (if_neg hc3) ?_
      refine am_Go.n htb 2 (S' := (71, [some (.inr (.inr (some (10, 0)))), some (.inl a1), none, none], [.inl 20], am_mk m)) rfl ?_
      cases h
      exact am_Go.fg (by exact ⟨rfl, ⟨rfl, trivial⟩⟩) key
-- X10_behindTest
set_option maxHeartbeats 10000000 in
set_option maxRecDepth 100000 in
theorem ex_X10_behindTest (d : Nat) (hd : 4 ≤ d)  (m : am_m) (t : Int32 × am_m) (h : fn_X10_behindTest  m = some t) : am_Ex am_cod d 224 [.inr (.inr (some (10, 0)))] (am_mk m) (some (.inl t.1)) (am_mk t.2) 0 0 := by
  obtain ⟨d, rfl⟩ : ∃ e, d = e + 1 := ⟨d - 1, by omega⟩
  have htb : am_tab 224 = at_224 := rfl
  refine ⟨Nat.le_of_ble_eq_true rfl, ?_⟩
  unfold fn_X10_behindTest at h
  show am_Go d 224 (0, [some (.inr (.inr (some (10, 0)))), none], [], am_mk m) _ _ 0 0
  refine am_Go.n htb 2 (S' := (4, [some (.inr (.inr (some (10, 0)))), none], [.inr (.inl 1476), .inr (.inr (some (10, 0)))], am_mk m)) rfl ?_
  obtain ⟨r1, h2, h⟩ := am_bd h
  refine am_Go.cl htb rfl (ex_X10_isWord d (by omega) 1476 m r1 h2) ?_
  show am_Go d 224 (7, [some (.inr (.inr (some (10, 0)))), none], [.inl r1], am_mk m) _ _ _ _
  refine am_Go.n htb 2 (S' := (9, [some (.inr (.inr (some (10, 0)))), some (.inl r1)], [.inl r1], am_mk m)) rfl ?_
  by_cases hc3 : r1 ≠ 0
  · rw [if_pos hc3] at h
    refine am_Go.c1 htb (S' := (22, [some (.inr (.inr (some (10, 0)))), some (.inl r1)], [], am_mk m)) (if_pos hc3) ?_
    refine am_Go.n htb 2 (S' := (24, [some (.inr (.inr (some (10, 0)))), some (.inl r1)], [.inl r1, .inr (.inr (some (10, 0)))], am_mk m)) rfl ?_
    refine am_Go.cut (S := (32, [some (.inr (.inr (some (10, 0)))), some (.inl r1)], [.inl (if r1 = 0 then (1 : Int32) else (2 : Int32)), .inr (.inr (some (10, 0)))], am_mk m)) ?_ (fun key => ?_)
    · obtain ⟨r5, h6, h⟩ := am_bd h
      refine am_Go.cl htb rfl (ex_X10_settle d (by omega) (if r1 = 0 then (1 : Int32) else (2 : Int32)) m r5 h6) ?_
      show am_Go d 224 (35, [some (.inr (.inr (some (10, 0)))), some (.inl r1)], [], am_mk r5) _ _ _ _
      refine am_Go.n htb 2 (S' := (37, [some (.inr (.inr (some (10, 0)))), some (.inl r1)], [.inl r1, .inr (.inr (some (10, 0)))], am_mk r5)) rfl ?_
      refine am_Go.cut (S := (47, [some (.inr (.inr (some (10, 0)))), some (.inl r1)], [.inl (if r1 = 0 then (30 : Int32) else (29 : Int32)), .inr (.inr (some (10, 0)))], am_mk r5)) ?_ (fun key => ?_)
      · refine am_Go.n htb 2 (S' := (51, [some (.inr (.inr (some (10, 0)))), some (.inl r1)], [.inl (r5.1 10 0 23), .inl (if r1 = 0 then (30 : Int32) else (29 : Int32)), .inr (.inr (some (10, 0)))], am_mk r5)) rfl ?_
        obtain ⟨r8, h9, h⟩ := am_bd h
        refine am_Go.cl htb rfl (ex_X10_push d (by omega) (if r1 = 0 then (30 : Int32) else (29 : Int32)) (r5.1 10 0 23) r5 r8 h9) ?_
        show am_Go d 224 (54, [some (.inr (.inr (some (10, 0)))), some (.inl r1)], [], am_mk r8) _ _ _ _
        refine am_Go.n htb 2 (S' := (56, [some (.inr (.inr (some (10, 0)))), some (.inl r1)], [.inl r1, .inr (.inr (some (10, 0)))], am_mk r8)) rfl ?_
        refine am_Go.cut (S := (66, [some (.inr (.inr (some (10, 0)))), some (.inl r1)], [.inl (if r1 = 0 then (30 : Int32) else (29 : Int32)), .inr (.inr (some (10, 0)))], am_mk r8)) ?_ (fun key => ?_)
        · refine am_Go.n htb 1 (S' := (67, [some (.inr (.inr (some (10, 0)))), some (.inl r1)], [.inl 0, .inl (if r1 = 0 then (30 : Int32) else (29 : Int32)), .inr (.inr (some (10, 0)))], am_mk r8)) rfl ?_
          obtain ⟨r11, h12, h⟩ := am_bd h
          refine am_Go.cl htb rfl (ex_X10_emit d (by omega) (if r1 = 0 then (30 : Int32) else (29 : Int32)) 0 r8 r11 h12) ?_
          show am_Go d 224 (70, [some (.inr (.inr (some (10, 0)))), some (.inl r1)], [], am_mk r11) _ _ _ _
          refine am_Go.n htb 1 (S' := (71, [some (.inr (.inr (some (10, 0)))), some (.inl r1)], [.inr (.inr (some (10, 0)))], am_mk r11)) rfl ?_
          obtain ⟨r13, h14, h⟩ := am_bd h
          refine am_Go.cl htb rfl (ex_X10_next d (by omega)  r11 r13 h14) ?_
          show am_Go d 224 (74, [some (.inr (.inr (some (10, 0)))), some (.inl r1)], [], am_mk r13) _ _ _ _
          refine am_Go.n htb 1 (S' := (75, [some (.inr (.inr (some (10, 0)))), some (.inl r1)], [.inl 0], am_mk r13)) rfl ?_
          cases h
          exact am_Go.rt htb rfl
        · by_cases hc10 : r1 = 0
          · refine am_Go.c1 htb (S' := (64, [some (.inr (.inr (some (10, 0)))), some (.inl r1)], [.inr (.inr (some (10, 0)))], am_mk r8)) (if_pos hc10) ?_
            refine am_Go.n htb 1 (S' := (66, [some (.inr (.inr (some (10, 0)))), some (.inl r1)], [.inl 30, .inr (.inr (some (10, 0)))], am_mk r8)) rfl ?_
            simp only [if_pos hc10] at key
            exact am_Go.fg (by exact ⟨rfl, ⟨rfl, trivial⟩⟩) key
          · refine am_Go.c1 htb (S' := (59, [some (.inr (.inr (some (10, 0)))), some (.inl r1)], [.inr (.inr (some (10, 0)))], am_mk r8)) (if_neg hc10) ?_
            refine am_Go.n htb 2 (S' := (66, [some (.inr (.inr (some (10, 0)))), some (.inl r1)], [.inl 29, .inr (.inr (some (10, 0)))], am_mk r8)) rfl ?_
            simp only [if_neg hc10] at key
            exact am_Go.fg (by exact ⟨rfl, ⟨rfl, trivial⟩⟩) key
      · by_cases hc7 : r1 = 0
        · refine am_Go.c1 htb (S' := (45, [some (.inr (.inr (some (10, 0)))), some (.inl r1)], [.inr (.inr (some (10, 0)))], am_mk r5)) (if_pos hc7) ?_
          refine am_Go.n htb 1 (S' := (47, [some (.inr (.inr (some (10, 0)))), some (.inl r1)], [.inl 30, .inr (.inr (some (10, 0)))], am_mk r5)) rfl ?_
          simp only [if_pos hc7] at key
          exact am_Go.fg (by exact ⟨rfl, ⟨rfl, trivial⟩⟩) key
        · refine am_Go.c1 htb (S' := (40, [some (.inr (.inr (some (10, 0)))), some (.inl r1)], [.inr (.inr (some (10, 0)))], am_mk r5)) (if_neg hc7) ?_
          refine am_Go.n htb 2 (S' := (47, [some (.inr (.inr (some (10, 0)))), some (.inl r1)], [.inl 29, .inr (.inr (some (10, 0)))], am_mk r5)) rfl ?_
          simp only [if_neg hc7] at key
          exact am_Go.fg (by exact ⟨rfl, ⟨rfl, trivial⟩⟩) key
    · by_cases hc4 : r1 = 0
      · refine am_Go.c1 htb (S' := (31, [some (.inr (.inr (some (10, 0)))), some (.inl r1)], [.inr (.inr (some (10, 0)))], am_mk m)) (if_pos hc4) ?_
        refine am_Go.n htb 1 (S' := (32, [some (.inr (.inr (some (10, 0)))), some (.inl r1)], [.inl 1, .inr (.inr (some (10, 0)))], am_mk m)) rfl ?_
        simp only [if_pos hc4] at key
        exact am_Go.fg (by exact ⟨rfl, ⟨rfl, trivial⟩⟩) key
      · refine am_Go.c1 htb (S' := (27, [some (.inr (.inr (some (10, 0)))), some (.inl r1)], [.inr (.inr (some (10, 0)))], am_mk m)) (if_neg hc4) ?_
        refine am_Go.n htb 2 (S' := (32, [some (.inr (.inr (some (10, 0)))), some (.inl r1)], [.inl 2, .inr (.inr (some (10, 0)))], am_mk m)) rfl ?_
        simp only [if_neg hc4] at key
        exact am_Go.fg (by exact ⟨rfl, ⟨rfl, trivial⟩⟩) key
  · rw [if_neg hc3] at h
    refine am_Go.c1 htb (S' := (12, [some (.inr (.inr (some (10, 0)))), some (.inl r1)], [], am_mk m)) (if_neg hc3) ?_
    refine am_Go.n htb 2 (S' := (16, [some (.inr (.inr (some (10, 0)))), some (.inl r1)], [.inr (.inl 498), .inr (.inr (some (10, 0)))], am_mk m)) rfl ?_
    obtain ⟨r15, h16, h⟩ := am_bd h
    refine am_Go.cl htb rfl (ex_X10_isWord d (by omega) 498 m r15 h16) ?_
    show am_Go d 224 (19, [some (.inr (.inr (some (10, 0)))), some (.inl r1)], [.inl r15], am_mk m) _ _ _ _
    by_cases hc17 : r15 = 0
    · rw [if_pos hc17] at h
      refine am_Go.c1 htb (S' := (76, [some (.inr (.inr (some (10, 0)))), some (.inl r1)], [], am_mk m)) (if_pos hc17) ?_
      refine am_Go.n htb 1 (S' := (77, [some (.inr (.inr (some (10, 0)))), some (.inl r1)], [.inr (.inr (some (10, 0)))], am_mk m)) rfl ?_
      obtain ⟨r18, h19, h⟩ := am_bd h
      refine am_Go.cl htb rfl (ex_X10_inner d (by omega)  m r18 h19) ?_
      show am_Go d 224 (80, [some (.inr (.inr (some (10, 0)))), some (.inl r1)], [.inl r18], am_mk m) _ _ _ _
      refine am_Go.n htb 1 (S' := (81, [some (.inr (.inr (some (10, 0)))), some (.inl r1)], [.inl (-1), .inl r18], am_mk m)) rfl ?_
      by_cases hc20 : r18 ≠ (-1 : Int32)
      · rw [if_pos hc20] at h
        refine am_Go.c1 htb (S' := (86, [some (.inr (.inr (some (10, 0)))), some (.inl r1)], [], am_mk m)) (if_pos hc20) ?_
        refine am_Go.n htb 3 (S' := (90, [some (.inr (.inr (some (10, 0)))), some (.inl r1)], [.inl 41, .inr (.inr (some (10, 0))), .inr (.inr (some (10, 0)))], am_mk m)) rfl ?_
        obtain ⟨r21, h22, h⟩ := am_bd h
        refine am_Go.cl htb rfl (ex_X10_isSign d (by omega) 41 m r21 h22) ?_
        show am_Go d 224 (93, [some (.inr (.inr (some (10, 0)))), some (.inl r1)], [.inl r21, .inr (.inr (some (10, 0)))], am_mk m) _ _ _ _
        obtain ⟨r23, h24, h⟩ := am_bd h
        refine am_Go.cl htb rfl (ex_X10_must d (by omega) r21 m r23 h24) ?_
        show am_Go d 224 (96, [some (.inr (.inr (some (10, 0)))), some (.inl r1)], [], am_mk r23) _ _ _ _
        refine am_Go.n htb 2 (S' := (100, [some (.inr (.inr (some (10, 0)))), some (.inl r1)], [.inl (r23.1 10 0 19)], am_mk r23)) rfl ?_
        by_cases hc25 : (r23.1 10 0 19) ≠ 0
        · rw [if_pos hc25] at h
          refine am_Go.c1 htb (S' := (128, [some (.inr (.inr (some (10, 0)))), some (.inl r1)], [], am_mk r23)) (if_pos hc25) ?_
          refine am_Go.n htb 1 (S' := (129, [some (.inr (.inr (some (10, 0)))), some (.inl r1)], [.inl 2], am_mk r23)) rfl ?_
          cases h
          exact am_Go.rt htb rfl
        · rw [if_neg hc25] at h
          refine am_Go.c1 htb (S' := (103, [some (.inr (.inr (some (10, 0)))), some (.inl r1)], [], am_mk r23)) (if_neg hc25) ?_
          refine am_Go.n htb 2 (S' := (105, [some (.inr (.inr (some (10, 0)))), some (.inl r1)], [.inl 1, .inr (.inr (some (10, 0)))], am_mk r23)) rfl ?_
          obtain ⟨r26, h27, h⟩ := am_bd h
          refine am_Go.cl htb rfl (ex_X10_settle d (by omega) 1 r23 r26 h27) ?_
          show am_Go d 224 (108, [some (.inr (.inr (some (10, 0)))), some (.inl r1)], [], am_mk r26) _ _ _ _
          refine am_Go.n htb 13 (S' := (129, [some (.inr (.inr (some (10, 0)))), some (.inl r1)], [.inl 2], am_mk (am_si (am_si r26 10 0 29 ((r26.1 10 0 29) - (1 : Int32))) 10 0 30 ((r26.1 10 0 30) - (1 : Int32))))) rfl ?_
          cases h
          exact am_Go.rt htb rfl
      · rw [if_neg hc20] at h
        refine am_Go.c1 htb (S' := (84, [some (.inr (.inr (some (10, 0)))), some (.inl r1)], [], am_mk m)) (if_neg hc20) ?_
        refine am_Go.n htb 1 (S' := (85, [some (.inr (.inr (some (10, 0)))), some (.inl r1)], [.inl 4], am_mk m)) rfl ?_
        cases h
        exact am_Go.rt htb rfl
    · rw [if_neg hc17] at h
      refine am_Go.c1 htb (S' := (22, [some (.inr (.inr (some (10, 0)))), some (.inl r1)], [], am_mk m)) (if_neg hc17) ?_
      refine am_Go.n htb 2 (S' := (24, [some (.inr (.inr (some (10, 0)))), some (.inl r1)], [.inl r1, .inr (.inr (some (10, 0)))], am_mk m)) rfl ?_
      refine am_Go.cut (S := (32, [some (.inr (.inr (some (10, 0)))), some (.inl r1)], [.inl (if r1 = 0 then (1 : Int32) else (2 : Int32)), .inr (.inr (some (10, 0)))], am_mk m)) ?_ (fun key => ?_)
      · obtain ⟨r29, h30, h⟩ := am_bd h
        refine am_Go.cl htb rfl (ex_X10_settle d (by omega) (if r1 = 0 then (1 : Int32) else (2 : Int32)) m r29 h30) ?_
        show am_Go d 224 (35, [some (.inr (.inr (some (10, 0)))), some (.inl r1)], [], am_mk r29) _ _ _ _
        refine am_Go.n htb 2 (S' := (37, [some (.inr (.inr (some (10, 0)))), some (.inl r1)], [.inl r1, .inr (.inr (some (10, 0)))], am_mk r29)) rfl ?_
        refine am_Go.cut (S := (47, [some (.inr (.inr (some (10, 0)))), some (.inl r1)], [.inl (if r1 = 0 then (30 : Int32) else (29 : Int32)), .inr (.inr (some (10, 0)))], am_mk r29)) ?_ (fun key => ?_)
        · refine am_Go.n htb 2 (S' := (51, [some (.inr (.inr (some (10, 0)))), some (.inl r1)], [.inl (r29.1 10 0 23), .inl (if r1 = 0 then (30 : Int32) else (29 : Int32)), .inr (.inr (some (10, 0)))], am_mk r29)) rfl ?_
          obtain ⟨r32, h33, h⟩ := am_bd h
          refine am_Go.cl htb rfl (ex_X10_push d (by omega) (if r1 = 0 then (30 : Int32) else (29 : Int32)) (r29.1 10 0 23) r29 r32 h33) ?_
          show am_Go d 224 (54, [some (.inr (.inr (some (10, 0)))), some (.inl r1)], [], am_mk r32) _ _ _ _
          refine am_Go.n htb 2 (S' := (56, [some (.inr (.inr (some (10, 0)))), some (.inl r1)], [.inl r1, .inr (.inr (some (10, 0)))], am_mk r32)) rfl ?_
          refine am_Go.cut (S := (66, [some (.inr (.inr (some (10, 0)))), some (.inl r1)], [.inl (if r1 = 0 then (30 : Int32) else (29 : Int32)), .inr (.inr (some (10, 0)))], am_mk r32)) ?_ (fun key => ?_)
          · refine am_Go.n htb 1 (S' := (67, [some (.inr (.inr (some (10, 0)))), some (.inl r1)], [.inl 0, .inl (if r1 = 0 then (30 : Int32) else (29 : Int32)), .inr (.inr (some (10, 0)))], am_mk r32)) rfl ?_
            obtain ⟨r35, h36, h⟩ := am_bd h
            refine am_Go.cl htb rfl (ex_X10_emit d (by omega) (if r1 = 0 then (30 : Int32) else (29 : Int32)) 0 r32 r35 h36) ?_
            show am_Go d 224 (70, [some (.inr (.inr (some (10, 0)))), some (.inl r1)], [], am_mk r35) _ _ _ _
            refine am_Go.n htb 1 (S' := (71, [some (.inr (.inr (some (10, 0)))), some (.inl r1)], [.inr (.inr (some (10, 0)))], am_mk r35)) rfl ?_
            obtain ⟨r37, h38, h⟩ := am_bd h
            refine am_Go.cl htb rfl (ex_X10_next d (by omega)  r35 r37 h38) ?_
            show am_Go d 224 (74, [some (.inr (.inr (some (10, 0)))), some (.inl r1)], [], am_mk r37) _ _ _ _
            refine am_Go.n htb 1 (S' := (75, [some (.inr (.inr (some (10, 0)))), some (.inl r1)], [.inl 0], am_mk r37)) rfl ?_
            cases h
            exact am_Go.rt htb rfl
          · by_cases hc34 : r1 = 0
            · refine am_Go.c1 htb (S' := (64, [some (.inr (.inr (some (10, 0)))), some (.inl r1)], [.inr (.inr (some (10, 0)))], am_mk r32)) (if_pos hc34) ?_
              refine am_Go.n htb 1 (S' := (66, [some (.inr (.inr (some (10, 0)))), some (.inl r1)], [.inl 30, .inr (.inr (some (10, 0)))], am_mk r32)) rfl ?_
              simp only [if_pos hc34] at key
              exact am_Go.fg (by exact ⟨rfl, ⟨rfl, trivial⟩⟩) key
            · refine am_Go.c1 htb (S' := (59, [some (.inr (.inr (some (10, 0)))), some (.inl r1)], [.inr (.inr (some (10, 0)))], am_mk r32)) (if_neg hc34) ?_
              refine am_Go.n htb 2 (S' := (66, [some (.inr (.inr (some (10, 0)))), some (.inl r1)], [.inl 29, .inr (.inr (some (10, 0)))], am_mk r32)) rfl ?_
              simp only [if_neg hc34] at key
              exact am_Go.fg (by exact ⟨rfl, ⟨rfl, trivial⟩⟩) key
        · by_cases hc31 : r1 = 0
          · refine am_Go.c1 htb (S' := (45, [some (.inr (.inr (some (10, 0)))), some (.inl r1)], [.inr (.inr (some (10, 0)))], am_mk r29)) (if_pos hc31) ?_
            refine am_Go.n htb 1 (S' := (47, [some (.inr (.inr (some (10, 0)))), some (.inl r1)], [.inl 30, .inr (.inr (some (10, 0)))], am_mk r29)) rfl ?_
            simp only [if_pos hc31] at key
            exact am_Go.fg (by exact ⟨rfl, ⟨rfl, trivial⟩⟩) key
          · refine am_Go.c1 htb (S' := (40, [some (.inr (.inr (some (10, 0)))), some (.inl r1)], [.inr (.inr (some (10, 0)))], am_mk r29)) (if_neg hc31) ?_
            refine am_Go.n htb 2 (S' := (47, [some (.inr (.inr (some (10, 0)))), some (.inl r1)], [.inl 29, .inr (.inr (some (10, 0)))], am_mk r29)) rfl ?_
            simp only [if_neg hc31] at key
            exact am_Go.fg (by exact ⟨rfl, ⟨rfl, trivial⟩⟩) key
      · by_cases hc28 : r1 = 0
        · refine am_Go.c1 htb (S' := (31, [some (.inr (.inr (some (10, 0)))), some (.inl r1)], [.inr (.inr (some (10, 0)))], am_mk m)) (if_pos hc28) ?_
          refine am_Go.n htb 1 (S' := (32, [some (.inr (.inr (some (10, 0)))), some (.inl r1)], [.inl 1, .inr (.inr (some (10, 0)))], am_mk m)) rfl ?_
          simp only [if_pos hc28] at key
          exact am_Go.fg (by exact ⟨rfl, ⟨rfl, trivial⟩⟩) key
        · refine am_Go.c1 htb (S' := (27, [some (.inr (.inr (some (10, 0)))), some (.inl r1)], [.inr (.inr (some (10, 0)))], am_mk m)) (if_neg hc28) ?_
          refine am_Go.n htb 2 (S' := (32, [some (.inr (.inr (some (10, 0)))), some (.inl r1)], [.inl 2, .inr (.inr (some (10, 0)))], am_mk m)) rfl ?_
          simp only [if_neg hc28] at key
          exact am_Go.fg (by exact ⟨rfl, ⟨rfl, trivial⟩⟩) key
