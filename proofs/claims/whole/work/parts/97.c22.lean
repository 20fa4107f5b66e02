-- X9_seat
set_option maxRecDepth 100000 in
theorem lt_X9_seat_34 (d : Nat) (hd : 7 ≤ d + 1) {r : Option am_V} {M' : am_M} {kc ks : Nat} {n : Nat} {x1 : Int32} {x2 : Int32} {x3 : Int32} {x4 : Int32} {m : am_m} {t : Int32 × am_m} (h : lp_X9_seat_34 n x1 x2 x3 x4 m = some t) (hk : am_Go d 135 (59, [some (.inr (.inr (some (9, 0)))), some (.inl x1), some (.inl x2), some (.inl t.1), none], [], am_mk t.2) r M' kc ks) : am_Go d 135 (34, [some (.inr (.inr (some (9, 0)))), some (.inl x1), some (.inl x2), some (.inl x3), some (.inl x4)], [], am_mk m) r M' kc ks := by
  have htb : am_tab 135 = at_135 := rfl
  induction n generalizing x3 x4 m with
  | zero => cases h
  | succ n ih =>
    unfold lp_X9_seat_34 at h
    refine am_Go.n htb 2 (S' := (37, [some (.inr (.inr (some (9, 0)))), some (.inl x1), some (.inl x2), some (.inl x3), some (.inl x4)], [.inl x2, .inl x4], am_mk m)) rfl ?_
    by_cases hc10 : x2 ≤ x4
    · rw [if_pos hc10] at h
      refine am_Go.c1 htb (S' := (59, [some (.inr (.inr (some (9, 0)))), some (.inl x1), some (.inl x2), some (.inl x3), some (.inl x4)], [], am_mk m)) (if_pos hc10) ?_
      cases h
      exact am_Go.fg (by exact ⟨rfl, ⟨rfl, ⟨rfl, ⟨rfl, trivial⟩⟩⟩⟩) hk
    · rw [if_neg hc10] at h
      refine am_Go.c1 htb (S' := (40, [some (.inr (.inr (some (9, 0)))), some (.inl x1), some (.inl x2), some (.inl x3), some (.inl x4)], [], am_mk m)) (if_neg hc10) ?_
      refine am_Go.n htb 5 (S' := (45, [some (.inr (.inr (some (9, 0)))), some (.inl x1), some (.inl x2), some (.inl x3), some (.inl x4)], [.inl x1, .inl x3, .inr (.inr (some (9, 0))), .inl 1, .inl x3], am_mk m)) rfl ?_
      obtain ⟨r11, h12, h⟩ := am_bd h
      refine am_Go.cl htb rfl (ex_X9_mostHurt d (by omega) x3 x1 m r11 h12) ?_
      show am_Go d 135 (48, [some (.inr (.inr (some (9, 0)))), some (.inl x1), some (.inl x2), some (.inl x3), some (.inl x4)], [.inl r11.1, .inl 1, .inl x3], am_mk r11.2) _ _ _ _
      refine am_Go.n htb 7 (S' := (34, [some (.inr (.inr (some (9, 0)))), some (.inl x1), some (.inl x2), some (.inl (x3 &&& (((1 : Int32) <<< (r11.1 &&& 31)) ^^^ (-1 : Int32)))), some (.inl (x4 + 1))], [], am_mk r11.2)) rfl ?_
      first | exact ih h | exact ih h hk
set_option maxRecDepth 100000 in
theorem ex_X9_seat (d : Nat) (hd : 7 ≤ d) (a1 : Int32) (a2 : Int32) (m : am_m) (t : Int32 × am_m) (h : fn_X9_seat a1 a2 m = some t) : am_Ex am_cod d 135 [.inr (.inr (some (9, 0))), .inl a1, .inl a2] (am_mk m) (some (.inl t.1)) (am_mk t.2) 0 0 := by
  obtain ⟨d, rfl⟩ : ∃ e, d = e + 1 := ⟨d - 1, by omega⟩
  have htb : am_tab 135 = at_135 := rfl
  refine ⟨Nat.le_of_ble_eq_true rfl, ?_⟩
  unfold fn_X9_seat at h
  show am_Go d 135 (0, [some (.inr (.inr (some (9, 0)))), some (.inl a1), some (.inl a2), none, none], [], am_mk m) _ _ 0 0
  refine am_Go.n htb 3 (S' := (5, [some (.inr (.inr (some (9, 0)))), some (.inl a1), some (.inl a2), none, none], [.inl a1, .inr (.inr (some (8, 0)))], am_mk m)) rfl ?_
  obtain ⟨r1, h2, h⟩ := am_bd h
  refine am_Go.cl htb rfl (ex_X8_hasSet d (by omega) 0 a1 m r1 h2) ?_
  show am_Go d 135 (8, [some (.inr (.inr (some (9, 0)))), some (.inl a1), some (.inl a2), none, none], [.inl r1], am_mk m) _ _ _ _
  by_cases hc3 : r1 = 0
  · rw [if_pos hc3] at h
    refine am_Go.c1 htb (S' := (23, [some (.inr (.inr (some (9, 0)))), some (.inl a1), some (.inl a2), none, none], [], am_mk m)) (if_pos hc3) ?_
    refine am_Go.n htb 1 (S' := (24, [some (.inr (.inr (some (9, 0)))), some (.inl a1), some (.inl a2), none, none], [.inl (-1)], am_mk m)) rfl ?_
    cases h
    exact am_Go.rt htb rfl
  · rw [if_neg hc3] at h
    refine am_Go.c1 htb (S' := (11, [some (.inr (.inr (some (9, 0)))), some (.inl a1), some (.inl a2), none, none], [], am_mk m)) (if_neg hc3) ?_
    refine am_Go.n htb 1 (S' := (12, [some (.inr (.inr (some (9, 0)))), some (.inl a1), some (.inl a2), none, none], [.inl a2], am_mk m)) rfl ?_
    by_cases hc4 : a2 < 0
    · rw [if_pos hc4] at h
      refine am_Go.c1 htb (S' := (23, [some (.inr (.inr (some (9, 0)))), some (.inl a1), some (.inl a2), none, none], [], am_mk m)) (if_pos hc4) ?_
      refine am_Go.n htb 1 (S' := (24, [some (.inr (.inr (some (9, 0)))), some (.inl a1), some (.inl a2), none, none], [.inl (-1)], am_mk m)) rfl ?_
      cases h
      exact am_Go.rt htb rfl
    · rw [if_neg hc4] at h
      refine am_Go.c1 htb (S' := (15, [some (.inr (.inr (some (9, 0)))), some (.inl a1), some (.inl a2), none, none], [], am_mk m)) (if_neg hc4) ?_
      refine am_Go.n htb 2 (S' := (17, [some (.inr (.inr (some (9, 0)))), some (.inl a1), some (.inl a2), none, none], [.inl a1, .inl a2], am_mk m)) rfl ?_
      obtain ⟨r5, h6, h⟩ := am_bd h
      refine am_Go.cl htb rfl (ex_J6_bitCount_0f7a4 d (by omega) a1 m r5 h6) ?_
      show am_Go d 135 (20, [some (.inr (.inr (some (9, 0)))), some (.inl a1), some (.inl a2), none, none], [.inl r5, .inl a2], am_mk m) _ _ _ _
      by_cases hc7 : a2 < r5
      · rw [if_pos hc7] at h
        refine am_Go.c1 htb (S' := (25, [some (.inr (.inr (some (9, 0)))), some (.inl a1), some (.inl a2), none, none], [], am_mk m)) (if_pos hc7) ?_
        refine am_Go.n htb 1 (S' := (26, [some (.inr (.inr (some (9, 0)))), some (.inl a1), some (.inl a2), none, none], [.inr (.inr (some (9, 0)))], am_mk m)) rfl ?_
        obtain ⟨r8, h9, h⟩ := am_bd h
        refine am_Go.cl htb rfl (ex_X9_askLive d (by omega)  m r8 h9) ?_
        show am_Go d 135 (29, [some (.inr (.inr (some (9, 0)))), some (.inl a1), some (.inl a2), none, none], [], am_mk r8) _ _ _ _
        refine am_Go.n htb 4 (S' := (34, [some (.inr (.inr (some (9, 0)))), some (.inl a1), some (.inl a2), some (.inl a1), some (.inl 0)], [], am_mk r8)) rfl ?_
        obtain ⟨q13, h14, h⟩ := am_bd h
        refine lt_X9_seat_34 _ hd (h := h14) (hk := ?_)
        refine am_Go.n htb 3 (S' := (62, [some (.inr (.inr (some (9, 0)))), some (.inl a1), some (.inl a2), some (.inl q13.1), none], [.inl a1, .inl q13.1, .inr (.inr (some (9, 0)))], am_mk q13.2)) rfl ?_
        obtain ⟨r15, h16, h⟩ := am_bd h
        refine am_Go.cl htb rfl (ex_X9_mostHurt d (by omega) q13.1 a1 q13.2 r15 h16) ?_
        show am_Go d 135 (65, [some (.inr (.inr (some (9, 0)))), some (.inl a1), some (.inl a2), some (.inl q13.1), none], [.inl r15.1], am_mk r15.2) _ _ _ _
        cases h
        exact am_Go.rt htb rfl
      · rw [if_neg hc7] at h
        refine am_Go.c1 htb (S' := (23, [some (.inr (.inr (some (9, 0)))), some (.inl a1), some (.inl a2), none, none], [], am_mk m)) (if_neg hc7) ?_
        refine am_Go.n htb 1 (S' := (24, [some (.inr (.inr (some (9, 0)))), some (.inl a1), some (.inl a2), none, none], [.inl (-1)], am_mk m)) rfl ?_
        cases h
        exact am_Go.rt htb rfl
-- X9_chain
set_option maxRecDepth 100000 in
theorem ex_X9_chain (d : Nat) (hd : 7 ≤ d) (a1 : Int32) (a2 : Int32) (a3 : Int32) (m : am_m) (t : Int32 × am_m) (h : fn_X9_chain a1 a2 a3 m = some t) : am_Ex am_cod d 136 [.inr (.inr (some (9, 0))), .inl a1, .inl a2, .inl a3] (am_mk m) (some (.inl t.1)) (am_mk t.2) 0 0 := by
  obtain ⟨d, rfl⟩ : ∃ e, d = e + 1 := ⟨d - 1, by omega⟩
  have htb : am_tab 136 = at_136 := rfl
  refine ⟨Nat.le_of_ble_eq_true rfl, ?_⟩
  unfold fn_X9_chain at h
  show am_Go d 136 (0, [some (.inr (.inr (some (9, 0)))), some (.inl a1), some (.inl a2), some (.inl a3), none], [], am_mk m) _ _ 0 0
  refine am_Go.n htb 3 (S' := (5, [some (.inr (.inr (some (9, 0)))), some (.inl a1), some (.inl a2), some (.inl a3), none], [.inl a1, .inr (.inr (some (8, 0)))], am_mk m)) rfl ?_
  obtain ⟨r1, h2, h⟩ := am_bd h
  refine am_Go.cl htb rfl (ex_X8_has d (by omega) 0 a1 m r1 h2) ?_
  show am_Go d 136 (8, [some (.inr (.inr (some (9, 0)))), some (.inl a1), some (.inl a2), some (.inl a3), none], [.inl r1], am_mk m) _ _ _ _
  by_cases hc3 : r1 = 0
  · rw [if_pos hc3] at h
    refine am_Go.c1 htb (S' := (27, [some (.inr (.inr (some (9, 0)))), some (.inl a1), some (.inl a2), some (.inl a3), none], [], am_mk m)) (if_pos hc3) ?_
    refine am_Go.n htb 1 (S' := (28, [some (.inr (.inr (some (9, 0)))), some (.inl a1), some (.inl a2), some (.inl a3), none], [.inl (-1)], am_mk m)) rfl ?_
    cases h
    exact am_Go.rt htb rfl
  · rw [if_neg hc3] at h
    refine am_Go.c1 htb (S' := (11, [some (.inr (.inr (some (9, 0)))), some (.inl a1), some (.inl a2), some (.inl a3), none], [], am_mk m)) (if_neg hc3) ?_
    refine am_Go.n htb 3 (S' := (16, [some (.inr (.inr (some (9, 0)))), some (.inl a1), some (.inl a2), some (.inl a3), none], [.inl a2, .inr (.inr (some (8, 0)))], am_mk m)) rfl ?_
    obtain ⟨r4, h5, h⟩ := am_bd h
    refine am_Go.cl htb rfl (ex_X8_has d (by omega) 0 a2 m r4 h5) ?_
    show am_Go d 136 (19, [some (.inr (.inr (some (9, 0)))), some (.inl a1), some (.inl a2), some (.inl a3), none], [.inl r4], am_mk m) _ _ _ _
    by_cases hc6 : r4 = 0
    · rw [if_pos hc6] at h
      refine am_Go.c1 htb (S' := (27, [some (.inr (.inr (some (9, 0)))), some (.inl a1), some (.inl a2), some (.inl a3), none], [], am_mk m)) (if_pos hc6) ?_
      refine am_Go.n htb 1 (S' := (28, [some (.inr (.inr (some (9, 0)))), some (.inl a1), some (.inl a2), some (.inl a3), none], [.inl (-1)], am_mk m)) rfl ?_
      cases h
      exact am_Go.rt htb rfl
    · rw [if_neg hc6] at h
      refine am_Go.c1 htb (S' := (22, [some (.inr (.inr (some (9, 0)))), some (.inl a1), some (.inl a2), some (.inl a3), none], [], am_mk m)) (if_neg hc6) ?_
      refine am_Go.n htb 2 (S' := (24, [some (.inr (.inr (some (9, 0)))), some (.inl a1), some (.inl a2), some (.inl a3), none], [.inl (-1), .inl a3], am_mk m)) rfl ?_
      by_cases hc7 : (-1 : Int32) ≤ a3
      · rw [if_pos hc7] at h
        refine am_Go.c1 htb (S' := (29, [some (.inr (.inr (some (9, 0)))), some (.inl a1), some (.inl a2), some (.inl a3), none], [], am_mk m)) (if_pos hc7) ?_
        refine am_Go.n htb 1 (S' := (30, [some (.inr (.inr (some (9, 0)))), some (.inl a1), some (.inl a2), some (.inl a3), none], [.inr (.inr (some (9, 0)))], am_mk m)) rfl ?_
        obtain ⟨r8, h9, h⟩ := am_bd h
        refine am_Go.cl htb rfl (ex_X9_lookLive d (by omega)  m r8 h9) ?_
        show am_Go d 136 (33, [some (.inr (.inr (some (9, 0)))), some (.inl a1), some (.inl a2), some (.inl a3), none], [], am_mk r8) _ _ _ _
        refine am_Go.n htb 4 (S' := (39, [some (.inr (.inr (some (9, 0)))), some (.inl a1), some (.inl a2), some (.inl a3), none], [.inl a2, .inl a1, .inr (.inr (some (6, 0)))], am_mk r8)) rfl ?_
        obtain ⟨r10, h11, h⟩ := am_bd h
        refine am_Go.cl htb rfl (ex_X6_stepsTo d (by omega) a1 a2 r8 r10 h11) ?_
        show am_Go d 136 (42, [some (.inr (.inr (some (9, 0)))), some (.inl a1), some (.inl a2), some (.inl a3), none], [.inl r10.1], am_mk r10.2) _ _ _ _
        refine am_Go.n htb 3 (S' := (46, [some (.inr (.inr (some (9, 0)))), some (.inl a1), some (.inl a2), some (.inl a3), some (.inl r10.1)], [.inl (-1), .inl a3], am_mk r10.2)) rfl ?_
        by_cases hc12 : a3 = (-1 : Int32)
        · rw [if_pos hc12] at h
          refine am_Go.c1 htb (S' := (55, [some (.inr (.inr (some (9, 0)))), some (.inl a1), some (.inl a2), some (.inl a3), some (.inl r10.1)], [], am_mk r10.2)) (if_pos hc12) ?_
          refine am_Go.n htb 1 (S' := (57, [some (.inr (.inr (some (9, 0)))), some (.inl a1), some (.inl a2), some (.inl a3), some (.inl r10.1)], [.inl r10.1], am_mk r10.2)) rfl ?_
          cases h
          exact am_Go.rt htb rfl
        · rw [if_neg hc12] at h
          refine am_Go.c1 htb (S' := (49, [some (.inr (.inr (some (9, 0)))), some (.inl a1), some (.inl a2), some (.inl a3), some (.inl r10.1)], [], am_mk r10.2)) (if_neg hc12) ?_
          refine am_Go.n htb 2 (S' := (52, [some (.inr (.inr (some (9, 0)))), some (.inl a1), some (.inl a2), some (.inl a3), some (.inl r10.1)], [.inl (-1), .inl r10.1], am_mk r10.2)) rfl ?_
          by_cases hc13 : r10.1 ≠ (-1 : Int32)
          · rw [if_pos hc13] at h
            refine am_Go.c1 htb (S' := (58, [some (.inr (.inr (some (9, 0)))), some (.inl a1), some (.inl a2), some (.inl a3), some (.inl r10.1)], [], am_mk r10.2)) (if_pos hc13) ?_
            refine am_Go.n htb 2 (S' := (61, [some (.inr (.inr (some (9, 0)))), some (.inl a1), some (.inl a2), some (.inl a3), some (.inl r10.1)], [.inl r10.1, .inl a3], am_mk r10.2)) rfl ?_
            by_cases hc14 : r10.1 ≤ a3
            · rw [if_pos hc14] at h
              refine am_Go.c1 htb (S' := (77, [some (.inr (.inr (some (9, 0)))), some (.inl a1), some (.inl a2), some (.inl a3), some (.inl r10.1)], [], am_mk r10.2)) (if_pos hc14) ?_
              refine am_Go.n htb 1 (S' := (78, [some (.inr (.inr (some (9, 0)))), some (.inl a1), some (.inl a2), some (.inl a3), some (.inl r10.1)], [.inl (-1)], am_mk r10.2)) rfl ?_
              cases h
              exact am_Go.rt htb rfl
            · rw [if_neg hc14] at h
              refine am_Go.c1 htb (S' := (64, [some (.inr (.inr (some (9, 0)))), some (.inl a1), some (.inl a2), some (.inl a3), some (.inl r10.1)], [], am_mk r10.2)) (if_neg hc14) ?_
              refine am_Go.n htb 5 (S' := (71, [some (.inr (.inr (some (9, 0)))), some (.inl a1), some (.inl a2), some (.inl a3), some (.inl r10.1)], [.inl a3, .inl a2, .inl a1, .inr (.inr (some (6, 0)))], am_mk r10.2)) rfl ?_
              obtain ⟨r15, h16, h⟩ := am_bd h
              refine am_Go.cl htb rfl (ex_X6_stepOf d (by omega) a1 a2 a3 r10.2 r15 h16) ?_
              show am_Go d 136 (74, [some (.inr (.inr (some (9, 0)))), some (.inl a1), some (.inl a2), some (.inl a3), some (.inl r10.1)], [.inl r15], am_mk r10.2) _ _ _ _
              refine am_Go.n htb 1 (S' := (78, [some (.inr (.inr (some (9, 0)))), some (.inl a1), some (.inl a2), some (.inl a3), some (.inl r10.1)], [.inl r15], am_mk r10.2)) rfl ?_
              cases h
              exact am_Go.rt htb rfl
          · rw [if_neg hc13] at h
            refine am_Go.c1 htb (S' := (55, [some (.inr (.inr (some (9, 0)))), some (.inl a1), some (.inl a2), some (.inl a3), some (.inl r10.1)], [], am_mk r10.2)) (if_neg hc13) ?_
            refine am_Go.n htb 1 (S' := (57, [some (.inr (.inr (some (9, 0)))), some (.inl a1), some (.inl a2), some (.inl a3), some (.inl r10.1)], [.inl r10.1], am_mk r10.2)) rfl ?_
            cases h
            exact am_Go.rt htb rfl
      · rw [if_neg hc7] at h
        refine am_Go.c1 htb (S' := (27, [some (.inr (.inr (some (9, 0)))), some (.inl a1), some (.inl a2), some (.inl a3), none], [], am_mk m)) (if_neg hc7) ?_
        refine am_Go.n htb 1 (S' := (28, [some (.inr (.inr (some (9, 0)))), some (.inl a1), some (.inl a2), some (.inl a3), none], [.inl (-1)], am_mk m)) rfl ?_
        cases h
        exact am_Go.rt htb rfl
-- X9_circles
set_option maxRecDepth 100000 in
theorem ex_X9_circles (d : Nat) (hd : 7 ≤ d)  (m : am_m) (t : Int32 × am_m) (h : fn_X9_circles  m = some t) : am_Ex am_cod d 137 [.inr (.inr (some (9, 0)))] (am_mk m) (some (.inl t.1)) (am_mk t.2) 0 0 := by
  obtain ⟨d, rfl⟩ : ∃ e, d = e + 1 := ⟨d - 1, by omega⟩
  have htb : am_tab 137 = at_137 := rfl
  refine ⟨Nat.le_of_ble_eq_true rfl, ?_⟩
  unfold fn_X9_circles at h
  show am_Go d 137 (0, [some (.inr (.inr (some (9, 0))))], [], am_mk m) _ _ 0 0
  refine am_Go.n htb 1 (S' := (1, [some (.inr (.inr (some (9, 0))))], [.inr (.inr (some (9, 0)))], am_mk m)) rfl ?_
  obtain ⟨r1, h2, h⟩ := am_bd h
  refine am_Go.cl htb rfl (ex_X9_lookLive d (by omega)  m r1 h2) ?_
  show am_Go d 137 (4, [some (.inr (.inr (some (9, 0))))], [], am_mk r1) _ _ _ _
  refine am_Go.n htb 4 (S' := (10, [some (.inr (.inr (some (9, 0))))], [.inl (-1), .inl (-1), .inr (.inr (some (6, 0)))], am_mk r1)) rfl ?_
  obtain ⟨r3, h4, h⟩ := am_bd h
  refine am_Go.cl htb rfl (ex_X6_circlesWithout d (by omega) (-1) (-1) r1 r3 h4) ?_
  show am_Go d 137 (13, [some (.inr (.inr (some (9, 0))))], [.inl r3], am_mk r1) _ _ _ _
  cases h
  exact am_Go.rt htb rfl
-- X9_bridges
set_option maxRecDepth 100000 in
theorem ex_X9_bridges (d : Nat) (hd : 7 ≤ d) (a1 : Int32) (m : am_m) (t : Int32 × am_m) (h : fn_X9_bridges a1 m = some t) : am_Ex am_cod d 138 [.inr (.inr (some (9, 0))), .inl a1] (am_mk m) (some (.inl t.1)) (am_mk t.2) 0 0 := by
  obtain ⟨d, rfl⟩ : ∃ e, d = e + 1 := ⟨d - 1, by omega⟩
  have htb : am_tab 138 = at_138 := rfl
  refine ⟨Nat.le_of_ble_eq_true rfl, ?_⟩
  unfold fn_X9_bridges at h
  show am_Go d 138 (0, [some (.inr (.inr (some (9, 0)))), some (.inl a1)], [], am_mk m) _ _ 0 0
  refine am_Go.n htb 1 (S' := (1, [some (.inr (.inr (some (9, 0)))), some (.inl a1)], [.inr (.inr (some (9, 0)))], am_mk m)) rfl ?_
  obtain ⟨r1, h2, h⟩ := am_bd h
  refine am_Go.cl htb rfl (ex_X9_lookLive d (by omega)  m r1 h2) ?_
  show am_Go d 138 (4, [some (.inr (.inr (some (9, 0)))), some (.inl a1)], [], am_mk r1) _ _ _ _
  refine am_Go.n htb 2 (S' := (8, [some (.inr (.inr (some (9, 0)))), some (.inl a1)], [.inr (.inr (some (6, 0)))], am_mk r1)) rfl ?_
  obtain ⟨r3, h4, h⟩ := am_bd h
  refine am_Go.cl htb rfl (ex_X6_findBridges d (by omega)  r1 r3 h4) ?_
  show am_Go d 138 (11, [some (.inr (.inr (some (9, 0)))), some (.inl a1)], [], am_mk r3) _ _ _ _
  refine am_Go.n htb 3 (S' := (16, [some (.inr (.inr (some (9, 0)))), some (.inl a1)], [.inl a1, .inr (.inr (some (6, 0)))], am_mk r3)) rfl ?_
  obtain ⟨r5, h6, h⟩ := am_bd h
  refine am_Go.cl htb rfl (ex_X6_twoOf d (by omega) a1 r3 r5 h6) ?_
  show am_Go d 138 (19, [some (.inr (.inr (some (9, 0)))), some (.inl a1)], [.inl r5], am_mk r3) _ _ _ _
  cases h
  exact am_Go.rt htb rfl
-- X9_sat
set_option maxRecDepth 100000 in
theorem ex_X9_sat (d : Nat) (hd : 3 ≤ d) (a1 : Int32) (m : am_m) (t : Int32 × am_m) (h : fn_X9_sat a1 m = some t) : am_Ex am_cod d 139 [.inr (.inr (some (9, 0))), .inl a1] (am_mk m) (some (.inl t.1)) (am_mk t.2) 0 0 := by
  obtain ⟨d, rfl⟩ : ∃ e, d = e + 1 := ⟨d - 1, by omega⟩
  have htb : am_tab 139 = at_139 := rfl
  refine ⟨Nat.le_of_ble_eq_true rfl, ?_⟩
  unfold fn_X9_sat at h
  show am_Go d 139 (0, [some (.inr (.inr (some (9, 0)))), some (.inl a1)], [], am_mk m) _ _ 0 0
  refine am_Go.n htb 1 (S' := (1, [some (.inr (.inr (some (9, 0)))), some (.inl a1)], [.inl a1], am_mk m)) rfl ?_
  by_cases hc1 : a1 < 0
  · rw [if_pos hc1] at h
    refine am_Go.c1 htb (S' := (18, [some (.inr (.inr (some (9, 0)))), some (.inl a1)], [], am_mk m)) (if_pos hc1) ?_
    refine am_Go.n htb 2 (S' := (20, [some (.inr (.inr (some (9, 0)))), some (.inl a1)], [.inl (-1), .inr (.inr (some (9, 0)))], am_mk m)) rfl ?_
    obtain ⟨r2, h3, h⟩ := am_bd h
    refine am_Go.cl htb rfl (ex_X9_told d (by omega) (-1) m r2 h3) ?_
    show am_Go d 139 (23, [some (.inr (.inr (some (9, 0)))), some (.inl a1)], [.inl r2.1], am_mk r2.2) _ _ _ _
    cases h
    exact am_Go.rt htb rfl
  · rw [if_neg hc1] at h
    refine am_Go.c1 htb (S' := (4, [some (.inr (.inr (some (9, 0)))), some (.inl a1)], [], am_mk m)) (if_neg hc1) ?_
    refine am_Go.n htb 2 (S' := (7, [some (.inr (.inr (some (9, 0)))), some (.inl a1)], [.inl 127, .inl a1], am_mk m)) rfl ?_
    by_cases hc4 : (127 : Int32) < a1
    · rw [if_pos hc4] at h
      refine am_Go.c1 htb (S' := (18, [some (.inr (.inr (some (9, 0)))), some (.inl a1)], [], am_mk m)) (if_pos hc4) ?_
      refine am_Go.n htb 2 (S' := (20, [some (.inr (.inr (some (9, 0)))), some (.inl a1)], [.inl (-1), .inr (.inr (some (9, 0)))], am_mk m)) rfl ?_
      obtain ⟨r5, h6, h⟩ := am_bd h
      refine am_Go.cl htb rfl (ex_X9_told d (by omega) (-1) m r5 h6) ?_
      show am_Go d 139 (23, [some (.inr (.inr (some (9, 0)))), some (.inl a1)], [.inl r5.1], am_mk r5.2) _ _ _ _
      cases h
      exact am_Go.rt htb rfl
    · rw [if_neg hc4] at h
      refine am_Go.c1 htb (S' := (10, [some (.inr (.inr (some (9, 0)))), some (.inl a1)], [], am_mk m)) (if_neg hc4) ?_
      refine am_Go.n htb 1 (S' := (11, [some (.inr (.inr (some (9, 0)))), some (.inl a1)], [.inl a1], am_mk m)) rfl ?_
      obtain ⟨r7, h8, h⟩ := am_bd h
      refine am_Go.cl htb rfl (ex_J6_bitCount_0f7a4 d (by omega) a1 m r7 h8) ?_
      show am_Go d 139 (14, [some (.inr (.inr (some (9, 0)))), some (.inl a1)], [.inl r7], am_mk m) _ _ _ _
      refine am_Go.n htb 1 (S' := (15, [some (.inr (.inr (some (9, 0)))), some (.inl a1)], [.inl 2, .inl r7], am_mk m)) rfl ?_
      by_cases hc9 : (2 : Int32) ≤ r7
      · rw [if_pos hc9] at h
        refine am_Go.c1 htb (S' := (24, [some (.inr (.inr (some (9, 0)))), some (.inl a1)], [], am_mk m)) (if_pos hc9) ?_
        refine am_Go.n htb 3 (S' := (29, [some (.inr (.inr (some (9, 0)))), some (.inl a1)], [.inl a1, .inr (.inr (some (8, 0)))], am_mk m)) rfl ?_
        obtain ⟨r10, h11, h⟩ := am_bd h
        refine am_Go.cl htb rfl (ex_X8_hasSet d (by omega) 0 a1 m r10 h11) ?_
        show am_Go d 139 (32, [some (.inr (.inr (some (9, 0)))), some (.inl a1)], [.inl r10], am_mk m) _ _ _ _
        by_cases hc12 : r10 ≠ 0
        · rw [if_pos hc12] at h
          refine am_Go.c1 htb (S' := (42, [some (.inr (.inr (some (9, 0)))), some (.inl a1)], [], am_mk m)) (if_pos hc12) ?_
          refine am_Go.n htb 4 (S' := (51, [some (.inr (.inr (some (9, 0)))), some (.inl a1)], [.inl 6, .inl (m.1 8 0 1)], am_mk m)) rfl ?_
          by_cases hc13 : (m.1 8 0 1) < (6 : Int32)
          · rw [if_pos hc13] at h
            refine am_Go.c1 htb (S' := (61, [some (.inr (.inr (some (9, 0)))), some (.inl a1)], [], am_mk m)) (if_pos hc13) ?_
            refine am_Go.n htb 7 (S' := (76, [some (.inr (.inr (some (9, 0)))), some (.inl a1)], [.inl a1, .inl (m.1 8 0 1), .inr (.inr (some (40, 0)))], am_mk m)) rfl ?_
            obtain ⟨hg14, h⟩ := am_ck_some h
            refine am_Go.c1 htb (S' := (77, [some (.inr (.inr (some (9, 0)))), some (.inl a1)], [], am_mk (am_si m 40 0 (m.1 8 0 1).toNatClampNeg a1))) (if_neg hg14) ?_
            refine am_Go.n htb 11 (S' := (98, [some (.inr (.inr (some (9, 0)))), some (.inl a1)], [.inl ((m.1 8 0 1) + (1 : Int32)), .inr (.inr (some (9, 0)))], am_mk (am_si (am_si m 40 0 (m.1 8 0 1).toNatClampNeg a1) 8 0 1 ((m.1 8 0 1) + (1 : Int32))))) rfl ?_
            obtain ⟨r15, h16, h⟩ := am_bd h
            refine am_Go.cl htb rfl (ex_X9_told d (by omega) ((m.1 8 0 1) + (1 : Int32)) (am_si (am_si m 40 0 (m.1 8 0 1).toNatClampNeg a1) 8 0 1 ((m.1 8 0 1) + (1 : Int32))) r15 h16) ?_
            show am_Go d 139 (101, [some (.inr (.inr (some (9, 0)))), some (.inl a1)], [.inl r15.1], am_mk r15.2) _ _ _ _
            cases h
            exact am_Go.rt htb rfl
          · rw [if_neg hc13] at h
            refine am_Go.c1 htb (S' := (54, [some (.inr (.inr (some (9, 0)))), some (.inl a1)], [], am_mk m)) (if_neg hc13) ?_
            refine am_Go.n htb 2 (S' := (57, [some (.inr (.inr (some (9, 0)))), some (.inl a1)], [.inl (-5), .inr (.inr (some (9, 0)))], am_mk m)) rfl ?_
            obtain ⟨r17, h18, h⟩ := am_bd h
            refine am_Go.cl htb rfl (ex_X9_told d (by omega) (-5) m r17 h18) ?_
            show am_Go d 139 (60, [some (.inr (.inr (some (9, 0)))), some (.inl a1)], [.inl r17.1], am_mk r17.2) _ _ _ _
            cases h
            exact am_Go.rt htb rfl
        · rw [if_neg hc12] at h
          refine am_Go.c1 htb (S' := (35, [some (.inr (.inr (some (9, 0)))), some (.inl a1)], [], am_mk m)) (if_neg hc12) ?_
          refine am_Go.n htb 2 (S' := (38, [some (.inr (.inr (some (9, 0)))), some (.inl a1)], [.inl (-2), .inr (.inr (some (9, 0)))], am_mk m)) rfl ?_
          obtain ⟨r19, h20, h⟩ := am_bd h
          refine am_Go.cl htb rfl (ex_X9_told d (by omega) (-2) m r19 h20) ?_
          show am_Go d 139 (41, [some (.inr (.inr (some (9, 0)))), some (.inl a1)], [.inl r19.1], am_mk r19.2) _ _ _ _
          cases h
          exact am_Go.rt htb rfl
      · rw [if_neg hc9] at h
        refine am_Go.c1 htb (S' := (18, [some (.inr (.inr (some (9, 0)))), some (.inl a1)], [], am_mk m)) (if_neg hc9) ?_
        refine am_Go.n htb 2 (S' := (20, [some (.inr (.inr (some (9, 0)))), some (.inl a1)], [.inl (-1), .inr (.inr (some (9, 0)))], am_mk m)) rfl ?_
        obtain ⟨r21, h22, h⟩ := am_bd h
        refine am_Go.cl htb rfl (ex_X9_told d (by omega) (-1) m r21 h22) ?_
        show am_Go d 139 (23, [some (.inr (.inr (some (9, 0)))), some (.inl a1)], [.inl r21.1], am_mk r21.2) _ _ _ _
        cases h
        exact am_Go.rt htb rfl
-- X9_forget
set_option maxRecDepth 100000 in
theorem ex_X9_forget (d : Nat) (hd : 1 ≤ d)  (m : am_m) (t : Int32 × am_m) (h : fn_X9_forget  m = some t) : am_Ex am_cod d 140 [.inr (.inr (some (9, 0)))] (am_mk m) (some (.inl t.1)) (am_mk t.2) 0 0 := by
  obtain ⟨d, rfl⟩ : ∃ e, d = e + 1 := ⟨d - 1, by omega⟩
  have htb : am_tab 140 = at_140 := rfl
  refine ⟨Nat.le_of_ble_eq_true rfl, ?_⟩
  unfold fn_X9_forget at h
  show am_Go d 140 (0, [some (.inr (.inr (some (9, 0)))), none], [], am_mk m) _ _ 0 0
  refine am_Go.n htb 9 (S' := (17, [some (.inr (.inr (some (9, 0)))), some (.inl (m.1 8 0 1))], [.inl (m.1 8 0 1)], am_mk (am_si m 8 0 1 0))) rfl ?_
  cases h
  exact am_Go.rt htb rfl
-- X9_doubted
set_option maxRecDepth 100000 in
theorem ex_X9_doubted (d : Nat) (hd : 7 ≤ d) (a1 : Int32) (m : am_m) (t : Int32 × am_m) (h : fn_X9_doubted a1 m = some t) : am_Ex am_cod d 141 [.inr (.inr (some (9, 0))), .inl a1] (am_mk m) (some (.inl t.1)) (am_mk t.2) 0 0 := by
  obtain ⟨d, rfl⟩ : ∃ e, d = e + 1 := ⟨d - 1, by omega⟩
  have htb : am_tab 141 = at_141 := rfl
  refine ⟨Nat.le_of_ble_eq_true rfl, ?_⟩
  unfold fn_X9_doubted at h
  show am_Go d 141 (0, [some (.inr (.inr (some (9, 0)))), some (.inl a1)], [], am_mk m) _ _ 0 0
  refine am_Go.n htb 1 (S' := (1, [some (.inr (.inr (some (9, 0)))), some (.inl a1)], [.inr (.inr (some (9, 0)))], am_mk m)) rfl ?_
  obtain ⟨r1, h2, h⟩ := am_bd h
  refine am_Go.cl htb rfl (ex_X9_lookLive d (by omega)  m r1 h2) ?_
  show am_Go d 141 (4, [some (.inr (.inr (some (9, 0)))), some (.inl a1)], [], am_mk r1) _ _ _ _
  refine am_Go.n htb 4 (S' := (12, [some (.inr (.inr (some (9, 0)))), some (.inl a1)], [.inr (.inr (some (8, 0))), .inr (.inr (some (6, 0)))], am_mk r1)) rfl ?_
  obtain ⟨r3, h4, h⟩ := am_bd h
  refine am_Go.cl htb rfl (ex_X6_findDoubted d (by omega) 0 r1 r3 h4) ?_
  show am_Go d 141 (15, [some (.inr (.inr (some (9, 0)))), some (.inl a1)], [], am_mk r3) _ _ _ _
  refine am_Go.n htb 3 (S' := (20, [some (.inr (.inr (some (9, 0)))), some (.inl a1)], [.inl a1, .inr (.inr (some (6, 0)))], am_mk r3)) rfl ?_
  obtain ⟨r5, h6, h⟩ := am_bd h
  refine am_Go.cl htb rfl (ex_X6_twoOf d (by omega) a1 r3 r5 h6) ?_
  show am_Go d 141 (23, [some (.inr (.inr (some (9, 0)))), some (.inl a1)], [.inl r5], am_mk r3) _ _ _ _
  cases h
  exact am_Go.rt htb rfl
-- X9_fitting
set_option maxRecDepth 100000 in
theorem ex_X9_fitting (d : Nat) (hd : 7 ≤ d) (a1 : Int32) (m : am_m) (t : Int32 × am_m) (h : fn_X9_fitting a1 m = some t) : am_Ex am_cod d 142 [.inr (.inr (some (9, 0))), .inl a1] (am_mk m) (some (.inl t.1)) (am_mk t.2) 0 0 := by
  obtain ⟨d, rfl⟩ : ∃ e, d = e + 1 := ⟨d - 1, by omega⟩
  have htb : am_tab 142 = at_142 := rfl
  refine ⟨Nat.le_of_ble_eq_true rfl, ?_⟩
  unfold fn_X9_fitting at h
  show am_Go d 142 (0, [some (.inr (.inr (some (9, 0)))), some (.inl a1)], [], am_mk m) _ _ 0 0
  refine am_Go.n htb 3 (S' := (5, [some (.inr (.inr (some (9, 0)))), some (.inl a1)], [.inl a1, .inr (.inr (some (8, 0)))], am_mk m)) rfl ?_
  obtain ⟨r1, h2, h⟩ := am_bd h
  refine am_Go.cl htb rfl (ex_X8_hasSet d (by omega) 0 a1 m r1 h2) ?_
  show am_Go d 142 (8, [some (.inr (.inr (some (9, 0)))), some (.inl a1)], [.inl r1], am_mk m) _ _ _ _
  by_cases hc3 : r1 ≠ 0
  · rw [if_pos hc3] at h
    refine am_Go.c1 htb (S' := (13, [some (.inr (.inr (some (9, 0)))), some (.inl a1)], [], am_mk m)) (if_pos hc3) ?_
    refine am_Go.n htb 1 (S' := (14, [some (.inr (.inr (some (9, 0)))), some (.inl a1)], [.inr (.inr (some (9, 0)))], am_mk m)) rfl ?_
    obtain ⟨r4, h5, h⟩ := am_bd h
    refine am_Go.cl htb rfl (ex_X9_lookLive d (by omega)  m r4 h5) ?_
    show am_Go d 142 (17, [some (.inr (.inr (some (9, 0)))), some (.inl a1)], [], am_mk r4) _ _ _ _
    refine am_Go.n htb 3 (S' := (22, [some (.inr (.inr (some (9, 0)))), some (.inl a1)], [.inl a1, .inr (.inr (some (6, 0)))], am_mk r4)) rfl ?_
    obtain ⟨r6, h7, h⟩ := am_bd h
    refine am_Go.cl htb rfl (ex_X6_fittingFor d (by omega) a1 r4 r6 h7) ?_
    show am_Go d 142 (25, [some (.inr (.inr (some (9, 0)))), some (.inl a1)], [.inl r6], am_mk r4) _ _ _ _
    cases h
    exact am_Go.rt htb rfl
  · rw [if_neg hc3] at h
    refine am_Go.c1 htb (S' := (11, [some (.inr (.inr (some (9, 0)))), some (.inl a1)], [], am_mk m)) (if_neg hc3) ?_
    refine am_Go.n htb 1 (S' := (12, [some (.inr (.inr (some (9, 0)))), some (.inl a1)], [.inl (-1)], am_mk m)) rfl ?_
    cases h
    exact am_Go.rt htb rfl
-- X9_ask
set_option maxRecDepth 100000 in
theorem ex_X9_ask (d : Nat) (hd : 7 ≤ d) (a1 : Int32) (a2 : Int32) (m : am_m) (t : Int32 × am_m) (h : fn_X9_ask a1 a2 m = some t) : am_Ex am_cod d 143 [.inr (.inr (some (9, 0))), .inl a1, .inl a2] (am_mk m) (some (.inl t.1)) (am_mk t.2) 0 0 := by
  obtain ⟨d, rfl⟩ : ∃ e, d = e + 1 := ⟨d - 1, by omega⟩
  have htb : am_tab 143 = at_143 := rfl
  refine ⟨Nat.le_of_ble_eq_true rfl, ?_⟩
  unfold fn_X9_ask at h
  show am_Go d 143 (0, [some (.inr (.inr (some (9, 0)))), some (.inl a1), some (.inl a2), none, none], [], am_mk m) _ _ 0 0
  refine am_Go.n htb 3 (S' := (5, [some (.inr (.inr (some (9, 0)))), some (.inl a1), some (.inl a2), none, none], [.inl a1, .inr (.inr (some (8, 0)))], am_mk m)) rfl ?_
  obtain ⟨r1, h2, h⟩ := am_bd h
  refine am_Go.cl htb rfl (ex_X8_hasSet d (by omega) 0 a1 m r1 h2) ?_
  show am_Go d 143 (8, [some (.inr (.inr (some (9, 0)))), some (.inl a1), some (.inl a2), none, none], [.inl r1], am_mk m) _ _ _ _
  by_cases hc3 : r1 ≠ 0
  · rw [if_pos hc3] at h
    refine am_Go.c1 htb (S' := (13, [some (.inr (.inr (some (9, 0)))), some (.inl a1), some (.inl a2), none, none], [], am_mk m)) (if_pos hc3) ?_
    refine am_Go.n htb 1 (S' := (14, [some (.inr (.inr (some (9, 0)))), some (.inl a1), some (.inl a2), none, none], [.inr (.inr (some (9, 0)))], am_mk m)) rfl ?_
    obtain ⟨r4, h5, h⟩ := am_bd h
    refine am_Go.cl htb rfl (ex_X9_lookLive d (by omega)  m r4 h5) ?_
    show am_Go d 143 (17, [some (.inr (.inr (some (9, 0)))), some (.inl a1), some (.inl a2), none, none], [], am_mk r4) _ _ _ _
    refine am_Go.n htb 3 (S' := (22, [some (.inr (.inr (some (9, 0)))), some (.inl a1), some (.inl a2), none, none], [.inl a1, .inr (.inr (some (6, 0)))], am_mk r4)) rfl ?_
    obtain ⟨r6, h7, h⟩ := am_bd h
    refine am_Go.cl htb rfl (ex_X6_fittingFor d (by omega) a1 r4 r6 h7) ?_
    show am_Go d 143 (25, [some (.inr (.inr (some (9, 0)))), some (.inl a1), some (.inl a2), none, none], [.inl r6], am_mk r4) _ _ _ _
    refine am_Go.n htb 4 (S' := (31, [some (.inr (.inr (some (9, 0)))), some (.inl a1), some (.inl a2), some (.inl r6), none], [.inl r6, .inr (.inr (some (6, 0)))], am_mk r4)) rfl ?_
    obtain ⟨r8, h9, h⟩ := am_bd h
    refine am_Go.cl htb rfl (ex_X6_nearestHalf d (by omega) r6 r4 r8 h9) ?_
    show am_Go d 143 (34, [some (.inr (.inr (some (9, 0)))), some (.inl a1), some (.inl a2), some (.inl r6), none], [.inl r8], am_mk r4) _ _ _ _
    refine am_Go.n htb 3 (S' := (39, [some (.inr (.inr (some (9, 0)))), some (.inl a1), some (.inl a2), some (.inl r6), some (.inl r8)], [.inl (-1), .inl r8], am_mk r4)) rfl ?_
    by_cases hc10 : r8 ≠ (-1 : Int32)
    · rw [if_pos hc10] at h
      refine am_Go.c1 htb (S' := (44, [some (.inr (.inr (some (9, 0)))), some (.inl a1), some (.inl a2), some (.inl r6), some (.inl r8)], [], am_mk r4)) (if_pos hc10) ?_
      refine am_Go.n htb 1 (S' := (45, [some (.inr (.inr (some (9, 0)))), some (.inl a1), some (.inl a2), some (.inl r6), some (.inl r8)], [.inl a2], am_mk r4)) rfl ?_
      by_cases hs11 : a2 = 0
      · rw [if_pos hs11] at h
        refine am_Go.o htb (am_o_sw [(0, 72), (1, 75)] 86) rfl (S' := (72, [some (.inr (.inr (some (9, 0)))), some (.inl a1), some (.inl a2), some (.inl r6), some (.inl r8)], [], am_mk r4)) (am_sw_eq (by simp only [am_sw, if_pos hs11])) ?_
        refine am_Go.n htb 1 (S' := (74, [some (.inr (.inr (some (9, 0)))), some (.inl a1), some (.inl a2), some (.inl r6), some (.inl r8)], [.inl r8], am_mk r4)) rfl ?_
        cases h
        exact am_Go.rt htb rfl
      · rw [if_neg hs11] at h
        by_cases hs12 : a2 = 1
        · rw [if_pos hs12] at h
          refine am_Go.o htb (am_o_sw [(0, 72), (1, 75)] 86) rfl (S' := (75, [some (.inr (.inr (some (9, 0)))), some (.inl a1), some (.inl a2), some (.inl r6), some (.inl r8)], [], am_mk r4)) (am_sw_eq (by simp only [am_sw, if_neg hs11, if_pos hs12])) ?_
          refine am_Go.n htb 4 (S' := (82, [some (.inr (.inr (some (9, 0)))), some (.inl a1), some (.inl a2), some (.inl r6), some (.inl r8)], [.inl r6, .inl r8, .inr (.inr (some (6, 0)))], am_mk r4)) rfl ?_
          obtain ⟨r13, h14, h⟩ := am_bd h
          refine am_Go.cl htb rfl (ex_X6_companionsAmong d (by omega) r8 r6 r4 r13 h14) ?_
          show am_Go d 143 (85, [some (.inr (.inr (some (9, 0)))), some (.inl a1), some (.inl a2), some (.inl r6), some (.inl r8)], [.inl r13], am_mk r4) _ _ _ _
          cases h
          exact am_Go.rt htb rfl
        · rw [if_neg hs12] at h
          refine am_Go.o htb (am_o_sw [(0, 72), (1, 75)] 86) rfl (S' := (86, [some (.inr (.inr (some (9, 0)))), some (.inl a1), some (.inl a2), some (.inl r6), some (.inl r8)], [], am_mk r4)) (am_sw_eq (by simp only [am_sw, if_neg hs11, if_neg hs12, if_false])) ?_
          refine am_Go.n htb 1 (S' := (87, [some (.inr (.inr (some (9, 0)))), some (.inl a1), some (.inl a2), some (.inl r6), some (.inl r8)], [.inl (-1)], am_mk r4)) rfl ?_
          cases h
          exact am_Go.rt htb rfl
    · rw [if_neg hc10] at h
      refine am_Go.c1 htb (S' := (42, [some (.inr (.inr (some (9, 0)))), some (.inl a1), some (.inl a2), some (.inl r6), some (.inl r8)], [], am_mk r4)) (if_neg hc10) ?_
      refine am_Go.n htb 1 (S' := (43, [some (.inr (.inr (some (9, 0)))), some (.inl a1), some (.inl a2), some (.inl r6), some (.inl r8)], [.inl (-1)], am_mk r4)) rfl ?_
      cases h
      exact am_Go.rt htb rfl
  · rw [if_neg hc3] at h
    refine am_Go.c1 htb (S' := (11, [some (.inr (.inr (some (9, 0)))), some (.inl a1), some (.inl a2), none, none], [], am_mk m)) (if_neg hc3) ?_
    refine am_Go.n htb 1 (S' := (12, [some (.inr (.inr (some (9, 0)))), some (.inl a1), some (.inl a2), none, none], [.inl (-1)], am_mk m)) rfl ?_
    cases h
    exact am_Go.rt htb rfl
