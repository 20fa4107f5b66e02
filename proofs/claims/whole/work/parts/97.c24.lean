-- X9_seasonDeed
set_option maxRecDepth 100000 in
theorem ex_X9_seasonDeed (d : Nat) (hd : 6 ≤ d) (a1 : Int32) (a2 : Int32) (a3 : Int32) (a4 : Int32) (m : am_m) (t : am_m) (h : fn_X9_seasonDeed a1 a2 a3 a4 m = some t) : am_Ex am_cod d 169 [.inr (.inr (some (9, 0))), .inl a1, .inl a2, .inl a3, .inl a4] (am_mk m) (none) (am_mk t) 0 0 := by
  obtain ⟨d, rfl⟩ : ∃ e, d = e + 1 := ⟨d - 1, by omega⟩
  have htb : am_tab 169 = at_169 := rfl
  refine ⟨Nat.le_of_ble_eq_true rfl, ?_⟩
  unfold fn_X9_seasonDeed at h
  show am_Go d 169 (0, [some (.inr (.inr (some (9, 0)))), some (.inl a1), some (.inl a2), some (.inl a3), some (.inl a4), none, none], [], am_mk m) _ _ 0 0
  refine am_Go.n htb 4 (S' := (6, [some (.inr (.inr (some (9, 0)))), some (.inl a1), some (.inl a2), some (.inl a3), some (.inl a4), none, none], [.inl a3, .inl a2, .inr (.inr (some (8, 2)))], am_mk m)) rfl ?_
  obtain ⟨r1, h2, h⟩ := am_bd h
  refine am_Go.cl htb rfl (ex_X8_weightOf d (by omega) 2 a2 a3 m r1 h2) ?_
  show am_Go d 169 (9, [some (.inr (.inr (some (9, 0)))), some (.inl a1), some (.inl a2), some (.inl a3), some (.inl a4), none, none], [.inl r1], am_mk m) _ _ _ _
  refine am_Go.n htb 3 (S' := (13, [some (.inr (.inr (some (9, 0)))), some (.inl a1), some (.inl a2), some (.inl a3), some (.inl a4), some (.inl r1), none], [.inl 3, .inl a1], am_mk m)) rfl ?_
  by_cases hc3 : a1 ≠ (3 : Int32)
  · rw [if_pos hc3] at h
    refine am_Go.c1 htb (S' := (30, [some (.inr (.inr (some (9, 0)))), some (.inl a1), some (.inl a2), some (.inl a3), some (.inl a4), some (.inl r1), none], [], am_mk m)) (if_pos hc3) ?_
    refine am_Go.n htb 2 (S' := (32, [some (.inr (.inr (some (9, 0)))), some (.inl a1), some (.inl a2), some (.inl a3), some (.inl a4), some (.inl r1), none], [.inl 2, .inl a1], am_mk m)) rfl ?_
    by_cases hc4 : a1 ≠ (2 : Int32)
    · rw [if_pos hc4] at h
      refine am_Go.c1 htb (S' := (68, [some (.inr (.inr (some (9, 0)))), some (.inl a1), some (.inl a2), some (.inl a3), some (.inl a4), some (.inl r1), none], [], am_mk m)) (if_pos hc4) ?_
      refine am_Go.n htb 2 (S' := (72, [some (.inr (.inr (some (9, 0)))), some (.inl a1), some (.inl a2), some (.inl a3), some (.inl a4), some (.inl r1), none], [.inl a4, .inl r1], am_mk m)) rfl ?_
      by_cases hc5 : r1 = a4
      · rw [if_pos hc5] at h
        refine am_Go.c1 htb (S' := (95, [some (.inr (.inr (some (9, 0)))), some (.inl a1), some (.inl a2), some (.inl a3), some (.inl a4), some (.inl r1), none], [], am_mk m)) (if_pos hc5) ?_
        cases h
        exact am_Go.rt htb rfl
      · rw [if_neg hc5] at h
        refine am_Go.c1 htb (S' := (75, [some (.inr (.inr (some (9, 0)))), some (.inl a1), some (.inl a2), some (.inl a3), some (.inl a4), some (.inl r1), none], [], am_mk m)) (if_neg hc5) ?_
        refine am_Go.n htb 10 (S' := (92, [some (.inr (.inr (some (9, 0)))), some (.inl a1), some (.inl a2), some (.inl a3), some (.inl a4), some (.inl r1), none], [.inl (m.1 39 2 0), .inl a4, .inl a3, .inl a2, .inr (.inr (some (8, 2)))], am_mk m)) rfl ?_
        obtain ⟨r6, h7, h⟩ := am_bd h
        refine am_Go.cl htb rfl (ex_X8_setHarm d (by omega) 2 a2 a3 a4 (m.1 39 2 0) m r6 h7) ?_
        show am_Go d 169 (95, [some (.inr (.inr (some (9, 0)))), some (.inl a1), some (.inl a2), some (.inl a3), some (.inl a4), some (.inl r1), none], [], am_mk r6) _ _ _ _
        cases h
        exact am_Go.rt htb rfl
    · rw [if_neg hc4] at h
      refine am_Go.c1 htb (S' := (35, [some (.inr (.inr (some (9, 0)))), some (.inl a1), some (.inl a2), some (.inl a3), some (.inl a4), some (.inl r1), none], [], am_mk m)) (if_neg hc4) ?_
      refine am_Go.n htb 11 (S' := (50, [some (.inr (.inr (some (9, 0)))), some (.inl a1), some (.inl a2), some (.inl a3), some (.inl a4), some (.inl r1), some (.inl (((1 : Int32) <<< (a2 &&& 31)) ||| ((1 : Int32) <<< (a3 &&& 31))))], [.inl (((1 : Int32) <<< (a2 &&& 31)) ||| ((1 : Int32) <<< (a3 &&& 31))), .inr (.inr (some (1, 0)))], am_mk m)) rfl ?_
      obtain ⟨r8, h9, h⟩ := am_bd h
      refine am_Go.cl htb rfl (ex_X1_isTable d (by omega) (((1 : Int32) <<< (a2 &&& 31)) ||| ((1 : Int32) <<< (a3 &&& 31))) m r8 h9) ?_
      show am_Go d 169 (53, [some (.inr (.inr (some (9, 0)))), some (.inl a1), some (.inl a2), some (.inl a3), some (.inl a4), some (.inl r1), some (.inl (((1 : Int32) <<< (a2 &&& 31)) ||| ((1 : Int32) <<< (a3 &&& 31))))], [.inl r8.1], am_mk r8.2) _ _ _ _
      obtain ⟨q13, h14, h⟩ := am_bd h
      refine am_Go.cut (S := (65, [some (.inr (.inr (some (9, 0)))), some (.inl a1), some (.inl a2), some (.inl a3), some (.inl a4), some (.inl r1), some (.inl (((1 : Int32) <<< (a2 &&& 31)) ||| ((1 : Int32) <<< (a3 &&& 31))))], [], am_mk q13)) ?_ (fun key => ?_)
      · refine am_Go.n htb 1 (S' := (95, [some (.inr (.inr (some (9, 0)))), some (.inl a1), some (.inl a2), some (.inl a3), some (.inl a4), some (.inl r1), some (.inl (((1 : Int32) <<< (a2 &&& 31)) ||| ((1 : Int32) <<< (a3 &&& 31))))], [], am_mk q13)) rfl ?_
        cases h
        exact am_Go.rt htb rfl
      · have h := h14
        by_cases hc10 : r8.1 = 0
        · rw [if_pos hc10] at h
          refine am_Go.c1 htb (S' := (65, [some (.inr (.inr (some (9, 0)))), some (.inl a1), some (.inl a2), some (.inl a3), some (.inl a4), some (.inl r1), some (.inl (((1 : Int32) <<< (a2 &&& 31)) ||| ((1 : Int32) <<< (a3 &&& 31))))], [], am_mk r8.2)) (if_pos hc10) ?_
          cases h
          exact am_Go.fg (by exact ⟨rfl, ⟨rfl, ⟨rfl, ⟨rfl, ⟨rfl, ⟨rfl, ⟨rfl, trivial⟩⟩⟩⟩⟩⟩⟩) key
        · rw [if_neg hc10] at h
          refine am_Go.c1 htb (S' := (56, [some (.inr (.inr (some (9, 0)))), some (.inl a1), some (.inl a2), some (.inl a3), some (.inl a4), some (.inl r1), some (.inl (((1 : Int32) <<< (a2 &&& 31)) ||| ((1 : Int32) <<< (a3 &&& 31))))], [], am_mk r8.2)) (if_neg hc10) ?_
          refine am_Go.n htb 3 (S' := (62, [some (.inr (.inr (some (9, 0)))), some (.inl a1), some (.inl a2), some (.inl a3), some (.inl a4), some (.inl r1), some (.inl (((1 : Int32) <<< (a2 &&& 31)) ||| ((1 : Int32) <<< (a3 &&& 31))))], [.inl (((1 : Int32) <<< (a2 &&& 31)) ||| ((1 : Int32) <<< (a3 &&& 31))), .inr (.inr (some (1, 0)))], am_mk r8.2)) rfl ?_
          obtain ⟨r11, h12, h⟩ := am_bd h
          refine am_Go.cl htb rfl (ex_X1_feedTable d (by omega) (((1 : Int32) <<< (a2 &&& 31)) ||| ((1 : Int32) <<< (a3 &&& 31))) r8.2 r11 h12) ?_
          show am_Go d 169 (65, [some (.inr (.inr (some (9, 0)))), some (.inl a1), some (.inl a2), some (.inl a3), some (.inl a4), some (.inl r1), some (.inl (((1 : Int32) <<< (a2 &&& 31)) ||| ((1 : Int32) <<< (a3 &&& 31))))], [], am_mk r11) _ _ _ _
          cases h
          exact am_Go.fg (by exact ⟨rfl, ⟨rfl, ⟨rfl, ⟨rfl, ⟨rfl, ⟨rfl, ⟨rfl, trivial⟩⟩⟩⟩⟩⟩⟩) key
  · rw [if_neg hc3] at h
    refine am_Go.c1 htb (S' := (16, [some (.inr (.inr (some (9, 0)))), some (.inl a1), some (.inl a2), some (.inl a3), some (.inl a4), some (.inl r1), none], [], am_mk m)) (if_neg hc3) ?_
    refine am_Go.n htb 6 (S' := (24, [some (.inr (.inr (some (9, 0)))), some (.inl a1), some (.inl a2), some (.inl a3), some (.inl a4), some (.inl r1), none], [.inl 0, .inl 0, .inl a3, .inl a2, .inr (.inr (some (8, 2)))], am_mk m)) rfl ?_
    obtain ⟨r15, h16, h⟩ := am_bd h
    refine am_Go.cl htb rfl (ex_X8_setHarm d (by omega) 2 a2 a3 0 0 m r15 h16) ?_
    show am_Go d 169 (27, [some (.inr (.inr (some (9, 0)))), some (.inl a1), some (.inl a2), some (.inl a3), some (.inl a4), some (.inl r1), none], [], am_mk r15) _ _ _ _
    refine am_Go.n htb 1 (S' := (95, [some (.inr (.inr (some (9, 0)))), some (.inl a1), some (.inl a2), some (.inl a3), some (.inl a4), some (.inl r1), none], [], am_mk r15)) rfl ?_
    cases h
    exact am_Go.rt htb rfl
-- X9_oneSeason
set_option maxRecDepth 100000 in
theorem ex_X9_oneSeason (d : Nat) (hd : 7 ≤ d)  (m : am_m) (t : am_m) (h : fn_X9_oneSeason  m = some t) : am_Ex am_cod d 168 [.inr (.inr (some (9, 0)))] (am_mk m) (none) (am_mk t) 0 0 := by
  obtain ⟨d, rfl⟩ : ∃ e, d = e + 1 := ⟨d - 1, by omega⟩
  have htb : am_tab 168 = at_168 := rfl
  refine ⟨Nat.le_of_ble_eq_true rfl, ?_⟩
  unfold fn_X9_oneSeason at h
  show am_Go d 168 (0, [some (.inr (.inr (some (9, 0)))), none, none, none, none], [], am_mk m) _ _ 0 0
  refine am_Go.n htb 5 (S' := (11, [some (.inr (.inr (some (9, 0)))), none, none, none, none], [.inl (m.1 8 2 0), .inr (.inr (some (0, 0)))], am_mk m)) rfl ?_
  obtain ⟨r1, h2, h⟩ := am_bd h
  refine am_Go.cl htb rfl (ex_X0_next d (by omega) (m.1 8 2 0) m r1 h2) ?_
  show am_Go d 168 (14, [some (.inr (.inr (some (9, 0)))), none, none, none, none], [.inl r1.1], am_mk r1.2) _ _ _ _
  refine am_Go.n htb 6 (S' := (26, [some (.inr (.inr (some (9, 0)))), some (.inl r1.1), none, none, none], [.inl (r1.2.1 8 2 0), .inr (.inr (some (0, 0)))], am_mk r1.2)) rfl ?_
  obtain ⟨r3, h4, h⟩ := am_bd h
  refine am_Go.cl htb rfl (ex_X0_next d (by omega) (r1.2.1 8 2 0) r1.2 r3 h4) ?_
  show am_Go d 168 (29, [some (.inr (.inr (some (9, 0)))), some (.inl r1.1), none, none, none], [.inl r3.1], am_mk r3.2) _ _ _ _
  refine am_Go.n htb 4 (S' := (36, [some (.inr (.inr (some (9, 0)))), some (.inl r1.1), some (.inl r3.1), none, none], [.inl 9, .inr (.inr (some (0, 0)))], am_mk r3.2)) rfl ?_
  obtain ⟨r5, h6, h⟩ := am_bd h
  refine am_Go.cl htb rfl (ex_X0_next d (by omega) 9 r3.2 r5 h6) ?_
  show am_Go d 168 (39, [some (.inr (.inr (some (9, 0)))), some (.inl r1.1), some (.inl r3.1), none, none], [.inl r5.1], am_mk r5.2) _ _ _ _
  refine am_Go.n htb 6 (S' := (47, [some (.inr (.inr (some (9, 0)))), some (.inl r1.1), some (.inl r3.1), some (.inl (r5.1 + (1 : Int32))), none], [.inl 4, .inr (.inr (some (0, 0)))], am_mk r5.2)) rfl ?_
  obtain ⟨r7, h8, h⟩ := am_bd h
  refine am_Go.cl htb rfl (ex_X0_next d (by omega) 4 r5.2 r7 h8) ?_
  show am_Go d 168 (50, [some (.inr (.inr (some (9, 0)))), some (.inl r1.1), some (.inl r3.1), some (.inl (r5.1 + (1 : Int32))), none], [.inl r7.1], am_mk r7.2) _ _ _ _
  refine am_Go.n htb 3 (S' := (54, [some (.inr (.inr (some (9, 0)))), some (.inl r1.1), some (.inl r3.1), some (.inl (r5.1 + (1 : Int32))), some (.inl r7.1)], [.inl r3.1, .inl r1.1], am_mk r7.2)) rfl ?_
  obtain ⟨q12, h15, h⟩ := am_bd h
  refine am_Go.cut (S := (66, [some (.inr (.inr (some (9, 0)))), some (.inl r1.1), some (.inl r3.1), some (.inl (r5.1 + (1 : Int32))), some (.inl r7.1)], [], am_mk q12)) ?_ (fun key => ?_)
  · refine am_Go.n htb 2 (S' := (70, [some (.inr (.inr (some (9, 0)))), some (.inl r1.1), some (.inl r3.1), some (.inl (r5.1 + (1 : Int32))), some (.inl r7.1)], [.inr (.inr (some (1, 0)))], am_mk q12)) rfl ?_
    obtain ⟨r13, h14, h⟩ := am_bd h
    refine am_Go.cl htb rfl (ex_X1_passDay d (by omega)  q12 r13 h14) ?_
    show am_Go d 168 (73, [some (.inr (.inr (some (9, 0)))), some (.inl r1.1), some (.inl r3.1), some (.inl (r5.1 + (1 : Int32))), some (.inl r7.1)], [], am_mk r13) _ _ _ _
    cases h
    exact am_Go.rt htb rfl
  · have h := h15
    by_cases hc9 : r1.1 = r3.1
    · rw [if_pos hc9] at h
      refine am_Go.c1 htb (S' := (66, [some (.inr (.inr (some (9, 0)))), some (.inl r1.1), some (.inl r3.1), some (.inl (r5.1 + (1 : Int32))), some (.inl r7.1)], [], am_mk r7.2)) (if_pos hc9) ?_
      cases h
      exact am_Go.fg (by exact ⟨rfl, ⟨rfl, ⟨rfl, ⟨rfl, ⟨rfl, trivial⟩⟩⟩⟩⟩) key
    · rw [if_neg hc9] at h
      refine am_Go.c1 htb (S' := (57, [some (.inr (.inr (some (9, 0)))), some (.inl r1.1), some (.inl r3.1), some (.inl (r5.1 + (1 : Int32))), some (.inl r7.1)], [], am_mk r7.2)) (if_neg hc9) ?_
      refine am_Go.n htb 5 (S' := (63, [some (.inr (.inr (some (9, 0)))), some (.inl r1.1), some (.inl r3.1), some (.inl (r5.1 + (1 : Int32))), some (.inl r7.1)], [.inl (r5.1 + (1 : Int32)), .inl r3.1, .inl r1.1, .inl r7.1, .inr (.inr (some (9, 0)))], am_mk r7.2)) rfl ?_
      obtain ⟨r10, h11, h⟩ := am_bd h
      refine am_Go.cl htb rfl (ex_X9_seasonDeed d (by omega) r7.1 r1.1 r3.1 (r5.1 + (1 : Int32)) r7.2 r10 h11) ?_
      show am_Go d 168 (66, [some (.inr (.inr (some (9, 0)))), some (.inl r1.1), some (.inl r3.1), some (.inl (r5.1 + (1 : Int32))), some (.inl r7.1)], [], am_mk r10) _ _ _ _
      cases h
      exact am_Go.fg (by exact ⟨rfl, ⟨rfl, ⟨rfl, ⟨rfl, ⟨rfl, trivial⟩⟩⟩⟩⟩) key
-- X9_seasons
set_option maxRecDepth 100000 in
theorem lt_X9_seasons_91 (d : Nat) (hd : 8 ≤ d + 1) {r : Option am_V} {M' : am_M} {kc ks : Nat} {n : Nat} {x2 : Int32} {x3 : Int32} {m : am_m} {t : am_m} (h : lp_X9_seasons_91 n x2 x3 m = some t) (hk : am_Go d 148 (121, [some (.inr (.inr (some (9, 0)))), none, some (.inl x2), none], [], am_mk t) r M' kc ks) : am_Go d 148 (91, [some (.inr (.inr (some (9, 0)))), none, some (.inl x2), some (.inl x3)], [], am_mk m) r M' kc ks := by
  have htb : am_tab 148 = at_148 := rfl
  induction n generalizing x3 m with
  | zero => cases h
  | succ n ih =>
    unfold lp_X9_seasons_91 at h
    refine am_Go.n htb 2 (S' := (93, [some (.inr (.inr (some (9, 0)))), none, some (.inl x2), some (.inl x3)], [.inl x2, .inl x3], am_mk m)) rfl ?_
    by_cases hc20 : x2 ≤ x3
    · rw [if_pos hc20] at h
      refine am_Go.c1 htb (S' := (121, [some (.inr (.inr (some (9, 0)))), none, some (.inl x2), some (.inl x3)], [], am_mk m)) (if_pos hc20) ?_
      cases h
      exact am_Go.fg (by exact ⟨rfl, ⟨rfl, trivial⟩⟩) hk
    · rw [if_neg hc20] at h
      refine am_Go.c1 htb (S' := (96, [some (.inr (.inr (some (9, 0)))), none, some (.inl x2), some (.inl x3)], [], am_mk m)) (if_neg hc20) ?_
      refine am_Go.n htb 6 (S' := (108, [some (.inr (.inr (some (9, 0)))), none, some (.inl x2), some (.inl x3)], [.inl 999, .inl (m.1 39 2 0)], am_mk m)) rfl ?_
      by_cases hc21 : (999 : Int32) ≤ (m.1 39 2 0)
      · rw [if_pos hc21] at h
        refine am_Go.c1 htb (S' := (121, [some (.inr (.inr (some (9, 0)))), none, some (.inl x2), some (.inl x3)], [], am_mk m)) (if_pos hc21) ?_
        cases h
        exact am_Go.fg (by exact ⟨rfl, ⟨rfl, trivial⟩⟩) hk
      · rw [if_neg hc21] at h
        refine am_Go.c1 htb (S' := (111, [some (.inr (.inr (some (9, 0)))), none, some (.inl x2), some (.inl x3)], [], am_mk m)) (if_neg hc21) ?_
        refine am_Go.n htb 1 (S' := (112, [some (.inr (.inr (some (9, 0)))), none, some (.inl x2), some (.inl x3)], [.inr (.inr (some (9, 0)))], am_mk m)) rfl ?_
        obtain ⟨r22, h23, h⟩ := am_bd h
        refine am_Go.cl htb rfl (ex_X9_oneSeason d (by omega)  m r22 h23) ?_
        show am_Go d 148 (115, [some (.inr (.inr (some (9, 0)))), none, some (.inl x2), some (.inl x3)], [], am_mk r22) _ _ _ _
        refine am_Go.n htb 2 (S' := (91, [some (.inr (.inr (some (9, 0)))), none, some (.inl x2), some (.inl (x3 + 1))], [], am_mk r22)) rfl ?_
        first | exact ih h | exact ih h hk
set_option maxRecDepth 100000 in
theorem ex_X9_seasons (d : Nat) (hd : 8 ≤ d) (a1 : Int32) (a2 : Int32) (m : am_m) (t : Int32 × am_m) (h : fn_X9_seasons a1 a2 m = some t) : am_Ex am_cod d 148 [.inr (.inr (some (9, 0))), .inl a1, .inl a2] (am_mk m) (some (.inl t.1)) (am_mk t.2) 0 0 := by
  obtain ⟨d, rfl⟩ : ∃ e, d = e + 1 := ⟨d - 1, by omega⟩
  have htb : am_tab 148 = at_148 := rfl
  refine ⟨Nat.le_of_ble_eq_true rfl, ?_⟩
  unfold fn_X9_seasons at h
  show am_Go d 148 (0, [some (.inr (.inr (some (9, 0)))), some (.inl a1), some (.inl a2), none], [], am_mk m) _ _ 0 0
  refine am_Go.n htb 1 (S' := (1, [some (.inr (.inr (some (9, 0)))), some (.inl a1), some (.inl a2), none], [.inl a1], am_mk m)) rfl ?_
  by_cases hc1 : a1 < 0
  · rw [if_pos hc1] at h
    refine am_Go.c1 htb (S' := (22, [some (.inr (.inr (some (9, 0)))), some (.inl a1), some (.inl a2), none], [], am_mk m)) (if_pos hc1) ?_
    refine am_Go.n htb 2 (S' := (24, [some (.inr (.inr (some (9, 0)))), some (.inl a1), some (.inl a2), none], [.inl (-1), .inr (.inr (some (9, 0)))], am_mk m)) rfl ?_
    obtain ⟨r2, h3, h⟩ := am_bd h
    refine am_Go.cl htb rfl (ex_X9_told d (by omega) (-1) m r2 h3) ?_
    show am_Go d 148 (27, [some (.inr (.inr (some (9, 0)))), some (.inl a1), some (.inl a2), none], [.inl r2.1], am_mk r2.2) _ _ _ _
    cases h
    exact am_Go.rt htb rfl
  · rw [if_neg hc1] at h
    refine am_Go.c1 htb (S' := (4, [some (.inr (.inr (some (9, 0)))), some (.inl a1), some (.inl a2), none], [], am_mk m)) (if_neg hc1) ?_
    refine am_Go.n htb 2 (S' := (8, [some (.inr (.inr (some (9, 0)))), some (.inl a1), some (.inl a2), none], [.inl 1000000, .inl a1], am_mk m)) rfl ?_
    by_cases hc4 : (1000000 : Int32) < a1
    · rw [if_pos hc4] at h
      refine am_Go.c1 htb (S' := (22, [some (.inr (.inr (some (9, 0)))), some (.inl a1), some (.inl a2), none], [], am_mk m)) (if_pos hc4) ?_
      refine am_Go.n htb 2 (S' := (24, [some (.inr (.inr (some (9, 0)))), some (.inl a1), some (.inl a2), none], [.inl (-1), .inr (.inr (some (9, 0)))], am_mk m)) rfl ?_
      obtain ⟨r5, h6, h⟩ := am_bd h
      refine am_Go.cl htb rfl (ex_X9_told d (by omega) (-1) m r5 h6) ?_
      show am_Go d 148 (27, [some (.inr (.inr (some (9, 0)))), some (.inl a1), some (.inl a2), none], [.inl r5.1], am_mk r5.2) _ _ _ _
      cases h
      exact am_Go.rt htb rfl
    · rw [if_neg hc4] at h
      refine am_Go.c1 htb (S' := (11, [some (.inr (.inr (some (9, 0)))), some (.inl a1), some (.inl a2), none], [], am_mk m)) (if_neg hc4) ?_
      refine am_Go.n htb 2 (S' := (13, [some (.inr (.inr (some (9, 0)))), some (.inl a1), some (.inl a2), none], [.inl 1, .inl a2], am_mk m)) rfl ?_
      by_cases hc7 : a2 < (1 : Int32)
      · rw [if_pos hc7] at h
        refine am_Go.c1 htb (S' := (22, [some (.inr (.inr (some (9, 0)))), some (.inl a1), some (.inl a2), none], [], am_mk m)) (if_pos hc7) ?_
        refine am_Go.n htb 2 (S' := (24, [some (.inr (.inr (some (9, 0)))), some (.inl a1), some (.inl a2), none], [.inl (-1), .inr (.inr (some (9, 0)))], am_mk m)) rfl ?_
        obtain ⟨r8, h9, h⟩ := am_bd h
        refine am_Go.cl htb rfl (ex_X9_told d (by omega) (-1) m r8 h9) ?_
        show am_Go d 148 (27, [some (.inr (.inr (some (9, 0)))), some (.inl a1), some (.inl a2), none], [.inl r8.1], am_mk r8.2) _ _ _ _
        cases h
        exact am_Go.rt htb rfl
      · rw [if_neg hc7] at h
        refine am_Go.c1 htb (S' := (16, [some (.inr (.inr (some (9, 0)))), some (.inl a1), some (.inl a2), none], [], am_mk m)) (if_neg hc7) ?_
        refine am_Go.n htb 2 (S' := (19, [some (.inr (.inr (some (9, 0)))), some (.inl a1), some (.inl a2), none], [.inl 60, .inl a2], am_mk m)) rfl ?_
        by_cases hc10 : a2 ≤ (60 : Int32)
        · rw [if_pos hc10] at h
          refine am_Go.c1 htb (S' := (28, [some (.inr (.inr (some (9, 0)))), some (.inl a1), some (.inl a2), none], [], am_mk m)) (if_pos hc10) ?_
          refine am_Go.n htb 3 (S' := (35, [some (.inr (.inr (some (9, 0)))), some (.inl a1), some (.inl a2), none], [.inl (m.1 8 0 0)], am_mk m)) rfl ?_
          by_cases hc11 : (m.1 8 0 0) ≠ 0
          · rw [if_pos hc11] at h
            refine am_Go.c1 htb (S' := (45, [some (.inr (.inr (some (9, 0)))), some (.inl a1), some (.inl a2), none], [], am_mk m)) (if_pos hc11) ?_
            refine am_Go.n htb 4 (S' := (53, [some (.inr (.inr (some (9, 0)))), some (.inl a1), some (.inl a2), none], [.inr (.inr (some (8, 0))), .inr (.inr (some (8, 2)))], am_mk m)) rfl ?_
            obtain ⟨r12, h13, h⟩ := am_bd h
            refine am_Go.cl htb rfl (ex_X8_become d (by omega) 2 0 m r12 h13) ?_
            show am_Go d 148 (56, [some (.inr (.inr (some (9, 0)))), some (.inl a1), some (.inl a2), none], [], am_mk r12) _ _ _ _
            refine am_Go.n htb 9 (S' := (75, [some (.inr (.inr (some (9, 0)))), some (.inl a1), some (.inl a2), none], [.inl (r12.1 8 2 3), .inr (.inr (some (8, 2))), .inr (.inr (some (8, 2))), .inr (.inr (some (1, 0)))], am_mk r12)) rfl ?_
            obtain ⟨r14, h15, h⟩ := am_bd h
            refine am_Go.cl htb rfl (ex_X8_lawOf d (by omega) 2 (r12.1 8 2 3) r12 r14 h15) ?_
            show am_Go d 148 (78, [some (.inr (.inr (some (9, 0)))), some (.inl a1), some (.inl a2), none], [.inr (.inr (Option.map (fun j => (5, j)) r14)), .inr (.inr (some (8, 2))), .inr (.inr (some (1, 0)))], am_mk r12) _ _ _ _
            obtain ⟨r16, h17, h⟩ := am_bd h
            refine am_Go.cl htb rfl (ex_X1_look d (by omega) 2 r14 r12 r16 h17) ?_
            show am_Go d 148 (81, [some (.inr (.inr (some (9, 0)))), some (.inl a1), some (.inl a2), none], [], am_mk r16) _ _ _ _
            refine am_Go.n htb 3 (S' := (86, [some (.inr (.inr (some (9, 0)))), some (.inl a1), some (.inl a2), none], [.inl a1, .inr (.inr (some (0, 0)))], am_mk r16)) rfl ?_
            obtain ⟨r18, h19, h⟩ := am_bd h
            refine am_Go.cl htb rfl (ex_X0_begin d (by omega) a1 r16 r18 h19) ?_
            show am_Go d 148 (89, [some (.inr (.inr (some (9, 0)))), some (.inl a1), some (.inl a2), none], [], am_mk r18) _ _ _ _
            refine am_Go.n htb 2 (S' := (91, [some (.inr (.inr (some (9, 0)))), some (.inl a1), some (.inl a2), some (.inl 0)], [], am_mk r18)) rfl ?_
            refine am_Go.fg (L0 := [some (.inr (.inr (some (9, 0)))), none, some (.inl a2), some (.inl 0)]) (by exact ⟨rfl, ⟨rfl, ⟨rfl, trivial⟩⟩⟩) ?_
            obtain ⟨q24, h25, h⟩ := am_bd h
            refine lt_X9_seasons_91 _ hd (h := h25) (hk := ?_)
            refine am_Go.n htb 3 (S' := (126, [some (.inr (.inr (some (9, 0)))), none, some (.inl a2), none], [.inr (.inr (some (8, 2))), .inr (.inr (some (9, 0)))], am_mk q24)) rfl ?_
            obtain ⟨r26, h27, h⟩ := am_bd h
            refine am_Go.cl htb rfl (ex_X8_starving d (by omega) 2 q24 r26 h27) ?_
            show am_Go d 148 (129, [some (.inr (.inr (some (9, 0)))), none, some (.inl a2), none], [.inl r26, .inr (.inr (some (9, 0)))], am_mk q24) _ _ _ _
            obtain ⟨r28, h29, h⟩ := am_bd h
            refine am_Go.cl htb rfl (ex_X9_told d (by omega) r26 q24 r28 h29) ?_
            show am_Go d 148 (132, [some (.inr (.inr (some (9, 0)))), none, some (.inl a2), none], [.inl r28.1], am_mk r28.2) _ _ _ _
            cases h
            exact am_Go.rt htb rfl
          · rw [if_neg hc11] at h
            refine am_Go.c1 htb (S' := (38, [some (.inr (.inr (some (9, 0)))), some (.inl a1), some (.inl a2), none], [], am_mk m)) (if_neg hc11) ?_
            refine am_Go.n htb 2 (S' := (41, [some (.inr (.inr (some (9, 0)))), some (.inl a1), some (.inl a2), none], [.inl (-3), .inr (.inr (some (9, 0)))], am_mk m)) rfl ?_
            obtain ⟨r30, h31, h⟩ := am_bd h
            refine am_Go.cl htb rfl (ex_X9_told d (by omega) (-3) m r30 h31) ?_
            show am_Go d 148 (44, [some (.inr (.inr (some (9, 0)))), some (.inl a1), some (.inl a2), none], [.inl r30.1], am_mk r30.2) _ _ _ _
            cases h
            exact am_Go.rt htb rfl
        · rw [if_neg hc10] at h
          refine am_Go.c1 htb (S' := (22, [some (.inr (.inr (some (9, 0)))), some (.inl a1), some (.inl a2), none], [], am_mk m)) (if_neg hc10) ?_
          refine am_Go.n htb 2 (S' := (24, [some (.inr (.inr (some (9, 0)))), some (.inl a1), some (.inl a2), none], [.inl (-1), .inr (.inr (some (9, 0)))], am_mk m)) rfl ?_
          obtain ⟨r32, h33, h⟩ := am_bd h
          refine am_Go.cl htb rfl (ex_X9_told d (by omega) (-1) m r32 h33) ?_
          show am_Go d 148 (27, [some (.inr (.inr (some (9, 0)))), some (.inl a1), some (.inl a2), none], [.inl r32.1], am_mk r32.2) _ _ _ _
          cases h
          exact am_Go.rt htb rfl
-- X9_drawn
set_option maxRecDepth 100000 in
theorem ex_X9_drawn (d : Nat) (hd : 3 ≤ d) (a1 : Int32) (a2 : Int32) (m : am_m) (t : Int32) (h : fn_X9_drawn a1 a2 m = some t) : am_Ex am_cod d 149 [.inr (.inr (some (9, 0))), .inl a1, .inl a2] (am_mk m) (some (.inl t)) (am_mk m) 0 0 := by
  obtain ⟨d, rfl⟩ : ∃ e, d = e + 1 := ⟨d - 1, by omega⟩
  have htb : am_tab 149 = at_149 := rfl
  refine ⟨Nat.le_of_ble_eq_true rfl, ?_⟩
  unfold fn_X9_drawn at h
  show am_Go d 149 (0, [some (.inr (.inr (some (9, 0)))), some (.inl a1), some (.inl a2)], [], am_mk m) _ _ 0 0
  refine am_Go.n htb 3 (S' := (5, [some (.inr (.inr (some (9, 0)))), some (.inl a1), some (.inl a2)], [.inl a1, .inr (.inr (some (8, 2)))], am_mk m)) rfl ?_
  obtain ⟨r1, h2, h⟩ := am_bd h
  refine am_Go.cl htb rfl (ex_X8_has d (by omega) 2 a1 m r1 h2) ?_
  show am_Go d 149 (8, [some (.inr (.inr (some (9, 0)))), some (.inl a1), some (.inl a2)], [.inl r1], am_mk m) _ _ _ _
  by_cases hc3 : r1 ≠ 0
  · rw [if_pos hc3] at h
    refine am_Go.c1 htb (S' := (13, [some (.inr (.inr (some (9, 0)))), some (.inl a1), some (.inl a2)], [], am_mk m)) (if_pos hc3) ?_
    refine am_Go.n htb 2 (S' := (15, [some (.inr (.inr (some (9, 0)))), some (.inl a1), some (.inl a2)], [.inl (-1), .inl a2], am_mk m)) rfl ?_
    by_cases hc4 : a2 ≠ (-1 : Int32)
    · rw [if_pos hc4] at h
      refine am_Go.c1 htb (S' := (27, [some (.inr (.inr (some (9, 0)))), some (.inl a1), some (.inl a2)], [], am_mk m)) (if_pos hc4) ?_
      refine am_Go.n htb 4 (S' := (33, [some (.inr (.inr (some (9, 0)))), some (.inl a1), some (.inl a2)], [.inl a2, .inl a1, .inr (.inr (some (8, 2)))], am_mk m)) rfl ?_
      obtain ⟨r5, h6, h⟩ := am_bd h
      refine am_Go.cl htb rfl (ex_X8_hasTwo d (by omega) 2 a1 a2 m r5 h6) ?_
      show am_Go d 149 (36, [some (.inr (.inr (some (9, 0)))), some (.inl a1), some (.inl a2)], [.inl r5], am_mk m) _ _ _ _
      by_cases hc7 : r5 = 0
      · rw [if_pos hc7] at h
        refine am_Go.c1 htb (S' := (51, [some (.inr (.inr (some (9, 0)))), some (.inl a1), some (.inl a2)], [], am_mk m)) (if_pos hc7) ?_
        refine am_Go.n htb 1 (S' := (52, [some (.inr (.inr (some (9, 0)))), some (.inl a1), some (.inl a2)], [.inl (-1)], am_mk m)) rfl ?_
        cases h
        exact am_Go.rt htb rfl
      · rw [if_neg hc7] at h
        refine am_Go.c1 htb (S' := (39, [some (.inr (.inr (some (9, 0)))), some (.inl a1), some (.inl a2)], [], am_mk m)) (if_neg hc7) ?_
        refine am_Go.n htb 4 (S' := (45, [some (.inr (.inr (some (9, 0)))), some (.inl a1), some (.inl a2)], [.inl a2, .inl a1, .inr (.inr (some (8, 2)))], am_mk m)) rfl ?_
        obtain ⟨r8, h9, h⟩ := am_bd h
        refine am_Go.cl htb rfl (ex_X8_weightOf d (by omega) 2 a1 a2 m r8 h9) ?_
        show am_Go d 149 (48, [some (.inr (.inr (some (9, 0)))), some (.inl a1), some (.inl a2)], [.inl r8], am_mk m) _ _ _ _
        refine am_Go.n htb 1 (S' := (52, [some (.inr (.inr (some (9, 0)))), some (.inl a1), some (.inl a2)], [.inl r8], am_mk m)) rfl ?_
        cases h
        exact am_Go.rt htb rfl
    · rw [if_neg hc4] at h
      refine am_Go.c1 htb (S' := (18, [some (.inr (.inr (some (9, 0)))), some (.inl a1), some (.inl a2)], [], am_mk m)) (if_neg hc4) ?_
      refine am_Go.n htb 3 (S' := (23, [some (.inr (.inr (some (9, 0)))), some (.inl a1), some (.inl a2)], [.inl a1, .inr (.inr (some (8, 2)))], am_mk m)) rfl ?_
      obtain ⟨r10, h11, h⟩ := am_bd h
      refine am_Go.cl htb rfl (ex_X8_fedOf d (by omega) 2 a1 m r10 h11) ?_
      show am_Go d 149 (26, [some (.inr (.inr (some (9, 0)))), some (.inl a1), some (.inl a2)], [.inl r10], am_mk m) _ _ _ _
      cases h
      exact am_Go.rt htb rfl
  · rw [if_neg hc3] at h
    refine am_Go.c1 htb (S' := (11, [some (.inr (.inr (some (9, 0)))), some (.inl a1), some (.inl a2)], [], am_mk m)) (if_neg hc3) ?_
    refine am_Go.n htb 1 (S' := (12, [some (.inr (.inr (some (9, 0)))), some (.inl a1), some (.inl a2)], [.inl (-1)], am_mk m)) rfl ?_
    cases h
    exact am_Go.rt htb rfl
-- X9_back
set_option maxRecDepth 100000 in
theorem ex_X9_back (d : Nat) (hd : 3 ≤ d) (a1 : Int32) (m : am_m) (t : Int32 × am_m) (h : fn_X9_back a1 m = some t) : am_Ex am_cod d 151 [.inr (.inr (some (9, 0))), .inl a1] (am_mk m) (some (.inl t.1)) (am_mk t.2) 0 0 := by
  obtain ⟨d, rfl⟩ : ∃ e, d = e + 1 := ⟨d - 1, by omega⟩
  have htb : am_tab 151 = at_151 := rfl
  refine ⟨Nat.le_of_ble_eq_true rfl, ?_⟩
  unfold fn_X9_back at h
  show am_Go d 151 (0, [some (.inr (.inr (some (9, 0)))), some (.inl a1), none], [], am_mk m) _ _ 0 0
  refine am_Go.n htb 1 (S' := (1, [some (.inr (.inr (some (9, 0)))), some (.inl a1), none], [.inl a1], am_mk m)) rfl ?_
  by_cases hc1 : a1 < 0
  · rw [if_pos hc1] at h
    refine am_Go.c1 htb (S' := (9, [some (.inr (.inr (some (9, 0)))), some (.inl a1), none], [], am_mk m)) (if_pos hc1) ?_
    refine am_Go.n htb 2 (S' := (11, [some (.inr (.inr (some (9, 0)))), some (.inl a1), none], [.inl (-1), .inr (.inr (some (9, 0)))], am_mk m)) rfl ?_
    obtain ⟨r2, h3, h⟩ := am_bd h
    refine am_Go.cl htb rfl (ex_X9_told d (by omega) (-1) m r2 h3) ?_
    show am_Go d 151 (14, [some (.inr (.inr (some (9, 0)))), some (.inl a1), none], [.inl r2.1], am_mk r2.2) _ _ _ _
    cases h
    exact am_Go.rt htb rfl
  · rw [if_neg hc1] at h
    refine am_Go.c1 htb (S' := (4, [some (.inr (.inr (some (9, 0)))), some (.inl a1), none], [], am_mk m)) (if_neg hc1) ?_
    refine am_Go.n htb 2 (S' := (6, [some (.inr (.inr (some (9, 0)))), some (.inl a1), none], [.inl 2, .inl a1], am_mk m)) rfl ?_
    by_cases hc4 : a1 < (2 : Int32)
    · rw [if_pos hc4] at h
      refine am_Go.c1 htb (S' := (15, [some (.inr (.inr (some (9, 0)))), some (.inl a1), none], [], am_mk m)) (if_pos hc4) ?_
      refine am_Go.n htb 3 (S' := (20, [some (.inr (.inr (some (9, 0)))), some (.inl a1), none], [.inl a1, .inr (.inr (some (101, 0)))], am_mk m)) rfl ?_
      obtain ⟨hg5, h⟩ := am_ck_some h
      refine am_Go.c1 htb (S' := (21, [some (.inr (.inr (some (9, 0)))), some (.inl a1), none], [.inr (.inr (Option.map (fun j => (8, j)) (m.2.2.2.2.2.1 0 a1.toNatClampNeg)))], am_mk m)) (if_neg hg5) ?_
      refine am_Go.n htb 2 (S' := (23, [some (.inr (.inr (some (9, 0)))), some (.inl a1), some (.inr (.inr (Option.map (fun j => (8, j)) (m.2.2.2.2.2.1 0 a1.toNatClampNeg))))], [.inr (.inr (Option.map (fun j => (8, j)) (m.2.2.2.2.2.1 0 a1.toNatClampNeg)))], am_mk m)) rfl ?_
      cases hu7 : (m.2.2.2.2.2.1 0 a1.toNatClampNeg) with
      | none =>
        rw [hu7] at h
        refine am_Go.c1 htb (S' := (26, [some (.inr (.inr (some (9, 0)))), some (.inl a1), some (.inr (.inr none))], [], am_mk m)) rfl ?_
        refine am_Go.n htb 2 (S' := (29, [some (.inr (.inr (some (9, 0)))), some (.inl a1), some (.inr (.inr none))], [.inl (-2), .inr (.inr (some (9, 0)))], am_mk m)) rfl ?_
        obtain ⟨r8, h9, h⟩ := am_bd h
        refine am_Go.cl htb rfl (ex_X9_told d (by omega) (-2) m r8 h9) ?_
        show am_Go d 151 (32, [some (.inr (.inr (some (9, 0)))), some (.inl a1), some (.inr (.inr none))], [.inl r8.1], am_mk r8.2) _ _ _ _
        cases h
        exact am_Go.rt htb rfl
      | some u6 =>
        rw [hu7] at h
        refine am_Go.c1 htb (S' := (33, [some (.inr (.inr (some (9, 0)))), some (.inl a1), some (.inr (.inr (some (8, u6))))], [], am_mk m)) rfl ?_
        refine am_Go.n htb 3 (S' := (38, [some (.inr (.inr (some (9, 0)))), some (.inl a1), some (.inr (.inr (some (8, u6))))], [.inr (.inr (some (8, u6))), .inr (.inr (some (8, 0)))], am_mk m)) rfl ?_
        obtain ⟨r10, h11, h⟩ := am_bd h
        refine am_Go.cl htb rfl (ex_X8_become d (by omega) 0 u6 m r10 h11) ?_
        show am_Go d 151 (41, [some (.inr (.inr (some (9, 0)))), some (.inl a1), some (.inr (.inr (some (8, u6))))], [], am_mk r10) _ _ _ _
        refine am_Go.n htb 2 (S' := (45, [some (.inr (.inr (some (9, 0)))), some (.inl a1), some (.inr (.inr (some (8, u6))))], [.inr (.inr (some (3, 0)))], am_mk r10)) rfl ?_
        obtain ⟨r12, h13, h⟩ := am_bd h
        refine am_Go.cl htb rfl (ex_X3_clear d (by omega) 0 r10 r12 h13) ?_
        show am_Go d 151 (48, [some (.inr (.inr (some (9, 0)))), some (.inl a1), some (.inr (.inr (some (8, u6))))], [], am_mk r12) _ _ _ _
        refine am_Go.n htb 2 (S' := (50, [some (.inr (.inr (some (9, 0)))), some (.inl a1), some (.inr (.inr (some (8, u6))))], [.inl 0, .inr (.inr (some (9, 0)))], am_mk r12)) rfl ?_
        obtain ⟨r14, h15, h⟩ := am_bd h
        refine am_Go.cl htb rfl (ex_X9_told d (by omega) 0 r12 r14 h15) ?_
        show am_Go d 151 (53, [some (.inr (.inr (some (9, 0)))), some (.inl a1), some (.inr (.inr (some (8, u6))))], [.inl r14.1], am_mk r14.2) _ _ _ _
        cases h
        exact am_Go.rt htb rfl
    · rw [if_neg hc4] at h
      refine am_Go.c1 htb (S' := (9, [some (.inr (.inr (some (9, 0)))), some (.inl a1), none], [], am_mk m)) (if_neg hc4) ?_
      refine am_Go.n htb 2 (S' := (11, [some (.inr (.inr (some (9, 0)))), some (.inl a1), none], [.inl (-1), .inr (.inr (some (9, 0)))], am_mk m)) rfl ?_
      obtain ⟨r16, h17, h⟩ := am_bd h
      refine am_Go.cl htb rfl (ex_X9_told d (by omega) (-1) m r16 h17) ?_
      show am_Go d 151 (14, [some (.inr (.inr (some (9, 0)))), some (.inl a1), none], [.inl r16.1], am_mk r16.2) _ _ _ _
      cases h
      exact am_Go.rt htb rfl
