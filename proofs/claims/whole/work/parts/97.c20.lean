-- X9_doFeast
set_option maxRecDepth 100000 in
theorem ex_X9_doFeast (d : Nat) (hd : 6 ≤ d) (a1 : Int32) (m : am_m) (t : Int32 × am_m) (h : fn_X9_doFeast a1 m = some t) : am_Ex am_cod d 161 [.inr (.inr (some (9, 0))), .inl a1] (am_mk m) (some (.inl t.1)) (am_mk t.2) 0 0 := by
  obtain ⟨d, rfl⟩ : ∃ e, d = e + 1 := ⟨d - 1, by omega⟩
  have htb : am_tab 161 = at_161 := rfl
  refine ⟨Nat.le_of_ble_eq_true rfl, ?_⟩
  unfold fn_X9_doFeast at h
  show am_Go d 161 (0, [some (.inr (.inr (some (9, 0)))), some (.inl a1)], [], am_mk m) _ _ 0 0
  refine am_Go.n htb 1 (S' := (1, [some (.inr (.inr (some (9, 0)))), some (.inl a1)], [.inl a1], am_mk m)) rfl ?_
  by_cases hc1 : a1 < 0
  · rw [if_pos hc1] at h
    refine am_Go.c1 htb (S' := (10, [some (.inr (.inr (some (9, 0)))), some (.inl a1)], [], am_mk m)) (if_pos hc1) ?_
    refine am_Go.n htb 1 (S' := (11, [some (.inr (.inr (some (9, 0)))), some (.inl a1)], [.inl (-1)], am_mk m)) rfl ?_
    cases h
    exact am_Go.rt htb rfl
  · rw [if_neg hc1] at h
    refine am_Go.c1 htb (S' := (4, [some (.inr (.inr (some (9, 0)))), some (.inl a1)], [], am_mk m)) (if_neg hc1) ?_
    refine am_Go.n htb 2 (S' := (7, [some (.inr (.inr (some (9, 0)))), some (.inl a1)], [.inl 127, .inl a1], am_mk m)) rfl ?_
    by_cases hc2 : a1 ≤ (127 : Int32)
    · rw [if_pos hc2] at h
      refine am_Go.c1 htb (S' := (12, [some (.inr (.inr (some (9, 0)))), some (.inl a1)], [], am_mk m)) (if_pos hc2) ?_
      refine am_Go.n htb 3 (S' := (17, [some (.inr (.inr (some (9, 0)))), some (.inl a1)], [.inl a1, .inr (.inr (some (8, 0)))], am_mk m)) rfl ?_
      obtain ⟨r3, h4, h⟩ := am_bd h
      refine am_Go.cl htb rfl (ex_X8_hasSet d (by omega) 0 a1 m r3 h4) ?_
      show am_Go d 161 (20, [some (.inr (.inr (some (9, 0)))), some (.inl a1)], [.inl r3], am_mk m) _ _ _ _
      by_cases hc5 : r3 ≠ 0
      · rw [if_pos hc5] at h
        refine am_Go.c1 htb (S' := (26, [some (.inr (.inr (some (9, 0)))), some (.inl a1)], [], am_mk m)) (if_pos hc5) ?_
        refine am_Go.n htb 3 (S' := (31, [some (.inr (.inr (some (9, 0)))), some (.inl a1)], [.inl a1, .inr (.inr (some (1, 0)))], am_mk m)) rfl ?_
        obtain ⟨r6, h7, h⟩ := am_bd h
        refine am_Go.cl htb rfl (ex_X1_isTable d (by omega) a1 m r6 h7) ?_
        show am_Go d 161 (34, [some (.inr (.inr (some (9, 0)))), some (.inl a1)], [.inl r6.1], am_mk r6.2) _ _ _ _
        by_cases hc8 : r6.1 ≠ 0
        · rw [if_pos hc8] at h
          refine am_Go.c1 htb (S' := (40, [some (.inr (.inr (some (9, 0)))), some (.inl a1)], [], am_mk r6.2)) (if_pos hc8) ?_
          refine am_Go.n htb 7 (S' := (51, [some (.inr (.inr (some (9, 0)))), some (.inl a1)], [.inr (.inr (some (8, 0))), .inl 0, .inl 0, .inl 1, .inr (.inr (some (3, 0)))], am_mk r6.2)) rfl ?_
          obtain ⟨r9, h10, h⟩ := am_bd h
          refine am_Go.cl htb rfl (ex_X3_keep d (by omega) 0 1 0 0 0 r6.2 r9 h10) ?_
          show am_Go d 161 (54, [some (.inr (.inr (some (9, 0)))), some (.inl a1)], [], am_mk r9) _ _ _ _
          refine am_Go.n htb 3 (S' := (59, [some (.inr (.inr (some (9, 0)))), some (.inl a1)], [.inl a1, .inr (.inr (some (1, 0)))], am_mk r9)) rfl ?_
          obtain ⟨r11, h12, h⟩ := am_bd h
          refine am_Go.cl htb rfl (ex_X1_feedTable d (by omega) a1 r9 r11 h12) ?_
          show am_Go d 161 (62, [some (.inr (.inr (some (9, 0)))), some (.inl a1)], [], am_mk r11) _ _ _ _
          refine am_Go.n htb 1 (S' := (63, [some (.inr (.inr (some (9, 0)))), some (.inl a1)], [.inl a1], am_mk r11)) rfl ?_
          obtain ⟨r13, h14, h⟩ := am_bd h
          refine am_Go.cl htb rfl (ex_J6_bitCount_0f7a4 d (by omega) a1 r11 r13 h14) ?_
          show am_Go d 161 (66, [some (.inr (.inr (some (9, 0)))), some (.inl a1)], [.inl r13], am_mk r11) _ _ _ _
          cases h
          exact am_Go.rt htb rfl
        · rw [if_neg hc8] at h
          refine am_Go.c1 htb (S' := (37, [some (.inr (.inr (some (9, 0)))), some (.inl a1)], [], am_mk r6.2)) (if_neg hc8) ?_
          refine am_Go.n htb 1 (S' := (39, [some (.inr (.inr (some (9, 0)))), some (.inl a1)], [.inl (-3)], am_mk r6.2)) rfl ?_
          cases h
          exact am_Go.rt htb rfl
      · rw [if_neg hc5] at h
        refine am_Go.c1 htb (S' := (23, [some (.inr (.inr (some (9, 0)))), some (.inl a1)], [], am_mk m)) (if_neg hc5) ?_
        refine am_Go.n htb 1 (S' := (25, [some (.inr (.inr (some (9, 0)))), some (.inl a1)], [.inl (-2)], am_mk m)) rfl ?_
        cases h
        exact am_Go.rt htb rfl
    · rw [if_neg hc2] at h
      refine am_Go.c1 htb (S' := (10, [some (.inr (.inr (some (9, 0)))), some (.inl a1)], [], am_mk m)) (if_neg hc2) ?_
      refine am_Go.n htb 1 (S' := (11, [some (.inr (.inr (some (9, 0)))), some (.inl a1)], [.inl (-1)], am_mk m)) rfl ?_
      cases h
      exact am_Go.rt htb rfl
-- X9_doPardon
set_option maxRecDepth 100000 in
theorem ex_X9_doPardon (d : Nat) (hd : 4 ≤ d) (a1 : Int32) (a2 : Int32) (m : am_m) (t : Int32 × am_m) (h : fn_X9_doPardon a1 a2 m = some t) : am_Ex am_cod d 162 [.inr (.inr (some (9, 0))), .inl a1, .inl a2] (am_mk m) (some (.inl t.1)) (am_mk t.2) 0 0 := by
  obtain ⟨d, rfl⟩ : ∃ e, d = e + 1 := ⟨d - 1, by omega⟩
  have htb : am_tab 162 = at_162 := rfl
  refine ⟨Nat.le_of_ble_eq_true rfl, ?_⟩
  unfold fn_X9_doPardon at h
  show am_Go d 162 (0, [some (.inr (.inr (some (9, 0)))), some (.inl a1), some (.inl a2), none], [], am_mk m) _ _ 0 0
  refine am_Go.n htb 2 (S' := (2, [some (.inr (.inr (some (9, 0)))), some (.inl a1), some (.inl a2), none], [.inl a2, .inl a1], am_mk m)) rfl ?_
  by_cases hc1 : a1 ≠ a2
  · rw [if_pos hc1] at h
    refine am_Go.c1 htb (S' := (7, [some (.inr (.inr (some (9, 0)))), some (.inl a1), some (.inl a2), none], [], am_mk m)) (if_pos hc1) ?_
    refine am_Go.n htb 4 (S' := (13, [some (.inr (.inr (some (9, 0)))), some (.inl a1), some (.inl a2), none], [.inl a2, .inl a1, .inr (.inr (some (8, 0)))], am_mk m)) rfl ?_
    obtain ⟨r2, h3, h⟩ := am_bd h
    refine am_Go.cl htb rfl (ex_X8_hasTwo d (by omega) 0 a1 a2 m r2 h3) ?_
    show am_Go d 162 (16, [some (.inr (.inr (some (9, 0)))), some (.inl a1), some (.inl a2), none], [.inl r2], am_mk m) _ _ _ _
    by_cases hc4 : r2 ≠ 0
    · rw [if_pos hc4] at h
      refine am_Go.c1 htb (S' := (22, [some (.inr (.inr (some (9, 0)))), some (.inl a1), some (.inl a2), none], [], am_mk m)) (if_pos hc4) ?_
      refine am_Go.n htb 4 (S' := (28, [some (.inr (.inr (some (9, 0)))), some (.inl a1), some (.inl a2), none], [.inl a2, .inl a1, .inr (.inr (some (8, 0)))], am_mk m)) rfl ?_
      obtain ⟨r5, h6, h⟩ := am_bd h
      refine am_Go.cl htb rfl (ex_X8_weightOf d (by omega) 0 a1 a2 m r5 h6) ?_
      show am_Go d 162 (31, [some (.inr (.inr (some (9, 0)))), some (.inl a1), some (.inl a2), none], [.inl r5], am_mk m) _ _ _ _
      refine am_Go.n htb 2 (S' := (33, [some (.inr (.inr (some (9, 0)))), some (.inl a1), some (.inl a2), some (.inl r5)], [.inl r5], am_mk m)) rfl ?_
      by_cases hc7 : r5 ≠ 0
      · rw [if_pos hc7] at h
        refine am_Go.c1 htb (S' := (39, [some (.inr (.inr (some (9, 0)))), some (.inl a1), some (.inl a2), some (.inl r5)], [], am_mk m)) (if_pos hc7) ?_
        refine am_Go.n htb 7 (S' := (50, [some (.inr (.inr (some (9, 0)))), some (.inl a1), some (.inl a2), some (.inl r5)], [.inr (.inr (some (8, 0))), .inl a2, .inl a1, .inl 2, .inr (.inr (some (3, 0)))], am_mk m)) rfl ?_
        obtain ⟨r8, h9, h⟩ := am_bd h
        refine am_Go.cl htb rfl (ex_X3_keep d (by omega) 0 2 a1 a2 0 m r8 h9) ?_
        show am_Go d 162 (53, [some (.inr (.inr (some (9, 0)))), some (.inl a1), some (.inl a2), some (.inl r5)], [], am_mk r8) _ _ _ _
        refine am_Go.n htb 6 (S' := (61, [some (.inr (.inr (some (9, 0)))), some (.inl a1), some (.inl a2), some (.inl r5)], [.inl 0, .inl 0, .inl a2, .inl a1, .inr (.inr (some (8, 0)))], am_mk r8)) rfl ?_
        obtain ⟨r10, h11, h⟩ := am_bd h
        refine am_Go.cl htb rfl (ex_X8_setHarm d (by omega) 0 a1 a2 0 0 r8 r10 h11) ?_
        show am_Go d 162 (64, [some (.inr (.inr (some (9, 0)))), some (.inl a1), some (.inl a2), some (.inl r5)], [], am_mk r10) _ _ _ _
        refine am_Go.n htb 1 (S' := (65, [some (.inr (.inr (some (9, 0)))), some (.inl a1), some (.inl a2), some (.inl r5)], [.inl r5], am_mk r10)) rfl ?_
        cases h
        exact am_Go.rt htb rfl
      · rw [if_neg hc7] at h
        refine am_Go.c1 htb (S' := (36, [some (.inr (.inr (some (9, 0)))), some (.inl a1), some (.inl a2), some (.inl r5)], [], am_mk m)) (if_neg hc7) ?_
        refine am_Go.n htb 1 (S' := (38, [some (.inr (.inr (some (9, 0)))), some (.inl a1), some (.inl a2), some (.inl r5)], [.inl (-3)], am_mk m)) rfl ?_
        cases h
        exact am_Go.rt htb rfl
    · rw [if_neg hc4] at h
      refine am_Go.c1 htb (S' := (19, [some (.inr (.inr (some (9, 0)))), some (.inl a1), some (.inl a2), none], [], am_mk m)) (if_neg hc4) ?_
      refine am_Go.n htb 1 (S' := (21, [some (.inr (.inr (some (9, 0)))), some (.inl a1), some (.inl a2), none], [.inl (-2)], am_mk m)) rfl ?_
      cases h
      exact am_Go.rt htb rfl
  · rw [if_neg hc1] at h
    refine am_Go.c1 htb (S' := (5, [some (.inr (.inr (some (9, 0)))), some (.inl a1), some (.inl a2), none], [], am_mk m)) (if_neg hc1) ?_
    refine am_Go.n htb 1 (S' := (6, [some (.inr (.inr (some (9, 0)))), some (.inl a1), some (.inl a2), none], [.inl (-1)], am_mk m)) rfl ?_
    cases h
    exact am_Go.rt htb rfl
-- X9_doPass
set_option maxRecDepth 100000 in
theorem ex_X9_doPass (d : Nat) (hd : 6 ≤ d)  (m : am_m) (t : Int32 × am_m) (h : fn_X9_doPass  m = some t) : am_Ex am_cod d 163 [.inr (.inr (some (9, 0)))] (am_mk m) (some (.inl t.1)) (am_mk t.2) 0 0 := by
  obtain ⟨d, rfl⟩ : ∃ e, d = e + 1 := ⟨d - 1, by omega⟩
  have htb : am_tab 163 = at_163 := rfl
  refine ⟨Nat.le_of_ble_eq_true rfl, ?_⟩
  unfold fn_X9_doPass at h
  show am_Go d 163 (0, [some (.inr (.inr (some (9, 0))))], [], am_mk m) _ _ 0 0
  refine am_Go.n htb 6 (S' := (12, [some (.inr (.inr (some (9, 0))))], [.inl 999, .inl (m.1 39 0 0)], am_mk m)) rfl ?_
  by_cases hc1 : (m.1 39 0 0) < (999 : Int32)
  · rw [if_pos hc1] at h
    refine am_Go.c1 htb (S' := (18, [some (.inr (.inr (some (9, 0))))], [], am_mk m)) (if_pos hc1) ?_
    refine am_Go.n htb 7 (S' := (29, [some (.inr (.inr (some (9, 0))))], [.inr (.inr (some (8, 0))), .inl 0, .inl 0, .inl 3, .inr (.inr (some (3, 0)))], am_mk m)) rfl ?_
    obtain ⟨r2, h3, h⟩ := am_bd h
    refine am_Go.cl htb rfl (ex_X3_keep d (by omega) 0 3 0 0 0 m r2 h3) ?_
    show am_Go d 163 (32, [some (.inr (.inr (some (9, 0))))], [], am_mk r2) _ _ _ _
    refine am_Go.n htb 2 (S' := (36, [some (.inr (.inr (some (9, 0))))], [.inr (.inr (some (1, 0)))], am_mk r2)) rfl ?_
    obtain ⟨r4, h5, h⟩ := am_bd h
    refine am_Go.cl htb rfl (ex_X1_passDay d (by omega)  r2 r4 h5) ?_
    show am_Go d 163 (39, [some (.inr (.inr (some (9, 0))))], [], am_mk r4) _ _ _ _
    refine am_Go.n htb 2 (S' := (43, [some (.inr (.inr (some (9, 0))))], [.inr (.inr (some (8, 0)))], am_mk r4)) rfl ?_
    obtain ⟨r6, h7, h⟩ := am_bd h
    refine am_Go.cl htb rfl (ex_X8_starving d (by omega) 0 r4 r6 h7) ?_
    show am_Go d 163 (46, [some (.inr (.inr (some (9, 0))))], [.inl r6], am_mk r4) _ _ _ _
    cases h
    exact am_Go.rt htb rfl
  · rw [if_neg hc1] at h
    refine am_Go.c1 htb (S' := (15, [some (.inr (.inr (some (9, 0))))], [], am_mk m)) (if_neg hc1) ?_
    refine am_Go.n htb 1 (S' := (17, [some (.inr (.inr (some (9, 0))))], [.inl (-3)], am_mk m)) rfl ?_
    cases h
    exact am_Go.rt htb rfl
-- X9_fillOrderWords
set_option maxRecDepth 100000 in
theorem lt_X9_fillOrderWords_43 (d : Nat) (hd : 5 ≤ d + 1) {r : Option am_V} {M' : am_M} {kc ks : Nat} {n : Nat} {x1 : Int32} {x2 : Int32} {m : am_m} {t : am_m} (h : lp_X9_fillOrderWords_43 n x1 x2 m = some t) (hk : am_Go d 165 (96, [some (.inr (.inr (some (9, 0)))), some (.inl x1), none, none], [], am_mk t) r M' kc ks) : am_Go d 165 (43, [some (.inr (.inr (some (9, 0)))), some (.inl x1), some (.inl x2), none], [], am_mk m) r M' kc ks := by
  have htb : am_tab 165 = at_165 := rfl
  induction n generalizing x2 m with
  | zero => cases h
  | succ n ih =>
    unfold lp_X9_fillOrderWords_43 at h
    refine am_Go.n htb 2 (S' := (46, [some (.inr (.inr (some (9, 0)))), some (.inl x1), some (.inl x2), none], [.inl 7, .inl x2], am_mk m)) rfl ?_
    by_cases hc5 : (7 : Int32) ≤ x2
    · rw [if_pos hc5] at h
      refine am_Go.c1 htb (S' := (96, [some (.inr (.inr (some (9, 0)))), some (.inl x1), some (.inl x2), none], [], am_mk m)) (if_pos hc5) ?_
      cases h
      exact am_Go.fg (by exact ⟨rfl, ⟨rfl, trivial⟩⟩) hk
    · rw [if_neg hc5] at h
      refine am_Go.c1 htb (S' := (49, [some (.inr (.inr (some (9, 0)))), some (.inl x1), some (.inl x2), none], [], am_mk m)) (if_neg hc5) ?_
      refine am_Go.n htb 8 (S' := (61, [some (.inr (.inr (some (9, 0)))), some (.inl x1), some (.inl x2), none], [.inl x2, .inr (.inr (some (8, 0))), .inl ((5 : Int32) + x2), .inr (.inr (some (41, 0)))], am_mk m)) rfl ?_
      obtain ⟨r6, h7, h⟩ := am_bd h
      refine am_Go.cl htb rfl (ex_X8_fedOf d (by omega) 0 x2 m r6 h7) ?_
      show am_Go d 165 (64, [some (.inr (.inr (some (9, 0)))), some (.inl x1), some (.inl x2), none], [.inl r6, .inl ((5 : Int32) + x2), .inr (.inr (some (41, 0)))], am_mk m) _ _ _ _
      obtain ⟨hg8, h⟩ := am_ck_some h
      refine am_Go.c1 htb (S' := (65, [some (.inr (.inr (some (9, 0)))), some (.inl x1), some (.inl x2), none], [], am_mk (am_si m 41 0 ((5 : Int32) + x2).toNatClampNeg r6))) (if_neg hg8) ?_
      refine am_Go.n htb 8 (S' := (78, [some (.inr (.inr (some (9, 0)))), some (.inl x1), some (.inl x2), none], [.inl x2, .inr (.inr (some (8, 0))), .inl ((12 : Int32) + x2), .inr (.inr (some (41, 0)))], am_mk (am_si m 41 0 ((5 : Int32) + x2).toNatClampNeg r6))) rfl ?_
      obtain ⟨r9, h10, h⟩ := am_bd h
      refine am_Go.cl htb rfl (ex_X8_has d (by omega) 0 x2 (am_si m 41 0 ((5 : Int32) + x2).toNatClampNeg r6) r9 h10) ?_
      show am_Go d 165 (81, [some (.inr (.inr (some (9, 0)))), some (.inl x1), some (.inl x2), none], [.inl r9, .inl ((12 : Int32) + x2), .inr (.inr (some (41, 0)))], am_mk (am_si m 41 0 ((5 : Int32) + x2).toNatClampNeg r6)) _ _ _ _
      refine am_Go.cut (S := (89, [some (.inr (.inr (some (9, 0)))), some (.inl x1), some (.inl x2), none], [.inl (if r9 = 0 then (-1 : Int32) else (0 : Int32)), .inl ((12 : Int32) + x2), .inr (.inr (some (41, 0)))], am_mk (am_si m 41 0 ((5 : Int32) + x2).toNatClampNeg r6))) ?_ (fun key => ?_)
      · obtain ⟨hg12, h⟩ := am_ck_some h
        refine am_Go.c1 htb (S' := (90, [some (.inr (.inr (some (9, 0)))), some (.inl x1), some (.inl x2), none], [], am_mk (am_si (am_si m 41 0 ((5 : Int32) + x2).toNatClampNeg r6) 41 0 ((12 : Int32) + x2).toNatClampNeg (if r9 = 0 then (-1 : Int32) else (0 : Int32))))) (if_neg hg12) ?_
        refine am_Go.n htb 2 (S' := (43, [some (.inr (.inr (some (9, 0)))), some (.inl x1), some (.inl (x2 + 1)), none], [], am_mk (am_si (am_si m 41 0 ((5 : Int32) + x2).toNatClampNeg r6) 41 0 ((12 : Int32) + x2).toNatClampNeg (if r9 = 0 then (-1 : Int32) else (0 : Int32))))) rfl ?_
        first | exact ih h | exact ih h hk
      · by_cases hc11 : r9 = 0
        · refine am_Go.c1 htb (S' := (88, [some (.inr (.inr (some (9, 0)))), some (.inl x1), some (.inl x2), none], [.inl ((12 : Int32) + x2), .inr (.inr (some (41, 0)))], am_mk (am_si m 41 0 ((5 : Int32) + x2).toNatClampNeg r6))) (if_pos hc11) ?_
          refine am_Go.n htb 1 (S' := (89, [some (.inr (.inr (some (9, 0)))), some (.inl x1), some (.inl x2), none], [.inl (-1), .inl ((12 : Int32) + x2), .inr (.inr (some (41, 0)))], am_mk (am_si m 41 0 ((5 : Int32) + x2).toNatClampNeg r6))) rfl ?_
          simp only [if_pos hc11] at key
          exact am_Go.fg (by exact ⟨rfl, ⟨rfl, ⟨rfl, trivial⟩⟩⟩) key
        · refine am_Go.c1 htb (S' := (84, [some (.inr (.inr (some (9, 0)))), some (.inl x1), some (.inl x2), none], [.inl ((12 : Int32) + x2), .inr (.inr (some (41, 0)))], am_mk (am_si m 41 0 ((5 : Int32) + x2).toNatClampNeg r6))) (if_neg hc11) ?_
          refine am_Go.n htb 2 (S' := (89, [some (.inr (.inr (some (9, 0)))), some (.inl x1), some (.inl x2), none], [.inl 0, .inl ((12 : Int32) + x2), .inr (.inr (some (41, 0)))], am_mk (am_si m 41 0 ((5 : Int32) + x2).toNatClampNeg r6))) rfl ?_
          simp only [if_neg hc11] at key
          exact am_Go.fg (by exact ⟨rfl, ⟨rfl, ⟨rfl, trivial⟩⟩⟩) key
set_option maxRecDepth 100000 in
theorem lt_X9_fillOrderWords_108 (d : Nat) (hd : 5 ≤ d + 1) {r : Option am_V} {M' : am_M} {kc ks : Nat} {n : Nat} {x1 : Int32} {x2 : Int32} {x3 : Int32} {m : am_m} {t : am_m} (h : lp_X9_fillOrderWords_108 n x1 x2 x3 m = some t) (hk : am_Go d 165 (182, [some (.inr (.inr (some (9, 0)))), some (.inl x1), some (.inl x2), none], [], am_mk t) r M' kc ks) : am_Go d 165 (108, [some (.inr (.inr (some (9, 0)))), some (.inl x1), some (.inl x2), some (.inl x3)], [], am_mk m) r M' kc ks := by
  have htb : am_tab 165 = at_165 := rfl
  induction n generalizing x3 m with
  | zero => cases h
  | succ n ih =>
    unfold lp_X9_fillOrderWords_108 at h
    refine am_Go.n htb 4 (S' := (116, [some (.inr (.inr (some (9, 0)))), some (.inl x1), some (.inl x2), some (.inl x3)], [.inl (m.1 8 0 0), .inl x3], am_mk m)) rfl ?_
    by_cases hc16 : (m.1 8 0 0) ≤ x3
    · rw [if_pos hc16] at h
      refine am_Go.c1 htb (S' := (182, [some (.inr (.inr (some (9, 0)))), some (.inl x1), some (.inl x2), some (.inl x3)], [], am_mk m)) (if_pos hc16) ?_
      cases h
      exact am_Go.fg (by exact ⟨rfl, ⟨rfl, ⟨rfl, trivial⟩⟩⟩) hk
    · rw [if_neg hc16] at h
      refine am_Go.c1 htb (S' := (119, [some (.inr (.inr (some (9, 0)))), some (.inl x1), some (.inl x2), some (.inl x3)], [], am_mk m)) (if_neg hc16) ?_
      refine am_Go.n htb 12 (S' := (131, [some (.inr (.inr (some (9, 0)))), some (.inl x1), some (.inl x2), some (.inl x3)], [.inl 1, .inl (((x1 >>> (x2 &&& 31)) &&& (1 : Int32)) ||| ((x1 >>> (x3 &&& 31)) &&& (1 : Int32)))], am_mk m)) rfl ?_
      obtain ⟨q25, h26, h⟩ := am_bd h
      refine am_Go.cut (S := (176, [some (.inr (.inr (some (9, 0)))), some (.inl x1), some (.inl x2), some (.inl x3)], [], am_mk q25)) ?_ (fun key => ?_)
      · refine am_Go.n htb 2 (S' := (108, [some (.inr (.inr (some (9, 0)))), some (.inl x1), some (.inl x2), some (.inl (x3 + 1))], [], am_mk q25)) rfl ?_
        first | exact ih h | exact ih h hk
      · have h := h26
        by_cases hc17 : (((x1 >>> (x2 &&& 31)) &&& (1 : Int32)) ||| ((x1 >>> (x3 &&& 31)) &&& (1 : Int32))) ≠ (1 : Int32)
        · rw [if_pos hc17] at h
          refine am_Go.c1 htb (S' := (176, [some (.inr (.inr (some (9, 0)))), some (.inl x1), some (.inl x2), some (.inl x3)], [], am_mk m)) (if_pos hc17) ?_
          cases h
          exact am_Go.fg (by exact ⟨rfl, ⟨rfl, ⟨rfl, ⟨rfl, trivial⟩⟩⟩⟩) key
        · rw [if_neg hc17] at h
          refine am_Go.c1 htb (S' := (134, [some (.inr (.inr (some (9, 0)))), some (.inl x1), some (.inl x2), some (.inl x3)], [], am_mk m)) (if_neg hc17) ?_
          refine am_Go.n htb 4 (S' := (140, [some (.inr (.inr (some (9, 0)))), some (.inl x1), some (.inl x2), some (.inl x3)], [.inl x3, .inl x2, .inr (.inr (some (1, 0)))], am_mk m)) rfl ?_
          obtain ⟨r18, h19, h⟩ := am_bd h
          refine am_Go.cl htb rfl (ex_X1_maySit d (by omega) x2 x3 m r18 h19) ?_
          show am_Go d 165 (143, [some (.inr (.inr (some (9, 0)))), some (.inl x1), some (.inl x2), some (.inl x3)], [.inl r18.1], am_mk r18.2) _ _ _ _
          by_cases hc20 : r18.1 = 0
          · rw [if_pos hc20] at h
            refine am_Go.c1 htb (S' := (176, [some (.inr (.inr (some (9, 0)))), some (.inl x1), some (.inl x2), some (.inl x3)], [], am_mk r18.2)) (if_pos hc20) ?_
            cases h
            exact am_Go.fg (by exact ⟨rfl, ⟨rfl, ⟨rfl, ⟨rfl, trivial⟩⟩⟩⟩) key
          · rw [if_neg hc20] at h
            refine am_Go.c1 htb (S' := (146, [some (.inr (.inr (some (9, 0)))), some (.inl x1), some (.inl x2), some (.inl x3)], [], am_mk r18.2)) (if_neg hc20) ?_
            refine am_Go.n htb 6 (S' := (155, [some (.inr (.inr (some (9, 0)))), some (.inl x1), some (.inl x2), some (.inl x3)], [.inl ((12 : Int32) + x2), .inr (.inr (some (41, 0))), .inl ((12 : Int32) + x2), .inr (.inr (some (41, 0)))], am_mk r18.2)) rfl ?_
            obtain ⟨hg21, h⟩ := am_ck_some h
            refine am_Go.c1 htb (S' := (156, [some (.inr (.inr (some (9, 0)))), some (.inl x1), some (.inl x2), some (.inl x3)], [.inl (r18.2.1 41 0 ((12 : Int32) + x2).toNatClampNeg), .inl ((12 : Int32) + x2), .inr (.inr (some (41, 0)))], am_mk r18.2)) (if_neg hg21) ?_
            refine am_Go.n htb 4 (S' := (160, [some (.inr (.inr (some (9, 0)))), some (.inl x1), some (.inl x2), some (.inl x3)], [.inl ((r18.2.1 41 0 ((12 : Int32) + x2).toNatClampNeg) ||| ((1 : Int32) <<< (x3 &&& 31))), .inl ((12 : Int32) + x2), .inr (.inr (some (41, 0)))], am_mk r18.2)) rfl ?_
            obtain ⟨hg22, h⟩ := am_ck_some h
            refine am_Go.c1 htb (S' := (161, [some (.inr (.inr (some (9, 0)))), some (.inl x1), some (.inl x2), some (.inl x3)], [], am_mk (am_si r18.2 41 0 ((12 : Int32) + x2).toNatClampNeg ((r18.2.1 41 0 ((12 : Int32) + x2).toNatClampNeg) ||| ((1 : Int32) <<< (x3 &&& 31)))))) (if_neg hg22) ?_
            refine am_Go.n htb 6 (S' := (170, [some (.inr (.inr (some (9, 0)))), some (.inl x1), some (.inl x2), some (.inl x3)], [.inl ((12 : Int32) + x3), .inr (.inr (some (41, 0))), .inl ((12 : Int32) + x3), .inr (.inr (some (41, 0)))], am_mk (am_si r18.2 41 0 ((12 : Int32) + x2).toNatClampNeg ((r18.2.1 41 0 ((12 : Int32) + x2).toNatClampNeg) ||| ((1 : Int32) <<< (x3 &&& 31)))))) rfl ?_
            obtain ⟨hg23, h⟩ := am_ck_some h
            refine am_Go.c1 htb (S' := (171, [some (.inr (.inr (some (9, 0)))), some (.inl x1), some (.inl x2), some (.inl x3)], [.inl ((am_si r18.2 41 0 ((12 : Int32) + x2).toNatClampNeg ((r18.2.1 41 0 ((12 : Int32) + x2).toNatClampNeg) ||| ((1 : Int32) <<< (x3 &&& 31)))).1 41 0 ((12 : Int32) + x3).toNatClampNeg), .inl ((12 : Int32) + x3), .inr (.inr (some (41, 0)))], am_mk (am_si r18.2 41 0 ((12 : Int32) + x2).toNatClampNeg ((r18.2.1 41 0 ((12 : Int32) + x2).toNatClampNeg) ||| ((1 : Int32) <<< (x3 &&& 31)))))) (if_neg hg23) ?_
            refine am_Go.n htb 4 (S' := (175, [some (.inr (.inr (some (9, 0)))), some (.inl x1), some (.inl x2), some (.inl x3)], [.inl (((am_si r18.2 41 0 ((12 : Int32) + x2).toNatClampNeg ((r18.2.1 41 0 ((12 : Int32) + x2).toNatClampNeg) ||| ((1 : Int32) <<< (x3 &&& 31)))).1 41 0 ((12 : Int32) + x3).toNatClampNeg) ||| ((1 : Int32) <<< (x2 &&& 31))), .inl ((12 : Int32) + x3), .inr (.inr (some (41, 0)))], am_mk (am_si r18.2 41 0 ((12 : Int32) + x2).toNatClampNeg ((r18.2.1 41 0 ((12 : Int32) + x2).toNatClampNeg) ||| ((1 : Int32) <<< (x3 &&& 31)))))) rfl ?_
            obtain ⟨hg24, h⟩ := am_ck_some h
            refine am_Go.c1 htb (S' := (176, [some (.inr (.inr (some (9, 0)))), some (.inl x1), some (.inl x2), some (.inl x3)], [], am_mk (am_si (am_si r18.2 41 0 ((12 : Int32) + x2).toNatClampNeg ((r18.2.1 41 0 ((12 : Int32) + x2).toNatClampNeg) ||| ((1 : Int32) <<< (x3 &&& 31)))) 41 0 ((12 : Int32) + x3).toNatClampNeg (((am_si r18.2 41 0 ((12 : Int32) + x2).toNatClampNeg ((r18.2.1 41 0 ((12 : Int32) + x2).toNatClampNeg) ||| ((1 : Int32) <<< (x3 &&& 31)))).1 41 0 ((12 : Int32) + x3).toNatClampNeg) ||| ((1 : Int32) <<< (x2 &&& 31)))))) (if_neg hg24) ?_
            cases h
            exact am_Go.fg (by exact ⟨rfl, ⟨rfl, ⟨rfl, ⟨rfl, trivial⟩⟩⟩⟩) key
set_option maxRecDepth 100000 in
theorem lt_X9_fillOrderWords_98 (d : Nat) (hd : 5 ≤ d + 1) {r : Option am_V} {M' : am_M} {kc ks : Nat} {n : Nat} {x1 : Int32} {x2 : Int32} {m : am_m} {t : am_m} (h : lp_X9_fillOrderWords_98 n x1 x2 m = some t) (hk : am_Go d 165 (188, [some (.inr (.inr (some (9, 0)))), some (.inl x1), none, none], [], am_mk t) r M' kc ks) : am_Go d 165 (98, [some (.inr (.inr (some (9, 0)))), some (.inl x1), some (.inl x2), none], [], am_mk m) r M' kc ks := by
  have htb : am_tab 165 = at_165 := rfl
  induction n generalizing x2 m with
  | zero => cases h
  | succ n ih =>
    unfold lp_X9_fillOrderWords_98 at h
    refine am_Go.n htb 2 (S' := (101, [some (.inr (.inr (some (9, 0)))), some (.inl x1), some (.inl x2), none], [.inl 7, .inl x2], am_mk m)) rfl ?_
    by_cases hc15 : (7 : Int32) ≤ x2
    · rw [if_pos hc15] at h
      refine am_Go.c1 htb (S' := (188, [some (.inr (.inr (some (9, 0)))), some (.inl x1), some (.inl x2), none], [], am_mk m)) (if_pos hc15) ?_
      cases h
      exact am_Go.fg (by exact ⟨rfl, ⟨rfl, trivial⟩⟩) hk
    · rw [if_neg hc15] at h
      refine am_Go.c1 htb (S' := (104, [some (.inr (.inr (some (9, 0)))), some (.inl x1), some (.inl x2), none], [], am_mk m)) (if_neg hc15) ?_
      refine am_Go.n htb 4 (S' := (108, [some (.inr (.inr (some (9, 0)))), some (.inl x1), some (.inl x2), some (.inl (x2 + (1 : Int32)))], [], am_mk m)) rfl ?_
      obtain ⟨q27, h28, h⟩ := am_bd h
      refine lt_X9_fillOrderWords_108 _ hd (h := h28) (hk := ?_)
      refine am_Go.n htb 2 (S' := (98, [some (.inr (.inr (some (9, 0)))), some (.inl x1), some (.inl (x2 + 1)), none], [], am_mk q27)) rfl ?_
      first | exact ih h | exact ih h hk
set_option maxRecDepth 100000 in
theorem ex_X9_fillOrderWords (d : Nat) (hd : 5 ≤ d) (a1 : Int32) (m : am_m) (t : am_m) (h : fn_X9_fillOrderWords a1 m = some t) : am_Ex am_cod d 165 [.inr (.inr (some (9, 0))), .inl a1] (am_mk m) (none) (am_mk t) 0 0 := by
  obtain ⟨d, rfl⟩ : ∃ e, d = e + 1 := ⟨d - 1, by omega⟩
  have htb : am_tab 165 = at_165 := rfl
  refine ⟨Nat.le_of_ble_eq_true rfl, ?_⟩
  unfold fn_X9_fillOrderWords at h
  show am_Go d 165 (0, [some (.inr (.inr (some (9, 0)))), some (.inl a1), none, none], [], am_mk m) _ _ 0 0
  refine am_Go.n htb 14 (S' := (24, [some (.inr (.inr (some (9, 0)))), some (.inl a1), none, none], [.inr (.inr (some (8, 0))), .inl 3, .inr (.inr (some (41, 0)))], am_mk (am_si m 41 0 0 (m.1 39 0 0)))) rfl ?_
  obtain ⟨r1, h2, h⟩ := am_bd h
  refine am_Go.cl htb rfl (ex_X8_harmCount d (by omega) 0 (am_si m 41 0 0 (m.1 39 0 0)) r1 h2) ?_
  show am_Go d 165 (27, [some (.inr (.inr (some (9, 0)))), some (.inl a1), none, none], [.inl r1, .inl 3, .inr (.inr (some (41, 0)))], am_mk (am_si m 41 0 0 (m.1 39 0 0))) _ _ _ _
  refine am_Go.n htb 6 (S' := (37, [some (.inr (.inr (some (9, 0)))), some (.inl a1), none, none], [.inr (.inr (some (8, 0))), .inl 4, .inr (.inr (some (41, 0)))], am_mk (am_si (am_si m 41 0 0 (m.1 39 0 0)) 41 0 3 r1))) rfl ?_
  obtain ⟨r3, h4, h⟩ := am_bd h
  refine am_Go.cl htb rfl (ex_X8_starving d (by omega) 0 (am_si (am_si m 41 0 0 (m.1 39 0 0)) 41 0 3 r1) r3 h4) ?_
  show am_Go d 165 (40, [some (.inr (.inr (some (9, 0)))), some (.inl a1), none, none], [.inl r3, .inl 4, .inr (.inr (some (41, 0)))], am_mk (am_si (am_si m 41 0 0 (m.1 39 0 0)) 41 0 3 r1)) _ _ _ _
  refine am_Go.n htb 3 (S' := (43, [some (.inr (.inr (some (9, 0)))), some (.inl a1), some (.inl 0), none], [], am_mk (am_si (am_si (am_si m 41 0 0 (m.1 39 0 0)) 41 0 3 r1) 41 0 4 r3))) rfl ?_
  obtain ⟨q13, h14, h⟩ := am_bd h
  refine lt_X9_fillOrderWords_43 _ hd (h := h14) (hk := ?_)
  refine am_Go.n htb 2 (S' := (98, [some (.inr (.inr (some (9, 0)))), some (.inl a1), some (.inl 0), none], [], am_mk q13)) rfl ?_
  obtain ⟨q29, h30, h⟩ := am_bd h
  refine lt_X9_fillOrderWords_98 _ hd (h := h30) (hk := ?_)
  cases h
  exact am_Go.rt htb rfl
-- X9_ranClause
set_option maxHeartbeats 10000000 in
set_option maxRecDepth 100000 in
theorem lt_X9_ranClause_10 (d : Nat) (hd : 7 ≤ d + 1) {r : Option am_V} {M' : am_M} {kc ks : Nat} {n : Nat} {x1 : Nat} {x2 : Int32} {x3 : Int32} {x4 : Int32} {m : am_m} {t : Sum (am_m) (Int32 × am_m)} (h : lp_X9_ranClause_10 n x1 x2 x3 x4 m = some t) (hk : ∀ t', t = .inl t' → am_Go d 164 (244, [some (.inr (.inr (some (9, 0)))), some (.inr (.inr (some (5, x1)))), some (.inl x2), some (.inl x3), none, none, none, none, none], [], am_mk t') r M' kc ks) (hr : ∀ t', t = .inr t' → r = some (.inl t'.1) ∧ M' = am_mk t'.2 ∧ kc = 0 ∧ ks = 0) : am_Go d 164 (10, [some (.inr (.inr (some (9, 0)))), some (.inr (.inr (some (5, x1)))), some (.inl x2), some (.inl x3), some (.inl x4), none, none, none, none], [], am_mk m) r M' kc ks := by
  have htb : am_tab 164 = at_164 := rfl
  induction n generalizing x4 m with
  | zero => cases h
  | succ n ih =>
    unfold lp_X9_ranClause_10 at h
    refine am_Go.n htb 2 (S' := (13, [some (.inr (.inr (some (9, 0)))), some (.inr (.inr (some (5, x1)))), some (.inl x2), some (.inl x3), some (.inl x4), none, none, none, none], [.inl x3, .inl x4], am_mk m)) rfl ?_
    by_cases hc3 : x3 ≤ x4
    · rw [if_pos hc3] at h
      refine am_Go.c1 htb (S' := (244, [some (.inr (.inr (some (9, 0)))), some (.inr (.inr (some (5, x1)))), some (.inl x2), some (.inl x3), some (.inl x4), none, none, none, none], [], am_mk m)) (if_pos hc3) ?_
      cases h
      exact am_Go.fg (by exact ⟨rfl, ⟨rfl, ⟨rfl, ⟨rfl, trivial⟩⟩⟩⟩) (hk _ rfl)
    · rw [if_neg hc3] at h
      refine am_Go.c1 htb (S' := (16, [some (.inr (.inr (some (9, 0)))), some (.inr (.inr (some (5, x1)))), some (.inl x2), some (.inl x3), some (.inl x4), none, none, none, none], [], am_mk m)) (if_neg hc3) ?_
      refine am_Go.n htb 6 (S' := (24, [some (.inr (.inr (some (9, 0)))), some (.inr (.inr (some (5, x1)))), some (.inl x2), some (.inl x3), some (.inl x4), none, none, none, none], [.inl 2, .inl x2, .inr (.inr (some (5, x1))), .inr (.inr (some (5, x1))), .inr (.inr (some (1, 0)))], am_mk m)) rfl ?_
      obtain ⟨r4, h5, h⟩ := am_bd h
      refine am_Go.cl htb rfl (ex_X5_headOf d (by omega) x1 x2 2 m r4 h5) ?_
      show am_Go d 164 (27, [some (.inr (.inr (some (9, 0)))), some (.inr (.inr (some (5, x1)))), some (.inl x2), some (.inl x3), some (.inl x4), none, none, none, none], [.inl r4, .inr (.inr (some (5, x1))), .inr (.inr (some (1, 0)))], am_mk m) _ _ _ _
      refine am_Go.n htb 2 (S' := (31, [some (.inr (.inr (some (9, 0)))), some (.inr (.inr (some (5, x1)))), some (.inl x2), some (.inl x3), some (.inl x4), none, none, none, none], [.inr (.inr (some (41, 0))), .inl r4, .inr (.inr (some (5, x1))), .inr (.inr (some (1, 0)))], am_mk m)) rfl ?_
      obtain ⟨r6, h7, h⟩ := am_bd h
      refine am_Go.cl htb rfl (ex_X1_tell_o d (by omega) x1 r4 m r6 h7) ?_
      show am_Go d 164 (34, [some (.inr (.inr (some (9, 0)))), some (.inr (.inr (some (5, x1)))), some (.inl x2), some (.inl x3), some (.inl x4), none, none, none, none], [.inl r6.1], am_mk r6.2) _ _ _ _
      refine am_Go.n htb 1 (S' := (35, [some (.inr (.inr (some (9, 0)))), some (.inr (.inr (some (5, x1)))), some (.inl x2), some (.inl x3), some (.inl x4), none, none, none, none], [.inl 1, .inl r6.1], am_mk r6.2)) rfl ?_
      by_cases hc8 : r6.1 ≠ (1 : Int32)
      · rw [if_pos hc8] at h
        refine am_Go.c1 htb (S' := (238, [some (.inr (.inr (some (9, 0)))), some (.inr (.inr (some (5, x1)))), some (.inl x2), some (.inl x3), some (.inl x4), none, none, none, none], [], am_mk r6.2)) (if_pos hc8) ?_
        refine am_Go.n htb 2 (S' := (10, [some (.inr (.inr (some (9, 0)))), some (.inr (.inr (some (5, x1)))), some (.inl x2), some (.inl x3), some (.inl (x4 + 1)), none, none, none, none], [], am_mk r6.2)) rfl ?_
        first | exact ih h | exact ih h hk | exact ih h hr | exact ih h hk hr
      · rw [if_neg hc8] at h
        refine am_Go.c1 htb (S' := (38, [some (.inr (.inr (some (9, 0)))), some (.inr (.inr (some (5, x1)))), some (.inl x2), some (.inl x3), some (.inl x4), none, none, none, none], [], am_mk r6.2)) (if_neg hc8) ?_
        refine am_Go.n htb 6 (S' := (46, [some (.inr (.inr (some (9, 0)))), some (.inr (.inr (some (5, x1)))), some (.inl x2), some (.inl x3), some (.inl x4), none, none, none, none], [.inl 3, .inl x2, .inr (.inr (some (5, x1))), .inr (.inr (some (5, x1))), .inr (.inr (some (1, 0)))], am_mk r6.2)) rfl ?_
        obtain ⟨r9, h10, h⟩ := am_bd h
        refine am_Go.cl htb rfl (ex_X5_headOf d (by omega) x1 x2 3 r6.2 r9 h10) ?_
        show am_Go d 164 (49, [some (.inr (.inr (some (9, 0)))), some (.inr (.inr (some (5, x1)))), some (.inl x2), some (.inl x3), some (.inl x4), none, none, none, none], [.inl r9, .inr (.inr (some (5, x1))), .inr (.inr (some (1, 0)))], am_mk r6.2) _ _ _ _
        refine am_Go.n htb 2 (S' := (53, [some (.inr (.inr (some (9, 0)))), some (.inr (.inr (some (5, x1)))), some (.inl x2), some (.inl x3), some (.inl x4), none, none, none, none], [.inr (.inr (some (41, 0))), .inl r9, .inr (.inr (some (5, x1))), .inr (.inr (some (1, 0)))], am_mk r6.2)) rfl ?_
        obtain ⟨r11, h12, h⟩ := am_bd h
        refine am_Go.cl htb rfl (ex_X1_tell_o d (by omega) x1 r9 r6.2 r11 h12) ?_
        show am_Go d 164 (56, [some (.inr (.inr (some (9, 0)))), some (.inr (.inr (some (5, x1)))), some (.inl x2), some (.inl x3), some (.inl x4), none, none, none, none], [.inl r11.1], am_mk r11.2) _ _ _ _
        refine am_Go.n htb 7 (S' := (66, [some (.inr (.inr (some (9, 0)))), some (.inr (.inr (some (5, x1)))), some (.inl x2), some (.inl x3), some (.inl x4), some (.inl r11.1), none, none, none], [.inl 4, .inl x2, .inr (.inr (some (5, x1))), .inr (.inr (some (5, x1))), .inr (.inr (some (1, 0)))], am_mk r11.2)) rfl ?_
        obtain ⟨r13, h14, h⟩ := am_bd h
        refine am_Go.cl htb rfl (ex_X5_headOf d (by omega) x1 x2 4 r11.2 r13 h14) ?_
        show am_Go d 164 (69, [some (.inr (.inr (some (9, 0)))), some (.inr (.inr (some (5, x1)))), some (.inl x2), some (.inl x3), some (.inl x4), some (.inl r11.1), none, none, none], [.inl r13, .inr (.inr (some (5, x1))), .inr (.inr (some (1, 0)))], am_mk r11.2) _ _ _ _
        refine am_Go.n htb 2 (S' := (73, [some (.inr (.inr (some (9, 0)))), some (.inr (.inr (some (5, x1)))), some (.inl x2), some (.inl x3), some (.inl x4), some (.inl r11.1), none, none, none], [.inr (.inr (some (41, 0))), .inl r13, .inr (.inr (some (5, x1))), .inr (.inr (some (1, 0)))], am_mk r11.2)) rfl ?_
        obtain ⟨r15, h16, h⟩ := am_bd h
        refine am_Go.cl htb rfl (ex_X1_tell_o d (by omega) x1 r13 r11.2 r15 h16) ?_
        show am_Go d 164 (76, [some (.inr (.inr (some (9, 0)))), some (.inr (.inr (some (5, x1)))), some (.inl x2), some (.inl x3), some (.inl x4), some (.inl r11.1), none, none, none], [.inl r15.1], am_mk r15.2) _ _ _ _
        refine am_Go.n htb 7 (S' := (86, [some (.inr (.inr (some (9, 0)))), some (.inr (.inr (some (5, x1)))), some (.inl x2), some (.inl x3), some (.inl x4), some (.inl r11.1), some (.inl r15.1), none, none], [.inl 5, .inl x2, .inr (.inr (some (5, x1))), .inr (.inr (some (5, x1))), .inr (.inr (some (1, 0)))], am_mk r15.2)) rfl ?_
        obtain ⟨r17, h18, h⟩ := am_bd h
        refine am_Go.cl htb rfl (ex_X5_headOf d (by omega) x1 x2 5 r15.2 r17 h18) ?_
        show am_Go d 164 (89, [some (.inr (.inr (some (9, 0)))), some (.inr (.inr (some (5, x1)))), some (.inl x2), some (.inl x3), some (.inl x4), some (.inl r11.1), some (.inl r15.1), none, none], [.inl r17, .inr (.inr (some (5, x1))), .inr (.inr (some (1, 0)))], am_mk r15.2) _ _ _ _
        refine am_Go.n htb 2 (S' := (93, [some (.inr (.inr (some (9, 0)))), some (.inr (.inr (some (5, x1)))), some (.inl x2), some (.inl x3), some (.inl x4), some (.inl r11.1), some (.inl r15.1), none, none], [.inr (.inr (some (41, 0))), .inl r17, .inr (.inr (some (5, x1))), .inr (.inr (some (1, 0)))], am_mk r15.2)) rfl ?_
        obtain ⟨r19, h20, h⟩ := am_bd h
        refine am_Go.cl htb rfl (ex_X1_tell_o d (by omega) x1 r17 r15.2 r19 h20) ?_
        show am_Go d 164 (96, [some (.inr (.inr (some (9, 0)))), some (.inr (.inr (some (5, x1)))), some (.inl x2), some (.inl x3), some (.inl x4), some (.inl r11.1), some (.inl r15.1), none, none], [.inl r19.1], am_mk r19.2) _ _ _ _
        refine am_Go.n htb 3 (S' := (103, [some (.inr (.inr (some (9, 0)))), some (.inr (.inr (some (5, x1)))), some (.inl x2), some (.inl x3), some (.inl x4), some (.inl r11.1), some (.inl r15.1), some (.inl r19.1), none], [.inl 2000000000, .inl r11.1], am_mk r19.2)) rfl ?_
        by_cases hc21 : r11.1 = (2000000000 : Int32)
        · rw [if_pos hc21] at h
          refine am_Go.c1 htb (S' := (122, [some (.inr (.inr (some (9, 0)))), some (.inr (.inr (some (5, x1)))), some (.inl x2), some (.inl x3), some (.inl x4), some (.inl r11.1), some (.inl r15.1), some (.inl r19.1), none], [], am_mk r19.2)) (if_pos hc21) ?_
          refine am_Go.n htb 1 (S' := (123, [some (.inr (.inr (some (9, 0)))), some (.inr (.inr (some (5, x1)))), some (.inl x2), some (.inl x3), some (.inl x4), some (.inl r11.1), some (.inl r15.1), some (.inl r19.1), none], [.inl 0], am_mk r19.2)) rfl ?_
          cases h
          obtain ⟨rfl, rfl, rfl, rfl⟩ := hr _ rfl
          exact am_Go.rt htb rfl
        · rw [if_neg hc21] at h
          refine am_Go.c1 htb (S' := (106, [some (.inr (.inr (some (9, 0)))), some (.inr (.inr (some (5, x1)))), some (.inl x2), some (.inl x3), some (.inl x4), some (.inl r11.1), some (.inl r15.1), some (.inl r19.1), none], [], am_mk r19.2)) (if_neg hc21) ?_
          refine am_Go.n htb 2 (S' := (111, [some (.inr (.inr (some (9, 0)))), some (.inr (.inr (some (5, x1)))), some (.inl x2), some (.inl x3), some (.inl x4), some (.inl r11.1), some (.inl r15.1), some (.inl r19.1), none], [.inl 2000000000, .inl r15.1], am_mk r19.2)) rfl ?_
          by_cases hc22 : r15.1 = (2000000000 : Int32)
          · rw [if_pos hc22] at h
            refine am_Go.c1 htb (S' := (122, [some (.inr (.inr (some (9, 0)))), some (.inr (.inr (some (5, x1)))), some (.inl x2), some (.inl x3), some (.inl x4), some (.inl r11.1), some (.inl r15.1), some (.inl r19.1), none], [], am_mk r19.2)) (if_pos hc22) ?_
            refine am_Go.n htb 1 (S' := (123, [some (.inr (.inr (some (9, 0)))), some (.inr (.inr (some (5, x1)))), some (.inl x2), some (.inl x3), some (.inl x4), some (.inl r11.1), some (.inl r15.1), some (.inl r19.1), none], [.inl 0], am_mk r19.2)) rfl ?_
            cases h
            obtain ⟨rfl, rfl, rfl, rfl⟩ := hr _ rfl
            exact am_Go.rt htb rfl
          · rw [if_neg hc22] at h
            refine am_Go.c1 htb (S' := (114, [some (.inr (.inr (some (9, 0)))), some (.inr (.inr (some (5, x1)))), some (.inl x2), some (.inl x3), some (.inl x4), some (.inl r11.1), some (.inl r15.1), some (.inl r19.1), none], [], am_mk r19.2)) (if_neg hc22) ?_
            refine am_Go.n htb 2 (S' := (119, [some (.inr (.inr (some (9, 0)))), some (.inr (.inr (some (5, x1)))), some (.inl x2), some (.inl x3), some (.inl x4), some (.inl r11.1), some (.inl r15.1), some (.inl r19.1), none], [.inl 2000000000, .inl r19.1], am_mk r19.2)) rfl ?_
            by_cases hc23 : r19.1 ≠ (2000000000 : Int32)
            · rw [if_pos hc23] at h
              refine am_Go.c1 htb (S' := (124, [some (.inr (.inr (some (9, 0)))), some (.inr (.inr (some (5, x1)))), some (.inl x2), some (.inl x3), some (.inl x4), some (.inl r11.1), some (.inl r15.1), some (.inl r19.1), none], [], am_mk r19.2)) (if_pos hc23) ?_
              refine am_Go.n htb 5 (S' := (130, [some (.inr (.inr (some (9, 0)))), some (.inr (.inr (some (5, x1)))), some (.inl x2), some (.inl x3), some (.inl x4), some (.inl r11.1), some (.inl r15.1), some (.inl r19.1), some (.inl (-1))], [.inl 0, .inl x2, .inr (.inr (some (5, x1)))], am_mk r19.2)) rfl ?_
              obtain ⟨r24, h25, h⟩ := am_bd h
              refine am_Go.cl htb rfl (ex_X5_headOf d (by omega) x1 x2 0 r19.2 r24 h25) ?_
              show am_Go d 164 (133, [some (.inr (.inr (some (9, 0)))), some (.inr (.inr (some (5, x1)))), some (.inl x2), some (.inl x3), some (.inl x4), some (.inl r11.1), some (.inl r15.1), some (.inl r19.1), some (.inl (-1))], [.inl r24], am_mk r19.2) _ _ _ _
              by_cases hs26 : r24 = 270
              · rw [if_pos hs26] at h
                refine am_Go.o htb (am_o_sw [(270, 160), (271, 175), (272, 194)] 207) rfl (S' := (160, [some (.inr (.inr (some (9, 0)))), some (.inr (.inr (some (5, x1)))), some (.inl x2), some (.inl x3), some (.inl x4), some (.inl r11.1), some (.inl r15.1), some (.inl r19.1), some (.inl (-1))], [], am_mk r19.2)) (am_sw_eq (by simp only [am_sw, if_pos hs26])) ?_
                refine am_Go.n htb 4 (S' := (167, [some (.inr (.inr (some (9, 0)))), some (.inr (.inr (some (5, x1)))), some (.inl x2), some (.inl x3), some (.inl x4), some (.inl r11.1), some (.inl r15.1), some (.inl r19.1), some (.inl (-1))], [.inl r19.1, .inl r15.1, .inl r11.1, .inr (.inr (some (9, 0)))], am_mk r19.2)) rfl ?_
                obtain ⟨r27, h28, h⟩ := am_bd h
                refine am_Go.cl htb rfl (ex_X9_doHarm d (by omega) r11.1 r15.1 r19.1 r19.2 r27 h28) ?_
                show am_Go d 164 (170, [some (.inr (.inr (some (9, 0)))), some (.inr (.inr (some (5, x1)))), some (.inl x2), some (.inl x3), some (.inl x4), some (.inl r11.1), some (.inl r15.1), some (.inl r19.1), some (.inl (-1))], [.inl r27.1], am_mk r27.2) _ _ _ _
                refine am_Go.n htb 3 (S' := (215, [some (.inr (.inr (some (9, 0)))), some (.inr (.inr (some (5, x1)))), some (.inl x2), some (.inl x3), some (.inl x4), some (.inl r11.1), some (.inl r15.1), some (.inl r19.1), some (.inl r27.1)], [.inl r27.1], am_mk r27.2)) rfl ?_
                by_cases hc29 : 0 ≤ r27.1
                · rw [if_pos hc29] at h
                  refine am_Go.c1 htb (S' := (220, [some (.inr (.inr (some (9, 0)))), some (.inr (.inr (some (5, x1)))), some (.inl x2), some (.inl x3), some (.inl x4), some (.inl r11.1), some (.inl r15.1), some (.inl r19.1), some (.inl r27.1)], [], am_mk r27.2)) (if_pos hc29) ?_
                  refine am_Go.n htb 11 (S' := (235, [some (.inr (.inr (some (9, 0)))), some (.inr (.inr (some (5, x1)))), some (.inl x2), some (.inl x3), some (.inl x4), some (.inl r11.1), some (.inl r15.1), some (.inl r19.1), some (.inl r27.1)], [.inl (r27.2.1 5 x1 4), .inr (.inr (some (9, 0)))], am_mk (am_si r27.2 41 0 1 ((r27.2.1 41 0 1) + (1 : Int32))))) rfl ?_
                  obtain ⟨r30, h31, h⟩ := am_bd h
                  refine am_Go.cl htb rfl (ex_X9_fillOrderWords d (by omega) (r27.2.1 5 x1 4) (am_si r27.2 41 0 1 ((r27.2.1 41 0 1) + (1 : Int32))) r30 h31) ?_
                  show am_Go d 164 (238, [some (.inr (.inr (some (9, 0)))), some (.inr (.inr (some (5, x1)))), some (.inl x2), some (.inl x3), some (.inl x4), some (.inl r11.1), some (.inl r15.1), some (.inl r19.1), some (.inl r27.1)], [], am_mk r30) _ _ _ _
                  refine am_Go.n htb 2 (S' := (10, [some (.inr (.inr (some (9, 0)))), some (.inr (.inr (some (5, x1)))), some (.inl x2), some (.inl x3), some (.inl (x4 + 1)), some (.inl r11.1), some (.inl r15.1), some (.inl r19.1), some (.inl r27.1)], [], am_mk r30)) rfl ?_
                  refine am_Go.fg (L0 := [some (.inr (.inr (some (9, 0)))), some (.inr (.inr (some (5, x1)))), some (.inl x2), some (.inl x3), some (.inl (x4 + 1)), none, none, none, none]) (by exact ⟨rfl, ⟨rfl, ⟨rfl, ⟨rfl, ⟨rfl, trivial⟩⟩⟩⟩⟩) ?_
                  first | exact ih h | exact ih h hk | exact ih h hr | exact ih h hk hr
                · rw [if_neg hc29] at h
                  refine am_Go.c1 htb (S' := (218, [some (.inr (.inr (some (9, 0)))), some (.inr (.inr (some (5, x1)))), some (.inl x2), some (.inl x3), some (.inl x4), some (.inl r11.1), some (.inl r15.1), some (.inl r19.1), some (.inl r27.1)], [], am_mk r27.2)) (if_neg hc29) ?_
                  refine am_Go.n htb 1 (S' := (219, [some (.inr (.inr (some (9, 0)))), some (.inr (.inr (some (5, x1)))), some (.inl x2), some (.inl x3), some (.inl x4), some (.inl r11.1), some (.inl r15.1), some (.inl r19.1), some (.inl r27.1)], [.inl 0], am_mk r27.2)) rfl ?_
                  cases h
                  obtain ⟨rfl, rfl, rfl, rfl⟩ := hr _ rfl
                  exact am_Go.rt htb rfl
              · rw [if_neg hs26] at h
                by_cases hs32 : r24 = 271
                · rw [if_pos hs32] at h
                  refine am_Go.o htb (am_o_sw [(270, 160), (271, 175), (272, 194)] 207) rfl (S' := (175, [some (.inr (.inr (some (9, 0)))), some (.inr (.inr (some (5, x1)))), some (.inl x2), some (.inl x3), some (.inl x4), some (.inl r11.1), some (.inl r15.1), some (.inl r19.1), some (.inl (-1))], [], am_mk r19.2)) (am_sw_eq (by simp only [am_sw, if_neg hs26, if_pos hs32])) ?_
                  refine am_Go.n htb 2 (S' := (178, [some (.inr (.inr (some (9, 0)))), some (.inr (.inr (some (5, x1)))), some (.inl x2), some (.inl x3), some (.inl x4), some (.inl r11.1), some (.inl r15.1), some (.inl r19.1), some (.inl (-1))], [.inl r11.1, .inr (.inr (some (9, 0)))], am_mk r19.2)) rfl ?_
                  obtain ⟨r33, h34, h⟩ := am_bd h
                  refine am_Go.cl htb rfl (ex_X9_doFeast d (by omega) r11.1 r19.2 r33 h34) ?_
                  show am_Go d 164 (181, [some (.inr (.inr (some (9, 0)))), some (.inr (.inr (some (5, x1)))), some (.inl x2), some (.inl x3), some (.inl x4), some (.inl r11.1), some (.inl r15.1), some (.inl r19.1), some (.inl (-1))], [.inl r33.1], am_mk r33.2) _ _ _ _
                  refine am_Go.n htb 8 (S' := (215, [some (.inr (.inr (some (9, 0)))), some (.inr (.inr (some (5, x1)))), some (.inl x2), some (.inl x3), some (.inl x4), some (.inl r11.1), some (.inl r15.1), some (.inl r19.1), some (.inl r33.1)], [.inl r33.1], am_mk (am_si r33.2 41 0 2 r33.1))) rfl ?_
                  by_cases hc35 : 0 ≤ r33.1
                  · rw [if_pos hc35] at h
                    refine am_Go.c1 htb (S' := (220, [some (.inr (.inr (some (9, 0)))), some (.inr (.inr (some (5, x1)))), some (.inl x2), some (.inl x3), some (.inl x4), some (.inl r11.1), some (.inl r15.1), some (.inl r19.1), some (.inl r33.1)], [], am_mk (am_si r33.2 41 0 2 r33.1))) (if_pos hc35) ?_
                    refine am_Go.n htb 11 (S' := (235, [some (.inr (.inr (some (9, 0)))), some (.inr (.inr (some (5, x1)))), some (.inl x2), some (.inl x3), some (.inl x4), some (.inl r11.1), some (.inl r15.1), some (.inl r19.1), some (.inl r33.1)], [.inl (r33.2.1 5 x1 4), .inr (.inr (some (9, 0)))], am_mk (am_si (am_si r33.2 41 0 2 r33.1) 41 0 1 ((r33.2.1 41 0 1) + (1 : Int32))))) rfl ?_
                    obtain ⟨r36, h37, h⟩ := am_bd h
                    refine am_Go.cl htb rfl (ex_X9_fillOrderWords d (by omega) (r33.2.1 5 x1 4) (am_si (am_si r33.2 41 0 2 r33.1) 41 0 1 ((r33.2.1 41 0 1) + (1 : Int32))) r36 h37) ?_
                    show am_Go d 164 (238, [some (.inr (.inr (some (9, 0)))), some (.inr (.inr (some (5, x1)))), some (.inl x2), some (.inl x3), some (.inl x4), some (.inl r11.1), some (.inl r15.1), some (.inl r19.1), some (.inl r33.1)], [], am_mk r36) _ _ _ _
                    refine am_Go.n htb 2 (S' := (10, [some (.inr (.inr (some (9, 0)))), some (.inr (.inr (some (5, x1)))), some (.inl x2), some (.inl x3), some (.inl (x4 + 1)), some (.inl r11.1), some (.inl r15.1), some (.inl r19.1), some (.inl r33.1)], [], am_mk r36)) rfl ?_
                    refine am_Go.fg (L0 := [some (.inr (.inr (some (9, 0)))), some (.inr (.inr (some (5, x1)))), some (.inl x2), some (.inl x3), some (.inl (x4 + 1)), none, none, none, none]) (by exact ⟨rfl, ⟨rfl, ⟨rfl, ⟨rfl, ⟨rfl, trivial⟩⟩⟩⟩⟩) ?_
                    first | exact ih h | exact ih h hk | exact ih h hr | exact ih h hk hr
                  · rw [if_neg hc35] at h
                    refine am_Go.c1 htb (S' := (218, [some (.inr (.inr (some (9, 0)))), some (.inr (.inr (some (5, x1)))), some (.inl x2), some (.inl x3), some (.inl x4), some (.inl r11.1), some (.inl r15.1), some (.inl r19.1), some (.inl r33.1)], [], am_mk (am_si r33.2 41 0 2 r33.1))) (if_neg hc35) ?_
                    refine am_Go.n htb 1 (S' := (219, [some (.inr (.inr (some (9, 0)))), some (.inr (.inr (some (5, x1)))), some (.inl x2), some (.inl x3), some (.inl x4), some (.inl r11.1), some (.inl r15.1), some (.inl r19.1), some (.inl r33.1)], [.inl 0], am_mk (am_si r33.2 41 0 2 r33.1))) rfl ?_
                    cases h
                    obtain ⟨rfl, rfl, rfl, rfl⟩ := hr _ rfl
                    exact am_Go.rt htb rfl
                · rw [if_neg hs32] at h
                  by_cases hs38 : r24 = 272
                  · rw [if_pos hs38] at h
                    refine am_Go.o htb (am_o_sw [(270, 160), (271, 175), (272, 194)] 207) rfl (S' := (194, [some (.inr (.inr (some (9, 0)))), some (.inr (.inr (some (5, x1)))), some (.inl x2), some (.inl x3), some (.inl x4), some (.inl r11.1), some (.inl r15.1), some (.inl r19.1), some (.inl (-1))], [], am_mk r19.2)) (am_sw_eq (by simp only [am_sw, if_neg hs26, if_neg hs32, if_pos hs38])) ?_
                    refine am_Go.n htb 3 (S' := (199, [some (.inr (.inr (some (9, 0)))), some (.inr (.inr (some (5, x1)))), some (.inl x2), some (.inl x3), some (.inl x4), some (.inl r11.1), some (.inl r15.1), some (.inl r19.1), some (.inl (-1))], [.inl r15.1, .inl r11.1, .inr (.inr (some (9, 0)))], am_mk r19.2)) rfl ?_
                    obtain ⟨r39, h40, h⟩ := am_bd h
                    refine am_Go.cl htb rfl (ex_X9_doPardon d (by omega) r11.1 r15.1 r19.2 r39 h40) ?_
                    show am_Go d 164 (202, [some (.inr (.inr (some (9, 0)))), some (.inr (.inr (some (5, x1)))), some (.inl x2), some (.inl x3), some (.inl x4), some (.inl r11.1), some (.inl r15.1), some (.inl r19.1), some (.inl (-1))], [.inl r39.1], am_mk r39.2) _ _ _ _
                    refine am_Go.n htb 3 (S' := (215, [some (.inr (.inr (some (9, 0)))), some (.inr (.inr (some (5, x1)))), some (.inl x2), some (.inl x3), some (.inl x4), some (.inl r11.1), some (.inl r15.1), some (.inl r19.1), some (.inl r39.1)], [.inl r39.1], am_mk r39.2)) rfl ?_
                    by_cases hc41 : 0 ≤ r39.1
                    · rw [if_pos hc41] at h
                      refine am_Go.c1 htb (S' := (220, [some (.inr (.inr (some (9, 0)))), some (.inr (.inr (some (5, x1)))), some (.inl x2), some (.inl x3), some (.inl x4), some (.inl r11.1), some (.inl r15.1), some (.inl r19.1), some (.inl r39.1)], [], am_mk r39.2)) (if_pos hc41) ?_
                      refine am_Go.n htb 11 (S' := (235, [some (.inr (.inr (some (9, 0)))), some (.inr (.inr (some (5, x1)))), some (.inl x2), some (.inl x3), some (.inl x4), some (.inl r11.1), some (.inl r15.1), some (.inl r19.1), some (.inl r39.1)], [.inl (r39.2.1 5 x1 4), .inr (.inr (some (9, 0)))], am_mk (am_si r39.2 41 0 1 ((r39.2.1 41 0 1) + (1 : Int32))))) rfl ?_
                      obtain ⟨r42, h43, h⟩ := am_bd h
                      refine am_Go.cl htb rfl (ex_X9_fillOrderWords d (by omega) (r39.2.1 5 x1 4) (am_si r39.2 41 0 1 ((r39.2.1 41 0 1) + (1 : Int32))) r42 h43) ?_
                      show am_Go d 164 (238, [some (.inr (.inr (some (9, 0)))), some (.inr (.inr (some (5, x1)))), some (.inl x2), some (.inl x3), some (.inl x4), some (.inl r11.1), some (.inl r15.1), some (.inl r19.1), some (.inl r39.1)], [], am_mk r42) _ _ _ _
                      refine am_Go.n htb 2 (S' := (10, [some (.inr (.inr (some (9, 0)))), some (.inr (.inr (some (5, x1)))), some (.inl x2), some (.inl x3), some (.inl (x4 + 1)), some (.inl r11.1), some (.inl r15.1), some (.inl r19.1), some (.inl r39.1)], [], am_mk r42)) rfl ?_
                      refine am_Go.fg (L0 := [some (.inr (.inr (some (9, 0)))), some (.inr (.inr (some (5, x1)))), some (.inl x2), some (.inl x3), some (.inl (x4 + 1)), none, none, none, none]) (by exact ⟨rfl, ⟨rfl, ⟨rfl, ⟨rfl, ⟨rfl, trivial⟩⟩⟩⟩⟩) ?_
                      first | exact ih h | exact ih h hk | exact ih h hr | exact ih h hk hr
                    · rw [if_neg hc41] at h
                      refine am_Go.c1 htb (S' := (218, [some (.inr (.inr (some (9, 0)))), some (.inr (.inr (some (5, x1)))), some (.inl x2), some (.inl x3), some (.inl x4), some (.inl r11.1), some (.inl r15.1), some (.inl r19.1), some (.inl r39.1)], [], am_mk r39.2)) (if_neg hc41) ?_
                      refine am_Go.n htb 1 (S' := (219, [some (.inr (.inr (some (9, 0)))), some (.inr (.inr (some (5, x1)))), some (.inl x2), some (.inl x3), some (.inl x4), some (.inl r11.1), some (.inl r15.1), some (.inl r19.1), some (.inl r39.1)], [.inl 0], am_mk r39.2)) rfl ?_
                      cases h
                      obtain ⟨rfl, rfl, rfl, rfl⟩ := hr _ rfl
                      exact am_Go.rt htb rfl
                  · rw [if_neg hs38] at h
                    refine am_Go.o htb (am_o_sw [(270, 160), (271, 175), (272, 194)] 207) rfl (S' := (207, [some (.inr (.inr (some (9, 0)))), some (.inr (.inr (some (5, x1)))), some (.inl x2), some (.inl x3), some (.inl x4), some (.inl r11.1), some (.inl r15.1), some (.inl r19.1), some (.inl (-1))], [], am_mk r19.2)) (am_sw_eq (by simp only [am_sw, if_neg hs26, if_neg hs32, if_neg hs38, if_false])) ?_
                    refine am_Go.n htb 1 (S' := (208, [some (.inr (.inr (some (9, 0)))), some (.inr (.inr (some (5, x1)))), some (.inl x2), some (.inl x3), some (.inl x4), some (.inl r11.1), some (.inl r15.1), some (.inl r19.1), some (.inl (-1))], [.inr (.inr (some (9, 0)))], am_mk r19.2)) rfl ?_
                    obtain ⟨r44, h45, h⟩ := am_bd h
                    refine am_Go.cl htb rfl (ex_X9_doPass d (by omega)  r19.2 r44 h45) ?_
                    show am_Go d 164 (211, [some (.inr (.inr (some (9, 0)))), some (.inr (.inr (some (5, x1)))), some (.inl x2), some (.inl x3), some (.inl x4), some (.inl r11.1), some (.inl r15.1), some (.inl r19.1), some (.inl (-1))], [.inl r44.1], am_mk r44.2) _ _ _ _
                    refine am_Go.n htb 2 (S' := (215, [some (.inr (.inr (some (9, 0)))), some (.inr (.inr (some (5, x1)))), some (.inl x2), some (.inl x3), some (.inl x4), some (.inl r11.1), some (.inl r15.1), some (.inl r19.1), some (.inl r44.1)], [.inl r44.1], am_mk r44.2)) rfl ?_
                    by_cases hc46 : 0 ≤ r44.1
                    · rw [if_pos hc46] at h
                      refine am_Go.c1 htb (S' := (220, [some (.inr (.inr (some (9, 0)))), some (.inr (.inr (some (5, x1)))), some (.inl x2), some (.inl x3), some (.inl x4), some (.inl r11.1), some (.inl r15.1), some (.inl r19.1), some (.inl r44.1)], [], am_mk r44.2)) (if_pos hc46) ?_
                      refine am_Go.n htb 11 (S' := (235, [some (.inr (.inr (some (9, 0)))), some (.inr (.inr (some (5, x1)))), some (.inl x2), some (.inl x3), some (.inl x4), some (.inl r11.1), some (.inl r15.1), some (.inl r19.1), some (.inl r44.1)], [.inl (r44.2.1 5 x1 4), .inr (.inr (some (9, 0)))], am_mk (am_si r44.2 41 0 1 ((r44.2.1 41 0 1) + (1 : Int32))))) rfl ?_
                      obtain ⟨r47, h48, h⟩ := am_bd h
                      refine am_Go.cl htb rfl (ex_X9_fillOrderWords d (by omega) (r44.2.1 5 x1 4) (am_si r44.2 41 0 1 ((r44.2.1 41 0 1) + (1 : Int32))) r47 h48) ?_
                      show am_Go d 164 (238, [some (.inr (.inr (some (9, 0)))), some (.inr (.inr (some (5, x1)))), some (.inl x2), some (.inl x3), some (.inl x4), some (.inl r11.1), some (.inl r15.1), some (.inl r19.1), some (.inl r44.1)], [], am_mk r47) _ _ _ _
                      refine am_Go.n htb 2 (S' := (10, [some (.inr (.inr (some (9, 0)))), some (.inr (.inr (some (5, x1)))), some (.inl x2), some (.inl x3), some (.inl (x4 + 1)), some (.inl r11.1), some (.inl r15.1), some (.inl r19.1), some (.inl r44.1)], [], am_mk r47)) rfl ?_
                      refine am_Go.fg (L0 := [some (.inr (.inr (some (9, 0)))), some (.inr (.inr (some (5, x1)))), some (.inl x2), some (.inl x3), some (.inl (x4 + 1)), none, none, none, none]) (by exact ⟨rfl, ⟨rfl, ⟨rfl, ⟨rfl, ⟨rfl, trivial⟩⟩⟩⟩⟩) ?_
                      first | exact ih h | exact ih h hk | exact ih h hr | exact ih h hk hr
                    · rw [if_neg hc46] at h
                      refine am_Go.c1 htb (S' := (218, [some (.inr (.inr (some (9, 0)))), some (.inr (.inr (some (5, x1)))), some (.inl x2), some (.inl x3), some (.inl x4), some (.inl r11.1), some (.inl r15.1), some (.inl r19.1), some (.inl r44.1)], [], am_mk r44.2)) (if_neg hc46) ?_
                      refine am_Go.n htb 1 (S' := (219, [some (.inr (.inr (some (9, 0)))), some (.inr (.inr (some (5, x1)))), some (.inl x2), some (.inl x3), some (.inl x4), some (.inl r11.1), some (.inl r15.1), some (.inl r19.1), some (.inl r44.1)], [.inl 0], am_mk r44.2)) rfl ?_
                      cases h
                      obtain ⟨rfl, rfl, rfl, rfl⟩ := hr _ rfl
                      exact am_Go.rt htb rfl
            · rw [if_neg hc23] at h
              refine am_Go.c1 htb (S' := (122, [some (.inr (.inr (some (9, 0)))), some (.inr (.inr (some (5, x1)))), some (.inl x2), some (.inl x3), some (.inl x4), some (.inl r11.1), some (.inl r15.1), some (.inl r19.1), none], [], am_mk r19.2)) (if_neg hc23) ?_
              refine am_Go.n htb 1 (S' := (123, [some (.inr (.inr (some (9, 0)))), some (.inr (.inr (some (5, x1)))), some (.inl x2), some (.inl x3), some (.inl x4), some (.inl r11.1), some (.inl r15.1), some (.inl r19.1), none], [.inl 0], am_mk r19.2)) rfl ?_
              cases h
              obtain ⟨rfl, rfl, rfl, rfl⟩ := hr _ rfl
              exact am_Go.rt htb rfl
set_option maxRecDepth 100000 in
theorem ex_X9_ranClause (d : Nat) (hd : 7 ≤ d) (a1 : Nat) (a2 : Int32) (m : am_m) (t : Int32 × am_m) (h : fn_X9_ranClause a1 a2 m = some t) : am_Ex am_cod d 164 [.inr (.inr (some (9, 0))), .inr (.inr (some (5, a1))), .inl a2] (am_mk m) (some (.inl t.1)) (am_mk t.2) 0 0 := by
  obtain ⟨d, rfl⟩ : ∃ e, d = e + 1 := ⟨d - 1, by omega⟩
  have htb : am_tab 164 = at_164 := rfl
  refine ⟨Nat.le_of_ble_eq_true rfl, ?_⟩
  unfold fn_X9_ranClause at h
  show am_Go d 164 (0, [some (.inr (.inr (some (9, 0)))), some (.inr (.inr (some (5, a1)))), some (.inl a2), none, none, none, none, none, none], [], am_mk m) _ _ 0 0
  refine am_Go.n htb 3 (S' := (3, [some (.inr (.inr (some (9, 0)))), some (.inr (.inr (some (5, a1)))), some (.inl a2), none, none, none, none, none, none], [.inl 1, .inl a2, .inr (.inr (some (5, a1)))], am_mk m)) rfl ?_
  obtain ⟨r1, h2, h⟩ := am_bd h
  refine am_Go.cl htb rfl (ex_X5_headOf d (by omega) a1 a2 1 m r1 h2) ?_
  show am_Go d 164 (6, [some (.inr (.inr (some (9, 0)))), some (.inr (.inr (some (5, a1)))), some (.inl a2), none, none, none, none, none, none], [.inl r1], am_mk m) _ _ _ _
  refine am_Go.n htb 3 (S' := (10, [some (.inr (.inr (some (9, 0)))), some (.inr (.inr (some (5, a1)))), some (.inl a2), some (.inl r1), some (.inl 0), none, none, none, none], [], am_mk m)) rfl ?_
  obtain ⟨w52, h50, h⟩ := am_bd h
  refine lt_X9_ranClause_10 _ hd (h := h50) (hk := ?_) (hr := ?_)
  · intro q49 he
    subst he
    dsimp only at h
    refine am_Go.n htb 1 (S' := (245, [some (.inr (.inr (some (9, 0)))), some (.inr (.inr (some (5, a1)))), some (.inl a2), some (.inl r1), none, none, none, none, none], [.inl 1], am_mk q49)) rfl ?_
    cases h
    exact am_Go.rt htb rfl
  · intro rr51 he
    subst he
    cases h
    exact ⟨rfl, rfl, rfl, rfl⟩
