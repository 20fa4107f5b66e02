-- X10_drawn
set_option maxRecDepth 100000 in
theorem ex_X10_drawn (d : Nat) (hd : 2 ≤ d) (a1 : Int32) (a2 : Int32) (m : am_m) (t : Int32 × am_m) (h : fn_X10_drawn a1 a2 m = some t) : am_Ex am_cod d 294 [.inr (.inr (some (10, 0))), .inl a1, .inl a2] (am_mk m) (some (.inl t.1)) (am_mk t.2) 0 0 := by
  obtain ⟨d, rfl⟩ : ∃ e, d = e + 1 := ⟨d - 1, by omega⟩
  have htb : am_tab 294 = at_294 := rfl
  refine ⟨Nat.le_of_ble_eq_true rfl, ?_⟩
  unfold fn_X10_drawn at h
  show am_Go d 294 (0, [some (.inr (.inr (some (10, 0)))), some (.inl a1), some (.inl a2)], [], am_mk m) _ _ 0 0
  refine am_Go.n htb 11 (S' := (15, [some (.inr (.inr (some (10, 0)))), some (.inl a1), some (.inl a2)], [.inr (.inl (((m.1 10 0 61).toInt64) - (1 : Int64))), .inr (.inl 0), .inr (.inl a1.toInt64)], am_mk (am_si m 10 0 0 0))) rfl ?_
  obtain ⟨r1, h2, h⟩ := am_bd h
  refine am_Go.cl htb rfl (ex_X10_in d (by omega) a1.toInt64 0 (((m.1 10 0 61).toInt64) - (1 : Int64)) (am_si m 10 0 0 0) r1 h2) ?_
  show am_Go d 294 (18, [some (.inr (.inr (some (10, 0)))), some (.inl a1), some (.inl a2)], [.inl r1], am_mk (am_si m 10 0 0 0)) _ _ _ _
  by_cases hc3 : r1 = 0
  · rw [if_pos hc3] at h
    refine am_Go.c1 htb (S' := (47, [some (.inr (.inr (some (10, 0)))), some (.inl a1), some (.inl a2)], [], am_mk (am_si m 10 0 0 0))) (if_pos hc3) ?_
    refine am_Go.n htb 1 (S' := (48, [some (.inr (.inr (some (10, 0)))), some (.inl a1), some (.inl a2)], [.inl (-1)], am_mk (am_si m 10 0 0 0))) rfl ?_
    cases h
    exact am_Go.rt htb rfl
  · rw [if_neg hc3] at h
    refine am_Go.c1 htb (S' := (21, [some (.inr (.inr (some (10, 0)))), some (.inl a1), some (.inl a2)], [], am_mk (am_si m 10 0 0 0))) (if_neg hc3) ?_
    refine am_Go.n htb 2 (S' := (23, [some (.inr (.inr (some (10, 0)))), some (.inl a1), some (.inl a2)], [.inl (-1), .inl a2], am_mk (am_si m 10 0 0 0))) rfl ?_
    by_cases hc4 : a2 = (-1 : Int32)
    · rw [if_pos hc4] at h
      refine am_Go.c1 htb (S' := (42, [some (.inr (.inr (some (10, 0)))), some (.inl a1), some (.inl a2)], [], am_mk (am_si m 10 0 0 0))) (if_pos hc4) ?_
      refine am_Go.n htb 2 (S' := (44, [some (.inr (.inr (some (10, 0)))), some (.inl a1), some (.inl a2)], [.inl a2, .inl a1], am_mk (am_si m 10 0 0 0))) rfl ?_
      by_cases hc5 : a1 ≠ a2
      · rw [if_pos hc5] at h
        refine am_Go.c1 htb (S' := (49, [some (.inr (.inr (some (10, 0)))), some (.inl a1), some (.inl a2)], [], am_mk (am_si m 10 0 0 0))) (if_pos hc5) ?_
        refine am_Go.n htb 2 (S' := (51, [some (.inr (.inr (some (10, 0)))), some (.inl a1), some (.inl a2)], [.inl (-1), .inl a2], am_mk (am_si m 10 0 0 0))) rfl ?_
        by_cases hc6 : a2 ≠ (-1 : Int32)
        · rw [if_pos hc6] at h
          refine am_Go.c1 htb (S' := (65, [some (.inr (.inr (some (10, 0)))), some (.inl a1), some (.inl a2)], [], am_mk (am_si m 10 0 0 0))) (if_pos hc6) ?_
          refine am_Go.n htb 9 (S' := (78, [some (.inr (.inr (some (10, 0)))), some (.inl a1), some (.inl a2)], [.inl (((10 : Int32) + ((7 : Int32) * a1)) + a2), .inr (.inr (some (63, 0)))], am_mk (am_si m 10 0 0 0))) rfl ?_
          obtain ⟨hg7, h⟩ := am_ck_some h
          refine am_Go.c1 htb (S' := (79, [some (.inr (.inr (some (10, 0)))), some (.inl a1), some (.inl a2)], [.inl (m.1 63 0 (((10 : Int32) + ((7 : Int32) * a1)) + a2).toNatClampNeg)], am_mk (am_si m 10 0 0 0))) (if_neg hg7) ?_
          cases h
          exact am_Go.rt htb rfl
        · rw [if_neg hc6] at h
          refine am_Go.c1 htb (S' := (54, [some (.inr (.inr (some (10, 0)))), some (.inl a1), some (.inl a2)], [], am_mk (am_si m 10 0 0 0))) (if_neg hc6) ?_
          refine am_Go.n htb 5 (S' := (61, [some (.inr (.inr (some (10, 0)))), some (.inl a1), some (.inl a2)], [.inl ((3 : Int32) + a1), .inr (.inr (some (63, 0)))], am_mk (am_si m 10 0 0 0))) rfl ?_
          obtain ⟨hg8, h⟩ := am_ck_some h
          refine am_Go.c1 htb (S' := (62, [some (.inr (.inr (some (10, 0)))), some (.inl a1), some (.inl a2)], [.inl (m.1 63 0 ((3 : Int32) + a1).toNatClampNeg)], am_mk (am_si m 10 0 0 0))) (if_neg hg8) ?_
          refine am_Go.n htb 1 (S' := (79, [some (.inr (.inr (some (10, 0)))), some (.inl a1), some (.inl a2)], [.inl (m.1 63 0 ((3 : Int32) + a1).toNatClampNeg)], am_mk (am_si m 10 0 0 0))) rfl ?_
          cases h
          exact am_Go.rt htb rfl
      · rw [if_neg hc5] at h
        refine am_Go.c1 htb (S' := (47, [some (.inr (.inr (some (10, 0)))), some (.inl a1), some (.inl a2)], [], am_mk (am_si m 10 0 0 0))) (if_neg hc5) ?_
        refine am_Go.n htb 1 (S' := (48, [some (.inr (.inr (some (10, 0)))), some (.inl a1), some (.inl a2)], [.inl (-1)], am_mk (am_si m 10 0 0 0))) rfl ?_
        cases h
        exact am_Go.rt htb rfl
    · rw [if_neg hc4] at h
      refine am_Go.c1 htb (S' := (26, [some (.inr (.inr (some (10, 0)))), some (.inl a1), some (.inl a2)], [], am_mk (am_si m 10 0 0 0))) (if_neg hc4) ?_
      refine am_Go.n htb 8 (S' := (36, [some (.inr (.inr (some (10, 0)))), some (.inl a1), some (.inl a2)], [.inr (.inl (((m.1 10 0 61).toInt64) - (1 : Int64))), .inr (.inl 0), .inr (.inl a2.toInt64)], am_mk (am_si m 10 0 0 0))) rfl ?_
      obtain ⟨r9, h10, h⟩ := am_bd h
      refine am_Go.cl htb rfl (ex_X10_in d (by omega) a2.toInt64 0 (((m.1 10 0 61).toInt64) - (1 : Int64)) (am_si m 10 0 0 0) r9 h10) ?_
      show am_Go d 294 (39, [some (.inr (.inr (some (10, 0)))), some (.inl a1), some (.inl a2)], [.inl r9], am_mk (am_si m 10 0 0 0)) _ _ _ _
      by_cases hc11 : r9 = 0
      · rw [if_pos hc11] at h
        refine am_Go.c1 htb (S' := (47, [some (.inr (.inr (some (10, 0)))), some (.inl a1), some (.inl a2)], [], am_mk (am_si m 10 0 0 0))) (if_pos hc11) ?_
        refine am_Go.n htb 1 (S' := (48, [some (.inr (.inr (some (10, 0)))), some (.inl a1), some (.inl a2)], [.inl (-1)], am_mk (am_si m 10 0 0 0))) rfl ?_
        cases h
        exact am_Go.rt htb rfl
      · rw [if_neg hc11] at h
        refine am_Go.c1 htb (S' := (42, [some (.inr (.inr (some (10, 0)))), some (.inl a1), some (.inl a2)], [], am_mk (am_si m 10 0 0 0))) (if_neg hc11) ?_
        refine am_Go.n htb 2 (S' := (44, [some (.inr (.inr (some (10, 0)))), some (.inl a1), some (.inl a2)], [.inl a2, .inl a1], am_mk (am_si m 10 0 0 0))) rfl ?_
        by_cases hc12 : a1 ≠ a2
        · rw [if_pos hc12] at h
          refine am_Go.c1 htb (S' := (49, [some (.inr (.inr (some (10, 0)))), some (.inl a1), some (.inl a2)], [], am_mk (am_si m 10 0 0 0))) (if_pos hc12) ?_
          refine am_Go.n htb 2 (S' := (51, [some (.inr (.inr (some (10, 0)))), some (.inl a1), some (.inl a2)], [.inl (-1), .inl a2], am_mk (am_si m 10 0 0 0))) rfl ?_
          by_cases hc13 : a2 ≠ (-1 : Int32)
          · rw [if_pos hc13] at h
            refine am_Go.c1 htb (S' := (65, [some (.inr (.inr (some (10, 0)))), some (.inl a1), some (.inl a2)], [], am_mk (am_si m 10 0 0 0))) (if_pos hc13) ?_
            refine am_Go.n htb 9 (S' := (78, [some (.inr (.inr (some (10, 0)))), some (.inl a1), some (.inl a2)], [.inl (((10 : Int32) + ((7 : Int32) * a1)) + a2), .inr (.inr (some (63, 0)))], am_mk (am_si m 10 0 0 0))) rfl ?_
            obtain ⟨hg14, h⟩ := am_ck_some h
            refine am_Go.c1 htb (S' := (79, [some (.inr (.inr (some (10, 0)))), some (.inl a1), some (.inl a2)], [.inl (m.1 63 0 (((10 : Int32) + ((7 : Int32) * a1)) + a2).toNatClampNeg)], am_mk (am_si m 10 0 0 0))) (if_neg hg14) ?_
            cases h
            exact am_Go.rt htb rfl
          · rw [if_neg hc13] at h
            refine am_Go.c1 htb (S' := (54, [some (.inr (.inr (some (10, 0)))), some (.inl a1), some (.inl a2)], [], am_mk (am_si m 10 0 0 0))) (if_neg hc13) ?_
            refine am_Go.n htb 5 (S' := (61, [some (.inr (.inr (some (10, 0)))), some (.inl a1), some (.inl a2)], [.inl ((3 : Int32) + a1), .inr (.inr (some (63, 0)))], am_mk (am_si m 10 0 0 0))) rfl ?_
            obtain ⟨hg15, h⟩ := am_ck_some h
            refine am_Go.c1 htb (S' := (62, [some (.inr (.inr (some (10, 0)))), some (.inl a1), some (.inl a2)], [.inl (m.1 63 0 ((3 : Int32) + a1).toNatClampNeg)], am_mk (am_si m 10 0 0 0))) (if_neg hg15) ?_
            refine am_Go.n htb 1 (S' := (79, [some (.inr (.inr (some (10, 0)))), some (.inl a1), some (.inl a2)], [.inl (m.1 63 0 ((3 : Int32) + a1).toNatClampNeg)], am_mk (am_si m 10 0 0 0))) rfl ?_
            cases h
            exact am_Go.rt htb rfl
        · rw [if_neg hc12] at h
          refine am_Go.c1 htb (S' := (47, [some (.inr (.inr (some (10, 0)))), some (.inl a1), some (.inl a2)], [], am_mk (am_si m 10 0 0 0))) (if_neg hc12) ?_
          refine am_Go.n htb 1 (S' := (48, [some (.inr (.inr (some (10, 0)))), some (.inl a1), some (.inl a2)], [.inl (-1)], am_mk (am_si m 10 0 0 0))) rfl ?_
          cases h
          exact am_Go.rt htb rfl
-- X10_count
set_option maxRecDepth 100000 in
theorem ex_X10_count (d : Nat) (hd : 2 ≤ d) (a1 : Int32) (m : am_m) (t : Int32 × am_m) (h : fn_X10_count a1 m = some t) : am_Ex am_cod d 295 [.inr (.inr (some (10, 0))), .inl a1] (am_mk m) (some (.inl t.1)) (am_mk t.2) 0 0 := by
  obtain ⟨d, rfl⟩ : ∃ e, d = e + 1 := ⟨d - 1, by omega⟩
  have htb : am_tab 295 = at_295 := rfl
  refine ⟨Nat.le_of_ble_eq_true rfl, ?_⟩
  unfold fn_X10_count at h
  show am_Go d 295 (0, [some (.inr (.inr (some (10, 0)))), some (.inl a1)], [], am_mk m) _ _ 0 0
  refine am_Go.n htb 4 (S' := (6, [some (.inr (.inr (some (10, 0)))), some (.inl a1)], [.inl a1], am_mk (am_si m 10 0 0 0))) rfl ?_
  by_cases hs1 : a1 = 0
  · rw [if_pos hs1] at h
    refine am_Go.o htb (am_o_sw [(0, 72), (1, 79), (2, 84), (3, 89), (4, 96), (5, 103), (6, 108), (7, 113), (8, 120), (9, 127), (10, 134), (11, 141), (12, 149)] 156) rfl (S' := (72, [some (.inr (.inr (some (10, 0)))), some (.inl a1)], [], am_mk (am_si m 10 0 0 0))) (am_sw_eq (by simp only [am_sw, if_pos hs1])) ?_
    refine am_Go.n htb 4 (S' := (78, [some (.inr (.inr (some (10, 0)))), some (.inl a1)], [.inl (m.1 44 0 0)], am_mk (am_si m 10 0 0 0))) rfl ?_
    cases h
    exact am_Go.rt htb rfl
  · rw [if_neg hs1] at h
    by_cases hs2 : a1 = 1
    · rw [if_pos hs2] at h
      refine am_Go.o htb (am_o_sw [(0, 72), (1, 79), (2, 84), (3, 89), (4, 96), (5, 103), (6, 108), (7, 113), (8, 120), (9, 127), (10, 134), (11, 141), (12, 149)] 156) rfl (S' := (79, [some (.inr (.inr (some (10, 0)))), some (.inl a1)], [], am_mk (am_si m 10 0 0 0))) (am_sw_eq (by simp only [am_sw, if_neg hs1, if_pos hs2])) ?_
      refine am_Go.n htb 1 (S' := (80, [some (.inr (.inr (some (10, 0)))), some (.inl a1)], [.inr (.inr (some (10, 0)))], am_mk (am_si m 10 0 0 0))) rfl ?_
      obtain ⟨r3, h4, h⟩ := am_bd h
      refine am_Go.cl htb rfl (ex_X10_harmsOf d (by omega)  (am_si m 10 0 0 0) r3 h4) ?_
      show am_Go d 295 (83, [some (.inr (.inr (some (10, 0)))), some (.inl a1)], [.inl r3], am_mk (am_si m 10 0 0 0)) _ _ _ _
      cases h
      exact am_Go.rt htb rfl
    · rw [if_neg hs2] at h
      by_cases hs5 : a1 = 2
      · rw [if_pos hs5] at h
        refine am_Go.o htb (am_o_sw [(0, 72), (1, 79), (2, 84), (3, 89), (4, 96), (5, 103), (6, 108), (7, 113), (8, 120), (9, 127), (10, 134), (11, 141), (12, 149)] 156) rfl (S' := (84, [some (.inr (.inr (some (10, 0)))), some (.inl a1)], [], am_mk (am_si m 10 0 0 0))) (am_sw_eq (by simp only [am_sw, if_neg hs1, if_neg hs2, if_pos hs5])) ?_
        refine am_Go.n htb 1 (S' := (85, [some (.inr (.inr (some (10, 0)))), some (.inl a1)], [.inr (.inr (some (10, 0)))], am_mk (am_si m 10 0 0 0))) rfl ?_
        obtain ⟨r6, h7, h⟩ := am_bd h
        refine am_Go.cl htb rfl (ex_X10_starving d (by omega)  (am_si m 10 0 0 0) r6 h7) ?_
        show am_Go d 295 (88, [some (.inr (.inr (some (10, 0)))), some (.inl a1)], [.inl r6], am_mk (am_si m 10 0 0 0)) _ _ _ _
        cases h
        exact am_Go.rt htb rfl
      · rw [if_neg hs5] at h
        by_cases hs8 : a1 = 3
        · rw [if_pos hs8] at h
          refine am_Go.o htb (am_o_sw [(0, 72), (1, 79), (2, 84), (3, 89), (4, 96), (5, 103), (6, 108), (7, 113), (8, 120), (9, 127), (10, 134), (11, 141), (12, 149)] 156) rfl (S' := (89, [some (.inr (.inr (some (10, 0)))), some (.inl a1)], [], am_mk (am_si m 10 0 0 0))) (am_sw_eq (by simp only [am_sw, if_neg hs1, if_neg hs2, if_neg hs5, if_pos hs8])) ?_
          refine am_Go.n htb 4 (S' := (95, [some (.inr (.inr (some (10, 0)))), some (.inl a1)], [.inl (m.1 44 0 1)], am_mk (am_si m 10 0 0 0))) rfl ?_
          cases h
          exact am_Go.rt htb rfl
        · rw [if_neg hs8] at h
          by_cases hs9 : a1 = 4
          · rw [if_pos hs9] at h
            refine am_Go.o htb (am_o_sw [(0, 72), (1, 79), (2, 84), (3, 89), (4, 96), (5, 103), (6, 108), (7, 113), (8, 120), (9, 127), (10, 134), (11, 141), (12, 149)] 156) rfl (S' := (96, [some (.inr (.inr (some (10, 0)))), some (.inl a1)], [], am_mk (am_si m 10 0 0 0))) (am_sw_eq (by simp only [am_sw, if_neg hs1, if_neg hs2, if_neg hs5, if_neg hs8, if_pos hs9])) ?_
            refine am_Go.n htb 4 (S' := (102, [some (.inr (.inr (some (10, 0)))), some (.inl a1)], [.inl (m.1 44 0 2)], am_mk (am_si m 10 0 0 0))) rfl ?_
            cases h
            exact am_Go.rt htb rfl
          · rw [if_neg hs9] at h
            by_cases hs10 : a1 = 5
            · rw [if_pos hs10] at h
              refine am_Go.o htb (am_o_sw [(0, 72), (1, 79), (2, 84), (3, 89), (4, 96), (5, 103), (6, 108), (7, 113), (8, 120), (9, 127), (10, 134), (11, 141), (12, 149)] 156) rfl (S' := (103, [some (.inr (.inr (some (10, 0)))), some (.inl a1)], [], am_mk (am_si m 10 0 0 0))) (am_sw_eq (by simp only [am_sw, if_neg hs1, if_neg hs2, if_neg hs5, if_neg hs8, if_neg hs9, if_pos hs10])) ?_
              refine am_Go.n htb 2 (S' := (107, [some (.inr (.inr (some (10, 0)))), some (.inl a1)], [.inl (m.1 10 0 8)], am_mk (am_si m 10 0 0 0))) rfl ?_
              cases h
              exact am_Go.rt htb rfl
            · rw [if_neg hs10] at h
              by_cases hs11 : a1 = 6
              · rw [if_pos hs11] at h
                refine am_Go.o htb (am_o_sw [(0, 72), (1, 79), (2, 84), (3, 89), (4, 96), (5, 103), (6, 108), (7, 113), (8, 120), (9, 127), (10, 134), (11, 141), (12, 149)] 156) rfl (S' := (108, [some (.inr (.inr (some (10, 0)))), some (.inl a1)], [], am_mk (am_si m 10 0 0 0))) (am_sw_eq (by simp only [am_sw, if_neg hs1, if_neg hs2, if_neg hs5, if_neg hs8, if_neg hs9, if_neg hs10, if_pos hs11])) ?_
                refine am_Go.n htb 2 (S' := (112, [some (.inr (.inr (some (10, 0)))), some (.inl a1)], [.inl (m.1 10 0 13)], am_mk (am_si m 10 0 0 0))) rfl ?_
                cases h
                exact am_Go.rt htb rfl
              · rw [if_neg hs11] at h
                by_cases hs12 : a1 = 7
                · rw [if_pos hs12] at h
                  refine am_Go.o htb (am_o_sw [(0, 72), (1, 79), (2, 84), (3, 89), (4, 96), (5, 103), (6, 108), (7, 113), (8, 120), (9, 127), (10, 134), (11, 141), (12, 149)] 156) rfl (S' := (113, [some (.inr (.inr (some (10, 0)))), some (.inl a1)], [], am_mk (am_si m 10 0 0 0))) (am_sw_eq (by simp only [am_sw, if_neg hs1, if_neg hs2, if_neg hs5, if_neg hs8, if_neg hs9, if_neg hs10, if_neg hs11, if_pos hs12])) ?_
                  refine am_Go.n htb 4 (S' := (119, [some (.inr (.inr (some (10, 0)))), some (.inl a1)], [.inl (m.1 43 0 1)], am_mk (am_si m 10 0 0 0))) rfl ?_
                  cases h
                  exact am_Go.rt htb rfl
                · rw [if_neg hs12] at h
                  by_cases hs13 : a1 = 8
                  · rw [if_pos hs13] at h
                    refine am_Go.o htb (am_o_sw [(0, 72), (1, 79), (2, 84), (3, 89), (4, 96), (5, 103), (6, 108), (7, 113), (8, 120), (9, 127), (10, 134), (11, 141), (12, 149)] 156) rfl (S' := (120, [some (.inr (.inr (some (10, 0)))), some (.inl a1)], [], am_mk (am_si m 10 0 0 0))) (am_sw_eq (by simp only [am_sw, if_neg hs1, if_neg hs2, if_neg hs5, if_neg hs8, if_neg hs9, if_neg hs10, if_neg hs11, if_neg hs12, if_pos hs13])) ?_
                    refine am_Go.n htb 4 (S' := (126, [some (.inr (.inr (some (10, 0)))), some (.inl a1)], [.inl (m.1 43 0 2)], am_mk (am_si m 10 0 0 0))) rfl ?_
                    cases h
                    exact am_Go.rt htb rfl
                  · rw [if_neg hs13] at h
                    by_cases hs14 : a1 = 9
                    · rw [if_pos hs14] at h
                      refine am_Go.o htb (am_o_sw [(0, 72), (1, 79), (2, 84), (3, 89), (4, 96), (5, 103), (6, 108), (7, 113), (8, 120), (9, 127), (10, 134), (11, 141), (12, 149)] 156) rfl (S' := (127, [some (.inr (.inr (some (10, 0)))), some (.inl a1)], [], am_mk (am_si m 10 0 0 0))) (am_sw_eq (by simp only [am_sw, if_neg hs1, if_neg hs2, if_neg hs5, if_neg hs8, if_neg hs9, if_neg hs10, if_neg hs11, if_neg hs12, if_neg hs13, if_pos hs14])) ?_
                      refine am_Go.n htb 4 (S' := (133, [some (.inr (.inr (some (10, 0)))), some (.inl a1)], [.inl (m.1 43 0 3)], am_mk (am_si m 10 0 0 0))) rfl ?_
                      cases h
                      exact am_Go.rt htb rfl
                    · rw [if_neg hs14] at h
                      by_cases hs15 : a1 = 10
                      · rw [if_pos hs15] at h
                        refine am_Go.o htb (am_o_sw [(0, 72), (1, 79), (2, 84), (3, 89), (4, 96), (5, 103), (6, 108), (7, 113), (8, 120), (9, 127), (10, 134), (11, 141), (12, 149)] 156) rfl (S' := (134, [some (.inr (.inr (some (10, 0)))), some (.inl a1)], [], am_mk (am_si m 10 0 0 0))) (am_sw_eq (by simp only [am_sw, if_neg hs1, if_neg hs2, if_neg hs5, if_neg hs8, if_neg hs9, if_neg hs10, if_neg hs11, if_neg hs12, if_neg hs13, if_neg hs14, if_pos hs15])) ?_
                        refine am_Go.n htb 4 (S' := (140, [some (.inr (.inr (some (10, 0)))), some (.inl a1)], [.inl (m.1 43 0 5)], am_mk (am_si m 10 0 0 0))) rfl ?_
                        cases h
                        exact am_Go.rt htb rfl
                      · rw [if_neg hs15] at h
                        by_cases hs16 : a1 = 11
                        · rw [if_pos hs16] at h
                          refine am_Go.o htb (am_o_sw [(0, 72), (1, 79), (2, 84), (3, 89), (4, 96), (5, 103), (6, 108), (7, 113), (8, 120), (9, 127), (10, 134), (11, 141), (12, 149)] 156) rfl (S' := (141, [some (.inr (.inr (some (10, 0)))), some (.inl a1)], [], am_mk (am_si m 10 0 0 0))) (am_sw_eq (by simp only [am_sw, if_neg hs1, if_neg hs2, if_neg hs5, if_neg hs8, if_neg hs9, if_neg hs10, if_neg hs11, if_neg hs12, if_neg hs13, if_neg hs14, if_neg hs15, if_pos hs16])) ?_
                          refine am_Go.n htb 4 (S' := (148, [some (.inr (.inr (some (10, 0)))), some (.inl a1)], [.inl (m.1 43 0 6)], am_mk (am_si m 10 0 0 0))) rfl ?_
                          cases h
                          exact am_Go.rt htb rfl
                        · rw [if_neg hs16] at h
                          by_cases hs17 : a1 = 12
                          · rw [if_pos hs17] at h
                            refine am_Go.o htb (am_o_sw [(0, 72), (1, 79), (2, 84), (3, 89), (4, 96), (5, 103), (6, 108), (7, 113), (8, 120), (9, 127), (10, 134), (11, 141), (12, 149)] 156) rfl (S' := (149, [some (.inr (.inr (some (10, 0)))), some (.inl a1)], [], am_mk (am_si m 10 0 0 0))) (am_sw_eq (by simp only [am_sw, if_neg hs1, if_neg hs2, if_neg hs5, if_neg hs8, if_neg hs9, if_neg hs10, if_neg hs11, if_neg hs12, if_neg hs13, if_neg hs14, if_neg hs15, if_neg hs16, if_pos hs17])) ?_
                            refine am_Go.n htb 4 (S' := (155, [some (.inr (.inr (some (10, 0)))), some (.inl a1)], [.inl (m.1 44 0 3)], am_mk (am_si m 10 0 0 0))) rfl ?_
                            cases h
                            exact am_Go.rt htb rfl
                          · rw [if_neg hs17] at h
                            refine am_Go.o htb (am_o_sw [(0, 72), (1, 79), (2, 84), (3, 89), (4, 96), (5, 103), (6, 108), (7, 113), (8, 120), (9, 127), (10, 134), (11, 141), (12, 149)] 156) rfl (S' := (156, [some (.inr (.inr (some (10, 0)))), some (.inl a1)], [], am_mk (am_si m 10 0 0 0))) (am_sw_eq (by simp only [am_sw, if_neg hs1, if_neg hs2, if_neg hs5, if_neg hs8, if_neg hs9, if_neg hs10, if_neg hs11, if_neg hs12, if_neg hs13, if_neg hs14, if_neg hs15, if_neg hs16, if_neg hs17, if_false])) ?_
                            refine am_Go.n htb 4 (S' := (164, [some (.inr (.inr (some (10, 0)))), some (.inl a1)], [.inr (.inl 15), .inr (.inl 13), .inr (.inl a1.toInt64)], am_mk (am_si m 10 0 0 0))) rfl ?_
                            obtain ⟨r18, h19, h⟩ := am_bd h
                            refine am_Go.cl htb rfl (ex_X10_in d (by omega) a1.toInt64 13 15 (am_si m 10 0 0 0) r18 h19) ?_
                            show am_Go d 295 (167, [some (.inr (.inr (some (10, 0)))), some (.inl a1)], [.inl r18], am_mk (am_si m 10 0 0 0)) _ _ _ _
                            by_cases hc20 : r18 = 0
                            · rw [if_pos hc20] at h
                              refine am_Go.c1 htb (S' := (184, [some (.inr (.inr (some (10, 0)))), some (.inl a1)], [], am_mk (am_si m 10 0 0 0))) (if_pos hc20) ?_
                              refine am_Go.n htb 1 (S' := (185, [some (.inr (.inr (some (10, 0)))), some (.inl a1)], [.inl (-1)], am_mk (am_si m 10 0 0 0))) rfl ?_
                              cases h
                              exact am_Go.rt htb rfl
                            · rw [if_neg hc20] at h
                              refine am_Go.c1 htb (S' := (170, [some (.inr (.inr (some (10, 0)))), some (.inl a1)], [], am_mk (am_si m 10 0 0 0))) (if_neg hc20) ?_
                              refine am_Go.n htb 7 (S' := (180, [some (.inr (.inr (some (10, 0)))), some (.inl a1)], [.inl (((4 : Int32) + a1) - (13 : Int32)), .inr (.inr (some (44, 0)))], am_mk (am_si m 10 0 0 0))) rfl ?_
                              obtain ⟨hg21, h⟩ := am_ck_some h
                              refine am_Go.c1 htb (S' := (181, [some (.inr (.inr (some (10, 0)))), some (.inl a1)], [.inl (m.1 44 0 (((4 : Int32) + a1) - (13 : Int32)).toNatClampNeg)], am_mk (am_si m 10 0 0 0))) (if_neg hg21) ?_
                              refine am_Go.n htb 1 (S' := (185, [some (.inr (.inr (some (10, 0)))), some (.inl a1)], [.inl (m.1 44 0 (((4 : Int32) + a1) - (13 : Int32)).toNatClampNeg)], am_mk (am_si m 10 0 0 0))) rfl ?_
                              cases h
                              exact am_Go.rt htb rfl
-- X10_status
set_option maxRecDepth 100000 in
theorem ex_X10_status (d : Nat) (hd : 1 ≤ d)  (m : am_m) (t : Int32 × am_m) (h : fn_X10_status  m = some t) : am_Ex am_cod d 296 [.inr (.inr (some (10, 0)))] (am_mk m) (some (.inl t.1)) (am_mk t.2) 0 0 := by
  obtain ⟨d, rfl⟩ : ∃ e, d = e + 1 := ⟨d - 1, by omega⟩
  have htb : am_tab 296 = at_296 := rfl
  refine ⟨Nat.le_of_ble_eq_true rfl, ?_⟩
  unfold fn_X10_status at h
  show am_Go d 296 (0, [some (.inr (.inr (some (10, 0))))], [], am_mk m) _ _ 0 0
  refine am_Go.n htb 5 (S' := (9, [some (.inr (.inr (some (10, 0))))], [.inl (m.1 10 0 1)], am_mk (am_si m 10 0 0 0))) rfl ?_
  cases h
  exact am_Go.rt htb rfl
