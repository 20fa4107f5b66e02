-- X9_count
set_option maxHeartbeats 10000000 in
set_option maxRecDepth 100000 in
theorem ex_X9_count (d : Nat) (hd : 5 ≤ d) (a1 : Int32) (m : am_m) (t : Int32) (h : fn_X9_count a1 m = some t) : am_Ex am_cod d 152 [.inr (.inr (some (9, 0))), .inl a1] (am_mk m) (some (.inl t)) (am_mk m) 0 0 := by
  obtain ⟨d, rfl⟩ : ∃ e, d = e + 1 := ⟨d - 1, by omega⟩
  have htb : am_tab 152 = at_152 := rfl
  refine ⟨Nat.le_of_ble_eq_true rfl, ?_⟩
  unfold fn_X9_count at h
  show am_Go d 152 (0, [some (.inr (.inr (some (9, 0)))), some (.inl a1)], [], am_mk m) _ _ 0 0
  refine am_Go.n htb 1 (S' := (1, [some (.inr (.inr (some (9, 0)))), some (.inl a1)], [.inl a1], am_mk m)) rfl ?_
  by_cases hs1 : a1 = 0
  · rw [if_pos hs1] at h
    refine am_Go.o htb (am_o_sw [(0, 80), (1, 88), (2, 96), (3, 104), (4, 112), (5, 120), (6, 128), (7, 136), (8, 136), (9, 136), (10, 146), (11, 146), (12, 155), (13, 163), (14, 163), (15, 163)] 176) rfl (S' := (80, [some (.inr (.inr (some (9, 0)))), some (.inl a1)], [], am_mk m)) (am_sw_eq (by simp only [am_sw, if_pos hs1])) ?_
    refine am_Go.n htb 3 (S' := (87, [some (.inr (.inr (some (9, 0)))), some (.inl a1)], [.inl (m.1 8 0 0)], am_mk m)) rfl ?_
    cases h
    exact am_Go.rt htb rfl
  · rw [if_neg hs1] at h
    by_cases hs2 : a1 = 1
    · rw [if_pos hs2] at h
      refine am_Go.o htb (am_o_sw [(0, 80), (1, 88), (2, 96), (3, 104), (4, 112), (5, 120), (6, 128), (7, 136), (8, 136), (9, 136), (10, 146), (11, 146), (12, 155), (13, 163), (14, 163), (15, 163)] 176) rfl (S' := (88, [some (.inr (.inr (some (9, 0)))), some (.inl a1)], [], am_mk m)) (am_sw_eq (by simp only [am_sw, if_neg hs1, if_pos hs2])) ?_
      refine am_Go.n htb 2 (S' := (92, [some (.inr (.inr (some (9, 0)))), some (.inl a1)], [.inr (.inr (some (8, 0)))], am_mk m)) rfl ?_
      obtain ⟨r3, h4, h⟩ := am_bd h
      refine am_Go.cl htb rfl (ex_X8_harmCount d (by omega) 0 m r3 h4) ?_
      show am_Go d 152 (95, [some (.inr (.inr (some (9, 0)))), some (.inl a1)], [.inl r3], am_mk m) _ _ _ _
      cases h
      exact am_Go.rt htb rfl
    · rw [if_neg hs2] at h
      by_cases hs5 : a1 = 2
      · rw [if_pos hs5] at h
        refine am_Go.o htb (am_o_sw [(0, 80), (1, 88), (2, 96), (3, 104), (4, 112), (5, 120), (6, 128), (7, 136), (8, 136), (9, 136), (10, 146), (11, 146), (12, 155), (13, 163), (14, 163), (15, 163)] 176) rfl (S' := (96, [some (.inr (.inr (some (9, 0)))), some (.inl a1)], [], am_mk m)) (am_sw_eq (by simp only [am_sw, if_neg hs1, if_neg hs2, if_pos hs5])) ?_
        refine am_Go.n htb 2 (S' := (100, [some (.inr (.inr (some (9, 0)))), some (.inl a1)], [.inr (.inr (some (8, 0)))], am_mk m)) rfl ?_
        obtain ⟨r6, h7, h⟩ := am_bd h
        refine am_Go.cl htb rfl (ex_X8_starving d (by omega) 0 m r6 h7) ?_
        show am_Go d 152 (103, [some (.inr (.inr (some (9, 0)))), some (.inl a1)], [.inl r6], am_mk m) _ _ _ _
        cases h
        exact am_Go.rt htb rfl
      · rw [if_neg hs5] at h
        by_cases hs8 : a1 = 3
        · rw [if_pos hs8] at h
          refine am_Go.o htb (am_o_sw [(0, 80), (1, 88), (2, 96), (3, 104), (4, 112), (5, 120), (6, 128), (7, 136), (8, 136), (9, 136), (10, 146), (11, 146), (12, 155), (13, 163), (14, 163), (15, 163)] 176) rfl (S' := (104, [some (.inr (.inr (some (9, 0)))), some (.inl a1)], [], am_mk m)) (am_sw_eq (by simp only [am_sw, if_neg hs1, if_neg hs2, if_neg hs5, if_pos hs8])) ?_
          refine am_Go.n htb 3 (S' := (111, [some (.inr (.inr (some (9, 0)))), some (.inl a1)], [.inl (m.1 8 0 1)], am_mk m)) rfl ?_
          cases h
          exact am_Go.rt htb rfl
        · rw [if_neg hs8] at h
          by_cases hs9 : a1 = 4
          · rw [if_pos hs9] at h
            refine am_Go.o htb (am_o_sw [(0, 80), (1, 88), (2, 96), (3, 104), (4, 112), (5, 120), (6, 128), (7, 136), (8, 136), (9, 136), (10, 146), (11, 146), (12, 155), (13, 163), (14, 163), (15, 163)] 176) rfl (S' := (112, [some (.inr (.inr (some (9, 0)))), some (.inl a1)], [], am_mk m)) (am_sw_eq (by simp only [am_sw, if_neg hs1, if_neg hs2, if_neg hs5, if_neg hs8, if_pos hs9])) ?_
            refine am_Go.n htb 3 (S' := (119, [some (.inr (.inr (some (9, 0)))), some (.inl a1)], [.inl (m.1 8 0 2)], am_mk m)) rfl ?_
            cases h
            exact am_Go.rt htb rfl
          · rw [if_neg hs9] at h
            by_cases hs10 : a1 = 5
            · rw [if_pos hs10] at h
              refine am_Go.o htb (am_o_sw [(0, 80), (1, 88), (2, 96), (3, 104), (4, 112), (5, 120), (6, 128), (7, 136), (8, 136), (9, 136), (10, 146), (11, 146), (12, 155), (13, 163), (14, 163), (15, 163)] 176) rfl (S' := (120, [some (.inr (.inr (some (9, 0)))), some (.inl a1)], [], am_mk m)) (am_sw_eq (by simp only [am_sw, if_neg hs1, if_neg hs2, if_neg hs5, if_neg hs8, if_neg hs9, if_pos hs10])) ?_
              refine am_Go.n htb 3 (S' := (127, [some (.inr (.inr (some (9, 0)))), some (.inl a1)], [.inl (m.1 3 0 1)], am_mk m)) rfl ?_
              cases h
              exact am_Go.rt htb rfl
            · rw [if_neg hs10] at h
              by_cases hs11 : a1 = 6
              · rw [if_pos hs11] at h
                refine am_Go.o htb (am_o_sw [(0, 80), (1, 88), (2, 96), (3, 104), (4, 112), (5, 120), (6, 128), (7, 136), (8, 136), (9, 136), (10, 146), (11, 146), (12, 155), (13, 163), (14, 163), (15, 163)] 176) rfl (S' := (128, [some (.inr (.inr (some (9, 0)))), some (.inl a1)], [], am_mk m)) (am_sw_eq (by simp only [am_sw, if_neg hs1, if_neg hs2, if_neg hs5, if_neg hs8, if_neg hs9, if_neg hs10, if_pos hs11])) ?_
                refine am_Go.n htb 3 (S' := (135, [some (.inr (.inr (some (9, 0)))), some (.inl a1)], [.inl (m.1 7 0 1)], am_mk m)) rfl ?_
                cases h
                exact am_Go.rt htb rfl
              · rw [if_neg hs11] at h
                by_cases hs12 : a1 = 7
                · rw [if_pos hs12] at h
                  refine am_Go.o htb (am_o_sw [(0, 80), (1, 88), (2, 96), (3, 104), (4, 112), (5, 120), (6, 128), (7, 136), (8, 136), (9, 136), (10, 146), (11, 146), (12, 155), (13, 163), (14, 163), (15, 163)] 176) rfl (S' := (136, [some (.inr (.inr (some (9, 0)))), some (.inl a1)], [], am_mk m)) (am_sw_eq (by simp only [am_sw, if_neg hs1, if_neg hs2, if_neg hs5, if_neg hs8, if_neg hs9, if_neg hs10, if_neg hs11, if_pos hs12])) ?_
                  refine am_Go.n htb 5 (S' := (144, [some (.inr (.inr (some (9, 0)))), some (.inl a1)], [.inl (a1 - (6 : Int32)), .inr (.inr (some (42, 0)))], am_mk m)) rfl ?_
                  obtain ⟨hg13, h⟩ := am_ck_some h
                  refine am_Go.c1 htb (S' := (145, [some (.inr (.inr (some (9, 0)))), some (.inl a1)], [.inl (m.1 42 0 (a1 - (6 : Int32)).toNatClampNeg)], am_mk m)) (if_neg hg13) ?_
                  cases h
                  exact am_Go.rt htb rfl
                · rw [if_neg hs12] at h
                  by_cases hs14 : a1 = 8
                  · rw [if_pos hs14] at h
                    refine am_Go.o htb (am_o_sw [(0, 80), (1, 88), (2, 96), (3, 104), (4, 112), (5, 120), (6, 128), (7, 136), (8, 136), (9, 136), (10, 146), (11, 146), (12, 155), (13, 163), (14, 163), (15, 163)] 176) rfl (S' := (136, [some (.inr (.inr (some (9, 0)))), some (.inl a1)], [], am_mk m)) (am_sw_eq (by simp only [am_sw, if_neg hs1, if_neg hs2, if_neg hs5, if_neg hs8, if_neg hs9, if_neg hs10, if_neg hs11, if_neg hs12, if_pos hs14])) ?_
                    refine am_Go.n htb 5 (S' := (144, [some (.inr (.inr (some (9, 0)))), some (.inl a1)], [.inl (a1 - (6 : Int32)), .inr (.inr (some (42, 0)))], am_mk m)) rfl ?_
                    obtain ⟨hg15, h⟩ := am_ck_some h
                    refine am_Go.c1 htb (S' := (145, [some (.inr (.inr (some (9, 0)))), some (.inl a1)], [.inl (m.1 42 0 (a1 - (6 : Int32)).toNatClampNeg)], am_mk m)) (if_neg hg15) ?_
                    cases h
                    exact am_Go.rt htb rfl
                  · rw [if_neg hs14] at h
                    by_cases hs16 : a1 = 9
                    · rw [if_pos hs16] at h
                      refine am_Go.o htb (am_o_sw [(0, 80), (1, 88), (2, 96), (3, 104), (4, 112), (5, 120), (6, 128), (7, 136), (8, 136), (9, 136), (10, 146), (11, 146), (12, 155), (13, 163), (14, 163), (15, 163)] 176) rfl (S' := (136, [some (.inr (.inr (some (9, 0)))), some (.inl a1)], [], am_mk m)) (am_sw_eq (by simp only [am_sw, if_neg hs1, if_neg hs2, if_neg hs5, if_neg hs8, if_neg hs9, if_neg hs10, if_neg hs11, if_neg hs12, if_neg hs14, if_pos hs16])) ?_
                      refine am_Go.n htb 5 (S' := (144, [some (.inr (.inr (some (9, 0)))), some (.inl a1)], [.inl (a1 - (6 : Int32)), .inr (.inr (some (42, 0)))], am_mk m)) rfl ?_
                      obtain ⟨hg17, h⟩ := am_ck_some h
                      refine am_Go.c1 htb (S' := (145, [some (.inr (.inr (some (9, 0)))), some (.inl a1)], [.inl (m.1 42 0 (a1 - (6 : Int32)).toNatClampNeg)], am_mk m)) (if_neg hg17) ?_
                      cases h
                      exact am_Go.rt htb rfl
                    · rw [if_neg hs16] at h
                      by_cases hs18 : a1 = 10
                      · rw [if_pos hs18] at h
                        refine am_Go.o htb (am_o_sw [(0, 80), (1, 88), (2, 96), (3, 104), (4, 112), (5, 120), (6, 128), (7, 136), (8, 136), (9, 136), (10, 146), (11, 146), (12, 155), (13, 163), (14, 163), (15, 163)] 176) rfl (S' := (146, [some (.inr (.inr (some (9, 0)))), some (.inl a1)], [], am_mk m)) (am_sw_eq (by simp only [am_sw, if_neg hs1, if_neg hs2, if_neg hs5, if_neg hs8, if_neg hs9, if_neg hs10, if_neg hs11, if_neg hs12, if_neg hs14, if_neg hs16, if_pos hs18])) ?_
                        refine am_Go.n htb 5 (S' := (153, [some (.inr (.inr (some (9, 0)))), some (.inl a1)], [.inl (a1 - (5 : Int32)), .inr (.inr (some (42, 0)))], am_mk m)) rfl ?_
                        obtain ⟨hg19, h⟩ := am_ck_some h
                        refine am_Go.c1 htb (S' := (154, [some (.inr (.inr (some (9, 0)))), some (.inl a1)], [.inl (m.1 42 0 (a1 - (5 : Int32)).toNatClampNeg)], am_mk m)) (if_neg hg19) ?_
                        cases h
                        exact am_Go.rt htb rfl
                      · rw [if_neg hs18] at h
                        by_cases hs20 : a1 = 11
                        · rw [if_pos hs20] at h
                          refine am_Go.o htb (am_o_sw [(0, 80), (1, 88), (2, 96), (3, 104), (4, 112), (5, 120), (6, 128), (7, 136), (8, 136), (9, 136), (10, 146), (11, 146), (12, 155), (13, 163), (14, 163), (15, 163)] 176) rfl (S' := (146, [some (.inr (.inr (some (9, 0)))), some (.inl a1)], [], am_mk m)) (am_sw_eq (by simp only [am_sw, if_neg hs1, if_neg hs2, if_neg hs5, if_neg hs8, if_neg hs9, if_neg hs10, if_neg hs11, if_neg hs12, if_neg hs14, if_neg hs16, if_neg hs18, if_pos hs20])) ?_
                          refine am_Go.n htb 5 (S' := (153, [some (.inr (.inr (some (9, 0)))), some (.inl a1)], [.inl (a1 - (5 : Int32)), .inr (.inr (some (42, 0)))], am_mk m)) rfl ?_
                          obtain ⟨hg21, h⟩ := am_ck_some h
                          refine am_Go.c1 htb (S' := (154, [some (.inr (.inr (some (9, 0)))), some (.inl a1)], [.inl (m.1 42 0 (a1 - (5 : Int32)).toNatClampNeg)], am_mk m)) (if_neg hg21) ?_
                          cases h
                          exact am_Go.rt htb rfl
                        · rw [if_neg hs20] at h
                          by_cases hs22 : a1 = 12
                          · rw [if_pos hs22] at h
                            refine am_Go.o htb (am_o_sw [(0, 80), (1, 88), (2, 96), (3, 104), (4, 112), (5, 120), (6, 128), (7, 136), (8, 136), (9, 136), (10, 146), (11, 146), (12, 155), (13, 163), (14, 163), (15, 163)] 176) rfl (S' := (155, [some (.inr (.inr (some (9, 0)))), some (.inl a1)], [], am_mk m)) (am_sw_eq (by simp only [am_sw, if_neg hs1, if_neg hs2, if_neg hs5, if_neg hs8, if_neg hs9, if_neg hs10, if_neg hs11, if_neg hs12, if_neg hs14, if_neg hs16, if_neg hs18, if_neg hs20, if_pos hs22])) ?_
                            refine am_Go.n htb 3 (S' := (162, [some (.inr (.inr (some (9, 0)))), some (.inl a1)], [.inl (m.1 8 0 3)], am_mk m)) rfl ?_
                            cases h
                            exact am_Go.rt htb rfl
                          · rw [if_neg hs22] at h
                            by_cases hs23 : a1 = 13
                            · rw [if_pos hs23] at h
                              refine am_Go.o htb (am_o_sw [(0, 80), (1, 88), (2, 96), (3, 104), (4, 112), (5, 120), (6, 128), (7, 136), (8, 136), (9, 136), (10, 146), (11, 146), (12, 155), (13, 163), (14, 163), (15, 163)] 176) rfl (S' := (163, [some (.inr (.inr (some (9, 0)))), some (.inl a1)], [], am_mk m)) (am_sw_eq (by simp only [am_sw, if_neg hs1, if_neg hs2, if_neg hs5, if_neg hs8, if_neg hs9, if_neg hs10, if_neg hs11, if_neg hs12, if_neg hs14, if_neg hs16, if_neg hs18, if_neg hs20, if_neg hs22, if_pos hs23])) ?_
                              refine am_Go.n htb 6 (S' := (174, [some (.inr (.inr (some (9, 0)))), some (.inl a1)], [.inl (a1 - (13 : Int32)), .inr (.inr (some (39, 0)))], am_mk m)) rfl ?_
                              obtain ⟨hg24, h⟩ := am_ck_some h
                              refine am_Go.c1 htb (S' := (175, [some (.inr (.inr (some (9, 0)))), some (.inl a1)], [.inl (m.1 39 0 (a1 - (13 : Int32)).toNatClampNeg)], am_mk m)) (if_neg hg24) ?_
                              cases h
                              exact am_Go.rt htb rfl
                            · rw [if_neg hs23] at h
                              by_cases hs25 : a1 = 14
                              · rw [if_pos hs25] at h
                                refine am_Go.o htb (am_o_sw [(0, 80), (1, 88), (2, 96), (3, 104), (4, 112), (5, 120), (6, 128), (7, 136), (8, 136), (9, 136), (10, 146), (11, 146), (12, 155), (13, 163), (14, 163), (15, 163)] 176) rfl (S' := (163, [some (.inr (.inr (some (9, 0)))), some (.inl a1)], [], am_mk m)) (am_sw_eq (by simp only [am_sw, if_neg hs1, if_neg hs2, if_neg hs5, if_neg hs8, if_neg hs9, if_neg hs10, if_neg hs11, if_neg hs12, if_neg hs14, if_neg hs16, if_neg hs18, if_neg hs20, if_neg hs22, if_neg hs23, if_pos hs25])) ?_
                                refine am_Go.n htb 6 (S' := (174, [some (.inr (.inr (some (9, 0)))), some (.inl a1)], [.inl (a1 - (13 : Int32)), .inr (.inr (some (39, 0)))], am_mk m)) rfl ?_
                                obtain ⟨hg26, h⟩ := am_ck_some h
                                refine am_Go.c1 htb (S' := (175, [some (.inr (.inr (some (9, 0)))), some (.inl a1)], [.inl (m.1 39 0 (a1 - (13 : Int32)).toNatClampNeg)], am_mk m)) (if_neg hg26) ?_
                                cases h
                                exact am_Go.rt htb rfl
                              · rw [if_neg hs25] at h
                                by_cases hs27 : a1 = 15
                                · rw [if_pos hs27] at h
                                  refine am_Go.o htb (am_o_sw [(0, 80), (1, 88), (2, 96), (3, 104), (4, 112), (5, 120), (6, 128), (7, 136), (8, 136), (9, 136), (10, 146), (11, 146), (12, 155), (13, 163), (14, 163), (15, 163)] 176) rfl (S' := (163, [some (.inr (.inr (some (9, 0)))), some (.inl a1)], [], am_mk m)) (am_sw_eq (by simp only [am_sw, if_neg hs1, if_neg hs2, if_neg hs5, if_neg hs8, if_neg hs9, if_neg hs10, if_neg hs11, if_neg hs12, if_neg hs14, if_neg hs16, if_neg hs18, if_neg hs20, if_neg hs22, if_neg hs23, if_neg hs25, if_pos hs27])) ?_
                                  refine am_Go.n htb 6 (S' := (174, [some (.inr (.inr (some (9, 0)))), some (.inl a1)], [.inl (a1 - (13 : Int32)), .inr (.inr (some (39, 0)))], am_mk m)) rfl ?_
                                  obtain ⟨hg28, h⟩ := am_ck_some h
                                  refine am_Go.c1 htb (S' := (175, [some (.inr (.inr (some (9, 0)))), some (.inl a1)], [.inl (m.1 39 0 (a1 - (13 : Int32)).toNatClampNeg)], am_mk m)) (if_neg hg28) ?_
                                  cases h
                                  exact am_Go.rt htb rfl
                                · rw [if_neg hs27] at h
                                  refine am_Go.o htb (am_o_sw [(0, 80), (1, 88), (2, 96), (3, 104), (4, 112), (5, 120), (6, 128), (7, 136), (8, 136), (9, 136), (10, 146), (11, 146), (12, 155), (13, 163), (14, 163), (15, 163)] 176) rfl (S' := (176, [some (.inr (.inr (some (9, 0)))), some (.inl a1)], [], am_mk m)) (am_sw_eq (by simp only [am_sw, if_neg hs1, if_neg hs2, if_neg hs5, if_neg hs8, if_neg hs9, if_neg hs10, if_neg hs11, if_neg hs12, if_neg hs14, if_neg hs16, if_neg hs18, if_neg hs20, if_neg hs22, if_neg hs23, if_neg hs25, if_neg hs27, if_false])) ?_
                                  refine am_Go.n htb 1 (S' := (177, [some (.inr (.inr (some (9, 0)))), some (.inl a1)], [.inl (-1)], am_mk m)) rfl ?_
                                  cases h
                                  exact am_Go.rt htb rfl
-- X9_status
set_option maxRecDepth 100000 in
theorem ex_X9_status (d : Nat) (hd : 1 ≤ d)  (m : am_m) (t : Int32) (h : fn_X9_status  m = some t) : am_Ex am_cod d 153 [.inr (.inr (some (9, 0)))] (am_mk m) (some (.inl t)) (am_mk m) 0 0 := by
  obtain ⟨d, rfl⟩ : ∃ e, d = e + 1 := ⟨d - 1, by omega⟩
  have htb : am_tab 153 = at_153 := rfl
  refine ⟨Nat.le_of_ble_eq_true rfl, ?_⟩
  unfold fn_X9_status at h
  show am_Go d 153 (0, [some (.inr (.inr (some (9, 0))))], [], am_mk m) _ _ 0 0
  refine am_Go.n htb 2 (S' := (4, [some (.inr (.inr (some (9, 0))))], [.inl (m.1 9 0 17)], am_mk m)) rfl ?_
  cases h
  exact am_Go.rt htb rfl
