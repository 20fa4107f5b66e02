-- X9_mostOfTerm
set_option maxRecDepth 100000 in
theorem ex_X9_mostOfTerm (d : Nat) (hd : 1 ≤ d) (a1 : Int32) (m : am_m) (t : Int32) (h : fn_X9_mostOfTerm a1 m = some t) : am_Ex am_cod d 157 [.inl a1] (am_mk m) (some (.inl t)) (am_mk m) 0 0 := by
  obtain ⟨d, rfl⟩ : ∃ e, d = e + 1 := ⟨d - 1, by omega⟩
  have htb : am_tab 157 = at_157 := rfl
  refine ⟨Nat.le_of_ble_eq_true rfl, ?_⟩
  unfold fn_X9_mostOfTerm at h
  show am_Go d 157 (0, [some (.inl a1)], [], am_mk m) _ _ 0 0
  refine am_Go.n htb 1 (S' := (1, [some (.inl a1)], [.inl a1], am_mk m)) rfl ?_
  by_cases hs1 : a1 = 0
  · rw [if_pos hs1] at h
    refine am_Go.o htb (am_o_sw [(0, 28), (1, 32)] 35) rfl (S' := (28, [some (.inl a1)], [], am_mk m)) (am_sw_eq (by simp only [am_sw, if_pos hs1])) ?_
    refine am_Go.n htb 1 (S' := (31, [some (.inl a1)], [.inl 999], am_mk m)) rfl ?_
    cases h
    exact am_Go.rt htb rfl
  · rw [if_neg hs1] at h
    by_cases hs2 : a1 = 1
    · rw [if_pos hs2] at h
      refine am_Go.o htb (am_o_sw [(0, 28), (1, 32)] 35) rfl (S' := (32, [some (.inl a1)], [], am_mk m)) (am_sw_eq (by simp only [am_sw, if_neg hs1, if_pos hs2])) ?_
      refine am_Go.n htb 1 (S' := (34, [some (.inl a1)], [.inl 10], am_mk m)) rfl ?_
      cases h
      exact am_Go.rt htb rfl
    · rw [if_neg hs2] at h
      refine am_Go.o htb (am_o_sw [(0, 28), (1, 32)] 35) rfl (S' := (35, [some (.inl a1)], [], am_mk m)) (am_sw_eq (by simp only [am_sw, if_neg hs1, if_neg hs2, if_false])) ?_
      refine am_Go.n htb 1 (S' := (37, [some (.inl a1)], [.inl 9], am_mk m)) rfl ?_
      cases h
      exact am_Go.rt htb rfl
-- X9_terms
set_option maxRecDepth 100000 in
theorem ex_X9_terms (d : Nat) (hd : 3 ≤ d) (a1 : Int32) (a2 : Int32) (m : am_m) (t : Int32 × am_m) (h : fn_X9_terms a1 a2 m = some t) : am_Ex am_cod d 116 [.inr (.inr (some (9, 0))), .inl a1, .inl a2] (am_mk m) (some (.inl t.1)) (am_mk t.2) 0 0 := by
  obtain ⟨d, rfl⟩ : ∃ e, d = e + 1 := ⟨d - 1, by omega⟩
  have htb : am_tab 116 = at_116 := rfl
  refine ⟨Nat.le_of_ble_eq_true rfl, ?_⟩
  unfold fn_X9_terms at h
  show am_Go d 116 (0, [some (.inr (.inr (some (9, 0)))), some (.inl a1), some (.inl a2), none], [], am_mk m) _ _ 0 0
  refine am_Go.n htb 1 (S' := (1, [some (.inr (.inr (some (9, 0)))), some (.inl a1), some (.inl a2), none], [.inl a1], am_mk m)) rfl ?_
  by_cases hc1 : a1 < 0
  · rw [if_pos hc1] at h
    refine am_Go.c1 htb (S' := (21, [some (.inr (.inr (some (9, 0)))), some (.inl a1), some (.inl a2), none], [], am_mk m)) (if_pos hc1) ?_
    refine am_Go.n htb 2 (S' := (23, [some (.inr (.inr (some (9, 0)))), some (.inl a1), some (.inl a2), none], [.inl (-1), .inr (.inr (some (9, 0)))], am_mk m)) rfl ?_
    obtain ⟨r2, h3, h⟩ := am_bd h
    refine am_Go.cl htb rfl (ex_X9_told d (by omega) (-1) m r2 h3) ?_
    show am_Go d 116 (26, [some (.inr (.inr (some (9, 0)))), some (.inl a1), some (.inl a2), none], [.inl r2.1], am_mk r2.2) _ _ _ _
    cases h
    exact am_Go.rt htb rfl
  · rw [if_neg hc1] at h
    refine am_Go.c1 htb (S' := (4, [some (.inr (.inr (some (9, 0)))), some (.inl a1), some (.inl a2), none], [], am_mk m)) (if_neg hc1) ?_
    refine am_Go.n htb 2 (S' := (6, [some (.inr (.inr (some (9, 0)))), some (.inl a1), some (.inl a2), none], [.inl 3, .inl a1], am_mk m)) rfl ?_
    by_cases hc4 : (3 : Int32) ≤ a1
    · rw [if_pos hc4] at h
      refine am_Go.c1 htb (S' := (21, [some (.inr (.inr (some (9, 0)))), some (.inl a1), some (.inl a2), none], [], am_mk m)) (if_pos hc4) ?_
      refine am_Go.n htb 2 (S' := (23, [some (.inr (.inr (some (9, 0)))), some (.inl a1), some (.inl a2), none], [.inl (-1), .inr (.inr (some (9, 0)))], am_mk m)) rfl ?_
      obtain ⟨r5, h6, h⟩ := am_bd h
      refine am_Go.cl htb rfl (ex_X9_told d (by omega) (-1) m r5 h6) ?_
      show am_Go d 116 (26, [some (.inr (.inr (some (9, 0)))), some (.inl a1), some (.inl a2), none], [.inl r5.1], am_mk r5.2) _ _ _ _
      cases h
      exact am_Go.rt htb rfl
    · rw [if_neg hc4] at h
      refine am_Go.c1 htb (S' := (9, [some (.inr (.inr (some (9, 0)))), some (.inl a1), some (.inl a2), none], [], am_mk m)) (if_neg hc4) ?_
      refine am_Go.n htb 1 (S' := (10, [some (.inr (.inr (some (9, 0)))), some (.inl a1), some (.inl a2), none], [.inl a2], am_mk m)) rfl ?_
      by_cases hc7 : a2 < 0
      · rw [if_pos hc7] at h
        refine am_Go.c1 htb (S' := (21, [some (.inr (.inr (some (9, 0)))), some (.inl a1), some (.inl a2), none], [], am_mk m)) (if_pos hc7) ?_
        refine am_Go.n htb 2 (S' := (23, [some (.inr (.inr (some (9, 0)))), some (.inl a1), some (.inl a2), none], [.inl (-1), .inr (.inr (some (9, 0)))], am_mk m)) rfl ?_
        obtain ⟨r8, h9, h⟩ := am_bd h
        refine am_Go.cl htb rfl (ex_X9_told d (by omega) (-1) m r8 h9) ?_
        show am_Go d 116 (26, [some (.inr (.inr (some (9, 0)))), some (.inl a1), some (.inl a2), none], [.inl r8.1], am_mk r8.2) _ _ _ _
        cases h
        exact am_Go.rt htb rfl
      · rw [if_neg hc7] at h
        refine am_Go.c1 htb (S' := (13, [some (.inr (.inr (some (9, 0)))), some (.inl a1), some (.inl a2), none], [], am_mk m)) (if_neg hc7) ?_
        refine am_Go.n htb 2 (S' := (15, [some (.inr (.inr (some (9, 0)))), some (.inl a1), some (.inl a2), none], [.inl a1, .inl a2], am_mk m)) rfl ?_
        obtain ⟨r10, h11, h⟩ := am_bd h
        refine am_Go.cl htb rfl (ex_X9_mostOfTerm d (by omega) a1 m r10 h11) ?_
        show am_Go d 116 (18, [some (.inr (.inr (some (9, 0)))), some (.inl a1), some (.inl a2), none], [.inl r10, .inl a2], am_mk m) _ _ _ _
        by_cases hc12 : a2 ≤ r10
        · rw [if_pos hc12] at h
          refine am_Go.c1 htb (S' := (27, [some (.inr (.inr (some (9, 0)))), some (.inl a1), some (.inl a2), none], [], am_mk m)) (if_pos hc12) ?_
          refine am_Go.n htb 4 (S' := (35, [some (.inr (.inr (some (9, 0)))), some (.inl a1), some (.inl a2), none], [.inl a1, .inr (.inr (some (39, 0)))], am_mk m)) rfl ?_
          obtain ⟨hg13, h⟩ := am_ck_some h
          refine am_Go.c1 htb (S' := (36, [some (.inr (.inr (some (9, 0)))), some (.inl a1), some (.inl a2), none], [.inl (m.1 39 0 a1.toNatClampNeg)], am_mk m)) (if_neg hg13) ?_
          refine am_Go.n htb 6 (S' := (46, [some (.inr (.inr (some (9, 0)))), some (.inl a1), some (.inl a2), some (.inl (m.1 39 0 a1.toNatClampNeg))], [.inl a2, .inl a1, .inr (.inr (some (39, 0)))], am_mk m)) rfl ?_
          obtain ⟨hg14, h⟩ := am_ck_some h
          refine am_Go.c1 htb (S' := (47, [some (.inr (.inr (some (9, 0)))), some (.inl a1), some (.inl a2), some (.inl (m.1 39 0 a1.toNatClampNeg))], [], am_mk (am_si m 39 0 a1.toNatClampNeg a2))) (if_neg hg14) ?_
          refine am_Go.n htb 2 (S' := (51, [some (.inr (.inr (some (9, 0)))), some (.inl a1), some (.inl a2), some (.inl (m.1 39 0 a1.toNatClampNeg))], [.inr (.inr (some (3, 0)))], am_mk (am_si m 39 0 a1.toNatClampNeg a2))) rfl ?_
          obtain ⟨r15, h16, h⟩ := am_bd h
          refine am_Go.cl htb rfl (ex_X3_clear d (by omega) 0 (am_si m 39 0 a1.toNatClampNeg a2) r15 h16) ?_
          show am_Go d 116 (54, [some (.inr (.inr (some (9, 0)))), some (.inl a1), some (.inl a2), some (.inl (m.1 39 0 a1.toNatClampNeg))], [], am_mk r15) _ _ _ _
          refine am_Go.n htb 2 (S' := (56, [some (.inr (.inr (some (9, 0)))), some (.inl a1), some (.inl a2), some (.inl (m.1 39 0 a1.toNatClampNeg))], [.inl (m.1 39 0 a1.toNatClampNeg), .inr (.inr (some (9, 0)))], am_mk r15)) rfl ?_
          obtain ⟨r17, h18, h⟩ := am_bd h
          refine am_Go.cl htb rfl (ex_X9_told d (by omega) (m.1 39 0 a1.toNatClampNeg) r15 r17 h18) ?_
          show am_Go d 116 (59, [some (.inr (.inr (some (9, 0)))), some (.inl a1), some (.inl a2), some (.inl (m.1 39 0 a1.toNatClampNeg))], [.inl r17.1], am_mk r17.2) _ _ _ _
          cases h
          exact am_Go.rt htb rfl
        · rw [if_neg hc12] at h
          refine am_Go.c1 htb (S' := (21, [some (.inr (.inr (some (9, 0)))), some (.inl a1), some (.inl a2), none], [], am_mk m)) (if_neg hc12) ?_
          refine am_Go.n htb 2 (S' := (23, [some (.inr (.inr (some (9, 0)))), some (.inl a1), some (.inl a2), none], [.inl (-1), .inr (.inr (some (9, 0)))], am_mk m)) rfl ?_
          obtain ⟨r19, h20, h⟩ := am_bd h
          refine am_Go.cl htb rfl (ex_X9_told d (by omega) (-1) m r19 h20) ?_
          show am_Go d 116 (26, [some (.inr (.inr (some (9, 0)))), some (.inl a1), some (.inl a2), none], [.inl r19.1], am_mk r19.2) _ _ _ _
          cases h
          exact am_Go.rt htb rfl
-- X9_feed
set_option maxRecDepth 100000 in
theorem ex_X9_feed (d : Nat) (hd : 2 ≤ d) (a1 : Int32) (a2 : Int32) (a3 : Int32) (a4 : Int32) (a5 : Int32) (m : am_m) (t : Int32 × am_m) (h : fn_X9_feed a1 a2 a3 a4 a5 m = some t) : am_Ex am_cod d 117 [.inr (.inr (some (9, 0))), .inl a1, .inl a2, .inl a3, .inl a4, .inl a5] (am_mk m) (some (.inl t.1)) (am_mk t.2) 0 0 := by
  obtain ⟨d, rfl⟩ : ∃ e, d = e + 1 := ⟨d - 1, by omega⟩
  have htb : am_tab 117 = at_117 := rfl
  refine ⟨Nat.le_of_ble_eq_true rfl, ?_⟩
  unfold fn_X9_feed at h
  show am_Go d 117 (0, [some (.inr (.inr (some (9, 0)))), some (.inl a1), some (.inl a2), some (.inl a3), some (.inl a4), some (.inl a5)], [], am_mk m) _ _ 0 0
  refine am_Go.n htb 4 (S' := (10, [some (.inr (.inr (some (9, 0)))), some (.inl a1), some (.inl a2), some (.inl a3), some (.inl a4), some (.inl a5)], [.inl 380, .inl (m.1 7 0 1)], am_mk m)) rfl ?_
  by_cases hc1 : (m.1 7 0 1) ≤ (380 : Int32)
  · rw [if_pos hc1] at h
    refine am_Go.c1 htb (S' := (15, [some (.inr (.inr (some (9, 0)))), some (.inl a1), some (.inl a2), some (.inl a3), some (.inl a4), some (.inl a5)], [], am_mk m)) (if_pos hc1) ?_
    refine am_Go.n htb 3 (S' := (20, [some (.inr (.inr (some (9, 0)))), some (.inl a1), some (.inl a2), some (.inl a3), some (.inl a4), some (.inl a5)], [.inl a1, .inr (.inr (some (7, 0)))], am_mk m)) rfl ?_
    obtain ⟨r2, h3, h⟩ := am_bd h
    refine am_Go.cl htb rfl (ex_X7_take d (by omega) a1 m r2 h3) ?_
    show am_Go d 117 (23, [some (.inr (.inr (some (9, 0)))), some (.inl a1), some (.inl a2), some (.inl a3), some (.inl a4), some (.inl a5)], [], am_mk r2) _ _ _ _
    refine am_Go.n htb 3 (S' := (28, [some (.inr (.inr (some (9, 0)))), some (.inl a1), some (.inl a2), some (.inl a3), some (.inl a4), some (.inl a5)], [.inl a2, .inr (.inr (some (7, 0)))], am_mk r2)) rfl ?_
    obtain ⟨r4, h5, h⟩ := am_bd h
    refine am_Go.cl htb rfl (ex_X7_take d (by omega) a2 r2 r4 h5) ?_
    show am_Go d 117 (31, [some (.inr (.inr (some (9, 0)))), some (.inl a1), some (.inl a2), some (.inl a3), some (.inl a4), some (.inl a5)], [], am_mk r4) _ _ _ _
    refine am_Go.n htb 3 (S' := (36, [some (.inr (.inr (some (9, 0)))), some (.inl a1), some (.inl a2), some (.inl a3), some (.inl a4), some (.inl a5)], [.inl a3, .inr (.inr (some (7, 0)))], am_mk r4)) rfl ?_
    obtain ⟨r6, h7, h⟩ := am_bd h
    refine am_Go.cl htb rfl (ex_X7_take d (by omega) a3 r4 r6 h7) ?_
    show am_Go d 117 (39, [some (.inr (.inr (some (9, 0)))), some (.inl a1), some (.inl a2), some (.inl a3), some (.inl a4), some (.inl a5)], [], am_mk r6) _ _ _ _
    refine am_Go.n htb 3 (S' := (45, [some (.inr (.inr (some (9, 0)))), some (.inl a1), some (.inl a2), some (.inl a3), some (.inl a4), some (.inl a5)], [.inl a4, .inr (.inr (some (7, 0)))], am_mk r6)) rfl ?_
    obtain ⟨r8, h9, h⟩ := am_bd h
    refine am_Go.cl htb rfl (ex_X7_take d (by omega) a4 r6 r8 h9) ?_
    show am_Go d 117 (48, [some (.inr (.inr (some (9, 0)))), some (.inl a1), some (.inl a2), some (.inl a3), some (.inl a4), some (.inl a5)], [], am_mk r8) _ _ _ _
    refine am_Go.n htb 3 (S' := (54, [some (.inr (.inr (some (9, 0)))), some (.inl a1), some (.inl a2), some (.inl a3), some (.inl a4), some (.inl a5)], [.inl a5, .inr (.inr (some (7, 0)))], am_mk r8)) rfl ?_
    obtain ⟨r10, h11, h⟩ := am_bd h
    refine am_Go.cl htb rfl (ex_X7_take d (by omega) a5 r8 r10 h11) ?_
    show am_Go d 117 (57, [some (.inr (.inr (some (9, 0)))), some (.inl a1), some (.inl a2), some (.inl a3), some (.inl a4), some (.inl a5)], [], am_mk r10) _ _ _ _
    refine am_Go.n htb 3 (S' := (64, [some (.inr (.inr (some (9, 0)))), some (.inl a1), some (.inl a2), some (.inl a3), some (.inl a4), some (.inl a5)], [.inl (r10.1 7 0 1)], am_mk r10)) rfl ?_
    cases h
    exact am_Go.rt htb rfl
  · rw [if_neg hc1] at h
    refine am_Go.c1 htb (S' := (13, [some (.inr (.inr (some (9, 0)))), some (.inl a1), some (.inl a2), some (.inl a3), some (.inl a4), some (.inl a5)], [], am_mk m)) (if_neg hc1) ?_
    refine am_Go.n htb 1 (S' := (14, [some (.inr (.inr (some (9, 0)))), some (.inl a1), some (.inl a2), some (.inl a3), some (.inl a4), some (.inl a5)], [.inl (-1)], am_mk m)) rfl ?_
    cases h
    exact am_Go.rt htb rfl
-- X9_end
set_option maxRecDepth 100000 in
theorem ex_X9_end (d : Nat) (hd : 1 ≤ d) (a1 : Int32) (m : am_m) (t : Int32 × am_m) (h : fn_X9_end a1 m = some t) : am_Ex am_cod d 118 [.inr (.inr (some (9, 0))), .inl a1] (am_mk m) (some (.inl t.1)) (am_mk t.2) 0 0 := by
  obtain ⟨d, rfl⟩ : ∃ e, d = e + 1 := ⟨d - 1, by omega⟩
  have htb : am_tab 118 = at_118 := rfl
  refine ⟨Nat.le_of_ble_eq_true rfl, ?_⟩
  unfold fn_X9_end at h
  show am_Go d 118 (0, [some (.inr (.inr (some (9, 0)))), some (.inl a1)], [], am_mk m) _ _ 0 0
  refine am_Go.n htb 1 (S' := (1, [some (.inr (.inr (some (9, 0)))), some (.inl a1)], [.inl a1], am_mk m)) rfl ?_
  by_cases hc1 : a1 < 0
  · rw [if_pos hc1] at h
    refine am_Go.c1 htb (S' := (15, [some (.inr (.inr (some (9, 0)))), some (.inl a1)], [], am_mk m)) (if_pos hc1) ?_
    refine am_Go.n htb 1 (S' := (16, [some (.inr (.inr (some (9, 0)))), some (.inl a1)], [.inl (-1)], am_mk m)) rfl ?_
    cases h
    exact am_Go.rt htb rfl
  · rw [if_neg hc1] at h
    refine am_Go.c1 htb (S' := (4, [some (.inr (.inr (some (9, 0)))), some (.inl a1)], [], am_mk m)) (if_neg hc1) ?_
    refine am_Go.n htb 4 (S' := (12, [some (.inr (.inr (some (9, 0)))), some (.inl a1)], [.inl (m.1 7 0 1), .inl a1], am_mk m)) rfl ?_
    by_cases hc2 : a1 ≤ (m.1 7 0 1)
    · rw [if_pos hc2] at h
      refine am_Go.c1 htb (S' := (17, [some (.inr (.inr (some (9, 0)))), some (.inl a1)], [], am_mk m)) (if_pos hc2) ?_
      refine am_Go.n htb 5 (S' := (26, [some (.inr (.inr (some (9, 0)))), some (.inl a1)], [.inl a1], am_mk (am_si m 7 0 1 a1))) rfl ?_
      cases h
      exact am_Go.rt htb rfl
    · rw [if_neg hc2] at h
      refine am_Go.c1 htb (S' := (15, [some (.inr (.inr (some (9, 0)))), some (.inl a1)], [], am_mk m)) (if_neg hc2) ?_
      refine am_Go.n htb 1 (S' := (16, [some (.inr (.inr (some (9, 0)))), some (.inl a1)], [.inl (-1)], am_mk m)) rfl ?_
      cases h
      exact am_Go.rt htb rfl
-- X9_rowHarm
set_option maxRecDepth 100000 in
theorem ex_X9_rowHarm (d : Nat) (hd : 3 ≤ d) (a1 : Int32) (m : am_m) (t : Int32 × am_m) (h : fn_X9_rowHarm a1 m = some t) : am_Ex am_cod d 159 [.inr (.inr (some (9, 0))), .inl a1] (am_mk m) (some (.inl t.1)) (am_mk t.2) 0 0 := by
  obtain ⟨d, rfl⟩ : ∃ e, d = e + 1 := ⟨d - 1, by omega⟩
  have htb : am_tab 159 = at_159 := rfl
  refine ⟨Nat.le_of_ble_eq_true rfl, ?_⟩
  unfold fn_X9_rowHarm at h
  show am_Go d 159 (0, [some (.inr (.inr (some (9, 0)))), some (.inl a1), none, none, none], [], am_mk m) _ _ 0 0
  refine am_Go.n htb 6 (S' := (10, [some (.inr (.inr (some (9, 0)))), some (.inl a1), none, none, none], [.inl ((m.1 7 0 1) - (3 : Int32)), .inl a1], am_mk m)) rfl ?_
  by_cases hc1 : a1 ≤ ((m.1 7 0 1) - (3 : Int32))
  · rw [if_pos hc1] at h
    refine am_Go.c1 htb (S' := (15, [some (.inr (.inr (some (9, 0)))), some (.inl a1), none, none, none], [], am_mk m)) (if_pos hc1) ?_
    refine am_Go.n htb 3 (S' := (20, [some (.inr (.inr (some (9, 0)))), some (.inl a1), none, none, none], [.inl a1, .inr (.inr (some (7, 0)))], am_mk m)) rfl ?_
    obtain ⟨r2, h3, h⟩ := am_bd h
    refine am_Go.cl htb rfl (ex_X7_byteAt d (by omega) a1 m r2 h3) ?_
    show am_Go d 159 (23, [some (.inr (.inr (some (9, 0)))), some (.inl a1), none, none, none], [.inl r2], am_mk m) _ _ _ _
    refine am_Go.n htb 6 (S' := (31, [some (.inr (.inr (some (9, 0)))), some (.inl a1), some (.inl r2), none, none], [.inl (a1 + (1 : Int32)), .inr (.inr (some (7, 0)))], am_mk m)) rfl ?_
    obtain ⟨r4, h5, h⟩ := am_bd h
    refine am_Go.cl htb rfl (ex_X7_byteAt d (by omega) (a1 + (1 : Int32)) m r4 h5) ?_
    show am_Go d 159 (34, [some (.inr (.inr (some (9, 0)))), some (.inl a1), some (.inl r2), none, none], [.inl r4], am_mk m) _ _ _ _
    refine am_Go.n htb 6 (S' := (42, [some (.inr (.inr (some (9, 0)))), some (.inl a1), some (.inl r2), some (.inl r4), none], [.inl (a1 + (2 : Int32)), .inr (.inr (some (7, 0)))], am_mk m)) rfl ?_
    obtain ⟨r6, h7, h⟩ := am_bd h
    refine am_Go.cl htb rfl (ex_X7_byteAt d (by omega) (a1 + (2 : Int32)) m r6 h7) ?_
    show am_Go d 159 (45, [some (.inr (.inr (some (9, 0)))), some (.inl a1), some (.inl r2), some (.inl r4), none], [.inl r6], am_mk m) _ _ _ _
    refine am_Go.n htb 5 (S' := (53, [some (.inr (.inr (some (9, 0)))), some (.inl a1), some (.inl r2), some (.inl r4), some (.inl r6)], [.inl r4, .inl r2, .inr (.inr (some (8, 0)))], am_mk m)) rfl ?_
    obtain ⟨r8, h9, h⟩ := am_bd h
    refine am_Go.cl htb rfl (ex_X8_hasTwo d (by omega) 0 r2 r4 m r8 h9) ?_
    show am_Go d 159 (56, [some (.inr (.inr (some (9, 0)))), some (.inl a1), some (.inl r2), some (.inl r4), some (.inl r6)], [.inl r8], am_mk m) _ _ _ _
    by_cases hc10 : r8 = 0
    · rw [if_pos hc10] at h
      refine am_Go.c1 htb (S' := (72, [some (.inr (.inr (some (9, 0)))), some (.inl a1), some (.inl r2), some (.inl r4), some (.inl r6)], [], am_mk m)) (if_pos hc10) ?_
      refine am_Go.n htb 1 (S' := (73, [some (.inr (.inr (some (9, 0)))), some (.inl a1), some (.inl r2), some (.inl r4), some (.inl r6)], [.inl 0], am_mk m)) rfl ?_
      cases h
      exact am_Go.rt htb rfl
    · rw [if_neg hc10] at h
      refine am_Go.c1 htb (S' := (59, [some (.inr (.inr (some (9, 0)))), some (.inl a1), some (.inl r2), some (.inl r4), some (.inl r6)], [], am_mk m)) (if_neg hc10) ?_
      refine am_Go.n htb 2 (S' := (62, [some (.inr (.inr (some (9, 0)))), some (.inl a1), some (.inl r2), some (.inl r4), some (.inl r6)], [.inl 1, .inl r6], am_mk m)) rfl ?_
      by_cases hc11 : r6 < (1 : Int32)
      · rw [if_pos hc11] at h
        refine am_Go.c1 htb (S' := (72, [some (.inr (.inr (some (9, 0)))), some (.inl a1), some (.inl r2), some (.inl r4), some (.inl r6)], [], am_mk m)) (if_pos hc11) ?_
        refine am_Go.n htb 1 (S' := (73, [some (.inr (.inr (some (9, 0)))), some (.inl a1), some (.inl r2), some (.inl r4), some (.inl r6)], [.inl 0], am_mk m)) rfl ?_
        cases h
        exact am_Go.rt htb rfl
      · rw [if_neg hc11] at h
        refine am_Go.c1 htb (S' := (65, [some (.inr (.inr (some (9, 0)))), some (.inl a1), some (.inl r2), some (.inl r4), some (.inl r6)], [], am_mk m)) (if_neg hc11) ?_
        refine am_Go.n htb 2 (S' := (69, [some (.inr (.inr (some (9, 0)))), some (.inl a1), some (.inl r2), some (.inl r4), some (.inl r6)], [.inl 9, .inl r6], am_mk m)) rfl ?_
        by_cases hc12 : r6 ≤ (9 : Int32)
        · rw [if_pos hc12] at h
          refine am_Go.c1 htb (S' := (74, [some (.inr (.inr (some (9, 0)))), some (.inl a1), some (.inl r2), some (.inl r4), some (.inl r6)], [], am_mk m)) (if_pos hc12) ?_
          refine am_Go.n htb 10 (S' := (91, [some (.inr (.inr (some (9, 0)))), some (.inl a1), some (.inl r2), some (.inl r4), some (.inl r6)], [.inl (m.1 39 0 0), .inl r6, .inl r4, .inl r2, .inr (.inr (some (8, 0)))], am_mk m)) rfl ?_
          obtain ⟨r13, h14, h⟩ := am_bd h
          refine am_Go.cl htb rfl (ex_X8_setHarm d (by omega) 0 r2 r4 r6 (m.1 39 0 0) m r13 h14) ?_
          show am_Go d 159 (94, [some (.inr (.inr (some (9, 0)))), some (.inl a1), some (.inl r2), some (.inl r4), some (.inl r6)], [], am_mk r13) _ _ _ _
          refine am_Go.n htb 1 (S' := (95, [some (.inr (.inr (some (9, 0)))), some (.inl a1), some (.inl r2), some (.inl r4), some (.inl r6)], [.inl 1], am_mk r13)) rfl ?_
          cases h
          exact am_Go.rt htb rfl
        · rw [if_neg hc12] at h
          refine am_Go.c1 htb (S' := (72, [some (.inr (.inr (some (9, 0)))), some (.inl a1), some (.inl r2), some (.inl r4), some (.inl r6)], [], am_mk m)) (if_neg hc12) ?_
          refine am_Go.n htb 1 (S' := (73, [some (.inr (.inr (some (9, 0)))), some (.inl a1), some (.inl r2), some (.inl r4), some (.inl r6)], [.inl 0], am_mk m)) rfl ?_
          cases h
          exact am_Go.rt htb rfl
  · rw [if_neg hc1] at h
    refine am_Go.c1 htb (S' := (13, [some (.inr (.inr (some (9, 0)))), some (.inl a1), none, none, none], [], am_mk m)) (if_neg hc1) ?_
    refine am_Go.n htb 1 (S' := (14, [some (.inr (.inr (some (9, 0)))), some (.inl a1), none, none, none], [.inl 0], am_mk m)) rfl ?_
    cases h
    exact am_Go.rt htb rfl
-- X9_row
set_option maxRecDepth 100000 in
theorem lt_X9_row_23 (d : Nat) (hd : 4 ≤ d + 1) {r : Option am_V} {M' : am_M} {kc ks : Nat} {n : Nat} {x1 : Int32} {x2 : Int32} {x3 : Int32} {m : am_m} {t : Int32 × Int32 × am_m} (h : lp_X9_row_23 n x1 x2 x3 m = some t) (hk : am_Go d 119 (57, [some (.inr (.inr (some (9, 0)))), some (.inl t.1), some (.inl t.2.1), none], [], am_mk t.2.2) r M' kc ks) : am_Go d 119 (23, [some (.inr (.inr (some (9, 0)))), some (.inl x1), some (.inl x2), some (.inl x3)], [], am_mk m) r M' kc ks := by
  have htb : am_tab 119 = at_119 := rfl
  induction n generalizing x1 x2 x3 m with
  | zero => cases h
  | succ n ih =>
    unfold lp_X9_row_23 at h
    refine am_Go.n htb 4 (S' := (31, [some (.inr (.inr (some (9, 0)))), some (.inl x1), some (.inl x2), some (.inl x3)], [.inl (m.1 7 0 1), .inl x3], am_mk m)) rfl ?_
    by_cases hc2 : (m.1 7 0 1) ≤ x3
    · rw [if_pos hc2] at h
      refine am_Go.c1 htb (S' := (57, [some (.inr (.inr (some (9, 0)))), some (.inl x1), some (.inl x2), some (.inl x3)], [], am_mk m)) (if_pos hc2) ?_
      cases h
      exact am_Go.fg (by exact ⟨rfl, ⟨rfl, ⟨rfl, trivial⟩⟩⟩) hk
    · rw [if_neg hc2] at h
      refine am_Go.c1 htb (S' := (34, [some (.inr (.inr (some (9, 0)))), some (.inl x1), some (.inl x2), some (.inl x3)], [], am_mk m)) (if_neg hc2) ?_
      refine am_Go.n htb 2 (S' := (36, [some (.inr (.inr (some (9, 0)))), some (.inl x1), some (.inl x2), some (.inl x3)], [.inl x3, .inr (.inr (some (9, 0)))], am_mk m)) rfl ?_
      obtain ⟨r3, h4, h⟩ := am_bd h
      refine am_Go.cl htb rfl (ex_X9_rowHarm d (by omega) x3 m r3 h4) ?_
      show am_Go d 119 (39, [some (.inr (.inr (some (9, 0)))), some (.inl x1), some (.inl x2), some (.inl x3)], [.inl r3.1], am_mk r3.2) _ _ _ _
      refine am_Go.cut (S := (51, [some (.inr (.inr (some (9, 0)))), some (.inl (if r3.1 = 0 then x1 else (x1 + 1))), some (.inl (if r3.1 = 0 then (x2 + 1) else x2)), some (.inl x3)], [], am_mk r3.2)) ?_ (fun key => ?_)
      · refine am_Go.n htb 2 (S' := (23, [some (.inr (.inr (some (9, 0)))), some (.inl (if r3.1 = 0 then x1 else (x1 + 1))), some (.inl (if r3.1 = 0 then (x2 + 1) else x2)), some (.inl (x3 + 3))], [], am_mk r3.2)) rfl ?_
        first | exact ih h | exact ih h hk
      · by_cases hc5 : r3.1 = 0
        · refine am_Go.c1 htb (S' := (48, [some (.inr (.inr (some (9, 0)))), some (.inl x1), some (.inl x2), some (.inl x3)], [], am_mk r3.2)) (if_pos hc5) ?_
          refine am_Go.n htb 1 (S' := (51, [some (.inr (.inr (some (9, 0)))), some (.inl x1), some (.inl (x2 + 1)), some (.inl x3)], [], am_mk r3.2)) rfl ?_
          simp only [if_pos hc5] at key
          exact am_Go.fg (by exact ⟨rfl, ⟨rfl, ⟨rfl, ⟨rfl, trivial⟩⟩⟩⟩) key
        · refine am_Go.c1 htb (S' := (42, [some (.inr (.inr (some (9, 0)))), some (.inl x1), some (.inl x2), some (.inl x3)], [], am_mk r3.2)) (if_neg hc5) ?_
          refine am_Go.n htb 2 (S' := (51, [some (.inr (.inr (some (9, 0)))), some (.inl (x1 + 1)), some (.inl x2), some (.inl x3)], [], am_mk r3.2)) rfl ?_
          simp only [if_neg hc5] at key
          exact am_Go.fg (by exact ⟨rfl, ⟨rfl, ⟨rfl, ⟨rfl, trivial⟩⟩⟩⟩) key
set_option maxRecDepth 100000 in
theorem ex_X9_row (d : Nat) (hd : 4 ≤ d)  (m : am_m) (t : Int32 × am_m) (h : fn_X9_row  m = some t) : am_Ex am_cod d 119 [.inr (.inr (some (9, 0)))] (am_mk m) (some (.inl t.1)) (am_mk t.2) 0 0 := by
  obtain ⟨d, rfl⟩ : ∃ e, d = e + 1 := ⟨d - 1, by omega⟩
  have htb : am_tab 119 = at_119 := rfl
  refine ⟨Nat.le_of_ble_eq_true rfl, ?_⟩
  unfold fn_X9_row at h
  show am_Go d 119 (0, [some (.inr (.inr (some (9, 0)))), none, none, none], [], am_mk m) _ _ 0 0
  refine am_Go.n htb 3 (S' := (7, [some (.inr (.inr (some (9, 0)))), none, none, none], [.inl (m.1 7 0 1)], am_mk m)) rfl ?_
  by_cases hc1 : (m.1 7 0 1) ≠ 0
  · rw [if_pos hc1] at h
    refine am_Go.c1 htb (S' := (17, [some (.inr (.inr (some (9, 0)))), none, none, none], [], am_mk m)) (if_pos hc1) ?_
    refine am_Go.n htb 6 (S' := (23, [some (.inr (.inr (some (9, 0)))), some (.inl 0), some (.inl 0), some (.inl 0)], [], am_mk m)) rfl ?_
    obtain ⟨q6, h7, h⟩ := am_bd h
    refine lt_X9_row_23 _ hd (h := h7) (hk := ?_)
    refine am_Go.n htb 9 (S' := (74, [some (.inr (.inr (some (9, 0)))), some (.inl q6.1), some (.inl q6.2.1), none], [.inr (.inr (some (3, 0)))], am_mk (am_si (am_si q6.2.2 9 0 15 q6.2.1) 7 0 1 0))) rfl ?_
    obtain ⟨r8, h9, h⟩ := am_bd h
    refine am_Go.cl htb rfl (ex_X3_clear d (by omega) 0 (am_si (am_si q6.2.2 9 0 15 q6.2.1) 7 0 1 0) r8 h9) ?_
    show am_Go d 119 (77, [some (.inr (.inr (some (9, 0)))), some (.inl q6.1), some (.inl q6.2.1), none], [], am_mk r8) _ _ _ _
    refine am_Go.n htb 2 (S' := (79, [some (.inr (.inr (some (9, 0)))), some (.inl q6.1), some (.inl q6.2.1), none], [.inl q6.1, .inr (.inr (some (9, 0)))], am_mk r8)) rfl ?_
    obtain ⟨r10, h11, h⟩ := am_bd h
    refine am_Go.cl htb rfl (ex_X9_told d (by omega) q6.1 r8 r10 h11) ?_
    show am_Go d 119 (82, [some (.inr (.inr (some (9, 0)))), some (.inl q6.1), some (.inl q6.2.1), none], [.inl r10.1], am_mk r10.2) _ _ _ _
    cases h
    exact am_Go.rt htb rfl
  · rw [if_neg hc1] at h
    refine am_Go.c1 htb (S' := (10, [some (.inr (.inr (some (9, 0)))), none, none, none], [], am_mk m)) (if_neg hc1) ?_
    refine am_Go.n htb 2 (S' := (13, [some (.inr (.inr (some (9, 0)))), none, none, none], [.inl (-6), .inr (.inr (some (9, 0)))], am_mk m)) rfl ?_
    obtain ⟨r12, h13, h⟩ := am_bd h
    refine am_Go.cl htb rfl (ex_X9_told d (by omega) (-6) m r12 h13) ?_
    show am_Go d 119 (16, [some (.inr (.inr (some (9, 0)))), none, none, none], [.inl r12.1], am_mk r12.2) _ _ _ _
    cases h
    exact am_Go.rt htb rfl
-- X9_crumbs
set_option maxRecDepth 100000 in
theorem ex_X9_crumbs (d : Nat) (hd : 1 ≤ d)  (m : am_m) (t : Int32) (h : fn_X9_crumbs  m = some t) : am_Ex am_cod d 120 [.inr (.inr (some (9, 0)))] (am_mk m) (some (.inl t)) (am_mk m) 0 0 := by
  obtain ⟨d, rfl⟩ : ∃ e, d = e + 1 := ⟨d - 1, by omega⟩
  have htb : am_tab 120 = at_120 := rfl
  refine ⟨Nat.le_of_ble_eq_true rfl, ?_⟩
  unfold fn_X9_crumbs at h
  show am_Go d 120 (0, [some (.inr (.inr (some (9, 0))))], [], am_mk m) _ _ 0 0
  refine am_Go.n htb 2 (S' := (4, [some (.inr (.inr (some (9, 0))))], [.inl (m.1 9 0 15)], am_mk m)) rfl ?_
  cases h
  exact am_Go.rt htb rfl
-- X9_doHarm
set_option maxRecDepth 100000 in
theorem ex_X9_doHarm (d : Nat) (hd : 4 ≤ d) (a1 : Int32) (a2 : Int32) (a3 : Int32) (m : am_m) (t : Int32 × am_m) (h : fn_X9_doHarm a1 a2 a3 m = some t) : am_Ex am_cod d 160 [.inr (.inr (some (9, 0))), .inl a1, .inl a2, .inl a3] (am_mk m) (some (.inl t.1)) (am_mk t.2) 0 0 := by
  obtain ⟨d, rfl⟩ : ∃ e, d = e + 1 := ⟨d - 1, by omega⟩
  have htb : am_tab 160 = at_160 := rfl
  refine ⟨Nat.le_of_ble_eq_true rfl, ?_⟩
  unfold fn_X9_doHarm at h
  show am_Go d 160 (0, [some (.inr (.inr (some (9, 0)))), some (.inl a1), some (.inl a2), some (.inl a3), none], [], am_mk m) _ _ 0 0
  refine am_Go.n htb 2 (S' := (2, [some (.inr (.inr (some (9, 0)))), some (.inl a1), some (.inl a2), some (.inl a3), none], [.inl 1, .inl a3], am_mk m)) rfl ?_
  by_cases hc1 : a3 < (1 : Int32)
  · rw [if_pos hc1] at h
    refine am_Go.c1 htb (S' := (16, [some (.inr (.inr (some (9, 0)))), some (.inl a1), some (.inl a2), some (.inl a3), none], [], am_mk m)) (if_pos hc1) ?_
    refine am_Go.n htb 1 (S' := (17, [some (.inr (.inr (some (9, 0)))), some (.inl a1), some (.inl a2), some (.inl a3), none], [.inl (-1)], am_mk m)) rfl ?_
    cases h
    exact am_Go.rt htb rfl
  · rw [if_neg hc1] at h
    refine am_Go.c1 htb (S' := (5, [some (.inr (.inr (some (9, 0)))), some (.inl a1), some (.inl a2), some (.inl a3), none], [], am_mk m)) (if_neg hc1) ?_
    refine am_Go.n htb 2 (S' := (8, [some (.inr (.inr (some (9, 0)))), some (.inl a1), some (.inl a2), some (.inl a3), none], [.inl 9, .inl a3], am_mk m)) rfl ?_
    by_cases hc2 : (9 : Int32) < a3
    · rw [if_pos hc2] at h
      refine am_Go.c1 htb (S' := (16, [some (.inr (.inr (some (9, 0)))), some (.inl a1), some (.inl a2), some (.inl a3), none], [], am_mk m)) (if_pos hc2) ?_
      refine am_Go.n htb 1 (S' := (17, [some (.inr (.inr (some (9, 0)))), some (.inl a1), some (.inl a2), some (.inl a3), none], [.inl (-1)], am_mk m)) rfl ?_
      cases h
      exact am_Go.rt htb rfl
    · rw [if_neg hc2] at h
      refine am_Go.c1 htb (S' := (11, [some (.inr (.inr (some (9, 0)))), some (.inl a1), some (.inl a2), some (.inl a3), none], [], am_mk m)) (if_neg hc2) ?_
      refine am_Go.n htb 2 (S' := (13, [some (.inr (.inr (some (9, 0)))), some (.inl a1), some (.inl a2), some (.inl a3), none], [.inl a2, .inl a1], am_mk m)) rfl ?_
      by_cases hc3 : a1 ≠ a2
      · rw [if_pos hc3] at h
        refine am_Go.c1 htb (S' := (18, [some (.inr (.inr (some (9, 0)))), some (.inl a1), some (.inl a2), some (.inl a3), none], [], am_mk m)) (if_pos hc3) ?_
        refine am_Go.n htb 4 (S' := (24, [some (.inr (.inr (some (9, 0)))), some (.inl a1), some (.inl a2), some (.inl a3), none], [.inl a2, .inl a1, .inr (.inr (some (8, 0)))], am_mk m)) rfl ?_
        obtain ⟨r4, h5, h⟩ := am_bd h
        refine am_Go.cl htb rfl (ex_X8_hasTwo d (by omega) 0 a1 a2 m r4 h5) ?_
        show am_Go d 160 (27, [some (.inr (.inr (some (9, 0)))), some (.inl a1), some (.inl a2), some (.inl a3), none], [.inl r4], am_mk m) _ _ _ _
        by_cases hc6 : r4 ≠ 0
        · rw [if_pos hc6] at h
          refine am_Go.c1 htb (S' := (33, [some (.inr (.inr (some (9, 0)))), some (.inl a1), some (.inl a2), some (.inl a3), none], [], am_mk m)) (if_pos hc6) ?_
          refine am_Go.n htb 4 (S' := (39, [some (.inr (.inr (some (9, 0)))), some (.inl a1), some (.inl a2), some (.inl a3), none], [.inl a2, .inl a1, .inr (.inr (some (8, 0)))], am_mk m)) rfl ?_
          obtain ⟨r7, h8, h⟩ := am_bd h
          refine am_Go.cl htb rfl (ex_X8_weightOf d (by omega) 0 a1 a2 m r7 h8) ?_
          show am_Go d 160 (42, [some (.inr (.inr (some (9, 0)))), some (.inl a1), some (.inl a2), some (.inl a3), none], [.inl r7], am_mk m) _ _ _ _
          refine am_Go.n htb 3 (S' := (47, [some (.inr (.inr (some (9, 0)))), some (.inl a1), some (.inl a2), some (.inl a3), some (.inl r7)], [.inl a3, .inl r7], am_mk m)) rfl ?_
          by_cases hc9 : r7 ≠ a3
          · rw [if_pos hc9] at h
            refine am_Go.c1 htb (S' := (53, [some (.inr (.inr (some (9, 0)))), some (.inl a1), some (.inl a2), some (.inl a3), some (.inl r7)], [], am_mk m)) (if_pos hc9) ?_
            refine am_Go.n htb 7 (S' := (64, [some (.inr (.inr (some (9, 0)))), some (.inl a1), some (.inl a2), some (.inl a3), some (.inl r7)], [.inr (.inr (some (8, 0))), .inl a2, .inl a1, .inl 0, .inr (.inr (some (3, 0)))], am_mk m)) rfl ?_
            obtain ⟨r10, h11, h⟩ := am_bd h
            refine am_Go.cl htb rfl (ex_X3_keep d (by omega) 0 0 a1 a2 0 m r10 h11) ?_
            show am_Go d 160 (67, [some (.inr (.inr (some (9, 0)))), some (.inl a1), some (.inl a2), some (.inl a3), some (.inl r7)], [], am_mk r10) _ _ _ _
            refine am_Go.n htb 10 (S' := (83, [some (.inr (.inr (some (9, 0)))), some (.inl a1), some (.inl a2), some (.inl a3), some (.inl r7)], [.inl (r10.1 39 0 0), .inl a3, .inl a2, .inl a1, .inr (.inr (some (8, 0)))], am_mk r10)) rfl ?_
            obtain ⟨r12, h13, h⟩ := am_bd h
            refine am_Go.cl htb rfl (ex_X8_setHarm d (by omega) 0 a1 a2 a3 (r10.1 39 0 0) r10 r12 h13) ?_
            show am_Go d 160 (86, [some (.inr (.inr (some (9, 0)))), some (.inl a1), some (.inl a2), some (.inl a3), some (.inl r7)], [], am_mk r12) _ _ _ _
            refine am_Go.n htb 1 (S' := (88, [some (.inr (.inr (some (9, 0)))), some (.inl a1), some (.inl a2), some (.inl a3), some (.inl r7)], [.inl r7], am_mk r12)) rfl ?_
            cases h
            exact am_Go.rt htb rfl
          · rw [if_neg hc9] at h
            refine am_Go.c1 htb (S' := (50, [some (.inr (.inr (some (9, 0)))), some (.inl a1), some (.inl a2), some (.inl a3), some (.inl r7)], [], am_mk m)) (if_neg hc9) ?_
            refine am_Go.n htb 1 (S' := (52, [some (.inr (.inr (some (9, 0)))), some (.inl a1), some (.inl a2), some (.inl a3), some (.inl r7)], [.inl (-3)], am_mk m)) rfl ?_
            cases h
            exact am_Go.rt htb rfl
        · rw [if_neg hc6] at h
          refine am_Go.c1 htb (S' := (30, [some (.inr (.inr (some (9, 0)))), some (.inl a1), some (.inl a2), some (.inl a3), none], [], am_mk m)) (if_neg hc6) ?_
          refine am_Go.n htb 1 (S' := (32, [some (.inr (.inr (some (9, 0)))), some (.inl a1), some (.inl a2), some (.inl a3), none], [.inl (-2)], am_mk m)) rfl ?_
          cases h
          exact am_Go.rt htb rfl
      · rw [if_neg hc3] at h
        refine am_Go.c1 htb (S' := (16, [some (.inr (.inr (some (9, 0)))), some (.inl a1), some (.inl a2), some (.inl a3), none], [], am_mk m)) (if_neg hc3) ?_
        refine am_Go.n htb 1 (S' := (17, [some (.inr (.inr (some (9, 0)))), some (.inl a1), some (.inl a2), some (.inl a3), none], [.inl (-1)], am_mk m)) rfl ?_
        cases h
        exact am_Go.rt htb rfl
