-- X4_readCompared
set_option maxRecDepth 100000 in
theorem ex_X4_readCompared (d : Nat) (hd : 4 ≤ d) (rc : am_rc) (hrc : am_rcok rc (d - 1)) (a1 : Int32) (m : am_m) (t : Int32 × am_m) (h : fn_X4_readCompared rc a1 m = some t) : am_Ex am_cod d 52 [.inr (.inr (some (4, 0))), .inl a1] (am_mk m) (some (.inl t.1)) (am_mk t.2) 0 0 := by
  obtain ⟨d, rfl⟩ : ∃ e, d = e + 1 := ⟨d - 1, by omega⟩
  have htb : am_tab 52 = at_52 := rfl
  refine ⟨Nat.le_of_ble_eq_true rfl, ?_⟩
  unfold fn_X4_readCompared at h
  show am_Go d 52 (0, [some (.inr (.inr (some (4, 0)))), some (.inl a1), none], [], am_mk m) _ _ 0 0
  refine am_Go.n htb 2 (S' := (2, [some (.inr (.inr (some (4, 0)))), some (.inl a1), none], [.inl a1, .inr (.inr (some (4, 0)))], am_mk m)) rfl ?_
  obtain ⟨r1, h2, h⟩ := am_bd h
  refine am_Go.cl htb rfl (hrc 4 _ _ _ h2) ?_
  show am_Go d 52 (5, [some (.inr (.inr (some (4, 0)))), some (.inl a1), none], [.inl r1.1], am_mk r1.2) _ _ _ _
  by_cases hc3 : r1.1 ≠ 0
  · rw [if_pos hc3] at h
    refine am_Go.c1 htb (S' := (10, [some (.inr (.inr (some (4, 0)))), some (.inl a1), none], [], am_mk r1.2)) (if_pos hc3) ?_
    refine am_Go.n htb 5 (S' := (18, [some (.inr (.inr (some (4, 0)))), some (.inl a1), some (.inl (r1.2.1 4 0 6))], [.inl 60, .inl (r1.2.1 4 0 6)], am_mk r1.2)) rfl ?_
    by_cases hc4 : (r1.2.1 4 0 6) = (60 : Int32)
    · rw [if_pos hc4] at h
      refine am_Go.c1 htb (S' := (38, [some (.inr (.inr (some (4, 0)))), some (.inl a1), some (.inl (r1.2.1 4 0 6))], [], am_mk r1.2)) (if_pos hc4) ?_
      refine am_Go.n htb 5 (S' := (45, [some (.inr (.inr (some (4, 0)))), some (.inl a1), some (.inl (r1.2.1 4 0 6))], [.inl ((r1.2.1 4 0 5) + (1 : Int32)), .inr (.inr (some (4, 0)))], am_mk r1.2)) rfl ?_
      obtain ⟨r5, h6, h⟩ := am_bd h
      refine am_Go.cl htb rfl (ex_X4_goTo d (by omega) ((r1.2.1 4 0 5) + (1 : Int32)) r1.2 r5 h6) ?_
      show am_Go d 52 (48, [some (.inr (.inr (some (4, 0)))), some (.inl a1), some (.inl (r1.2.1 4 0 6))], [], am_mk r5) _ _ _ _
      refine am_Go.n htb 2 (S' := (50, [some (.inr (.inr (some (4, 0)))), some (.inl a1), some (.inl (r1.2.1 4 0 6))], [.inl a1, .inr (.inr (some (4, 0)))], am_mk r5)) rfl ?_
      obtain ⟨r7, h8, h⟩ := am_bd h
      refine am_Go.cl htb rfl (hrc 4 _ _ _ h8) ?_
      show am_Go d 52 (53, [some (.inr (.inr (some (4, 0)))), some (.inl a1), some (.inl (r1.2.1 4 0 6))], [.inl r7.1], am_mk r7.2) _ _ _ _
      by_cases hc9 : r7.1 ≠ 0
      · rw [if_pos hc9] at h
        refine am_Go.c1 htb (S' := (58, [some (.inr (.inr (some (4, 0)))), some (.inl a1), some (.inl (r1.2.1 4 0 6))], [], am_mk r7.2)) (if_pos hc9) ?_
        refine am_Go.n htb 4 (S' := (64, [some (.inr (.inr (some (4, 0)))), some (.inl a1), some (.inl (r1.2.1 4 0 6))], [.inl 0, .inl (r1.2.1 4 0 6), .inr (.inr (some (5, 0)))], am_mk r7.2)) rfl ?_
        obtain ⟨r10, h11, h⟩ := am_bd h
        refine am_Go.cl htb rfl (ex_X5_put d (by omega) 0 (r1.2.1 4 0 6) 0 r7.2 r10 h11) ?_
        show am_Go d 52 (67, [some (.inr (.inr (some (4, 0)))), some (.inl a1), some (.inl (r1.2.1 4 0 6))], [], am_mk r10) _ _ _ _
        refine am_Go.n htb 1 (S' := (68, [some (.inr (.inr (some (4, 0)))), some (.inl a1), some (.inl (r1.2.1 4 0 6))], [.inl 1], am_mk r10)) rfl ?_
        cases h
        exact am_Go.rt htb rfl
      · rw [if_neg hc9] at h
        refine am_Go.c1 htb (S' := (56, [some (.inr (.inr (some (4, 0)))), some (.inl a1), some (.inl (r1.2.1 4 0 6))], [], am_mk r7.2)) (if_neg hc9) ?_
        refine am_Go.n htb 1 (S' := (57, [some (.inr (.inr (some (4, 0)))), some (.inl a1), some (.inl (r1.2.1 4 0 6))], [.inl 0], am_mk r7.2)) rfl ?_
        cases h
        exact am_Go.rt htb rfl
    · rw [if_neg hc4] at h
      refine am_Go.c1 htb (S' := (21, [some (.inr (.inr (some (4, 0)))), some (.inl a1), some (.inl (r1.2.1 4 0 6))], [], am_mk r1.2)) (if_neg hc4) ?_
      refine am_Go.n htb 2 (S' := (24, [some (.inr (.inr (some (4, 0)))), some (.inl a1), some (.inl (r1.2.1 4 0 6))], [.inl 62, .inl (r1.2.1 4 0 6)], am_mk r1.2)) rfl ?_
      by_cases hc12 : (r1.2.1 4 0 6) = (62 : Int32)
      · rw [if_pos hc12] at h
        refine am_Go.c1 htb (S' := (38, [some (.inr (.inr (some (4, 0)))), some (.inl a1), some (.inl (r1.2.1 4 0 6))], [], am_mk r1.2)) (if_pos hc12) ?_
        refine am_Go.n htb 5 (S' := (45, [some (.inr (.inr (some (4, 0)))), some (.inl a1), some (.inl (r1.2.1 4 0 6))], [.inl ((r1.2.1 4 0 5) + (1 : Int32)), .inr (.inr (some (4, 0)))], am_mk r1.2)) rfl ?_
        obtain ⟨r13, h14, h⟩ := am_bd h
        refine am_Go.cl htb rfl (ex_X4_goTo d (by omega) ((r1.2.1 4 0 5) + (1 : Int32)) r1.2 r13 h14) ?_
        show am_Go d 52 (48, [some (.inr (.inr (some (4, 0)))), some (.inl a1), some (.inl (r1.2.1 4 0 6))], [], am_mk r13) _ _ _ _
        refine am_Go.n htb 2 (S' := (50, [some (.inr (.inr (some (4, 0)))), some (.inl a1), some (.inl (r1.2.1 4 0 6))], [.inl a1, .inr (.inr (some (4, 0)))], am_mk r13)) rfl ?_
        obtain ⟨r15, h16, h⟩ := am_bd h
        refine am_Go.cl htb rfl (hrc 4 _ _ _ h16) ?_
        show am_Go d 52 (53, [some (.inr (.inr (some (4, 0)))), some (.inl a1), some (.inl (r1.2.1 4 0 6))], [.inl r15.1], am_mk r15.2) _ _ _ _
        by_cases hc17 : r15.1 ≠ 0
        · rw [if_pos hc17] at h
          refine am_Go.c1 htb (S' := (58, [some (.inr (.inr (some (4, 0)))), some (.inl a1), some (.inl (r1.2.1 4 0 6))], [], am_mk r15.2)) (if_pos hc17) ?_
          refine am_Go.n htb 4 (S' := (64, [some (.inr (.inr (some (4, 0)))), some (.inl a1), some (.inl (r1.2.1 4 0 6))], [.inl 0, .inl (r1.2.1 4 0 6), .inr (.inr (some (5, 0)))], am_mk r15.2)) rfl ?_
          obtain ⟨r18, h19, h⟩ := am_bd h
          refine am_Go.cl htb rfl (ex_X5_put d (by omega) 0 (r1.2.1 4 0 6) 0 r15.2 r18 h19) ?_
          show am_Go d 52 (67, [some (.inr (.inr (some (4, 0)))), some (.inl a1), some (.inl (r1.2.1 4 0 6))], [], am_mk r18) _ _ _ _
          refine am_Go.n htb 1 (S' := (68, [some (.inr (.inr (some (4, 0)))), some (.inl a1), some (.inl (r1.2.1 4 0 6))], [.inl 1], am_mk r18)) rfl ?_
          cases h
          exact am_Go.rt htb rfl
        · rw [if_neg hc17] at h
          refine am_Go.c1 htb (S' := (56, [some (.inr (.inr (some (4, 0)))), some (.inl a1), some (.inl (r1.2.1 4 0 6))], [], am_mk r15.2)) (if_neg hc17) ?_
          refine am_Go.n htb 1 (S' := (57, [some (.inr (.inr (some (4, 0)))), some (.inl a1), some (.inl (r1.2.1 4 0 6))], [.inl 0], am_mk r15.2)) rfl ?_
          cases h
          exact am_Go.rt htb rfl
      · rw [if_neg hc12] at h
        refine am_Go.c1 htb (S' := (27, [some (.inr (.inr (some (4, 0)))), some (.inl a1), some (.inl (r1.2.1 4 0 6))], [], am_mk r1.2)) (if_neg hc12) ?_
        refine am_Go.n htb 2 (S' := (30, [some (.inr (.inr (some (4, 0)))), some (.inl a1), some (.inl (r1.2.1 4 0 6))], [.inl 61, .inl (r1.2.1 4 0 6)], am_mk r1.2)) rfl ?_
        by_cases hc20 : (r1.2.1 4 0 6) = (61 : Int32)
        · rw [if_pos hc20] at h
          refine am_Go.c1 htb (S' := (38, [some (.inr (.inr (some (4, 0)))), some (.inl a1), some (.inl (r1.2.1 4 0 6))], [], am_mk r1.2)) (if_pos hc20) ?_
          refine am_Go.n htb 5 (S' := (45, [some (.inr (.inr (some (4, 0)))), some (.inl a1), some (.inl (r1.2.1 4 0 6))], [.inl ((r1.2.1 4 0 5) + (1 : Int32)), .inr (.inr (some (4, 0)))], am_mk r1.2)) rfl ?_
          obtain ⟨r21, h22, h⟩ := am_bd h
          refine am_Go.cl htb rfl (ex_X4_goTo d (by omega) ((r1.2.1 4 0 5) + (1 : Int32)) r1.2 r21 h22) ?_
          show am_Go d 52 (48, [some (.inr (.inr (some (4, 0)))), some (.inl a1), some (.inl (r1.2.1 4 0 6))], [], am_mk r21) _ _ _ _
          refine am_Go.n htb 2 (S' := (50, [some (.inr (.inr (some (4, 0)))), some (.inl a1), some (.inl (r1.2.1 4 0 6))], [.inl a1, .inr (.inr (some (4, 0)))], am_mk r21)) rfl ?_
          obtain ⟨r23, h24, h⟩ := am_bd h
          refine am_Go.cl htb rfl (hrc 4 _ _ _ h24) ?_
          show am_Go d 52 (53, [some (.inr (.inr (some (4, 0)))), some (.inl a1), some (.inl (r1.2.1 4 0 6))], [.inl r23.1], am_mk r23.2) _ _ _ _
          by_cases hc25 : r23.1 ≠ 0
          · rw [if_pos hc25] at h
            refine am_Go.c1 htb (S' := (58, [some (.inr (.inr (some (4, 0)))), some (.inl a1), some (.inl (r1.2.1 4 0 6))], [], am_mk r23.2)) (if_pos hc25) ?_
            refine am_Go.n htb 4 (S' := (64, [some (.inr (.inr (some (4, 0)))), some (.inl a1), some (.inl (r1.2.1 4 0 6))], [.inl 0, .inl (r1.2.1 4 0 6), .inr (.inr (some (5, 0)))], am_mk r23.2)) rfl ?_
            obtain ⟨r26, h27, h⟩ := am_bd h
            refine am_Go.cl htb rfl (ex_X5_put d (by omega) 0 (r1.2.1 4 0 6) 0 r23.2 r26 h27) ?_
            show am_Go d 52 (67, [some (.inr (.inr (some (4, 0)))), some (.inl a1), some (.inl (r1.2.1 4 0 6))], [], am_mk r26) _ _ _ _
            refine am_Go.n htb 1 (S' := (68, [some (.inr (.inr (some (4, 0)))), some (.inl a1), some (.inl (r1.2.1 4 0 6))], [.inl 1], am_mk r26)) rfl ?_
            cases h
            exact am_Go.rt htb rfl
          · rw [if_neg hc25] at h
            refine am_Go.c1 htb (S' := (56, [some (.inr (.inr (some (4, 0)))), some (.inl a1), some (.inl (r1.2.1 4 0 6))], [], am_mk r23.2)) (if_neg hc25) ?_
            refine am_Go.n htb 1 (S' := (57, [some (.inr (.inr (some (4, 0)))), some (.inl a1), some (.inl (r1.2.1 4 0 6))], [.inl 0], am_mk r23.2)) rfl ?_
            cases h
            exact am_Go.rt htb rfl
        · rw [if_neg hc20] at h
          refine am_Go.c1 htb (S' := (33, [some (.inr (.inr (some (4, 0)))), some (.inl a1), some (.inl (r1.2.1 4 0 6))], [], am_mk r1.2)) (if_neg hc20) ?_
          refine am_Go.n htb 1 (S' := (34, [some (.inr (.inr (some (4, 0)))), some (.inl a1), some (.inl (r1.2.1 4 0 6))], [.inr (.inr (some (4, 0)))], am_mk r1.2)) rfl ?_
          obtain ⟨r28, h29, h⟩ := am_bd h
          refine am_Go.cl htb rfl (ex_X4_failed d (by omega)  r1.2 r28 h29) ?_
          show am_Go d 52 (37, [some (.inr (.inr (some (4, 0)))), some (.inl a1), some (.inl (r1.2.1 4 0 6))], [.inl r28.1], am_mk r28.2) _ _ _ _
          obtain ⟨hz30, h⟩ := am_gd_some h
          cases h
          exact am_Go.rt htb (if_pos hz30)
  · rw [if_neg hc3] at h
    refine am_Go.c1 htb (S' := (8, [some (.inr (.inr (some (4, 0)))), some (.inl a1), none], [], am_mk r1.2)) (if_neg hc3) ?_
    refine am_Go.n htb 1 (S' := (9, [some (.inr (.inr (some (4, 0)))), some (.inl a1), none], [.inl 0], am_mk r1.2)) rfl ?_
    cases h
    exact am_Go.rt htb rfl
-- X4_readPlain
set_option maxRecDepth 100000 in
theorem lt_X4_readPlain_4 (d : Nat) (hd : 4 ≤ d + 1) (rc : am_rc) (hrc : am_rcok rc d) {r : Option am_V} {M' : am_M} {kc ks : Nat} {n : Nat} {x1 : Int32} {x2 : Int32} {x3 : Int32} {m : am_m} {t : Int32 × am_m} (h : lp_X4_readPlain_4 rc n x1 x2 x3 m = some t) (hk : am_Go d 51 (47, [some (.inr (.inr (some (4, 0)))), some (.inl x1), some (.inl t.1), none], [], am_mk t.2) r M' kc ks) : am_Go d 51 (4, [some (.inr (.inr (some (4, 0)))), some (.inl x1), some (.inl x2), some (.inl x3)], [], am_mk m) r M' kc ks := by
  have htb : am_tab 51 = at_51 := rfl
  induction n generalizing x2 x3 m with
  | zero => cases h
  | succ n ih =>
    unfold lp_X4_readPlain_4 at h
    refine am_Go.n htb 2 (S' := (8, [some (.inr (.inr (some (4, 0)))), some (.inl x1), some (.inl x2), some (.inl x3)], [.inl 401, .inl x3], am_mk m)) rfl ?_
    by_cases hc1 : (401 : Int32) ≤ x3
    · rw [if_pos hc1] at h
      refine am_Go.c1 htb (S' := (47, [some (.inr (.inr (some (4, 0)))), some (.inl x1), some (.inl x2), some (.inl x3)], [], am_mk m)) (if_pos hc1) ?_
      cases h
      exact am_Go.fg (by exact ⟨rfl, ⟨rfl, ⟨rfl, trivial⟩⟩⟩) hk
    · rw [if_neg hc1] at h
      refine am_Go.c1 htb (S' := (11, [some (.inr (.inr (some (4, 0)))), some (.inl x1), some (.inl x2), some (.inl x3)], [], am_mk m)) (if_neg hc1) ?_
      refine am_Go.n htb 3 (S' := (18, [some (.inr (.inr (some (4, 0)))), some (.inl x1), some (.inl x2), some (.inl x3)], [.inl 261, .inl (m.1 4 0 6)], am_mk m)) rfl ?_
      by_cases hc2 : (m.1 4 0 6) ≠ (261 : Int32)
      · rw [if_pos hc2] at h
        refine am_Go.c1 htb (S' := (47, [some (.inr (.inr (some (4, 0)))), some (.inl x1), some (.inl x2), some (.inl x3)], [], am_mk m)) (if_pos hc2) ?_
        cases h
        exact am_Go.fg (by exact ⟨rfl, ⟨rfl, ⟨rfl, trivial⟩⟩⟩) hk
      · rw [if_neg hc2] at h
        refine am_Go.c1 htb (S' := (21, [some (.inr (.inr (some (4, 0)))), some (.inl x1), some (.inl x2), some (.inl x3)], [], am_mk m)) (if_neg hc2) ?_
        refine am_Go.n htb 1 (S' := (22, [some (.inr (.inr (some (4, 0)))), some (.inl x1), some (.inl x2), some (.inl x3)], [.inl x2], am_mk m)) rfl ?_
        refine am_Go.cut (S := (30, [some (.inr (.inr (some (4, 0)))), some (.inl x1), some (.inl x2), some (.inl x3)], [.inl (if x2 ≠ 0 then (0 : Int32) else (1 : Int32))], am_mk m)) ?_ (fun key => ?_)
        · refine am_Go.n htb 6 (S' := (38, [some (.inr (.inr (some (4, 0)))), some (.inl x1), some (.inl (if x2 ≠ 0 then (0 : Int32) else (1 : Int32))), some (.inl x3)], [.inl ((m.1 4 0 5) + (1 : Int32)), .inr (.inr (some (4, 0)))], am_mk m)) rfl ?_
          obtain ⟨r4, h5, h⟩ := am_bd h
          refine am_Go.cl htb rfl (ex_X4_goTo d (by omega) ((m.1 4 0 5) + (1 : Int32)) m r4 h5) ?_
          show am_Go d 51 (41, [some (.inr (.inr (some (4, 0)))), some (.inl x1), some (.inl (if x2 ≠ 0 then (0 : Int32) else (1 : Int32))), some (.inl x3)], [], am_mk r4) _ _ _ _
          refine am_Go.n htb 2 (S' := (4, [some (.inr (.inr (some (4, 0)))), some (.inl x1), some (.inl (if x2 ≠ 0 then (0 : Int32) else (1 : Int32))), some (.inl (x3 + 1))], [], am_mk r4)) rfl ?_
          first | exact ih h | exact ih h hk
        · by_cases hc3 : x2 ≠ 0
          · refine am_Go.c1 htb (S' := (29, [some (.inr (.inr (some (4, 0)))), some (.inl x1), some (.inl x2), some (.inl x3)], [], am_mk m)) (if_pos hc3) ?_
            refine am_Go.n htb 1 (S' := (30, [some (.inr (.inr (some (4, 0)))), some (.inl x1), some (.inl x2), some (.inl x3)], [.inl 0], am_mk m)) rfl ?_
            simp only [if_pos hc3] at key
            exact am_Go.fg (by exact ⟨rfl, ⟨rfl, ⟨rfl, ⟨rfl, trivial⟩⟩⟩⟩) key
          · refine am_Go.c1 htb (S' := (25, [some (.inr (.inr (some (4, 0)))), some (.inl x1), some (.inl x2), some (.inl x3)], [], am_mk m)) (if_neg hc3) ?_
            refine am_Go.n htb 2 (S' := (30, [some (.inr (.inr (some (4, 0)))), some (.inl x1), some (.inl x2), some (.inl x3)], [.inl 1], am_mk m)) rfl ?_
            simp only [if_neg hc3] at key
            exact am_Go.fg (by exact ⟨rfl, ⟨rfl, ⟨rfl, ⟨rfl, trivial⟩⟩⟩⟩) key
set_option maxRecDepth 100000 in
theorem ex_X4_readPlain (d : Nat) (hd : 4 ≤ d) (rc : am_rc) (hrc : am_rcok rc (d - 1)) (a1 : Int32) (m : am_m) (t : Int32 × am_m) (h : fn_X4_readPlain rc a1 m = some t) : am_Ex am_cod d 51 [.inr (.inr (some (4, 0))), .inl a1] (am_mk m) (some (.inl t.1)) (am_mk t.2) 0 0 := by
  obtain ⟨d, rfl⟩ : ∃ e, d = e + 1 := ⟨d - 1, by omega⟩
  have htb : am_tab 51 = at_51 := rfl
  refine ⟨Nat.le_of_ble_eq_true rfl, ?_⟩
  unfold fn_X4_readPlain at h
  show am_Go d 51 (0, [some (.inr (.inr (some (4, 0)))), some (.inl a1), none, none], [], am_mk m) _ _ 0 0
  refine am_Go.n htb 4 (S' := (4, [some (.inr (.inr (some (4, 0)))), some (.inl a1), some (.inl 0), some (.inl 0)], [], am_mk m)) rfl ?_
  obtain ⟨q6, h7, h⟩ := am_bd h
  refine lt_X4_readPlain_4 _ hd rc hrc (h := h7) (hk := ?_)
  refine am_Go.n htb 3 (S' := (53, [some (.inr (.inr (some (4, 0)))), some (.inl a1), some (.inl q6.1), none], [.inl 40, .inl (q6.2.1 4 0 6)], am_mk q6.2)) rfl ?_
  by_cases hc8 : (q6.2.1 4 0 6) ≠ (40 : Int32)
  · rw [if_pos hc8] at h
    refine am_Go.c1 htb (S' := (98, [some (.inr (.inr (some (4, 0)))), some (.inl a1), some (.inl q6.1), none], [], am_mk q6.2)) (if_pos hc8) ?_
    refine am_Go.n htb 2 (S' := (100, [some (.inr (.inr (some (4, 0)))), some (.inl a1), some (.inl q6.1), none], [.inl a1, .inr (.inr (some (4, 0)))], am_mk q6.2)) rfl ?_
    obtain ⟨r9, h10, h⟩ := am_bd h
    refine am_Go.cl htb rfl (hrc 3 _ _ _ h10) ?_
    show am_Go d 51 (103, [some (.inr (.inr (some (4, 0)))), some (.inl a1), some (.inl q6.1), none], [.inl r9.1], am_mk r9.2) _ _ _ _
    by_cases hc11 : r9.1 ≠ 0
    · rw [if_pos hc11] at h
      refine am_Go.c1 htb (S' := (108, [some (.inr (.inr (some (4, 0)))), some (.inl a1), some (.inl q6.1), none], [], am_mk r9.2)) (if_pos hc11) ?_
      refine am_Go.n htb 1 (S' := (109, [some (.inr (.inr (some (4, 0)))), some (.inl a1), some (.inl q6.1), none], [.inl q6.1], am_mk r9.2)) rfl ?_
      by_cases hc12 : q6.1 = 0
      · rw [if_pos hc12] at h
        refine am_Go.c1 htb (S' := (123, [some (.inr (.inr (some (4, 0)))), some (.inl a1), some (.inl q6.1), none], [], am_mk r9.2)) (if_pos hc12) ?_
        refine am_Go.n htb 1 (S' := (124, [some (.inr (.inr (some (4, 0)))), some (.inl a1), some (.inl q6.1), none], [.inl 1], am_mk r9.2)) rfl ?_
        cases h
        exact am_Go.rt htb rfl
      · rw [if_neg hc12] at h
        refine am_Go.c1 htb (S' := (112, [some (.inr (.inr (some (4, 0)))), some (.inl a1), some (.inl q6.1), none], [], am_mk r9.2)) (if_neg hc12) ?_
        refine am_Go.n htb 4 (S' := (120, [some (.inr (.inr (some (4, 0)))), some (.inl a1), some (.inl q6.1), none], [.inl 0, .inl 261, .inr (.inr (some (5, 0)))], am_mk r9.2)) rfl ?_
        obtain ⟨r13, h14, h⟩ := am_bd h
        refine am_Go.cl htb rfl (ex_X5_put d (by omega) 0 261 0 r9.2 r13 h14) ?_
        show am_Go d 51 (123, [some (.inr (.inr (some (4, 0)))), some (.inl a1), some (.inl q6.1), none], [], am_mk r13) _ _ _ _
        refine am_Go.n htb 1 (S' := (124, [some (.inr (.inr (some (4, 0)))), some (.inl a1), some (.inl q6.1), none], [.inl 1], am_mk r13)) rfl ?_
        cases h
        exact am_Go.rt htb rfl
    · rw [if_neg hc11] at h
      refine am_Go.c1 htb (S' := (106, [some (.inr (.inr (some (4, 0)))), some (.inl a1), some (.inl q6.1), none], [], am_mk r9.2)) (if_neg hc11) ?_
      refine am_Go.n htb 1 (S' := (107, [some (.inr (.inr (some (4, 0)))), some (.inl a1), some (.inl q6.1), none], [.inl 0], am_mk r9.2)) rfl ?_
      cases h
      exact am_Go.rt htb rfl
  · rw [if_neg hc8] at h
    refine am_Go.c1 htb (S' := (56, [some (.inr (.inr (some (4, 0)))), some (.inl a1), some (.inl q6.1), none], [], am_mk q6.2)) (if_neg hc8) ?_
    refine am_Go.n htb 2 (S' := (59, [some (.inr (.inr (some (4, 0)))), some (.inl a1), some (.inl q6.1), none], [.inl 8, .inl a1], am_mk q6.2)) rfl ?_
    by_cases hc15 : a1 < (8 : Int32)
    · rw [if_pos hc15] at h
      refine am_Go.c1 htb (S' := (67, [some (.inr (.inr (some (4, 0)))), some (.inl a1), some (.inl q6.1), none], [], am_mk q6.2)) (if_pos hc15) ?_
      refine am_Go.n htb 5 (S' := (74, [some (.inr (.inr (some (4, 0)))), some (.inl a1), some (.inl q6.1), none], [.inl ((q6.2.1 4 0 5) + (1 : Int32)), .inr (.inr (some (4, 0)))], am_mk q6.2)) rfl ?_
      obtain ⟨r16, h17, h⟩ := am_bd h
      refine am_Go.cl htb rfl (ex_X4_goTo d (by omega) ((q6.2.1 4 0 5) + (1 : Int32)) q6.2 r16 h17) ?_
      show am_Go d 51 (77, [some (.inr (.inr (some (4, 0)))), some (.inl a1), some (.inl q6.1), none], [], am_mk r16) _ _ _ _
      refine am_Go.n htb 4 (S' := (81, [some (.inr (.inr (some (4, 0)))), some (.inl a1), some (.inl q6.1), none], [.inl (a1 + (1 : Int32)), .inr (.inr (some (4, 0)))], am_mk r16)) rfl ?_
      obtain ⟨r18, h19, h⟩ := am_bd h
      refine am_Go.cl htb rfl (hrc 0 _ _ _ h19) ?_
      show am_Go d 51 (84, [some (.inr (.inr (some (4, 0)))), some (.inl a1), some (.inl q6.1), none], [.inl r18.1], am_mk r18.2) _ _ _ _
      by_cases hc20 : r18.1 = 0
      · rw [if_pos hc20] at h
        refine am_Go.c1 htb (S' := (96, [some (.inr (.inr (some (4, 0)))), some (.inl a1), some (.inl q6.1), none], [], am_mk r18.2)) (if_pos hc20) ?_
        refine am_Go.n htb 1 (S' := (97, [some (.inr (.inr (some (4, 0)))), some (.inl a1), some (.inl q6.1), none], [.inl 0], am_mk r18.2)) rfl ?_
        cases h
        exact am_Go.rt htb rfl
      · rw [if_neg hc20] at h
        refine am_Go.c1 htb (S' := (87, [some (.inr (.inr (some (4, 0)))), some (.inl a1), some (.inl q6.1), none], [], am_mk r18.2)) (if_neg hc20) ?_
        refine am_Go.n htb 2 (S' := (90, [some (.inr (.inr (some (4, 0)))), some (.inl a1), some (.inl q6.1), none], [.inl 41, .inr (.inr (some (4, 0)))], am_mk r18.2)) rfl ?_
        obtain ⟨r21, h22, h⟩ := am_bd h
        refine am_Go.cl htb rfl (ex_X4_took d (by omega) 41 r18.2 r21 h22) ?_
        show am_Go d 51 (93, [some (.inr (.inr (some (4, 0)))), some (.inl a1), some (.inl q6.1), none], [.inl r21.1], am_mk r21.2) _ _ _ _
        by_cases hc23 : r21.1 ≠ 0
        · rw [if_pos hc23] at h
          refine am_Go.c1 htb (S' := (108, [some (.inr (.inr (some (4, 0)))), some (.inl a1), some (.inl q6.1), none], [], am_mk r21.2)) (if_pos hc23) ?_
          refine am_Go.n htb 1 (S' := (109, [some (.inr (.inr (some (4, 0)))), some (.inl a1), some (.inl q6.1), none], [.inl q6.1], am_mk r21.2)) rfl ?_
          by_cases hc24 : q6.1 = 0
          · rw [if_pos hc24] at h
            refine am_Go.c1 htb (S' := (123, [some (.inr (.inr (some (4, 0)))), some (.inl a1), some (.inl q6.1), none], [], am_mk r21.2)) (if_pos hc24) ?_
            refine am_Go.n htb 1 (S' := (124, [some (.inr (.inr (some (4, 0)))), some (.inl a1), some (.inl q6.1), none], [.inl 1], am_mk r21.2)) rfl ?_
            cases h
            exact am_Go.rt htb rfl
          · rw [if_neg hc24] at h
            refine am_Go.c1 htb (S' := (112, [some (.inr (.inr (some (4, 0)))), some (.inl a1), some (.inl q6.1), none], [], am_mk r21.2)) (if_neg hc24) ?_
            refine am_Go.n htb 4 (S' := (120, [some (.inr (.inr (some (4, 0)))), some (.inl a1), some (.inl q6.1), none], [.inl 0, .inl 261, .inr (.inr (some (5, 0)))], am_mk r21.2)) rfl ?_
            obtain ⟨r25, h26, h⟩ := am_bd h
            refine am_Go.cl htb rfl (ex_X5_put d (by omega) 0 261 0 r21.2 r25 h26) ?_
            show am_Go d 51 (123, [some (.inr (.inr (some (4, 0)))), some (.inl a1), some (.inl q6.1), none], [], am_mk r25) _ _ _ _
            refine am_Go.n htb 1 (S' := (124, [some (.inr (.inr (some (4, 0)))), some (.inl a1), some (.inl q6.1), none], [.inl 1], am_mk r25)) rfl ?_
            cases h
            exact am_Go.rt htb rfl
        · rw [if_neg hc23] at h
          refine am_Go.c1 htb (S' := (96, [some (.inr (.inr (some (4, 0)))), some (.inl a1), some (.inl q6.1), none], [], am_mk r21.2)) (if_neg hc23) ?_
          refine am_Go.n htb 1 (S' := (97, [some (.inr (.inr (some (4, 0)))), some (.inl a1), some (.inl q6.1), none], [.inl 0], am_mk r21.2)) rfl ?_
          cases h
          exact am_Go.rt htb rfl
    · rw [if_neg hc15] at h
      refine am_Go.c1 htb (S' := (62, [some (.inr (.inr (some (4, 0)))), some (.inl a1), some (.inl q6.1), none], [], am_mk q6.2)) (if_neg hc15) ?_
      refine am_Go.n htb 1 (S' := (63, [some (.inr (.inr (some (4, 0)))), some (.inl a1), some (.inl q6.1), none], [.inr (.inr (some (4, 0)))], am_mk q6.2)) rfl ?_
      obtain ⟨r27, h28, h⟩ := am_bd h
      refine am_Go.cl htb rfl (ex_X4_failed d (by omega)  q6.2 r27 h28) ?_
      show am_Go d 51 (66, [some (.inr (.inr (some (4, 0)))), some (.inl a1), some (.inl q6.1), none], [.inl r27.1], am_mk r27.2) _ _ _ _
      obtain ⟨hz29, h⟩ := am_gd_some h
      cases h
      exact am_Go.rt htb (if_pos hz29)
-- X5_skipToHere
set_option maxRecDepth 100000 in
theorem ex_X5_skipToHere (d : Nat) (hd : 1 ≤ d) (a0 : Nat) (a1 : Int32) (a2 : Int32) (m : am_m) (t : am_m) (h : fn_X5_skipToHere a0 a1 a2 m = some t) : am_Ex am_cod d 64 [.inr (.inr (some (5, a0))), .inl a1, .inl a2] (am_mk m) (none) (am_mk t) 0 0 := by
  obtain ⟨d, rfl⟩ : ∃ e, d = e + 1 := ⟨d - 1, by omega⟩
  have htb : am_tab 64 = at_64 := rfl
  refine ⟨Nat.le_of_ble_eq_true rfl, ?_⟩
  unfold fn_X5_skipToHere at h
  show am_Go d 64 (0, [some (.inr (.inr (some (5, a0)))), some (.inl a1), some (.inl a2)], [], am_mk m) _ _ 0 0
  refine am_Go.n htb 1 (S' := (1, [some (.inr (.inr (some (5, a0)))), some (.inl a1), some (.inl a2)], [.inl a1], am_mk m)) rfl ?_
  by_cases hc1 : a1 < 0
  · rw [if_pos hc1] at h
    refine am_Go.c1 htb (S' := (27, [some (.inr (.inr (some (5, a0)))), some (.inl a1), some (.inl a2)], [], am_mk m)) (if_pos hc1) ?_
    cases h
    exact am_Go.rt htb rfl
  · rw [if_neg hc1] at h
    refine am_Go.c1 htb (S' := (4, [some (.inr (.inr (some (5, a0)))), some (.inl a1), some (.inl a2)], [], am_mk m)) (if_neg hc1) ?_
    refine am_Go.n htb 3 (S' := (9, [some (.inr (.inr (some (5, a0)))), some (.inl a1), some (.inl a2)], [.inl (m.1 5 a0 3), .inl a1], am_mk m)) rfl ?_
    by_cases hc2 : (m.1 5 a0 3) ≤ a1
    · rw [if_pos hc2] at h
      refine am_Go.c1 htb (S' := (27, [some (.inr (.inr (some (5, a0)))), some (.inl a1), some (.inl a2)], [], am_mk m)) (if_pos hc2) ?_
      cases h
      exact am_Go.rt htb rfl
    · rw [if_neg hc2] at h
      refine am_Go.c1 htb (S' := (12, [some (.inr (.inr (some (5, a0)))), some (.inl a1), some (.inl a2)], [], am_mk m)) (if_neg hc2) ?_
      refine am_Go.n htb 9 (S' := (26, [some (.inr (.inr (some (5, a0)))), some (.inl a1), some (.inl a2)], [.inl (((m.1 5 a0 3) <<< ((9 : Int32) &&& 31)) ||| a2), .inl a1, .inr (.inr (some (29, a0)))], am_mk m)) rfl ?_
      obtain ⟨hg3, h⟩ := am_ck_some h
      refine am_Go.c1 htb (S' := (27, [some (.inr (.inr (some (5, a0)))), some (.inl a1), some (.inl a2)], [], am_mk (am_si m 29 a0 a1.toNatClampNeg (((m.1 5 a0 3) <<< ((9 : Int32) &&& 31)) ||| a2)))) (if_neg hg3) ?_
      cases h
      exact am_Go.rt htb rfl
-- X4_readBoth
set_option maxRecDepth 100000 in
theorem lt_X4_readBoth_12 (d : Nat) (hd : 4 ≤ d + 1) (rc : am_rc) (hrc : am_rcok rc d) {r : Option am_V} {M' : am_M} {kc ks : Nat} {n : Nat} {x1 : Int32} {x2 : Int32} {m : am_m} {t : Sum (am_m) (Int32 × am_m)} (h : lp_X4_readBoth_12 rc n x1 x2 m = some t) (hk : ∀ t', t = .inl t' → am_Go d 50 (85, [some (.inr (.inr (some (4, 0)))), some (.inl x1), none, none], [], am_mk t') r M' kc ks) (hr : ∀ t', t = .inr t' → r = some (.inl t'.1) ∧ M' = am_mk t'.2 ∧ kc = 0 ∧ ks = 0) : am_Go d 50 (12, [some (.inr (.inr (some (4, 0)))), some (.inl x1), some (.inl x2), none], [], am_mk m) r M' kc ks := by
  have htb : am_tab 50 = at_50 := rfl
  induction n generalizing x2 m with
  | zero => cases h
  | succ n ih =>
    unfold lp_X4_readBoth_12 at h
    refine am_Go.n htb 2 (S' := (16, [some (.inr (.inr (some (4, 0)))), some (.inl x1), some (.inl x2), none], [.inl 401, .inl x2], am_mk m)) rfl ?_
    by_cases hc4 : (401 : Int32) ≤ x2
    · rw [if_pos hc4] at h
      refine am_Go.c1 htb (S' := (85, [some (.inr (.inr (some (4, 0)))), some (.inl x1), some (.inl x2), none], [], am_mk m)) (if_pos hc4) ?_
      cases h
      exact am_Go.fg (by exact ⟨rfl, ⟨rfl, trivial⟩⟩) (hk _ rfl)
    · rw [if_neg hc4] at h
      refine am_Go.c1 htb (S' := (19, [some (.inr (.inr (some (4, 0)))), some (.inl x1), some (.inl x2), none], [], am_mk m)) (if_neg hc4) ?_
      refine am_Go.n htb 3 (S' := (26, [some (.inr (.inr (some (4, 0)))), some (.inl x1), some (.inl x2), none], [.inl 260, .inl (m.1 4 0 6)], am_mk m)) rfl ?_
      by_cases hc5 : (m.1 4 0 6) ≠ (260 : Int32)
      · rw [if_pos hc5] at h
        refine am_Go.c1 htb (S' := (85, [some (.inr (.inr (some (4, 0)))), some (.inl x1), some (.inl x2), none], [], am_mk m)) (if_pos hc5) ?_
        cases h
        exact am_Go.fg (by exact ⟨rfl, ⟨rfl, trivial⟩⟩) (hk _ rfl)
      · rw [if_neg hc5] at h
        refine am_Go.c1 htb (S' := (29, [some (.inr (.inr (some (4, 0)))), some (.inl x1), some (.inl x2), none], [], am_mk m)) (if_neg hc5) ?_
        refine am_Go.n htb 8 (S' := (45, [some (.inr (.inr (some (4, 0)))), some (.inl x1), some (.inl x2), some (.inl (m.1 5 0 3))], [.inl 0, .inl 260, .inr (.inr (some (5, 0)))], am_mk m)) rfl ?_
        obtain ⟨r6, h7, h⟩ := am_bd h
        refine am_Go.cl htb rfl (ex_X5_put d (by omega) 0 260 0 m r6 h7) ?_
        show am_Go d 50 (48, [some (.inr (.inr (some (4, 0)))), some (.inl x1), some (.inl x2), some (.inl (m.1 5 0 3))], [], am_mk r6) _ _ _ _
        refine am_Go.n htb 5 (S' := (55, [some (.inr (.inr (some (4, 0)))), some (.inl x1), some (.inl x2), some (.inl (m.1 5 0 3))], [.inl ((r6.1 4 0 5) + (1 : Int32)), .inr (.inr (some (4, 0)))], am_mk r6)) rfl ?_
        obtain ⟨r8, h9, h⟩ := am_bd h
        refine am_Go.cl htb rfl (ex_X4_goTo d (by omega) ((r6.1 4 0 5) + (1 : Int32)) r6 r8 h9) ?_
        show am_Go d 50 (58, [some (.inr (.inr (some (4, 0)))), some (.inl x1), some (.inl x2), some (.inl (m.1 5 0 3))], [], am_mk r8) _ _ _ _
        refine am_Go.n htb 2 (S' := (60, [some (.inr (.inr (some (4, 0)))), some (.inl x1), some (.inl x2), some (.inl (m.1 5 0 3))], [.inl x1, .inr (.inr (some (4, 0)))], am_mk r8)) rfl ?_
        obtain ⟨r10, h11, h⟩ := am_bd h
        refine am_Go.cl htb rfl (hrc 2 _ _ _ h11) ?_
        show am_Go d 50 (63, [some (.inr (.inr (some (4, 0)))), some (.inl x1), some (.inl x2), some (.inl (m.1 5 0 3))], [.inl r10.1], am_mk r10.2) _ _ _ _
        by_cases hc12 : r10.1 ≠ 0
        · rw [if_pos hc12] at h
          refine am_Go.c1 htb (S' := (68, [some (.inr (.inr (some (4, 0)))), some (.inl x1), some (.inl x2), some (.inl (m.1 5 0 3))], [], am_mk r10.2)) (if_pos hc12) ?_
          refine am_Go.n htb 4 (S' := (76, [some (.inr (.inr (some (4, 0)))), some (.inl x1), some (.inl x2), some (.inl (m.1 5 0 3))], [.inl 260, .inl (m.1 5 0 3), .inr (.inr (some (5, 0)))], am_mk r10.2)) rfl ?_
          obtain ⟨r13, h14, h⟩ := am_bd h
          refine am_Go.cl htb rfl (ex_X5_skipToHere d (by omega) 0 (m.1 5 0 3) 260 r10.2 r13 h14) ?_
          show am_Go d 50 (79, [some (.inr (.inr (some (4, 0)))), some (.inl x1), some (.inl x2), some (.inl (m.1 5 0 3))], [], am_mk r13) _ _ _ _
          refine am_Go.n htb 2 (S' := (12, [some (.inr (.inr (some (4, 0)))), some (.inl x1), some (.inl (x2 + 1)), some (.inl (m.1 5 0 3))], [], am_mk r13)) rfl ?_
          refine am_Go.fg (L0 := [some (.inr (.inr (some (4, 0)))), some (.inl x1), some (.inl (x2 + 1)), none]) (by exact ⟨rfl, ⟨rfl, ⟨rfl, trivial⟩⟩⟩) ?_
          first | exact ih h | exact ih h hk | exact ih h hr | exact ih h hk hr
        · rw [if_neg hc12] at h
          refine am_Go.c1 htb (S' := (66, [some (.inr (.inr (some (4, 0)))), some (.inl x1), some (.inl x2), some (.inl (m.1 5 0 3))], [], am_mk r10.2)) (if_neg hc12) ?_
          refine am_Go.n htb 1 (S' := (67, [some (.inr (.inr (some (4, 0)))), some (.inl x1), some (.inl x2), some (.inl (m.1 5 0 3))], [.inl 0], am_mk r10.2)) rfl ?_
          cases h
          obtain ⟨rfl, rfl, rfl, rfl⟩ := hr _ rfl
          exact am_Go.rt htb rfl
set_option maxRecDepth 100000 in
theorem ex_X4_readBoth (d : Nat) (hd : 4 ≤ d) (rc : am_rc) (hrc : am_rcok rc (d - 1)) (a1 : Int32) (m : am_m) (t : Int32 × am_m) (h : fn_X4_readBoth rc a1 m = some t) : am_Ex am_cod d 50 [.inr (.inr (some (4, 0))), .inl a1] (am_mk m) (some (.inl t.1)) (am_mk t.2) 0 0 := by
  obtain ⟨d, rfl⟩ : ∃ e, d = e + 1 := ⟨d - 1, by omega⟩
  have htb : am_tab 50 = at_50 := rfl
  refine ⟨Nat.le_of_ble_eq_true rfl, ?_⟩
  unfold fn_X4_readBoth at h
  show am_Go d 50 (0, [some (.inr (.inr (some (4, 0)))), some (.inl a1), none, none], [], am_mk m) _ _ 0 0
  refine am_Go.n htb 2 (S' := (2, [some (.inr (.inr (some (4, 0)))), some (.inl a1), none, none], [.inl a1, .inr (.inr (some (4, 0)))], am_mk m)) rfl ?_
  obtain ⟨r1, h2, h⟩ := am_bd h
  refine am_Go.cl htb rfl (hrc 2 _ _ _ h2) ?_
  show am_Go d 50 (5, [some (.inr (.inr (some (4, 0)))), some (.inl a1), none, none], [.inl r1.1], am_mk r1.2) _ _ _ _
  by_cases hc3 : r1.1 ≠ 0
  · rw [if_pos hc3] at h
    refine am_Go.c1 htb (S' := (10, [some (.inr (.inr (some (4, 0)))), some (.inl a1), none, none], [], am_mk r1.2)) (if_pos hc3) ?_
    refine am_Go.n htb 2 (S' := (12, [some (.inr (.inr (some (4, 0)))), some (.inl a1), some (.inl 0), none], [], am_mk r1.2)) rfl ?_
    obtain ⟨w18, h16, h⟩ := am_bd h
    refine lt_X4_readBoth_12 _ hd rc hrc (h := h16) (hk := ?_) (hr := ?_)
    · intro q15 he
      subst he
      dsimp only at h
      refine am_Go.n htb 1 (S' := (86, [some (.inr (.inr (some (4, 0)))), some (.inl a1), none, none], [.inl 1], am_mk q15)) rfl ?_
      cases h
      exact am_Go.rt htb rfl
    · intro rr17 he
      subst he
      cases h
      exact ⟨rfl, rfl, rfl, rfl⟩
  · rw [if_neg hc3] at h
    refine am_Go.c1 htb (S' := (8, [some (.inr (.inr (some (4, 0)))), some (.inl a1), none, none], [], am_mk r1.2)) (if_neg hc3) ?_
    refine am_Go.n htb 1 (S' := (9, [some (.inr (.inr (some (4, 0)))), some (.inl a1), none, none], [.inl 0], am_mk r1.2)) rfl ?_
    cases h
    exact am_Go.rt htb rfl
