-- X5_headOf
set_option maxRecDepth 100000 in
theorem ex_X5_headOf (d : Nat) (hd : 1 ≤ d) (a0 : Nat) (a1 : Int32) (a2 : Int32) (m : am_m) (t : Int32) (h : fn_X5_headOf a0 a1 a2 m = some t) : am_Ex am_cod d 65 [.inr (.inr (some (5, a0))), .inl a1, .inl a2] (am_mk m) (some (.inl t)) (am_mk m) 0 0 := by
  obtain ⟨d, rfl⟩ : ∃ e, d = e + 1 := ⟨d - 1, by omega⟩
  have htb : am_tab 65 = at_65 := rfl
  refine ⟨Nat.le_of_ble_eq_true rfl, ?_⟩
  unfold fn_X5_headOf at h
  show am_Go d 65 (0, [some (.inr (.inr (some (5, a0)))), some (.inl a1), some (.inl a2), none, none], [], am_mk m) _ _ 0 0
  refine am_Go.n htb 7 (S' := (8, [some (.inr (.inr (some (5, a0)))), some (.inl a1), some (.inl a2), some (.inl ((a1 * (6 : Int32)) + a2)), none], [.inl a1], am_mk m)) rfl ?_
  obtain ⟨q6, h9, h⟩ := am_bd h
  refine am_Go.cut (S := (43, [some (.inr (.inr (some (5, a0)))), some (.inl a1), some (.inl a2), some (.inl ((a1 * (6 : Int32)) + a2)), none], [.inl q6], am_mk m)) ?_ (fun key => ?_)
  · refine am_Go.n htb 2 (S' := (47, [some (.inr (.inr (some (5, a0)))), some (.inl a1), some (.inl a2), some (.inl ((a1 * (6 : Int32)) + a2)), some (.inl q6)], [.inl q6], am_mk m)) rfl ?_
    by_cases hc7 : q6 = 0
    · rw [if_pos hc7] at h
      refine am_Go.c1 htb (S' := (59, [some (.inr (.inr (some (5, a0)))), some (.inl a1), some (.inl a2), some (.inl ((a1 * (6 : Int32)) + a2)), some (.inl q6)], [], am_mk m)) (if_pos hc7) ?_
      refine am_Go.n htb 1 (S' := (60, [some (.inr (.inr (some (5, a0)))), some (.inl a1), some (.inl a2), some (.inl ((a1 * (6 : Int32)) + a2)), some (.inl q6)], [.inl (-1)], am_mk m)) rfl ?_
      cases h
      exact am_Go.rt htb rfl
    · rw [if_neg hc7] at h
      refine am_Go.c1 htb (S' := (50, [some (.inr (.inr (some (5, a0)))), some (.inl a1), some (.inl a2), some (.inl ((a1 * (6 : Int32)) + a2)), some (.inl q6)], [], am_mk m)) (if_neg hc7) ?_
      refine am_Go.n htb 3 (S' := (55, [some (.inr (.inr (some (5, a0)))), some (.inl a1), some (.inl a2), some (.inl ((a1 * (6 : Int32)) + a2)), some (.inl q6)], [.inl ((a1 * (6 : Int32)) + a2), .inr (.inr (some (28, a0)))], am_mk m)) rfl ?_
      obtain ⟨hg8, h⟩ := am_ck_some h
      refine am_Go.c1 htb (S' := (56, [some (.inr (.inr (some (5, a0)))), some (.inl a1), some (.inl a2), some (.inl ((a1 * (6 : Int32)) + a2)), some (.inl q6)], [.inl (m.1 28 a0 ((a1 * (6 : Int32)) + a2).toNatClampNeg)], am_mk m)) (if_neg hg8) ?_
      refine am_Go.n htb 1 (S' := (60, [some (.inr (.inr (some (5, a0)))), some (.inl a1), some (.inl a2), some (.inl ((a1 * (6 : Int32)) + a2)), some (.inl q6)], [.inl (m.1 28 a0 ((a1 * (6 : Int32)) + a2).toNatClampNeg)], am_mk m)) rfl ?_
      cases h
      exact am_Go.rt htb rfl
  · have h := h9
    by_cases hc1 : a1 < 0
    · rw [if_pos hc1] at h
      refine am_Go.c1 htb (S' := (42, [some (.inr (.inr (some (5, a0)))), some (.inl a1), some (.inl a2), some (.inl ((a1 * (6 : Int32)) + a2)), none], [], am_mk m)) (if_pos hc1) ?_
      refine am_Go.n htb 1 (S' := (43, [some (.inr (.inr (some (5, a0)))), some (.inl a1), some (.inl a2), some (.inl ((a1 * (6 : Int32)) + a2)), none], [.inl 0], am_mk m)) rfl ?_
      cases h
      exact am_Go.fg (by exact ⟨rfl, ⟨rfl, ⟨rfl, ⟨rfl, trivial⟩⟩⟩⟩) key
    · rw [if_neg hc1] at h
      refine am_Go.c1 htb (S' := (11, [some (.inr (.inr (some (5, a0)))), some (.inl a1), some (.inl a2), some (.inl ((a1 * (6 : Int32)) + a2)), none], [], am_mk m)) (if_neg hc1) ?_
      refine am_Go.n htb 3 (S' := (16, [some (.inr (.inr (some (5, a0)))), some (.inl a1), some (.inl a2), some (.inl ((a1 * (6 : Int32)) + a2)), none], [.inl (m.1 5 a0 2), .inl a1], am_mk m)) rfl ?_
      by_cases hc2 : (m.1 5 a0 2) ≤ a1
      · rw [if_pos hc2] at h
        refine am_Go.c1 htb (S' := (42, [some (.inr (.inr (some (5, a0)))), some (.inl a1), some (.inl a2), some (.inl ((a1 * (6 : Int32)) + a2)), none], [], am_mk m)) (if_pos hc2) ?_
        refine am_Go.n htb 1 (S' := (43, [some (.inr (.inr (some (5, a0)))), some (.inl a1), some (.inl a2), some (.inl ((a1 * (6 : Int32)) + a2)), none], [.inl 0], am_mk m)) rfl ?_
        cases h
        exact am_Go.fg (by exact ⟨rfl, ⟨rfl, ⟨rfl, ⟨rfl, trivial⟩⟩⟩⟩) key
      · rw [if_neg hc2] at h
        refine am_Go.c1 htb (S' := (19, [some (.inr (.inr (some (5, a0)))), some (.inl a1), some (.inl a2), some (.inl ((a1 * (6 : Int32)) + a2)), none], [], am_mk m)) (if_neg hc2) ?_
        refine am_Go.n htb 1 (S' := (20, [some (.inr (.inr (some (5, a0)))), some (.inl a1), some (.inl a2), some (.inl ((a1 * (6 : Int32)) + a2)), none], [.inl a2], am_mk m)) rfl ?_
        by_cases hc3 : a2 < 0
        · rw [if_pos hc3] at h
          refine am_Go.c1 htb (S' := (42, [some (.inr (.inr (some (5, a0)))), some (.inl a1), some (.inl a2), some (.inl ((a1 * (6 : Int32)) + a2)), none], [], am_mk m)) (if_pos hc3) ?_
          refine am_Go.n htb 1 (S' := (43, [some (.inr (.inr (some (5, a0)))), some (.inl a1), some (.inl a2), some (.inl ((a1 * (6 : Int32)) + a2)), none], [.inl 0], am_mk m)) rfl ?_
          cases h
          exact am_Go.fg (by exact ⟨rfl, ⟨rfl, ⟨rfl, ⟨rfl, trivial⟩⟩⟩⟩) key
        · rw [if_neg hc3] at h
          refine am_Go.c1 htb (S' := (23, [some (.inr (.inr (some (5, a0)))), some (.inl a1), some (.inl a2), some (.inl ((a1 * (6 : Int32)) + a2)), none], [], am_mk m)) (if_neg hc3) ?_
          refine am_Go.n htb 2 (S' := (26, [some (.inr (.inr (some (5, a0)))), some (.inl a1), some (.inl a2), some (.inl ((a1 * (6 : Int32)) + a2)), none], [.inl 6, .inl a2], am_mk m)) rfl ?_
          by_cases hc4 : (6 : Int32) ≤ a2
          · rw [if_pos hc4] at h
            refine am_Go.c1 htb (S' := (42, [some (.inr (.inr (some (5, a0)))), some (.inl a1), some (.inl a2), some (.inl ((a1 * (6 : Int32)) + a2)), none], [], am_mk m)) (if_pos hc4) ?_
            refine am_Go.n htb 1 (S' := (43, [some (.inr (.inr (some (5, a0)))), some (.inl a1), some (.inl a2), some (.inl ((a1 * (6 : Int32)) + a2)), none], [.inl 0], am_mk m)) rfl ?_
            cases h
            exact am_Go.fg (by exact ⟨rfl, ⟨rfl, ⟨rfl, ⟨rfl, trivial⟩⟩⟩⟩) key
          · rw [if_neg hc4] at h
            refine am_Go.c1 htb (S' := (29, [some (.inr (.inr (some (5, a0)))), some (.inl a1), some (.inl a2), some (.inl ((a1 * (6 : Int32)) + a2)), none], [], am_mk m)) (if_neg hc4) ?_
            refine am_Go.n htb 4 (S' := (35, [some (.inr (.inr (some (5, a0)))), some (.inl a1), some (.inl a2), some (.inl ((a1 * (6 : Int32)) + a2)), none], [.inl (Int32.ofNat (m.2.2.2.2.2.2.1 28 a0)), .inl ((a1 * (6 : Int32)) + a2)], am_mk m)) rfl ?_
            by_cases hc5 : (Int32.ofNat (m.2.2.2.2.2.2.1 28 a0)) ≤ ((a1 * (6 : Int32)) + a2)
            · rw [if_pos hc5] at h
              refine am_Go.c1 htb (S' := (42, [some (.inr (.inr (some (5, a0)))), some (.inl a1), some (.inl a2), some (.inl ((a1 * (6 : Int32)) + a2)), none], [], am_mk m)) (if_pos hc5) ?_
              refine am_Go.n htb 1 (S' := (43, [some (.inr (.inr (some (5, a0)))), some (.inl a1), some (.inl a2), some (.inl ((a1 * (6 : Int32)) + a2)), none], [.inl 0], am_mk m)) rfl ?_
              cases h
              exact am_Go.fg (by exact ⟨rfl, ⟨rfl, ⟨rfl, ⟨rfl, trivial⟩⟩⟩⟩) key
            · rw [if_neg hc5] at h
              refine am_Go.c1 htb (S' := (38, [some (.inr (.inr (some (5, a0)))), some (.inl a1), some (.inl a2), some (.inl ((a1 * (6 : Int32)) + a2)), none], [], am_mk m)) (if_neg hc5) ?_
              refine am_Go.n htb 2 (S' := (43, [some (.inr (.inr (some (5, a0)))), some (.inl a1), some (.inl a2), some (.inl ((a1 * (6 : Int32)) + a2)), none], [.inl 1], am_mk m)) rfl ?_
              cases h
              exact am_Go.fg (by exact ⟨rfl, ⟨rfl, ⟨rfl, ⟨rfl, trivial⟩⟩⟩⟩) key
-- X1_tellsLaw
set_option maxRecDepth 100000 in
theorem lt_X1_tellsLaw_19 (d : Nat) (hd : 3 ≤ d + 1) {r : Option am_V} {M' : am_M} {kc ks : Nat} {n : Nat} {x1 : Int32} {x2 : Int32} {x3 : Int32} {m : am_m} {t : Sum (am_m) (Int32 × am_m)} (h : lp_X1_tellsLaw_19 n x1 x2 x3 m = some t) (hk : ∀ t', t = .inl t' → am_Go d 17 (109, [some (.inr (.inr (some (1, 0)))), some (.inl x1), some (.inl x2), none, none], [], am_mk t') r M' kc ks) (hr : ∀ t', t = .inr t' → r = some (.inl t'.1) ∧ M' = am_mk t'.2 ∧ kc = 0 ∧ ks = 0) : am_Go d 17 (19, [some (.inr (.inr (some (1, 0)))), some (.inl x1), some (.inl x2), some (.inl x3), none], [], am_mk m) r M' kc ks := by
  have htb : am_tab 17 = at_17 := rfl
  induction n generalizing x3 m with
  | zero => cases h
  | succ n ih =>
    unfold lp_X1_tellsLaw_19 at h
    refine am_Go.n htb 1 (S' := (20, [some (.inr (.inr (some (1, 0)))), some (.inl x1), some (.inl x2), some (.inl x3), none], [.inl x3], am_mk m)) rfl ?_
    by_cases hc5 : x3 < 0
    · rw [if_pos hc5] at h
      refine am_Go.c1 htb (S' := (109, [some (.inr (.inr (some (1, 0)))), some (.inl x1), some (.inl x2), some (.inl x3), none], [], am_mk m)) (if_pos hc5) ?_
      cases h
      exact am_Go.fg (by exact ⟨rfl, ⟨rfl, ⟨rfl, trivial⟩⟩⟩) (hk _ rfl)
    · rw [if_neg hc5] at h
      refine am_Go.c1 htb (S' := (23, [some (.inr (.inr (some (1, 0)))), some (.inl x1), some (.inl x2), some (.inl x3), none], [], am_mk m)) (if_neg hc5) ?_
      refine am_Go.n htb 1 (S' := (24, [some (.inr (.inr (some (1, 0)))), some (.inl x1), some (.inl x2), some (.inl x3), none], [.inr (.inr (some (1, 0)))], am_mk m)) rfl ?_
      obtain ⟨u6, hu7, h⟩ := am_bd h
      refine am_Go.o htb (am_o_gf 1 1 8) rfl (S' := (27, [some (.inr (.inr (some (1, 0)))), some (.inl x1), some (.inl x2), some (.inl x3), none], [.inr (.inr (some (5, u6)))], am_mk m)) (am_gfd hu7) ?_
      refine am_Go.n htb 2 (S' := (29, [some (.inr (.inr (some (1, 0)))), some (.inl x1), some (.inl x2), some (.inl x3), none], [.inl 0, .inl x3, .inr (.inr (some (5, u6)))], am_mk m)) rfl ?_
      obtain ⟨r8, h9, h⟩ := am_bd h
      refine am_Go.cl htb rfl (ex_X5_headOf d (by omega) u6 x3 0 m r8 h9) ?_
      show am_Go d 17 (32, [some (.inr (.inr (some (1, 0)))), some (.inl x1), some (.inl x2), some (.inl x3), none], [.inl r8], am_mk m) _ _ _ _
      refine am_Go.n htb 1 (S' := (33, [some (.inr (.inr (some (1, 0)))), some (.inl x1), some (.inl x2), some (.inl x3), none], [.inl x1, .inl r8], am_mk m)) rfl ?_
      by_cases hc10 : r8 ≠ x1
      · rw [if_pos hc10] at h
        refine am_Go.c1 htb (S' := (103, [some (.inr (.inr (some (1, 0)))), some (.inl x1), some (.inl x2), some (.inl x3), none], [], am_mk m)) (if_pos hc10) ?_
        refine am_Go.o htb (am_o_inc 3 (-1)) rfl (S' := (106, [some (.inr (.inr (some (1, 0)))), some (.inl x1), some (.inl x2), some (.inl (x3 - 1)), none], [], am_mk m)) (am_incn rfl rfl) ?_
        refine am_Go.n htb 1 (S' := (19, [some (.inr (.inr (some (1, 0)))), some (.inl x1), some (.inl x2), some (.inl (x3 - 1)), none], [], am_mk m)) rfl ?_
        first | exact ih h | exact ih h hk | exact ih h hr | exact ih h hk hr
      · rw [if_neg hc10] at h
        refine am_Go.c1 htb (S' := (36, [some (.inr (.inr (some (1, 0)))), some (.inl x1), some (.inl x2), some (.inl x3), none], [], am_mk m)) (if_neg hc10) ?_
        refine am_Go.n htb 2 (S' := (38, [some (.inr (.inr (some (1, 0)))), some (.inl x1), some (.inl x2), some (.inl x3), none], [.inr (.inr (some (1, 0))), .inr (.inr (some (1, 0)))], am_mk m)) rfl ?_
        obtain ⟨u11, hu12, h⟩ := am_bd h
        refine am_Go.o htb (am_o_gf 1 1 8) rfl (S' := (41, [some (.inr (.inr (some (1, 0)))), some (.inl x1), some (.inl x2), some (.inl x3), none], [.inr (.inr (some (5, u11))), .inr (.inr (some (1, 0)))], am_mk m)) (am_gfd hu12) ?_
        refine am_Go.n htb 1 (S' := (42, [some (.inr (.inr (some (1, 0)))), some (.inl x1), some (.inl x2), some (.inl x3), none], [.inr (.inr (some (1, 0))), .inr (.inr (some (5, u11))), .inr (.inr (some (1, 0)))], am_mk m)) rfl ?_
        obtain ⟨u13, hu14, h⟩ := am_bd h
        refine am_Go.o htb (am_o_gf 1 1 8) rfl (S' := (45, [some (.inr (.inr (some (1, 0)))), some (.inl x1), some (.inl x2), some (.inl x3), none], [.inr (.inr (some (5, u13))), .inr (.inr (some (5, u11))), .inr (.inr (some (1, 0)))], am_mk m)) (am_gfd hu14) ?_
        refine am_Go.n htb 2 (S' := (47, [some (.inr (.inr (some (1, 0)))), some (.inl x1), some (.inl x2), some (.inl x3), none], [.inl 2, .inl x3, .inr (.inr (some (5, u13))), .inr (.inr (some (5, u11))), .inr (.inr (some (1, 0)))], am_mk m)) rfl ?_
        obtain ⟨r15, h16, h⟩ := am_bd h
        refine am_Go.cl htb rfl (ex_X5_headOf d (by omega) u13 x3 2 m r15 h16) ?_
        show am_Go d 17 (50, [some (.inr (.inr (some (1, 0)))), some (.inl x1), some (.inl x2), some (.inl x3), none], [.inl r15, .inr (.inr (some (5, u11))), .inr (.inr (some (1, 0)))], am_mk m) _ _ _ _
        refine am_Go.n htb 2 (S' := (54, [some (.inr (.inr (some (1, 0)))), some (.inl x1), some (.inl x2), some (.inl x3), none], [.inr (.inr (some (20, 0))), .inl r15, .inr (.inr (some (5, u11))), .inr (.inr (some (1, 0)))], am_mk m)) rfl ?_
        obtain ⟨r17, h18, h⟩ := am_bd h
        refine am_Go.cl htb rfl (ex_X1_tell_l d (by omega) u11 r15 m r17 h18) ?_
        show am_Go d 17 (57, [some (.inr (.inr (some (1, 0)))), some (.inl x1), some (.inl x2), some (.inl x3), none], [.inl r17.1], am_mk r17.2) _ _ _ _
        refine am_Go.n htb 1 (S' := (58, [some (.inr (.inr (some (1, 0)))), some (.inl x1), some (.inl x2), some (.inl x3), none], [.inl 1, .inl r17.1], am_mk r17.2)) rfl ?_
        by_cases hc19 : r17.1 ≠ (1 : Int32)
        · rw [if_pos hc19] at h
          refine am_Go.c1 htb (S' := (103, [some (.inr (.inr (some (1, 0)))), some (.inl x1), some (.inl x2), some (.inl x3), none], [], am_mk r17.2)) (if_pos hc19) ?_
          refine am_Go.o htb (am_o_inc 3 (-1)) rfl (S' := (106, [some (.inr (.inr (some (1, 0)))), some (.inl x1), some (.inl x2), some (.inl (x3 - 1)), none], [], am_mk r17.2)) (am_incn rfl rfl) ?_
          refine am_Go.n htb 1 (S' := (19, [some (.inr (.inr (some (1, 0)))), some (.inl x1), some (.inl x2), some (.inl (x3 - 1)), none], [], am_mk r17.2)) rfl ?_
          first | exact ih h | exact ih h hk | exact ih h hr | exact ih h hk hr
        · rw [if_neg hc19] at h
          refine am_Go.c1 htb (S' := (61, [some (.inr (.inr (some (1, 0)))), some (.inl x1), some (.inl x2), some (.inl x3), none], [], am_mk r17.2)) (if_neg hc19) ?_
          refine am_Go.n htb 2 (S' := (63, [some (.inr (.inr (some (1, 0)))), some (.inl x1), some (.inl x2), some (.inl x3), none], [.inr (.inr (some (1, 0))), .inr (.inr (some (1, 0)))], am_mk r17.2)) rfl ?_
          obtain ⟨u20, hu21, h⟩ := am_bd h
          refine am_Go.o htb (am_o_gf 1 1 8) rfl (S' := (66, [some (.inr (.inr (some (1, 0)))), some (.inl x1), some (.inl x2), some (.inl x3), none], [.inr (.inr (some (5, u20))), .inr (.inr (some (1, 0)))], am_mk r17.2)) (am_gfd hu21) ?_
          refine am_Go.n htb 1 (S' := (67, [some (.inr (.inr (some (1, 0)))), some (.inl x1), some (.inl x2), some (.inl x3), none], [.inr (.inr (some (1, 0))), .inr (.inr (some (5, u20))), .inr (.inr (some (1, 0)))], am_mk r17.2)) rfl ?_
          obtain ⟨u22, hu23, h⟩ := am_bd h
          refine am_Go.o htb (am_o_gf 1 1 8) rfl (S' := (70, [some (.inr (.inr (some (1, 0)))), some (.inl x1), some (.inl x2), some (.inl x3), none], [.inr (.inr (some (5, u22))), .inr (.inr (some (5, u20))), .inr (.inr (some (1, 0)))], am_mk r17.2)) (am_gfd hu23) ?_
          refine am_Go.n htb 2 (S' := (72, [some (.inr (.inr (some (1, 0)))), some (.inl x1), some (.inl x2), some (.inl x3), none], [.inl 3, .inl x3, .inr (.inr (some (5, u22))), .inr (.inr (some (5, u20))), .inr (.inr (some (1, 0)))], am_mk r17.2)) rfl ?_
          obtain ⟨r24, h25, h⟩ := am_bd h
          refine am_Go.cl htb rfl (ex_X5_headOf d (by omega) u22 x3 3 r17.2 r24 h25) ?_
          show am_Go d 17 (75, [some (.inr (.inr (some (1, 0)))), some (.inl x1), some (.inl x2), some (.inl x3), none], [.inl r24, .inr (.inr (some (5, u20))), .inr (.inr (some (1, 0)))], am_mk r17.2) _ _ _ _
          refine am_Go.n htb 2 (S' := (79, [some (.inr (.inr (some (1, 0)))), some (.inl x1), some (.inl x2), some (.inl x3), none], [.inr (.inr (some (20, 0))), .inl r24, .inr (.inr (some (5, u20))), .inr (.inr (some (1, 0)))], am_mk r17.2)) rfl ?_
          obtain ⟨r26, h27, h⟩ := am_bd h
          refine am_Go.cl htb rfl (ex_X1_tell_l d (by omega) u20 r24 r17.2 r26 h27) ?_
          show am_Go d 17 (82, [some (.inr (.inr (some (1, 0)))), some (.inl x1), some (.inl x2), some (.inl x3), none], [.inl r26.1], am_mk r26.2) _ _ _ _
          refine am_Go.n htb 3 (S' := (88, [some (.inr (.inr (some (1, 0)))), some (.inl x1), some (.inl x2), some (.inl x3), some (.inl r26.1)], [.inl 2000000000, .inl r26.1], am_mk r26.2)) rfl ?_
          by_cases hc28 : r26.1 = (2000000000 : Int32)
          · rw [if_pos hc28] at h
            refine am_Go.c1 htb (S' := (103, [some (.inr (.inr (some (1, 0)))), some (.inl x1), some (.inl x2), some (.inl x3), some (.inl r26.1)], [], am_mk r26.2)) (if_pos hc28) ?_
            refine am_Go.o htb (am_o_inc 3 (-1)) rfl (S' := (106, [some (.inr (.inr (some (1, 0)))), some (.inl x1), some (.inl x2), some (.inl (x3 - 1)), some (.inl r26.1)], [], am_mk r26.2)) (am_incn rfl rfl) ?_
            refine am_Go.n htb 1 (S' := (19, [some (.inr (.inr (some (1, 0)))), some (.inl x1), some (.inl x2), some (.inl (x3 - 1)), some (.inl r26.1)], [], am_mk r26.2)) rfl ?_
            refine am_Go.fg (L0 := [some (.inr (.inr (some (1, 0)))), some (.inl x1), some (.inl x2), some (.inl (x3 - 1)), none]) (by exact ⟨rfl, ⟨rfl, ⟨rfl, ⟨rfl, trivial⟩⟩⟩⟩) ?_
            first | exact ih h | exact ih h hk | exact ih h hr | exact ih h hk hr
          · rw [if_neg hc28] at h
            refine am_Go.c1 htb (S' := (91, [some (.inr (.inr (some (1, 0)))), some (.inl x1), some (.inl x2), some (.inl x3), some (.inl r26.1)], [], am_mk r26.2)) (if_neg hc28) ?_
            refine am_Go.n htb 3 (S' := (96, [some (.inr (.inr (some (1, 0)))), some (.inl x1), some (.inl x2), some (.inl x3), some (.inl r26.1)], [.inl r26.1, .inl 9, .inl 0], am_mk r26.2)) rfl ?_
            obtain ⟨r29, h30, h⟩ := am_bd h
            refine am_Go.cl htb rfl (ex_J9_min_7cf53 d (by omega) 9 r26.1 r26.2 r29 h30) ?_
            show am_Go d 17 (99, [some (.inr (.inr (some (1, 0)))), some (.inl x1), some (.inl x2), some (.inl x3), some (.inl r26.1)], [.inl r29, .inl 0], am_mk r26.2) _ _ _ _
            obtain ⟨r31, h32, h⟩ := am_bd h
            refine am_Go.cl htb rfl (ex_J9_max_7cf53 d (by omega) 0 r29 r26.2 r31 h32) ?_
            show am_Go d 17 (102, [some (.inr (.inr (some (1, 0)))), some (.inl x1), some (.inl x2), some (.inl x3), some (.inl r26.1)], [.inl r31], am_mk r26.2) _ _ _ _
            cases h
            obtain ⟨rfl, rfl, rfl, rfl⟩ := hr _ rfl
            exact am_Go.rt htb rfl
set_option maxRecDepth 100000 in
theorem ex_X1_tellsLaw (d : Nat) (hd : 3 ≤ d) (a1 : Int32) (a2 : Int32) (m : am_m) (t : Int32 × am_m) (h : fn_X1_tellsLaw a1 a2 m = some t) : am_Ex am_cod d 17 [.inr (.inr (some (1, 0))), .inl a1, .inl a2] (am_mk m) (some (.inl t.1)) (am_mk t.2) 0 0 := by
  obtain ⟨d, rfl⟩ : ∃ e, d = e + 1 := ⟨d - 1, by omega⟩
  have htb : am_tab 17 = at_17 := rfl
  refine ⟨Nat.le_of_ble_eq_true rfl, ?_⟩
  unfold fn_X1_tellsLaw at h
  show am_Go d 17 (0, [some (.inr (.inr (some (1, 0)))), some (.inl a1), some (.inl a2), none, none], [], am_mk m) _ _ 0 0
  refine am_Go.n htb 1 (S' := (1, [some (.inr (.inr (some (1, 0)))), some (.inl a1), some (.inl a2), none, none], [.inr (.inr (some (1, 0)))], am_mk m)) rfl ?_
  refine am_Go.c1 htb (S' := (4, [some (.inr (.inr (some (1, 0)))), some (.inl a1), some (.inl a2), none, none], [.inr (.inr (Option.map (fun j => (5, j)) (m.2.2.2.1 0)))], am_mk m)) rfl ?_
  cases hu2 : (m.2.2.2.1 0) with
  | none =>
    rw [hu2] at h
    refine am_Go.c1 htb (S' := (7, [some (.inr (.inr (some (1, 0)))), some (.inl a1), some (.inl a2), none, none], [], am_mk m)) (by rw [hu2]; rfl) ?_
    refine am_Go.n htb 1 (S' := (8, [some (.inr (.inr (some (1, 0)))), some (.inl a1), some (.inl a2), none, none], [.inl a2], am_mk m)) rfl ?_
    cases h
    exact am_Go.rt htb rfl
  | some u1 =>
    rw [hu2] at h
    refine am_Go.c1 htb (S' := (9, [some (.inr (.inr (some (1, 0)))), some (.inl a1), some (.inl a2), none, none], [], am_mk m)) (by rw [hu2]; rfl) ?_
    refine am_Go.n htb 1 (S' := (10, [some (.inr (.inr (some (1, 0)))), some (.inl a1), some (.inl a2), none, none], [.inr (.inr (some (1, 0)))], am_mk m)) rfl ?_
    obtain ⟨u3, hu4, h⟩ := am_bd h
    refine am_Go.o htb (am_o_gf 1 1 8) rfl (S' := (13, [some (.inr (.inr (some (1, 0)))), some (.inl a1), some (.inl a2), none, none], [.inr (.inr (some (5, u3)))], am_mk m)) (am_gfd hu4) ?_
    refine am_Go.n htb 4 (S' := (19, [some (.inr (.inr (some (1, 0)))), some (.inl a1), some (.inl a2), some (.inl ((m.1 5 u3 2) - (1 : Int32))), none], [], am_mk m)) rfl ?_
    obtain ⟨w36, h34, h⟩ := am_bd h
    refine lt_X1_tellsLaw_19 _ hd (h := h34) (hk := ?_) (hr := ?_)
    · intro q33 he
      subst he
      dsimp only at h
      refine am_Go.n htb 1 (S' := (110, [some (.inr (.inr (some (1, 0)))), some (.inl a1), some (.inl a2), none, none], [.inl a2], am_mk q33)) rfl ?_
      cases h
      exact am_Go.rt htb rfl
    · intro rr35 he
      subst he
      cases h
      exact ⟨rfl, rfl, rfl, rfl⟩
-- X1_countsOf
set_option maxRecDepth 100000 in
theorem ex_X1_countsOf (d : Nat) (hd : 4 ≤ d) (a1 : Int32) (a2 : Int32) (m : am_m) (t : Int32 × am_m) (h : fn_X1_countsOf a1 a2 m = some t) : am_Ex am_cod d 6 [.inr (.inr (some (1, 0))), .inl a1, .inl a2] (am_mk m) (some (.inl t.1)) (am_mk t.2) 0 0 := by
  obtain ⟨d, rfl⟩ : ∃ e, d = e + 1 := ⟨d - 1, by omega⟩
  have htb : am_tab 6 = at_6 := rfl
  refine ⟨Nat.le_of_ble_eq_true rfl, ?_⟩
  unfold fn_X1_countsOf at h
  show am_Go d 6 (0, [some (.inr (.inr (some (1, 0)))), some (.inl a1), some (.inl a2)], [], am_mk m) _ _ 0 0
  refine am_Go.n htb 3 (S' := (3, [some (.inr (.inr (some (1, 0)))), some (.inl a1), some (.inl a2)], [.inl a2, .inl a1, .inr (.inr (some (1, 0)))], am_mk m)) rfl ?_
  obtain ⟨r1, h2, h⟩ := am_bd h
  refine am_Go.cl htb rfl (ex_X1_knowTwo d (by omega) a1 a2 m r1 h2) ?_
  show am_Go d 6 (6, [some (.inr (.inr (some (1, 0)))), some (.inl a1), some (.inl a2)], [], am_mk r1) _ _ _ _
  refine am_Go.n htb 6 (S' := (16, [some (.inr (.inr (some (1, 0)))), some (.inl a1), some (.inl a2)], [.inl (r1.1 20 0 2), .inl 266, .inr (.inr (some (1, 0)))], am_mk r1)) rfl ?_
  obtain ⟨r3, h4, h⟩ := am_bd h
  refine am_Go.cl htb rfl (ex_X1_tellsLaw d (by omega) 266 (r1.1 20 0 2) r1 r3 h4) ?_
  show am_Go d 6 (19, [some (.inr (.inr (some (1, 0)))), some (.inl a1), some (.inl a2)], [.inl r3.1], am_mk r3.2) _ _ _ _
  cases h
  exact am_Go.rt htb rfl
-- X1_isBarred
set_option maxRecDepth 100000 in
theorem ex_X1_isBarred (d : Nat) (hd : 4 ≤ d) (a1 : Int32) (a2 : Int32) (m : am_m) (t : Int32 × am_m) (h : fn_X1_isBarred a1 a2 m = some t) : am_Ex am_cod d 7 [.inr (.inr (some (1, 0))), .inl a1, .inl a2] (am_mk m) (some (.inl t.1)) (am_mk t.2) 0 0 := by
  obtain ⟨d, rfl⟩ : ∃ e, d = e + 1 := ⟨d - 1, by omega⟩
  have htb : am_tab 7 = at_7 := rfl
  refine ⟨Nat.le_of_ble_eq_true rfl, ?_⟩
  unfold fn_X1_isBarred at h
  show am_Go d 7 (0, [some (.inr (.inr (some (1, 0)))), some (.inl a1), some (.inl a2)], [], am_mk m) _ _ 0 0
  refine am_Go.n htb 3 (S' := (3, [some (.inr (.inr (some (1, 0)))), some (.inl a1), some (.inl a2)], [.inl a2, .inl a1, .inr (.inr (some (1, 0)))], am_mk m)) rfl ?_
  obtain ⟨r1, h2, h⟩ := am_bd h
  refine am_Go.cl htb rfl (ex_X1_knowTwo d (by omega) a1 a2 m r1 h2) ?_
  show am_Go d 7 (6, [some (.inr (.inr (some (1, 0)))), some (.inl a1), some (.inl a2)], [], am_mk r1) _ _ _ _
  refine am_Go.n htb 3 (S' := (11, [some (.inr (.inr (some (1, 0)))), some (.inl a1), some (.inl a2)], [.inl (-1), .inl 269, .inr (.inr (some (1, 0)))], am_mk r1)) rfl ?_
  obtain ⟨r3, h4, h⟩ := am_bd h
  refine am_Go.cl htb rfl (ex_X1_tellsLaw d (by omega) 269 (-1) r1 r3 h4) ?_
  show am_Go d 7 (14, [some (.inr (.inr (some (1, 0)))), some (.inl a1), some (.inl a2)], [.inl r3.1], am_mk r3.2) _ _ _ _
  refine am_Go.n htb 1 (S' := (15, [some (.inr (.inr (some (1, 0)))), some (.inl a1), some (.inl a2)], [.inl (-1), .inl r3.1], am_mk r3.2)) rfl ?_
  by_cases hc5 : r3.1 = (-1 : Int32)
  · rw [if_pos hc5] at h
    refine am_Go.c1 htb (S' := (22, [some (.inr (.inr (some (1, 0)))), some (.inl a1), some (.inl a2)], [], am_mk r3.2)) (if_pos hc5) ?_
    refine am_Go.n htb 1 (S' := (23, [some (.inr (.inr (some (1, 0)))), some (.inl a1), some (.inl a2)], [.inl 0], am_mk r3.2)) rfl ?_
    cases h
    exact am_Go.rt htb rfl
  · rw [if_neg hc5] at h
    refine am_Go.c1 htb (S' := (18, [some (.inr (.inr (some (1, 0)))), some (.inl a1), some (.inl a2)], [], am_mk r3.2)) (if_neg hc5) ?_
    refine am_Go.n htb 2 (S' := (23, [some (.inr (.inr (some (1, 0)))), some (.inl a1), some (.inl a2)], [.inl 1], am_mk r3.2)) rfl ?_
    cases h
    exact am_Go.rt htb rfl
-- X1_maySit
set_option maxRecDepth 100000 in
theorem ex_X1_maySit (d : Nat) (hd : 4 ≤ d) (a1 : Int32) (a2 : Int32) (m : am_m) (t : Int32 × am_m) (h : fn_X1_maySit a1 a2 m = some t) : am_Ex am_cod d 8 [.inr (.inr (some (1, 0))), .inl a1, .inl a2] (am_mk m) (some (.inl t.1)) (am_mk t.2) 0 0 := by
  obtain ⟨d, rfl⟩ : ∃ e, d = e + 1 := ⟨d - 1, by omega⟩
  have htb : am_tab 8 = at_8 := rfl
  refine ⟨Nat.le_of_ble_eq_true rfl, ?_⟩
  unfold fn_X1_maySit at h
  show am_Go d 8 (0, [some (.inr (.inr (some (1, 0)))), some (.inl a1), some (.inl a2), none, none], [], am_mk m) _ _ 0 0
  refine am_Go.n htb 2 (S' := (2, [some (.inr (.inr (some (1, 0)))), some (.inl a1), some (.inl a2), none, none], [.inl a2, .inl a1], am_mk m)) rfl ?_
  by_cases hc1 : a1 ≠ a2
  · rw [if_pos hc1] at h
    refine am_Go.c1 htb (S' := (7, [some (.inr (.inr (some (1, 0)))), some (.inl a1), some (.inl a2), none, none], [], am_mk m)) (if_pos hc1) ?_
    refine am_Go.n htb 3 (S' := (10, [some (.inr (.inr (some (1, 0)))), some (.inl a1), some (.inl a2), none, none], [.inl a2, .inl a1, .inr (.inr (some (1, 0)))], am_mk m)) rfl ?_
    obtain ⟨r2, h3, h⟩ := am_bd h
    refine am_Go.cl htb rfl (ex_X1_knowTwo d (by omega) a1 a2 m r2 h3) ?_
    show am_Go d 8 (13, [some (.inr (.inr (some (1, 0)))), some (.inl a1), some (.inl a2), none, none], [], am_mk r2) _ _ _ _
    refine am_Go.n htb 6 (S' := (23, [some (.inr (.inr (some (1, 0)))), some (.inl a1), some (.inl a2), none, none], [.inl (r2.1 20 0 2), .inl 266, .inr (.inr (some (1, 0)))], am_mk r2)) rfl ?_
    obtain ⟨r4, h5, h⟩ := am_bd h
    refine am_Go.cl htb rfl (ex_X1_tellsLaw d (by omega) 266 (r2.1 20 0 2) r2 r4 h5) ?_
    show am_Go d 8 (26, [some (.inr (.inr (some (1, 0)))), some (.inl a1), some (.inl a2), none, none], [.inl r4.1], am_mk r4.2) _ _ _ _
    refine am_Go.n htb 4 (S' := (32, [some (.inr (.inr (some (1, 0)))), some (.inl a1), some (.inl a2), some (.inl r4.1), none], [.inl (-1), .inl 269, .inr (.inr (some (1, 0)))], am_mk r4.2)) rfl ?_
    obtain ⟨r6, h7, h⟩ := am_bd h
    refine am_Go.cl htb rfl (ex_X1_tellsLaw d (by omega) 269 (-1) r4.2 r6 h7) ?_
    show am_Go d 8 (35, [some (.inr (.inr (some (1, 0)))), some (.inl a1), some (.inl a2), some (.inl r4.1), none], [.inl r6.1], am_mk r6.2) _ _ _ _
    refine am_Go.n htb 1 (S' := (36, [some (.inr (.inr (some (1, 0)))), some (.inl a1), some (.inl a2), some (.inl r4.1), none], [.inl (-1), .inl r6.1], am_mk r6.2)) rfl ?_
    refine am_Go.cut (S := (44, [some (.inr (.inr (some (1, 0)))), some (.inl a1), some (.inl a2), some (.inl r4.1), none], [.inl (if r6.1 = (-1 : Int32) then (0 : Int32) else (1 : Int32))], am_mk r6.2)) ?_ (fun key => ?_)
    · refine am_Go.n htb 2 (S' := (48, [some (.inr (.inr (some (1, 0)))), some (.inl a1), some (.inl a2), some (.inl r4.1), some (.inl (if r6.1 = (-1 : Int32) then (0 : Int32) else (1 : Int32)))], [.inl (if r6.1 = (-1 : Int32) then (0 : Int32) else (1 : Int32))], am_mk r6.2)) rfl ?_
      obtain ⟨q17, h20, h⟩ := am_bd h
      refine am_Go.cut (S := (92, [some (.inr (.inr (some (1, 0)))), some (.inl a1), some (.inl a2), some (.inl q17.1), some (.inl q17.2.1)], [], am_mk q17.2.2)) ?_ (fun key => ?_)
      · refine am_Go.n htb 1 (S' := (94, [some (.inr (.inr (some (1, 0)))), some (.inl a1), some (.inl a2), some (.inl q17.1), some (.inl q17.2.1)], [.inl q17.2.1], am_mk q17.2.2)) rfl ?_
        by_cases hc18 : q17.2.1 ≠ 0
        · rw [if_pos hc18] at h
          refine am_Go.c1 htb (S' := (105, [some (.inr (.inr (some (1, 0)))), some (.inl a1), some (.inl a2), some (.inl q17.1), some (.inl q17.2.1)], [], am_mk q17.2.2)) (if_pos hc18) ?_
          refine am_Go.n htb 1 (S' := (106, [some (.inr (.inr (some (1, 0)))), some (.inl a1), some (.inl a2), some (.inl q17.1), some (.inl q17.2.1)], [.inl 0], am_mk q17.2.2)) rfl ?_
          cases h
          exact am_Go.rt htb rfl
        · rw [if_neg hc18] at h
          refine am_Go.c1 htb (S' := (97, [some (.inr (.inr (some (1, 0)))), some (.inl a1), some (.inl a2), some (.inl q17.1), some (.inl q17.2.1)], [], am_mk q17.2.2)) (if_neg hc18) ?_
          refine am_Go.n htb 1 (S' := (98, [some (.inr (.inr (some (1, 0)))), some (.inl a1), some (.inl a2), some (.inl q17.1), some (.inl q17.2.1)], [.inl q17.1], am_mk q17.2.2)) rfl ?_
          by_cases hc19 : q17.1 ≤ 0
          · rw [if_pos hc19] at h
            refine am_Go.c1 htb (S' := (105, [some (.inr (.inr (some (1, 0)))), some (.inl a1), some (.inl a2), some (.inl q17.1), some (.inl q17.2.1)], [], am_mk q17.2.2)) (if_pos hc19) ?_
            refine am_Go.n htb 1 (S' := (106, [some (.inr (.inr (some (1, 0)))), some (.inl a1), some (.inl a2), some (.inl q17.1), some (.inl q17.2.1)], [.inl 0], am_mk q17.2.2)) rfl ?_
            cases h
            exact am_Go.rt htb rfl
          · rw [if_neg hc19] at h
            refine am_Go.c1 htb (S' := (101, [some (.inr (.inr (some (1, 0)))), some (.inl a1), some (.inl a2), some (.inl q17.1), some (.inl q17.2.1)], [], am_mk q17.2.2)) (if_neg hc19) ?_
            refine am_Go.n htb 2 (S' := (106, [some (.inr (.inr (some (1, 0)))), some (.inl a1), some (.inl a2), some (.inl q17.1), some (.inl q17.2.1)], [.inl 1], am_mk q17.2.2)) rfl ?_
            cases h
            exact am_Go.rt htb rfl
      · have h := h20
        by_cases hc9 : (if r6.1 = (-1 : Int32) then (0 : Int32) else (1 : Int32)) ≠ 0
        · rw [if_pos hc9] at h
          refine am_Go.c1 htb (S' := (92, [some (.inr (.inr (some (1, 0)))), some (.inl a1), some (.inl a2), some (.inl r4.1), some (.inl (if r6.1 = (-1 : Int32) then (0 : Int32) else (1 : Int32)))], [], am_mk r6.2)) (if_pos hc9) ?_
          cases h
          exact am_Go.fg (by exact ⟨rfl, ⟨rfl, ⟨rfl, ⟨rfl, ⟨rfl, trivial⟩⟩⟩⟩⟩) key
        · rw [if_neg hc9] at h
          refine am_Go.c1 htb (S' := (51, [some (.inr (.inr (some (1, 0)))), some (.inl a1), some (.inl a2), some (.inl r4.1), some (.inl (if r6.1 = (-1 : Int32) then (0 : Int32) else (1 : Int32)))], [], am_mk r6.2)) (if_neg hc9) ?_
          refine am_Go.n htb 3 (S' := (54, [some (.inr (.inr (some (1, 0)))), some (.inl a1), some (.inl a2), some (.inl r4.1), some (.inl (if r6.1 = (-1 : Int32) then (0 : Int32) else (1 : Int32)))], [.inl a1, .inl a2, .inr (.inr (some (1, 0)))], am_mk r6.2)) rfl ?_
          obtain ⟨r10, h11, h⟩ := am_bd h
          refine am_Go.cl htb rfl (ex_X1_knowTwo d (by omega) a2 a1 r6.2 r10 h11) ?_
          show am_Go d 8 (57, [some (.inr (.inr (some (1, 0)))), some (.inl a1), some (.inl a2), some (.inl r4.1), some (.inl (if r6.1 = (-1 : Int32) then (0 : Int32) else (1 : Int32)))], [], am_mk r10) _ _ _ _
          refine am_Go.n htb 7 (S' := (68, [some (.inr (.inr (some (1, 0)))), some (.inl a1), some (.inl a2), some (.inl r4.1), some (.inl (if r6.1 = (-1 : Int32) then (0 : Int32) else (1 : Int32)))], [.inl (r10.1 20 0 2), .inl 266, .inr (.inr (some (1, 0))), .inl r4.1], am_mk r10)) rfl ?_
          obtain ⟨r12, h13, h⟩ := am_bd h
          refine am_Go.cl htb rfl (ex_X1_tellsLaw d (by omega) 266 (r10.1 20 0 2) r10 r12 h13) ?_
          show am_Go d 8 (71, [some (.inr (.inr (some (1, 0)))), some (.inl a1), some (.inl a2), some (.inl r4.1), some (.inl (if r6.1 = (-1 : Int32) then (0 : Int32) else (1 : Int32)))], [.inl r12.1, .inl r4.1], am_mk r12.2) _ _ _ _
          refine am_Go.n htb 5 (S' := (78, [some (.inr (.inr (some (1, 0)))), some (.inl a1), some (.inl a2), some (.inl (r4.1 + r12.1)), some (.inl (if r6.1 = (-1 : Int32) then (0 : Int32) else (1 : Int32)))], [.inl (-1), .inl 269, .inr (.inr (some (1, 0)))], am_mk r12.2)) rfl ?_
          obtain ⟨r14, h15, h⟩ := am_bd h
          refine am_Go.cl htb rfl (ex_X1_tellsLaw d (by omega) 269 (-1) r12.2 r14 h15) ?_
          show am_Go d 8 (81, [some (.inr (.inr (some (1, 0)))), some (.inl a1), some (.inl a2), some (.inl (r4.1 + r12.1)), some (.inl (if r6.1 = (-1 : Int32) then (0 : Int32) else (1 : Int32)))], [.inl r14.1], am_mk r14.2) _ _ _ _
          refine am_Go.n htb 1 (S' := (82, [some (.inr (.inr (some (1, 0)))), some (.inl a1), some (.inl a2), some (.inl (r4.1 + r12.1)), some (.inl (if r6.1 = (-1 : Int32) then (0 : Int32) else (1 : Int32)))], [.inl (-1), .inl r14.1], am_mk r14.2)) rfl ?_
          refine am_Go.cut (S := (90, [some (.inr (.inr (some (1, 0)))), some (.inl a1), some (.inl a2), some (.inl (r4.1 + r12.1)), some (.inl (if r6.1 = (-1 : Int32) then (0 : Int32) else (1 : Int32)))], [.inl (if r14.1 = (-1 : Int32) then (0 : Int32) else (1 : Int32))], am_mk r14.2)) ?_ (fun key => ?_)
          · refine am_Go.n htb 1 (S' := (92, [some (.inr (.inr (some (1, 0)))), some (.inl a1), some (.inl a2), some (.inl (r4.1 + r12.1)), some (.inl (if r14.1 = (-1 : Int32) then (0 : Int32) else (1 : Int32)))], [], am_mk r14.2)) rfl ?_
            cases h
            exact am_Go.fg (by exact ⟨rfl, ⟨rfl, ⟨rfl, ⟨rfl, ⟨rfl, trivial⟩⟩⟩⟩⟩) key
          · by_cases hc16 : r14.1 = (-1 : Int32)
            · refine am_Go.c1 htb (S' := (89, [some (.inr (.inr (some (1, 0)))), some (.inl a1), some (.inl a2), some (.inl (r4.1 + r12.1)), some (.inl (if r6.1 = (-1 : Int32) then (0 : Int32) else (1 : Int32)))], [], am_mk r14.2)) (if_pos hc16) ?_
              refine am_Go.n htb 1 (S' := (90, [some (.inr (.inr (some (1, 0)))), some (.inl a1), some (.inl a2), some (.inl (r4.1 + r12.1)), some (.inl (if r6.1 = (-1 : Int32) then (0 : Int32) else (1 : Int32)))], [.inl 0], am_mk r14.2)) rfl ?_
              simp only [if_pos hc16] at key
              exact am_Go.fg (by exact ⟨rfl, ⟨rfl, ⟨rfl, ⟨rfl, ⟨rfl, trivial⟩⟩⟩⟩⟩) key
            · refine am_Go.c1 htb (S' := (85, [some (.inr (.inr (some (1, 0)))), some (.inl a1), some (.inl a2), some (.inl (r4.1 + r12.1)), some (.inl (if r6.1 = (-1 : Int32) then (0 : Int32) else (1 : Int32)))], [], am_mk r14.2)) (if_neg hc16) ?_
              refine am_Go.n htb 2 (S' := (90, [some (.inr (.inr (some (1, 0)))), some (.inl a1), some (.inl a2), some (.inl (r4.1 + r12.1)), some (.inl (if r6.1 = (-1 : Int32) then (0 : Int32) else (1 : Int32)))], [.inl 1], am_mk r14.2)) rfl ?_
              simp only [if_neg hc16] at key
              exact am_Go.fg (by exact ⟨rfl, ⟨rfl, ⟨rfl, ⟨rfl, ⟨rfl, trivial⟩⟩⟩⟩⟩) key
    · by_cases hc8 : r6.1 = (-1 : Int32)
      · refine am_Go.c1 htb (S' := (43, [some (.inr (.inr (some (1, 0)))), some (.inl a1), some (.inl a2), some (.inl r4.1), none], [], am_mk r6.2)) (if_pos hc8) ?_
        refine am_Go.n htb 1 (S' := (44, [some (.inr (.inr (some (1, 0)))), some (.inl a1), some (.inl a2), some (.inl r4.1), none], [.inl 0], am_mk r6.2)) rfl ?_
        simp only [if_pos hc8] at key
        exact am_Go.fg (by exact ⟨rfl, ⟨rfl, ⟨rfl, ⟨rfl, trivial⟩⟩⟩⟩) key
      · refine am_Go.c1 htb (S' := (39, [some (.inr (.inr (some (1, 0)))), some (.inl a1), some (.inl a2), some (.inl r4.1), none], [], am_mk r6.2)) (if_neg hc8) ?_
        refine am_Go.n htb 2 (S' := (44, [some (.inr (.inr (some (1, 0)))), some (.inl a1), some (.inl a2), some (.inl r4.1), none], [.inl 1], am_mk r6.2)) rfl ?_
        simp only [if_neg hc8] at key
        exact am_Go.fg (by exact ⟨rfl, ⟨rfl, ⟨rfl, ⟨rfl, trivial⟩⟩⟩⟩) key
  · rw [if_neg hc1] at h
    refine am_Go.c1 htb (S' := (5, [some (.inr (.inr (some (1, 0)))), some (.inl a1), some (.inl a2), none, none], [], am_mk m)) (if_neg hc1) ?_
    refine am_Go.n htb 1 (S' := (6, [some (.inr (.inr (some (1, 0)))), some (.inl a1), some (.inl a2), none, none], [.inl 0], am_mk m)) rfl ?_
    cases h
    exact am_Go.rt htb rfl
-- X1_companions
set_option maxRecDepth 100000 in
theorem lt_X1_companions_4 (d : Nat) (hd : 5 ≤ d + 1) {r : Option am_V} {M' : am_M} {kc ks : Nat} {n : Nat} {x1 : Int32} {x2 : Int32} {x3 : Int32} {m : am_m} {t : Int32 × am_m} (h : lp_X1_companions_4 n x1 x2 x3 m = some t) (hk : am_Go d 9 (36, [some (.inr (.inr (some (1, 0)))), some (.inl x1), some (.inl t.1), none], [], am_mk t.2) r M' kc ks) : am_Go d 9 (4, [some (.inr (.inr (some (1, 0)))), some (.inl x1), some (.inl x2), some (.inl x3)], [], am_mk m) r M' kc ks := by
  have htb : am_tab 9 = at_9 := rfl
  induction n generalizing x2 x3 m with
  | zero => cases h
  | succ n ih =>
    unfold lp_X1_companions_4 at h
    refine am_Go.n htb 2 (S' := (6, [some (.inr (.inr (some (1, 0)))), some (.inl x1), some (.inl x2), some (.inl x3)], [.inr (.inr (some (1, 0))), .inl x3], am_mk m)) rfl ?_
    obtain ⟨u1, hu2, h⟩ := am_bd h
    refine am_Go.o htb (am_o_gf 1 0 11) rfl (S' := (9, [some (.inr (.inr (some (1, 0)))), some (.inl x1), some (.inl x2), some (.inl x3)], [.inr (.inr (some (8, u1))), .inl x3], am_mk m)) (am_gfd hu2) ?_
    refine am_Go.n htb 1 (S' := (12, [some (.inr (.inr (some (1, 0)))), some (.inl x1), some (.inl x2), some (.inl x3)], [.inl (m.1 8 u1 0), .inl x3], am_mk m)) rfl ?_
    by_cases hc3 : (m.1 8 u1 0) ≤ x3
    · rw [if_pos hc3] at h
      refine am_Go.c1 htb (S' := (36, [some (.inr (.inr (some (1, 0)))), some (.inl x1), some (.inl x2), some (.inl x3)], [], am_mk m)) (if_pos hc3) ?_
      cases h
      exact am_Go.fg (by exact ⟨rfl, ⟨rfl, ⟨rfl, trivial⟩⟩⟩) hk
    · rw [if_neg hc3] at h
      refine am_Go.c1 htb (S' := (15, [some (.inr (.inr (some (1, 0)))), some (.inl x1), some (.inl x2), some (.inl x3)], [], am_mk m)) (if_neg hc3) ?_
      refine am_Go.n htb 3 (S' := (18, [some (.inr (.inr (some (1, 0)))), some (.inl x1), some (.inl x2), some (.inl x3)], [.inl x3, .inl x1, .inr (.inr (some (1, 0)))], am_mk m)) rfl ?_
      obtain ⟨r4, h5, h⟩ := am_bd h
      refine am_Go.cl htb rfl (ex_X1_maySit d (by omega) x1 x3 m r4 h5) ?_
      show am_Go d 9 (21, [some (.inr (.inr (some (1, 0)))), some (.inl x1), some (.inl x2), some (.inl x3)], [.inl r4.1], am_mk r4.2) _ _ _ _
      refine am_Go.cut (S := (30, [some (.inr (.inr (some (1, 0)))), some (.inl x1), some (.inl (if r4.1 = 0 then x2 else (x2 ||| ((1 : Int32) <<< (x3 &&& 31))))), some (.inl x3)], [], am_mk r4.2)) ?_ (fun key => ?_)
      · refine am_Go.n htb 2 (S' := (4, [some (.inr (.inr (some (1, 0)))), some (.inl x1), some (.inl (if r4.1 = 0 then x2 else (x2 ||| ((1 : Int32) <<< (x3 &&& 31))))), some (.inl (x3 + 1))], [], am_mk r4.2)) rfl ?_
        first | exact ih h | exact ih h hk
      · by_cases hc6 : r4.1 = 0
        · refine am_Go.c1 htb (S' := (30, [some (.inr (.inr (some (1, 0)))), some (.inl x1), some (.inl x2), some (.inl x3)], [], am_mk r4.2)) (if_pos hc6) ?_
          simp only [if_pos hc6] at key
          exact am_Go.fg (by exact ⟨rfl, ⟨rfl, ⟨rfl, ⟨rfl, trivial⟩⟩⟩⟩) key
        · refine am_Go.c1 htb (S' := (24, [some (.inr (.inr (some (1, 0)))), some (.inl x1), some (.inl x2), some (.inl x3)], [], am_mk r4.2)) (if_neg hc6) ?_
          refine am_Go.n htb 6 (S' := (30, [some (.inr (.inr (some (1, 0)))), some (.inl x1), some (.inl (x2 ||| ((1 : Int32) <<< (x3 &&& 31)))), some (.inl x3)], [], am_mk r4.2)) rfl ?_
          simp only [if_neg hc6] at key
          exact am_Go.fg (by exact ⟨rfl, ⟨rfl, ⟨rfl, ⟨rfl, trivial⟩⟩⟩⟩) key
set_option maxRecDepth 100000 in
theorem ex_X1_companions (d : Nat) (hd : 5 ≤ d) (a1 : Int32) (m : am_m) (t : Int32 × am_m) (h : fn_X1_companions a1 m = some t) : am_Ex am_cod d 9 [.inr (.inr (some (1, 0))), .inl a1] (am_mk m) (some (.inl t.1)) (am_mk t.2) 0 0 := by
  obtain ⟨d, rfl⟩ : ∃ e, d = e + 1 := ⟨d - 1, by omega⟩
  have htb : am_tab 9 = at_9 := rfl
  refine ⟨Nat.le_of_ble_eq_true rfl, ?_⟩
  unfold fn_X1_companions at h
  show am_Go d 9 (0, [some (.inr (.inr (some (1, 0)))), some (.inl a1), none, none], [], am_mk m) _ _ 0 0
  refine am_Go.n htb 4 (S' := (4, [some (.inr (.inr (some (1, 0)))), some (.inl a1), some (.inl 0), some (.inl 0)], [], am_mk m)) rfl ?_
  obtain ⟨q7, h8, h⟩ := am_bd h
  refine lt_X1_companions_4 _ hd (h := h8) (hk := ?_)
  refine am_Go.n htb 1 (S' := (37, [some (.inr (.inr (some (1, 0)))), some (.inl a1), some (.inl q7.1), none], [.inl q7.1], am_mk q7.2)) rfl ?_
  cases h
  exact am_Go.rt htb rfl
-- X1_isTable
set_option maxRecDepth 100000 in
theorem lt_X1_isTable_12 (d : Nat) (hd : 5 ≤ d + 1) {r : Option am_V} {M' : am_M} {kc ks : Nat} {n : Nat} {x1 : Int32} {x2 : Int32} {x3 : Int32} {m : am_m} {t : Sum (am_m) (Int32 × am_m)} (h : lp_X1_isTable_12 n x1 x2 x3 m = some t) (hk : ∀ t', t = .inl t' → am_Go d 10 (48, [some (.inr (.inr (some (1, 0)))), some (.inl x1), some (.inl x2), none], [], am_mk t') r M' kc ks) (hr : ∀ t', t = .inr t' → r = some (.inl t'.1) ∧ M' = am_mk t'.2 ∧ kc = 0 ∧ ks = 0) : am_Go d 10 (12, [some (.inr (.inr (some (1, 0)))), some (.inl x1), some (.inl x2), some (.inl x3)], [], am_mk m) r M' kc ks := by
  have htb : am_tab 10 = at_10 := rfl
  induction n generalizing x3 m with
  | zero => cases h
  | succ n ih =>
    unfold lp_X1_isTable_12 at h
    refine am_Go.n htb 2 (S' := (15, [some (.inr (.inr (some (1, 0)))), some (.inl x1), some (.inl x2), some (.inl x3)], [.inl 7, .inl x3], am_mk m)) rfl ?_
    by_cases hc2 : (7 : Int32) ≤ x3
    · rw [if_pos hc2] at h
      refine am_Go.c1 htb (S' := (48, [some (.inr (.inr (some (1, 0)))), some (.inl x1), some (.inl x2), some (.inl x3)], [], am_mk m)) (if_pos hc2) ?_
      cases h
      exact am_Go.fg (by exact ⟨rfl, ⟨rfl, ⟨rfl, trivial⟩⟩⟩) (hk _ rfl)
    · rw [if_neg hc2] at h
      refine am_Go.c1 htb (S' := (18, [some (.inr (.inr (some (1, 0)))), some (.inl x1), some (.inl x2), some (.inl x3)], [], am_mk m)) (if_neg hc2) ?_
      refine am_Go.n htb 10 (S' := (28, [some (.inr (.inr (some (1, 0)))), some (.inl x1), some (.inl x2), some (.inl x3)], [.inl 1, .inl (((x1 >>> (x2 &&& 31)) &&& (x1 >>> (x3 &&& 31))) &&& (1 : Int32))], am_mk m)) rfl ?_
      by_cases hc3 : (((x1 >>> (x2 &&& 31)) &&& (x1 >>> (x3 &&& 31))) &&& (1 : Int32)) ≠ (1 : Int32)
      · rw [if_pos hc3] at h
        refine am_Go.c1 htb (S' := (42, [some (.inr (.inr (some (1, 0)))), some (.inl x1), some (.inl x2), some (.inl x3)], [], am_mk m)) (if_pos hc3) ?_
        refine am_Go.n htb 2 (S' := (12, [some (.inr (.inr (some (1, 0)))), some (.inl x1), some (.inl x2), some (.inl (x3 + 1))], [], am_mk m)) rfl ?_
        first | exact ih h | exact ih h hk | exact ih h hr | exact ih h hk hr
      · rw [if_neg hc3] at h
        refine am_Go.c1 htb (S' := (31, [some (.inr (.inr (some (1, 0)))), some (.inl x1), some (.inl x2), some (.inl x3)], [], am_mk m)) (if_neg hc3) ?_
        refine am_Go.n htb 3 (S' := (34, [some (.inr (.inr (some (1, 0)))), some (.inl x1), some (.inl x2), some (.inl x3)], [.inl x3, .inl x2, .inr (.inr (some (1, 0)))], am_mk m)) rfl ?_
        obtain ⟨r4, h5, h⟩ := am_bd h
        refine am_Go.cl htb rfl (ex_X1_maySit d (by omega) x2 x3 m r4 h5) ?_
        show am_Go d 10 (37, [some (.inr (.inr (some (1, 0)))), some (.inl x1), some (.inl x2), some (.inl x3)], [.inl r4.1], am_mk r4.2) _ _ _ _
        by_cases hc6 : r4.1 ≠ 0
        · rw [if_pos hc6] at h
          refine am_Go.c1 htb (S' := (42, [some (.inr (.inr (some (1, 0)))), some (.inl x1), some (.inl x2), some (.inl x3)], [], am_mk r4.2)) (if_pos hc6) ?_
          refine am_Go.n htb 2 (S' := (12, [some (.inr (.inr (some (1, 0)))), some (.inl x1), some (.inl x2), some (.inl (x3 + 1))], [], am_mk r4.2)) rfl ?_
          first | exact ih h | exact ih h hk | exact ih h hr | exact ih h hk hr
        · rw [if_neg hc6] at h
          refine am_Go.c1 htb (S' := (40, [some (.inr (.inr (some (1, 0)))), some (.inl x1), some (.inl x2), some (.inl x3)], [], am_mk r4.2)) (if_neg hc6) ?_
          refine am_Go.n htb 1 (S' := (41, [some (.inr (.inr (some (1, 0)))), some (.inl x1), some (.inl x2), some (.inl x3)], [.inl 0], am_mk r4.2)) rfl ?_
          cases h
          obtain ⟨rfl, rfl, rfl, rfl⟩ := hr _ rfl
          exact am_Go.rt htb rfl
set_option maxRecDepth 100000 in
theorem lt_X1_isTable_2 (d : Nat) (hd : 5 ≤ d + 1) {r : Option am_V} {M' : am_M} {kc ks : Nat} {n : Nat} {x1 : Int32} {x2 : Int32} {m : am_m} {t : Sum (am_m) (Int32 × am_m)} (h : lp_X1_isTable_2 n x1 x2 m = some t) (hk : ∀ t', t = .inl t' → am_Go d 10 (54, [some (.inr (.inr (some (1, 0)))), some (.inl x1), none, none], [], am_mk t') r M' kc ks) (hr : ∀ t', t = .inr t' → r = some (.inl t'.1) ∧ M' = am_mk t'.2 ∧ kc = 0 ∧ ks = 0) : am_Go d 10 (2, [some (.inr (.inr (some (1, 0)))), some (.inl x1), some (.inl x2), none], [], am_mk m) r M' kc ks := by
  have htb : am_tab 10 = at_10 := rfl
  induction n generalizing x2 m with
  | zero => cases h
  | succ n ih =>
    unfold lp_X1_isTable_2 at h
    refine am_Go.n htb 2 (S' := (5, [some (.inr (.inr (some (1, 0)))), some (.inl x1), some (.inl x2), none], [.inl 7, .inl x2], am_mk m)) rfl ?_
    by_cases hc1 : (7 : Int32) ≤ x2
    · rw [if_pos hc1] at h
      refine am_Go.c1 htb (S' := (54, [some (.inr (.inr (some (1, 0)))), some (.inl x1), some (.inl x2), none], [], am_mk m)) (if_pos hc1) ?_
      cases h
      exact am_Go.fg (by exact ⟨rfl, ⟨rfl, trivial⟩⟩) (hk _ rfl)
    · rw [if_neg hc1] at h
      refine am_Go.c1 htb (S' := (8, [some (.inr (.inr (some (1, 0)))), some (.inl x1), some (.inl x2), none], [], am_mk m)) (if_neg hc1) ?_
      refine am_Go.n htb 4 (S' := (12, [some (.inr (.inr (some (1, 0)))), some (.inl x1), some (.inl x2), some (.inl (x2 + (1 : Int32)))], [], am_mk m)) rfl ?_
      obtain ⟨w10, h8, h⟩ := am_bd h
      refine lt_X1_isTable_12 _ hd (h := h8) (hk := ?_) (hr := ?_)
      · intro q7 he
        subst he
        dsimp only at h
        refine am_Go.n htb 2 (S' := (2, [some (.inr (.inr (some (1, 0)))), some (.inl x1), some (.inl (x2 + 1)), none], [], am_mk q7)) rfl ?_
        first | exact ih h | exact ih h hk | exact ih h hr | exact ih h hk hr
      · intro rr9 he
        subst he
        cases h
        exact hr _ rfl
set_option maxRecDepth 100000 in
theorem ex_X1_isTable (d : Nat) (hd : 5 ≤ d) (a1 : Int32) (m : am_m) (t : Int32 × am_m) (h : fn_X1_isTable a1 m = some t) : am_Ex am_cod d 10 [.inr (.inr (some (1, 0))), .inl a1] (am_mk m) (some (.inl t.1)) (am_mk t.2) 0 0 := by
  obtain ⟨d, rfl⟩ : ∃ e, d = e + 1 := ⟨d - 1, by omega⟩
  have htb : am_tab 10 = at_10 := rfl
  refine ⟨Nat.le_of_ble_eq_true rfl, ?_⟩
  unfold fn_X1_isTable at h
  show am_Go d 10 (0, [some (.inr (.inr (some (1, 0)))), some (.inl a1), none, none], [], am_mk m) _ _ 0 0
  refine am_Go.n htb 2 (S' := (2, [some (.inr (.inr (some (1, 0)))), some (.inl a1), some (.inl 0), none], [], am_mk m)) rfl ?_
  obtain ⟨w17, h12, h⟩ := am_bd h
  refine lt_X1_isTable_2 _ hd (h := h12) (hk := ?_) (hr := ?_)
  · intro q11 he
    subst he
    dsimp only at h
    refine am_Go.n htb 1 (S' := (55, [some (.inr (.inr (some (1, 0)))), some (.inl a1), none, none], [.inl a1], am_mk q11)) rfl ?_
    obtain ⟨r13, h14, h⟩ := am_bd h
    refine am_Go.cl htb rfl (ex_J6_bitCount_0f7a4 d (by omega) a1 q11 r13 h14) ?_
    show am_Go d 10 (58, [some (.inr (.inr (some (1, 0)))), some (.inl a1), none, none], [.inl r13], am_mk q11) _ _ _ _
    refine am_Go.n htb 1 (S' := (59, [some (.inr (.inr (some (1, 0)))), some (.inl a1), none, none], [.inl 2, .inl r13], am_mk q11)) rfl ?_
    by_cases hc15 : r13 < (2 : Int32)
    · rw [if_pos hc15] at h
      refine am_Go.c1 htb (S' := (66, [some (.inr (.inr (some (1, 0)))), some (.inl a1), none, none], [], am_mk q11)) (if_pos hc15) ?_
      refine am_Go.n htb 1 (S' := (67, [some (.inr (.inr (some (1, 0)))), some (.inl a1), none, none], [.inl 0], am_mk q11)) rfl ?_
      cases h
      exact am_Go.rt htb rfl
    · rw [if_neg hc15] at h
      refine am_Go.c1 htb (S' := (62, [some (.inr (.inr (some (1, 0)))), some (.inl a1), none, none], [], am_mk q11)) (if_neg hc15) ?_
      refine am_Go.n htb 2 (S' := (67, [some (.inr (.inr (some (1, 0)))), some (.inl a1), none, none], [.inl 1], am_mk q11)) rfl ?_
      cases h
      exact am_Go.rt htb rfl
  · intro rr16 he
    subst he
    cases h
    exact ⟨rfl, rfl, rfl, rfl⟩
-- X1_sufferedBy
set_option maxRecDepth 100000 in
theorem lt_X1_sufferedBy_5 (d : Nat) (hd : 5 ≤ d + 1) {r : Option am_V} {M' : am_M} {kc ks : Nat} {n : Nat} {x1 : Int32} {x2 : Int32} {x3 : Int32} {x4 : Int32} {m : am_m} {t : Int32 × am_m} (h : lp_X1_sufferedBy_5 n x1 x2 x3 x4 m = some t) (hk : am_Go d 11 (44, [some (.inr (.inr (some (1, 0)))), some (.inl x1), some (.inl x2), some (.inl t.1), none], [], am_mk t.2) r M' kc ks) : am_Go d 11 (5, [some (.inr (.inr (some (1, 0)))), some (.inl x1), some (.inl x2), some (.inl x3), some (.inl x4)], [], am_mk m) r M' kc ks := by
  have htb : am_tab 11 = at_11 := rfl
  induction n generalizing x3 x4 m with
  | zero => cases h
  | succ n ih =>
    unfold lp_X1_sufferedBy_5 at h
    refine am_Go.n htb 2 (S' := (9, [some (.inr (.inr (some (1, 0)))), some (.inl x1), some (.inl x2), some (.inl x3), some (.inl x4)], [.inl 7, .inl x4], am_mk m)) rfl ?_
    by_cases hc1 : (7 : Int32) ≤ x4
    · rw [if_pos hc1] at h
      refine am_Go.c1 htb (S' := (44, [some (.inr (.inr (some (1, 0)))), some (.inl x1), some (.inl x2), some (.inl x3), some (.inl x4)], [], am_mk m)) (if_pos hc1) ?_
      cases h
      exact am_Go.fg (by exact ⟨rfl, ⟨rfl, ⟨rfl, ⟨rfl, trivial⟩⟩⟩⟩) hk
    · rw [if_neg hc1] at h
      refine am_Go.c1 htb (S' := (12, [some (.inr (.inr (some (1, 0)))), some (.inl x1), some (.inl x2), some (.inl x3), some (.inl x4)], [], am_mk m)) (if_neg hc1) ?_
      refine am_Go.n htb 2 (S' := (15, [some (.inr (.inr (some (1, 0)))), some (.inl x1), some (.inl x2), some (.inl x3), some (.inl x4)], [.inl x1, .inl x4], am_mk m)) rfl ?_
      obtain ⟨q6, h7, h⟩ := am_bd h
      refine am_Go.cut (S := (38, [some (.inr (.inr (some (1, 0)))), some (.inl x1), some (.inl x2), some (.inl q6.1), some (.inl x4)], [], am_mk q6.2)) ?_ (fun key => ?_)
      · refine am_Go.n htb 2 (S' := (5, [some (.inr (.inr (some (1, 0)))), some (.inl x1), some (.inl x2), some (.inl q6.1), some (.inl (x4 + 1))], [], am_mk q6.2)) rfl ?_
        first | exact ih h | exact ih h hk
      · have h := h7
        by_cases hc2 : x4 = x1
        · rw [if_pos hc2] at h
          refine am_Go.c1 htb (S' := (38, [some (.inr (.inr (some (1, 0)))), some (.inl x1), some (.inl x2), some (.inl x3), some (.inl x4)], [], am_mk m)) (if_pos hc2) ?_
          cases h
          exact am_Go.fg (by exact ⟨rfl, ⟨rfl, ⟨rfl, ⟨rfl, ⟨rfl, trivial⟩⟩⟩⟩⟩) key
        · rw [if_neg hc2] at h
          refine am_Go.c1 htb (S' := (18, [some (.inr (.inr (some (1, 0)))), some (.inl x1), some (.inl x2), some (.inl x3), some (.inl x4)], [], am_mk m)) (if_neg hc2) ?_
          refine am_Go.n htb 6 (S' := (25, [some (.inr (.inr (some (1, 0)))), some (.inl x1), some (.inl x2), some (.inl x3), some (.inl x4)], [.inl 1, .inl ((x2 >>> (x4 &&& 31)) &&& (1 : Int32))], am_mk m)) rfl ?_
          by_cases hc3 : ((x2 >>> (x4 &&& 31)) &&& (1 : Int32)) ≠ (1 : Int32)
          · rw [if_pos hc3] at h
            refine am_Go.c1 htb (S' := (38, [some (.inr (.inr (some (1, 0)))), some (.inl x1), some (.inl x2), some (.inl x3), some (.inl x4)], [], am_mk m)) (if_pos hc3) ?_
            cases h
            exact am_Go.fg (by exact ⟨rfl, ⟨rfl, ⟨rfl, ⟨rfl, ⟨rfl, trivial⟩⟩⟩⟩⟩) key
          · rw [if_neg hc3] at h
            refine am_Go.c1 htb (S' := (28, [some (.inr (.inr (some (1, 0)))), some (.inl x1), some (.inl x2), some (.inl x3), some (.inl x4)], [], am_mk m)) (if_neg hc3) ?_
            refine am_Go.n htb 4 (S' := (33, [some (.inr (.inr (some (1, 0)))), some (.inl x1), some (.inl x2), some (.inl x3), some (.inl x4)], [.inl x1, .inl x4, .inr (.inr (some (1, 0))), .inl x3], am_mk m)) rfl ?_
            obtain ⟨r4, h5, h⟩ := am_bd h
            refine am_Go.cl htb rfl (ex_X1_countsOf d (by omega) x4 x1 m r4 h5) ?_
            show am_Go d 11 (36, [some (.inr (.inr (some (1, 0)))), some (.inl x1), some (.inl x2), some (.inl x3), some (.inl x4)], [.inl r4.1, .inl x3], am_mk r4.2) _ _ _ _
            refine am_Go.n htb 2 (S' := (38, [some (.inr (.inr (some (1, 0)))), some (.inl x1), some (.inl x2), some (.inl (x3 + r4.1)), some (.inl x4)], [], am_mk r4.2)) rfl ?_
            cases h
            exact am_Go.fg (by exact ⟨rfl, ⟨rfl, ⟨rfl, ⟨rfl, ⟨rfl, trivial⟩⟩⟩⟩⟩) key
set_option maxRecDepth 100000 in
theorem ex_X1_sufferedBy (d : Nat) (hd : 5 ≤ d) (a1 : Int32) (a2 : Int32) (m : am_m) (t : Int32 × am_m) (h : fn_X1_sufferedBy a1 a2 m = some t) : am_Ex am_cod d 11 [.inr (.inr (some (1, 0))), .inl a1, .inl a2] (am_mk m) (some (.inl t.1)) (am_mk t.2) 0 0 := by
  obtain ⟨d, rfl⟩ : ∃ e, d = e + 1 := ⟨d - 1, by omega⟩
  have htb : am_tab 11 = at_11 := rfl
  refine ⟨Nat.le_of_ble_eq_true rfl, ?_⟩
  unfold fn_X1_sufferedBy at h
  show am_Go d 11 (0, [some (.inr (.inr (some (1, 0)))), some (.inl a1), some (.inl a2), none, none], [], am_mk m) _ _ 0 0
  refine am_Go.n htb 4 (S' := (5, [some (.inr (.inr (some (1, 0)))), some (.inl a1), some (.inl a2), some (.inl 0), some (.inl 0)], [], am_mk m)) rfl ?_
  obtain ⟨q8, h9, h⟩ := am_bd h
  refine lt_X1_sufferedBy_5 _ hd (h := h9) (hk := ?_)
  refine am_Go.n htb 1 (S' := (45, [some (.inr (.inr (some (1, 0)))), some (.inl a1), some (.inl a2), some (.inl q8.1), none], [.inl q8.1], am_mk q8.2)) rfl ?_
  cases h
  exact am_Go.rt htb rfl
-- X1_hungerOf
set_option maxRecDepth 100000 in
theorem ex_X1_hungerOf (d : Nat) (hd : 4 ≤ d) (a1 : Int32) (a2 : Int32) (a3 : Int32) (m : am_m) (t : Int32 × am_m) (h : fn_X1_hungerOf a1 a2 a3 m = some t) : am_Ex am_cod d 12 [.inr (.inr (some (1, 0))), .inl a1, .inl a2, .inl a3] (am_mk m) (some (.inl t.1)) (am_mk t.2) 0 0 := by
  obtain ⟨d, rfl⟩ : ∃ e, d = e + 1 := ⟨d - 1, by omega⟩
  have htb : am_tab 12 = at_12 := rfl
  refine ⟨Nat.le_of_ble_eq_true rfl, ?_⟩
  unfold fn_X1_hungerOf at h
  show am_Go d 12 (0, [some (.inr (.inr (some (1, 0)))), some (.inl a1), some (.inl a2), some (.inl a3)], [], am_mk m) _ _ 0 0
  refine am_Go.n htb 5 (S' := (5, [some (.inr (.inr (some (1, 0)))), some (.inl a1), some (.inl a2), some (.inl a3)], [.inl a3, .inl (-1), .inl a2, .inl a1, .inr (.inr (some (1, 0)))], am_mk m)) rfl ?_
  obtain ⟨r1, h2, h⟩ := am_bd h
  refine am_Go.cl htb rfl (ex_X1_knowOne d (by omega) a1 a2 (-1) a3 m r1 h2) ?_
  show am_Go d 12 (8, [some (.inr (.inr (some (1, 0)))), some (.inl a1), some (.inl a2), some (.inl a3)], [], am_mk r1) _ _ _ _
  refine am_Go.n htb 3 (S' := (13, [some (.inr (.inr (some (1, 0)))), some (.inl a1), some (.inl a2), some (.inl a3)], [.inl 1, .inl 268, .inr (.inr (some (1, 0)))], am_mk r1)) rfl ?_
  obtain ⟨r3, h4, h⟩ := am_bd h
  refine am_Go.cl htb rfl (ex_X1_tellsLaw d (by omega) 268 1 r1 r3 h4) ?_
  show am_Go d 12 (16, [some (.inr (.inr (some (1, 0)))), some (.inl a1), some (.inl a2), some (.inl a3)], [.inl r3.1], am_mk r3.2) _ _ _ _
  cases h
  exact am_Go.rt htb rfl
-- X1_feedTable
set_option maxRecDepth 100000 in
theorem lt_X1_feedTable_7 (d : Nat) (hd : 4 ≤ d + 1) {r : Option am_V} {M' : am_M} {kc ks : Nat} {n : Nat} {x1 : Int32} {x2 : Int32} {x3 : Int32} {m : am_m} {t : am_m} (h : lp_X1_feedTable_7 n x1 x2 x3 m = some t) (hk : am_Go d 13 (89, [some (.inr (.inr (some (1, 0)))), some (.inl x1), some (.inl x2), none], [], am_mk t) r M' kc ks) : am_Go d 13 (7, [some (.inr (.inr (some (1, 0)))), some (.inl x1), some (.inl x2), some (.inl x3)], [], am_mk m) r M' kc ks := by
  have htb : am_tab 13 = at_13 := rfl
  induction n generalizing x3 m with
  | zero => cases h
  | succ n ih =>
    unfold lp_X1_feedTable_7 at h
    refine am_Go.n htb 2 (S' := (9, [some (.inr (.inr (some (1, 0)))), some (.inl x1), some (.inl x2), some (.inl x3)], [.inr (.inr (some (1, 0))), .inl x3], am_mk m)) rfl ?_
    obtain ⟨u3, hu4, h⟩ := am_bd h
    refine am_Go.o htb (am_o_gf 1 0 11) rfl (S' := (12, [some (.inr (.inr (some (1, 0)))), some (.inl x1), some (.inl x2), some (.inl x3)], [.inr (.inr (some (8, u3))), .inl x3], am_mk m)) (am_gfd hu4) ?_
    refine am_Go.n htb 1 (S' := (15, [some (.inr (.inr (some (1, 0)))), some (.inl x1), some (.inl x2), some (.inl x3)], [.inl (m.1 8 u3 0), .inl x3], am_mk m)) rfl ?_
    by_cases hc5 : (m.1 8 u3 0) ≤ x3
    · rw [if_pos hc5] at h
      refine am_Go.c1 htb (S' := (89, [some (.inr (.inr (some (1, 0)))), some (.inl x1), some (.inl x2), some (.inl x3)], [], am_mk m)) (if_pos hc5) ?_
      cases h
      exact am_Go.fg (by exact ⟨rfl, ⟨rfl, ⟨rfl, trivial⟩⟩⟩) hk
    · rw [if_neg hc5] at h
      refine am_Go.c1 htb (S' := (18, [some (.inr (.inr (some (1, 0)))), some (.inl x1), some (.inl x2), some (.inl x3)], [], am_mk m)) (if_neg hc5) ?_
      refine am_Go.n htb 6 (S' := (24, [some (.inr (.inr (some (1, 0)))), some (.inl x1), some (.inl x2), some (.inl x3)], [.inl 1, .inl ((x1 >>> (x3 &&& 31)) &&& (1 : Int32))], am_mk m)) rfl ?_
      obtain ⟨q24, h25, h⟩ := am_bd h
      refine am_Go.cut (S := (83, [some (.inr (.inr (some (1, 0)))), some (.inl x1), some (.inl x2), some (.inl x3)], [], am_mk q24)) ?_ (fun key => ?_)
      · refine am_Go.n htb 2 (S' := (7, [some (.inr (.inr (some (1, 0)))), some (.inl x1), some (.inl x2), some (.inl (x3 + 1))], [], am_mk q24)) rfl ?_
        first | exact ih h | exact ih h hk
      · have h := h25
        by_cases hc6 : ((x1 >>> (x3 &&& 31)) &&& (1 : Int32)) ≠ (1 : Int32)
        · rw [if_pos hc6] at h
          refine am_Go.c1 htb (S' := (83, [some (.inr (.inr (some (1, 0)))), some (.inl x1), some (.inl x2), some (.inl x3)], [], am_mk m)) (if_pos hc6) ?_
          cases h
          exact am_Go.fg (by exact ⟨rfl, ⟨rfl, ⟨rfl, ⟨rfl, trivial⟩⟩⟩⟩) key
        · rw [if_neg hc6] at h
          refine am_Go.c1 htb (S' := (27, [some (.inr (.inr (some (1, 0)))), some (.inl x1), some (.inl x2), some (.inl x3)], [], am_mk m)) (if_neg hc6) ?_
          refine am_Go.n htb 3 (S' := (30, [some (.inr (.inr (some (1, 0)))), some (.inl x1), some (.inl x2), some (.inl x3)], [.inr (.inr (some (1, 0))), .inl x3, .inr (.inr (some (1, 0)))], am_mk m)) rfl ?_
          obtain ⟨u7, hu8, h⟩ := am_bd h
          refine am_Go.o htb (am_o_gf 1 0 11) rfl (S' := (33, [some (.inr (.inr (some (1, 0)))), some (.inl x1), some (.inl x2), some (.inl x3)], [.inr (.inr (some (8, u7))), .inl x3, .inr (.inr (some (1, 0)))], am_mk m)) (am_gfd hu8) ?_
          refine am_Go.n htb 2 (S' := (37, [some (.inr (.inr (some (1, 0)))), some (.inl x1), some (.inl x2), some (.inl x3)], [.inl x3, .inr (.inr (some (36, u7))), .inl x3, .inr (.inr (some (1, 0)))], am_mk m)) rfl ?_
          obtain ⟨hg9, h⟩ := am_ck_some h
          refine am_Go.c1 htb (S' := (38, [some (.inr (.inr (some (1, 0)))), some (.inl x1), some (.inl x2), some (.inl x3)], [.inl (m.1 36 u7 x3.toNatClampNeg), .inl x3, .inr (.inr (some (1, 0)))], am_mk m)) (if_neg hg9) ?_
          refine am_Go.n htb 2 (S' := (40, [some (.inr (.inr (some (1, 0)))), some (.inl x1), some (.inl x2), some (.inl x3)], [.inr (.inr (some (1, 0))), .inl x2, .inl (m.1 36 u7 x3.toNatClampNeg), .inl x3, .inr (.inr (some (1, 0)))], am_mk m)) rfl ?_
          obtain ⟨u10, hu11, h⟩ := am_bd h
          refine am_Go.o htb (am_o_gf 1 0 11) rfl (S' := (43, [some (.inr (.inr (some (1, 0)))), some (.inl x1), some (.inl x2), some (.inl x3)], [.inr (.inr (some (8, u10))), .inl x2, .inl (m.1 36 u7 x3.toNatClampNeg), .inl x3, .inr (.inr (some (1, 0)))], am_mk m)) (am_gfd hu11) ?_
          refine am_Go.n htb 3 (S' := (48, [some (.inr (.inr (some (1, 0)))), some (.inl x1), some (.inl x2), some (.inl x3)], [.inl (m.1 39 u10 0), .inl x2, .inl (m.1 36 u7 x3.toNatClampNeg), .inl x3, .inr (.inr (some (1, 0)))], am_mk m)) rfl ?_
          obtain ⟨r12, h13, h⟩ := am_bd h
          refine am_Go.cl htb rfl (ex_X1_knowOne d (by omega) x3 (m.1 36 u7 x3.toNatClampNeg) x2 (m.1 39 u10 0) m r12 h13) ?_
          show am_Go d 13 (51, [some (.inr (.inr (some (1, 0)))), some (.inl x1), some (.inl x2), some (.inl x3)], [], am_mk r12) _ _ _ _
          refine am_Go.n htb 1 (S' := (52, [some (.inr (.inr (some (1, 0)))), some (.inl x1), some (.inl x2), some (.inl x3)], [.inr (.inr (some (1, 0)))], am_mk r12)) rfl ?_
          obtain ⟨u14, hu15, h⟩ := am_bd h
          refine am_Go.o htb (am_o_gf 1 0 11) rfl (S' := (55, [some (.inr (.inr (some (1, 0)))), some (.inl x1), some (.inl x2), some (.inl x3)], [.inr (.inr (some (8, u14)))], am_mk r12)) (am_gfd hu15) ?_
          refine am_Go.n htb 4 (S' := (62, [some (.inr (.inr (some (1, 0)))), some (.inl x1), some (.inl x2), some (.inl x3)], [.inr (.inr (some (1, 0))), .inl 9, .inl x3, .inr (.inr (some (36, u14)))], am_mk r12)) rfl ?_
          obtain ⟨u16, hu17, h⟩ := am_bd h
          refine am_Go.o htb (am_o_gf 1 0 11) rfl (S' := (65, [some (.inr (.inr (some (1, 0)))), some (.inl x1), some (.inl x2), some (.inl x3)], [.inr (.inr (some (8, u16))), .inl 9, .inl x3, .inr (.inr (some (36, u14)))], am_mk r12)) (am_gfd hu17) ?_
          refine am_Go.n htb 2 (S' := (69, [some (.inr (.inr (some (1, 0)))), some (.inl x1), some (.inl x2), some (.inl x3)], [.inl x3, .inr (.inr (some (36, u16))), .inl 9, .inl x3, .inr (.inr (some (36, u14)))], am_mk r12)) rfl ?_
          obtain ⟨hg18, h⟩ := am_ck_some h
          refine am_Go.c1 htb (S' := (70, [some (.inr (.inr (some (1, 0)))), some (.inl x1), some (.inl x2), some (.inl x3)], [.inl (r12.1 36 u16 x3.toNatClampNeg), .inl 9, .inl x3, .inr (.inr (some (36, u14)))], am_mk r12)) (if_neg hg18) ?_
          refine am_Go.n htb 3 (S' := (75, [some (.inr (.inr (some (1, 0)))), some (.inl x1), some (.inl x2), some (.inl x3)], [.inl 2, .inl 267, .inr (.inr (some (1, 0))), .inl (r12.1 36 u16 x3.toNatClampNeg), .inl 9, .inl x3, .inr (.inr (some (36, u14)))], am_mk r12)) rfl ?_
          obtain ⟨r19, h20, h⟩ := am_bd h
          refine am_Go.cl htb rfl (ex_X1_tellsLaw d (by omega) 267 2 r12 r19 h20) ?_
          show am_Go d 13 (78, [some (.inr (.inr (some (1, 0)))), some (.inl x1), some (.inl x2), some (.inl x3)], [.inl r19.1, .inl (r12.1 36 u16 x3.toNatClampNeg), .inl 9, .inl x3, .inr (.inr (some (36, u14)))], am_mk r19.2) _ _ _ _
          refine am_Go.n htb 1 (S' := (79, [some (.inr (.inr (some (1, 0)))), some (.inl x1), some (.inl x2), some (.inl x3)], [.inl ((r12.1 36 u16 x3.toNatClampNeg) + r19.1), .inl 9, .inl x3, .inr (.inr (some (36, u14)))], am_mk r19.2)) rfl ?_
          obtain ⟨r21, h22, h⟩ := am_bd h
          refine am_Go.cl htb rfl (ex_J9_min_7cf53 d (by omega) 9 ((r12.1 36 u16 x3.toNatClampNeg) + r19.1) r19.2 r21 h22) ?_
          show am_Go d 13 (82, [some (.inr (.inr (some (1, 0)))), some (.inl x1), some (.inl x2), some (.inl x3)], [.inl r21, .inl x3, .inr (.inr (some (36, u14)))], am_mk r19.2) _ _ _ _
          obtain ⟨hg23, h⟩ := am_ck_some h
          refine am_Go.c1 htb (S' := (83, [some (.inr (.inr (some (1, 0)))), some (.inl x1), some (.inl x2), some (.inl x3)], [], am_mk (am_si r19.2 36 u14 x3.toNatClampNeg r21))) (if_neg hg23) ?_
          cases h
          exact am_Go.fg (by exact ⟨rfl, ⟨rfl, ⟨rfl, ⟨rfl, trivial⟩⟩⟩⟩) key
set_option maxRecDepth 100000 in
theorem ex_X1_feedTable (d : Nat) (hd : 4 ≤ d) (a1 : Int32) (m : am_m) (t : am_m) (h : fn_X1_feedTable a1 m = some t) : am_Ex am_cod d 13 [.inr (.inr (some (1, 0))), .inl a1] (am_mk m) (none) (am_mk t) 0 0 := by
  obtain ⟨d, rfl⟩ : ∃ e, d = e + 1 := ⟨d - 1, by omega⟩
  have htb : am_tab 13 = at_13 := rfl
  refine ⟨Nat.le_of_ble_eq_true rfl, ?_⟩
  unfold fn_X1_feedTable at h
  show am_Go d 13 (0, [some (.inr (.inr (some (1, 0)))), some (.inl a1), none, none], [], am_mk m) _ _ 0 0
  refine am_Go.n htb 1 (S' := (1, [some (.inr (.inr (some (1, 0)))), some (.inl a1), none, none], [.inl a1], am_mk m)) rfl ?_
  obtain ⟨r1, h2, h⟩ := am_bd h
  refine am_Go.cl htb rfl (ex_J6_bitCount_0f7a4 d (by omega) a1 m r1 h2) ?_
  show am_Go d 13 (4, [some (.inr (.inr (some (1, 0)))), some (.inl a1), none, none], [.inl r1], am_mk m) _ _ _ _
  refine am_Go.n htb 3 (S' := (7, [some (.inr (.inr (some (1, 0)))), some (.inl a1), some (.inl r1), some (.inl 0)], [], am_mk m)) rfl ?_
  obtain ⟨q26, h27, h⟩ := am_bd h
  refine lt_X1_feedTable_7 _ hd (h := h27) (hk := ?_)
  cases h
  exact am_Go.rt htb rfl
-- X1_passDay
set_option maxRecDepth 100000 in
theorem lt_X1_passDay_2 (d : Nat) (hd : 5 ≤ d + 1) {r : Option am_V} {M' : am_M} {kc ks : Nat} {n : Nat} {x1 : Int32} {m : am_m} {t : am_m} (h : lp_X1_passDay_2 n x1 m = some t) (hk : am_Go d 14 (65, [some (.inr (.inr (some (1, 0)))), none], [], am_mk t) r M' kc ks) : am_Go d 14 (2, [some (.inr (.inr (some (1, 0)))), some (.inl x1)], [], am_mk m) r M' kc ks := by
  have htb : am_tab 14 = at_14 := rfl
  induction n generalizing x1 m with
  | zero => cases h
  | succ n ih =>
    unfold lp_X1_passDay_2 at h
    refine am_Go.n htb 2 (S' := (4, [some (.inr (.inr (some (1, 0)))), some (.inl x1)], [.inr (.inr (some (1, 0))), .inl x1], am_mk m)) rfl ?_
    obtain ⟨u1, hu2, h⟩ := am_bd h
    refine am_Go.o htb (am_o_gf 1 0 11) rfl (S' := (7, [some (.inr (.inr (some (1, 0)))), some (.inl x1)], [.inr (.inr (some (8, u1))), .inl x1], am_mk m)) (am_gfd hu2) ?_
    refine am_Go.n htb 1 (S' := (10, [some (.inr (.inr (some (1, 0)))), some (.inl x1)], [.inl (m.1 8 u1 0), .inl x1], am_mk m)) rfl ?_
    by_cases hc3 : (m.1 8 u1 0) ≤ x1
    · rw [if_pos hc3] at h
      refine am_Go.c1 htb (S' := (65, [some (.inr (.inr (some (1, 0)))), some (.inl x1)], [], am_mk m)) (if_pos hc3) ?_
      cases h
      exact am_Go.fg (by exact ⟨rfl, trivial⟩) hk
    · rw [if_neg hc3] at h
      refine am_Go.c1 htb (S' := (13, [some (.inr (.inr (some (1, 0)))), some (.inl x1)], [], am_mk m)) (if_neg hc3) ?_
      refine am_Go.n htb 1 (S' := (14, [some (.inr (.inr (some (1, 0)))), some (.inl x1)], [.inr (.inr (some (1, 0)))], am_mk m)) rfl ?_
      obtain ⟨u4, hu5, h⟩ := am_bd h
      refine am_Go.o htb (am_o_gf 1 0 11) rfl (S' := (17, [some (.inr (.inr (some (1, 0)))), some (.inl x1)], [.inr (.inr (some (8, u4)))], am_mk m)) (am_gfd hu5) ?_
      refine am_Go.n htb 4 (S' := (23, [some (.inr (.inr (some (1, 0)))), some (.inl x1)], [.inr (.inr (some (1, 0))), .inl 0, .inl x1, .inr (.inr (some (36, u4)))], am_mk m)) rfl ?_
      obtain ⟨u6, hu7, h⟩ := am_bd h
      refine am_Go.o htb (am_o_gf 1 0 11) rfl (S' := (26, [some (.inr (.inr (some (1, 0)))), some (.inl x1)], [.inr (.inr (some (8, u6))), .inl 0, .inl x1, .inr (.inr (some (36, u4)))], am_mk m)) (am_gfd hu7) ?_
      refine am_Go.n htb 2 (S' := (30, [some (.inr (.inr (some (1, 0)))), some (.inl x1)], [.inl x1, .inr (.inr (some (36, u6))), .inl 0, .inl x1, .inr (.inr (some (36, u4)))], am_mk m)) rfl ?_
      obtain ⟨hg8, h⟩ := am_ck_some h
      refine am_Go.c1 htb (S' := (31, [some (.inr (.inr (some (1, 0)))), some (.inl x1)], [.inl (m.1 36 u6 x1.toNatClampNeg), .inl 0, .inl x1, .inr (.inr (some (36, u4)))], am_mk m)) (if_neg hg8) ?_
      refine am_Go.n htb 3 (S' := (34, [some (.inr (.inr (some (1, 0)))), some (.inl x1)], [.inr (.inr (some (1, 0))), .inl x1, .inr (.inr (some (1, 0))), .inl (m.1 36 u6 x1.toNatClampNeg), .inl 0, .inl x1, .inr (.inr (some (36, u4)))], am_mk m)) rfl ?_
      obtain ⟨u9, hu10, h⟩ := am_bd h
      refine am_Go.o htb (am_o_gf 1 0 11) rfl (S' := (37, [some (.inr (.inr (some (1, 0)))), some (.inl x1)], [.inr (.inr (some (8, u9))), .inl x1, .inr (.inr (some (1, 0))), .inl (m.1 36 u6 x1.toNatClampNeg), .inl 0, .inl x1, .inr (.inr (some (36, u4)))], am_mk m)) (am_gfd hu10) ?_
      refine am_Go.n htb 2 (S' := (41, [some (.inr (.inr (some (1, 0)))), some (.inl x1)], [.inl x1, .inr (.inr (some (36, u9))), .inl x1, .inr (.inr (some (1, 0))), .inl (m.1 36 u6 x1.toNatClampNeg), .inl 0, .inl x1, .inr (.inr (some (36, u4)))], am_mk m)) rfl ?_
      obtain ⟨hg11, h⟩ := am_ck_some h
      refine am_Go.c1 htb (S' := (42, [some (.inr (.inr (some (1, 0)))), some (.inl x1)], [.inl (m.1 36 u9 x1.toNatClampNeg), .inl x1, .inr (.inr (some (1, 0))), .inl (m.1 36 u6 x1.toNatClampNeg), .inl 0, .inl x1, .inr (.inr (some (36, u4)))], am_mk m)) (if_neg hg11) ?_
      refine am_Go.n htb 1 (S' := (43, [some (.inr (.inr (some (1, 0)))), some (.inl x1)], [.inr (.inr (some (1, 0))), .inl (m.1 36 u9 x1.toNatClampNeg), .inl x1, .inr (.inr (some (1, 0))), .inl (m.1 36 u6 x1.toNatClampNeg), .inl 0, .inl x1, .inr (.inr (some (36, u4)))], am_mk m)) rfl ?_
      obtain ⟨u12, hu13, h⟩ := am_bd h
      refine am_Go.o htb (am_o_gf 1 0 11) rfl (S' := (46, [some (.inr (.inr (some (1, 0)))), some (.inl x1)], [.inr (.inr (some (8, u12))), .inl (m.1 36 u9 x1.toNatClampNeg), .inl x1, .inr (.inr (some (1, 0))), .inl (m.1 36 u6 x1.toNatClampNeg), .inl 0, .inl x1, .inr (.inr (some (36, u4)))], am_mk m)) (am_gfd hu13) ?_
      refine am_Go.n htb 3 (S' := (51, [some (.inr (.inr (some (1, 0)))), some (.inl x1)], [.inl (m.1 39 u12 0), .inl (m.1 36 u9 x1.toNatClampNeg), .inl x1, .inr (.inr (some (1, 0))), .inl (m.1 36 u6 x1.toNatClampNeg), .inl 0, .inl x1, .inr (.inr (some (36, u4)))], am_mk m)) rfl ?_
      obtain ⟨r14, h15, h⟩ := am_bd h
      refine am_Go.cl htb rfl (ex_X1_hungerOf d (by omega) x1 (m.1 36 u9 x1.toNatClampNeg) (m.1 39 u12 0) m r14 h15) ?_
      show am_Go d 14 (54, [some (.inr (.inr (some (1, 0)))), some (.inl x1)], [.inl r14.1, .inl (m.1 36 u6 x1.toNatClampNeg), .inl 0, .inl x1, .inr (.inr (some (36, u4)))], am_mk r14.2) _ _ _ _
      refine am_Go.n htb 1 (S' := (55, [some (.inr (.inr (some (1, 0)))), some (.inl x1)], [.inl ((m.1 36 u6 x1.toNatClampNeg) - r14.1), .inl 0, .inl x1, .inr (.inr (some (36, u4)))], am_mk r14.2)) rfl ?_
      obtain ⟨r16, h17, h⟩ := am_bd h
      refine am_Go.cl htb rfl (ex_J9_max_7cf53 d (by omega) 0 ((m.1 36 u6 x1.toNatClampNeg) - r14.1) r14.2 r16 h17) ?_
      show am_Go d 14 (58, [some (.inr (.inr (some (1, 0)))), some (.inl x1)], [.inl r16, .inl x1, .inr (.inr (some (36, u4)))], am_mk r14.2) _ _ _ _
      obtain ⟨hg18, h⟩ := am_ck_some h
      refine am_Go.c1 htb (S' := (59, [some (.inr (.inr (some (1, 0)))), some (.inl x1)], [], am_mk (am_si r14.2 36 u4 x1.toNatClampNeg r16))) (if_neg hg18) ?_
      refine am_Go.n htb 2 (S' := (2, [some (.inr (.inr (some (1, 0)))), some (.inl (x1 + 1))], [], am_mk (am_si r14.2 36 u4 x1.toNatClampNeg r16))) rfl ?_
      first | exact ih h | exact ih h hk
set_option maxRecDepth 100000 in
theorem ex_X1_passDay (d : Nat) (hd : 5 ≤ d)  (m : am_m) (t : am_m) (h : fn_X1_passDay  m = some t) : am_Ex am_cod d 14 [.inr (.inr (some (1, 0)))] (am_mk m) (none) (am_mk t) 0 0 := by
  obtain ⟨d, rfl⟩ : ∃ e, d = e + 1 := ⟨d - 1, by omega⟩
  have htb : am_tab 14 = at_14 := rfl
  refine ⟨Nat.le_of_ble_eq_true rfl, ?_⟩
  unfold fn_X1_passDay at h
  show am_Go d 14 (0, [some (.inr (.inr (some (1, 0)))), none], [], am_mk m) _ _ 0 0
  refine am_Go.n htb 2 (S' := (2, [some (.inr (.inr (some (1, 0)))), some (.inl 0)], [], am_mk m)) rfl ?_
  obtain ⟨q19, h20, h⟩ := am_bd h
  refine lt_X1_passDay_2 _ hd (h := h20) (hk := ?_)
  refine am_Go.n htb 1 (S' := (66, [some (.inr (.inr (some (1, 0)))), none], [.inr (.inr (some (1, 0)))], am_mk q19)) rfl ?_
  obtain ⟨u21, hu22, h⟩ := am_bd h
  refine am_Go.o htb (am_o_gf 1 0 11) rfl (S' := (69, [some (.inr (.inr (some (1, 0)))), none], [.inr (.inr (some (8, u21)))], am_mk q19)) (am_gfd hu22) ?_
  refine am_Go.n htb 7 (S' := (78, [some (.inr (.inr (some (1, 0)))), none], [], am_mk (am_si q19 39 u21 0 ((q19.1 39 u21 0) + (1 : Int32))))) rfl ?_
  cases h
  exact am_Go.rt htb rfl
-- X6_isThere
set_option maxRecDepth 100000 in
theorem ex_X6_isThere (d : Nat) (hd : 1 ≤ d) (a1 : Int32) (m : am_m) (t : Int32) (h : fn_X6_isThere a1 m = some t) : am_Ex am_cod d 69 [.inr (.inr (some (6, 0))), .inl a1] (am_mk m) (some (.inl t)) (am_mk m) 0 0 := by
  obtain ⟨d, rfl⟩ : ∃ e, d = e + 1 := ⟨d - 1, by omega⟩
  have htb : am_tab 69 = at_69 := rfl
  refine ⟨Nat.le_of_ble_eq_true rfl, ?_⟩
  unfold fn_X6_isThere at h
  show am_Go d 69 (0, [some (.inr (.inr (some (6, 0)))), some (.inl a1)], [], am_mk m) _ _ 0 0
  refine am_Go.n htb 1 (S' := (1, [some (.inr (.inr (some (6, 0)))), some (.inl a1)], [.inl a1], am_mk m)) rfl ?_
  by_cases hc1 : a1 < 0
  · rw [if_pos hc1] at h
    refine am_Go.c1 htb (S' := (16, [some (.inr (.inr (some (6, 0)))), some (.inl a1)], [], am_mk m)) (if_pos hc1) ?_
    refine am_Go.n htb 1 (S' := (17, [some (.inr (.inr (some (6, 0)))), some (.inl a1)], [.inl 0], am_mk m)) rfl ?_
    cases h
    exact am_Go.rt htb rfl
  · rw [if_neg hc1] at h
    refine am_Go.c1 htb (S' := (4, [some (.inr (.inr (some (6, 0)))), some (.inl a1)], [], am_mk m)) (if_neg hc1) ?_
    refine am_Go.n htb 3 (S' := (9, [some (.inr (.inr (some (6, 0)))), some (.inl a1)], [.inl (m.1 6 0 0), .inl a1], am_mk m)) rfl ?_
    by_cases hc2 : (m.1 6 0 0) ≤ a1
    · rw [if_pos hc2] at h
      refine am_Go.c1 htb (S' := (16, [some (.inr (.inr (some (6, 0)))), some (.inl a1)], [], am_mk m)) (if_pos hc2) ?_
      refine am_Go.n htb 1 (S' := (17, [some (.inr (.inr (some (6, 0)))), some (.inl a1)], [.inl 0], am_mk m)) rfl ?_
      cases h
      exact am_Go.rt htb rfl
    · rw [if_neg hc2] at h
      refine am_Go.c1 htb (S' := (12, [some (.inr (.inr (some (6, 0)))), some (.inl a1)], [], am_mk m)) (if_neg hc2) ?_
      refine am_Go.n htb 2 (S' := (17, [some (.inr (.inr (some (6, 0)))), some (.inl a1)], [.inl 1], am_mk m)) rfl ?_
      cases h
      exact am_Go.rt htb rfl
-- X6_mayOf
set_option maxRecDepth 100000 in
theorem ex_X6_mayOf (d : Nat) (hd : 2 ≤ d) (a1 : Int32) (m : am_m) (t : Int32) (h : fn_X6_mayOf a1 m = some t) : am_Ex am_cod d 70 [.inr (.inr (some (6, 0))), .inl a1] (am_mk m) (some (.inl t)) (am_mk m) 0 0 := by
  obtain ⟨d, rfl⟩ : ∃ e, d = e + 1 := ⟨d - 1, by omega⟩
  have htb : am_tab 70 = at_70 := rfl
  refine ⟨Nat.le_of_ble_eq_true rfl, ?_⟩
  unfold fn_X6_mayOf at h
  show am_Go d 70 (0, [some (.inr (.inr (some (6, 0)))), some (.inl a1)], [], am_mk m) _ _ 0 0
  refine am_Go.n htb 2 (S' := (2, [some (.inr (.inr (some (6, 0)))), some (.inl a1)], [.inl a1, .inr (.inr (some (6, 0)))], am_mk m)) rfl ?_
  obtain ⟨r1, h2, h⟩ := am_bd h
  refine am_Go.cl htb rfl (ex_X6_isThere d (by omega) a1 m r1 h2) ?_
  show am_Go d 70 (5, [some (.inr (.inr (some (6, 0)))), some (.inl a1)], [.inl r1], am_mk m) _ _ _ _
  by_cases hc3 : r1 = 0
  · rw [if_pos hc3] at h
    refine am_Go.c1 htb (S' := (17, [some (.inr (.inr (some (6, 0)))), some (.inl a1)], [], am_mk m)) (if_pos hc3) ?_
    refine am_Go.n htb 1 (S' := (18, [some (.inr (.inr (some (6, 0)))), some (.inl a1)], [.inl 0], am_mk m)) rfl ?_
    cases h
    exact am_Go.rt htb rfl
  · rw [if_neg hc3] at h
    refine am_Go.c1 htb (S' := (8, [some (.inr (.inr (some (6, 0)))), some (.inl a1)], [], am_mk m)) (if_neg hc3) ?_
    refine am_Go.n htb 3 (S' := (13, [some (.inr (.inr (some (6, 0)))), some (.inl a1)], [.inl a1, .inr (.inr (some (30, 0)))], am_mk m)) rfl ?_
    obtain ⟨hg4, h⟩ := am_ck_some h
    refine am_Go.c1 htb (S' := (14, [some (.inr (.inr (some (6, 0)))), some (.inl a1)], [.inl (m.1 30 0 a1.toNatClampNeg)], am_mk m)) (if_neg hg4) ?_
    refine am_Go.n htb 1 (S' := (18, [some (.inr (.inr (some (6, 0)))), some (.inl a1)], [.inl (m.1 30 0 a1.toNatClampNeg)], am_mk m)) rfl ?_
    cases h
    exact am_Go.rt htb rfl
-- X6_barsOf
set_option maxRecDepth 100000 in
theorem ex_X6_barsOf (d : Nat) (hd : 2 ≤ d) (a1 : Int32) (m : am_m) (t : Int32) (h : fn_X6_barsOf a1 m = some t) : am_Ex am_cod d 71 [.inr (.inr (some (6, 0))), .inl a1] (am_mk m) (some (.inl t)) (am_mk m) 0 0 := by
  obtain ⟨d, rfl⟩ : ∃ e, d = e + 1 := ⟨d - 1, by omega⟩
  have htb : am_tab 71 = at_71 := rfl
  refine ⟨Nat.le_of_ble_eq_true rfl, ?_⟩
  unfold fn_X6_barsOf at h
  show am_Go d 71 (0, [some (.inr (.inr (some (6, 0)))), some (.inl a1)], [], am_mk m) _ _ 0 0
  refine am_Go.n htb 2 (S' := (2, [some (.inr (.inr (some (6, 0)))), some (.inl a1)], [.inl a1, .inr (.inr (some (6, 0)))], am_mk m)) rfl ?_
  obtain ⟨r1, h2, h⟩ := am_bd h
  refine am_Go.cl htb rfl (ex_X6_isThere d (by omega) a1 m r1 h2) ?_
  show am_Go d 71 (5, [some (.inr (.inr (some (6, 0)))), some (.inl a1)], [.inl r1], am_mk m) _ _ _ _
  by_cases hc3 : r1 = 0
  · rw [if_pos hc3] at h
    refine am_Go.c1 htb (S' := (17, [some (.inr (.inr (some (6, 0)))), some (.inl a1)], [], am_mk m)) (if_pos hc3) ?_
    refine am_Go.n htb 1 (S' := (18, [some (.inr (.inr (some (6, 0)))), some (.inl a1)], [.inl 0], am_mk m)) rfl ?_
    cases h
    exact am_Go.rt htb rfl
  · rw [if_neg hc3] at h
    refine am_Go.c1 htb (S' := (8, [some (.inr (.inr (some (6, 0)))), some (.inl a1)], [], am_mk m)) (if_neg hc3) ?_
    refine am_Go.n htb 3 (S' := (13, [some (.inr (.inr (some (6, 0)))), some (.inl a1)], [.inl a1, .inr (.inr (some (31, 0)))], am_mk m)) rfl ?_
    obtain ⟨hg4, h⟩ := am_ck_some h
    refine am_Go.c1 htb (S' := (14, [some (.inr (.inr (some (6, 0)))), some (.inl a1)], [.inl (m.1 31 0 a1.toNatClampNeg)], am_mk m)) (if_neg hg4) ?_
    refine am_Go.n htb 1 (S' := (18, [some (.inr (.inr (some (6, 0)))), some (.inl a1)], [.inl (m.1 31 0 a1.toNatClampNeg)], am_mk m)) rfl ?_
    cases h
    exact am_Go.rt htb rfl
-- X2_isAllowed
set_option maxRecDepth 100000 in
theorem ex_X2_isAllowed (d : Nat) (hd : 3 ≤ d) (a1 : Int32) (a2 : Int32) (m : am_m) (t : Int32) (h : fn_X2_isAllowed a1 a2 m = some t) : am_Ex am_cod d 26 [.inr (.inr (some (2, 0))), .inl a1, .inl a2] (am_mk m) (some (.inl t)) (am_mk m) 0 0 := by
  obtain ⟨d, rfl⟩ : ∃ e, d = e + 1 := ⟨d - 1, by omega⟩
  have htb : am_tab 26 = at_26 := rfl
  refine ⟨Nat.le_of_ble_eq_true rfl, ?_⟩
  unfold fn_X2_isAllowed at h
  show am_Go d 26 (0, [some (.inr (.inr (some (2, 0)))), some (.inl a1), some (.inl a2)], [], am_mk m) _ _ 0 0
  refine am_Go.n htb 2 (S' := (4, [some (.inr (.inr (some (2, 0)))), some (.inl a1), some (.inl a2)], [.inl (m.1 2 0 1)], am_mk m)) rfl ?_
  by_cases hc1 : (m.1 2 0 1) = 0
  · rw [if_pos hc1] at h
    refine am_Go.c1 htb (S' := (30, [some (.inr (.inr (some (2, 0)))), some (.inl a1), some (.inl a2)], [], am_mk m)) (if_pos hc1) ?_
    refine am_Go.n htb 4 (S' := (36, [some (.inr (.inr (some (2, 0)))), some (.inl a1), some (.inl a2)], [.inl a1, .inr (.inr (some (6, 0))), .inl a2], am_mk m)) rfl ?_
    obtain ⟨r2, h3, h⟩ := am_bd h
    refine am_Go.cl htb rfl (ex_X6_barsOf d (by omega) a1 m r2 h3) ?_
    show am_Go d 26 (39, [some (.inr (.inr (some (2, 0)))), some (.inl a1), some (.inl a2)], [.inl r2, .inl a2], am_mk m) _ _ _ _
    refine am_Go.n htb 1 (S' := (40, [some (.inr (.inr (some (2, 0)))), some (.inl a1), some (.inl a2)], [.inl (a2 &&& r2)], am_mk m)) rfl ?_
    by_cases hc4 : (a2 &&& r2) ≠ 0
    · rw [if_pos hc4] at h
      refine am_Go.c1 htb (S' := (47, [some (.inr (.inr (some (2, 0)))), some (.inl a1), some (.inl a2)], [], am_mk m)) (if_pos hc4) ?_
      refine am_Go.n htb 1 (S' := (48, [some (.inr (.inr (some (2, 0)))), some (.inl a1), some (.inl a2)], [.inl 0], am_mk m)) rfl ?_
      cases h
      exact am_Go.rt htb rfl
    · rw [if_neg hc4] at h
      refine am_Go.c1 htb (S' := (43, [some (.inr (.inr (some (2, 0)))), some (.inl a1), some (.inl a2)], [], am_mk m)) (if_neg hc4) ?_
      refine am_Go.n htb 2 (S' := (48, [some (.inr (.inr (some (2, 0)))), some (.inl a1), some (.inl a2)], [.inl 1], am_mk m)) rfl ?_
      cases h
      exact am_Go.rt htb rfl
  · rw [if_neg hc1] at h
    refine am_Go.c1 htb (S' := (7, [some (.inr (.inr (some (2, 0)))), some (.inl a1), some (.inl a2)], [], am_mk m)) (if_neg hc1) ?_
    refine am_Go.n htb 4 (S' := (13, [some (.inr (.inr (some (2, 0)))), some (.inl a1), some (.inl a2)], [.inl a1, .inr (.inr (some (6, 0))), .inl a2], am_mk m)) rfl ?_
    obtain ⟨r5, h6, h⟩ := am_bd h
    refine am_Go.cl htb rfl (ex_X6_mayOf d (by omega) a1 m r5 h6) ?_
    show am_Go d 26 (16, [some (.inr (.inr (some (2, 0)))), some (.inl a1), some (.inl a2)], [.inl r5, .inl a2], am_mk m) _ _ _ _
    refine am_Go.n htb 3 (S' := (19, [some (.inr (.inr (some (2, 0)))), some (.inl a1), some (.inl a2)], [.inl (a2 &&& (r5 ^^^ (-1 : Int32)))], am_mk m)) rfl ?_
    by_cases hc7 : (a2 &&& (r5 ^^^ (-1 : Int32))) ≠ 0
    · rw [if_pos hc7] at h
      refine am_Go.c1 htb (S' := (26, [some (.inr (.inr (some (2, 0)))), some (.inl a1), some (.inl a2)], [], am_mk m)) (if_pos hc7) ?_
      refine am_Go.n htb 2 (S' := (48, [some (.inr (.inr (some (2, 0)))), some (.inl a1), some (.inl a2)], [.inl 0], am_mk m)) rfl ?_
      cases h
      exact am_Go.rt htb rfl
    · rw [if_neg hc7] at h
      refine am_Go.c1 htb (S' := (22, [some (.inr (.inr (some (2, 0)))), some (.inl a1), some (.inl a2)], [], am_mk m)) (if_neg hc7) ?_
      refine am_Go.n htb 2 (S' := (48, [some (.inr (.inr (some (2, 0)))), some (.inl a1), some (.inl a2)], [.inl 1], am_mk m)) rfl ?_
      cases h
      exact am_Go.rt htb rfl
-- X2_keepIfCheaper
set_option maxRecDepth 100000 in
theorem lt_X2_keepIfCheaper_2 (d : Nat) (hd : 2 ≤ d + 1) {r : Option am_V} {M' : am_M} {kc ks : Nat} {n : Nat} {x1 : Int32} {x2 : Int32} {x3 : Int32} {m : am_m} {t : Sum (Unit) (am_m)} (h : lp_X2_keepIfCheaper_2 n x1 x2 x3 m = some t) (hk : ∀ t', t = .inl t' → am_Go d 27 (33, [some (.inr (.inr (some (2, 0)))), some (.inl x1), some (.inl x2), none], [], am_mk m) r M' kc ks) (hr : ∀ t', t = .inr t' → r = none ∧ M' = am_mk t' ∧ kc = 0 ∧ ks = 0) : am_Go d 27 (2, [some (.inr (.inr (some (2, 0)))), some (.inl x1), some (.inl x2), some (.inl x3)], [], am_mk m) r M' kc ks := by
  have htb : am_tab 27 = at_27 := rfl
  induction n generalizing x3 with
  | zero => cases h
  | succ n ih =>
    unfold lp_X2_keepIfCheaper_2 at h
    refine am_Go.n htb 2 (S' := (4, [some (.inr (.inr (some (2, 0)))), some (.inl x1), some (.inl x2), some (.inl x3)], [.inl x1, .inl x3], am_mk m)) rfl ?_
    by_cases hc1 : x1 ≤ x3
    · rw [if_pos hc1] at h
      refine am_Go.c1 htb (S' := (33, [some (.inr (.inr (some (2, 0)))), some (.inl x1), some (.inl x2), some (.inl x3)], [], am_mk m)) (if_pos hc1) ?_
      cases h
      exact am_Go.fg (by exact ⟨rfl, ⟨rfl, ⟨rfl, trivial⟩⟩⟩) (hk _ rfl)
    · rw [if_neg hc1] at h
      refine am_Go.c1 htb (S' := (7, [some (.inr (.inr (some (2, 0)))), some (.inl x1), some (.inl x2), some (.inl x3)], [], am_mk m)) (if_neg hc1) ?_
      refine am_Go.n htb 2 (S' := (10, [some (.inr (.inr (some (2, 0)))), some (.inl x1), some (.inl x2), some (.inl x3)], [.inl 7, .inl x3], am_mk m)) rfl ?_
      by_cases hc2 : (7 : Int32) ≤ x3
      · rw [if_pos hc2] at h
        refine am_Go.c1 htb (S' := (33, [some (.inr (.inr (some (2, 0)))), some (.inl x1), some (.inl x2), some (.inl x3)], [], am_mk m)) (if_pos hc2) ?_
        cases h
        exact am_Go.fg (by exact ⟨rfl, ⟨rfl, ⟨rfl, trivial⟩⟩⟩) (hk _ rfl)
      · rw [if_neg hc2] at h
        refine am_Go.c1 htb (S' := (13, [some (.inr (.inr (some (2, 0)))), some (.inl x1), some (.inl x2), some (.inl x3)], [], am_mk m)) (if_neg hc2) ?_
        refine am_Go.n htb 3 (S' := (18, [some (.inr (.inr (some (2, 0)))), some (.inl x1), some (.inl x2), some (.inl x3)], [.inl x3, .inr (.inr (some (21, 0)))], am_mk m)) rfl ?_
        obtain ⟨hg3, h⟩ := am_ck_some h
        refine am_Go.c1 htb (S' := (19, [some (.inr (.inr (some (2, 0)))), some (.inl x1), some (.inl x2), some (.inl x3)], [.inl (m.1 21 0 x3.toNatClampNeg)], am_mk m)) (if_neg hg3) ?_
        obtain ⟨r4, h5, h⟩ := am_bd h
        refine am_Go.cl htb rfl (ex_J6_bitCount_0f7a4 d (by omega) (m.1 21 0 x3.toNatClampNeg) m r4 h5) ?_
        show am_Go d 27 (22, [some (.inr (.inr (some (2, 0)))), some (.inl x1), some (.inl x2), some (.inl x3)], [.inl r4], am_mk m) _ _ _ _
        refine am_Go.n htb 1 (S' := (23, [some (.inr (.inr (some (2, 0)))), some (.inl x1), some (.inl x2), some (.inl x3)], [.inl 2, .inl r4], am_mk m)) rfl ?_
        by_cases hc6 : (2 : Int32) ≤ r4
        · rw [if_pos hc6] at h
          refine am_Go.c1 htb (S' := (27, [some (.inr (.inr (some (2, 0)))), some (.inl x1), some (.inl x2), some (.inl x3)], [], am_mk m)) (if_pos hc6) ?_
          refine am_Go.n htb 2 (S' := (2, [some (.inr (.inr (some (2, 0)))), some (.inl x1), some (.inl x2), some (.inl (x3 + 1))], [], am_mk m)) rfl ?_
          first | exact ih h | exact ih h hk | exact ih h hr | exact ih h hk hr
        · rw [if_neg hc6] at h
          refine am_Go.c1 htb (S' := (26, [some (.inr (.inr (some (2, 0)))), some (.inl x1), some (.inl x2), some (.inl x3)], [], am_mk m)) (if_neg hc6) ?_
          cases h
          obtain ⟨rfl, rfl, rfl, rfl⟩ := hr _ rfl
          exact am_Go.rt htb rfl
set_option maxRecDepth 100000 in
theorem ex_X2_keepIfCheaper (d : Nat) (hd : 2 ≤ d) (a1 : Int32) (a2 : Int32) (m : am_m) (t : am_m) (h : fn_X2_keepIfCheaper a1 a2 m = some t) : am_Ex am_cod d 27 [.inr (.inr (some (2, 0))), .inl a1, .inl a2] (am_mk m) (none) (am_mk t) 0 0 := by
  obtain ⟨d, rfl⟩ : ∃ e, d = e + 1 := ⟨d - 1, by omega⟩
  have htb : am_tab 27 = at_27 := rfl
  refine ⟨Nat.le_of_ble_eq_true rfl, ?_⟩
  unfold fn_X2_keepIfCheaper at h
  show am_Go d 27 (0, [some (.inr (.inr (some (2, 0)))), some (.inl a1), some (.inl a2), none], [], am_mk m) _ _ 0 0
  refine am_Go.n htb 2 (S' := (2, [some (.inr (.inr (some (2, 0)))), some (.inl a1), some (.inl a2), some (.inl 0)], [], am_mk m)) rfl ?_
  obtain ⟨w15, h8, h⟩ := am_bd h
  refine lt_X2_keepIfCheaper_2 _ hd (h := h8) (hk := ?_) (hr := ?_)
  · intro q7 he
    subst he
    dsimp only at h
    refine am_Go.n htb 2 (S' := (37, [some (.inr (.inr (some (2, 0)))), some (.inl a1), some (.inl a2), none], [.inl (m.1 2 0 1)], am_mk m)) rfl ?_
    refine am_Go.cut (S := (45, [some (.inr (.inr (some (2, 0)))), some (.inl a1), some (.inl a2), none], [.inl (if (m.1 2 0 1) = 0 then a2 else a1)], am_mk m)) ?_ (fun key => ?_)
    · refine am_Go.n htb 4 (S' := (51, [some (.inr (.inr (some (2, 0)))), some (.inl a1), some (.inl a2), some (.inl (if (m.1 2 0 1) = 0 then a2 else a1))], [.inl (-1), .inl (m.1 2 0 3)], am_mk m)) rfl ?_
      by_cases hc10 : (m.1 2 0 3) = (-1 : Int32)
      · rw [if_pos hc10] at h
        refine am_Go.c1 htb (S' := (62, [some (.inr (.inr (some (2, 0)))), some (.inl a1), some (.inl a2), some (.inl (if (m.1 2 0 1) = 0 then a2 else a1))], [], am_mk m)) (if_pos hc10) ?_
        refine am_Go.n htb 10 (S' := (79, [some (.inr (.inr (some (2, 0)))), some (.inl a1), some (.inl a2), some (.inl (if (m.1 2 0 1) = 0 then a2 else a1))], [.inl 7, .inl 0, .inr (.inr (some (23, 0))), .inl 0, .inr (.inr (some (22, 0)))], am_mk (am_si m 2 0 3 (if (m.1 2 0 1) = 0 then a2 else a1)))) rfl ?_
        obtain ⟨hz11, h⟩ := am_gd_some h
        refine am_Go.c1 htb (S' := (82, [some (.inr (.inr (some (2, 0)))), some (.inl a1), some (.inl a2), some (.inl (if (m.1 2 0 1) = 0 then a2 else a1))], [], am_mk (am_sc (am_si m 2 0 3 (if (m.1 2 0 1) = 0 then a2 else a1)) 22 0 23 0 (0 : Int32).toNatClampNeg (0 : Int32).toNatClampNeg (7 : Int32).toNatClampNeg))) (if_neg hz11) ?_
        cases h
        exact am_Go.rt htb rfl
      · rw [if_neg hc10] at h
        refine am_Go.c1 htb (S' := (54, [some (.inr (.inr (some (2, 0)))), some (.inl a1), some (.inl a2), some (.inl (if (m.1 2 0 1) = 0 then a2 else a1))], [], am_mk m)) (if_neg hc10) ?_
        refine am_Go.n htb 3 (S' := (59, [some (.inr (.inr (some (2, 0)))), some (.inl a1), some (.inl a2), some (.inl (if (m.1 2 0 1) = 0 then a2 else a1))], [.inl (m.1 2 0 3), .inl (if (m.1 2 0 1) = 0 then a2 else a1)], am_mk m)) rfl ?_
        by_cases hc12 : (m.1 2 0 3) ≤ (if (m.1 2 0 1) = 0 then a2 else a1)
        · rw [if_pos hc12] at h
          refine am_Go.c1 htb (S' := (82, [some (.inr (.inr (some (2, 0)))), some (.inl a1), some (.inl a2), some (.inl (if (m.1 2 0 1) = 0 then a2 else a1))], [], am_mk m)) (if_pos hc12) ?_
          cases h
          exact am_Go.rt htb rfl
        · rw [if_neg hc12] at h
          refine am_Go.c1 htb (S' := (62, [some (.inr (.inr (some (2, 0)))), some (.inl a1), some (.inl a2), some (.inl (if (m.1 2 0 1) = 0 then a2 else a1))], [], am_mk m)) (if_neg hc12) ?_
          refine am_Go.n htb 10 (S' := (79, [some (.inr (.inr (some (2, 0)))), some (.inl a1), some (.inl a2), some (.inl (if (m.1 2 0 1) = 0 then a2 else a1))], [.inl 7, .inl 0, .inr (.inr (some (23, 0))), .inl 0, .inr (.inr (some (22, 0)))], am_mk (am_si m 2 0 3 (if (m.1 2 0 1) = 0 then a2 else a1)))) rfl ?_
          obtain ⟨hz13, h⟩ := am_gd_some h
          refine am_Go.c1 htb (S' := (82, [some (.inr (.inr (some (2, 0)))), some (.inl a1), some (.inl a2), some (.inl (if (m.1 2 0 1) = 0 then a2 else a1))], [], am_mk (am_sc (am_si m 2 0 3 (if (m.1 2 0 1) = 0 then a2 else a1)) 22 0 23 0 (0 : Int32).toNatClampNeg (0 : Int32).toNatClampNeg (7 : Int32).toNatClampNeg))) (if_neg hz13) ?_
          cases h
          exact am_Go.rt htb rfl
    · by_cases hc9 : (m.1 2 0 1) = 0
      · refine am_Go.c1 htb (S' := (44, [some (.inr (.inr (some (2, 0)))), some (.inl a1), some (.inl a2), none], [], am_mk m)) (if_pos hc9) ?_
        refine am_Go.n htb 1 (S' := (45, [some (.inr (.inr (some (2, 0)))), some (.inl a1), some (.inl a2), none], [.inl a2], am_mk m)) rfl ?_
        simp only [if_pos hc9] at key
        exact am_Go.fg (by exact ⟨rfl, ⟨rfl, ⟨rfl, trivial⟩⟩⟩) key
      · refine am_Go.c1 htb (S' := (40, [some (.inr (.inr (some (2, 0)))), some (.inl a1), some (.inl a2), none], [], am_mk m)) (if_neg hc9) ?_
        refine am_Go.n htb 2 (S' := (45, [some (.inr (.inr (some (2, 0)))), some (.inl a1), some (.inl a2), none], [.inl a1], am_mk m)) rfl ?_
        simp only [if_neg hc9] at key
        exact am_Go.fg (by exact ⟨rfl, ⟨rfl, ⟨rfl, trivial⟩⟩⟩) key
  · intro rr14 he
    subst he
    cases h
    exact ⟨rfl, rfl, rfl, rfl⟩
-- X2_place
set_option maxRecDepth 100000 in
theorem lt_X2_place_24 (d : Nat) (hd : 4 ≤ d + 1) (rc : am_rp) (hrc : am_rpok rc d) {r : Option am_V} {M' : am_M} {kc ks : Nat} {n : Nat} {x1 : Int32} {x2 : Int32} {x3 : Int32} {x4 : Int32} {m : am_m} {t : am_m} (h : lp_X2_place_24 rc n x1 x2 x3 x4 m = some t) (hk : am_Go d 25 (139, [some (.inr (.inr (some (2, 0)))), some (.inl x1), some (.inl x2), some (.inl x3), none, none, none], [], am_mk t) r M' kc ks) : am_Go d 25 (24, [some (.inr (.inr (some (2, 0)))), some (.inl x1), some (.inl x2), some (.inl x3), some (.inl x4), none, none], [], am_mk m) r M' kc ks := by
  have htb : am_tab 25 = at_25 := rfl
  induction n generalizing x4 m with
  | zero => cases h
  | succ n ih =>
    unfold lp_X2_place_24 at h
    refine am_Go.n htb 2 (S' := (27, [some (.inr (.inr (some (2, 0)))), some (.inl x1), some (.inl x2), some (.inl x3), some (.inl x4), none, none], [.inl x2, .inl x4], am_mk m)) rfl ?_
    by_cases hc5 : x2 < x4
    · rw [if_pos hc5] at h
      refine am_Go.c1 htb (S' := (139, [some (.inr (.inr (some (2, 0)))), some (.inl x1), some (.inl x2), some (.inl x3), some (.inl x4), none, none], [], am_mk m)) (if_pos hc5) ?_
      cases h
      exact am_Go.fg (by exact ⟨rfl, ⟨rfl, ⟨rfl, ⟨rfl, trivial⟩⟩⟩⟩) hk
    · rw [if_neg hc5] at h
      refine am_Go.c1 htb (S' := (30, [some (.inr (.inr (some (2, 0)))), some (.inl x1), some (.inl x2), some (.inl x3), some (.inl x4), none, none], [], am_mk m)) (if_neg hc5) ?_
      refine am_Go.n htb 2 (S' := (34, [some (.inr (.inr (some (2, 0)))), some (.inl x1), some (.inl x2), some (.inl x3), some (.inl x4), none, none], [.inl 7, .inl x4], am_mk m)) rfl ?_
      by_cases hc6 : (7 : Int32) ≤ x4
      · rw [if_pos hc6] at h
        refine am_Go.c1 htb (S' := (139, [some (.inr (.inr (some (2, 0)))), some (.inl x1), some (.inl x2), some (.inl x3), some (.inl x4), none, none], [], am_mk m)) (if_pos hc6) ?_
        cases h
        exact am_Go.fg (by exact ⟨rfl, ⟨rfl, ⟨rfl, ⟨rfl, trivial⟩⟩⟩⟩) hk
      · rw [if_neg hc6] at h
        refine am_Go.c1 htb (S' := (37, [some (.inr (.inr (some (2, 0)))), some (.inl x1), some (.inl x2), some (.inl x3), some (.inl x4), none, none], [], am_mk m)) (if_neg hc6) ?_
        refine am_Go.n htb 2 (S' := (40, [some (.inr (.inr (some (2, 0)))), some (.inl x1), some (.inl x2), some (.inl x3), some (.inl x4), none, none], [.inl x2, .inl x4], am_mk m)) rfl ?_
        obtain ⟨q9, h26, h⟩ := am_bd h
        refine am_Go.cut (S := (54, [some (.inr (.inr (some (2, 0)))), some (.inl x1), some (.inl x2), some (.inl x3), some (.inl x4), none, none], [.inl q9], am_mk m)) ?_ (fun key => ?_)
        · refine am_Go.n htb 4 (S' := (60, [some (.inr (.inr (some (2, 0)))), some (.inl x1), some (.inl x2), some (.inl x3), some (.inl x4), some (.inl q9), none], [.inl q9, .inl x1, .inr (.inr (some (2, 0)))], am_mk m)) rfl ?_
          obtain ⟨r10, h11, h⟩ := am_bd h
          refine am_Go.cl htb rfl (ex_X2_isAllowed d (by omega) x1 q9 m r10 h11) ?_
          show am_Go d 25 (63, [some (.inr (.inr (some (2, 0)))), some (.inl x1), some (.inl x2), some (.inl x3), some (.inl x4), some (.inl q9), none], [.inl r10], am_mk m) _ _ _ _
          obtain ⟨q24, h25, h⟩ := am_bd h
          refine am_Go.cut (S := (133, [some (.inr (.inr (some (2, 0)))), some (.inl x1), some (.inl x2), some (.inl x3), some (.inl x4), some (.inl q9), none], [], am_mk q24)) ?_ (fun key => ?_)
          · refine am_Go.n htb 2 (S' := (24, [some (.inr (.inr (some (2, 0)))), some (.inl x1), some (.inl x2), some (.inl x3), some (.inl (x4 + 1)), some (.inl q9), none], [], am_mk q24)) rfl ?_
            refine am_Go.fg (L0 := [some (.inr (.inr (some (2, 0)))), some (.inl x1), some (.inl x2), some (.inl x3), some (.inl (x4 + 1)), none, none]) (by exact ⟨rfl, ⟨rfl, ⟨rfl, ⟨rfl, ⟨rfl, trivial⟩⟩⟩⟩⟩) ?_
            first | exact ih h | exact ih h hk
          · have h := h25
            by_cases hc12 : r10 = 0
            · rw [if_pos hc12] at h
              refine am_Go.c1 htb (S' := (133, [some (.inr (.inr (some (2, 0)))), some (.inl x1), some (.inl x2), some (.inl x3), some (.inl x4), some (.inl q9), none], [], am_mk m)) (if_pos hc12) ?_
              cases h
              exact am_Go.fg (by exact ⟨rfl, ⟨rfl, ⟨rfl, ⟨rfl, ⟨rfl, ⟨rfl, trivial⟩⟩⟩⟩⟩⟩) key
            · rw [if_neg hc12] at h
              refine am_Go.c1 htb (S' := (66, [some (.inr (.inr (some (2, 0)))), some (.inl x1), some (.inl x2), some (.inl x3), some (.inl x4), some (.inl q9), none], [], am_mk m)) (if_neg hc12) ?_
              refine am_Go.n htb 8 (S' := (78, [some (.inr (.inr (some (2, 0)))), some (.inl x1), some (.inl x2), some (.inl x3), some (.inl x4), some (.inl q9), none], [.inl (q9 ||| ((1 : Int32) <<< (x1 &&& 31))), .inl x4, .inr (.inr (some (21, 0)))], am_mk m)) rfl ?_
              obtain ⟨hg13, h⟩ := am_ck_some h
              refine am_Go.c1 htb (S' := (79, [some (.inr (.inr (some (2, 0)))), some (.inl x1), some (.inl x2), some (.inl x3), some (.inl x4), some (.inl q9), none], [], am_mk (am_si m 21 0 x4.toNatClampNeg (q9 ||| ((1 : Int32) <<< (x1 &&& 31)))))) (if_neg hg13) ?_
              refine am_Go.n htb 4 (S' := (86, [some (.inr (.inr (some (2, 0)))), some (.inl x1), some (.inl x2), some (.inl x3), some (.inl x4), some (.inl q9), none], [.inl x4, .inl x1, .inr (.inr (some (22, 0)))], am_mk (am_si m 21 0 x4.toNatClampNeg (q9 ||| ((1 : Int32) <<< (x1 &&& 31)))))) rfl ?_
              obtain ⟨hg14, h⟩ := am_ck_some h
              refine am_Go.c1 htb (S' := (87, [some (.inr (.inr (some (2, 0)))), some (.inl x1), some (.inl x2), some (.inl x3), some (.inl x4), some (.inl q9), none], [], am_mk (am_si (am_si m 21 0 x4.toNatClampNeg (q9 ||| ((1 : Int32) <<< (x1 &&& 31)))) 22 0 x1.toNatClampNeg x4))) (if_neg hg14) ?_
              refine am_Go.n htb 5 (S' := (95, [some (.inr (.inr (some (2, 0)))), some (.inl x1), some (.inl x2), some (.inl x3), some (.inl x4), some (.inl q9), none], [.inl x1, .inr (.inr (some (6, 0))), .inl q9, .inl x3], am_mk (am_si (am_si m 21 0 x4.toNatClampNeg (q9 ||| ((1 : Int32) <<< (x1 &&& 31)))) 22 0 x1.toNatClampNeg x4))) rfl ?_
              obtain ⟨r15, h16, h⟩ := am_bd h
              refine am_Go.cl htb rfl (ex_X6_mayOf d (by omega) x1 (am_si (am_si m 21 0 x4.toNatClampNeg (q9 ||| ((1 : Int32) <<< (x1 &&& 31)))) 22 0 x1.toNatClampNeg x4) r15 h16) ?_
              show am_Go d 25 (98, [some (.inr (.inr (some (2, 0)))), some (.inl x1), some (.inl x2), some (.inl x3), some (.inl x4), some (.inl q9), none], [.inl r15, .inl q9, .inl x3], am_mk (am_si (am_si m 21 0 x4.toNatClampNeg (q9 ||| ((1 : Int32) <<< (x1 &&& 31)))) 22 0 x1.toNatClampNeg x4)) _ _ _ _
              refine am_Go.n htb 3 (S' := (101, [some (.inr (.inr (some (2, 0)))), some (.inl x1), some (.inl x2), some (.inl x3), some (.inl x4), some (.inl q9), none], [.inl (q9 &&& (r15 ^^^ (-1 : Int32))), .inl x3], am_mk (am_si (am_si m 21 0 x4.toNatClampNeg (q9 ||| ((1 : Int32) <<< (x1 &&& 31)))) 22 0 x1.toNatClampNeg x4))) rfl ?_
              obtain ⟨r17, h18, h⟩ := am_bd h
              refine am_Go.cl htb rfl (ex_J6_bitCount_0f7a4 d (by omega) (q9 &&& (r15 ^^^ (-1 : Int32))) (am_si (am_si m 21 0 x4.toNatClampNeg (q9 ||| ((1 : Int32) <<< (x1 &&& 31)))) 22 0 x1.toNatClampNeg x4) r17 h18) ?_
              show am_Go d 25 (104, [some (.inr (.inr (some (2, 0)))), some (.inl x1), some (.inl x2), some (.inl x3), some (.inl x4), some (.inl q9), none], [.inl r17, .inl x3], am_mk (am_si (am_si m 21 0 x4.toNatClampNeg (q9 ||| ((1 : Int32) <<< (x1 &&& 31)))) 22 0 x1.toNatClampNeg x4)) _ _ _ _
              refine am_Go.n htb 10 (S' := (116, [some (.inr (.inr (some (2, 0)))), some (.inl x1), some (.inl x2), some (.inl x3), some (.inl x4), some (.inl q9), some (.inl (x3 + r17))], [.inl (x4 + (1 : Int32)), .inl x2, .inl (x1 + (1 : Int32)), .inr (.inr (some (2, 0)))], am_mk (am_si (am_si m 21 0 x4.toNatClampNeg (q9 ||| ((1 : Int32) <<< (x1 &&& 31)))) 22 0 x1.toNatClampNeg x4))) rfl ?_
              obtain ⟨r19, h20, h⟩ := am_bd h
              refine am_Go.cl htb rfl (ex_J9_max_7cf53 d (by omega) x2 (x4 + (1 : Int32)) (am_si (am_si m 21 0 x4.toNatClampNeg (q9 ||| ((1 : Int32) <<< (x1 &&& 31)))) 22 0 x1.toNatClampNeg x4) r19 h20) ?_
              show am_Go d 25 (119, [some (.inr (.inr (some (2, 0)))), some (.inl x1), some (.inl x2), some (.inl x3), some (.inl x4), some (.inl q9), some (.inl (x3 + r17))], [.inl r19, .inl (x1 + (1 : Int32)), .inr (.inr (some (2, 0)))], am_mk (am_si (am_si m 21 0 x4.toNatClampNeg (q9 ||| ((1 : Int32) <<< (x1 &&& 31)))) 22 0 x1.toNatClampNeg x4)) _ _ _ _
              refine am_Go.n htb 1 (S' := (121, [some (.inr (.inr (some (2, 0)))), some (.inl x1), some (.inl x2), some (.inl x3), some (.inl x4), some (.inl q9), some (.inl (x3 + r17))], [.inl (x3 + r17), .inl r19, .inl (x1 + (1 : Int32)), .inr (.inr (some (2, 0)))], am_mk (am_si (am_si m 21 0 x4.toNatClampNeg (q9 ||| ((1 : Int32) <<< (x1 &&& 31)))) 22 0 x1.toNatClampNeg x4))) rfl ?_
              obtain ⟨r21, h22, h⟩ := am_bd h
              refine am_Go.cl htb rfl (hrc _ _ _ _ _ h22) ?_
              show am_Go d 25 (124, [some (.inr (.inr (some (2, 0)))), some (.inl x1), some (.inl x2), some (.inl x3), some (.inl x4), some (.inl q9), some (.inl (x3 + r17))], [], am_mk r21) _ _ _ _
              refine am_Go.n htb 4 (S' := (132, [some (.inr (.inr (some (2, 0)))), some (.inl x1), some (.inl x2), some (.inl x3), some (.inl x4), some (.inl q9), some (.inl (x3 + r17))], [.inl q9, .inl x4, .inr (.inr (some (21, 0)))], am_mk r21)) rfl ?_
              obtain ⟨hg23, h⟩ := am_ck_some h
              refine am_Go.c1 htb (S' := (133, [some (.inr (.inr (some (2, 0)))), some (.inl x1), some (.inl x2), some (.inl x3), some (.inl x4), some (.inl q9), some (.inl (x3 + r17))], [], am_mk (am_si r21 21 0 x4.toNatClampNeg q9))) (if_neg hg23) ?_
              cases h
              exact am_Go.fg (by exact ⟨rfl, ⟨rfl, ⟨rfl, ⟨rfl, ⟨rfl, ⟨rfl, trivial⟩⟩⟩⟩⟩⟩) key
        · have h := h26
          by_cases hc7 : x2 ≤ x4
          · rw [if_pos hc7] at h
            refine am_Go.c1 htb (S' := (53, [some (.inr (.inr (some (2, 0)))), some (.inl x1), some (.inl x2), some (.inl x3), some (.inl x4), none, none], [], am_mk m)) (if_pos hc7) ?_
            refine am_Go.n htb 1 (S' := (54, [some (.inr (.inr (some (2, 0)))), some (.inl x1), some (.inl x2), some (.inl x3), some (.inl x4), none, none], [.inl 0], am_mk m)) rfl ?_
            cases h
            exact am_Go.fg (by exact ⟨rfl, ⟨rfl, ⟨rfl, ⟨rfl, ⟨rfl, trivial⟩⟩⟩⟩⟩) key
          · rw [if_neg hc7] at h
            refine am_Go.c1 htb (S' := (43, [some (.inr (.inr (some (2, 0)))), some (.inl x1), some (.inl x2), some (.inl x3), some (.inl x4), none, none], [], am_mk m)) (if_neg hc7) ?_
            refine am_Go.n htb 3 (S' := (49, [some (.inr (.inr (some (2, 0)))), some (.inl x1), some (.inl x2), some (.inl x3), some (.inl x4), none, none], [.inl x4, .inr (.inr (some (21, 0)))], am_mk m)) rfl ?_
            obtain ⟨hg8, h⟩ := am_ck_some h
            refine am_Go.c1 htb (S' := (50, [some (.inr (.inr (some (2, 0)))), some (.inl x1), some (.inl x2), some (.inl x3), some (.inl x4), none, none], [.inl (m.1 21 0 x4.toNatClampNeg)], am_mk m)) (if_neg hg8) ?_
            refine am_Go.n htb 1 (S' := (54, [some (.inr (.inr (some (2, 0)))), some (.inl x1), some (.inl x2), some (.inl x3), some (.inl x4), none, none], [.inl (m.1 21 0 x4.toNatClampNeg)], am_mk m)) rfl ?_
            cases h
            exact am_Go.fg (by exact ⟨rfl, ⟨rfl, ⟨rfl, ⟨rfl, ⟨rfl, trivial⟩⟩⟩⟩⟩) key
set_option maxRecDepth 100000 in
theorem ex_X2_place (d : Nat) (hd : 4 ≤ d) (rc : am_rp) (hrc : am_rpok rc (d - 1)) (a1 : Int32) (a2 : Int32) (a3 : Int32) (m : am_m) (t : am_m) (h : fn_X2_place rc a1 a2 a3 m = some t) : am_Ex am_cod d 25 [.inr (.inr (some (2, 0))), .inl a1, .inl a2, .inl a3] (am_mk m) (none) (am_mk t) 0 0 := by
  obtain ⟨d, rfl⟩ : ∃ e, d = e + 1 := ⟨d - 1, by omega⟩
  have htb : am_tab 25 = at_25 := rfl
  refine ⟨Nat.le_of_ble_eq_true rfl, ?_⟩
  unfold fn_X2_place at h
  show am_Go d 25 (0, [some (.inr (.inr (some (2, 0)))), some (.inl a1), some (.inl a2), some (.inl a3), none, none, none], [], am_mk m) _ _ 0 0
  refine am_Go.n htb 3 (S' := (5, [some (.inr (.inr (some (2, 0)))), some (.inl a1), some (.inl a2), some (.inl a3), none, none, none], [.inl (m.1 2 0 2), .inl a1], am_mk m)) rfl ?_
  by_cases hc1 : (m.1 2 0 2) ≤ a1
  · rw [if_pos hc1] at h
    refine am_Go.c1 htb (S' := (14, [some (.inr (.inr (some (2, 0)))), some (.inl a1), some (.inl a2), some (.inl a3), none, none, none], [], am_mk m)) (if_pos hc1) ?_
    refine am_Go.n htb 3 (S' := (17, [some (.inr (.inr (some (2, 0)))), some (.inl a1), some (.inl a2), some (.inl a3), none, none, none], [.inl a3, .inl a2, .inr (.inr (some (2, 0)))], am_mk m)) rfl ?_
    obtain ⟨r2, h3, h⟩ := am_bd h
    refine am_Go.cl htb rfl (ex_X2_keepIfCheaper d (by omega) a2 a3 m r2 h3) ?_
    show am_Go d 25 (20, [some (.inr (.inr (some (2, 0)))), some (.inl a1), some (.inl a2), some (.inl a3), none, none, none], [], am_mk r2) _ _ _ _
    cases h
    exact am_Go.rt htb rfl
  · rw [if_neg hc1] at h
    refine am_Go.c1 htb (S' := (8, [some (.inr (.inr (some (2, 0)))), some (.inl a1), some (.inl a2), some (.inl a3), none, none, none], [], am_mk m)) (if_neg hc1) ?_
    refine am_Go.n htb 2 (S' := (11, [some (.inr (.inr (some (2, 0)))), some (.inl a1), some (.inl a2), some (.inl a3), none, none, none], [.inl 7, .inl a1], am_mk m)) rfl ?_
    by_cases hc4 : a1 < (7 : Int32)
    · rw [if_pos hc4] at h
      refine am_Go.c1 htb (S' := (21, [some (.inr (.inr (some (2, 0)))), some (.inl a1), some (.inl a2), some (.inl a3), none, none, none], [], am_mk m)) (if_pos hc4) ?_
      refine am_Go.n htb 2 (S' := (24, [some (.inr (.inr (some (2, 0)))), some (.inl a1), some (.inl a2), some (.inl a3), some (.inl 0), none, none], [], am_mk m)) rfl ?_
      obtain ⟨q27, h28, h⟩ := am_bd h
      refine lt_X2_place_24 _ hd rc hrc (h := h28) (hk := ?_)
      cases h
      exact am_Go.rt htb rfl
    · rw [if_neg hc4] at h
      refine am_Go.c1 htb (S' := (14, [some (.inr (.inr (some (2, 0)))), some (.inl a1), some (.inl a2), some (.inl a3), none, none, none], [], am_mk m)) (if_neg hc4) ?_
      refine am_Go.n htb 3 (S' := (17, [some (.inr (.inr (some (2, 0)))), some (.inl a1), some (.inl a2), some (.inl a3), none, none, none], [.inl a3, .inl a2, .inr (.inr (some (2, 0)))], am_mk m)) rfl ?_
      obtain ⟨r29, h30, h⟩ := am_bd h
      refine am_Go.cl htb rfl (ex_X2_keepIfCheaper d (by omega) a2 a3 m r29 h30) ?_
      show am_Go d 25 (20, [some (.inr (.inr (some (2, 0)))), some (.inl a1), some (.inl a2), some (.inl a3), none, none, none], [], am_mk r29) _ _ _ _
      cases h
      exact am_Go.rt htb rfl
theorem am_pl_ok : ∀ n, am_rpok (am_pl n) (n + 4)
  | 0 => fun _ _ _ _ _ h => by cases h
  | n + 1 => fun a b c m t h => by
    have ih : am_rpok (am_pl n) (n + 1 + 4 - 1) := by rw [show n + 1 + 4 - 1 = n + 4 by omega]; exact am_pl_ok n
    exact ex_X2_place _ (by omega) (am_pl n) ih a b c m t h
-- X2_begin
set_option maxRecDepth 100000 in
theorem ex_X2_begin (d : Nat) (hd : 15 ≤ d)  (m : am_m) (t : am_m) (h : fn_X2_begin  m = some t) : am_Ex am_cod d 24 [.inr (.inr (some (2, 0)))] (am_mk m) (none) (am_mk t) 0 0 := by
  obtain ⟨d, rfl⟩ : ∃ e, d = e + 1 := ⟨d - 1, by omega⟩
  have htb : am_tab 24 = at_24 := rfl
  refine ⟨Nat.le_of_ble_eq_true rfl, ?_⟩
  unfold fn_X2_begin at h
  show am_Go d 24 (0, [some (.inr (.inr (some (2, 0))))], [], am_mk m) _ _ 0 0
  refine am_Go.n htb 12 (S' := (20, [some (.inr (.inr (some (2, 0))))], [.inl 0, .inl 0, .inl 0, .inr (.inr (some (2, 0)))], am_mk (am_si (am_si m 2 0 2 (m.1 6 0 0)) 2 0 3 (-1)))) rfl ?_
  obtain ⟨r1, h2, h⟩ := am_bd h
  refine am_Go.cl htb rfl (am_Ex_mono (by omega) (am_pl_ok 10 _ _ _ _ _ h2)) ?_
  show am_Go d 24 (23, [some (.inr (.inr (some (2, 0))))], [], am_mk r1) _ _ _ _
  cases h
  exact am_Go.rt htb rfl
-- X2_intoTables
set_option maxRecDepth 100000 in
theorem ex_X2_intoTables (d : Nat) (hd : 16 ≤ d)  (m : am_m) (t : am_m) (h : fn_X2_intoTables  m = some t) : am_Ex am_cod d 21 [.inr (.inr (some (2, 0)))] (am_mk m) (none) (am_mk t) 0 0 := by
  obtain ⟨d, rfl⟩ : ∃ e, d = e + 1 := ⟨d - 1, by omega⟩
  have htb : am_tab 21 = at_21 := rfl
  refine ⟨Nat.le_of_ble_eq_true rfl, ?_⟩
  unfold fn_X2_intoTables at h
  show am_Go d 21 (0, [some (.inr (.inr (some (2, 0))))], [], am_mk m) _ _ 0 0
  refine am_Go.n htb 4 (S' := (6, [some (.inr (.inr (some (2, 0))))], [.inr (.inr (some (2, 0)))], am_mk (am_si m 2 0 1 1))) rfl ?_
  obtain ⟨r1, h2, h⟩ := am_bd h
  refine am_Go.cl htb rfl (ex_X2_begin d (by omega)  (am_si m 2 0 1 1) r1 h2) ?_
  show am_Go d 21 (9, [some (.inr (.inr (some (2, 0))))], [], am_mk r1) _ _ _ _
  cases h
  exact am_Go.rt htb rfl
-- X2_intoSets
set_option maxRecDepth 100000 in
theorem ex_X2_intoSets (d : Nat) (hd : 16 ≤ d)  (m : am_m) (t : am_m) (h : fn_X2_intoSets  m = some t) : am_Ex am_cod d 22 [.inr (.inr (some (2, 0)))] (am_mk m) (none) (am_mk t) 0 0 := by
  obtain ⟨d, rfl⟩ : ∃ e, d = e + 1 := ⟨d - 1, by omega⟩
  have htb : am_tab 22 = at_22 := rfl
  refine ⟨Nat.le_of_ble_eq_true rfl, ?_⟩
  unfold fn_X2_intoSets at h
  show am_Go d 22 (0, [some (.inr (.inr (some (2, 0))))], [], am_mk m) _ _ 0 0
  refine am_Go.n htb 4 (S' := (6, [some (.inr (.inr (some (2, 0))))], [.inr (.inr (some (2, 0)))], am_mk (am_si m 2 0 1 0))) rfl ?_
  obtain ⟨r1, h2, h⟩ := am_bd h
  refine am_Go.cl htb rfl (ex_X2_begin d (by omega)  (am_si m 2 0 1 0) r1 h2) ?_
  show am_Go d 22 (9, [some (.inr (.inr (some (2, 0))))], [], am_mk r1) _ _ _ _
  cases h
  exact am_Go.rt htb rfl
-- X2_answer
set_option maxRecDepth 100000 in
theorem ex_X2_answer (d : Nat) (hd : 1 ≤ d) (a1 : Int32) (m : am_m) (t : Int32) (h : fn_X2_answer a1 m = some t) : am_Ex am_cod d 23 [.inr (.inr (some (2, 0))), .inl a1] (am_mk m) (some (.inl t)) (am_mk m) 0 0 := by
  obtain ⟨d, rfl⟩ : ∃ e, d = e + 1 := ⟨d - 1, by omega⟩
  have htb : am_tab 23 = at_23 := rfl
  refine ⟨Nat.le_of_ble_eq_true rfl, ?_⟩
  unfold fn_X2_answer at h
  show am_Go d 23 (0, [some (.inr (.inr (some (2, 0)))), some (.inl a1)], [], am_mk m) _ _ 0 0
  refine am_Go.n htb 3 (S' := (5, [some (.inr (.inr (some (2, 0)))), some (.inl a1)], [.inl (-1), .inl (m.1 2 0 3)], am_mk m)) rfl ?_
  by_cases hc1 : (m.1 2 0 3) = (-1 : Int32)
  · rw [if_pos hc1] at h
    refine am_Go.c1 htb (S' := (20, [some (.inr (.inr (some (2, 0)))), some (.inl a1)], [], am_mk m)) (if_pos hc1) ?_
    refine am_Go.n htb 1 (S' := (21, [some (.inr (.inr (some (2, 0)))), some (.inl a1)], [.inl (-1)], am_mk m)) rfl ?_
    cases h
    exact am_Go.rt htb rfl
  · rw [if_neg hc1] at h
    refine am_Go.c1 htb (S' := (8, [some (.inr (.inr (some (2, 0)))), some (.inl a1)], [], am_mk m)) (if_neg hc1) ?_
    refine am_Go.n htb 1 (S' := (9, [some (.inr (.inr (some (2, 0)))), some (.inl a1)], [.inl a1], am_mk m)) rfl ?_
    by_cases hc2 : a1 < 0
    · rw [if_pos hc2] at h
      refine am_Go.c1 htb (S' := (20, [some (.inr (.inr (some (2, 0)))), some (.inl a1)], [], am_mk m)) (if_pos hc2) ?_
      refine am_Go.n htb 1 (S' := (21, [some (.inr (.inr (some (2, 0)))), some (.inl a1)], [.inl (-1)], am_mk m)) rfl ?_
      cases h
      exact am_Go.rt htb rfl
    · rw [if_neg hc2] at h
      refine am_Go.c1 htb (S' := (12, [some (.inr (.inr (some (2, 0)))), some (.inl a1)], [], am_mk m)) (if_neg hc2) ?_
      refine am_Go.n htb 3 (S' := (17, [some (.inr (.inr (some (2, 0)))), some (.inl a1)], [.inl (m.1 2 0 2), .inl a1], am_mk m)) rfl ?_
      by_cases hc3 : a1 ≤ (m.1 2 0 2)
      · rw [if_pos hc3] at h
        refine am_Go.c1 htb (S' := (22, [some (.inr (.inr (some (2, 0)))), some (.inl a1)], [], am_mk m)) (if_pos hc3) ?_
        refine am_Go.n htb 1 (S' := (23, [some (.inr (.inr (some (2, 0)))), some (.inl a1)], [.inl a1], am_mk m)) rfl ?_
        by_cases hc4 : a1 ≠ 0
        · rw [if_pos hc4] at h
          refine am_Go.c1 htb (S' := (33, [some (.inr (.inr (some (2, 0)))), some (.inl a1)], [], am_mk m)) (if_pos hc4) ?_
          refine am_Go.n htb 5 (S' := (40, [some (.inr (.inr (some (2, 0)))), some (.inl a1)], [.inl (a1 - (1 : Int32)), .inr (.inr (some (23, 0)))], am_mk m)) rfl ?_
          obtain ⟨hg5, h⟩ := am_ck_some h
          refine am_Go.c1 htb (S' := (41, [some (.inr (.inr (some (2, 0)))), some (.inl a1)], [.inl (m.1 23 0 (a1 - (1 : Int32)).toNatClampNeg)], am_mk m)) (if_neg hg5) ?_
          cases h
          exact am_Go.rt htb rfl
        · rw [if_neg hc4] at h
          refine am_Go.c1 htb (S' := (26, [some (.inr (.inr (some (2, 0)))), some (.inl a1)], [], am_mk m)) (if_neg hc4) ?_
          refine am_Go.n htb 3 (S' := (41, [some (.inr (.inr (some (2, 0)))), some (.inl a1)], [.inl (m.1 2 0 3)], am_mk m)) rfl ?_
          cases h
          exact am_Go.rt htb rfl
      · rw [if_neg hc3] at h
        refine am_Go.c1 htb (S' := (20, [some (.inr (.inr (some (2, 0)))), some (.inl a1)], [], am_mk m)) (if_neg hc3) ?_
        refine am_Go.n htb 1 (S' := (21, [some (.inr (.inr (some (2, 0)))), some (.inl a1)], [.inl (-1)], am_mk m)) rfl ?_
        cases h
        exact am_Go.rt htb rfl
-- X3_clear
set_option maxRecDepth 100000 in
theorem ex_X3_clear (d : Nat) (hd : 1 ≤ d) (a0 : Nat) (m : am_m) (t : am_m) (h : fn_X3_clear a0 m = some t) : am_Ex am_cod d 29 [.inr (.inr (some (3, a0)))] (am_mk m) (none) (am_mk t) 0 0 := by
  obtain ⟨d, rfl⟩ : ∃ e, d = e + 1 := ⟨d - 1, by omega⟩
  have htb : am_tab 29 = at_29 := rfl
  refine ⟨Nat.le_of_ble_eq_true rfl, ?_⟩
  unfold fn_X3_clear at h
  show am_Go d 29 (0, [some (.inr (.inr (some (3, a0))))], [], am_mk m) _ _ 0 0
  refine am_Go.n htb 3 (S' := (5, [some (.inr (.inr (some (3, a0))))], [], am_mk (am_si m 3 a0 1 0))) rfl ?_
  cases h
  exact am_Go.rt htb rfl
-- X3_become
set_option maxRecDepth 100000 in
theorem ex_X3_become (d : Nat) (hd : 1 ≤ d) (a0 : Nat) (a1 : Nat) (m : am_m) (t : am_m) (h : fn_X3_become a0 a1 m = some t) : am_Ex am_cod d 30 [.inr (.inr (some (3, a0))), .inr (.inr (some (3, a1)))] (am_mk m) (none) (am_mk t) 0 0 := by
  obtain ⟨d, rfl⟩ : ∃ e, d = e + 1 := ⟨d - 1, by omega⟩
  have htb : am_tab 30 = at_30 := rfl
  refine ⟨Nat.le_of_ble_eq_true rfl, ?_⟩
  unfold fn_X3_become at h
  show am_Go d 30 (0, [some (.inr (.inr (some (3, a0)))), some (.inr (.inr (some (3, a1))))], [], am_mk m) _ _ 0 0
  refine am_Go.n htb 11 (S' := (21, [some (.inr (.inr (some (3, a0)))), some (.inr (.inr (some (3, a1))))], [.inl 208, .inl 0, .inr (.inr (some (24, a0))), .inl 0, .inr (.inr (some (24, a1)))], am_mk (am_si m 3 a0 1 (m.1 3 a1 1)))) rfl ?_
  obtain ⟨hz1, h⟩ := am_gd_some h
  refine am_Go.c1 htb (S' := (24, [some (.inr (.inr (some (3, a0)))), some (.inr (.inr (some (3, a1))))], [], am_mk (am_sc (am_si m 3 a0 1 (m.1 3 a1 1)) 24 a1 24 a0 (0 : Int32).toNatClampNeg (0 : Int32).toNatClampNeg (208 : Int32).toNatClampNeg))) (if_neg hz1) ?_
  cases h
  exact am_Go.rt htb rfl
-- X3_forgetOldest
set_option maxRecDepth 100000 in
theorem lt_X3_forgetOldest_3 (d : Nat) (hd : 1 ≤ d + 1) {r : Option am_V} {M' : am_M} {kc ks : Nat} {n : Nat} {x0 : Nat} {x1 : Int32} {m : am_m} {t : am_m} (h : lp_X3_forgetOldest_3 n x0 x1 m = some t) (hk : am_Go d 32 (31, [some (.inr (.inr (some (3, x0)))), none], [], am_mk t) r M' kc ks) : am_Go d 32 (3, [some (.inr (.inr (some (3, x0)))), some (.inl x1)], [], am_mk m) r M' kc ks := by
  have htb : am_tab 32 = at_32 := rfl
  induction n generalizing x1 m with
  | zero => cases h
  | succ n ih =>
    unfold lp_X3_forgetOldest_3 at h
    refine am_Go.n htb 2 (S' := (7, [some (.inr (.inr (some (3, x0)))), some (.inl x1)], [.inl 208, .inl x1], am_mk m)) rfl ?_
    by_cases hc1 : (208 : Int32) ≤ x1
    · rw [if_pos hc1] at h
      refine am_Go.c1 htb (S' := (31, [some (.inr (.inr (some (3, x0)))), some (.inl x1)], [], am_mk m)) (if_pos hc1) ?_
      cases h
      exact am_Go.fg (by exact ⟨rfl, trivial⟩) hk
    · rw [if_neg hc1] at h
      refine am_Go.c1 htb (S' := (10, [some (.inr (.inr (some (3, x0)))), some (.inl x1)], [], am_mk m)) (if_neg hc1) ?_
      refine am_Go.n htb 8 (S' := (23, [some (.inr (.inr (some (3, x0)))), some (.inl x1)], [.inl x1, .inr (.inr (some (24, x0))), .inl (x1 - (13 : Int32)), .inr (.inr (some (24, x0)))], am_mk m)) rfl ?_
      obtain ⟨hg2, h⟩ := am_ck_some h
      refine am_Go.c1 htb (S' := (24, [some (.inr (.inr (some (3, x0)))), some (.inl x1)], [.inl (m.1 24 x0 x1.toNatClampNeg), .inl (x1 - (13 : Int32)), .inr (.inr (some (24, x0)))], am_mk m)) (if_neg hg2) ?_
      obtain ⟨hg3, h⟩ := am_ck_some h
      refine am_Go.c1 htb (S' := (25, [some (.inr (.inr (some (3, x0)))), some (.inl x1)], [], am_mk (am_si m 24 x0 (x1 - (13 : Int32)).toNatClampNeg (m.1 24 x0 x1.toNatClampNeg)))) (if_neg hg3) ?_
      refine am_Go.n htb 2 (S' := (3, [some (.inr (.inr (some (3, x0)))), some (.inl (x1 + 1))], [], am_mk (am_si m 24 x0 (x1 - (13 : Int32)).toNatClampNeg (m.1 24 x0 x1.toNatClampNeg)))) rfl ?_
      first | exact ih h | exact ih h hk
set_option maxRecDepth 100000 in
theorem ex_X3_forgetOldest (d : Nat) (hd : 1 ≤ d) (a0 : Nat) (m : am_m) (t : am_m) (h : fn_X3_forgetOldest a0 m = some t) : am_Ex am_cod d 32 [.inr (.inr (some (3, a0)))] (am_mk m) (none) (am_mk t) 0 0 := by
  obtain ⟨d, rfl⟩ : ∃ e, d = e + 1 := ⟨d - 1, by omega⟩
  have htb : am_tab 32 = at_32 := rfl
  refine ⟨Nat.le_of_ble_eq_true rfl, ?_⟩
  unfold fn_X3_forgetOldest at h
  show am_Go d 32 (0, [some (.inr (.inr (some (3, a0)))), none], [], am_mk m) _ _ 0 0
  refine am_Go.n htb 2 (S' := (3, [some (.inr (.inr (some (3, a0)))), some (.inl 13)], [], am_mk m)) rfl ?_
  obtain ⟨q4, h5, h⟩ := am_bd h
  refine lt_X3_forgetOldest_3 _ hd (h := h5) (hk := ?_)
  refine am_Go.n htb 3 (S' := (37, [some (.inr (.inr (some (3, a0)))), none], [], am_mk (am_si q4 3 a0 1 15))) rfl ?_
  cases h
  exact am_Go.rt htb rfl
-- X8_weightOf
set_option maxRecDepth 100000 in
theorem ex_X8_weightOf (d : Nat) (hd : 2 ≤ d) (a0 : Nat) (a1 : Int32) (a2 : Int32) (m : am_m) (t : Int32) (h : fn_X8_weightOf a0 a1 a2 m = some t) : am_Ex am_cod d 104 [.inr (.inr (some (8, a0))), .inl a1, .inl a2] (am_mk m) (some (.inl t)) (am_mk m) 0 0 := by
  obtain ⟨d, rfl⟩ : ∃ e, d = e + 1 := ⟨d - 1, by omega⟩
  have htb : am_tab 104 = at_104 := rfl
  refine ⟨Nat.le_of_ble_eq_true rfl, ?_⟩
  unfold fn_X8_weightOf at h
  show am_Go d 104 (0, [some (.inr (.inr (some (8, a0)))), some (.inl a1), some (.inl a2)], [], am_mk m) _ _ 0 0
  refine am_Go.n htb 3 (S' := (3, [some (.inr (.inr (some (8, a0)))), some (.inl a1), some (.inl a2)], [.inl a2, .inl a1, .inr (.inr (some (8, a0)))], am_mk m)) rfl ?_
  obtain ⟨r1, h2, h⟩ := am_bd h
  refine am_Go.cl htb rfl (ex_X8_hasTwo d (by omega) a0 a1 a2 m r1 h2) ?_
  show am_Go d 104 (6, [some (.inr (.inr (some (8, a0)))), some (.inl a1), some (.inl a2)], [.inl r1], am_mk m) _ _ _ _
  by_cases hc3 : r1 = 0
  · rw [if_pos hc3] at h
    refine am_Go.c1 htb (S' := (23, [some (.inr (.inr (some (8, a0)))), some (.inl a1), some (.inl a2)], [], am_mk m)) (if_pos hc3) ?_
    refine am_Go.n htb 1 (S' := (24, [some (.inr (.inr (some (8, a0)))), some (.inl a1), some (.inl a2)], [.inl 0], am_mk m)) rfl ?_
    cases h
    exact am_Go.rt htb rfl
  · rw [if_neg hc3] at h
    refine am_Go.c1 htb (S' := (9, [some (.inr (.inr (some (8, a0)))), some (.inl a1), some (.inl a2)], [], am_mk m)) (if_neg hc3) ?_
    refine am_Go.n htb 7 (S' := (19, [some (.inr (.inr (some (8, a0)))), some (.inl a1), some (.inl a2)], [.inl ((a1 * (7 : Int32)) + a2), .inr (.inr (some (37, a0)))], am_mk m)) rfl ?_
    obtain ⟨hg4, h⟩ := am_ck_some h
    refine am_Go.c1 htb (S' := (20, [some (.inr (.inr (some (8, a0)))), some (.inl a1), some (.inl a2)], [.inl (m.1 37 a0 ((a1 * (7 : Int32)) + a2).toNatClampNeg)], am_mk m)) (if_neg hg4) ?_
    refine am_Go.n htb 1 (S' := (24, [some (.inr (.inr (some (8, a0)))), some (.inl a1), some (.inl a2)], [.inl (m.1 37 a0 ((a1 * (7 : Int32)) + a2).toNatClampNeg)], am_mk m)) rfl ?_
    cases h
    exact am_Go.rt htb rfl
-- X8_sinceOf
set_option maxRecDepth 100000 in
theorem ex_X8_sinceOf (d : Nat) (hd : 2 ≤ d) (a0 : Nat) (a1 : Int32) (a2 : Int32) (m : am_m) (t : Int32) (h : fn_X8_sinceOf a0 a1 a2 m = some t) : am_Ex am_cod d 105 [.inr (.inr (some (8, a0))), .inl a1, .inl a2] (am_mk m) (some (.inl t)) (am_mk m) 0 0 := by
  obtain ⟨d, rfl⟩ : ∃ e, d = e + 1 := ⟨d - 1, by omega⟩
  have htb : am_tab 105 = at_105 := rfl
  refine ⟨Nat.le_of_ble_eq_true rfl, ?_⟩
  unfold fn_X8_sinceOf at h
  show am_Go d 105 (0, [some (.inr (.inr (some (8, a0)))), some (.inl a1), some (.inl a2)], [], am_mk m) _ _ 0 0
  refine am_Go.n htb 3 (S' := (3, [some (.inr (.inr (some (8, a0)))), some (.inl a1), some (.inl a2)], [.inl a2, .inl a1, .inr (.inr (some (8, a0)))], am_mk m)) rfl ?_
  obtain ⟨r1, h2, h⟩ := am_bd h
  refine am_Go.cl htb rfl (ex_X8_hasTwo d (by omega) a0 a1 a2 m r1 h2) ?_
  show am_Go d 105 (6, [some (.inr (.inr (some (8, a0)))), some (.inl a1), some (.inl a2)], [.inl r1], am_mk m) _ _ _ _
  by_cases hc3 : r1 = 0
  · rw [if_pos hc3] at h
    refine am_Go.c1 htb (S' := (23, [some (.inr (.inr (some (8, a0)))), some (.inl a1), some (.inl a2)], [], am_mk m)) (if_pos hc3) ?_
    refine am_Go.n htb 1 (S' := (24, [some (.inr (.inr (some (8, a0)))), some (.inl a1), some (.inl a2)], [.inl 0], am_mk m)) rfl ?_
    cases h
    exact am_Go.rt htb rfl
  · rw [if_neg hc3] at h
    refine am_Go.c1 htb (S' := (9, [some (.inr (.inr (some (8, a0)))), some (.inl a1), some (.inl a2)], [], am_mk m)) (if_neg hc3) ?_
    refine am_Go.n htb 7 (S' := (19, [some (.inr (.inr (some (8, a0)))), some (.inl a1), some (.inl a2)], [.inl ((a1 * (7 : Int32)) + a2), .inr (.inr (some (38, a0)))], am_mk m)) rfl ?_
    obtain ⟨hg4, h⟩ := am_ck_some h
    refine am_Go.c1 htb (S' := (20, [some (.inr (.inr (some (8, a0)))), some (.inl a1), some (.inl a2)], [.inl (m.1 38 a0 ((a1 * (7 : Int32)) + a2).toNatClampNeg)], am_mk m)) (if_neg hg4) ?_
    refine am_Go.n htb 1 (S' := (24, [some (.inr (.inr (some (8, a0)))), some (.inl a1), some (.inl a2)], [.inl (m.1 38 a0 ((a1 * (7 : Int32)) + a2).toNatClampNeg)], am_mk m)) rfl ?_
    cases h
    exact am_Go.rt htb rfl
-- X3_keep
set_option maxRecDepth 100000 in
theorem ex_X3_keep (d : Nat) (hd : 3 ≤ d) (a0 : Nat) (a1 : Int32) (a2 : Int32) (a3 : Int32) (a4 : Nat) (m : am_m) (t : am_m) (h : fn_X3_keep a0 a1 a2 a3 a4 m = some t) : am_Ex am_cod d 31 [.inr (.inr (some (3, a0))), .inl a1, .inl a2, .inl a3, .inr (.inr (some (8, a4)))] (am_mk m) (none) (am_mk t) 0 0 := by
  obtain ⟨d, rfl⟩ : ∃ e, d = e + 1 := ⟨d - 1, by omega⟩
  have htb : am_tab 31 = at_31 := rfl
  refine ⟨Nat.le_of_ble_eq_true rfl, ?_⟩
  unfold fn_X3_keep at h
  show am_Go d 31 (0, [some (.inr (.inr (some (3, a0)))), some (.inl a1), some (.inl a2), some (.inl a3), some (.inr (.inr (some (8, a4)))), none], [], am_mk m) _ _ 0 0
  refine am_Go.n htb 3 (S' := (6, [some (.inr (.inr (some (3, a0)))), some (.inl a1), some (.inl a2), some (.inl a3), some (.inr (.inr (some (8, a4)))), none], [.inl 16, .inl (m.1 3 a0 1)], am_mk m)) rfl ?_
  obtain ⟨q4, h16, h⟩ := am_bd h
  refine am_Go.cut (S := (13, [some (.inr (.inr (some (3, a0)))), some (.inl a1), some (.inl a2), some (.inl a3), some (.inr (.inr (some (8, a4)))), none], [], am_mk q4)) ?_ (fun key => ?_)
  · refine am_Go.n htb 11 (S' := (31, [some (.inr (.inr (some (3, a0)))), some (.inl a1), some (.inl a2), some (.inl a3), some (.inr (.inr (some (8, a4)))), some (.inl ((q4.1 3 a0 1) * (13 : Int32)))], [.inl a1, .inl (((q4.1 3 a0 1) * (13 : Int32)) + (0 : Int32)), .inr (.inr (some (24, a0)))], am_mk q4)) rfl ?_
    obtain ⟨hg5, h⟩ := am_ck_some h
    refine am_Go.c1 htb (S' := (32, [some (.inr (.inr (some (3, a0)))), some (.inl a1), some (.inl a2), some (.inl a3), some (.inr (.inr (some (8, a4)))), some (.inl ((q4.1 3 a0 1) * (13 : Int32)))], [], am_mk (am_si q4 24 a0 (((q4.1 3 a0 1) * (13 : Int32)) + (0 : Int32)).toNatClampNeg a1))) (if_neg hg5) ?_
    refine am_Go.n htb 6 (S' := (41, [some (.inr (.inr (some (3, a0)))), some (.inl a1), some (.inl a2), some (.inl a3), some (.inr (.inr (some (8, a4)))), some (.inl ((q4.1 3 a0 1) * (13 : Int32)))], [.inl a2, .inl (((q4.1 3 a0 1) * (13 : Int32)) + (1 : Int32)), .inr (.inr (some (24, a0)))], am_mk (am_si q4 24 a0 (((q4.1 3 a0 1) * (13 : Int32)) + (0 : Int32)).toNatClampNeg a1))) rfl ?_
    obtain ⟨hg6, h⟩ := am_ck_some h
    refine am_Go.c1 htb (S' := (42, [some (.inr (.inr (some (3, a0)))), some (.inl a1), some (.inl a2), some (.inl a3), some (.inr (.inr (some (8, a4)))), some (.inl ((q4.1 3 a0 1) * (13 : Int32)))], [], am_mk (am_si (am_si q4 24 a0 (((q4.1 3 a0 1) * (13 : Int32)) + (0 : Int32)).toNatClampNeg a1) 24 a0 (((q4.1 3 a0 1) * (13 : Int32)) + (1 : Int32)).toNatClampNeg a2))) (if_neg hg6) ?_
    refine am_Go.n htb 6 (S' := (51, [some (.inr (.inr (some (3, a0)))), some (.inl a1), some (.inl a2), some (.inl a3), some (.inr (.inr (some (8, a4)))), some (.inl ((q4.1 3 a0 1) * (13 : Int32)))], [.inl a3, .inl (((q4.1 3 a0 1) * (13 : Int32)) + (2 : Int32)), .inr (.inr (some (24, a0)))], am_mk (am_si (am_si q4 24 a0 (((q4.1 3 a0 1) * (13 : Int32)) + (0 : Int32)).toNatClampNeg a1) 24 a0 (((q4.1 3 a0 1) * (13 : Int32)) + (1 : Int32)).toNatClampNeg a2))) rfl ?_
    obtain ⟨hg7, h⟩ := am_ck_some h
    refine am_Go.c1 htb (S' := (52, [some (.inr (.inr (some (3, a0)))), some (.inl a1), some (.inl a2), some (.inl a3), some (.inr (.inr (some (8, a4)))), some (.inl ((q4.1 3 a0 1) * (13 : Int32)))], [], am_mk (am_si (am_si (am_si q4 24 a0 (((q4.1 3 a0 1) * (13 : Int32)) + (0 : Int32)).toNatClampNeg a1) 24 a0 (((q4.1 3 a0 1) * (13 : Int32)) + (1 : Int32)).toNatClampNeg a2) 24 a0 (((q4.1 3 a0 1) * (13 : Int32)) + (2 : Int32)).toNatClampNeg a3))) (if_neg hg7) ?_
    refine am_Go.n htb 8 (S' := (64, [some (.inr (.inr (some (3, a0)))), some (.inl a1), some (.inl a2), some (.inl a3), some (.inr (.inr (some (8, a4)))), some (.inl ((q4.1 3 a0 1) * (13 : Int32)))], [.inl a3, .inl a2, .inr (.inr (some (8, a4))), .inl (((q4.1 3 a0 1) * (13 : Int32)) + (3 : Int32)), .inr (.inr (some (24, a0)))], am_mk (am_si (am_si (am_si q4 24 a0 (((q4.1 3 a0 1) * (13 : Int32)) + (0 : Int32)).toNatClampNeg a1) 24 a0 (((q4.1 3 a0 1) * (13 : Int32)) + (1 : Int32)).toNatClampNeg a2) 24 a0 (((q4.1 3 a0 1) * (13 : Int32)) + (2 : Int32)).toNatClampNeg a3))) rfl ?_
    obtain ⟨r8, h9, h⟩ := am_bd h
    refine am_Go.cl htb rfl (ex_X8_weightOf d (by omega) a4 a2 a3 (am_si (am_si (am_si q4 24 a0 (((q4.1 3 a0 1) * (13 : Int32)) + (0 : Int32)).toNatClampNeg a1) 24 a0 (((q4.1 3 a0 1) * (13 : Int32)) + (1 : Int32)).toNatClampNeg a2) 24 a0 (((q4.1 3 a0 1) * (13 : Int32)) + (2 : Int32)).toNatClampNeg a3) r8 h9) ?_
    show am_Go d 31 (67, [some (.inr (.inr (some (3, a0)))), some (.inl a1), some (.inl a2), some (.inl a3), some (.inr (.inr (some (8, a4)))), some (.inl ((q4.1 3 a0 1) * (13 : Int32)))], [.inl r8, .inl (((q4.1 3 a0 1) * (13 : Int32)) + (3 : Int32)), .inr (.inr (some (24, a0)))], am_mk (am_si (am_si (am_si q4 24 a0 (((q4.1 3 a0 1) * (13 : Int32)) + (0 : Int32)).toNatClampNeg a1) 24 a0 (((q4.1 3 a0 1) * (13 : Int32)) + (1 : Int32)).toNatClampNeg a2) 24 a0 (((q4.1 3 a0 1) * (13 : Int32)) + (2 : Int32)).toNatClampNeg a3)) _ _ _ _
    obtain ⟨hg10, h⟩ := am_ck_some h
    refine am_Go.c1 htb (S' := (68, [some (.inr (.inr (some (3, a0)))), some (.inl a1), some (.inl a2), some (.inl a3), some (.inr (.inr (some (8, a4)))), some (.inl ((q4.1 3 a0 1) * (13 : Int32)))], [], am_mk (am_si (am_si (am_si (am_si q4 24 a0 (((q4.1 3 a0 1) * (13 : Int32)) + (0 : Int32)).toNatClampNeg a1) 24 a0 (((q4.1 3 a0 1) * (13 : Int32)) + (1 : Int32)).toNatClampNeg a2) 24 a0 (((q4.1 3 a0 1) * (13 : Int32)) + (2 : Int32)).toNatClampNeg a3) 24 a0 (((q4.1 3 a0 1) * (13 : Int32)) + (3 : Int32)).toNatClampNeg r8))) (if_neg hg10) ?_
    refine am_Go.n htb 8 (S' := (80, [some (.inr (.inr (some (3, a0)))), some (.inl a1), some (.inl a2), some (.inl a3), some (.inr (.inr (some (8, a4)))), some (.inl ((q4.1 3 a0 1) * (13 : Int32)))], [.inl a3, .inl a2, .inr (.inr (some (8, a4))), .inl (((q4.1 3 a0 1) * (13 : Int32)) + (4 : Int32)), .inr (.inr (some (24, a0)))], am_mk (am_si (am_si (am_si (am_si q4 24 a0 (((q4.1 3 a0 1) * (13 : Int32)) + (0 : Int32)).toNatClampNeg a1) 24 a0 (((q4.1 3 a0 1) * (13 : Int32)) + (1 : Int32)).toNatClampNeg a2) 24 a0 (((q4.1 3 a0 1) * (13 : Int32)) + (2 : Int32)).toNatClampNeg a3) 24 a0 (((q4.1 3 a0 1) * (13 : Int32)) + (3 : Int32)).toNatClampNeg r8))) rfl ?_
    obtain ⟨r11, h12, h⟩ := am_bd h
    refine am_Go.cl htb rfl (ex_X8_sinceOf d (by omega) a4 a2 a3 (am_si (am_si (am_si (am_si q4 24 a0 (((q4.1 3 a0 1) * (13 : Int32)) + (0 : Int32)).toNatClampNeg a1) 24 a0 (((q4.1 3 a0 1) * (13 : Int32)) + (1 : Int32)).toNatClampNeg a2) 24 a0 (((q4.1 3 a0 1) * (13 : Int32)) + (2 : Int32)).toNatClampNeg a3) 24 a0 (((q4.1 3 a0 1) * (13 : Int32)) + (3 : Int32)).toNatClampNeg r8) r11 h12) ?_
    show am_Go d 31 (83, [some (.inr (.inr (some (3, a0)))), some (.inl a1), some (.inl a2), some (.inl a3), some (.inr (.inr (some (8, a4)))), some (.inl ((q4.1 3 a0 1) * (13 : Int32)))], [.inl r11, .inl (((q4.1 3 a0 1) * (13 : Int32)) + (4 : Int32)), .inr (.inr (some (24, a0)))], am_mk (am_si (am_si (am_si (am_si q4 24 a0 (((q4.1 3 a0 1) * (13 : Int32)) + (0 : Int32)).toNatClampNeg a1) 24 a0 (((q4.1 3 a0 1) * (13 : Int32)) + (1 : Int32)).toNatClampNeg a2) 24 a0 (((q4.1 3 a0 1) * (13 : Int32)) + (2 : Int32)).toNatClampNeg a3) 24 a0 (((q4.1 3 a0 1) * (13 : Int32)) + (3 : Int32)).toNatClampNeg r8)) _ _ _ _
    obtain ⟨hg13, h⟩ := am_ck_some h
    refine am_Go.c1 htb (S' := (84, [some (.inr (.inr (some (3, a0)))), some (.inl a1), some (.inl a2), some (.inl a3), some (.inr (.inr (some (8, a4)))), some (.inl ((q4.1 3 a0 1) * (13 : Int32)))], [], am_mk (am_si (am_si (am_si (am_si (am_si q4 24 a0 (((q4.1 3 a0 1) * (13 : Int32)) + (0 : Int32)).toNatClampNeg a1) 24 a0 (((q4.1 3 a0 1) * (13 : Int32)) + (1 : Int32)).toNatClampNeg a2) 24 a0 (((q4.1 3 a0 1) * (13 : Int32)) + (2 : Int32)).toNatClampNeg a3) 24 a0 (((q4.1 3 a0 1) * (13 : Int32)) + (3 : Int32)).toNatClampNeg r8) 24 a0 (((q4.1 3 a0 1) * (13 : Int32)) + (4 : Int32)).toNatClampNeg r11))) (if_neg hg13) ?_
    refine am_Go.n htb 9 (S' := (99, [some (.inr (.inr (some (3, a0)))), some (.inl a1), some (.inl a2), some (.inl a3), some (.inr (.inr (some (8, a4)))), some (.inl ((q4.1 3 a0 1) * (13 : Int32)))], [.inl (q4.1 39 a4 0), .inl (((q4.1 3 a0 1) * (13 : Int32)) + (5 : Int32)), .inr (.inr (some (24, a0)))], am_mk (am_si (am_si (am_si (am_si (am_si q4 24 a0 (((q4.1 3 a0 1) * (13 : Int32)) + (0 : Int32)).toNatClampNeg a1) 24 a0 (((q4.1 3 a0 1) * (13 : Int32)) + (1 : Int32)).toNatClampNeg a2) 24 a0 (((q4.1 3 a0 1) * (13 : Int32)) + (2 : Int32)).toNatClampNeg a3) 24 a0 (((q4.1 3 a0 1) * (13 : Int32)) + (3 : Int32)).toNatClampNeg r8) 24 a0 (((q4.1 3 a0 1) * (13 : Int32)) + (4 : Int32)).toNatClampNeg r11))) rfl ?_
    obtain ⟨hg14, h⟩ := am_ck_some h
    refine am_Go.c1 htb (S' := (100, [some (.inr (.inr (some (3, a0)))), some (.inl a1), some (.inl a2), some (.inl a3), some (.inr (.inr (some (8, a4)))), some (.inl ((q4.1 3 a0 1) * (13 : Int32)))], [], am_mk (am_si (am_si (am_si (am_si (am_si (am_si q4 24 a0 (((q4.1 3 a0 1) * (13 : Int32)) + (0 : Int32)).toNatClampNeg a1) 24 a0 (((q4.1 3 a0 1) * (13 : Int32)) + (1 : Int32)).toNatClampNeg a2) 24 a0 (((q4.1 3 a0 1) * (13 : Int32)) + (2 : Int32)).toNatClampNeg a3) 24 a0 (((q4.1 3 a0 1) * (13 : Int32)) + (3 : Int32)).toNatClampNeg r8) 24 a0 (((q4.1 3 a0 1) * (13 : Int32)) + (4 : Int32)).toNatClampNeg r11) 24 a0 (((q4.1 3 a0 1) * (13 : Int32)) + (5 : Int32)).toNatClampNeg (q4.1 39 a4 0)))) (if_neg hg14) ?_
    refine am_Go.n htb 9 (S' := (117, [some (.inr (.inr (some (3, a0)))), some (.inl a1), some (.inl a2), some (.inl a3), some (.inr (.inr (some (8, a4)))), some (.inl ((q4.1 3 a0 1) * (13 : Int32)))], [.inl 7, .inl (((q4.1 3 a0 1) * (13 : Int32)) + (6 : Int32)), .inr (.inr (some (24, a0))), .inl 0, .inr (.inr (some (36, a4)))], am_mk (am_si (am_si (am_si (am_si (am_si (am_si q4 24 a0 (((q4.1 3 a0 1) * (13 : Int32)) + (0 : Int32)).toNatClampNeg a1) 24 a0 (((q4.1 3 a0 1) * (13 : Int32)) + (1 : Int32)).toNatClampNeg a2) 24 a0 (((q4.1 3 a0 1) * (13 : Int32)) + (2 : Int32)).toNatClampNeg a3) 24 a0 (((q4.1 3 a0 1) * (13 : Int32)) + (3 : Int32)).toNatClampNeg r8) 24 a0 (((q4.1 3 a0 1) * (13 : Int32)) + (4 : Int32)).toNatClampNeg r11) 24 a0 (((q4.1 3 a0 1) * (13 : Int32)) + (5 : Int32)).toNatClampNeg (q4.1 39 a4 0)))) rfl ?_
    obtain ⟨hz15, h⟩ := am_gd_some h
    refine am_Go.c1 htb (S' := (120, [some (.inr (.inr (some (3, a0)))), some (.inl a1), some (.inl a2), some (.inl a3), some (.inr (.inr (some (8, a4)))), some (.inl ((q4.1 3 a0 1) * (13 : Int32)))], [], am_mk (am_sc (am_si (am_si (am_si (am_si (am_si (am_si q4 24 a0 (((q4.1 3 a0 1) * (13 : Int32)) + (0 : Int32)).toNatClampNeg a1) 24 a0 (((q4.1 3 a0 1) * (13 : Int32)) + (1 : Int32)).toNatClampNeg a2) 24 a0 (((q4.1 3 a0 1) * (13 : Int32)) + (2 : Int32)).toNatClampNeg a3) 24 a0 (((q4.1 3 a0 1) * (13 : Int32)) + (3 : Int32)).toNatClampNeg r8) 24 a0 (((q4.1 3 a0 1) * (13 : Int32)) + (4 : Int32)).toNatClampNeg r11) 24 a0 (((q4.1 3 a0 1) * (13 : Int32)) + (5 : Int32)).toNatClampNeg (q4.1 39 a4 0)) 36 a4 24 a0 (0 : Int32).toNatClampNeg (((q4.1 3 a0 1) * (13 : Int32)) + (6 : Int32)).toNatClampNeg (7 : Int32).toNatClampNeg))) (if_neg hz15) ?_
    refine am_Go.n htb 6 (S' := (130, [some (.inr (.inr (some (3, a0)))), some (.inl a1), some (.inl a2), some (.inl a3), some (.inr (.inr (some (8, a4)))), some (.inl ((q4.1 3 a0 1) * (13 : Int32)))], [], am_mk (am_si (am_sc (am_si (am_si (am_si (am_si (am_si (am_si q4 24 a0 (((q4.1 3 a0 1) * (13 : Int32)) + (0 : Int32)).toNatClampNeg a1) 24 a0 (((q4.1 3 a0 1) * (13 : Int32)) + (1 : Int32)).toNatClampNeg a2) 24 a0 (((q4.1 3 a0 1) * (13 : Int32)) + (2 : Int32)).toNatClampNeg a3) 24 a0 (((q4.1 3 a0 1) * (13 : Int32)) + (3 : Int32)).toNatClampNeg r8) 24 a0 (((q4.1 3 a0 1) * (13 : Int32)) + (4 : Int32)).toNatClampNeg r11) 24 a0 (((q4.1 3 a0 1) * (13 : Int32)) + (5 : Int32)).toNatClampNeg (q4.1 39 a4 0)) 36 a4 24 a0 (0 : Int32).toNatClampNeg (((q4.1 3 a0 1) * (13 : Int32)) + (6 : Int32)).toNatClampNeg (7 : Int32).toNatClampNeg) 3 a0 1 ((q4.1 3 a0 1) + (1 : Int32))))) rfl ?_
    cases h
    exact am_Go.rt htb rfl
  · have h := h16
    by_cases hc1 : (m.1 3 a0 1) < (16 : Int32)
    · rw [if_pos hc1] at h
      refine am_Go.c1 htb (S' := (13, [some (.inr (.inr (some (3, a0)))), some (.inl a1), some (.inl a2), some (.inl a3), some (.inr (.inr (some (8, a4)))), none], [], am_mk m)) (if_pos hc1) ?_
      cases h
      exact am_Go.fg (by exact ⟨rfl, ⟨rfl, ⟨rfl, ⟨rfl, ⟨rfl, trivial⟩⟩⟩⟩⟩) key
    · rw [if_neg hc1] at h
      refine am_Go.c1 htb (S' := (9, [some (.inr (.inr (some (3, a0)))), some (.inl a1), some (.inl a2), some (.inl a3), some (.inr (.inr (some (8, a4)))), none], [], am_mk m)) (if_neg hc1) ?_
      refine am_Go.n htb 1 (S' := (10, [some (.inr (.inr (some (3, a0)))), some (.inl a1), some (.inl a2), some (.inl a3), some (.inr (.inr (some (8, a4)))), none], [.inr (.inr (some (3, a0)))], am_mk m)) rfl ?_
      obtain ⟨r2, h3, h⟩ := am_bd h
      refine am_Go.cl htb rfl (ex_X3_forgetOldest d (by omega) a0 m r2 h3) ?_
      show am_Go d 31 (13, [some (.inr (.inr (some (3, a0)))), some (.inl a1), some (.inl a2), some (.inl a3), some (.inr (.inr (some (8, a4)))), none], [], am_mk r2) _ _ _ _
      cases h
      exact am_Go.fg (by exact ⟨rfl, ⟨rfl, ⟨rfl, ⟨rfl, ⟨rfl, trivial⟩⟩⟩⟩⟩) key
