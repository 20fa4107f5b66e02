-- X5_headOf
set_option maxRecDepth 100000 in
theorem ex_X5_headOf (d : Nat) (hd : 1 ≤ d) (a0 : Nat) (a1 : Int32) (a2 : Int32) (m : am_m) (t : Int32) (h : fn_X5_headOf a0 a1 a2 m = some t) : am_Ex am_cod d 65 [.inr (.inr (some (5, a0))), .inl a1, .inl a2] (am_mk m) (some (.inl t)) (am_mk m) 0 0 := by
  obtain ⟨d, rfl⟩ : ∃ e, d = e + 1 := ⟨d - 1, by omega⟩
  have htb : am_tab 65 = at_65 := rfl
  refine ⟨Nat.le_of_ble_eq_true rfl, ?_⟩
  unfold fn_X5_headOf at h
  show am_Go d 65 (0, [some (.inr (.inr (some (5, a0)))), some (.inl a1), some (.inl a2), none, none], [], am_mk m) _ _ 0 0
  refine am_Go.n htb 7 (S' := (8, [some (.inr (.inr (some (5, a0)))), some (.inl a1), some (.inl a2), some (.inl ((a1 * (6 : Int32)) + a2)), none], [.inl a1], am_mk m)) rfl ?_
  obtain ⟨q6, h9, h⟩ := am_bd h
  refine am_Go.cut (S := (43, [some (.inr (.inr (some (5, a0)))), some (.inl a1), some (.inl a2), some (.inl ((a1 * (6 : Int32)) + a2)), none], [.inl q6], am_mk m)) ?_ (fun key => ?_)
  · refine am_Go.n htb 2 (S' := (47, [some (.inr (.inr (some (5, a0)))), some (.inl a1), some (.inl a2), some (.inl ((a1 * (6 : Int32)) + a2)), some (.inl q6)], [.inl q6], am_mk m)) rfl ?_
    by_cases hc7 : q6 = 0
    · rw [if_pos hc7] at h
      refine am_Go.c1 htb (S' := (59, [some (.inr (.inr (some (5, a0)))), some (.inl a1), some (.inl a2), some (.inl ((a1 * (6 : Int32)) + a2)), some (.inl q6)], [], am_mk m)) (if_pos hc7) ?_
      refine am_Go.n htb 1 (S' := (60, [some (.inr (.inr (some (5, a0)))), some (.inl a1), some (.inl a2), some (.inl ((a1 * (6 : Int32)) + a2)), some (.inl q6)], [.inl (-1)], am_mk m)) rfl ?_
      cases h
      exact am_Go.rt htb rfl
    · rw [if_neg hc7] at h
      refine am_Go.c1 htb (S' := (50, [some (.inr (.inr (some (5, a0)))), some (.inl a1), some (.inl a2), some (.inl ((a1 * (6 : Int32)) + a2)), some (.inl q6)], [], am_mk m)) (if_neg hc7) ?_
      refine am_Go.n htb 3 (S' := (55, [some (.inr (.inr (some (5, a0)))), some (.inl a1), some (.inl a2), some (.inl ((a1 * (6 : Int32)) + a2)), some (.inl q6)], [.inl ((a1 * (6 : Int32)) + a2), .inr (.inr (some (28, a0)))], am_mk m)) rfl ?_
      obtain ⟨hg8, h⟩ := am_ck_some h
      refine am_Go.c1 htb (S' := (56, [some (.inr (.inr (some (5, a0)))), some (.inl a1), some (.inl a2), some (.inl ((a1 * (6 : Int32)) + a2)), some (.inl q6)], [.inl (m.1 28 a0 ((a1 * (6 : Int32)) + a2).toNatClampNeg)], am_mk m)) (if_neg hg8) ?_
      refine am_Go.n htb 1 (S' := (60, [some (.inr (.inr (some (5, a0)))), some (.inl a1), some (.inl a2), some (.inl ((a1 * (6 : Int32)) + a2)), some (.inl q6)], [.inl (m.1 28 a0 ((a1 * (6 : Int32)) + a2).toNatClampNeg)], am_mk m)) rfl ?_
      cases h
      exact am_Go.rt htb rfl
  · have h := h9
    by_cases hc1 : a1 < 0
    · rw [if_pos hc1] at h
      refine am_Go.c1 htb (S' := (42, [some (.inr (.inr (some (5, a0)))), some (.inl a1), some (.inl a2), some (.inl ((a1 * (6 : Int32)) + a2)), none], [], am_mk m)) (if_pos hc1) ?_
      refine am_Go.n htb 1 (S' := (43, [some (.inr (.inr (some (5, a0)))), some (.inl a1), some (.inl a2), some (.inl ((a1 * (6 : Int32)) + a2)), none], [.inl 0], am_mk m)) rfl ?_
      cases h
      exact am_Go.fg (by exact ⟨rfl, ⟨rfl, ⟨rfl, ⟨rfl, trivial⟩⟩⟩⟩) key
    · rw [if_neg hc1] at h
      refine am_Go.c1 htb (S' := (11, [some (.inr (.inr (some (5, a0)))), some (.inl a1), some (.inl a2), some (.inl ((a1 * (6 : Int32)) + a2)), none], [], am_mk m)) (if_neg hc1) ?_
      refine am_Go.n htb 3 (S' := (16, [some (.inr (.inr (some (5, a0)))), some (.inl a1), some (.inl a2), some (.inl ((a1 * (6 : Int32)) + a2)), none], [.inl (m.1 5 a0 2), .inl a1], am_mk m)) rfl ?_
      by_cases hc2 : (m.1 5 a0 2) ≤ a1
      · rw [if_pos hc2] at h
        refine am_Go.c1 htb (S' := (42, [some (.inr (.inr (some (5, a0)))), some (.inl a1), some (.inl a2), some (.inl ((a1 * (6 : Int32)) + a2)), none], [], am_mk m)) (if_pos hc2) ?_
        refine am_Go.n htb 1 (S' := (43, [some (.inr (.inr (some (5, a0)))), some (.inl a1), some (.inl a2), some (.inl ((a1 * (6 : Int32)) + a2)), none], [.inl 0], am_mk m)) rfl ?_
        cases h
        exact am_Go.fg (by exact ⟨rfl, ⟨rfl, ⟨rfl, ⟨rfl, trivial⟩⟩⟩⟩) key
      · rw [if_neg hc2] at h
        refine am_Go.c1 htb (S' := (19, [some (.inr (.inr (some (5, a0)))), some (.inl a1), some (.inl a2), some (.inl ((a1 * (6 : Int32)) + a2)), none], [], am_mk m)) (if_neg hc2) ?_
        refine am_Go.n htb 1 (S' := (20, [some (.inr (.inr (some (5, a0)))), some (.inl a1), some (.inl a2), some (.inl ((a1 * (6 : Int32)) + a2)), none], [.inl a2], am_mk m)) rfl ?_
        by_cases hc3 : a2 < 0
        · rw [if_pos hc3] at h
          refine am_Go.c1 htb (S' := (42, [some (.inr (.inr (some (5, a0)))), some (.inl a1), some (.inl a2), some (.inl ((a1 * (6 : Int32)) + a2)), none], [], am_mk m)) (if_pos hc3) ?_
          refine am_Go.n htb 1 (S' := (43, [some (.inr (.inr (some (5, a0)))), some (.inl a1), some (.inl a2), some (.inl ((a1 * (6 : Int32)) + a2)), none], [.inl 0], am_mk m)) rfl ?_
          cases h
          exact am_Go.fg (by exact ⟨rfl, ⟨rfl, ⟨rfl, ⟨rfl, trivial⟩⟩⟩⟩) key
        · rw [if_neg hc3] at h
          refine am_Go.c1 htb (S' := (23, [some (.inr (.inr (some (5, a0)))), some (.inl a1), some (.inl a2), some (.inl ((a1 * (6 : Int32)) + a2)), none], [], am_mk m)) (if_neg hc3) ?_
          refine am_Go.n htb 2 (S' := (26, [some (.inr (.inr (some (5, a0)))), some (.inl a1), some (.inl a2), some (.inl ((a1 * (6 : Int32)) + a2)), none], [.inl 6, .inl a2], am_mk m)) rfl ?_
          by_cases hc4 : (6 : Int32) ≤ a2
          · rw [if_pos hc4] at h
            refine am_Go.c1 htb (S' := (42, [some (.inr (.inr (some (5, a0)))), some (.inl a1), some (.inl a2), some (.inl ((a1 * (6 : Int32)) + a2)), none], [], am_mk m)) (if_pos hc4) ?_
            refine am_Go.n htb 1 (S' := (43, [some (.inr (.inr (some (5, a0)))), some (.inl a1), some (.inl a2), some (.inl ((a1 * (6 : Int32)) + a2)), none], [.inl 0], am_mk m)) rfl ?_
            cases h
            exact am_Go.fg (by exact ⟨rfl, ⟨rfl, ⟨rfl, ⟨rfl, trivial⟩⟩⟩⟩) key
          · rw [if_neg hc4] at h
            refine am_Go.c1 htb (S' := (29, [some (.inr (.inr (some (5, a0)))), some (.inl a1), some (.inl a2), some (.inl ((a1 * (6 : Int32)) + a2)), none], [], am_mk m)) (if_neg hc4) ?_
            refine am_Go.n htb 4 (S' := (35, [some (.inr (.inr (some (5, a0)))), some (.inl a1), some (.inl a2), some (.inl ((a1 * (6 : Int32)) + a2)), none], [.inl (Int32.ofNat (m.2.2.2.2.2.2.1 28 a0)), .inl ((a1 * (6 : Int32)) + a2)], am_mk m)) rfl ?_
            by_cases hc5 : (Int32.ofNat (m.2.2.2.2.2.2.1 28 a0)) ≤ ((a1 * (6 : Int32)) + a2)
            · rw [if_pos hc5] at h
              refine am_Go.c1 htb (S' := (42, [some (.inr (.inr (some (5, a0)))), some (.inl a1), some (.inl a2), some (.inl ((a1 * (6 : Int32)) + a2)), none], [], am_mk m)) (if_pos hc5) ?_
              refine am_Go.n htb 1 (S' := (43, [some (.inr (.inr (some (5, a0)))), some (.inl a1), some (.inl a2), some (.inl ((a1 * (6 : Int32)) + a2)), none], [.inl 0], am_mk m)) rfl ?_
              cases h
              exact am_Go.fg (by exact ⟨rfl, ⟨rfl, ⟨rfl, ⟨rfl, trivial⟩⟩⟩⟩) key
            · rw [if_neg hc5] at h
              refine am_Go.c1 htb (S' := (38, [some (.inr (.inr (some (5, a0)))), some (.inl a1), some (.inl a2), some (.inl ((a1 * (6 : Int32)) + a2)), none], [], am_mk m)) (if_neg hc5) ?_
              refine am_Go.n htb 2 (S' := (43, [some (.inr (.inr (some (5, a0)))), some (.inl a1), some (.inl a2), some (.inl ((a1 * (6 : Int32)) + a2)), none], [.inl 1], am_mk m)) rfl ?_
              cases h
              exact am_Go.fg (by exact ⟨rfl, ⟨rfl, ⟨rfl, ⟨rfl, trivial⟩⟩⟩⟩) key
-- X1_tellsLaw
set_option maxRecDepth 100000 in
theorem lt_X1_tellsLaw_19 (d : Nat) (hd : 3 ≤ d + 1) {r : Option am_V} {M' : am_M} {kc ks : Nat} {n : Nat} {x1 : Int32} {x2 : Int32} {x3 : Int32} {m : am_m} {t : Sum (am_m) (Int32 × am_m)} (h : lp_X1_tellsLaw_19 n x1 x2 x3 m = some t) (hk : ∀ t', t = .inl t' → am_Go d 17 (109, [some (.inr (.inr (some (1, 0)))), some (.inl x1), some (.inl x2), none, none], [], am_mk t') r M' kc ks) (hr : ∀ t', t = .inr t' → r = some (.inl t'.1) ∧ M' = am_mk t'.2 ∧ kc = 0 ∧ ks = 0) : am_Go d 17 (19, [some (.inr (.inr (some (1, 0)))), some (.inl x1), some (.inl x2), some (.inl x3), none], [], am_mk m) r M' kc ks := by
  have htb : am_tab 17 = at_17 := rfl
  induction n generalizing x3 m with
  | zero => cases h
  | succ n ih =>
    unfold lp_X1_tellsLaw_19 at h
    refine am_Go.n htb 1 (S' := (20, [some (.inr (.inr (some (1, 0)))), some (.inl x1), some (.inl x2), some (.inl x3), none], [.inl x3], am_mk m)) rfl ?_
    by_cases hc5 : x3 < 0
    · rw [if_pos hc5] at h
      refine am_Go.c1 htb (S' := (109, [some (.inr (.inr (some (1, 0)))), some (.inl x1), some (.inl x2), some (.inl x3), none], [], am_mk m)) (if_pos hc5) ?_
      cases h
      exact am_Go.fg (by exact ⟨rfl, ⟨rfl, ⟨rfl, trivial⟩⟩⟩) (hk _ rfl)
    · rw [if_neg hc5] at h
      refine am_Go.c1 htb (S' := (23, [some (.inr (.inr (some (1, 0)))), some (.inl x1), some (.inl x2), some (.inl x3), none], [], am_mk m)) (if_neg hc5) ?_
      refine am_Go.n htb 1 (S' := (24, [some (.inr (.inr (some (1, 0)))), some (.inl x1), some (.inl x2), some (.inl x3), none], [.inr (.inr (some (1, 0)))], am_mk m)) rfl ?_
      obtain ⟨u6, hu7, h⟩ := am_bd h
      refine am_Go.o htb (am_o_gf 1 1 8) rfl (S' := (27, [some (.inr (.inr (some (1, 0)))), some (.inl x1), some (.inl x2), some (.inl x3), none], [.inr (.inr (some (5, u6)))], am_mk m)) (am_gfd hu7) ?_
      refine am_Go.n htb 2 (S' := (29, [some (.inr (.inr (some (1, 0)))), some (.inl x1), some (.inl x2), some (.inl x3), none], [.inl 0, .inl x3, .inr (.inr (some (5, u6)))], am_mk m)) rfl ?_
      obtain ⟨r8, h9, h⟩ := am_bd h
      refine am_Go.cl htb rfl (ex_X5_headOf d (by omega) u6 x3 0 m r8 h9) ?_
      show am_Go d 17 (32, [some (.inr (.inr (some (1, 0)))), some (.inl x1), some (.inl x2), some (.inl x3), none], [.inl r8], am_mk m) _ _ _ _
      refine am_Go.n htb 1 (S' := (33, [some (.inr (.inr (some (1, 0)))), some (.inl x1), some (.inl x2), some (.inl x3), none], [.inl x1, .inl r8], am_mk m)) rfl ?_
      by_cases hc10 : r8 ≠ x1
      · rw [if_pos hc10] at h
        refine am_Go.c1 htb (S' := (103, [some (.inr (.inr (some (1, 0)))), some (.inl x1), some (.inl x2), some (.inl x3), none], [], am_mk m)) (if_pos hc10) ?_
        refine am_Go.o htb (am_o_inc 3 (-1)) rfl (S' := (106, [some (.inr (.inr (some (1, 0)))), some (.inl x1), some (.inl x2), some (.inl (x3 - 1)), none], [], am_mk m)) (am_incn rfl rfl) ?_
        refine am_Go.n htb 1 (S' := (19, [some (.inr (.inr (some (1, 0)))), some (.inl x1), some (.inl x2), some (.inl (x3 - 1)), none], [], am_mk m)) rfl ?_
        first | exact ih h | exact ih h hk | exact ih h hr | exact ih h hk hr
      · rw [if_neg hc10] at h
        refine am_Go.c1 htb (S' := (36, [some (.inr (.inr (some (1, 0)))), some (.inl x1), some (.inl x2), some (.inl x3), none], [], am_mk m)) (if_neg hc10) ?_
        refine am_Go.n htb 2 (S' := (38, [some (.inr (.inr (some (1, 0)))), some (.inl x1), some (.inl x2), some (.inl x3), none], [.inr (.inr (some (1, 0))), .inr (.inr (some (1, 0)))], am_mk m)) rfl ?_
        obtain ⟨u11, hu12, h⟩ := am_bd h
        refine am_Go.o htb (am_o_gf 1 1 8) rfl (S' := (41, [some (.inr (.inr (some (1, 0)))), some (.inl x1), some (.inl x2), some (.inl x3), none], [.inr (.inr (some (5, u11))), .inr (.inr (some (1, 0)))], am_mk m)) (am_gfd hu12) ?_
        refine am_Go.n htb 1 (S' := (42, [some (.inr (.inr (some (1, 0)))), some (.inl x1), some (.inl x2), some (.inl x3), none], [.inr (.inr (some (1, 0))), .inr (.inr (some (5, u11))), .inr (.inr (some (1, 0)))], am_mk m)) rfl ?_
        obtain ⟨u13, hu14, h⟩ := am_bd h
        refine am_Go.o htb (am_o_gf 1 1 8) rfl (S' := (45, [some (.inr (.inr (some (1, 0)))), some (.inl x1), some (.inl x2), some (.inl x3), none], [.inr (.inr (some (5, u13))), .inr (.inr (some (5, u11))), .inr (.inr (some (1, 0)))], am_mk m)) (am_gfd hu14) ?_
        refine am_Go.n htb 2 (S' := (47, [some (.inr (.inr (some (1, 0)))), some (.inl x1), some (.inl x2), some (.inl x3), none], [.inl 2, .inl x3, .inr (.inr (some (5, u13))), .inr (.inr (some (5, u11))), .inr (.inr (some (1, 0)))], am_mk m)) rfl ?_
        obtain ⟨r15, h16, h⟩ := am_bd h
        refine am_Go.cl htb rfl (ex_X5_headOf d (by omega) u13 x3 2 m r15 h16) ?_
        show am_Go d 17 (50, [some (.inr (.inr (some (1, 0)))), some (.inl x1), some (.inl x2), some (.inl x3), none], [.inl r15, .inr (.inr (some (5, u11))), .inr (.inr (some (1, 0)))], am_mk m) _ _ _ _
        refine am_Go.n htb 2 (S' := (54, [some (.inr (.inr (some (1, 0)))), some (.inl x1), some (.inl x2), some (.inl x3), none], [.inr (.inr (some (20, 0))), .inl r15, .inr (.inr (some (5, u11))), .inr (.inr (some (1, 0)))], am_mk m)) rfl ?_
        obtain ⟨r17, h18, h⟩ := am_bd h
        refine am_Go.cl htb rfl (ex_X1_tell_l d (by omega) u11 r15 m r17 h18) ?_
        show am_Go d 17 (57, [some (.inr (.inr (some (1, 0)))), some (.inl x1), some (.inl x2), some (.inl x3), none], [.inl r17.1], am_mk r17.2) _ _ _ _
        refine am_Go.n htb 1 (S' := (58, [some (.inr (.inr (some (1, 0)))), some (.inl x1), some (.inl x2), some (.inl x3), none], [.inl 1, .inl r17.1], am_mk r17.2)) rfl ?_
        by_cases hc19 : r17.1 ≠ (1 : Int32)
        · rw [if_pos hc19] at h
          refine am_Go.c1 htb (S' := (103, [some (.inr (.inr (some (1, 0)))), some (.inl x1), some (.inl x2), some (.inl x3), none], [], am_mk r17.2)) (if_pos hc19) ?_
          refine am_Go.o htb (am_o_inc 3 (-1)) rfl (S' := (106, [some (.inr (.inr (some (1, 0)))), some (.inl x1), some (.inl x2), some (.inl (x3 - 1)), none], [], am_mk r17.2)) (am_incn rfl rfl) ?_
          refine am_Go.n htb 1 (S' := (19, [some (.inr (.inr (some (1, 0)))), some (.inl x1), some (.inl x2), some (.inl (x3 - 1)), none], [], am_mk r17.2)) rfl ?_
          first | exact ih h | exact ih h hk | exact ih h hr | exact ih h hk hr
        · rw [if_neg hc19] at h
          refine am_Go.c1 htb (S' := (61, [some (.inr (.inr (some (1, 0)))), some (.inl x1), some (.inl x2), some (.inl x3), none], [], am_mk r17.2)) (if_neg hc19) ?_
          refine am_Go.n htb 2 (S' := (63, [some (.inr (.inr (some (1, 0)))), some (.inl x1), some (.inl x2), some (.inl x3), none], [.inr (.inr (some (1, 0))), .inr (.inr (some (1, 0)))], am_mk r17.2)) rfl ?_
          obtain ⟨u20, hu21, h⟩ := am_bd h
          refine am_Go.o htb (am_o_gf 1 1 8) rfl (S' := (66, [some (.inr (.inr (some (1, 0)))), some (.inl x1), some (.inl x2), some (.inl x3), none], [.inr (.inr (some (5, u20))), .inr (.inr (some (1, 0)))], am_mk r17.2)) (am_gfd hu21) ?_
          refine am_Go.n htb 1 (S' := (67, [some (.inr (.inr (some (1, 0)))), some (.inl x1), some (.inl x2), some (.inl x3), none], [.inr (.inr (some (1, 0))), .inr (.inr (some (5, u20))), .inr (.inr (some (1, 0)))], am_mk r17.2)) rfl ?_
          obtain ⟨u22, hu23, h⟩ := am_bd h
          refine am_Go.o htb (am_o_gf 1 1 8) rfl (S' := (70, [some (.inr (.inr (some (1, 0)))), some (.inl x1), some (.inl x2), some (.inl x3), none], [.inr (.inr (some (5, u22))), .inr (.inr (some (5, u20))), .inr (.inr (some (1, 0)))], am_mk r17.2)) (am_gfd hu23) ?_
          refine am_Go.n htb 2 (S' := (72, [some (.inr (.inr (some (1, 0)))), some (.inl x1), some (.inl x2), some (.inl x3), none], [.inl 3, .inl x3, .inr (.inr (some (5, u22))), .inr (.inr (some (5, u20))), .inr (.inr (some (1, 0)))], am_mk r17.2)) rfl ?_
          obtain ⟨r24, h25, h⟩ := am_bd h
          refine am_Go.cl htb rfl (ex_X5_headOf d (by omega) u22 x3 3 r17.2 r24 h25) ?_
          show am_Go d 17 (75, [some (.inr (.inr (some (1, 0)))), some (.inl x1), some (.inl x2), some (.inl x3), none], [.inl r24, .inr (.inr (some (5, u20))), .inr (.inr (some (1, 0)))], am_mk r17.2) _ _ _ _
          refine am_Go.n htb 2 (S' := (79, [some (.inr (.inr (some (1, 0)))), some (.inl x1), some (.inl x2), some (.inl x3), none], [.inr (.inr (some (20, 0))), .inl r24, .inr (.inr (some (5, u20))), .inr (.inr (some (1, 0)))], am_mk r17.2)) rfl ?_
          obtain ⟨r26, h27, h⟩ := am_bd h
          refine am_Go.cl htb rfl (ex_X1_tell_l d (by omega) u20 r24 r17.2 r26 h27) ?_
          show am_Go d 17 (82, [some (.inr (.inr (some (1, 0)))), some (.inl x1), some (.inl x2), some (.inl x3), none], [.inl r26.1], am_mk r26.2) _ _ _ _
          refine am_Go.n htb 3 (S' := (88, [some (.inr (.inr (some (1, 0)))), some (.inl x1), some (.inl x2), some (.inl x3), some (.inl r26.1)], [.inl 2000000000, .inl r26.1], am_mk r26.2)) rfl ?_
          by_cases hc28 : r26.1 = (2000000000 : Int32)
          · rw [if_pos hc28] at h
            refine am_Go.c1 htb (S' := (103, [some (.inr (.inr (some (1, 0)))), some (.inl x1), some (.inl x2), some (.inl x3), some (.inl r26.1)], [], am_mk r26.2)) (if_pos hc28) ?_
            refine am_Go.o htb (am_o_inc 3 (-1)) rfl (S' := (106, [some (.inr (.inr (some (1, 0)))), some (.inl x1), some (.inl x2), some (.inl (x3 - 1)), some (.inl r26.1)], [], am_mk r26.2)) (am_incn rfl rfl) ?_
            refine am_Go.n htb 1 (S' := (19, [some (.inr (.inr (some (1, 0)))), some (.inl x1), some (.inl x2), some (.inl (x3 - 1)), some (.inl r26.1)], [], am_mk r26.2)) rfl ?_
            refine am_Go.fg (L0 := [some (.inr (.inr (some (1, 0)))), some (.inl x1), some (.inl x2), some (.inl (x3 - 1)), none]) (by exact ⟨rfl, ⟨rfl, ⟨rfl, ⟨rfl, trivial⟩⟩⟩⟩) ?_
            first | exact ih h | exact ih h hk | exact ih h hr | exact ih h hk hr
          · rw [if_neg hc28] at h
            refine am_Go.c1 htb (S' := (91, [some (.inr (.inr (some (1, 0)))), some (.inl x1), some (.inl x2), some (.inl x3), some (.inl r26.1)], [], am_mk r26.2)) (if_neg hc28) ?_
            refine am_Go.n htb 3 (S' := (96, [some (.inr (.inr (some (1, 0)))), some (.inl x1), some (.inl x2), some (.inl x3), some (.inl r26.1)], [.inl r26.1, .inl 9, .inl 0], am_mk r26.2)) rfl ?_
            obtain ⟨r29, h30, h⟩ := am_bd h
            refine am_Go.cl htb rfl (ex_J9_min_7cf53 d (by omega) 9 r26.1 r26.2 r29 h30) ?_
            show am_Go d 17 (99, [some (.inr (.inr (some (1, 0)))), some (.inl x1), some (.inl x2), some (.inl x3), some (.inl r26.1)], [.inl r29, .inl 0], am_mk r26.2) _ _ _ _
            obtain ⟨r31, h32, h⟩ := am_bd h
            refine am_Go.cl htb rfl (ex_J9_max_7cf53 d (by omega) 0 r29 r26.2 r31 h32) ?_
            show am_Go d 17 (102, [some (.inr (.inr (some (1, 0)))), some (.inl x1), some (.inl x2), some (.inl x3), some (.inl r26.1)], [.inl r31], am_mk r26.2) _ _ _ _
            cases h
            obtain ⟨rfl, rfl, rfl, rfl⟩ := hr _ rfl
            exact am_Go.rt htb rfl
set_option maxRecDepth 100000 in
theorem ex_X1_tellsLaw (d : Nat) (hd : 3 ≤ d) (a1 : Int32) (a2 : Int32) (m : am_m) (t : Int32 × am_m) (h : fn_X1_tellsLaw a1 a2 m = some t) : am_Ex am_cod d 17 [.inr (.inr (some (1, 0))), .inl a1, .inl a2] (am_mk m) (some (.inl t.1)) (am_mk t.2) 0 0 := by
  obtain ⟨d, rfl⟩ : ∃ e, d = e + 1 := ⟨d - 1, by omega⟩
  have htb : am_tab 17 = at_17 := rfl
  refine ⟨Nat.le_of_ble_eq_true rfl, ?_⟩
  unfold fn_X1_tellsLaw at h
  show am_Go d 17 (0, [some (.inr (.inr (some (1, 0)))), some (.inl a1), some (.inl a2), none, none], [], am_mk m) _ _ 0 0
  refine am_Go.n htb 1 (S' := (1, [some (.inr (.inr (some (1, 0)))), some (.inl a1), some (.inl a2), none, none], [.inr (.inr (some (1, 0)))], am_mk m)) rfl ?_
  refine am_Go.c1 htb (S' := (4, [some (.inr (.inr (some (1, 0)))), some (.inl a1), some (.inl a2), none, none], [.inr (.inr (Option.map (fun j => (5, j)) (m.2.2.2.1 0)))], am_mk m)) rfl ?_
  cases hu2 : (m.2.2.2.1 0) with
  | none =>
    rw [hu2] at h
    refine am_Go.c1 htb (S' := (7, [some (.inr (.inr (some (1, 0)))), some (.inl a1), some (.inl a2), none, none], [], am_mk m)) rfl ?_
    refine am_Go.n htb 1 (S' := (8, [some (.inr (.inr (some (1, 0)))), some (.inl a1), some (.inl a2), none, none], [.inl a2], am_mk m)) rfl ?_
    cases h
    exact am_Go.rt htb rfl
  | some u1 =>
    rw [hu2] at h
    refine am_Go.c1 htb (S' := (9, [some (.inr (.inr (some (1, 0)))), some (.inl a1), some (.inl a2), none, none], [], am_mk m)) rfl ?_
    refine am_Go.n htb 1 (S' := (10, [some (.inr (.inr (some (1, 0)))), some (.inl a1), some (.inl a2), none, none], [.inr (.inr (some (1, 0)))], am_mk m)) rfl ?_
    obtain ⟨u3, hu4, h⟩ := am_bd h
    refine am_Go.o htb (am_o_gf 1 1 8) rfl (S' := (13, [some (.inr (.inr (some (1, 0)))), some (.inl a1), some (.inl a2), none, none], [.inr (.inr (some (5, u3)))], am_mk m)) (am_gfd (hu2.trans hu4)) ?_
    refine am_Go.n htb 4 (S' := (19, [some (.inr (.inr (some (1, 0)))), some (.inl a1), some (.inl a2), some (.inl ((m.1 5 u3 2) - (1 : Int32))), none], [], am_mk m)) rfl ?_
    obtain ⟨w36, h34, h⟩ := am_bd h
    refine lt_X1_tellsLaw_19 _ hd (h := h34) (hk := ?_) (hr := ?_)
    · intro q33 he
      subst he
      dsimp only at h
      refine am_Go.n htb 1 (S' := (110, [some (.inr (.inr (some (1, 0)))), some (.inl a1), some (.inl a2), none, none], [.inl a2], am_mk q33)) rfl ?_
      cases h
      exact am_Go.rt htb rfl
    · intro rr35 he
      subst he
      cases h
      exact ⟨rfl, rfl, rfl, rfl⟩
-- X1_countsOf
set_option maxRecDepth 100000 in
theorem ex_X1_countsOf (d : Nat) (hd : 4 ≤ d) (a1 : Int32) (a2 : Int32) (m : am_m) (t : Int32 × am_m) (h : fn_X1_countsOf a1 a2 m = some t) : am_Ex am_cod d 6 [.inr (.inr (some (1, 0))), .inl a1, .inl a2] (am_mk m) (some (.inl t.1)) (am_mk t.2) 0 0 := by
  obtain ⟨d, rfl⟩ : ∃ e, d = e + 1 := ⟨d - 1, by omega⟩
  have htb : am_tab 6 = at_6 := rfl
  refine ⟨Nat.le_of_ble_eq_true rfl, ?_⟩
  unfold fn_X1_countsOf at h
  show am_Go d 6 (0, [some (.inr (.inr (some (1, 0)))), some (.inl a1), some (.inl a2)], [], am_mk m) _ _ 0 0
  refine am_Go.n htb 3 (S' := (3, [some (.inr (.inr (some (1, 0)))), some (.inl a1), some (.inl a2)], [.inl a2, .inl a1, .inr (.inr (some (1, 0)))], am_mk m)) rfl ?_
  obtain ⟨r1, h2, h⟩ := am_bd h
  refine am_Go.cl htb rfl (ex_X1_knowTwo d (by omega) a1 a2 m r1 h2) ?_
  show am_Go d 6 (6, [some (.inr (.inr (some (1, 0)))), some (.inl a1), some (.inl a2)], [], am_mk r1) _ _ _ _
  refine am_Go.n htb 6 (S' := (16, [some (.inr (.inr (some (1, 0)))), some (.inl a1), some (.inl a2)], [.inl (r1.1 20 0 2), .inl 266, .inr (.inr (some (1, 0)))], am_mk r1)) rfl ?_
  obtain ⟨r3, h4, h⟩ := am_bd h
  refine am_Go.cl htb rfl (ex_X1_tellsLaw d (by omega) 266 (r1.1 20 0 2) r1 r3 h4) ?_
  show am_Go d 6 (19, [some (.inr (.inr (some (1, 0)))), some (.inl a1), some (.inl a2)], [.inl r3.1], am_mk r3.2) _ _ _ _
  cases h
  exact am_Go.rt htb rfl
-- X1_isBarred
set_option maxRecDepth 100000 in
theorem ex_X1_isBarred (d : Nat) (hd : 4 ≤ d) (a1 : Int32) (a2 : Int32) (m : am_m) (t : Int32 × am_m) (h : fn_X1_isBarred a1 a2 m = some t) : am_Ex am_cod d 7 [.inr (.inr (some (1, 0))), .inl a1, .inl a2] (am_mk m) (some (.inl t.1)) (am_mk t.2) 0 0 := by
  obtain ⟨d, rfl⟩ : ∃ e, d = e + 1 := ⟨d - 1, by omega⟩
  have htb : am_tab 7 = at_7 := rfl
  refine ⟨Nat.le_of_ble_eq_true rfl, ?_⟩
  unfold fn_X1_isBarred at h
  show am_Go d 7 (0, [some (.inr (.inr (some (1, 0)))), some (.inl a1), some (.inl a2)], [], am_mk m) _ _ 0 0
  refine am_Go.n htb 3 (S' := (3, [some (.inr (.inr (some (1, 0)))), some (.inl a1), some (.inl a2)], [.inl a2, .inl a1, .inr (.inr (some (1, 0)))], am_mk m)) rfl ?_
  obtain ⟨r1, h2, h⟩ := am_bd h
  refine am_Go.cl htb rfl (ex_X1_knowTwo d (by omega) a1 a2 m r1 h2) ?_
  show am_Go d 7 (6, [some (.inr (.inr (some (1, 0)))), some (.inl a1), some (.inl a2)], [], am_mk r1) _ _ _ _
  refine am_Go.n htb 3 (S' := (11, [some (.inr (.inr (some (1, 0)))), some (.inl a1), some (.inl a2)], [.inl (-1), .inl 269, .inr (.inr (some (1, 0)))], am_mk r1)) rfl ?_
  obtain ⟨r3, h4, h⟩ := am_bd h
  refine am_Go.cl htb rfl (ex_X1_tellsLaw d (by omega) 269 (-1) r1 r3 h4) ?_
  show am_Go d 7 (14, [some (.inr (.inr (some (1, 0)))), some (.inl a1), some (.inl a2)], [.inl r3.1], am_mk r3.2) _ _ _ _
  refine am_Go.n htb 1 (S' := (15, [some (.inr (.inr (some (1, 0)))), some (.inl a1), some (.inl a2)], [.inl (-1), .inl r3.1], am_mk r3.2)) rfl ?_
  by_cases hc5 : r3.1 = (-1 : Int32)
  · rw [if_pos hc5] at h
    refine am_Go.c1 htb (S' := (22, [some (.inr (.inr (some (1, 0)))), some (.inl a1), some (.inl a2)], [], am_mk r3.2)) (if_pos hc5) ?_
    refine am_Go.n htb 1 (S' := (23, [some (.inr (.inr (some (1, 0)))), some (.inl a1), some (.inl a2)], [.inl 0], am_mk r3.2)) rfl ?_
    cases h
    exact am_Go.rt htb rfl
  · rw [if_neg hc5] at h
    refine am_Go.c1 htb (S' := (18, [some (.inr (.inr (some (1, 0)))), some (.inl a1), some (.inl a2)], [], am_mk r3.2)) (if_neg hc5) ?_
    refine am_Go.n htb 2 (S' := (23, [some (.inr (.inr (some (1, 0)))), some (.inl a1), some (.inl a2)], [.inl 1], am_mk r3.2)) rfl ?_
    cases h
    exact am_Go.rt htb rfl
-- X1_maySit
set_option maxRecDepth 100000 in
theorem ex_X1_maySit (d : Nat) (hd : 4 ≤ d) (a1 : Int32) (a2 : Int32) (m : am_m) (t : Int32 × am_m) (h : fn_X1_maySit a1 a2 m = some t) : am_Ex am_cod d 8 [.inr (.inr (some (1, 0))), .inl a1, .inl a2] (am_mk m) (some (.inl t.1)) (am_mk t.2) 0 0 := by
  obtain ⟨d, rfl⟩ : ∃ e, d = e + 1 := ⟨d - 1, by omega⟩
  have htb : am_tab 8 = at_8 := rfl
  refine ⟨Nat.le_of_ble_eq_true rfl, ?_⟩
  unfold fn_X1_maySit at h
  show am_Go d 8 (0, [some (.inr (.inr (some (1, 0)))), some (.inl a1), some (.inl a2), none, none], [], am_mk m) _ _ 0 0
  refine am_Go.n htb 2 (S' := (2, [some (.inr (.inr (some (1, 0)))), some (.inl a1), some (.inl a2), none, none], [.inl a2, .inl a1], am_mk m)) rfl ?_
  by_cases hc1 : a1 ≠ a2
  · rw [if_pos hc1] at h
    refine am_Go.c1 htb (S' := (7, [some (.inr (.inr (some (1, 0)))), some (.inl a1), some (.inl a2), none, none], [], am_mk m)) (if_pos hc1) ?_
    refine am_Go.n htb 3 (S' := (10, [some (.inr (.inr (some (1, 0)))), some (.inl a1), some (.inl a2), none, none], [.inl a2, .inl a1, .inr (.inr (some (1, 0)))], am_mk m)) rfl ?_
    obtain ⟨r2, h3, h⟩ := am_bd h
    refine am_Go.cl htb rfl (ex_X1_knowTwo d (by omega) a1 a2 m r2 h3) ?_
    show am_Go d 8 (13, [some (.inr (.inr (some (1, 0)))), some (.inl a1), some (.inl a2), none, none], [], am_mk r2) _ _ _ _
    refine am_Go.n htb 6 (S' := (23, [some (.inr (.inr (some (1, 0)))), some (.inl a1), some (.inl a2), none, none], [.inl (r2.1 20 0 2), .inl 266, .inr (.inr (some (1, 0)))], am_mk r2)) rfl ?_
    obtain ⟨r4, h5, h⟩ := am_bd h
    refine am_Go.cl htb rfl (ex_X1_tellsLaw d (by omega) 266 (r2.1 20 0 2) r2 r4 h5) ?_
    show am_Go d 8 (26, [some (.inr (.inr (some (1, 0)))), some (.inl a1), some (.inl a2), none, none], [.inl r4.1], am_mk r4.2) _ _ _ _
    refine am_Go.n htb 4 (S' := (32, [some (.inr (.inr (some (1, 0)))), some (.inl a1), some (.inl a2), some (.inl r4.1), none], [.inl (-1), .inl 269, .inr (.inr (some (1, 0)))], am_mk r4.2)) rfl ?_
    obtain ⟨r6, h7, h⟩ := am_bd h
    refine am_Go.cl htb rfl (ex_X1_tellsLaw d (by omega) 269 (-1) r4.2 r6 h7) ?_
    show am_Go d 8 (35, [some (.inr (.inr (some (1, 0)))), some (.inl a1), some (.inl a2), some (.inl r4.1), none], [.inl r6.1], am_mk r6.2) _ _ _ _
    refine am_Go.n htb 1 (S' := (36, [some (.inr (.inr (some (1, 0)))), some (.inl a1), some (.inl a2), some (.inl r4.1), none], [.inl (-1), .inl r6.1], am_mk r6.2)) rfl ?_
    refine am_Go.cut (S := (44, [some (.inr (.inr (some (1, 0)))), some (.inl a1), some (.inl a2), some (.inl r4.1), none], [.inl (if r6.1 = (-1 : Int32) then (0 : Int32) else (1 : Int32))], am_mk r6.2)) ?_ (fun key => ?_)
    · refine am_Go.n htb 2 (S' := (48, [some (.inr (.inr (some (1, 0)))), some (.inl a1), some (.inl a2), some (.inl r4.1), some (.inl (if r6.1 = (-1 : Int32) then (0 : Int32) else (1 : Int32)))], [.inl (if r6.1 = (-1 : Int32) then (0 : Int32) else (1 : Int32))], am_mk r6.2)) rfl ?_
      obtain ⟨q17, h20, h⟩ := am_bd h
      refine am_Go.cut (S := (92, [some (.inr (.inr (some (1, 0)))), some (.inl a1), some (.inl a2), some (.inl q17.1), some (.inl q17.2.1)], [], am_mk q17.2.2)) ?_ (fun key => ?_)
      · refine am_Go.n htb 1 (S' := (94, [some (.inr (.inr (some (1, 0)))), some (.inl a1), some (.inl a2), some (.inl q17.1), some (.inl q17.2.1)], [.inl q17.2.1], am_mk q17.2.2)) rfl ?_
        by_cases hc18 : q17.2.1 ≠ 0
        · rw [if_pos hc18] at h
          refine am_Go.c1 htb (S' := (105, [some (.inr (.inr (some (1, 0)))), some (.inl a1), some (.inl a2), some (.inl q17.1), some (.inl q17.2.1)], [], am_mk q17.2.2)) (if_pos hc18) ?_
          refine am_Go.n htb 1 (S' := (106, [some (.inr (.inr (some (1, 0)))), some (.inl a1), some (.inl a2), some (.inl q17.1), some (.inl q17.2.1)], [.inl 0], am_mk q17.2.2)) rfl ?_
          cases h
          exact am_Go.rt htb rfl
        · rw [if_neg hc18] at h
          refine am_Go.c1 htb (S' := (97, [some (.inr (.inr (some (1, 0)))), some (.inl a1), some (.inl a2), some (.inl q17.1), some (.inl q17.2.1)], [], am_mk q17.2.2)) (if_neg hc18) ?_
          refine am_Go.n htb 1 (S' := (98, [some (.inr (.inr (some (1, 0)))), some (.inl a1), some (.inl a2), some (.inl q17.1), some (.inl q17.2.1)], [.inl q17.1], am_mk q17.2.2)) rfl ?_
          by_cases hc19 : q17.1 ≤ 0
          · rw [if_pos hc19] at h
            refine am_Go.c1 htb (S' := (105, [some (.inr (.inr (some (1, 0)))), some (.inl a1), some (.inl a2), some (.inl q17.1), some (.inl q17.2.1)], [], am_mk q17.2.2)) (if_pos hc19) ?_
            refine am_Go.n htb 1 (S' := (106, [some (.inr (.inr (some (1, 0)))), some (.inl a1), some (.inl a2), some (.inl q17.1), some (.inl q17.2.1)], [.inl 0], am_mk q17.2.2)) rfl ?_
            cases h
            exact am_Go.rt htb rfl
          · rw [if_neg hc19] at h
            refine am_Go.c1 htb (S' := (101, [some (.inr (.inr (some (1, 0)))), some (.inl a1), some (.inl a2), some (.inl q17.1), some (.inl q17.2.1)], [], am_mk q17.2.2)) (if_neg hc19) ?_
            refine am_Go.n htb 2 (S' := (106, [some (.inr (.inr (some (1, 0)))), some (.inl a1), some (.inl a2), some (.inl q17.1), some (.inl q17.2.1)], [.inl 1], am_mk q17.2.2)) rfl ?_
            cases h
            exact am_Go.rt htb rfl
      · have h := h20
        by_cases hc9 : (if r6.1 = (-1 : Int32) then (0 : Int32) else (1 : Int32)) ≠ 0
        · rw [if_pos hc9] at h
          refine am_Go.c1 htb (S' := (92, [some (.inr (.inr (some (1, 0)))), some (.inl a1), some (.inl a2), some (.inl r4.1), some (.inl (if r6.1 = (-1 : Int32) then (0 : Int32) else (1 : Int32)))], [], am_mk r6.2)) (if_pos hc9) ?_
          cases h
          exact am_Go.fg (by exact ⟨rfl, ⟨rfl, ⟨rfl, ⟨rfl, ⟨rfl, trivial⟩⟩⟩⟩⟩) key
        · rw [if_neg hc9] at h
          refine am_Go.c1 htb (S' := (51, [some (.inr (.inr (some (1, 0)))), some (.inl a1), some (.inl a2), some (.inl r4.1), some (.inl (if r6.1 = (-1 : Int32) then (0 : Int32) else (1 : Int32)))], [], am_mk r6.2)) (if_neg hc9) ?_
          refine am_Go.n htb 3 (S' := (54, [some (.inr (.inr (some (1, 0)))), some (.inl a1), some (.inl a2), some (.inl r4.1), some (.inl (if r6.1 = (-1 : Int32) then (0 : Int32) else (1 : Int32)))], [.inl a1, .inl a2, .inr (.inr (some (1, 0)))], am_mk r6.2)) rfl ?_
          obtain ⟨r10, h11, h⟩ := am_bd h
          refine am_Go.cl htb rfl (ex_X1_knowTwo d (by omega) a2 a1 r6.2 r10 h11) ?_
          show am_Go d 8 (57, [some (.inr (.inr (some (1, 0)))), some (.inl a1), some (.inl a2), some (.inl r4.1), some (.inl (if r6.1 = (-1 : Int32) then (0 : Int32) else (1 : Int32)))], [], am_mk r10) _ _ _ _
          refine am_Go.n htb 7 (S' := (68, [some (.inr (.inr (some (1, 0)))), some (.inl a1), some (.inl a2), some (.inl r4.1), some (.inl (if r6.1 = (-1 : Int32) then (0 : Int32) else (1 : Int32)))], [.inl (r10.1 20 0 2), .inl 266, .inr (.inr (some (1, 0))), .inl r4.1], am_mk r10)) rfl ?_
          obtain ⟨r12, h13, h⟩ := am_bd h
          refine am_Go.cl htb rfl (ex_X1_tellsLaw d (by omega) 266 (r10.1 20 0 2) r10 r12 h13) ?_
          show am_Go d 8 (71, [some (.inr (.inr (some (1, 0)))), some (.inl a1), some (.inl a2), some (.inl r4.1), some (.inl (if r6.1 = (-1 : Int32) then (0 : Int32) else (1 : Int32)))], [.inl r12.1, .inl r4.1], am_mk r12.2) _ _ _ _
          refine am_Go.n htb 5 (S' := (78, [some (.inr (.inr (some (1, 0)))), some (.inl a1), some (.inl a2), some (.inl (r4.1 + r12.1)), some (.inl (if r6.1 = (-1 : Int32) then (0 : Int32) else (1 : Int32)))], [.inl (-1), .inl 269, .inr (.inr (some (1, 0)))], am_mk r12.2)) rfl ?_
          obtain ⟨r14, h15, h⟩ := am_bd h
          refine am_Go.cl htb rfl (ex_X1_tellsLaw d (by omega) 269 (-1) r12.2 r14 h15) ?_
          show am_Go d 8 (81, [some (.inr (.inr (some (1, 0)))), some (.inl a1), some (.inl a2), some (.inl (r4.1 + r12.1)), some (.inl (if r6.1 = (-1 : Int32) then (0 : Int32) else (1 : Int32)))], [.inl r14.1], am_mk r14.2) _ _ _ _
          refine am_Go.n htb 1 (S' := (82, [some (.inr (.inr (some (1, 0)))), some (.inl a1), some (.inl a2), some (.inl (r4.1 + r12.1)), some (.inl (if r6.1 = (-1 : Int32) then (0 : Int32) else (1 : Int32)))], [.inl (-1), .inl r14.1], am_mk r14.2)) rfl ?_
          refine am_Go.cut (S := (90, [some (.inr (.inr (some (1, 0)))), some (.inl a1), some (.inl a2), some (.inl (r4.1 + r12.1)), some (.inl (if r6.1 = (-1 : Int32) then (0 : Int32) else (1 : Int32)))], [.inl (if r14.1 = (-1 : Int32) then (0 : Int32) else (1 : Int32))], am_mk r14.2)) ?_ (fun key => ?_)
          · refine am_Go.n htb 1 (S' := (92, [some (.inr (.inr (some (1, 0)))), some (.inl a1), some (.inl a2), some (.inl (r4.1 + r12.1)), some (.inl (if r14.1 = (-1 : Int32) then (0 : Int32) else (1 : Int32)))], [], am_mk r14.2)) rfl ?_
            cases h
            exact am_Go.fg (by exact ⟨rfl, ⟨rfl, ⟨rfl, ⟨rfl, ⟨rfl, trivial⟩⟩⟩⟩⟩) key
          · by_cases hc16 : r14.1 = (-1 : Int32)
            · refine am_Go.c1 htb (S' := (89, [some (.inr (.inr (some (1, 0)))), some (.inl a1), some (.inl a2), some (.inl (r4.1 + r12.1)), some (.inl (if r6.1 = (-1 : Int32) then (0 : Int32) else (1 : Int32)))], [], am_mk r14.2)) (if_pos hc16) ?_
              refine am_Go.n htb 1 (S' := (90, [some (.inr (.inr (some (1, 0)))), some (.inl a1), some (.inl a2), some (.inl (r4.1 + r12.1)), some (.inl (if r6.1 = (-1 : Int32) then (0 : Int32) else (1 : Int32)))], [.inl 0], am_mk r14.2)) rfl ?_
              simp only [if_pos hc16] at key
              exact am_Go.fg (by exact ⟨rfl, ⟨rfl, ⟨rfl, ⟨rfl, ⟨rfl, trivial⟩⟩⟩⟩⟩) key
            · refine am_Go.c1 htb (S' := (85, [some (.inr (.inr (some (1, 0)))), some (.inl a1), some (.inl a2), some (.inl (r4.1 + r12.1)), some (.inl (if r6.1 = (-1 : Int32) then (0 : Int32) else (1 : Int32)))], [], am_mk r14.2)) (if_neg hc16) ?_
              refine am_Go.n htb 2 (S' := (90, [some (.inr (.inr (some (1, 0)))), some (.inl a1), some (.inl a2), some (.inl (r4.1 + r12.1)), some (.inl (if r6.1 = (-1 : Int32) then (0 : Int32) else (1 : Int32)))], [.inl 1], am_mk r14.2)) rfl ?_
              simp only [if_neg hc16] at key
              exact am_Go.fg (by exact ⟨rfl, ⟨rfl, ⟨rfl, ⟨rfl, ⟨rfl, trivial⟩⟩⟩⟩⟩) key
    · by_cases hc8 : r6.1 = (-1 : Int32)
      · refine am_Go.c1 htb (S' := (43, [some (.inr (.inr (some (1, 0)))), some (.inl a1), some (.inl a2), some (.inl r4.1), none], [], am_mk r6.2)) (if_pos hc8) ?_
        refine am_Go.n htb 1 (S' := (44, [some (.inr (.inr (some (1, 0)))), some (.inl a1), some (.inl a2), some (.inl r4.1), none], [.inl 0], am_mk r6.2)) rfl ?_
        simp only [if_pos hc8] at key
        exact am_Go.fg (by exact ⟨rfl, ⟨rfl, ⟨rfl, ⟨rfl, trivial⟩⟩⟩⟩) key
      · refine am_Go.c1 htb (S' := (39, [some (.inr (.inr (some (1, 0)))), some (.inl a1), some (.inl a2), some (.inl r4.1), none], [], am_mk r6.2)) (if_neg hc8) ?_
        refine am_Go.n htb 2 (S' := (44, [some (.inr (.inr (some (1, 0)))), some (.inl a1), some (.inl a2), some (.inl r4.1), none], [.inl 1], am_mk r6.2)) rfl ?_
        simp only [if_neg hc8] at key
        exact am_Go.fg (by exact ⟨rfl, ⟨rfl, ⟨rfl, ⟨rfl, trivial⟩⟩⟩⟩) key
  · rw [if_neg hc1] at h
    refine am_Go.c1 htb (S' := (5, [some (.inr (.inr (some (1, 0)))), some (.inl a1), some (.inl a2), none, none], [], am_mk m)) (if_neg hc1) ?_
    refine am_Go.n htb 1 (S' := (6, [some (.inr (.inr (some (1, 0)))), some (.inl a1), some (.inl a2), none, none], [.inl 0], am_mk m)) rfl ?_
    cases h
    exact am_Go.rt htb rfl
