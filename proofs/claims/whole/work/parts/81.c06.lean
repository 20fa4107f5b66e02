-- X9_ranClause
set_option maxHeartbeats 10000000 in
set_option maxRecDepth 100000 in
theorem lt_X9_ranClause_10 (d : Nat) (hd : 7 ≤ d + 1) {r : Option am_V} {M' : am_M} {kc ks : Nat} {n : Nat} {x1 : Nat} {x2 : Int32} {x3 : Int32} {x4 : Int32} {m : am_m} {t : Sum (am_m) (Int32 × am_m)} (h : lp_X9_ranClause_10 n x1 x2 x3 x4 m = some t) (hk : ∀ t', t = .inl t' → am_Go d 164 (244, [some (.inr (.inr (some (9, 0)))), some (.inr (.inr (some (5, x1)))), some (.inl x2), some (.inl x3), none, none, none, none, none], [], am_mk t') r M' kc ks) (hr : ∀ t', t = .inr t' → r = some (.inl t'.1) ∧ M' = am_mk t'.2 ∧ kc = 0 ∧ ks = 0) : am_Go d 164 (10, [some (.inr (.inr (some (9, 0)))), some (.inr (.inr (some (5, x1)))), some (.inl x2), some (.inl x3), some (.inl x4), none, none, none, none], [], am_mk m) r M' kc ks := by
  have htb : am_tab 164 = at_164 := rfl
  induction n generalizing x4 m with
  | zero => cases h
  | succ n ih =>
    unfold lp_X9_ranClause_10 at h
    refine am_Go.n htb 2 (S' := (13, [some (.inr (.inr (some (9, 0)))), some (.inr (.inr (some (5, x1)))), some (.inl x2), some (.inl x3), some (.inl x4), none, none, none, none], [.inl x3, .inl x4], am_mk m)) rfl ?_
    by_cases hc3 : x3 ≤ x4
    · rw [if_pos hc3] at h
      refine am_Go.c1 htb (S' := (244, [some (.inr (.inr (some (9, 0)))), some (.inr (.inr (some (5, x1)))), some (.inl x2), some (.inl x3), some (.inl x4), none, none, none, none], [], am_mk m)) (if_pos hc3) ?_
      cases h
      exact am_Go.fg (by exact ⟨rfl, ⟨rfl, ⟨rfl, ⟨rfl, trivial⟩⟩⟩⟩) (hk _ rfl)
    · rw [if_neg hc3] at h
      refine am_Go.c1 htb (S' := (16, [some (.inr (.inr (some (9, 0)))), some (.inr (.inr (some (5, x1)))), some (.inl x2), some (.inl x3), some (.inl x4), none, none, none, none], [], am_mk m)) (if_neg hc3) ?_
      refine am_Go.n htb 6 (S' := (24, [some (.inr (.inr (some (9, 0)))), some (.inr (.inr (some (5, x1)))), some (.inl x2), some (.inl x3), some (.inl x4), none, none, none, none], [.inl 2, .inl x2, .inr (.inr (some (5, x1))), .inr (.inr (some (5, x1))), .inr (.inr (some (1, 0)))], am_mk m)) rfl ?_
      obtain ⟨r4, h5, h⟩ := am_bd h
      refine am_Go.cl htb rfl (ex_X5_headOf d (by omega) x1 x2 2 m r4 h5) ?_
      show am_Go d 164 (27, [some (.inr (.inr (some (9, 0)))), some (.inr (.inr (some (5, x1)))), some (.inl x2), some (.inl x3), some (.inl x4), none, none, none, none], [.inl r4, .inr (.inr (some (5, x1))), .inr (.inr (some (1, 0)))], am_mk m) _ _ _ _
      refine am_Go.n htb 2 (S' := (31, [some (.inr (.inr (some (9, 0)))), some (.inr (.inr (some (5, x1)))), some (.inl x2), some (.inl x3), some (.inl x4), none, none, none, none], [.inr (.inr (some (41, 0))), .inl r4, .inr (.inr (some (5, x1))), .inr (.inr (some (1, 0)))], am_mk m)) rfl ?_
      obtain ⟨r6, h7, h⟩ := am_bd h
      refine am_Go.cl htb rfl (ex_X1_tell_o d (by omega) x1 r4 m r6 h7) ?_
      show am_Go d 164 (34, [some (.inr (.inr (some (9, 0)))), some (.inr (.inr (some (5, x1)))), some (.inl x2), some (.inl x3), some (.inl x4), none, none, none, none], [.inl r6.1], am_mk r6.2) _ _ _ _
      refine am_Go.n htb 1 (S' := (35, [some (.inr (.inr (some (9, 0)))), some (.inr (.inr (some (5, x1)))), some (.inl x2), some (.inl x3), some (.inl x4), none, none, none, none], [.inl 1, .inl r6.1], am_mk r6.2)) rfl ?_
      by_cases hc8 : r6.1 ≠ (1 : Int32)
      · rw [if_pos hc8] at h
        refine am_Go.c1 htb (S' := (238, [some (.inr (.inr (some (9, 0)))), some (.inr (.inr (some (5, x1)))), some (.inl x2), some (.inl x3), some (.inl x4), none, none, none, none], [], am_mk r6.2)) (if_pos hc8) ?_
        refine am_Go.n htb 2 (S' := (10, [some (.inr (.inr (some (9, 0)))), some (.inr (.inr (some (5, x1)))), some (.inl x2), some (.inl x3), some (.inl (x4 + 1)), none, none, none, none], [], am_mk r6.2)) rfl ?_
        first | exact ih h | exact ih h hk | exact ih h hr | exact ih h hk hr
      · rw [if_neg hc8] at h
        refine am_Go.c1 htb (S' := (38, [some (.inr (.inr (some (9, 0)))), some (.inr (.inr (some (5, x1)))), some (.inl x2), some (.inl x3), some (.inl x4), none, none, none, none], [], am_mk r6.2)) (if_neg hc8) ?_
        refine am_Go.n htb 6 (S' := (46, [some (.inr (.inr (some (9, 0)))), some (.inr (.inr (some (5, x1)))), some (.inl x2), some (.inl x3), some (.inl x4), none, none, none, none], [.inl 3, .inl x2, .inr (.inr (some (5, x1))), .inr (.inr (some (5, x1))), .inr (.inr (some (1, 0)))], am_mk r6.2)) rfl ?_
        obtain ⟨r9, h10, h⟩ := am_bd h
        refine am_Go.cl htb rfl (ex_X5_headOf d (by omega) x1 x2 3 r6.2 r9 h10) ?_
        show am_Go d 164 (49, [some (.inr (.inr (some (9, 0)))), some (.inr (.inr (some (5, x1)))), some (.inl x2), some (.inl x3), some (.inl x4), none, none, none, none], [.inl r9, .inr (.inr (some (5, x1))), .inr (.inr (some (1, 0)))], am_mk r6.2) _ _ _ _
        refine am_Go.n htb 2 (S' := (53, [some (.inr (.inr (some (9, 0)))), some (.inr (.inr (some (5, x1)))), some (.inl x2), some (.inl x3), some (.inl x4), none, none, none, none], [.inr (.inr (some (41, 0))), .inl r9, .inr (.inr (some (5, x1))), .inr (.inr (some (1, 0)))], am_mk r6.2)) rfl ?_
        obtain ⟨r11, h12, h⟩ := am_bd h
        refine am_Go.cl htb rfl (ex_X1_tell_o d (by omega) x1 r9 r6.2 r11 h12) ?_
        show am_Go d 164 (56, [some (.inr (.inr (some (9, 0)))), some (.inr (.inr (some (5, x1)))), some (.inl x2), some (.inl x3), some (.inl x4), none, none, none, none], [.inl r11.1], am_mk r11.2) _ _ _ _
        refine am_Go.n htb 7 (S' := (66, [some (.inr (.inr (some (9, 0)))), some (.inr (.inr (some (5, x1)))), some (.inl x2), some (.inl x3), some (.inl x4), some (.inl r11.1), none, none, none], [.inl 4, .inl x2, .inr (.inr (some (5, x1))), .inr (.inr (some (5, x1))), .inr (.inr (some (1, 0)))], am_mk r11.2)) rfl ?_
        obtain ⟨r13, h14, h⟩ := am_bd h
        refine am_Go.cl htb rfl (ex_X5_headOf d (by omega) x1 x2 4 r11.2 r13 h14) ?_
        show am_Go d 164 (69, [some (.inr (.inr (some (9, 0)))), some (.inr (.inr (some (5, x1)))), some (.inl x2), some (.inl x3), some (.inl x4), some (.inl r11.1), none, none, none], [.inl r13, .inr (.inr (some (5, x1))), .inr (.inr (some (1, 0)))], am_mk r11.2) _ _ _ _
        refine am_Go.n htb 2 (S' := (73, [some (.inr (.inr (some (9, 0)))), some (.inr (.inr (some (5, x1)))), some (.inl x2), some (.inl x3), some (.inl x4), some (.inl r11.1), none, none, none], [.inr (.inr (some (41, 0))), .inl r13, .inr (.inr (some (5, x1))), .inr (.inr (some (1, 0)))], am_mk r11.2)) rfl ?_
        obtain ⟨r15, h16, h⟩ := am_bd h
        refine am_Go.cl htb rfl (ex_X1_tell_o d (by omega) x1 r13 r11.2 r15 h16) ?_
        show am_Go d 164 (76, [some (.inr (.inr (some (9, 0)))), some (.inr (.inr (some (5, x1)))), some (.inl x2), some (.inl x3), some (.inl x4), some (.inl r11.1), none, none, none], [.inl r15.1], am_mk r15.2) _ _ _ _
        refine am_Go.n htb 7 (S' := (86, [some (.inr (.inr (some (9, 0)))), some (.inr (.inr (some (5, x1)))), some (.inl x2), some (.inl x3), some (.inl x4), some (.inl r11.1), some (.inl r15.1), none, none], [.inl 5, .inl x2, .inr (.inr (some (5, x1))), .inr (.inr (some (5, x1))), .inr (.inr (some (1, 0)))], am_mk r15.2)) rfl ?_
        obtain ⟨r17, h18, h⟩ := am_bd h
        refine am_Go.cl htb rfl (ex_X5_headOf d (by omega) x1 x2 5 r15.2 r17 h18) ?_
        show am_Go d 164 (89, [some (.inr (.inr (some (9, 0)))), some (.inr (.inr (some (5, x1)))), some (.inl x2), some (.inl x3), some (.inl x4), some (.inl r11.1), some (.inl r15.1), none, none], [.inl r17, .inr (.inr (some (5, x1))), .inr (.inr (some (1, 0)))], am_mk r15.2) _ _ _ _
        refine am_Go.n htb 2 (S' := (93, [some (.inr (.inr (some (9, 0)))), some (.inr (.inr (some (5, x1)))), some (.inl x2), some (.inl x3), some (.inl x4), some (.inl r11.1), some (.inl r15.1), none, none], [.inr (.inr (some (41, 0))), .inl r17, .inr (.inr (some (5, x1))), .inr (.inr (some (1, 0)))], am_mk r15.2)) rfl ?_
        obtain ⟨r19, h20, h⟩ := am_bd h
        refine am_Go.cl htb rfl (ex_X1_tell_o d (by omega) x1 r17 r15.2 r19 h20) ?_
        show am_Go d 164 (96, [some (.inr (.inr (some (9, 0)))), some (.inr (.inr (some (5, x1)))), some (.inl x2), some (.inl x3), some (.inl x4), some (.inl r11.1), some (.inl r15.1), none, none], [.inl r19.1], am_mk r19.2) _ _ _ _
        refine am_Go.n htb 3 (S' := (103, [some (.inr (.inr (some (9, 0)))), some (.inr (.inr (some (5, x1)))), some (.inl x2), some (.inl x3), some (.inl x4), some (.inl r11.1), some (.inl r15.1), some (.inl r19.1), none], [.inl 2000000000, .inl r11.1], am_mk r19.2)) rfl ?_
        by_cases hc21 : r11.1 = (2000000000 : Int32)
        · rw [if_pos hc21] at h
          refine am_Go.c1 htb (S' := (122, [some (.inr (.inr (some (9, 0)))), some (.inr (.inr (some (5, x1)))), some (.inl x2), some (.inl x3), some (.inl x4), some (.inl r11.1), some (.inl r15.1), some (.inl r19.1), none], [], am_mk r19.2)) (if_pos hc21) ?_
          refine am_Go.n htb 1 (S' := (123, [some (.inr (.inr (some (9, 0)))), some (.inr (.inr (some (5, x1)))), some (.inl x2), some (.inl x3), some (.inl x4), some (.inl r11.1), some (.inl r15.1), some (.inl r19.1), none], [.inl 0], am_mk r19.2)) rfl ?_
          cases h
          obtain ⟨rfl, rfl, rfl, rfl⟩ := hr _ rfl
          exact am_Go.rt htb rfl
        · rw [if_neg hc21] at h
          refine am_Go.c1 htb (S' := (106, [some (.inr (.inr (some (9, 0)))), some (.inr (.inr (some (5, x1)))), some (.inl x2), some (.inl x3), some (.inl x4), some (.inl r11.1), some (.inl r15.1), some (.inl r19.1), none], [], am_mk r19.2)) (if_neg hc21) ?_
          refine am_Go.n htb 2 (S' := (111, [some (.inr (.inr (some (9, 0)))), some (.inr (.inr (some (5, x1)))), some (.inl x2), some (.inl x3), some (.inl x4), some (.inl r11.1), some (.inl r15.1), some (.inl r19.1), none], [.inl 2000000000, .inl r15.1], am_mk r19.2)) rfl ?_
          by_cases hc22 : r15.1 = (2000000000 : Int32)
          · rw [if_pos hc22] at h
            refine am_Go.c1 htb (S' := (122, [some (.inr (.inr (some (9, 0)))), some (.inr (.inr (some (5, x1)))), some (.inl x2), some (.inl x3), some (.inl x4), some (.inl r11.1), some (.inl r15.1), some (.inl r19.1), none], [], am_mk r19.2)) (if_pos hc22) ?_
            refine am_Go.n htb 1 (S' := (123, [some (.inr (.inr (some (9, 0)))), some (.inr (.inr (some (5, x1)))), some (.inl x2), some (.inl x3), some (.inl x4), some (.inl r11.1), some (.inl r15.1), some (.inl r19.1), none], [.inl 0], am_mk r19.2)) rfl ?_
            cases h
            obtain ⟨rfl, rfl, rfl, rfl⟩ := hr _ rfl
            exact am_Go.rt htb rfl
          · rw [if_neg hc22] at h
            refine am_Go.c1 htb (S' := (114, [some (.inr (.inr (some (9, 0)))), some (.inr (.inr (some (5, x1)))), some (.inl x2), some (.inl x3), some (.inl x4), some (.inl r11.1), some (.inl r15.1), some (.inl r19.1), none], [], am_mk r19.2)) (if_neg hc22) ?_
            refine am_Go.n htb 2 (S' := (119, [some (.inr (.inr (some (9, 0)))), some (.inr (.inr (some (5, x1)))), some (.inl x2), some (.inl x3), some (.inl x4), some (.inl r11.1), some (.inl r15.1), some (.inl r19.1), none], [.inl 2000000000, .inl r19.1], am_mk r19.2)) rfl ?_
            by_cases hc23 : r19.1 ≠ (2000000000 : Int32)
            · rw [if_pos hc23] at h
              refine am_Go.c1 htb (S' := (124, [some (.inr (.inr (some (9, 0)))), some (.inr (.inr (some (5, x1)))), some (.inl x2), some (.inl x3), some (.inl x4), some (.inl r11.1), some (.inl r15.1), some (.inl r19.1), none], [], am_mk r19.2)) (if_pos hc23) ?_
              refine am_Go.n htb 5 (S' := (130, [some (.inr (.inr (some (9, 0)))), some (.inr (.inr (some (5, x1)))), some (.inl x2), some (.inl x3), some (.inl x4), some (.inl r11.1), some (.inl r15.1), some (.inl r19.1), some (.inl (-1))], [.inl 0, .inl x2, .inr (.inr (some (5, x1)))], am_mk r19.2)) rfl ?_
              obtain ⟨r24, h25, h⟩ := am_bd h
              refine am_Go.cl htb rfl (ex_X5_headOf d (by omega) x1 x2 0 r19.2 r24 h25) ?_
              show am_Go d 164 (133, [some (.inr (.inr (some (9, 0)))), some (.inr (.inr (some (5, x1)))), some (.inl x2), some (.inl x3), some (.inl x4), some (.inl r11.1), some (.inl r15.1), some (.inl r19.1), some (.inl (-1))], [.inl r24], am_mk r19.2) _ _ _ _
              by_cases hs26 : r24 = 270
              · rw [if_pos hs26] at h
                refine am_Go.o htb (am_o_sw [(270, 160), (271, 175), (272, 194)] 207) rfl (S' := (160, [some (.inr (.inr (some (9, 0)))), some (.inr (.inr (some (5, x1)))), some (.inl x2), some (.inl x3), some (.inl x4), some (.inl r11.1), some (.inl r15.1), some (.inl r19.1), some (.inl (-1))], [], am_mk r19.2)) (am_sw_eq (by simp only [am_sw, if_pos hs26])) ?_
                refine am_Go.n htb 4 (S' := (167, [some (.inr (.inr (some (9, 0)))), some (.inr (.inr (some (5, x1)))), some (.inl x2), some (.inl x3), some (.inl x4), some (.inl r11.1), some (.inl r15.1), some (.inl r19.1), some (.inl (-1))], [.inl r19.1, .inl r15.1, .inl r11.1, .inr (.inr (some (9, 0)))], am_mk r19.2)) rfl ?_
                obtain ⟨r27, h28, h⟩ := am_bd h
                refine am_Go.cl htb rfl (ex_X9_doHarm d (by omega) r11.1 r15.1 r19.1 r19.2 r27 h28) ?_
                show am_Go d 164 (170, [some (.inr (.inr (some (9, 0)))), some (.inr (.inr (some (5, x1)))), some (.inl x2), some (.inl x3), some (.inl x4), some (.inl r11.1), some (.inl r15.1), some (.inl r19.1), some (.inl (-1))], [.inl r27.1], am_mk r27.2) _ _ _ _
                refine am_Go.n htb 3 (S' := (215, [some (.inr (.inr (some (9, 0)))), some (.inr (.inr (some (5, x1)))), some (.inl x2), some (.inl x3), some (.inl x4), some (.inl r11.1), some (.inl r15.1), some (.inl r19.1), some (.inl r27.1)], [.inl r27.1], am_mk r27.2)) rfl ?_
                by_cases hc29 : 0 ≤ r27.1
                · rw [if_pos hc29] at h
                  refine am_Go.c1 htb (S' := (220, [some (.inr (.inr (some (9, 0)))), some (.inr (.inr (some (5, x1)))), some (.inl x2), some (.inl x3), some (.inl x4), some (.inl r11.1), some (.inl r15.1), some (.inl r19.1), some (.inl r27.1)], [], am_mk r27.2)) (if_pos hc29) ?_
                  refine am_Go.n htb 11 (S' := (235, [some (.inr (.inr (some (9, 0)))), some (.inr (.inr (some (5, x1)))), some (.inl x2), some (.inl x3), some (.inl x4), some (.inl r11.1), some (.inl r15.1), some (.inl r19.1), some (.inl r27.1)], [.inl (r27.2.1 5 x1 4), .inr (.inr (some (9, 0)))], am_mk (am_si r27.2 41 0 1 ((r27.2.1 41 0 1) + (1 : Int32))))) rfl ?_
                  obtain ⟨r30, h31, h⟩ := am_bd h
                  refine am_Go.cl htb rfl (ex_X9_fillOrderWords d (by omega) (r27.2.1 5 x1 4) (am_si r27.2 41 0 1 ((r27.2.1 41 0 1) + (1 : Int32))) r30 h31) ?_
                  show am_Go d 164 (238, [some (.inr (.inr (some (9, 0)))), some (.inr (.inr (some (5, x1)))), some (.inl x2), some (.inl x3), some (.inl x4), some (.inl r11.1), some (.inl r15.1), some (.inl r19.1), some (.inl r27.1)], [], am_mk r30) _ _ _ _
                  refine am_Go.n htb 2 (S' := (10, [some (.inr (.inr (some (9, 0)))), some (.inr (.inr (some (5, x1)))), some (.inl x2), some (.inl x3), some (.inl (x4 + 1)), some (.inl r11.1), some (.inl r15.1), some (.inl r19.1), some (.inl r27.1)], [], am_mk r30)) rfl ?_
                  refine am_Go.fg (L0 := [some (.inr (.inr (some (9, 0)))), some (.inr (.inr (some (5, x1)))), some (.inl x2), some (.inl x3), some (.inl (x4 + 1)), none, none, none, none]) (by exact ⟨rfl, ⟨rfl, ⟨rfl, ⟨rfl, ⟨rfl, trivial⟩⟩⟩⟩⟩) ?_
                  first | exact ih h | exact ih h hk | exact ih h hr | exact ih h hk hr
                · rw [if_neg hc29] at h
                  refine am_Go.c1 htb (S' := (218, [some (.inr (.inr (some (9, 0)))), some (.inr (.inr (some (5, x1)))), some (.inl x2), some (.inl x3), some (.inl x4), some (.inl r11.1), some (.inl r15.1), some (.inl r19.1), some (.inl r27.1)], [], am_mk r27.2)) (if_neg hc29) ?_
                  refine am_Go.n htb 1 (S' := (219, [some (.inr (.inr (some (9, 0)))), some (.inr (.inr (some (5, x1)))), some (.inl x2), some (.inl x3), some (.inl x4), some (.inl r11.1), some (.inl r15.1), some (.inl r19.1), some (.inl r27.1)], [.inl 0], am_mk r27.2)) rfl ?_
                  cases h
                  obtain ⟨rfl, rfl, rfl, rfl⟩ := hr _ rfl
                  exact am_Go.rt htb rfl
              · rw [if_neg hs26] at h
                by_cases hs32 : r24 = 271
                · rw [if_pos hs32] at h
                  refine am_Go.o htb (am_o_sw [(270, 160), (271, 175), (272, 194)] 207) rfl (S' := (175, [some (.inr (.inr (some (9, 0)))), some (.inr (.inr (some (5, x1)))), some (.inl x2), some (.inl x3), some (.inl x4), some (.inl r11.1), some (.inl r15.1), some (.inl r19.1), some (.inl (-1))], [], am_mk r19.2)) (am_sw_eq (by simp only [am_sw, if_neg hs26, if_pos hs32])) ?_
                  refine am_Go.n htb 2 (S' := (178, [some (.inr (.inr (some (9, 0)))), some (.inr (.inr (some (5, x1)))), some (.inl x2), some (.inl x3), some (.inl x4), some (.inl r11.1), some (.inl r15.1), some (.inl r19.1), some (.inl (-1))], [.inl r11.1, .inr (.inr (some (9, 0)))], am_mk r19.2)) rfl ?_
                  obtain ⟨r33, h34, h⟩ := am_bd h
                  refine am_Go.cl htb rfl (ex_X9_doFeast d (by omega) r11.1 r19.2 r33 h34) ?_
                  show am_Go d 164 (181, [some (.inr (.inr (some (9, 0)))), some (.inr (.inr (some (5, x1)))), some (.inl x2), some (.inl x3), some (.inl x4), some (.inl r11.1), some (.inl r15.1), some (.inl r19.1), some (.inl (-1))], [.inl r33.1], am_mk r33.2) _ _ _ _
                  refine am_Go.n htb 8 (S' := (215, [some (.inr (.inr (some (9, 0)))), some (.inr (.inr (some (5, x1)))), some (.inl x2), some (.inl x3), some (.inl x4), some (.inl r11.1), some (.inl r15.1), some (.inl r19.1), some (.inl r33.1)], [.inl r33.1], am_mk (am_si r33.2 41 0 2 r33.1))) rfl ?_
                  by_cases hc35 : 0 ≤ r33.1
                  · rw [if_pos hc35] at h
                    refine am_Go.c1 htb (S' := (220, [some (.inr (.inr (some (9, 0)))), some (.inr (.inr (some (5, x1)))), some (.inl x2), some (.inl x3), some (.inl x4), some (.inl r11.1), some (.inl r15.1), some (.inl r19.1), some (.inl r33.1)], [], am_mk (am_si r33.2 41 0 2 r33.1))) (if_pos hc35) ?_
                    refine am_Go.n htb 11 (S' := (235, [some (.inr (.inr (some (9, 0)))), some (.inr (.inr (some (5, x1)))), some (.inl x2), some (.inl x3), some (.inl x4), some (.inl r11.1), some (.inl r15.1), some (.inl r19.1), some (.inl r33.1)], [.inl (r33.2.1 5 x1 4), .inr (.inr (some (9, 0)))], am_mk (am_si (am_si r33.2 41 0 2 r33.1) 41 0 1 ((r33.2.1 41 0 1) + (1 : Int32))))) rfl ?_
                    obtain ⟨r36, h37, h⟩ := am_bd h
                    refine am_Go.cl htb rfl (ex_X9_fillOrderWords d (by omega) (r33.2.1 5 x1 4) (am_si (am_si r33.2 41 0 2 r33.1) 41 0 1 ((r33.2.1 41 0 1) + (1 : Int32))) r36 h37) ?_
                    show am_Go d 164 (238, [some (.inr (.inr (some (9, 0)))), some (.inr (.inr (some (5, x1)))), some (.inl x2), some (.inl x3), some (.inl x4), some (.inl r11.1), some (.inl r15.1), some (.inl r19.1), some (.inl r33.1)], [], am_mk r36) _ _ _ _
                    refine am_Go.n htb 2 (S' := (10, [some (.inr (.inr (some (9, 0)))), some (.inr (.inr (some (5, x1)))), some (.inl x2), some (.inl x3), some (.inl (x4 + 1)), some (.inl r11.1), some (.inl r15.1), some (.inl r19.1), some (.inl r33.1)], [], am_mk r36)) rfl ?_
                    refine am_Go.fg (L0 := [some (.inr (.inr (some (9, 0)))), some (.inr (.inr (some (5, x1)))), some (.inl x2), some (.inl x3), some (.inl (x4 + 1)), none, none, none, none]) (by exact ⟨rfl, ⟨rfl, ⟨rfl, ⟨rfl, ⟨rfl, trivial⟩⟩⟩⟩⟩) ?_
                    first | exact ih h | exact ih h hk | exact ih h hr | exact ih h hk hr
                  · rw [if_neg hc35] at h
                    refine am_Go.c1 htb (S' := (218, [some (.inr (.inr (some (9, 0)))), some (.inr (.inr (some (5, x1)))), some (.inl x2), some (.inl x3), some (.inl x4), some (.inl r11.1), some (.inl r15.1), some (.inl r19.1), some (.inl r33.1)], [], am_mk (am_si r33.2 41 0 2 r33.1))) (if_neg hc35) ?_
                    refine am_Go.n htb 1 (S' := (219, [some (.inr (.inr (some (9, 0)))), some (.inr (.inr (some (5, x1)))), some (.inl x2), some (.inl x3), some (.inl x4), some (.inl r11.1), some (.inl r15.1), some (.inl r19.1), some (.inl r33.1)], [.inl 0], am_mk (am_si r33.2 41 0 2 r33.1))) rfl ?_
                    cases h
                    obtain ⟨rfl, rfl, rfl, rfl⟩ := hr _ rfl
                    exact am_Go.rt htb rfl
                · rw [if_neg hs32] at h
                  by_cases hs38 : r24 = 272
                  · rw [if_pos hs38] at h
                    refine am_Go.o htb (am_o_sw [(270, 160), (271, 175), (272, 194)] 207) rfl (S' := (194, [some (.inr (.inr (some (9, 0)))), some (.inr (.inr (some (5, x1)))), some (.inl x2), some (.inl x3), some (.inl x4), some (.inl r11.1), some (.inl r15.1), some (.inl r19.1), some (.inl (-1))], [], am_mk r19.2)) (am_sw_eq (by simp only [am_sw, if_neg hs26, if_neg hs32, if_pos hs38])) ?_
                    refine am_Go.n htb 3 (S' := (199, [some (.inr (.inr (some (9, 0)))), some (.inr (.inr (some (5, x1)))), some (.inl x2), some (.inl x3), some (.inl x4), some (.inl r11.1), some (.inl r15.1), some (.inl r19.1), some (.inl (-1))], [.inl r15.1, .inl r11.1, .inr (.inr (some (9, 0)))], am_mk r19.2)) rfl ?_
                    obtain ⟨r39, h40, h⟩ := am_bd h
                    refine am_Go.cl htb rfl (ex_X9_doPardon d (by omega) r11.1 r15.1 r19.2 r39 h40) ?_
                    show am_Go d 164 (202, [some (.inr (.inr (some (9, 0)))), some (.inr (.inr (some (5, x1)))), some (.inl x2), some (.inl x3), some (.inl x4), some (.inl r11.1), some (.inl r15.1), some (.inl r19.1), some (.inl (-1))], [.inl r39.1], am_mk r39.2) _ _ _ _
                    refine am_Go.n htb 3 (S' := (215, [some (.inr (.inr (some (9, 0)))), some (.inr (.inr (some (5, x1)))), some (.inl x2), some (.inl x3), some (.inl x4), some (.inl r11.1), some (.inl r15.1), some (.inl r19.1), some (.inl r39.1)], [.inl r39.1], am_mk r39.2)) rfl ?_
                    by_cases hc41 : 0 ≤ r39.1
                    · rw [if_pos hc41] at h
                      refine am_Go.c1 htb (S' := (220, [some (.inr (.inr (some (9, 0)))), some (.inr (.inr (some (5, x1)))), some (.inl x2), some (.inl x3), some (.inl x4), some (.inl r11.1), some (.inl r15.1), some (.inl r19.1), some (.inl r39.1)], [], am_mk r39.2)) (if_pos hc41) ?_
                      refine am_Go.n htb 11 (S' := (235, [some (.inr (.inr (some (9, 0)))), some (.inr (.inr (some (5, x1)))), some (.inl x2), some (.inl x3), some (.inl x4), some (.inl r11.1), some (.inl r15.1), some (.inl r19.1), some (.inl r39.1)], [.inl (r39.2.1 5 x1 4), .inr (.inr (some (9, 0)))], am_mk (am_si r39.2 41 0 1 ((r39.2.1 41 0 1) + (1 : Int32))))) rfl ?_
                      obtain ⟨r42, h43, h⟩ := am_bd h
                      refine am_Go.cl htb rfl (ex_X9_fillOrderWords d (by omega) (r39.2.1 5 x1 4) (am_si r39.2 41 0 1 ((r39.2.1 41 0 1) + (1 : Int32))) r42 h43) ?_
                      show am_Go d 164 (238, [some (.inr (.inr (some (9, 0)))), some (.inr (.inr (some (5, x1)))), some (.inl x2), some (.inl x3), some (.inl x4), some (.inl r11.1), some (.inl r15.1), some (.inl r19.1), some (.inl r39.1)], [], am_mk r42) _ _ _ _
                      refine am_Go.n htb 2 (S' := (10, [some (.inr (.inr (some (9, 0)))), some (.inr (.inr (some (5, x1)))), some (.inl x2), some (.inl x3), some (.inl (x4 + 1)), some (.inl r11.1), some (.inl r15.1), some (.inl r19.1), some (.inl r39.1)], [], am_mk r42)) rfl ?_
                      refine am_Go.fg (L0 := [some (.inr (.inr (some (9, 0)))), some (.inr (.inr (some (5, x1)))), some (.inl x2), some (.inl x3), some (.inl (x4 + 1)), none, none, none, none]) (by exact ⟨rfl, ⟨rfl, ⟨rfl, ⟨rfl, ⟨rfl, trivial⟩⟩⟩⟩⟩) ?_
                      first | exact ih h | exact ih h hk | exact ih h hr | exact ih h hk hr
                    · rw [if_neg hc41] at h
                      refine am_Go.c1 htb (S' := (218, [some (.inr (.inr (some (9, 0)))), some (.inr (.inr (some (5, x1)))), some (.inl x2), some (.inl x3), some (.inl x4), some (.inl r11.1), some (.inl r15.1), some (.inl r19.1), some (.inl r39.1)], [], am_mk r39.2)) (if_neg hc41) ?_
                      refine am_Go.n htb 1 (S' := (219, [some (.inr (.inr (some (9, 0)))), some (.inr (.inr (some (5, x1)))), some (.inl x2), some (.inl x3), some (.inl x4), some (.inl r11.1), some (.inl r15.1), some (.inl r19.1), some (.inl r39.1)], [.inl 0], am_mk r39.2)) rfl ?_
                      cases h
                      obtain ⟨rfl, rfl, rfl, rfl⟩ := hr _ rfl
                      exact am_Go.rt htb rfl
                  · rw [if_neg hs38] at h
                    refine am_Go.o htb (am_o_sw [(270, 160), (271, 175), (272, 194)] 207) rfl (S' := (207, [some (.inr (.inr (some (9, 0)))), some (.inr (.inr (some (5, x1)))), some (.inl x2), some (.inl x3), some (.inl x4), some (.inl r11.1), some (.inl r15.1), some (.inl r19.1), some (.inl (-1))], [], am_mk r19.2)) (am_sw_eq (by simp only [am_sw, if_neg hs26, if_neg hs32, if_neg hs38, if_false])) ?_
                    refine am_Go.n htb 1 (S' := (208, [some (.inr (.inr (some (9, 0)))), some (.inr (.inr (some (5, x1)))), some (.inl x2), some (.inl x3), some (.inl x4), some (.inl r11.1), some (.inl r15.1), some (.inl r19.1), some (.inl (-1))], [.inr (.inr (some (9, 0)))], am_mk r19.2)) rfl ?_
                    obtain ⟨r44, h45, h⟩ := am_bd h
                    refine am_Go.cl htb rfl (ex_X9_doPass d (by omega)  r19.2 r44 h45) ?_
                    show am_Go d 164 (211, [some (.inr (.inr (some (9, 0)))), some (.inr (.inr (some (5, x1)))), some (.inl x2), some (.inl x3), some (.inl x4), some (.inl r11.1), some (.inl r15.1), some (.inl r19.1), some (.inl (-1))], [.inl r44.1], am_mk r44.2) _ _ _ _
                    refine am_Go.n htb 2 (S' := (215, [some (.inr (.inr (some (9, 0)))), some (.inr (.inr (some (5, x1)))), some (.inl x2), some (.inl x3), some (.inl x4), some (.inl r11.1), some (.inl r15.1), some (.inl r19.1), some (.inl r44.1)], [.inl r44.1], am_mk r44.2)) rfl ?_
                    by_cases hc46 : 0 ≤ r44.1
                    · rw [if_pos hc46] at h
                      refine am_Go.c1 htb (S' := (220, [some (.inr (.inr (some (9, 0)))), some (.inr (.inr (some (5, x1)))), some (.inl x2), some (.inl x3), some (.inl x4), some (.inl r11.1), some (.inl r15.1), some (.inl r19.1), some (.inl r44.1)], [], am_mk r44.2)) (if_pos hc46) ?_
                      refine am_Go.n htb 11 (S' := (235, [some (.inr (.inr (some (9, 0)))), some (.inr (.inr (some (5, x1)))), some (.inl x2), some (.inl x3), some (.inl x4), some (.inl r11.1), some (.inl r15.1), some (.inl r19.1), some (.inl r44.1)], [.inl (r44.2.1 5 x1 4), .inr (.inr (some (9, 0)))], am_mk (am_si r44.2 41 0 1 ((r44.2.1 41 0 1) + (1 : Int32))))) rfl ?_
                      obtain ⟨r47, h48, h⟩ := am_bd h
                      refine am_Go.cl htb rfl (ex_X9_fillOrderWords d (by omega) (r44.2.1 5 x1 4) (am_si r44.2 41 0 1 ((r44.2.1 41 0 1) + (1 : Int32))) r47 h48) ?_
                      show am_Go d 164 (238, [some (.inr (.inr (some (9, 0)))), some (.inr (.inr (some (5, x1)))), some (.inl x2), some (.inl x3), some (.inl x4), some (.inl r11.1), some (.inl r15.1), some (.inl r19.1), some (.inl r44.1)], [], am_mk r47) _ _ _ _
                      refine am_Go.n htb 2 (S' := (10, [some (.inr (.inr (some (9, 0)))), some (.inr (.inr (some (5, x1)))), some (.inl x2), some (.inl x3), some (.inl (x4 + 1)), some (.inl r11.1), some (.inl r15.1), some (.inl r19.1), some (.inl r44.1)], [], am_mk r47)) rfl ?_
                      refine am_Go.fg (L0 := [some (.inr (.inr (some (9, 0)))), some (.inr (.inr (some (5, x1)))), some (.inl x2), some (.inl x3), some (.inl (x4 + 1)), none, none, none, none]) (by exact ⟨rfl, ⟨rfl, ⟨rfl, ⟨rfl, ⟨rfl, trivial⟩⟩⟩⟩⟩) ?_
                      first | exact ih h | exact ih h hk | exact ih h hr | exact ih h hk hr
                    · rw [if_neg hc46] at h
                      refine am_Go.c1 htb (S' := (218, [some (.inr (.inr (some (9, 0)))), some (.inr (.inr (some (5, x1)))), some (.inl x2), some (.inl x3), some (.inl x4), some (.inl r11.1), some (.inl r15.1), some (.inl r19.1), some (.inl r44.1)], [], am_mk r44.2)) (if_neg hc46) ?_
                      refine am_Go.n htb 1 (S' := (219, [some (.inr (.inr (some (9, 0)))), some (.inr (.inr (some (5, x1)))), some (.inl x2), some (.inl x3), some (.inl x4), some (.inl r11.1), some (.inl r15.1), some (.inl r19.1), some (.inl r44.1)], [.inl 0], am_mk r44.2)) rfl ?_
                      cases h
                      obtain ⟨rfl, rfl, rfl, rfl⟩ := hr _ rfl
                      exact am_Go.rt htb rfl
            · rw [if_neg hc23] at h
              refine am_Go.c1 htb (S' := (122, [some (.inr (.inr (some (9, 0)))), some (.inr (.inr (some (5, x1)))), some (.inl x2), some (.inl x3), some (.inl x4), some (.inl r11.1), some (.inl r15.1), some (.inl r19.1), none], [], am_mk r19.2)) (if_neg hc23) ?_
              refine am_Go.n htb 1 (S' := (123, [some (.inr (.inr (some (9, 0)))), some (.inr (.inr (some (5, x1)))), some (.inl x2), some (.inl x3), some (.inl x4), some (.inl r11.1), some (.inl r15.1), some (.inl r19.1), none], [.inl 0], am_mk r19.2)) rfl ?_
              cases h
              obtain ⟨rfl, rfl, rfl, rfl⟩ := hr _ rfl
              exact am_Go.rt htb rfl
set_option maxRecDepth 100000 in
theorem ex_X9_ranClause (d : Nat) (hd : 7 ≤ d) (a1 : Nat) (a2 : Int32) (m : am_m) (t : Int32 × am_m) (h : fn_X9_ranClause a1 a2 m = some t) : am_Ex am_cod d 164 [.inr (.inr (some (9, 0))), .inr (.inr (some (5, a1))), .inl a2] (am_mk m) (some (.inl t.1)) (am_mk t.2) 0 0 := by
  obtain ⟨d, rfl⟩ : ∃ e, d = e + 1 := ⟨d - 1, by omega⟩
  have htb : am_tab 164 = at_164 := rfl
  refine ⟨Nat.le_of_ble_eq_true rfl, ?_⟩
  unfold fn_X9_ranClause at h
  show am_Go d 164 (0, [some (.inr (.inr (some (9, 0)))), some (.inr (.inr (some (5, a1)))), some (.inl a2), none, none, none, none, none, none], [], am_mk m) _ _ 0 0
  refine am_Go.n htb 3 (S' := (3, [some (.inr (.inr (some (9, 0)))), some (.inr (.inr (some (5, a1)))), some (.inl a2), none, none, none, none, none, none], [.inl 1, .inl a2, .inr (.inr (some (5, a1)))], am_mk m)) rfl ?_
  obtain ⟨r1, h2, h⟩ := am_bd h
  refine am_Go.cl htb rfl (ex_X5_headOf d (by omega) a1 a2 1 m r1 h2) ?_
  show am_Go d 164 (6, [some (.inr (.inr (some (9, 0)))), some (.inr (.inr (some (5, a1)))), some (.inl a2), none, none, none, none, none, none], [.inl r1], am_mk m) _ _ _ _
  refine am_Go.n htb 3 (S' := (10, [some (.inr (.inr (some (9, 0)))), some (.inr (.inr (some (5, a1)))), some (.inl a2), some (.inl r1), some (.inl 0), none, none, none, none], [], am_mk m)) rfl ?_
  obtain ⟨w52, h50, h⟩ := am_bd h
  refine lt_X9_ranClause_10 _ hd (h := h50) (hk := ?_) (hr := ?_)
  · intro q49 he
    subst he
    dsimp only at h
    refine am_Go.n htb 1 (S' := (245, [some (.inr (.inr (some (9, 0)))), some (.inr (.inr (some (5, a1)))), some (.inl a2), some (.inl r1), none, none, none, none, none], [.inl 1], am_mk q49)) rfl ?_
    cases h
    exact am_Go.rt htb rfl
  · intro rr51 he
    subst he
    cases h
    exact ⟨rfl, rfl, rfl, rfl⟩
-- X9_orders
set_option maxRecDepth 100000 in
theorem lt_X9_orders_83 (d : Nat) (hd : 47 ≤ d + 1) {r : Option am_V} {M' : am_M} {kc ks : Nat} {n : Nat} {x1 : Int32} {m : am_m} {t : Sum (am_m) (Int32 × am_m)} (h : lp_X9_orders_83 n x1 m = some t) (hk : ∀ t', t = .inl t' → am_Go d 122 (152, [some (.inr (.inr (some (9, 0)))), none], [], am_mk t') r M' kc ks) (hr : ∀ t', t = .inr t' → r = some (.inl t'.1) ∧ M' = am_mk t'.2 ∧ kc = 0 ∧ ks = 0) : am_Go d 122 (83, [some (.inr (.inr (some (9, 0)))), some (.inl x1)], [], am_mk m) r M' kc ks := by
  have htb : am_tab 122 = at_122 := rfl
  induction n generalizing x1 m with
  | zero => cases h
  | succ n ih =>
    unfold lp_X9_orders_83 at h
    refine am_Go.n htb 5 (S' := (94, [some (.inr (.inr (some (9, 0)))), some (.inl x1)], [.inl (m.1 5 0 2), .inl x1], am_mk m)) rfl ?_
    by_cases hc12 : (m.1 5 0 2) ≤ x1
    · rw [if_pos hc12] at h
      refine am_Go.c1 htb (S' := (152, [some (.inr (.inr (some (9, 0)))), some (.inl x1)], [], am_mk m)) (if_pos hc12) ?_
      cases h
      exact am_Go.fg (by exact ⟨rfl, trivial⟩) (hk _ rfl)
    · rw [if_neg hc12] at h
      refine am_Go.c1 htb (S' := (97, [some (.inr (.inr (some (9, 0)))), some (.inl x1)], [], am_mk m)) (if_neg hc12) ?_
      refine am_Go.n htb 5 (S' := (106, [some (.inr (.inr (some (9, 0)))), some (.inl x1)], [.inl x1, .inr (.inr (some (5, 0))), .inr (.inr (some (9, 0)))], am_mk m)) rfl ?_
      obtain ⟨r13, h14, h⟩ := am_bd h
      refine am_Go.cl htb rfl (ex_X9_ranClause d (by omega) 0 x1 m r13 h14) ?_
      show am_Go d 122 (109, [some (.inr (.inr (some (9, 0)))), some (.inl x1)], [.inl r13.1], am_mk r13.2) _ _ _ _
      by_cases hc15 : r13.1 ≠ 0
      · rw [if_pos hc15] at h
        refine am_Go.c1 htb (S' := (146, [some (.inr (.inr (some (9, 0)))), some (.inl x1)], [], am_mk r13.2)) (if_pos hc15) ?_
        refine am_Go.n htb 2 (S' := (83, [some (.inr (.inr (some (9, 0)))), some (.inl (x1 + 1))], [], am_mk r13.2)) rfl ?_
        first | exact ih h | exact ih h hk | exact ih h hr | exact ih h hk hr
      · rw [if_neg hc15] at h
        refine am_Go.c1 htb (S' := (112, [some (.inr (.inr (some (9, 0)))), some (.inl x1)], [], am_mk r13.2)) (if_neg hc15) ?_
        refine am_Go.n htb 4 (S' := (120, [some (.inr (.inr (some (9, 0)))), some (.inl x1)], [.inr (.inr (some (8, 1))), .inr (.inr (some (8, 0)))], am_mk r13.2)) rfl ?_
        obtain ⟨r16, h17, h⟩ := am_bd h
        refine am_Go.cl htb rfl (ex_X8_become d (by omega) 0 1 r13.2 r16 h17) ?_
        show am_Go d 122 (123, [some (.inr (.inr (some (9, 0)))), some (.inl x1)], [], am_mk r16) _ _ _ _
        refine am_Go.n htb 4 (S' := (131, [some (.inr (.inr (some (9, 0)))), some (.inl x1)], [.inr (.inr (some (3, 1))), .inr (.inr (some (3, 0)))], am_mk r16)) rfl ?_
        obtain ⟨r18, h19, h⟩ := am_bd h
        refine am_Go.cl htb rfl (ex_X3_become d (by omega) 0 1 r16 r18 h19) ?_
        show am_Go d 122 (134, [some (.inr (.inr (some (9, 0)))), some (.inl x1)], [], am_mk r18) _ _ _ _
        refine am_Go.n htb 5 (S' := (142, [some (.inr (.inr (some (9, 0)))), some (.inl x1)], [.inl (-3), .inr (.inr (some (9, 0)))], am_mk (am_si r18 9 0 16 x1))) rfl ?_
        obtain ⟨r20, h21, h⟩ := am_bd h
        refine am_Go.cl htb rfl (ex_X9_told d (by omega) (-3) (am_si r18 9 0 16 x1) r20 h21) ?_
        show am_Go d 122 (145, [some (.inr (.inr (some (9, 0)))), some (.inl x1)], [.inl r20.1], am_mk r20.2) _ _ _ _
        cases h
        obtain ⟨rfl, rfl, rfl, rfl⟩ := hr _ rfl
        exact am_Go.rt htb rfl
set_option maxRecDepth 100000 in
theorem ex_X9_orders (d : Nat) (hd : 47 ≤ d)  (m : am_m) (t : Int32 × am_m) (h : fn_X9_orders  m = some t) : am_Ex am_cod d 122 [.inr (.inr (some (9, 0)))] (am_mk m) (some (.inl t.1)) (am_mk t.2) 0 0 := by
  obtain ⟨d, rfl⟩ : ∃ e, d = e + 1 := ⟨d - 1, by omega⟩
  have htb : am_tab 122 = at_122 := rfl
  refine ⟨Nat.le_of_ble_eq_true rfl, ?_⟩
  unfold fn_X9_orders at h
  show am_Go d 122 (0, [some (.inr (.inr (some (9, 0)))), none], [], am_mk m) _ _ 0 0
  refine am_Go.n htb 8 (S' := (14, [some (.inr (.inr (some (9, 0)))), none], [.inl 1, .inr (.inr (some (7, 0))), .inr (.inr (some (4, 0)))], am_mk (am_si m 9 0 16 (-1)))) rfl ?_
  obtain ⟨r1, h2, h⟩ := am_bd h
  refine am_Go.cl htb rfl (ex_X4_readWhole d (by omega) 1 (am_si m 9 0 16 (-1)) r1 h2) ?_
  show am_Go d 122 (17, [some (.inr (.inr (some (9, 0)))), none], [.inl r1.1], am_mk r1.2) _ _ _ _
  by_cases hc3 : r1.1 ≠ 0
  · rw [if_pos hc3] at h
    refine am_Go.c1 htb (S' := (27, [some (.inr (.inr (some (9, 0)))), none], [], am_mk r1.2)) (if_pos hc3) ?_
    refine am_Go.n htb 4 (S' := (35, [some (.inr (.inr (some (9, 0)))), none], [.inr (.inr (some (8, 0))), .inr (.inr (some (8, 1)))], am_mk r1.2)) rfl ?_
    obtain ⟨r4, h5, h⟩ := am_bd h
    refine am_Go.cl htb rfl (ex_X8_become d (by omega) 1 0 r1.2 r4 h5) ?_
    show am_Go d 122 (38, [some (.inr (.inr (some (9, 0)))), none], [], am_mk r4) _ _ _ _
    refine am_Go.n htb 4 (S' := (46, [some (.inr (.inr (some (9, 0)))), none], [.inr (.inr (some (3, 0))), .inr (.inr (some (3, 1)))], am_mk r4)) rfl ?_
    obtain ⟨r6, h7, h⟩ := am_bd h
    refine am_Go.cl htb rfl (ex_X3_become d (by omega) 1 0 r4 r6 h7) ?_
    show am_Go d 122 (49, [some (.inr (.inr (some (9, 0)))), none], [], am_mk r6) _ _ _ _
    refine am_Go.n htb 1 (S' := (50, [some (.inr (.inr (some (9, 0)))), none], [.inr (.inr (some (9, 0)))], am_mk r6)) rfl ?_
    obtain ⟨r8, h9, h⟩ := am_bd h
    refine am_Go.cl htb rfl (ex_X9_askLive d (by omega)  r6 r8 h9) ?_
    show am_Go d 122 (53, [some (.inr (.inr (some (9, 0)))), none], [], am_mk r8) _ _ _ _
    refine am_Go.n htb 15 (S' := (78, [some (.inr (.inr (some (9, 0)))), none], [.inl (r8.1 5 0 4), .inr (.inr (some (9, 0)))], am_mk (am_si (am_si r8 41 0 1 0) 41 0 2 (-1)))) rfl ?_
    obtain ⟨r10, h11, h⟩ := am_bd h
    refine am_Go.cl htb rfl (ex_X9_fillOrderWords d (by omega) (r8.1 5 0 4) (am_si (am_si r8 41 0 1 0) 41 0 2 (-1)) r10 h11) ?_
    show am_Go d 122 (81, [some (.inr (.inr (some (9, 0)))), none], [], am_mk r10) _ _ _ _
    refine am_Go.n htb 2 (S' := (83, [some (.inr (.inr (some (9, 0)))), some (.inl 0)], [], am_mk r10)) rfl ?_
    obtain ⟨w27, h23, h⟩ := am_bd h
    refine lt_X9_orders_83 _ hd (h := h23) (hk := ?_) (hr := ?_)
    · intro q22 he
      subst he
      dsimp only at h
      refine am_Go.n htb 5 (S' := (159, [some (.inr (.inr (some (9, 0)))), none], [.inl (q22.1 41 0 1), .inr (.inr (some (9, 0)))], am_mk q22)) rfl ?_
      obtain ⟨r24, h25, h⟩ := am_bd h
      refine am_Go.cl htb rfl (ex_X9_told d (by omega) (q22.1 41 0 1) q22 r24 h25) ?_
      show am_Go d 122 (162, [some (.inr (.inr (some (9, 0)))), none], [.inl r24.1], am_mk r24.2) _ _ _ _
      cases h
      exact am_Go.rt htb rfl
    · intro rr26 he
      subst he
      cases h
      exact ⟨rfl, rfl, rfl, rfl⟩
  · rw [if_neg hc3] at h
    refine am_Go.c1 htb (S' := (20, [some (.inr (.inr (some (9, 0)))), none], [], am_mk r1.2)) (if_neg hc3) ?_
    refine am_Go.n htb 2 (S' := (23, [some (.inr (.inr (some (9, 0)))), none], [.inl (-6), .inr (.inr (some (9, 0)))], am_mk r1.2)) rfl ?_
    obtain ⟨r28, h29, h⟩ := am_bd h
    refine am_Go.cl htb rfl (ex_X9_told d (by omega) (-6) r1.2 r28 h29) ?_
    show am_Go d 122 (26, [some (.inr (.inr (some (9, 0)))), none], [.inl r28.1], am_mk r28.2) _ _ _ _
    cases h
    exact am_Go.rt htb rfl
-- X9_fault
set_option maxRecDepth 100000 in
theorem ex_X9_fault (d : Nat) (hd : 1 ≤ d)  (m : am_m) (t : Int32) (h : fn_X9_fault  m = some t) : am_Ex am_cod d 123 [.inr (.inr (some (9, 0)))] (am_mk m) (some (.inl t)) (am_mk m) 0 0 := by
  obtain ⟨d, rfl⟩ : ∃ e, d = e + 1 := ⟨d - 1, by omega⟩
  have htb : am_tab 123 = at_123 := rfl
  refine ⟨Nat.le_of_ble_eq_true rfl, ?_⟩
  unfold fn_X9_fault at h
  show am_Go d 123 (0, [some (.inr (.inr (some (9, 0))))], [], am_mk m) _ _ 0 0
  refine am_Go.n htb 3 (S' := (7, [some (.inr (.inr (some (9, 0))))], [.inl (m.1 4 0 10)], am_mk m)) rfl ?_
  cases h
  exact am_Go.rt htb rfl
-- X9_stopped
set_option maxRecDepth 100000 in
theorem ex_X9_stopped (d : Nat) (hd : 1 ≤ d)  (m : am_m) (t : Int32) (h : fn_X9_stopped  m = some t) : am_Ex am_cod d 124 [.inr (.inr (some (9, 0)))] (am_mk m) (some (.inl t)) (am_mk m) 0 0 := by
  obtain ⟨d, rfl⟩ : ∃ e, d = e + 1 := ⟨d - 1, by omega⟩
  have htb : am_tab 124 = at_124 := rfl
  refine ⟨Nat.le_of_ble_eq_true rfl, ?_⟩
  unfold fn_X9_stopped at h
  show am_Go d 124 (0, [some (.inr (.inr (some (9, 0))))], [], am_mk m) _ _ 0 0
  refine am_Go.n htb 2 (S' := (4, [some (.inr (.inr (some (9, 0))))], [.inl (m.1 9 0 16)], am_mk m)) rfl ?_
  cases h
  exact am_Go.rt htb rfl
-- X9_force
set_option maxRecDepth 100000 in
theorem ex_X9_force (d : Nat) (hd : 3 ≤ d) (a1 : Int32) (m : am_m) (t : Int32 × am_m) (h : fn_X9_force a1 m = some t) : am_Ex am_cod d 125 [.inr (.inr (some (9, 0))), .inl a1] (am_mk m) (some (.inl t.1)) (am_mk t.2) 0 0 := by
  obtain ⟨d, rfl⟩ : ∃ e, d = e + 1 := ⟨d - 1, by omega⟩
  have htb : am_tab 125 = at_125 := rfl
  refine ⟨Nat.le_of_ble_eq_true rfl, ?_⟩
  unfold fn_X9_force at h
  show am_Go d 125 (0, [some (.inr (.inr (some (9, 0)))), some (.inl a1), none], [], am_mk m) _ _ 0 0
  refine am_Go.n htb 3 (S' := (5, [some (.inr (.inr (some (9, 0)))), some (.inl a1), none], [.inl a1, .inr (.inr (some (8, 0)))], am_mk m)) rfl ?_
  obtain ⟨r1, h2, h⟩ := am_bd h
  refine am_Go.cl htb rfl (ex_X8_hasLaw d (by omega) 0 a1 m r1 h2) ?_
  show am_Go d 125 (8, [some (.inr (.inr (some (9, 0)))), some (.inl a1), none], [.inl r1], am_mk m) _ _ _ _
  by_cases hc3 : r1 ≠ 0
  · rw [if_pos hc3] at h
    refine am_Go.c1 htb (S' := (18, [some (.inr (.inr (some (9, 0)))), some (.inl a1), none], [], am_mk m)) (if_pos hc3) ?_
    refine am_Go.n htb 10 (S' := (36, [some (.inr (.inr (some (9, 0)))), some (.inl a1), some (.inl (m.1 8 0 3))], [.inl 0, .inr (.inr (some (9, 0)))], am_mk (am_si m 8 0 3 a1))) rfl ?_
    obtain ⟨r4, h5, h⟩ := am_bd h
    refine am_Go.cl htb rfl (ex_X9_told d (by omega) 0 (am_si m 8 0 3 a1) r4 h5) ?_
    show am_Go d 125 (39, [some (.inr (.inr (some (9, 0)))), some (.inl a1), some (.inl (m.1 8 0 3))], [.inl r4.1], am_mk r4.2) _ _ _ _
    refine am_Go.n htb 2 (S' := (41, [some (.inr (.inr (some (9, 0)))), some (.inl a1), some (.inl (m.1 8 0 3))], [.inl (m.1 8 0 3)], am_mk r4.2)) rfl ?_
    cases h
    exact am_Go.rt htb rfl
  · rw [if_neg hc3] at h
    refine am_Go.c1 htb (S' := (11, [some (.inr (.inr (some (9, 0)))), some (.inl a1), none], [], am_mk m)) (if_neg hc3) ?_
    refine am_Go.n htb 2 (S' := (14, [some (.inr (.inr (some (9, 0)))), some (.inl a1), none], [.inl (-2), .inr (.inr (some (9, 0)))], am_mk m)) rfl ?_
    obtain ⟨r6, h7, h⟩ := am_bd h
    refine am_Go.cl htb rfl (ex_X9_told d (by omega) (-2) m r6 h7) ?_
    show am_Go d 125 (17, [some (.inr (.inr (some (9, 0)))), some (.inl a1), none], [.inl r6.1], am_mk r6.2) _ _ _ _
    cases h
    exact am_Go.rt htb rfl
-- X9_harm
set_option maxRecDepth 100000 in
theorem ex_X9_harm (d : Nat) (hd : 5 ≤ d) (a1 : Int32) (a2 : Int32) (a3 : Int32) (m : am_m) (t : Int32 × am_m) (h : fn_X9_harm a1 a2 a3 m = some t) : am_Ex am_cod d 126 [.inr (.inr (some (9, 0))), .inl a1, .inl a2, .inl a3] (am_mk m) (some (.inl t.1)) (am_mk t.2) 0 0 := by
  obtain ⟨d, rfl⟩ : ∃ e, d = e + 1 := ⟨d - 1, by omega⟩
  have htb : am_tab 126 = at_126 := rfl
  refine ⟨Nat.le_of_ble_eq_true rfl, ?_⟩
  unfold fn_X9_harm at h
  show am_Go d 126 (0, [some (.inr (.inr (some (9, 0)))), some (.inl a1), some (.inl a2), some (.inl a3)], [], am_mk m) _ _ 0 0
  refine am_Go.n htb 5 (S' := (5, [some (.inr (.inr (some (9, 0)))), some (.inl a1), some (.inl a2), some (.inl a3)], [.inl a3, .inl a2, .inl a1, .inr (.inr (some (9, 0))), .inr (.inr (some (9, 0)))], am_mk m)) rfl ?_
  obtain ⟨r1, h2, h⟩ := am_bd h
  refine am_Go.cl htb rfl (ex_X9_doHarm d (by omega) a1 a2 a3 m r1 h2) ?_
  show am_Go d 126 (8, [some (.inr (.inr (some (9, 0)))), some (.inl a1), some (.inl a2), some (.inl a3)], [.inl r1.1, .inr (.inr (some (9, 0)))], am_mk r1.2) _ _ _ _
  obtain ⟨r3, h4, h⟩ := am_bd h
  refine am_Go.cl htb rfl (ex_X9_told d (by omega) r1.1 r1.2 r3 h4) ?_
  show am_Go d 126 (11, [some (.inr (.inr (some (9, 0)))), some (.inl a1), some (.inl a2), some (.inl a3)], [.inl r3.1], am_mk r3.2) _ _ _ _
  cases h
  exact am_Go.rt htb rfl
-- X9_feast
set_option maxRecDepth 100000 in
theorem ex_X9_feast (d : Nat) (hd : 7 ≤ d) (a1 : Int32) (m : am_m) (t : Int32 × am_m) (h : fn_X9_feast a1 m = some t) : am_Ex am_cod d 127 [.inr (.inr (some (9, 0))), .inl a1] (am_mk m) (some (.inl t.1)) (am_mk t.2) 0 0 := by
  obtain ⟨d, rfl⟩ : ∃ e, d = e + 1 := ⟨d - 1, by omega⟩
  have htb : am_tab 127 = at_127 := rfl
  refine ⟨Nat.le_of_ble_eq_true rfl, ?_⟩
  unfold fn_X9_feast at h
  show am_Go d 127 (0, [some (.inr (.inr (some (9, 0)))), some (.inl a1)], [], am_mk m) _ _ 0 0
  refine am_Go.n htb 1 (S' := (1, [some (.inr (.inr (some (9, 0)))), some (.inl a1)], [.inr (.inr (some (9, 0)))], am_mk m)) rfl ?_
  obtain ⟨r1, h2, h⟩ := am_bd h
  refine am_Go.cl htb rfl (ex_X9_askLive d (by omega)  m r1 h2) ?_
  show am_Go d 127 (4, [some (.inr (.inr (some (9, 0)))), some (.inl a1)], [], am_mk r1) _ _ _ _
  refine am_Go.n htb 3 (S' := (7, [some (.inr (.inr (some (9, 0)))), some (.inl a1)], [.inl a1, .inr (.inr (some (9, 0))), .inr (.inr (some (9, 0)))], am_mk r1)) rfl ?_
  obtain ⟨r3, h4, h⟩ := am_bd h
  refine am_Go.cl htb rfl (ex_X9_doFeast d (by omega) a1 r1 r3 h4) ?_
  show am_Go d 127 (10, [some (.inr (.inr (some (9, 0)))), some (.inl a1)], [.inl r3.1, .inr (.inr (some (9, 0)))], am_mk r3.2) _ _ _ _
  obtain ⟨r5, h6, h⟩ := am_bd h
  refine am_Go.cl htb rfl (ex_X9_told d (by omega) r3.1 r3.2 r5 h6) ?_
  show am_Go d 127 (13, [some (.inr (.inr (some (9, 0)))), some (.inl a1)], [.inl r5.1], am_mk r5.2) _ _ _ _
  cases h
  exact am_Go.rt htb rfl
-- X9_pardon
set_option maxRecDepth 100000 in
theorem ex_X9_pardon (d : Nat) (hd : 5 ≤ d) (a1 : Int32) (a2 : Int32) (m : am_m) (t : Int32 × am_m) (h : fn_X9_pardon a1 a2 m = some t) : am_Ex am_cod d 128 [.inr (.inr (some (9, 0))), .inl a1, .inl a2] (am_mk m) (some (.inl t.1)) (am_mk t.2) 0 0 := by
  obtain ⟨d, rfl⟩ : ∃ e, d = e + 1 := ⟨d - 1, by omega⟩
  have htb : am_tab 128 = at_128 := rfl
  refine ⟨Nat.le_of_ble_eq_true rfl, ?_⟩
  unfold fn_X9_pardon at h
  show am_Go d 128 (0, [some (.inr (.inr (some (9, 0)))), some (.inl a1), some (.inl a2)], [], am_mk m) _ _ 0 0
  refine am_Go.n htb 4 (S' := (4, [some (.inr (.inr (some (9, 0)))), some (.inl a1), some (.inl a2)], [.inl a2, .inl a1, .inr (.inr (some (9, 0))), .inr (.inr (some (9, 0)))], am_mk m)) rfl ?_
  obtain ⟨r1, h2, h⟩ := am_bd h
  refine am_Go.cl htb rfl (ex_X9_doPardon d (by omega) a1 a2 m r1 h2) ?_
  show am_Go d 128 (7, [some (.inr (.inr (some (9, 0)))), some (.inl a1), some (.inl a2)], [.inl r1.1, .inr (.inr (some (9, 0)))], am_mk r1.2) _ _ _ _
  obtain ⟨r3, h4, h⟩ := am_bd h
  refine am_Go.cl htb rfl (ex_X9_told d (by omega) r1.1 r1.2 r3 h4) ?_
  show am_Go d 128 (10, [some (.inr (.inr (some (9, 0)))), some (.inl a1), some (.inl a2)], [.inl r3.1], am_mk r3.2) _ _ _ _
  cases h
  exact am_Go.rt htb rfl
-- X9_pass
set_option maxRecDepth 100000 in
theorem ex_X9_pass (d : Nat) (hd : 7 ≤ d)  (m : am_m) (t : Int32 × am_m) (h : fn_X9_pass  m = some t) : am_Ex am_cod d 129 [.inr (.inr (some (9, 0)))] (am_mk m) (some (.inl t.1)) (am_mk t.2) 0 0 := by
  obtain ⟨d, rfl⟩ : ∃ e, d = e + 1 := ⟨d - 1, by omega⟩
  have htb : am_tab 129 = at_129 := rfl
  refine ⟨Nat.le_of_ble_eq_true rfl, ?_⟩
  unfold fn_X9_pass at h
  show am_Go d 129 (0, [some (.inr (.inr (some (9, 0))))], [], am_mk m) _ _ 0 0
  refine am_Go.n htb 1 (S' := (1, [some (.inr (.inr (some (9, 0))))], [.inr (.inr (some (9, 0)))], am_mk m)) rfl ?_
  obtain ⟨r1, h2, h⟩ := am_bd h
  refine am_Go.cl htb rfl (ex_X9_askLive d (by omega)  m r1 h2) ?_
  show am_Go d 129 (4, [some (.inr (.inr (some (9, 0))))], [], am_mk r1) _ _ _ _
  refine am_Go.n htb 2 (S' := (6, [some (.inr (.inr (some (9, 0))))], [.inr (.inr (some (9, 0))), .inr (.inr (some (9, 0)))], am_mk r1)) rfl ?_
  obtain ⟨r3, h4, h⟩ := am_bd h
  refine am_Go.cl htb rfl (ex_X9_doPass d (by omega)  r1 r3 h4) ?_
  show am_Go d 129 (9, [some (.inr (.inr (some (9, 0))))], [.inl r3.1, .inr (.inr (some (9, 0)))], am_mk r3.2) _ _ _ _
  obtain ⟨r5, h6, h⟩ := am_bd h
  refine am_Go.cl htb rfl (ex_X9_told d (by omega) r3.1 r3.2 r5 h6) ?_
  show am_Go d 129 (12, [some (.inr (.inr (some (9, 0))))], [.inl r5.1], am_mk r5.2) _ _ _ _
  cases h
  exact am_Go.rt htb rfl
-- X9_undo
set_option maxRecDepth 100000 in
theorem ex_X9_undo (d : Nat) (hd : 4 ≤ d)  (m : am_m) (t : Int32 × am_m) (h : fn_X9_undo  m = some t) : am_Ex am_cod d 130 [.inr (.inr (some (9, 0)))] (am_mk m) (some (.inl t.1)) (am_mk t.2) 0 0 := by
  obtain ⟨d, rfl⟩ : ∃ e, d = e + 1 := ⟨d - 1, by omega⟩
  have htb : am_tab 130 = at_130 := rfl
  refine ⟨Nat.le_of_ble_eq_true rfl, ?_⟩
  unfold fn_X9_undo at h
  show am_Go d 130 (0, [some (.inr (.inr (some (9, 0))))], [], am_mk m) _ _ 0 0
  refine am_Go.n htb 5 (S' := (9, [some (.inr (.inr (some (9, 0))))], [.inr (.inr (some (8, 0))), .inr (.inr (some (3, 0))), .inr (.inr (some (9, 0)))], am_mk m)) rfl ?_
  obtain ⟨r1, h2, h⟩ := am_bd h
  refine am_Go.cl htb rfl (ex_X3_undoLatest d (by omega) 0 0 m r1 h2) ?_
  show am_Go d 130 (12, [some (.inr (.inr (some (9, 0))))], [.inl r1.1, .inr (.inr (some (9, 0)))], am_mk r1.2) _ _ _ _
  obtain ⟨r3, h4, h⟩ := am_bd h
  refine am_Go.cl htb rfl (ex_X9_told d (by omega) r1.1 r1.2 r3 h4) ?_
  show am_Go d 130 (15, [some (.inr (.inr (some (9, 0))))], [.inl r3.1], am_mk r3.2) _ _ _ _
  cases h
  exact am_Go.rt htb rfl
-- X9_lookLive
set_option maxRecDepth 100000 in
theorem ex_X9_lookLive (d : Nat) (hd : 6 ≤ d)  (m : am_m) (t : am_m) (h : fn_X9_lookLive  m = some t) : am_Ex am_cod d 156 [.inr (.inr (some (9, 0)))] (am_mk m) (none) (am_mk t) 0 0 := by
  obtain ⟨d, rfl⟩ : ∃ e, d = e + 1 := ⟨d - 1, by omega⟩
  have htb : am_tab 156 = at_156 := rfl
  refine ⟨Nat.le_of_ble_eq_true rfl, ?_⟩
  unfold fn_X9_lookLive at h
  show am_Go d 156 (0, [some (.inr (.inr (some (9, 0))))], [], am_mk m) _ _ 0 0
  refine am_Go.n htb 1 (S' := (1, [some (.inr (.inr (some (9, 0))))], [.inr (.inr (some (9, 0)))], am_mk m)) rfl ?_
  obtain ⟨r1, h2, h⟩ := am_bd h
  refine am_Go.cl htb rfl (ex_X9_askLive d (by omega)  m r1 h2) ?_
  show am_Go d 156 (4, [some (.inr (.inr (some (9, 0))))], [], am_mk r1) _ _ _ _
  refine am_Go.n htb 4 (S' := (12, [some (.inr (.inr (some (9, 0))))], [.inr (.inr (some (1, 0))), .inr (.inr (some (6, 0)))], am_mk r1)) rfl ?_
  obtain ⟨r3, h4, h⟩ := am_bd h
  refine am_Go.cl htb rfl (ex_X6_lookAt d (by omega)  r1 r3 h4) ?_
  show am_Go d 156 (15, [some (.inr (.inr (some (9, 0))))], [], am_mk r3) _ _ _ _
  cases h
  exact am_Go.rt htb rfl
-- X9_sizeOrSet
set_option maxRecDepth 100000 in
theorem ex_X9_sizeOrSet (d : Nat) (hd : 2 ≤ d) (a1 : Int32) (a2 : Int32) (m : am_m) (t : Int32) (h : fn_X9_sizeOrSet a1 a2 m = some t) : am_Ex am_cod d 158 [.inl a1, .inl a2] (am_mk m) (some (.inl t)) (am_mk m) 0 0 := by
  obtain ⟨d, rfl⟩ : ∃ e, d = e + 1 := ⟨d - 1, by omega⟩
  have htb : am_tab 158 = at_158 := rfl
  refine ⟨Nat.le_of_ble_eq_true rfl, ?_⟩
  unfold fn_X9_sizeOrSet at h
  show am_Go d 158 (0, [some (.inl a1), some (.inl a2)], [], am_mk m) _ _ 0 0
  refine am_Go.n htb 1 (S' := (1, [some (.inl a1), some (.inl a2)], [.inl a2], am_mk m)) rfl ?_
  by_cases hs1 : a2 = 0
  · rw [if_pos hs1] at h
    refine am_Go.o htb (am_o_sw [(0, 28), (1, 33)] 35) rfl (S' := (28, [some (.inl a1), some (.inl a2)], [], am_mk m)) (am_sw_eq (by simp only [am_sw, if_pos hs1])) ?_
    refine am_Go.n htb 1 (S' := (29, [some (.inl a1), some (.inl a2)], [.inl a1], am_mk m)) rfl ?_
    obtain ⟨r2, h3, h⟩ := am_bd h
    refine am_Go.cl htb rfl (ex_J6_bitCount_0f7a4 d (by omega) a1 m r2 h3) ?_
    show am_Go d 158 (32, [some (.inl a1), some (.inl a2)], [.inl r2], am_mk m) _ _ _ _
    cases h
    exact am_Go.rt htb rfl
  · rw [if_neg hs1] at h
    by_cases hs4 : a2 = 1
    · rw [if_pos hs4] at h
      refine am_Go.o htb (am_o_sw [(0, 28), (1, 33)] 35) rfl (S' := (33, [some (.inl a1), some (.inl a2)], [], am_mk m)) (am_sw_eq (by simp only [am_sw, if_neg hs1, if_pos hs4])) ?_
      refine am_Go.n htb 1 (S' := (34, [some (.inl a1), some (.inl a2)], [.inl a1], am_mk m)) rfl ?_
      cases h
      exact am_Go.rt htb rfl
    · rw [if_neg hs4] at h
      refine am_Go.o htb (am_o_sw [(0, 28), (1, 33)] 35) rfl (S' := (35, [some (.inl a1), some (.inl a2)], [], am_mk m)) (am_sw_eq (by simp only [am_sw, if_neg hs1, if_neg hs4, if_false])) ?_
      refine am_Go.n htb 1 (S' := (36, [some (.inl a1), some (.inl a2)], [.inl (-1)], am_mk m)) rfl ?_
      cases h
      exact am_Go.rt htb rfl
-- X9_largest
set_option maxRecDepth 100000 in
theorem ex_X9_largest (d : Nat) (hd : 7 ≤ d) (a1 : Int32) (m : am_m) (t : Int32 × am_m) (h : fn_X9_largest a1 m = some t) : am_Ex am_cod d 131 [.inr (.inr (some (9, 0))), .inl a1] (am_mk m) (some (.inl t.1)) (am_mk t.2) 0 0 := by
  obtain ⟨d, rfl⟩ : ∃ e, d = e + 1 := ⟨d - 1, by omega⟩
  have htb : am_tab 131 = at_131 := rfl
  refine ⟨Nat.le_of_ble_eq_true rfl, ?_⟩
  unfold fn_X9_largest at h
  show am_Go d 131 (0, [some (.inr (.inr (some (9, 0)))), some (.inl a1), none], [], am_mk m) _ _ 0 0
  refine am_Go.n htb 1 (S' := (1, [some (.inr (.inr (some (9, 0)))), some (.inl a1), none], [.inr (.inr (some (9, 0)))], am_mk m)) rfl ?_
  obtain ⟨r1, h2, h⟩ := am_bd h
  refine am_Go.cl htb rfl (ex_X9_lookLive d (by omega)  m r1 h2) ?_
  show am_Go d 131 (4, [some (.inr (.inr (some (9, 0)))), some (.inl a1), none], [], am_mk r1) _ _ _ _
  refine am_Go.n htb 2 (S' := (8, [some (.inr (.inr (some (9, 0)))), some (.inl a1), none], [.inr (.inr (some (6, 0)))], am_mk r1)) rfl ?_
  obtain ⟨r3, h4, h⟩ := am_bd h
  refine am_Go.cl htb rfl (ex_X6_largestTable d (by omega)  r1 r3 h4) ?_
  show am_Go d 131 (11, [some (.inr (.inr (some (9, 0)))), some (.inl a1), none], [.inl r3], am_mk r1) _ _ _ _
  refine am_Go.n htb 2 (S' := (13, [some (.inr (.inr (some (9, 0)))), some (.inl a1), some (.inl r3)], [.inl r3], am_mk r1)) rfl ?_
  by_cases hc5 : r3 ≠ 0
  · rw [if_pos hc5] at h
    refine am_Go.c1 htb (S' := (18, [some (.inr (.inr (some (9, 0)))), some (.inl a1), some (.inl r3)], [], am_mk r1)) (if_pos hc5) ?_
    refine am_Go.n htb 2 (S' := (20, [some (.inr (.inr (some (9, 0)))), some (.inl a1), some (.inl r3)], [.inl a1, .inl r3], am_mk r1)) rfl ?_
    obtain ⟨r6, h7, h⟩ := am_bd h
    refine am_Go.cl htb rfl (ex_X9_sizeOrSet d (by omega) r3 a1 r1 r6 h7) ?_
    show am_Go d 131 (23, [some (.inr (.inr (some (9, 0)))), some (.inl a1), some (.inl r3)], [.inl r6], am_mk r1) _ _ _ _
    cases h
    exact am_Go.rt htb rfl
  · rw [if_neg hc5] at h
    refine am_Go.c1 htb (S' := (16, [some (.inr (.inr (some (9, 0)))), some (.inl a1), some (.inl r3)], [], am_mk r1)) (if_neg hc5) ?_
    refine am_Go.n htb 1 (S' := (17, [some (.inr (.inr (some (9, 0)))), some (.inl a1), some (.inl r3)], [.inl (-1)], am_mk r1)) rfl ?_
    cases h
    exact am_Go.rt htb rfl
-- X9_tables
set_option maxRecDepth 100000 in
theorem ex_X9_tables (d : Nat) (hd : 17 ≤ d) (a1 : Int32) (m : am_m) (t : Int32 × am_m) (h : fn_X9_tables a1 m = some t) : am_Ex am_cod d 132 [.inr (.inr (some (9, 0))), .inl a1] (am_mk m) (some (.inl t.1)) (am_mk t.2) 0 0 := by
  obtain ⟨d, rfl⟩ : ∃ e, d = e + 1 := ⟨d - 1, by omega⟩
  have htb : am_tab 132 = at_132 := rfl
  refine ⟨Nat.le_of_ble_eq_true rfl, ?_⟩
  unfold fn_X9_tables at h
  show am_Go d 132 (0, [some (.inr (.inr (some (9, 0)))), some (.inl a1)], [], am_mk m) _ _ 0 0
  refine am_Go.n htb 1 (S' := (1, [some (.inr (.inr (some (9, 0)))), some (.inl a1)], [.inr (.inr (some (9, 0)))], am_mk m)) rfl ?_
  obtain ⟨r1, h2, h⟩ := am_bd h
  refine am_Go.cl htb rfl (ex_X9_lookLive d (by omega)  m r1 h2) ?_
  show am_Go d 132 (4, [some (.inr (.inr (some (9, 0)))), some (.inl a1)], [], am_mk r1) _ _ _ _
  refine am_Go.n htb 2 (S' := (8, [some (.inr (.inr (some (9, 0)))), some (.inl a1)], [.inr (.inr (some (2, 0)))], am_mk r1)) rfl ?_
  obtain ⟨r3, h4, h⟩ := am_bd h
  refine am_Go.cl htb rfl (ex_X2_intoTables d (by omega)  r1 r3 h4) ?_
  show am_Go d 132 (11, [some (.inr (.inr (some (9, 0)))), some (.inl a1)], [], am_mk r3) _ _ _ _
  refine am_Go.n htb 3 (S' := (16, [some (.inr (.inr (some (9, 0)))), some (.inl a1)], [.inl a1, .inr (.inr (some (2, 0)))], am_mk r3)) rfl ?_
  obtain ⟨r5, h6, h⟩ := am_bd h
  refine am_Go.cl htb rfl (ex_X2_answer d (by omega) a1 r3 r5 h6) ?_
  show am_Go d 132 (19, [some (.inr (.inr (some (9, 0)))), some (.inl a1)], [.inl r5], am_mk r3) _ _ _ _
  cases h
  exact am_Go.rt htb rfl
-- X9_newHarms
set_option maxRecDepth 100000 in
theorem ex_X9_newHarms (d : Nat) (hd : 17 ≤ d) (a1 : Int32) (m : am_m) (t : Int32 × am_m) (h : fn_X9_newHarms a1 m = some t) : am_Ex am_cod d 133 [.inr (.inr (some (9, 0))), .inl a1] (am_mk m) (some (.inl t.1)) (am_mk t.2) 0 0 := by
  obtain ⟨d, rfl⟩ : ∃ e, d = e + 1 := ⟨d - 1, by omega⟩
  have htb : am_tab 133 = at_133 := rfl
  refine ⟨Nat.le_of_ble_eq_true rfl, ?_⟩
  unfold fn_X9_newHarms at h
  show am_Go d 133 (0, [some (.inr (.inr (some (9, 0)))), some (.inl a1)], [], am_mk m) _ _ 0 0
  refine am_Go.n htb 1 (S' := (1, [some (.inr (.inr (some (9, 0)))), some (.inl a1)], [.inr (.inr (some (9, 0)))], am_mk m)) rfl ?_
  obtain ⟨r1, h2, h⟩ := am_bd h
  refine am_Go.cl htb rfl (ex_X9_lookLive d (by omega)  m r1 h2) ?_
  show am_Go d 133 (4, [some (.inr (.inr (some (9, 0)))), some (.inl a1)], [], am_mk r1) _ _ _ _
  refine am_Go.n htb 4 (S' := (12, [some (.inr (.inr (some (9, 0)))), some (.inl a1)], [.inr (.inr (some (1, 0))), .inr (.inr (some (6, 0)))], am_mk r1)) rfl ?_
  obtain ⟨r3, h4, h⟩ := am_bd h
  refine am_Go.cl htb rfl (ex_X6_lookAtBars d (by omega)  r1 r3 h4) ?_
  show am_Go d 133 (15, [some (.inr (.inr (some (9, 0)))), some (.inl a1)], [], am_mk r3) _ _ _ _
  refine am_Go.n htb 2 (S' := (19, [some (.inr (.inr (some (9, 0)))), some (.inl a1)], [.inr (.inr (some (2, 0)))], am_mk r3)) rfl ?_
  obtain ⟨r5, h6, h⟩ := am_bd h
  refine am_Go.cl htb rfl (ex_X2_intoSets d (by omega)  r3 r5 h6) ?_
  show am_Go d 133 (22, [some (.inr (.inr (some (9, 0)))), some (.inl a1)], [], am_mk r5) _ _ _ _
  refine am_Go.n htb 3 (S' := (27, [some (.inr (.inr (some (9, 0)))), some (.inl a1)], [.inl a1, .inr (.inr (some (2, 0)))], am_mk r5)) rfl ?_
  obtain ⟨r7, h8, h⟩ := am_bd h
  refine am_Go.cl htb rfl (ex_X2_answer d (by omega) a1 r5 r7 h8) ?_
  show am_Go d 133 (30, [some (.inr (.inr (some (9, 0)))), some (.inl a1)], [.inl r7], am_mk r5) _ _ _ _
  cases h
  exact am_Go.rt htb rfl
-- X9_leftOut
set_option maxRecDepth 100000 in
theorem ex_X9_leftOut (d : Nat) (hd : 7 ≤ d) (a1 : Int32) (m : am_m) (t : Int32 × am_m) (h : fn_X9_leftOut a1 m = some t) : am_Ex am_cod d 134 [.inr (.inr (some (9, 0))), .inl a1] (am_mk m) (some (.inl t.1)) (am_mk t.2) 0 0 := by
  obtain ⟨d, rfl⟩ : ∃ e, d = e + 1 := ⟨d - 1, by omega⟩
  have htb : am_tab 134 = at_134 := rfl
  refine ⟨Nat.le_of_ble_eq_true rfl, ?_⟩
  unfold fn_X9_leftOut at h
  show am_Go d 134 (0, [some (.inr (.inr (some (9, 0)))), some (.inl a1)], [], am_mk m) _ _ 0 0
  refine am_Go.n htb 1 (S' := (1, [some (.inr (.inr (some (9, 0)))), some (.inl a1)], [.inr (.inr (some (9, 0)))], am_mk m)) rfl ?_
  obtain ⟨r1, h2, h⟩ := am_bd h
  refine am_Go.cl htb rfl (ex_X9_lookLive d (by omega)  m r1 h2) ?_
  show am_Go d 134 (4, [some (.inr (.inr (some (9, 0)))), some (.inl a1)], [], am_mk r1) _ _ _ _
  refine am_Go.n htb 2 (S' := (8, [some (.inr (.inr (some (9, 0)))), some (.inl a1)], [.inr (.inr (some (6, 0)))], am_mk r1)) rfl ?_
  obtain ⟨r3, h4, h⟩ := am_bd h
  refine am_Go.cl htb rfl (ex_X6_fewestOut d (by omega)  r1 r3 h4) ?_
  show am_Go d 134 (11, [some (.inr (.inr (some (9, 0)))), some (.inl a1)], [.inl r3.1], am_mk r3.2) _ _ _ _
  refine am_Go.n htb 1 (S' := (12, [some (.inr (.inr (some (9, 0)))), some (.inl a1)], [.inl a1, .inl r3.1], am_mk r3.2)) rfl ?_
  obtain ⟨r5, h6, h⟩ := am_bd h
  refine am_Go.cl htb rfl (ex_X9_sizeOrSet d (by omega) r3.1 a1 r3.2 r5 h6) ?_
  show am_Go d 134 (15, [some (.inr (.inr (some (9, 0)))), some (.inl a1)], [.inl r5], am_mk r3.2) _ _ _ _
  cases h
  exact am_Go.rt htb rfl
-- X9_mostHurt
set_option maxRecDepth 100000 in
theorem lt_X9_mostHurt_8 (d : Nat) (hd : 6 ≤ d + 1) {r : Option am_V} {M' : am_M} {kc ks : Nat} {n : Nat} {x1 : Int32} {x2 : Int32} {x3 : Int32} {x4 : Int32} {x5 : Int32} {m : am_m} {t : Int32 × am_m} (h : lp_X9_mostHurt_8 n x1 x2 x3 x4 x5 m = some t) (hk : am_Go d 166 (57, [some (.inr (.inr (some (9, 0)))), some (.inl x1), some (.inl x2), some (.inl t.1), none, none, none], [], am_mk t.2) r M' kc ks) : am_Go d 166 (8, [some (.inr (.inr (some (9, 0)))), some (.inl x1), some (.inl x2), some (.inl x3), some (.inl x4), some (.inl x5), none], [], am_mk m) r M' kc ks := by
  have htb : am_tab 166 = at_166 := rfl
  induction n generalizing x3 x4 x5 m with
  | zero => cases h
  | succ n ih =>
    unfold lp_X9_mostHurt_8 at h
    refine am_Go.n htb 2 (S' := (12, [some (.inr (.inr (some (9, 0)))), some (.inl x1), some (.inl x2), some (.inl x3), some (.inl x4), some (.inl x5), none], [.inl 7, .inl x5], am_mk m)) rfl ?_
    by_cases hc1 : (7 : Int32) ≤ x5
    · rw [if_pos hc1] at h
      refine am_Go.c1 htb (S' := (57, [some (.inr (.inr (some (9, 0)))), some (.inl x1), some (.inl x2), some (.inl x3), some (.inl x4), some (.inl x5), none], [], am_mk m)) (if_pos hc1) ?_
      cases h
      exact am_Go.fg (by exact ⟨rfl, ⟨rfl, ⟨rfl, ⟨rfl, trivial⟩⟩⟩⟩) hk
    · rw [if_neg hc1] at h
      refine am_Go.c1 htb (S' := (15, [some (.inr (.inr (some (9, 0)))), some (.inl x1), some (.inl x2), some (.inl x3), some (.inl x4), some (.inl x5), none], [], am_mk m)) (if_neg hc1) ?_
      refine am_Go.n htb 6 (S' := (22, [some (.inr (.inr (some (9, 0)))), some (.inl x1), some (.inl x2), some (.inl x3), some (.inl x4), some (.inl x5), none], [.inl 1, .inl ((x1 >>> (x5 &&& 31)) &&& (1 : Int32))], am_mk m)) rfl ?_
      obtain ⟨q6, h7, h⟩ := am_bd h
      refine am_Go.cut (S := (51, [some (.inr (.inr (some (9, 0)))), some (.inl x1), some (.inl x2), some (.inl q6.1), some (.inl q6.2.1), some (.inl x5), none], [], am_mk q6.2.2)) ?_ (fun key => ?_)
      · refine am_Go.n htb 2 (S' := (8, [some (.inr (.inr (some (9, 0)))), some (.inl x1), some (.inl x2), some (.inl q6.1), some (.inl q6.2.1), some (.inl (x5 + 1)), none], [], am_mk q6.2.2)) rfl ?_
        first | exact ih h | exact ih h hk
      · have h := h7
        by_cases hc2 : ((x1 >>> (x5 &&& 31)) &&& (1 : Int32)) ≠ (1 : Int32)
        · rw [if_pos hc2] at h
          refine am_Go.c1 htb (S' := (51, [some (.inr (.inr (some (9, 0)))), some (.inl x1), some (.inl x2), some (.inl x3), some (.inl x4), some (.inl x5), none], [], am_mk m)) (if_pos hc2) ?_
          cases h
          exact am_Go.fg (by exact ⟨rfl, ⟨rfl, ⟨rfl, ⟨rfl, ⟨rfl, ⟨rfl, trivial⟩⟩⟩⟩⟩⟩) key
        · rw [if_neg hc2] at h
          refine am_Go.c1 htb (S' := (25, [some (.inr (.inr (some (9, 0)))), some (.inl x1), some (.inl x2), some (.inl x3), some (.inl x4), some (.inl x5), none], [], am_mk m)) (if_neg hc2) ?_
          refine am_Go.n htb 4 (S' := (32, [some (.inr (.inr (some (9, 0)))), some (.inl x1), some (.inl x2), some (.inl x3), some (.inl x4), some (.inl x5), none], [.inl x2, .inl x5, .inr (.inr (some (1, 0)))], am_mk m)) rfl ?_
          obtain ⟨r3, h4, h⟩ := am_bd h
          refine am_Go.cl htb rfl (ex_X1_sufferedBy d (by omega) x5 x2 m r3 h4) ?_
          show am_Go d 166 (35, [some (.inr (.inr (some (9, 0)))), some (.inl x1), some (.inl x2), some (.inl x3), some (.inl x4), some (.inl x5), none], [.inl r3.1], am_mk r3.2) _ _ _ _
          refine am_Go.n htb 3 (S' := (41, [some (.inr (.inr (some (9, 0)))), some (.inl x1), some (.inl x2), some (.inl x3), some (.inl x4), some (.inl x5), some (.inl r3.1)], [.inl x4, .inl r3.1], am_mk r3.2)) rfl ?_
          by_cases hc5 : r3.1 ≤ x4
          · rw [if_pos hc5] at h
            refine am_Go.c1 htb (S' := (51, [some (.inr (.inr (some (9, 0)))), some (.inl x1), some (.inl x2), some (.inl x3), some (.inl x4), some (.inl x5), some (.inl r3.1)], [], am_mk r3.2)) (if_pos hc5) ?_
            cases h
            exact am_Go.fg (by exact ⟨rfl, ⟨rfl, ⟨rfl, ⟨rfl, ⟨rfl, ⟨rfl, trivial⟩⟩⟩⟩⟩⟩) key
          · rw [if_neg hc5] at h
            refine am_Go.c1 htb (S' := (44, [some (.inr (.inr (some (9, 0)))), some (.inl x1), some (.inl x2), some (.inl x3), some (.inl x4), some (.inl x5), some (.inl r3.1)], [], am_mk r3.2)) (if_neg hc5) ?_
            refine am_Go.n htb 4 (S' := (51, [some (.inr (.inr (some (9, 0)))), some (.inl x1), some (.inl x2), some (.inl x5), some (.inl r3.1), some (.inl x5), some (.inl r3.1)], [], am_mk r3.2)) rfl ?_
            cases h
            exact am_Go.fg (by exact ⟨rfl, ⟨rfl, ⟨rfl, ⟨rfl, ⟨rfl, ⟨rfl, trivial⟩⟩⟩⟩⟩⟩) key
set_option maxRecDepth 100000 in
theorem ex_X9_mostHurt (d : Nat) (hd : 6 ≤ d) (a1 : Int32) (a2 : Int32) (m : am_m) (t : Int32 × am_m) (h : fn_X9_mostHurt a1 a2 m = some t) : am_Ex am_cod d 166 [.inr (.inr (some (9, 0))), .inl a1, .inl a2] (am_mk m) (some (.inl t.1)) (am_mk t.2) 0 0 := by
  obtain ⟨d, rfl⟩ : ∃ e, d = e + 1 := ⟨d - 1, by omega⟩
  have htb : am_tab 166 = at_166 := rfl
  refine ⟨Nat.le_of_ble_eq_true rfl, ?_⟩
  unfold fn_X9_mostHurt at h
  show am_Go d 166 (0, [some (.inr (.inr (some (9, 0)))), some (.inl a1), some (.inl a2), none, none, none, none], [], am_mk m) _ _ 0 0
  refine am_Go.n htb 6 (S' := (8, [some (.inr (.inr (some (9, 0)))), some (.inl a1), some (.inl a2), some (.inl (-1)), some (.inl (-1)), some (.inl 0), none], [], am_mk m)) rfl ?_
  obtain ⟨q8, h9, h⟩ := am_bd h
  refine lt_X9_mostHurt_8 _ hd (h := h9) (hk := ?_)
  refine am_Go.n htb 1 (S' := (58, [some (.inr (.inr (some (9, 0)))), some (.inl a1), some (.inl a2), some (.inl q8.1), none, none, none], [.inl q8.1], am_mk q8.2)) rfl ?_
  cases h
  exact am_Go.rt htb rfl
-- X9_seat
set_option maxRecDepth 100000 in
theorem lt_X9_seat_34 (d : Nat) (hd : 7 ≤ d + 1) {r : Option am_V} {M' : am_M} {kc ks : Nat} {n : Nat} {x1 : Int32} {x2 : Int32} {x3 : Int32} {x4 : Int32} {m : am_m} {t : Int32 × am_m} (h : lp_X9_seat_34 n x1 x2 x3 x4 m = some t) (hk : am_Go d 135 (59, [some (.inr (.inr (some (9, 0)))), some (.inl x1), some (.inl x2), some (.inl t.1), none], [], am_mk t.2) r M' kc ks) : am_Go d 135 (34, [some (.inr (.inr (some (9, 0)))), some (.inl x1), some (.inl x2), some (.inl x3), some (.inl x4)], [], am_mk m) r M' kc ks := by
  have htb : am_tab 135 = at_135 := rfl
  induction n generalizing x3 x4 m with
  | zero => cases h
  | succ n ih =>
    unfold lp_X9_seat_34 at h
    refine am_Go.n htb 2 (S' := (37, [some (.inr (.inr (some (9, 0)))), some (.inl x1), some (.inl x2), some (.inl x3), some (.inl x4)], [.inl x2, .inl x4], am_mk m)) rfl ?_
    by_cases hc10 : x2 ≤ x4
    · rw [if_pos hc10] at h
      refine am_Go.c1 htb (S' := (59, [some (.inr (.inr (some (9, 0)))), some (.inl x1), some (.inl x2), some (.inl x3), some (.inl x4)], [], am_mk m)) (if_pos hc10) ?_
      cases h
      exact am_Go.fg (by exact ⟨rfl, ⟨rfl, ⟨rfl, ⟨rfl, trivial⟩⟩⟩⟩) hk
    · rw [if_neg hc10] at h
      refine am_Go.c1 htb (S' := (40, [some (.inr (.inr (some (9, 0)))), some (.inl x1), some (.inl x2), some (.inl x3), some (.inl x4)], [], am_mk m)) (if_neg hc10) ?_
      refine am_Go.n htb 5 (S' := (45, [some (.inr (.inr (some (9, 0)))), some (.inl x1), some (.inl x2), some (.inl x3), some (.inl x4)], [.inl x1, .inl x3, .inr (.inr (some (9, 0))), .inl 1, .inl x3], am_mk m)) rfl ?_
      obtain ⟨r11, h12, h⟩ := am_bd h
      refine am_Go.cl htb rfl (ex_X9_mostHurt d (by omega) x3 x1 m r11 h12) ?_
      show am_Go d 135 (48, [some (.inr (.inr (some (9, 0)))), some (.inl x1), some (.inl x2), some (.inl x3), some (.inl x4)], [.inl r11.1, .inl 1, .inl x3], am_mk r11.2) _ _ _ _
      refine am_Go.n htb 7 (S' := (34, [some (.inr (.inr (some (9, 0)))), some (.inl x1), some (.inl x2), some (.inl (x3 &&& (((1 : Int32) <<< (r11.1 &&& 31)) ^^^ (-1 : Int32)))), some (.inl (x4 + 1))], [], am_mk r11.2)) rfl ?_
      first | exact ih h | exact ih h hk
set_option maxRecDepth 100000 in
theorem ex_X9_seat (d : Nat) (hd : 7 ≤ d) (a1 : Int32) (a2 : Int32) (m : am_m) (t : Int32 × am_m) (h : fn_X9_seat a1 a2 m = some t) : am_Ex am_cod d 135 [.inr (.inr (some (9, 0))), .inl a1, .inl a2] (am_mk m) (some (.inl t.1)) (am_mk t.2) 0 0 := by
  obtain ⟨d, rfl⟩ : ∃ e, d = e + 1 := ⟨d - 1, by omega⟩
  have htb : am_tab 135 = at_135 := rfl
  refine ⟨Nat.le_of_ble_eq_true rfl, ?_⟩
  unfold fn_X9_seat at h
  show am_Go d 135 (0, [some (.inr (.inr (some (9, 0)))), some (.inl a1), some (.inl a2), none, none], [], am_mk m) _ _ 0 0
  refine am_Go.n htb 3 (S' := (5, [some (.inr (.inr (some (9, 0)))), some (.inl a1), some (.inl a2), none, none], [.inl a1, .inr (.inr (some (8, 0)))], am_mk m)) rfl ?_
  obtain ⟨r1, h2, h⟩ := am_bd h
  refine am_Go.cl htb rfl (ex_X8_hasSet d (by omega) 0 a1 m r1 h2) ?_
  show am_Go d 135 (8, [some (.inr (.inr (some (9, 0)))), some (.inl a1), some (.inl a2), none, none], [.inl r1], am_mk m) _ _ _ _
  by_cases hc3 : r1 = 0
  · rw [if_pos hc3] at h
    refine am_Go.c1 htb (S' := (23, [some (.inr (.inr (some (9, 0)))), some (.inl a1), some (.inl a2), none, none], [], am_mk m)) (if_pos hc3) ?_
    refine am_Go.n htb 1 (S' := (24, [some (.inr (.inr (some (9, 0)))), some (.inl a1), some (.inl a2), none, none], [.inl (-1)], am_mk m)) rfl ?_
    cases h
    exact am_Go.rt htb rfl
  · rw [if_neg hc3] at h
    refine am_Go.c1 htb (S' := (11, [some (.inr (.inr (some (9, 0)))), some (.inl a1), some (.inl a2), none, none], [], am_mk m)) (if_neg hc3) ?_
    refine am_Go.n htb 1 (S' := (12, [some (.inr (.inr (some (9, 0)))), some (.inl a1), some (.inl a2), none, none], [.inl a2], am_mk m)) rfl ?_
    by_cases hc4 : a2 < 0
    · rw [if_pos hc4] at h
      refine am_Go.c1 htb (S' := (23, [some (.inr (.inr (some (9, 0)))), some (.inl a1), some (.inl a2), none, none], [], am_mk m)) (if_pos hc4) ?_
      refine am_Go.n htb 1 (S' := (24, [some (.inr (.inr (some (9, 0)))), some (.inl a1), some (.inl a2), none, none], [.inl (-1)], am_mk m)) rfl ?_
      cases h
      exact am_Go.rt htb rfl
    · rw [if_neg hc4] at h
      refine am_Go.c1 htb (S' := (15, [some (.inr (.inr (some (9, 0)))), some (.inl a1), some (.inl a2), none, none], [], am_mk m)) (if_neg hc4) ?_
      refine am_Go.n htb 2 (S' := (17, [some (.inr (.inr (some (9, 0)))), some (.inl a1), some (.inl a2), none, none], [.inl a1, .inl a2], am_mk m)) rfl ?_
      obtain ⟨r5, h6, h⟩ := am_bd h
      refine am_Go.cl htb rfl (ex_J6_bitCount_0f7a4 d (by omega) a1 m r5 h6) ?_
      show am_Go d 135 (20, [some (.inr (.inr (some (9, 0)))), some (.inl a1), some (.inl a2), none, none], [.inl r5, .inl a2], am_mk m) _ _ _ _
      by_cases hc7 : a2 < r5
      · rw [if_pos hc7] at h
        refine am_Go.c1 htb (S' := (25, [some (.inr (.inr (some (9, 0)))), some (.inl a1), some (.inl a2), none, none], [], am_mk m)) (if_pos hc7) ?_
        refine am_Go.n htb 1 (S' := (26, [some (.inr (.inr (some (9, 0)))), some (.inl a1), some (.inl a2), none, none], [.inr (.inr (some (9, 0)))], am_mk m)) rfl ?_
        obtain ⟨r8, h9, h⟩ := am_bd h
        refine am_Go.cl htb rfl (ex_X9_askLive d (by omega)  m r8 h9) ?_
        show am_Go d 135 (29, [some (.inr (.inr (some (9, 0)))), some (.inl a1), some (.inl a2), none, none], [], am_mk r8) _ _ _ _
        refine am_Go.n htb 4 (S' := (34, [some (.inr (.inr (some (9, 0)))), some (.inl a1), some (.inl a2), some (.inl a1), some (.inl 0)], [], am_mk r8)) rfl ?_
        obtain ⟨q13, h14, h⟩ := am_bd h
        refine lt_X9_seat_34 _ hd (h := h14) (hk := ?_)
        refine am_Go.n htb 3 (S' := (62, [some (.inr (.inr (some (9, 0)))), some (.inl a1), some (.inl a2), some (.inl q13.1), none], [.inl a1, .inl q13.1, .inr (.inr (some (9, 0)))], am_mk q13.2)) rfl ?_
        obtain ⟨r15, h16, h⟩ := am_bd h
        refine am_Go.cl htb rfl (ex_X9_mostHurt d (by omega) q13.1 a1 q13.2 r15 h16) ?_
        show am_Go d 135 (65, [some (.inr (.inr (some (9, 0)))), some (.inl a1), some (.inl a2), some (.inl q13.1), none], [.inl r15.1], am_mk r15.2) _ _ _ _
        cases h
        exact am_Go.rt htb rfl
      · rw [if_neg hc7] at h
        refine am_Go.c1 htb (S' := (23, [some (.inr (.inr (some (9, 0)))), some (.inl a1), some (.inl a2), none, none], [], am_mk m)) (if_neg hc7) ?_
        refine am_Go.n htb 1 (S' := (24, [some (.inr (.inr (some (9, 0)))), some (.inl a1), some (.inl a2), none, none], [.inl (-1)], am_mk m)) rfl ?_
        cases h
        exact am_Go.rt htb rfl
-- X9_chain
set_option maxRecDepth 100000 in
theorem ex_X9_chain (d : Nat) (hd : 7 ≤ d) (a1 : Int32) (a2 : Int32) (a3 : Int32) (m : am_m) (t : Int32 × am_m) (h : fn_X9_chain a1 a2 a3 m = some t) : am_Ex am_cod d 136 [.inr (.inr (some (9, 0))), .inl a1, .inl a2, .inl a3] (am_mk m) (some (.inl t.1)) (am_mk t.2) 0 0 := by
  obtain ⟨d, rfl⟩ : ∃ e, d = e + 1 := ⟨d - 1, by omega⟩
  have htb : am_tab 136 = at_136 := rfl
  refine ⟨Nat.le_of_ble_eq_true rfl, ?_⟩
  unfold fn_X9_chain at h
  show am_Go d 136 (0, [some (.inr (.inr (some (9, 0)))), some (.inl a1), some (.inl a2), some (.inl a3), none], [], am_mk m) _ _ 0 0
  refine am_Go.n htb 3 (S' := (5, [some (.inr (.inr (some (9, 0)))), some (.inl a1), some (.inl a2), some (.inl a3), none], [.inl a1, .inr (.inr (some (8, 0)))], am_mk m)) rfl ?_
  obtain ⟨r1, h2, h⟩ := am_bd h
  refine am_Go.cl htb rfl (ex_X8_has d (by omega) 0 a1 m r1 h2) ?_
  show am_Go d 136 (8, [some (.inr (.inr (some (9, 0)))), some (.inl a1), some (.inl a2), some (.inl a3), none], [.inl r1], am_mk m) _ _ _ _
  by_cases hc3 : r1 = 0
  · rw [if_pos hc3] at h
    refine am_Go.c1 htb (S' := (27, [some (.inr (.inr (some (9, 0)))), some (.inl a1), some (.inl a2), some (.inl a3), none], [], am_mk m)) (if_pos hc3) ?_
    refine am_Go.n htb 1 (S' := (28, [some (.inr (.inr (some (9, 0)))), some (.inl a1), some (.inl a2), some (.inl a3), none], [.inl (-1)], am_mk m)) rfl ?_
    cases h
    exact am_Go.rt htb rfl
  · rw [if_neg hc3] at h
    refine am_Go.c1 htb (S' := (11, [some (.inr (.inr (some (9, 0)))), some (.inl a1), some (.inl a2), some (.inl a3), none], [], am_mk m)) (if_neg hc3) ?_
    refine am_Go.n htb 3 (S' := (16, [some (.inr (.inr (some (9, 0)))), some (.inl a1), some (.inl a2), some (.inl a3), none], [.inl a2, .inr (.inr (some (8, 0)))], am_mk m)) rfl ?_
    obtain ⟨r4, h5, h⟩ := am_bd h
    refine am_Go.cl htb rfl (ex_X8_has d (by omega) 0 a2 m r4 h5) ?_
    show am_Go d 136 (19, [some (.inr (.inr (some (9, 0)))), some (.inl a1), some (.inl a2), some (.inl a3), none], [.inl r4], am_mk m) _ _ _ _
    by_cases hc6 : r4 = 0
    · rw [if_pos hc6] at h
      refine am_Go.c1 htb (S' := (27, [some (.inr (.inr (some (9, 0)))), some (.inl a1), some (.inl a2), some (.inl a3), none], [], am_mk m)) (if_pos hc6) ?_
      refine am_Go.n htb 1 (S' := (28, [some (.inr (.inr (some (9, 0)))), some (.inl a1), some (.inl a2), some (.inl a3), none], [.inl (-1)], am_mk m)) rfl ?_
      cases h
      exact am_Go.rt htb rfl
    · rw [if_neg hc6] at h
      refine am_Go.c1 htb (S' := (22, [some (.inr (.inr (some (9, 0)))), some (.inl a1), some (.inl a2), some (.inl a3), none], [], am_mk m)) (if_neg hc6) ?_
      refine am_Go.n htb 2 (S' := (24, [some (.inr (.inr (some (9, 0)))), some (.inl a1), some (.inl a2), some (.inl a3), none], [.inl (-1), .inl a3], am_mk m)) rfl ?_
      by_cases hc7 : (-1 : Int32) ≤ a3
      · rw [if_pos hc7] at h
        refine am_Go.c1 htb (S' := (29, [some (.inr (.inr (some (9, 0)))), some (.inl a1), some (.inl a2), some (.inl a3), none], [], am_mk m)) (if_pos hc7) ?_
        refine am_Go.n htb 1 (S' := (30, [some (.inr (.inr (some (9, 0)))), some (.inl a1), some (.inl a2), some (.inl a3), none], [.inr (.inr (some (9, 0)))], am_mk m)) rfl ?_
        obtain ⟨r8, h9, h⟩ := am_bd h
        refine am_Go.cl htb rfl (ex_X9_lookLive d (by omega)  m r8 h9) ?_
        show am_Go d 136 (33, [some (.inr (.inr (some (9, 0)))), some (.inl a1), some (.inl a2), some (.inl a3), none], [], am_mk r8) _ _ _ _
        refine am_Go.n htb 4 (S' := (39, [some (.inr (.inr (some (9, 0)))), some (.inl a1), some (.inl a2), some (.inl a3), none], [.inl a2, .inl a1, .inr (.inr (some (6, 0)))], am_mk r8)) rfl ?_
        obtain ⟨r10, h11, h⟩ := am_bd h
        refine am_Go.cl htb rfl (ex_X6_stepsTo d (by omega) a1 a2 r8 r10 h11) ?_
        show am_Go d 136 (42, [some (.inr (.inr (some (9, 0)))), some (.inl a1), some (.inl a2), some (.inl a3), none], [.inl r10.1], am_mk r10.2) _ _ _ _
        refine am_Go.n htb 3 (S' := (46, [some (.inr (.inr (some (9, 0)))), some (.inl a1), some (.inl a2), some (.inl a3), some (.inl r10.1)], [.inl (-1), .inl a3], am_mk r10.2)) rfl ?_
        by_cases hc12 : a3 = (-1 : Int32)
        · rw [if_pos hc12] at h
          refine am_Go.c1 htb (S' := (55, [some (.inr (.inr (some (9, 0)))), some (.inl a1), some (.inl a2), some (.inl a3), some (.inl r10.1)], [], am_mk r10.2)) (if_pos hc12) ?_
          refine am_Go.n htb 1 (S' := (57, [some (.inr (.inr (some (9, 0)))), some (.inl a1), some (.inl a2), some (.inl a3), some (.inl r10.1)], [.inl r10.1], am_mk r10.2)) rfl ?_
          cases h
          exact am_Go.rt htb rfl
        · rw [if_neg hc12] at h
          refine am_Go.c1 htb (S' := (49, [some (.inr (.inr (some (9, 0)))), some (.inl a1), some (.inl a2), some (.inl a3), some (.inl r10.1)], [], am_mk r10.2)) (if_neg hc12) ?_
          refine am_Go.n htb 2 (S' := (52, [some (.inr (.inr (some (9, 0)))), some (.inl a1), some (.inl a2), some (.inl a3), some (.inl r10.1)], [.inl (-1), .inl r10.1], am_mk r10.2)) rfl ?_
          by_cases hc13 : r10.1 ≠ (-1 : Int32)
          · rw [if_pos hc13] at h
            refine am_Go.c1 htb (S' := (58, [some (.inr (.inr (some (9, 0)))), some (.inl a1), some (.inl a2), some (.inl a3), some (.inl r10.1)], [], am_mk r10.2)) (if_pos hc13) ?_
            refine am_Go.n htb 2 (S' := (61, [some (.inr (.inr (some (9, 0)))), some (.inl a1), some (.inl a2), some (.inl a3), some (.inl r10.1)], [.inl r10.1, .inl a3], am_mk r10.2)) rfl ?_
            by_cases hc14 : r10.1 ≤ a3
            · rw [if_pos hc14] at h
              refine am_Go.c1 htb (S' := (77, [some (.inr (.inr (some (9, 0)))), some (.inl a1), some (.inl a2), some (.inl a3), some (.inl r10.1)], [], am_mk r10.2)) (if_pos hc14) ?_
              refine am_Go.n htb 1 (S' := (78, [some (.inr (.inr (some (9, 0)))), some (.inl a1), some (.inl a2), some (.inl a3), some (.inl r10.1)], [.inl (-1)], am_mk r10.2)) rfl ?_
              cases h
              exact am_Go.rt htb rfl
            · rw [if_neg hc14] at h
              refine am_Go.c1 htb (S' := (64, [some (.inr (.inr (some (9, 0)))), some (.inl a1), some (.inl a2), some (.inl a3), some (.inl r10.1)], [], am_mk r10.2)) (if_neg hc14) ?_
              refine am_Go.n htb 5 (S' := (71, [some (.inr (.inr (some (9, 0)))), some (.inl a1), some (.inl a2), some (.inl a3), some (.inl r10.1)], [.inl a3, .inl a2, .inl a1, .inr (.inr (some (6, 0)))], am_mk r10.2)) rfl ?_
              obtain ⟨r15, h16, h⟩ := am_bd h
              refine am_Go.cl htb rfl (ex_X6_stepOf d (by omega) a1 a2 a3 r10.2 r15 h16) ?_
              show am_Go d 136 (74, [some (.inr (.inr (some (9, 0)))), some (.inl a1), some (.inl a2), some (.inl a3), some (.inl r10.1)], [.inl r15], am_mk r10.2) _ _ _ _
              refine am_Go.n htb 1 (S' := (78, [some (.inr (.inr (some (9, 0)))), some (.inl a1), some (.inl a2), some (.inl a3), some (.inl r10.1)], [.inl r15], am_mk r10.2)) rfl ?_
              cases h
              exact am_Go.rt htb rfl
          · rw [if_neg hc13] at h
            refine am_Go.c1 htb (S' := (55, [some (.inr (.inr (some (9, 0)))), some (.inl a1), some (.inl a2), some (.inl a3), some (.inl r10.1)], [], am_mk r10.2)) (if_neg hc13) ?_
            refine am_Go.n htb 1 (S' := (57, [some (.inr (.inr (some (9, 0)))), some (.inl a1), some (.inl a2), some (.inl a3), some (.inl r10.1)], [.inl r10.1], am_mk r10.2)) rfl ?_
            cases h
            exact am_Go.rt htb rfl
      · rw [if_neg hc7] at h
        refine am_Go.c1 htb (S' := (27, [some (.inr (.inr (some (9, 0)))), some (.inl a1), some (.inl a2), some (.inl a3), none], [], am_mk m)) (if_neg hc7) ?_
        refine am_Go.n htb 1 (S' := (28, [some (.inr (.inr (some (9, 0)))), some (.inl a1), some (.inl a2), some (.inl a3), none], [.inl (-1)], am_mk m)) rfl ?_
        cases h
        exact am_Go.rt htb rfl
-- X9_circles
set_option maxRecDepth 100000 in
theorem ex_X9_circles (d : Nat) (hd : 7 ≤ d)  (m : am_m) (t : Int32 × am_m) (h : fn_X9_circles  m = some t) : am_Ex am_cod d 137 [.inr (.inr (some (9, 0)))] (am_mk m) (some (.inl t.1)) (am_mk t.2) 0 0 := by
  obtain ⟨d, rfl⟩ : ∃ e, d = e + 1 := ⟨d - 1, by omega⟩
  have htb : am_tab 137 = at_137 := rfl
  refine ⟨Nat.le_of_ble_eq_true rfl, ?_⟩
  unfold fn_X9_circles at h
  show am_Go d 137 (0, [some (.inr (.inr (some (9, 0))))], [], am_mk m) _ _ 0 0
  refine am_Go.n htb 1 (S' := (1, [some (.inr (.inr (some (9, 0))))], [.inr (.inr (some (9, 0)))], am_mk m)) rfl ?_
  obtain ⟨r1, h2, h⟩ := am_bd h
  refine am_Go.cl htb rfl (ex_X9_lookLive d (by omega)  m r1 h2) ?_
  show am_Go d 137 (4, [some (.inr (.inr (some (9, 0))))], [], am_mk r1) _ _ _ _
  refine am_Go.n htb 4 (S' := (10, [some (.inr (.inr (some (9, 0))))], [.inl (-1), .inl (-1), .inr (.inr (some (6, 0)))], am_mk r1)) rfl ?_
  obtain ⟨r3, h4, h⟩ := am_bd h
  refine am_Go.cl htb rfl (ex_X6_circlesWithout d (by omega) (-1) (-1) r1 r3 h4) ?_
  show am_Go d 137 (13, [some (.inr (.inr (some (9, 0))))], [.inl r3], am_mk r1) _ _ _ _
  cases h
  exact am_Go.rt htb rfl
-- X9_bridges
set_option maxRecDepth 100000 in
theorem ex_X9_bridges (d : Nat) (hd : 7 ≤ d) (a1 : Int32) (m : am_m) (t : Int32 × am_m) (h : fn_X9_bridges a1 m = some t) : am_Ex am_cod d 138 [.inr (.inr (some (9, 0))), .inl a1] (am_mk m) (some (.inl t.1)) (am_mk t.2) 0 0 := by
  obtain ⟨d, rfl⟩ : ∃ e, d = e + 1 := ⟨d - 1, by omega⟩
  have htb : am_tab 138 = at_138 := rfl
  refine ⟨Nat.le_of_ble_eq_true rfl, ?_⟩
  unfold fn_X9_bridges at h
  show am_Go d 138 (0, [some (.inr (.inr (some (9, 0)))), some (.inl a1)], [], am_mk m) _ _ 0 0
  refine am_Go.n htb 1 (S' := (1, [some (.inr (.inr (some (9, 0)))), some (.inl a1)], [.inr (.inr (some (9, 0)))], am_mk m)) rfl ?_
  obtain ⟨r1, h2, h⟩ := am_bd h
  refine am_Go.cl htb rfl (ex_X9_lookLive d (by omega)  m r1 h2) ?_
  show am_Go d 138 (4, [some (.inr (.inr (some (9, 0)))), some (.inl a1)], [], am_mk r1) _ _ _ _
  refine am_Go.n htb 2 (S' := (8, [some (.inr (.inr (some (9, 0)))), some (.inl a1)], [.inr (.inr (some (6, 0)))], am_mk r1)) rfl ?_
  obtain ⟨r3, h4, h⟩ := am_bd h
  refine am_Go.cl htb rfl (ex_X6_findBridges d (by omega)  r1 r3 h4) ?_
  show am_Go d 138 (11, [some (.inr (.inr (some (9, 0)))), some (.inl a1)], [], am_mk r3) _ _ _ _
  refine am_Go.n htb 3 (S' := (16, [some (.inr (.inr (some (9, 0)))), some (.inl a1)], [.inl a1, .inr (.inr (some (6, 0)))], am_mk r3)) rfl ?_
  obtain ⟨r5, h6, h⟩ := am_bd h
  refine am_Go.cl htb rfl (ex_X6_twoOf d (by omega) a1 r3 r5 h6) ?_
  show am_Go d 138 (19, [some (.inr (.inr (some (9, 0)))), some (.inl a1)], [.inl r5], am_mk r3) _ _ _ _
  cases h
  exact am_Go.rt htb rfl
-- X9_sat
set_option maxRecDepth 100000 in
theorem ex_X9_sat (d : Nat) (hd : 3 ≤ d) (a1 : Int32) (m : am_m) (t : Int32 × am_m) (h : fn_X9_sat a1 m = some t) : am_Ex am_cod d 139 [.inr (.inr (some (9, 0))), .inl a1] (am_mk m) (some (.inl t.1)) (am_mk t.2) 0 0 := by
  obtain ⟨d, rfl⟩ : ∃ e, d = e + 1 := ⟨d - 1, by omega⟩
  have htb : am_tab 139 = at_139 := rfl
  refine ⟨Nat.le_of_ble_eq_true rfl, ?_⟩
  unfold fn_X9_sat at h
  show am_Go d 139 (0, [some (.inr (.inr (some (9, 0)))), some (.inl a1)], [], am_mk m) _ _ 0 0
  refine am_Go.n htb 1 (S' := (1, [some (.inr (.inr (some (9, 0)))), some (.inl a1)], [.inl a1], am_mk m)) rfl ?_
  by_cases hc1 : a1 < 0
  · rw [if_pos hc1] at h
    refine am_Go.c1 htb (S' := (18, [some (.inr (.inr (some (9, 0)))), some (.inl a1)], [], am_mk m)) (if_pos hc1) ?_
    refine am_Go.n htb 2 (S' := (20, [some (.inr (.inr (some (9, 0)))), some (.inl a1)], [.inl (-1), .inr (.inr (some (9, 0)))], am_mk m)) rfl ?_
    obtain ⟨r2, h3, h⟩ := am_bd h
    refine am_Go.cl htb rfl (ex_X9_told d (by omega) (-1) m r2 h3) ?_
    show am_Go d 139 (23, [some (.inr (.inr (some (9, 0)))), some (.inl a1)], [.inl r2.1], am_mk r2.2) _ _ _ _
    cases h
    exact am_Go.rt htb rfl
  · rw [if_neg hc1] at h
    refine am_Go.c1 htb (S' := (4, [some (.inr (.inr (some (9, 0)))), some (.inl a1)], [], am_mk m)) (if_neg hc1) ?_
    refine am_Go.n htb 2 (S' := (7, [some (.inr (.inr (some (9, 0)))), some (.inl a1)], [.inl 127, .inl a1], am_mk m)) rfl ?_
    by_cases hc4 : (127 : Int32) < a1
    · rw [if_pos hc4] at h
      refine am_Go.c1 htb (S' := (18, [some (.inr (.inr (some (9, 0)))), some (.inl a1)], [], am_mk m)) (if_pos hc4) ?_
      refine am_Go.n htb 2 (S' := (20, [some (.inr (.inr (some (9, 0)))), some (.inl a1)], [.inl (-1), .inr (.inr (some (9, 0)))], am_mk m)) rfl ?_
      obtain ⟨r5, h6, h⟩ := am_bd h
      refine am_Go.cl htb rfl (ex_X9_told d (by omega) (-1) m r5 h6) ?_
      show am_Go d 139 (23, [some (.inr (.inr (some (9, 0)))), some (.inl a1)], [.inl r5.1], am_mk r5.2) _ _ _ _
      cases h
      exact am_Go.rt htb rfl
    · rw [if_neg hc4] at h
      refine am_Go.c1 htb (S' := (10, [some (.inr (.inr (some (9, 0)))), some (.inl a1)], [], am_mk m)) (if_neg hc4) ?_
      refine am_Go.n htb 1 (S' := (11, [some (.inr (.inr (some (9, 0)))), some (.inl a1)], [.inl a1], am_mk m)) rfl ?_
      obtain ⟨r7, h8, h⟩ := am_bd h
      refine am_Go.cl htb rfl (ex_J6_bitCount_0f7a4 d (by omega) a1 m r7 h8) ?_
      show am_Go d 139 (14, [some (.inr (.inr (some (9, 0)))), some (.inl a1)], [.inl r7], am_mk m) _ _ _ _
      refine am_Go.n htb 1 (S' := (15, [some (.inr (.inr (some (9, 0)))), some (.inl a1)], [.inl 2, .inl r7], am_mk m)) rfl ?_
      by_cases hc9 : (2 : Int32) ≤ r7
      · rw [if_pos hc9] at h
        refine am_Go.c1 htb (S' := (24, [some (.inr (.inr (some (9, 0)))), some (.inl a1)], [], am_mk m)) (if_pos hc9) ?_
        refine am_Go.n htb 3 (S' := (29, [some (.inr (.inr (some (9, 0)))), some (.inl a1)], [.inl a1, .inr (.inr (some (8, 0)))], am_mk m)) rfl ?_
        obtain ⟨r10, h11, h⟩ := am_bd h
        refine am_Go.cl htb rfl (ex_X8_hasSet d (by omega) 0 a1 m r10 h11) ?_
        show am_Go d 139 (32, [some (.inr (.inr (some (9, 0)))), some (.inl a1)], [.inl r10], am_mk m) _ _ _ _
        by_cases hc12 : r10 ≠ 0
        · rw [if_pos hc12] at h
          refine am_Go.c1 htb (S' := (42, [some (.inr (.inr (some (9, 0)))), some (.inl a1)], [], am_mk m)) (if_pos hc12) ?_
          refine am_Go.n htb 4 (S' := (51, [some (.inr (.inr (some (9, 0)))), some (.inl a1)], [.inl 6, .inl (m.1 8 0 1)], am_mk m)) rfl ?_
          by_cases hc13 : (m.1 8 0 1) < (6 : Int32)
          · rw [if_pos hc13] at h
            refine am_Go.c1 htb (S' := (61, [some (.inr (.inr (some (9, 0)))), some (.inl a1)], [], am_mk m)) (if_pos hc13) ?_
            refine am_Go.n htb 7 (S' := (76, [some (.inr (.inr (some (9, 0)))), some (.inl a1)], [.inl a1, .inl (m.1 8 0 1), .inr (.inr (some (40, 0)))], am_mk m)) rfl ?_
            obtain ⟨hg14, h⟩ := am_ck_some h
            refine am_Go.c1 htb (S' := (77, [some (.inr (.inr (some (9, 0)))), some (.inl a1)], [], am_mk (am_si m 40 0 (m.1 8 0 1).toNatClampNeg a1))) (if_neg hg14) ?_
            refine am_Go.n htb 11 (S' := (98, [some (.inr (.inr (some (9, 0)))), some (.inl a1)], [.inl ((m.1 8 0 1) + (1 : Int32)), .inr (.inr (some (9, 0)))], am_mk (am_si (am_si m 40 0 (m.1 8 0 1).toNatClampNeg a1) 8 0 1 ((m.1 8 0 1) + (1 : Int32))))) rfl ?_
            obtain ⟨r15, h16, h⟩ := am_bd h
            refine am_Go.cl htb rfl (ex_X9_told d (by omega) ((m.1 8 0 1) + (1 : Int32)) (am_si (am_si m 40 0 (m.1 8 0 1).toNatClampNeg a1) 8 0 1 ((m.1 8 0 1) + (1 : Int32))) r15 h16) ?_
            show am_Go d 139 (101, [some (.inr (.inr (some (9, 0)))), some (.inl a1)], [.inl r15.1], am_mk r15.2) _ _ _ _
            cases h
            exact am_Go.rt htb rfl
          · rw [if_neg hc13] at h
            refine am_Go.c1 htb (S' := (54, [some (.inr (.inr (some (9, 0)))), some (.inl a1)], [], am_mk m)) (if_neg hc13) ?_
            refine am_Go.n htb 2 (S' := (57, [some (.inr (.inr (some (9, 0)))), some (.inl a1)], [.inl (-5), .inr (.inr (some (9, 0)))], am_mk m)) rfl ?_
            obtain ⟨r17, h18, h⟩ := am_bd h
            refine am_Go.cl htb rfl (ex_X9_told d (by omega) (-5) m r17 h18) ?_
            show am_Go d 139 (60, [some (.inr (.inr (some (9, 0)))), some (.inl a1)], [.inl r17.1], am_mk r17.2) _ _ _ _
            cases h
            exact am_Go.rt htb rfl
        · rw [if_neg hc12] at h
          refine am_Go.c1 htb (S' := (35, [some (.inr (.inr (some (9, 0)))), some (.inl a1)], [], am_mk m)) (if_neg hc12) ?_
          refine am_Go.n htb 2 (S' := (38, [some (.inr (.inr (some (9, 0)))), some (.inl a1)], [.inl (-2), .inr (.inr (some (9, 0)))], am_mk m)) rfl ?_
          obtain ⟨r19, h20, h⟩ := am_bd h
          refine am_Go.cl htb rfl (ex_X9_told d (by omega) (-2) m r19 h20) ?_
          show am_Go d 139 (41, [some (.inr (.inr (some (9, 0)))), some (.inl a1)], [.inl r19.1], am_mk r19.2) _ _ _ _
          cases h
          exact am_Go.rt htb rfl
      · rw [if_neg hc9] at h
        refine am_Go.c1 htb (S' := (18, [some (.inr (.inr (some (9, 0)))), some (.inl a1)], [], am_mk m)) (if_neg hc9) ?_
        refine am_Go.n htb 2 (S' := (20, [some (.inr (.inr (some (9, 0)))), some (.inl a1)], [.inl (-1), .inr (.inr (some (9, 0)))], am_mk m)) rfl ?_
        obtain ⟨r21, h22, h⟩ := am_bd h
        refine am_Go.cl htb rfl (ex_X9_told d (by omega) (-1) m r21 h22) ?_
        show am_Go d 139 (23, [some (.inr (.inr (some (9, 0)))), some (.inl a1)], [.inl r21.1], am_mk r21.2) _ _ _ _
        cases h
        exact am_Go.rt htb rfl
-- X9_forget
set_option maxRecDepth 100000 in
theorem ex_X9_forget (d : Nat) (hd : 1 ≤ d)  (m : am_m) (t : Int32 × am_m) (h : fn_X9_forget  m = some t) : am_Ex am_cod d 140 [.inr (.inr (some (9, 0)))] (am_mk m) (some (.inl t.1)) (am_mk t.2) 0 0 := by
  obtain ⟨d, rfl⟩ : ∃ e, d = e + 1 := ⟨d - 1, by omega⟩
  have htb : am_tab 140 = at_140 := rfl
  refine ⟨Nat.le_of_ble_eq_true rfl, ?_⟩
  unfold fn_X9_forget at h
  show am_Go d 140 (0, [some (.inr (.inr (some (9, 0)))), none], [], am_mk m) _ _ 0 0
  refine am_Go.n htb 9 (S' := (17, [some (.inr (.inr (some (9, 0)))), some (.inl (m.1 8 0 1))], [.inl (m.1 8 0 1)], am_mk (am_si m 8 0 1 0))) rfl ?_
  cases h
  exact am_Go.rt htb rfl
-- X9_doubted
set_option maxRecDepth 100000 in
theorem ex_X9_doubted (d : Nat) (hd : 7 ≤ d) (a1 : Int32) (m : am_m) (t : Int32 × am_m) (h : fn_X9_doubted a1 m = some t) : am_Ex am_cod d 141 [.inr (.inr (some (9, 0))), .inl a1] (am_mk m) (some (.inl t.1)) (am_mk t.2) 0 0 := by
  obtain ⟨d, rfl⟩ : ∃ e, d = e + 1 := ⟨d - 1, by omega⟩
  have htb : am_tab 141 = at_141 := rfl
  refine ⟨Nat.le_of_ble_eq_true rfl, ?_⟩
  unfold fn_X9_doubted at h
  show am_Go d 141 (0, [some (.inr (.inr (some (9, 0)))), some (.inl a1)], [], am_mk m) _ _ 0 0
  refine am_Go.n htb 1 (S' := (1, [some (.inr (.inr (some (9, 0)))), some (.inl a1)], [.inr (.inr (some (9, 0)))], am_mk m)) rfl ?_
  obtain ⟨r1, h2, h⟩ := am_bd h
  refine am_Go.cl htb rfl (ex_X9_lookLive d (by omega)  m r1 h2) ?_
  show am_Go d 141 (4, [some (.inr (.inr (some (9, 0)))), some (.inl a1)], [], am_mk r1) _ _ _ _
  refine am_Go.n htb 4 (S' := (12, [some (.inr (.inr (some (9, 0)))), some (.inl a1)], [.inr (.inr (some (8, 0))), .inr (.inr (some (6, 0)))], am_mk r1)) rfl ?_
  obtain ⟨r3, h4, h⟩ := am_bd h
  refine am_Go.cl htb rfl (ex_X6_findDoubted d (by omega) 0 r1 r3 h4) ?_
  show am_Go d 141 (15, [some (.inr (.inr (some (9, 0)))), some (.inl a1)], [], am_mk r3) _ _ _ _
  refine am_Go.n htb 3 (S' := (20, [some (.inr (.inr (some (9, 0)))), some (.inl a1)], [.inl a1, .inr (.inr (some (6, 0)))], am_mk r3)) rfl ?_
  obtain ⟨r5, h6, h⟩ := am_bd h
  refine am_Go.cl htb rfl (ex_X6_twoOf d (by omega) a1 r3 r5 h6) ?_
  show am_Go d 141 (23, [some (.inr (.inr (some (9, 0)))), some (.inl a1)], [.inl r5], am_mk r3) _ _ _ _
  cases h
  exact am_Go.rt htb rfl
-- X9_fitting
set_option maxRecDepth 100000 in
theorem ex_X9_fitting (d : Nat) (hd : 7 ≤ d) (a1 : Int32) (m : am_m) (t : Int32 × am_m) (h : fn_X9_fitting a1 m = some t) : am_Ex am_cod d 142 [.inr (.inr (some (9, 0))), .inl a1] (am_mk m) (some (.inl t.1)) (am_mk t.2) 0 0 := by
  obtain ⟨d, rfl⟩ : ∃ e, d = e + 1 := ⟨d - 1, by omega⟩
  have htb : am_tab 142 = at_142 := rfl
  refine ⟨Nat.le_of_ble_eq_true rfl, ?_⟩
  unfold fn_X9_fitting at h
  show am_Go d 142 (0, [some (.inr (.inr (some (9, 0)))), some (.inl a1)], [], am_mk m) _ _ 0 0
  refine am_Go.n htb 3 (S' := (5, [some (.inr (.inr (some (9, 0)))), some (.inl a1)], [.inl a1, .inr (.inr (some (8, 0)))], am_mk m)) rfl ?_
  obtain ⟨r1, h2, h⟩ := am_bd h
  refine am_Go.cl htb rfl (ex_X8_hasSet d (by omega) 0 a1 m r1 h2) ?_
  show am_Go d 142 (8, [some (.inr (.inr (some (9, 0)))), some (.inl a1)], [.inl r1], am_mk m) _ _ _ _
  by_cases hc3 : r1 ≠ 0
  · rw [if_pos hc3] at h
    refine am_Go.c1 htb (S' := (13, [some (.inr (.inr (some (9, 0)))), some (.inl a1)], [], am_mk m)) (if_pos hc3) ?_
    refine am_Go.n htb 1 (S' := (14, [some (.inr (.inr (some (9, 0)))), some (.inl a1)], [.inr (.inr (some (9, 0)))], am_mk m)) rfl ?_
    obtain ⟨r4, h5, h⟩ := am_bd h
    refine am_Go.cl htb rfl (ex_X9_lookLive d (by omega)  m r4 h5) ?_
    show am_Go d 142 (17, [some (.inr (.inr (some (9, 0)))), some (.inl a1)], [], am_mk r4) _ _ _ _
    refine am_Go.n htb 3 (S' := (22, [some (.inr (.inr (some (9, 0)))), some (.inl a1)], [.inl a1, .inr (.inr (some (6, 0)))], am_mk r4)) rfl ?_
    obtain ⟨r6, h7, h⟩ := am_bd h
    refine am_Go.cl htb rfl (ex_X6_fittingFor d (by omega) a1 r4 r6 h7) ?_
    show am_Go d 142 (25, [some (.inr (.inr (some (9, 0)))), some (.inl a1)], [.inl r6], am_mk r4) _ _ _ _
    cases h
    exact am_Go.rt htb rfl
  · rw [if_neg hc3] at h
    refine am_Go.c1 htb (S' := (11, [some (.inr (.inr (some (9, 0)))), some (.inl a1)], [], am_mk m)) (if_neg hc3) ?_
    refine am_Go.n htb 1 (S' := (12, [some (.inr (.inr (some (9, 0)))), some (.inl a1)], [.inl (-1)], am_mk m)) rfl ?_
    cases h
    exact am_Go.rt htb rfl
-- X9_ask
set_option maxRecDepth 100000 in
theorem ex_X9_ask (d : Nat) (hd : 7 ≤ d) (a1 : Int32) (a2 : Int32) (m : am_m) (t : Int32 × am_m) (h : fn_X9_ask a1 a2 m = some t) : am_Ex am_cod d 143 [.inr (.inr (some (9, 0))), .inl a1, .inl a2] (am_mk m) (some (.inl t.1)) (am_mk t.2) 0 0 := by
  obtain ⟨d, rfl⟩ : ∃ e, d = e + 1 := ⟨d - 1, by omega⟩
  have htb : am_tab 143 = at_143 := rfl
  refine ⟨Nat.le_of_ble_eq_true rfl, ?_⟩
  unfold fn_X9_ask at h
  show am_Go d 143 (0, [some (.inr (.inr (some (9, 0)))), some (.inl a1), some (.inl a2), none, none], [], am_mk m) _ _ 0 0
  refine am_Go.n htb 3 (S' := (5, [some (.inr (.inr (some (9, 0)))), some (.inl a1), some (.inl a2), none, none], [.inl a1, .inr (.inr (some (8, 0)))], am_mk m)) rfl ?_
  obtain ⟨r1, h2, h⟩ := am_bd h
  refine am_Go.cl htb rfl (ex_X8_hasSet d (by omega) 0 a1 m r1 h2) ?_
  show am_Go d 143 (8, [some (.inr (.inr (some (9, 0)))), some (.inl a1), some (.inl a2), none, none], [.inl r1], am_mk m) _ _ _ _
  by_cases hc3 : r1 ≠ 0
  · rw [if_pos hc3] at h
    refine am_Go.c1 htb (S' := (13, [some (.inr (.inr (some (9, 0)))), some (.inl a1), some (.inl a2), none, none], [], am_mk m)) (if_pos hc3) ?_
    refine am_Go.n htb 1 (S' := (14, [some (.inr (.inr (some (9, 0)))), some (.inl a1), some (.inl a2), none, none], [.inr (.inr (some (9, 0)))], am_mk m)) rfl ?_
    obtain ⟨r4, h5, h⟩ := am_bd h
    refine am_Go.cl htb rfl (ex_X9_lookLive d (by omega)  m r4 h5) ?_
    show am_Go d 143 (17, [some (.inr (.inr (some (9, 0)))), some (.inl a1), some (.inl a2), none, none], [], am_mk r4) _ _ _ _
    refine am_Go.n htb 3 (S' := (22, [some (.inr (.inr (some (9, 0)))), some (.inl a1), some (.inl a2), none, none], [.inl a1, .inr (.inr (some (6, 0)))], am_mk r4)) rfl ?_
    obtain ⟨r6, h7, h⟩ := am_bd h
    refine am_Go.cl htb rfl (ex_X6_fittingFor d (by omega) a1 r4 r6 h7) ?_
    show am_Go d 143 (25, [some (.inr (.inr (some (9, 0)))), some (.inl a1), some (.inl a2), none, none], [.inl r6], am_mk r4) _ _ _ _
    refine am_Go.n htb 4 (S' := (31, [some (.inr (.inr (some (9, 0)))), some (.inl a1), some (.inl a2), some (.inl r6), none], [.inl r6, .inr (.inr (some (6, 0)))], am_mk r4)) rfl ?_
    obtain ⟨r8, h9, h⟩ := am_bd h
    refine am_Go.cl htb rfl (ex_X6_nearestHalf d (by omega) r6 r4 r8 h9) ?_
    show am_Go d 143 (34, [some (.inr (.inr (some (9, 0)))), some (.inl a1), some (.inl a2), some (.inl r6), none], [.inl r8], am_mk r4) _ _ _ _
    refine am_Go.n htb 3 (S' := (39, [some (.inr (.inr (some (9, 0)))), some (.inl a1), some (.inl a2), some (.inl r6), some (.inl r8)], [.inl (-1), .inl r8], am_mk r4)) rfl ?_
    by_cases hc10 : r8 ≠ (-1 : Int32)
    · rw [if_pos hc10] at h
      refine am_Go.c1 htb (S' := (44, [some (.inr (.inr (some (9, 0)))), some (.inl a1), some (.inl a2), some (.inl r6), some (.inl r8)], [], am_mk r4)) (if_pos hc10) ?_
      refine am_Go.n htb 1 (S' := (45, [some (.inr (.inr (some (9, 0)))), some (.inl a1), some (.inl a2), some (.inl r6), some (.inl r8)], [.inl a2], am_mk r4)) rfl ?_
      by_cases hs11 : a2 = 0
      · rw [if_pos hs11] at h
        refine am_Go.o htb (am_o_sw [(0, 72), (1, 75)] 86) rfl (S' := (72, [some (.inr (.inr (some (9, 0)))), some (.inl a1), some (.inl a2), some (.inl r6), some (.inl r8)], [], am_mk r4)) (am_sw_eq (by simp only [am_sw, if_pos hs11])) ?_
        refine am_Go.n htb 1 (S' := (74, [some (.inr (.inr (some (9, 0)))), some (.inl a1), some (.inl a2), some (.inl r6), some (.inl r8)], [.inl r8], am_mk r4)) rfl ?_
        cases h
        exact am_Go.rt htb rfl
      · rw [if_neg hs11] at h
        by_cases hs12 : a2 = 1
        · rw [if_pos hs12] at h
          refine am_Go.o htb (am_o_sw [(0, 72), (1, 75)] 86) rfl (S' := (75, [some (.inr (.inr (some (9, 0)))), some (.inl a1), some (.inl a2), some (.inl r6), some (.inl r8)], [], am_mk r4)) (am_sw_eq (by simp only [am_sw, if_neg hs11, if_pos hs12])) ?_
          refine am_Go.n htb 4 (S' := (82, [some (.inr (.inr (some (9, 0)))), some (.inl a1), some (.inl a2), some (.inl r6), some (.inl r8)], [.inl r6, .inl r8, .inr (.inr (some (6, 0)))], am_mk r4)) rfl ?_
          obtain ⟨r13, h14, h⟩ := am_bd h
          refine am_Go.cl htb rfl (ex_X6_companionsAmong d (by omega) r8 r6 r4 r13 h14) ?_
          show am_Go d 143 (85, [some (.inr (.inr (some (9, 0)))), some (.inl a1), some (.inl a2), some (.inl r6), some (.inl r8)], [.inl r13], am_mk r4) _ _ _ _
          cases h
          exact am_Go.rt htb rfl
        · rw [if_neg hs12] at h
          refine am_Go.o htb (am_o_sw [(0, 72), (1, 75)] 86) rfl (S' := (86, [some (.inr (.inr (some (9, 0)))), some (.inl a1), some (.inl a2), some (.inl r6), some (.inl r8)], [], am_mk r4)) (am_sw_eq (by simp only [am_sw, if_neg hs11, if_neg hs12, if_false])) ?_
          refine am_Go.n htb 1 (S' := (87, [some (.inr (.inr (some (9, 0)))), some (.inl a1), some (.inl a2), some (.inl r6), some (.inl r8)], [.inl (-1)], am_mk r4)) rfl ?_
          cases h
          exact am_Go.rt htb rfl
    · rw [if_neg hc10] at h
      refine am_Go.c1 htb (S' := (42, [some (.inr (.inr (some (9, 0)))), some (.inl a1), some (.inl a2), some (.inl r6), some (.inl r8)], [], am_mk r4)) (if_neg hc10) ?_
      refine am_Go.n htb 1 (S' := (43, [some (.inr (.inr (some (9, 0)))), some (.inl a1), some (.inl a2), some (.inl r6), some (.inl r8)], [.inl (-1)], am_mk r4)) rfl ?_
      cases h
      exact am_Go.rt htb rfl
  · rw [if_neg hc3] at h
    refine am_Go.c1 htb (S' := (11, [some (.inr (.inr (some (9, 0)))), some (.inl a1), some (.inl a2), none, none], [], am_mk m)) (if_neg hc3) ?_
    refine am_Go.n htb 1 (S' := (12, [some (.inr (.inr (some (9, 0)))), some (.inl a1), some (.inl a2), none, none], [.inl (-1)], am_mk m)) rfl ?_
    cases h
    exact am_Go.rt htb rfl
-- X9_lasts
set_option maxRecDepth 100000 in
theorem lt_X9_lasts_28 (d : Nat) (hd : 5 ≤ d + 1) {r : Option am_V} {M' : am_M} {kc ks : Nat} {n : Nat} {x1 : Int32} {x2 : Int32} {x3 : Int32} {m : am_m} {t : Sum (am_m) (Int32 × am_m)} (h : lp_X9_lasts_28 n x1 x2 x3 m = some t) (hk : ∀ t', t = .inl t' → am_Go d 144 (73, [some (.inr (.inr (some (9, 0)))), some (.inl x1), none, none], [], am_mk t') r M' kc ks) (hr : ∀ t', t = .inr t' → r = some (.inl t'.1) ∧ M' = am_mk t'.2 ∧ kc = 0 ∧ ks = 0) : am_Go d 144 (28, [some (.inr (.inr (some (9, 0)))), some (.inl x1), some (.inl x2), some (.inl x3)], [], am_mk m) r M' kc ks := by
  have htb : am_tab 144 = at_144 := rfl
  induction n generalizing x2 x3 m with
  | zero => cases h
  | succ n ih =>
    unfold lp_X9_lasts_28 at h
    refine am_Go.n htb 2 (S' := (31, [some (.inr (.inr (some (9, 0)))), some (.inl x1), some (.inl x2), some (.inl x3)], [.inl 100, .inl x3], am_mk m)) rfl ?_
    by_cases hc8 : (100 : Int32) < x3
    · rw [if_pos hc8] at h
      refine am_Go.c1 htb (S' := (73, [some (.inr (.inr (some (9, 0)))), some (.inl x1), some (.inl x2), some (.inl x3)], [], am_mk m)) (if_pos hc8) ?_
      cases h
      exact am_Go.fg (by exact ⟨rfl, ⟨rfl, trivial⟩⟩) (hk _ rfl)
    · rw [if_neg hc8] at h
      refine am_Go.c1 htb (S' := (34, [some (.inr (.inr (some (9, 0)))), some (.inl x1), some (.inl x2), some (.inl x3)], [], am_mk m)) (if_neg hc8) ?_
      refine am_Go.n htb 1 (S' := (35, [some (.inr (.inr (some (9, 0)))), some (.inl x1), some (.inl x2), some (.inl x3)], [.inl x2], am_mk m)) rfl ?_
      by_cases hc9 : x2 ≠ 0
      · rw [if_pos hc9] at h
        refine am_Go.c1 htb (S' := (40, [some (.inr (.inr (some (9, 0)))), some (.inl x1), some (.inl x2), some (.inl x3)], [], am_mk m)) (if_pos hc9) ?_
        refine am_Go.n htb 13 (S' := (59, [some (.inr (.inr (some (9, 0)))), some (.inl x1), some (.inl x2), some (.inl x3)], [.inl ((m.1 39 0 0) + x3), .inl x2, .inl x1, .inr (.inr (some (1, 0))), .inl x2, .inl 0], am_mk m)) rfl ?_
        obtain ⟨r10, h11, h⟩ := am_bd h
        refine am_Go.cl htb rfl (ex_X1_hungerOf d (by omega) x1 x2 ((m.1 39 0 0) + x3) m r10 h11) ?_
        show am_Go d 144 (62, [some (.inr (.inr (some (9, 0)))), some (.inl x1), some (.inl x2), some (.inl x3)], [.inl r10.1, .inl x2, .inl 0], am_mk r10.2) _ _ _ _
        refine am_Go.n htb 1 (S' := (63, [some (.inr (.inr (some (9, 0)))), some (.inl x1), some (.inl x2), some (.inl x3)], [.inl (x2 - r10.1), .inl 0], am_mk r10.2)) rfl ?_
        obtain ⟨r12, h13, h⟩ := am_bd h
        refine am_Go.cl htb rfl (ex_J9_max_7cf53 d (by omega) 0 (x2 - r10.1) r10.2 r12 h13) ?_
        show am_Go d 144 (66, [some (.inr (.inr (some (9, 0)))), some (.inl x1), some (.inl x2), some (.inl x3)], [.inl r12], am_mk r10.2) _ _ _ _
        refine am_Go.n htb 3 (S' := (28, [some (.inr (.inr (some (9, 0)))), some (.inl x1), some (.inl r12), some (.inl (x3 + 1))], [], am_mk r10.2)) rfl ?_
        first | exact ih h | exact ih h hk | exact ih h hr | exact ih h hk hr
      · rw [if_neg hc9] at h
        refine am_Go.c1 htb (S' := (38, [some (.inr (.inr (some (9, 0)))), some (.inl x1), some (.inl x2), some (.inl x3)], [], am_mk m)) (if_neg hc9) ?_
        refine am_Go.n htb 1 (S' := (39, [some (.inr (.inr (some (9, 0)))), some (.inl x1), some (.inl x2), some (.inl x3)], [.inl x3], am_mk m)) rfl ?_
        cases h
        obtain ⟨rfl, rfl, rfl, rfl⟩ := hr _ rfl
        exact am_Go.rt htb rfl
set_option maxRecDepth 100000 in
theorem ex_X9_lasts (d : Nat) (hd : 5 ≤ d) (a1 : Int32) (m : am_m) (t : Int32 × am_m) (h : fn_X9_lasts a1 m = some t) : am_Ex am_cod d 144 [.inr (.inr (some (9, 0))), .inl a1] (am_mk m) (some (.inl t.1)) (am_mk t.2) 0 0 := by
  obtain ⟨d, rfl⟩ : ∃ e, d = e + 1 := ⟨d - 1, by omega⟩
  have htb : am_tab 144 = at_144 := rfl
  refine ⟨Nat.le_of_ble_eq_true rfl, ?_⟩
  unfold fn_X9_lasts at h
  show am_Go d 144 (0, [some (.inr (.inr (some (9, 0)))), some (.inl a1), none, none], [], am_mk m) _ _ 0 0
  refine am_Go.n htb 3 (S' := (5, [some (.inr (.inr (some (9, 0)))), some (.inl a1), none, none], [.inl a1, .inr (.inr (some (8, 0)))], am_mk m)) rfl ?_
  obtain ⟨r1, h2, h⟩ := am_bd h
  refine am_Go.cl htb rfl (ex_X8_has d (by omega) 0 a1 m r1 h2) ?_
  show am_Go d 144 (8, [some (.inr (.inr (some (9, 0)))), some (.inl a1), none, none], [.inl r1], am_mk m) _ _ _ _
  by_cases hc3 : r1 ≠ 0
  · rw [if_pos hc3] at h
    refine am_Go.c1 htb (S' := (13, [some (.inr (.inr (some (9, 0)))), some (.inl a1), none, none], [], am_mk m)) (if_pos hc3) ?_
    refine am_Go.n htb 1 (S' := (14, [some (.inr (.inr (some (9, 0)))), some (.inl a1), none, none], [.inr (.inr (some (9, 0)))], am_mk m)) rfl ?_
    obtain ⟨r4, h5, h⟩ := am_bd h
    refine am_Go.cl htb rfl (ex_X9_askLive d (by omega)  m r4 h5) ?_
    show am_Go d 144 (17, [some (.inr (.inr (some (9, 0)))), some (.inl a1), none, none], [], am_mk r4) _ _ _ _
    refine am_Go.n htb 3 (S' := (22, [some (.inr (.inr (some (9, 0)))), some (.inl a1), none, none], [.inl a1, .inr (.inr (some (8, 0)))], am_mk r4)) rfl ?_
    obtain ⟨r6, h7, h⟩ := am_bd h
    refine am_Go.cl htb rfl (ex_X8_fedOf d (by omega) 0 a1 r4 r6 h7) ?_
    show am_Go d 144 (25, [some (.inr (.inr (some (9, 0)))), some (.inl a1), none, none], [.inl r6], am_mk r4) _ _ _ _
    refine am_Go.n htb 3 (S' := (28, [some (.inr (.inr (some (9, 0)))), some (.inl a1), some (.inl r6), some (.inl 0)], [], am_mk r4)) rfl ?_
    obtain ⟨w17, h15, h⟩ := am_bd h
    refine lt_X9_lasts_28 _ hd (h := h15) (hk := ?_) (hr := ?_)
    · intro q14 he
      subst he
      dsimp only at h
      refine am_Go.n htb 1 (S' := (74, [some (.inr (.inr (some (9, 0)))), some (.inl a1), none, none], [.inl (-1)], am_mk q14)) rfl ?_
      cases h
      exact am_Go.rt htb rfl
    · intro rr16 he
      subst he
      cases h
      exact ⟨rfl, rfl, rfl, rfl⟩
  · rw [if_neg hc3] at h
    refine am_Go.c1 htb (S' := (11, [some (.inr (.inr (some (9, 0)))), some (.inl a1), none, none], [], am_mk m)) (if_neg hc3) ?_
    refine am_Go.n htb 1 (S' := (12, [some (.inr (.inr (some (9, 0)))), some (.inl a1), none, none], [.inl (-1)], am_mk m)) rfl ?_
    cases h
    exact am_Go.rt htb rfl
-- X9_fedBy
set_option maxRecDepth 100000 in
theorem ex_X9_fedBy (d : Nat) (hd : 7 ≤ d) (a1 : Int32) (m : am_m) (t : Int32 × am_m) (h : fn_X9_fedBy a1 m = some t) : am_Ex am_cod d 145 [.inr (.inr (some (9, 0))), .inl a1] (am_mk m) (some (.inl t.1)) (am_mk t.2) 0 0 := by
  obtain ⟨d, rfl⟩ : ∃ e, d = e + 1 := ⟨d - 1, by omega⟩
  have htb : am_tab 145 = at_145 := rfl
  refine ⟨Nat.le_of_ble_eq_true rfl, ?_⟩
  unfold fn_X9_fedBy at h
  show am_Go d 145 (0, [some (.inr (.inr (some (9, 0)))), some (.inl a1)], [], am_mk m) _ _ 0 0
  refine am_Go.n htb 1 (S' := (1, [some (.inr (.inr (some (9, 0)))), some (.inl a1)], [.inl a1], am_mk m)) rfl ?_
  by_cases hc1 : a1 < 0
  · rw [if_pos hc1] at h
    refine am_Go.c1 htb (S' := (10, [some (.inr (.inr (some (9, 0)))), some (.inl a1)], [], am_mk m)) (if_pos hc1) ?_
    refine am_Go.n htb 1 (S' := (11, [some (.inr (.inr (some (9, 0)))), some (.inl a1)], [.inl (-1)], am_mk m)) rfl ?_
    cases h
    exact am_Go.rt htb rfl
  · rw [if_neg hc1] at h
    refine am_Go.c1 htb (S' := (4, [some (.inr (.inr (some (9, 0)))), some (.inl a1)], [], am_mk m)) (if_neg hc1) ?_
    refine am_Go.n htb 2 (S' := (7, [some (.inr (.inr (some (9, 0)))), some (.inl a1)], [.inl 10, .inl a1], am_mk m)) rfl ?_
    by_cases hc2 : a1 ≤ (10 : Int32)
    · rw [if_pos hc2] at h
      refine am_Go.c1 htb (S' := (12, [some (.inr (.inr (some (9, 0)))), some (.inl a1)], [], am_mk m)) (if_pos hc2) ?_
      refine am_Go.n htb 1 (S' := (13, [some (.inr (.inr (some (9, 0)))), some (.inl a1)], [.inr (.inr (some (9, 0)))], am_mk m)) rfl ?_
      obtain ⟨r3, h4, h⟩ := am_bd h
      refine am_Go.cl htb rfl (ex_X9_lookLive d (by omega)  m r3 h4) ?_
      show am_Go d 145 (16, [some (.inr (.inr (some (9, 0)))), some (.inl a1)], [], am_mk r3) _ _ _ _
      refine am_Go.n htb 5 (S' := (25, [some (.inr (.inr (some (9, 0)))), some (.inl a1)], [.inl a1, .inr (.inr (some (8, 0))), .inr (.inr (some (6, 0)))], am_mk r3)) rfl ?_
      obtain ⟨r5, h6, h⟩ := am_bd h
      refine am_Go.cl htb rfl (ex_X8_fedBelow d (by omega) 0 a1 r3 r5 h6) ?_
      show am_Go d 145 (28, [some (.inr (.inr (some (9, 0)))), some (.inl a1)], [.inl r5, .inr (.inr (some (6, 0)))], am_mk r3) _ _ _ _
      obtain ⟨r7, h8, h⟩ := am_bd h
      refine am_Go.cl htb rfl (ex_X6_fewestFeeding d (by omega) r5 r3 r7 h8) ?_
      show am_Go d 145 (31, [some (.inr (.inr (some (9, 0)))), some (.inl a1)], [.inl r7.1], am_mk r7.2) _ _ _ _
      cases h
      exact am_Go.rt htb rfl
    · rw [if_neg hc2] at h
      refine am_Go.c1 htb (S' := (10, [some (.inr (.inr (some (9, 0)))), some (.inl a1)], [], am_mk m)) (if_neg hc2) ?_
      refine am_Go.n htb 1 (S' := (11, [some (.inr (.inr (some (9, 0)))), some (.inl a1)], [.inl (-1)], am_mk m)) rfl ?_
      cases h
      exact am_Go.rt htb rfl
-- X9_seatGuest
set_option maxRecDepth 100000 in
theorem lt_X9_seatGuest_3 (d : Nat) (hd : 1 ≤ d + 1) {r : Option am_V} {M' : am_M} {kc ks : Nat} {n : Nat} {x1 : Int32} {x2 : Int32} {m : am_m} {t : am_m} (h : lp_X9_seatGuest_3 n x1 x2 m = some t) (hk : am_Go d 167 (65, [some (.inr (.inr (some (9, 0)))), some (.inl x1), none, none, none, none, none], [], am_mk t) r M' kc ks) : am_Go d 167 (3, [some (.inr (.inr (some (9, 0)))), some (.inl x1), some (.inl x2), none, none, none, none], [], am_mk m) r M' kc ks := by
  have htb : am_tab 167 = at_167 := rfl
  induction n generalizing x2 m with
  | zero => cases h
  | succ n ih =>
    unfold lp_X9_seatGuest_3 at h
    refine am_Go.n htb 1 (S' := (4, [some (.inr (.inr (some (9, 0)))), some (.inl x1), some (.inl x2), none, none, none, none], [.inl x2], am_mk m)) rfl ?_
    by_cases hc1 : x2 < 0
    · rw [if_pos hc1] at h
      refine am_Go.c1 htb (S' := (65, [some (.inr (.inr (some (9, 0)))), some (.inl x1), some (.inl x2), none, none, none, none], [], am_mk m)) (if_pos hc1) ?_
      cases h
      exact am_Go.fg (by exact ⟨rfl, ⟨rfl, trivial⟩⟩) hk
    · rw [if_neg hc1] at h
      refine am_Go.c1 htb (S' := (7, [some (.inr (.inr (some (9, 0)))), some (.inl x1), some (.inl x2), none, none, none, none], [], am_mk m)) (if_neg hc1) ?_
      refine am_Go.n htb 3 (S' := (12, [some (.inr (.inr (some (9, 0)))), some (.inl x1), some (.inl x2), none, none, none, none], [.inl x2, .inr (.inr (some (81, 0)))], am_mk m)) rfl ?_
      obtain ⟨hg2, h⟩ := am_ck_some h
      refine am_Go.c1 htb (S' := (13, [some (.inr (.inr (some (9, 0)))), some (.inl x1), some (.inl x2), none, none, none, none], [.inr (.inl (m.2.1 81 0 x2.toNatClampNeg))], am_mk m)) (if_neg hg2) ?_
      refine am_Go.n htb 6 (S' := (22, [some (.inr (.inr (some (9, 0)))), some (.inl x1), some (.inl x2), none, none, none, none], [.inr (.inl 10), .inr (.inl ((m.2.1 81 0 x2.toNatClampNeg) * (((10 : Int32) - x1).toInt64)))], am_mk m)) rfl ?_
      refine am_Go.c1 htb (S' := (23, [some (.inr (.inr (some (9, 0)))), some (.inl x1), some (.inl x2), none, none, none, none], [.inr (.inl (((m.2.1 81 0 x2.toNatClampNeg) * (((10 : Int32) - x1).toInt64)) / (10 : Int64)))], am_mk m)) rfl ?_
      refine am_Go.n htb 2 (S' := (25, [some (.inr (.inr (some (9, 0)))), some (.inl x1), some (.inl x2), some (.inr (.inl (((m.2.1 81 0 x2.toNatClampNeg) * (((10 : Int32) - x1).toInt64)) / (10 : Int64)))), none, none, none], [.inl x2], am_mk m)) rfl ?_
      obtain ⟨q5, h7, h⟩ := am_bd h
      refine am_Go.cut (S := (47, [some (.inr (.inr (some (9, 0)))), some (.inl x1), some (.inl x2), some (.inr (.inl (((m.2.1 81 0 x2.toNatClampNeg) * (((10 : Int32) - x1).toInt64)) / (10 : Int64)))), none, none, none], [.inr (.inl q5)], am_mk m)) ?_ (fun key => ?_)
      · refine am_Go.n htb 7 (S' := (58, [some (.inr (.inr (some (9, 0)))), some (.inl x1), some (.inl x2), some (.inr (.inl (((m.2.1 81 0 x2.toNatClampNeg) * (((10 : Int32) - x1).toInt64)) / (10 : Int64)))), none, some (.inr (.inl q5)), none], [.inr (.inl ((((m.2.1 81 0 x2.toNatClampNeg) * (((10 : Int32) - x1).toInt64)) / (10 : Int64)) + q5)), .inl x2, .inr (.inr (some (81, 0)))], am_mk m)) rfl ?_
        obtain ⟨hg6, h⟩ := am_ck_some h
        refine am_Go.c1 htb (S' := (59, [some (.inr (.inr (some (9, 0)))), some (.inl x1), some (.inl x2), some (.inr (.inl (((m.2.1 81 0 x2.toNatClampNeg) * (((10 : Int32) - x1).toInt64)) / (10 : Int64)))), none, some (.inr (.inl q5)), none], [], am_mk (am_sg m 81 0 x2.toNatClampNeg ((((m.2.1 81 0 x2.toNatClampNeg) * (((10 : Int32) - x1).toInt64)) / (10 : Int64)) + q5)))) (if_neg hg6) ?_
        refine am_Go.o htb (am_o_inc 2 (-1)) rfl (S' := (62, [some (.inr (.inr (some (9, 0)))), some (.inl x1), some (.inl (x2 - 1)), some (.inr (.inl (((m.2.1 81 0 x2.toNatClampNeg) * (((10 : Int32) - x1).toInt64)) / (10 : Int64)))), none, some (.inr (.inl q5)), none], [], am_mk (am_sg m 81 0 x2.toNatClampNeg ((((m.2.1 81 0 x2.toNatClampNeg) * (((10 : Int32) - x1).toInt64)) / (10 : Int64)) + q5)))) (am_incn rfl rfl) ?_
        refine am_Go.n htb 1 (S' := (3, [some (.inr (.inr (some (9, 0)))), some (.inl x1), some (.inl (x2 - 1)), some (.inr (.inl (((m.2.1 81 0 x2.toNatClampNeg) * (((10 : Int32) - x1).toInt64)) / (10 : Int64)))), none, some (.inr (.inl q5)), none], [], am_mk (am_sg m 81 0 x2.toNatClampNeg ((((m.2.1 81 0 x2.toNatClampNeg) * (((10 : Int32) - x1).toInt64)) / (10 : Int64)) + q5)))) rfl ?_
        refine am_Go.fg (L0 := [some (.inr (.inr (some (9, 0)))), some (.inl x1), some (.inl (x2 - 1)), none, none, none, none]) (by exact ⟨rfl, ⟨rfl, ⟨rfl, trivial⟩⟩⟩) ?_
        first | exact ih h | exact ih h hk
      · have h := h7
        by_cases hc3 : x2 ≤ 0
        · rw [if_pos hc3] at h
          refine am_Go.c1 htb (S' := (46, [some (.inr (.inr (some (9, 0)))), some (.inl x1), some (.inl x2), some (.inr (.inl (((m.2.1 81 0 x2.toNatClampNeg) * (((10 : Int32) - x1).toInt64)) / (10 : Int64)))), none, none, none], [], am_mk m)) (if_pos hc3) ?_
          refine am_Go.n htb 1 (S' := (47, [some (.inr (.inr (some (9, 0)))), some (.inl x1), some (.inl x2), some (.inr (.inl (((m.2.1 81 0 x2.toNatClampNeg) * (((10 : Int32) - x1).toInt64)) / (10 : Int64)))), none, none, none], [.inr (.inl 0)], am_mk m)) rfl ?_
          cases h
          exact am_Go.fg (by exact ⟨rfl, ⟨rfl, ⟨rfl, ⟨rfl, trivial⟩⟩⟩⟩) key
        · rw [if_neg hc3] at h
          refine am_Go.c1 htb (S' := (28, [some (.inr (.inr (some (9, 0)))), some (.inl x1), some (.inl x2), some (.inr (.inl (((m.2.1 81 0 x2.toNatClampNeg) * (((10 : Int32) - x1).toInt64)) / (10 : Int64)))), none, none, none], [], am_mk m)) (if_neg hc3) ?_
          refine am_Go.n htb 5 (S' := (35, [some (.inr (.inr (some (9, 0)))), some (.inl x1), some (.inl x2), some (.inr (.inl (((m.2.1 81 0 x2.toNatClampNeg) * (((10 : Int32) - x1).toInt64)) / (10 : Int64)))), none, none, none], [.inl (x2 - (1 : Int32)), .inr (.inr (some (81, 0)))], am_mk m)) rfl ?_
          obtain ⟨hg4, h⟩ := am_ck_some h
          refine am_Go.c1 htb (S' := (36, [some (.inr (.inr (some (9, 0)))), some (.inl x1), some (.inl x2), some (.inr (.inl (((m.2.1 81 0 x2.toNatClampNeg) * (((10 : Int32) - x1).toInt64)) / (10 : Int64)))), none, none, none], [.inr (.inl (m.2.1 81 0 (x2 - (1 : Int32)).toNatClampNeg))], am_mk m)) (if_neg hg4) ?_
          refine am_Go.n htb 4 (S' := (42, [some (.inr (.inr (some (9, 0)))), some (.inl x1), some (.inl x2), some (.inr (.inl (((m.2.1 81 0 x2.toNatClampNeg) * (((10 : Int32) - x1).toInt64)) / (10 : Int64)))), none, none, none], [.inr (.inl 10), .inr (.inl ((m.2.1 81 0 (x2 - (1 : Int32)).toNatClampNeg) * x1.toInt64))], am_mk m)) rfl ?_
          refine am_Go.c1 htb (S' := (43, [some (.inr (.inr (some (9, 0)))), some (.inl x1), some (.inl x2), some (.inr (.inl (((m.2.1 81 0 x2.toNatClampNeg) * (((10 : Int32) - x1).toInt64)) / (10 : Int64)))), none, none, none], [.inr (.inl (((m.2.1 81 0 (x2 - (1 : Int32)).toNatClampNeg) * x1.toInt64) / (10 : Int64)))], am_mk m)) rfl ?_
          refine am_Go.n htb 1 (S' := (47, [some (.inr (.inr (some (9, 0)))), some (.inl x1), some (.inl x2), some (.inr (.inl (((m.2.1 81 0 x2.toNatClampNeg) * (((10 : Int32) - x1).toInt64)) / (10 : Int64)))), none, none, none], [.inr (.inl (((m.2.1 81 0 (x2 - (1 : Int32)).toNatClampNeg) * x1.toInt64) / (10 : Int64)))], am_mk m)) rfl ?_
          cases h
          exact am_Go.fg (by exact ⟨rfl, ⟨rfl, ⟨rfl, ⟨rfl, trivial⟩⟩⟩⟩) key
set_option maxRecDepth 100000 in
theorem ex_X9_seatGuest (d : Nat) (hd : 1 ≤ d) (a1 : Int32) (m : am_m) (t : am_m) (h : fn_X9_seatGuest a1 m = some t) : am_Ex am_cod d 167 [.inr (.inr (some (9, 0))), .inl a1] (am_mk m) (none) (am_mk t) 0 0 := by
  obtain ⟨d, rfl⟩ : ∃ e, d = e + 1 := ⟨d - 1, by omega⟩
  have htb : am_tab 167 = at_167 := rfl
  refine ⟨Nat.le_of_ble_eq_true rfl, ?_⟩
  unfold fn_X9_seatGuest at h
  show am_Go d 167 (0, [some (.inr (.inr (some (9, 0)))), some (.inl a1), none, none, none, none, none], [], am_mk m) _ _ 0 0
  refine am_Go.n htb 2 (S' := (3, [some (.inr (.inr (some (9, 0)))), some (.inl a1), some (.inl 19), none, none, none, none], [], am_mk m)) rfl ?_
  obtain ⟨q8, h9, h⟩ := am_bd h
  refine lt_X9_seatGuest_3 _ hd (h := h9) (hk := ?_)
  cases h
  exact am_Go.rt htb rfl
-- X9_few
set_option maxRecDepth 100000 in
theorem lt_X9_few_27 (d : Nat) (hd : 2 ≤ d + 1) {r : Option am_V} {M' : am_M} {kc ks : Nat} {n : Nat} {x1 : Int32} {x2 : Int32} {x3 : Int32} {m : am_m} {t : am_m} (h : lp_X9_few_27 n x1 x2 x3 m = some t) (hk : am_Go d 146 (46, [some (.inr (.inr (some (9, 0)))), some (.inl x1), some (.inl x2), none, none, none], [], am_mk t) r M' kc ks) : am_Go d 146 (27, [some (.inr (.inr (some (9, 0)))), some (.inl x1), some (.inl x2), some (.inl x3), none, none], [], am_mk m) r M' kc ks := by
  have htb : am_tab 146 = at_146 := rfl
  induction n generalizing x3 m with
  | zero => cases h
  | succ n ih =>
    unfold lp_X9_few_27 at h
    refine am_Go.n htb 2 (S' := (30, [some (.inr (.inr (some (9, 0)))), some (.inl x1), some (.inl x2), some (.inl x3), none, none], [.inl 20, .inl x3], am_mk m)) rfl ?_
    by_cases hc5 : (20 : Int32) ≤ x3
    · rw [if_pos hc5] at h
      refine am_Go.c1 htb (S' := (46, [some (.inr (.inr (some (9, 0)))), some (.inl x1), some (.inl x2), some (.inl x3), none, none], [], am_mk m)) (if_pos hc5) ?_
      cases h
      exact am_Go.fg (by exact ⟨rfl, ⟨rfl, ⟨rfl, trivial⟩⟩⟩) hk
    · rw [if_neg hc5] at h
      refine am_Go.c1 htb (S' := (33, [some (.inr (.inr (some (9, 0)))), some (.inl x1), some (.inl x2), some (.inl x3), none, none], [], am_mk m)) (if_neg hc5) ?_
      refine am_Go.n htb 4 (S' := (39, [some (.inr (.inr (some (9, 0)))), some (.inl x1), some (.inl x2), some (.inl x3), none, none], [.inr (.inl 0), .inl x3, .inr (.inr (some (81, 0)))], am_mk m)) rfl ?_
      obtain ⟨hg6, h⟩ := am_ck_some h
      refine am_Go.c1 htb (S' := (40, [some (.inr (.inr (some (9, 0)))), some (.inl x1), some (.inl x2), some (.inl x3), none, none], [], am_mk (am_sg m 81 0 x3.toNatClampNeg 0))) (if_neg hg6) ?_
      refine am_Go.n htb 2 (S' := (27, [some (.inr (.inr (some (9, 0)))), some (.inl x1), some (.inl x2), some (.inl (x3 + 1)), none, none], [], am_mk (am_sg m 81 0 x3.toNatClampNeg 0))) rfl ?_
      first | exact ih h | exact ih h hk
set_option maxRecDepth 100000 in
theorem lt_X9_few_57 (d : Nat) (hd : 2 ≤ d + 1) {r : Option am_V} {M' : am_M} {kc ks : Nat} {n : Nat} {x1 : Int32} {x2 : Int32} {x3 : Int32} {m : am_m} {t : am_m} (h : lp_X9_few_57 n x1 x2 x3 m = some t) (hk : am_Go d 146 (81, [some (.inr (.inr (some (9, 0)))), some (.inl x1), some (.inl x2), none, none, none], [], am_mk t) r M' kc ks) : am_Go d 146 (57, [some (.inr (.inr (some (9, 0)))), some (.inl x1), some (.inl x2), some (.inl x3), none, none], [], am_mk m) r M' kc ks := by
  have htb : am_tab 146 = at_146 := rfl
  induction n generalizing x3 m with
  | zero => cases h
  | succ n ih =>
    unfold lp_X9_few_57 at h
    refine am_Go.n htb 2 (S' := (59, [some (.inr (.inr (some (9, 0)))), some (.inl x1), some (.inl x2), some (.inl x3), none, none], [.inl x2, .inl x3], am_mk m)) rfl ?_
    by_cases hc9 : x2 ≤ x3
    · rw [if_pos hc9] at h
      refine am_Go.c1 htb (S' := (81, [some (.inr (.inr (some (9, 0)))), some (.inl x1), some (.inl x2), some (.inl x3), none, none], [], am_mk m)) (if_pos hc9) ?_
      cases h
      exact am_Go.fg (by exact ⟨rfl, ⟨rfl, ⟨rfl, trivial⟩⟩⟩) hk
    · rw [if_neg hc9] at h
      refine am_Go.c1 htb (S' := (62, [some (.inr (.inr (some (9, 0)))), some (.inl x1), some (.inl x2), some (.inl x3), none, none], [], am_mk m)) (if_neg hc9) ?_
      refine am_Go.n htb 6 (S' := (72, [some (.inr (.inr (some (9, 0)))), some (.inl x1), some (.inl x2), some (.inl x3), none, none], [.inl (m.1 39 0 1), .inr (.inr (some (9, 0)))], am_mk m)) rfl ?_
      obtain ⟨r10, h11, h⟩ := am_bd h
      refine am_Go.cl htb rfl (ex_X9_seatGuest d (by omega) (m.1 39 0 1) m r10 h11) ?_
      show am_Go d 146 (75, [some (.inr (.inr (some (9, 0)))), some (.inl x1), some (.inl x2), some (.inl x3), none, none], [], am_mk r10) _ _ _ _
      refine am_Go.n htb 2 (S' := (57, [some (.inr (.inr (some (9, 0)))), some (.inl x1), some (.inl x2), some (.inl (x3 + 1)), none, none], [], am_mk r10)) rfl ?_
      first | exact ih h | exact ih h hk
set_option maxRecDepth 100000 in
theorem lt_X9_few_86 (d : Nat) (hd : 2 ≤ d + 1) {r : Option am_V} {M' : am_M} {kc ks : Nat} {n : Nat} {x1 : Int32} {x3 : Int64} {x5 : Int32} {m : am_m} {t : Int64} (h : lp_X9_few_86 n x1 x3 x5 m = some t) (hk : am_Go d 146 (108, [some (.inr (.inr (some (9, 0)))), some (.inl x1), none, some (.inr (.inl t)), none, none], [], am_mk m) r M' kc ks) : am_Go d 146 (86, [some (.inr (.inr (some (9, 0)))), some (.inl x1), none, some (.inr (.inl x3)), none, some (.inl x5)], [], am_mk m) r M' kc ks := by
  have htb : am_tab 146 = at_146 := rfl
  induction n generalizing x3 x5 with
  | zero => cases h
  | succ n ih =>
    unfold lp_X9_few_86 at h
    refine am_Go.n htb 2 (S' := (89, [some (.inr (.inr (some (9, 0)))), some (.inl x1), none, some (.inr (.inl x3)), none, some (.inl x5)], [.inl x1, .inl x5], am_mk m)) rfl ?_
    by_cases hc14 : x1 ≤ x5
    · rw [if_pos hc14] at h
      refine am_Go.c1 htb (S' := (108, [some (.inr (.inr (some (9, 0)))), some (.inl x1), none, some (.inr (.inl x3)), none, some (.inl x5)], [], am_mk m)) (if_pos hc14) ?_
      cases h
      exact am_Go.fg (by exact ⟨rfl, ⟨rfl, ⟨rfl, trivial⟩⟩⟩) hk
    · rw [if_neg hc14] at h
      refine am_Go.c1 htb (S' := (92, [some (.inr (.inr (some (9, 0)))), some (.inl x1), none, some (.inr (.inl x3)), none, some (.inl x5)], [], am_mk m)) (if_neg hc14) ?_
      refine am_Go.n htb 4 (S' := (99, [some (.inr (.inr (some (9, 0)))), some (.inl x1), none, some (.inr (.inl x3)), none, some (.inl x5)], [.inl x5, .inr (.inr (some (81, 0))), .inr (.inl x3)], am_mk m)) rfl ?_
      obtain ⟨hg15, h⟩ := am_ck_some h
      refine am_Go.c1 htb (S' := (100, [some (.inr (.inr (some (9, 0)))), some (.inl x1), none, some (.inr (.inl x3)), none, some (.inl x5)], [.inr (.inl (m.2.1 81 0 x5.toNatClampNeg)), .inr (.inl x3)], am_mk m)) (if_neg hg15) ?_
      refine am_Go.n htb 4 (S' := (86, [some (.inr (.inr (some (9, 0)))), some (.inl x1), none, some (.inr (.inl (x3 + (m.2.1 81 0 x5.toNatClampNeg)))), none, some (.inl (x5 + 1))], [], am_mk m)) rfl ?_
      first | exact ih h | exact ih h hk
set_option maxRecDepth 100000 in
theorem ex_X9_few (d : Nat) (hd : 2 ≤ d) (a1 : Int32) (a2 : Int32) (m : am_m) (t : Int64 × am_m) (h : fn_X9_few a1 a2 m = some t) : am_Ex am_cod d 146 [.inr (.inr (some (9, 0))), .inl a1, .inl a2] (am_mk m) (some (.inr (.inl t.1))) (am_mk t.2) 0 0 := by
  obtain ⟨d, rfl⟩ : ∃ e, d = e + 1 := ⟨d - 1, by omega⟩
  have htb : am_tab 146 = at_146 := rfl
  refine ⟨Nat.le_of_ble_eq_true rfl, ?_⟩
  unfold fn_X9_few at h
  show am_Go d 146 (0, [some (.inr (.inr (some (9, 0)))), some (.inl a1), some (.inl a2), none, none, none], [], am_mk m) _ _ 0 0
  refine am_Go.n htb 2 (S' := (2, [some (.inr (.inr (some (9, 0)))), some (.inl a1), some (.inl a2), none, none, none], [.inl 1, .inl a1], am_mk m)) rfl ?_
  by_cases hc1 : a1 < (1 : Int32)
  · rw [if_pos hc1] at h
    refine am_Go.c1 htb (S' := (21, [some (.inr (.inr (some (9, 0)))), some (.inl a1), some (.inl a2), none, none, none], [], am_mk m)) (if_pos hc1) ?_
    refine am_Go.n htb 1 (S' := (24, [some (.inr (.inr (some (9, 0)))), some (.inl a1), some (.inl a2), none, none, none], [.inr (.inl (-1))], am_mk m)) rfl ?_
    cases h
    exact am_Go.rt htb rfl
  · rw [if_neg hc1] at h
    refine am_Go.c1 htb (S' := (5, [some (.inr (.inr (some (9, 0)))), some (.inl a1), some (.inl a2), none, none, none], [], am_mk m)) (if_neg hc1) ?_
    refine am_Go.n htb 2 (S' := (8, [some (.inr (.inr (some (9, 0)))), some (.inl a1), some (.inl a2), none, none, none], [.inl 20, .inl a1], am_mk m)) rfl ?_
    by_cases hc2 : (20 : Int32) < a1
    · rw [if_pos hc2] at h
      refine am_Go.c1 htb (S' := (21, [some (.inr (.inr (some (9, 0)))), some (.inl a1), some (.inl a2), none, none, none], [], am_mk m)) (if_pos hc2) ?_
      refine am_Go.n htb 1 (S' := (24, [some (.inr (.inr (some (9, 0)))), some (.inl a1), some (.inl a2), none, none, none], [.inr (.inl (-1))], am_mk m)) rfl ?_
      cases h
      exact am_Go.rt htb rfl
    · rw [if_neg hc2] at h
      refine am_Go.c1 htb (S' := (11, [some (.inr (.inr (some (9, 0)))), some (.inl a1), some (.inl a2), none, none, none], [], am_mk m)) (if_neg hc2) ?_
      refine am_Go.n htb 1 (S' := (12, [some (.inr (.inr (some (9, 0)))), some (.inl a1), some (.inl a2), none, none, none], [.inl a2], am_mk m)) rfl ?_
      by_cases hc3 : a2 < 0
      · rw [if_pos hc3] at h
        refine am_Go.c1 htb (S' := (21, [some (.inr (.inr (some (9, 0)))), some (.inl a1), some (.inl a2), none, none, none], [], am_mk m)) (if_pos hc3) ?_
        refine am_Go.n htb 1 (S' := (24, [some (.inr (.inr (some (9, 0)))), some (.inl a1), some (.inl a2), none, none, none], [.inr (.inl (-1))], am_mk m)) rfl ?_
        cases h
        exact am_Go.rt htb rfl
      · rw [if_neg hc3] at h
        refine am_Go.c1 htb (S' := (15, [some (.inr (.inr (some (9, 0)))), some (.inl a1), some (.inl a2), none, none, none], [], am_mk m)) (if_neg hc3) ?_
        refine am_Go.n htb 2 (S' := (18, [some (.inr (.inr (some (9, 0)))), some (.inl a1), some (.inl a2), none, none, none], [.inl 99, .inl a2], am_mk m)) rfl ?_
        by_cases hc4 : a2 ≤ (99 : Int32)
        · rw [if_pos hc4] at h
          refine am_Go.c1 htb (S' := (25, [some (.inr (.inr (some (9, 0)))), some (.inl a1), some (.inl a2), none, none, none], [], am_mk m)) (if_pos hc4) ?_
          refine am_Go.n htb 2 (S' := (27, [some (.inr (.inr (some (9, 0)))), some (.inl a1), some (.inl a2), some (.inl 0), none, none], [], am_mk m)) rfl ?_
          obtain ⟨q7, h8, h⟩ := am_bd h
          refine lt_X9_few_27 _ hd (h := h8) (hk := ?_)
          refine am_Go.n htb 7 (S' := (57, [some (.inr (.inr (some (9, 0)))), some (.inl a1), some (.inl a2), some (.inl 0), none, none], [], am_mk (am_sg q7 81 0 0 1000000000000))) rfl ?_
          obtain ⟨q12, h13, h⟩ := am_bd h
          refine lt_X9_few_57 _ hd (h := h13) (hk := ?_)
          refine am_Go.n htb 4 (S' := (86, [some (.inr (.inr (some (9, 0)))), some (.inl a1), some (.inl a2), some (.inr (.inl 0)), none, some (.inl 0)], [], am_mk q12)) rfl ?_
          refine am_Go.fg (L0 := [some (.inr (.inr (some (9, 0)))), some (.inl a1), none, some (.inr (.inl 0)), none, some (.inl 0)]) (by exact ⟨rfl, ⟨rfl, ⟨rfl, ⟨rfl, trivial⟩⟩⟩⟩) ?_
          obtain ⟨q16, h17, h⟩ := am_bd h
          refine lt_X9_few_86 _ hd (h := h17) (hk := ?_)
          refine am_Go.n htb 1 (S' := (109, [some (.inr (.inr (some (9, 0)))), some (.inl a1), none, some (.inr (.inl q16)), none, none], [.inr (.inl q16)], am_mk q12)) rfl ?_
          cases h
          exact am_Go.rt htb rfl
        · rw [if_neg hc4] at h
          refine am_Go.c1 htb (S' := (21, [some (.inr (.inr (some (9, 0)))), some (.inl a1), some (.inl a2), none, none, none], [], am_mk m)) (if_neg hc4) ?_
          refine am_Go.n htb 1 (S' := (24, [some (.inr (.inr (some (9, 0)))), some (.inl a1), some (.inl a2), none, none, none], [.inr (.inl (-1))], am_mk m)) rfl ?_
          cases h
          exact am_Go.rt htb rfl
