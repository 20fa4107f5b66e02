-- X4_readPart
set_option maxRecDepth 100000 in
theorem ex_X4_readPart (d : Nat) (hd : 4 ≤ d) (rc : am_rc) (hrc : am_rcok rc (d - 1)) (a1 : Int32) (m : am_m) (t : Int32 × am_m) (h : fn_X4_readPart rc a1 m = some t) : am_Ex am_cod d 55 [.inr (.inr (some (4, 0))), .inl a1] (am_mk m) (some (.inl t.1)) (am_mk t.2) 0 0 := by
  obtain ⟨d, rfl⟩ : ∃ e, d = e + 1 := ⟨d - 1, by omega⟩
  have htb : am_tab 55 = at_55 := rfl
  refine ⟨Nat.le_of_ble_eq_true rfl, ?_⟩
  unfold fn_X4_readPart at h
  show am_Go d 55 (0, [some (.inr (.inr (some (4, 0)))), some (.inl a1)], [], am_mk m) _ _ 0 0
  refine am_Go.n htb 3 (S' := (6, [some (.inr (.inr (some (4, 0)))), some (.inl a1)], [.inl 91, .inl (m.1 4 0 6)], am_mk m)) rfl ?_
  by_cases hc1 : (m.1 4 0 6) ≠ (91 : Int32)
  · rw [if_pos hc1] at h
    refine am_Go.c1 htb (S' := (55, [some (.inr (.inr (some (4, 0)))), some (.inl a1)], [], am_mk m)) (if_pos hc1) ?_
    refine am_Go.n htb 3 (S' := (61, [some (.inr (.inr (some (4, 0)))), some (.inl a1)], [.inl 50, .inl (m.1 4 0 8)], am_mk m)) rfl ?_
    by_cases hc2 : (m.1 4 0 8) < (50 : Int32)
    · rw [if_pos hc2] at h
      refine am_Go.c1 htb (S' := (69, [some (.inr (.inr (some (4, 0)))), some (.inl a1)], [], am_mk m)) (if_pos hc2) ?_
      refine am_Go.n htb 9 (S' := (86, [some (.inr (.inr (some (4, 0)))), some (.inl a1)], [.inl 256, .inl (m.1 4 0 6)], am_mk (am_si m 4 0 8 ((m.1 4 0 8) + (1 : Int32))))) rfl ?_
      by_cases hc3 : (m.1 4 0 6) = (256 : Int32)
      · rw [if_pos hc3] at h
        refine am_Go.c1 htb (S' := (108, [some (.inr (.inr (some (4, 0)))), some (.inl a1)], [], am_mk (am_si m 4 0 8 ((m.1 4 0 8) + (1 : Int32))))) (if_pos hc3) ?_
        refine am_Go.n htb 3 (S' := (115, [some (.inr (.inr (some (4, 0)))), some (.inl a1)], [.inl 1000, .inl (m.1 4 0 7)], am_mk (am_si m 4 0 8 ((m.1 4 0 8) + (1 : Int32))))) rfl ?_
        by_cases hc4 : (m.1 4 0 7) ≤ (1000 : Int32)
        · rw [if_pos hc4] at h
          refine am_Go.c1 htb (S' := (123, [some (.inr (.inr (some (4, 0)))), some (.inl a1)], [], am_mk (am_si m 4 0 8 ((m.1 4 0 8) + (1 : Int32))))) (if_pos hc4) ?_
          refine am_Go.n htb 5 (S' := (134, [some (.inr (.inr (some (4, 0)))), some (.inl a1)], [.inl (m.1 4 0 7), .inl 256, .inr (.inr (some (5, 0)))], am_mk (am_si m 4 0 8 ((m.1 4 0 8) + (1 : Int32))))) rfl ?_
          obtain ⟨r5, h6, h⟩ := am_bd h
          refine am_Go.cl htb rfl (ex_X5_put d (by omega) 0 256 (m.1 4 0 7) (am_si m 4 0 8 ((m.1 4 0 8) + (1 : Int32))) r5 h6) ?_
          show am_Go d 55 (137, [some (.inr (.inr (some (4, 0)))), some (.inl a1)], [], am_mk r5) _ _ _ _
          refine am_Go.n htb 5 (S' := (144, [some (.inr (.inr (some (4, 0)))), some (.inl a1)], [.inl ((r5.1 4 0 5) + (1 : Int32)), .inr (.inr (some (4, 0)))], am_mk r5)) rfl ?_
          obtain ⟨r7, h8, h⟩ := am_bd h
          refine am_Go.cl htb rfl (ex_X4_goTo d (by omega) ((r5.1 4 0 5) + (1 : Int32)) r5 r7 h8) ?_
          show am_Go d 55 (147, [some (.inr (.inr (some (4, 0)))), some (.inl a1)], [], am_mk r7) _ _ _ _
          refine am_Go.n htb 1 (S' := (148, [some (.inr (.inr (some (4, 0)))), some (.inl a1)], [.inl 1], am_mk r7)) rfl ?_
          cases h
          exact am_Go.rt htb rfl
        · rw [if_neg hc4] at h
          refine am_Go.c1 htb (S' := (118, [some (.inr (.inr (some (4, 0)))), some (.inl a1)], [], am_mk (am_si m 4 0 8 ((m.1 4 0 8) + (1 : Int32))))) (if_neg hc4) ?_
          refine am_Go.n htb 1 (S' := (119, [some (.inr (.inr (some (4, 0)))), some (.inl a1)], [.inr (.inr (some (4, 0)))], am_mk (am_si m 4 0 8 ((m.1 4 0 8) + (1 : Int32))))) rfl ?_
          obtain ⟨r9, h10, h⟩ := am_bd h
          refine am_Go.cl htb rfl (ex_X4_failed d (by omega)  (am_si m 4 0 8 ((m.1 4 0 8) + (1 : Int32))) r9 h10) ?_
          show am_Go d 55 (122, [some (.inr (.inr (some (4, 0)))), some (.inl a1)], [.inl r9.1], am_mk r9.2) _ _ _ _
          obtain ⟨hz11, h⟩ := am_gd_some h
          cases h
          exact am_Go.rt htb (if_pos hz11)
      · rw [if_neg hc3] at h
        refine am_Go.c1 htb (S' := (89, [some (.inr (.inr (some (4, 0)))), some (.inl a1)], [], am_mk (am_si m 4 0 8 ((m.1 4 0 8) + (1 : Int32))))) (if_neg hc3) ?_
        refine am_Go.n htb 2 (S' := (93, [some (.inr (.inr (some (4, 0)))), some (.inl a1)], [.inl (m.1 4 0 9)], am_mk (am_si m 4 0 8 ((m.1 4 0 8) + (1 : Int32))))) rfl ?_
        by_cases hc12 : (m.1 4 0 9) = 0
        · rw [if_pos hc12] at h
          refine am_Go.c1 htb (S' := (103, [some (.inr (.inr (some (4, 0)))), some (.inl a1)], [], am_mk (am_si m 4 0 8 ((m.1 4 0 8) + (1 : Int32))))) (if_pos hc12) ?_
          refine am_Go.n htb 1 (S' := (104, [some (.inr (.inr (some (4, 0)))), some (.inl a1)], [.inr (.inr (some (4, 0)))], am_mk (am_si m 4 0 8 ((m.1 4 0 8) + (1 : Int32))))) rfl ?_
          obtain ⟨r13, h14, h⟩ := am_bd h
          refine am_Go.cl htb rfl (ex_X4_readLawWord d (by omega)  (am_si m 4 0 8 ((m.1 4 0 8) + (1 : Int32))) r13 h14) ?_
          show am_Go d 55 (107, [some (.inr (.inr (some (4, 0)))), some (.inl a1)], [.inl r13.1], am_mk r13.2) _ _ _ _
          obtain ⟨hz15, h⟩ := am_gd_some h
          cases h
          exact am_Go.rt htb (if_pos hz15)
        · rw [if_neg hc12] at h
          refine am_Go.c1 htb (S' := (96, [some (.inr (.inr (some (4, 0)))), some (.inl a1)], [], am_mk (am_si m 4 0 8 ((m.1 4 0 8) + (1 : Int32))))) (if_neg hc12) ?_
          refine am_Go.n htb 1 (S' := (97, [some (.inr (.inr (some (4, 0)))), some (.inl a1)], [.inr (.inr (some (4, 0)))], am_mk (am_si m 4 0 8 ((m.1 4 0 8) + (1 : Int32))))) rfl ?_
          obtain ⟨r16, h17, h⟩ := am_bd h
          refine am_Go.cl htb rfl (ex_X4_readOrderWord d (by omega)  (am_si m 4 0 8 ((m.1 4 0 8) + (1 : Int32))) r16 h17) ?_
          show am_Go d 55 (100, [some (.inr (.inr (some (4, 0)))), some (.inl a1)], [.inl r16.1], am_mk r16.2) _ _ _ _
          refine am_Go.n htb 1 (S' := (107, [some (.inr (.inr (some (4, 0)))), some (.inl a1)], [.inl r16.1], am_mk r16.2)) rfl ?_
          obtain ⟨hz18, h⟩ := am_gd_some h
          cases h
          exact am_Go.rt htb (if_pos hz18)
    · rw [if_neg hc2] at h
      refine am_Go.c1 htb (S' := (64, [some (.inr (.inr (some (4, 0)))), some (.inl a1)], [], am_mk m)) (if_neg hc2) ?_
      refine am_Go.n htb 1 (S' := (65, [some (.inr (.inr (some (4, 0)))), some (.inl a1)], [.inr (.inr (some (4, 0)))], am_mk m)) rfl ?_
      obtain ⟨r19, h20, h⟩ := am_bd h
      refine am_Go.cl htb rfl (ex_X4_failed d (by omega)  m r19 h20) ?_
      show am_Go d 55 (68, [some (.inr (.inr (some (4, 0)))), some (.inl a1)], [.inl r19.1], am_mk r19.2) _ _ _ _
      obtain ⟨hz21, h⟩ := am_gd_some h
      cases h
      exact am_Go.rt htb (if_pos hz21)
  · rw [if_neg hc1] at h
    refine am_Go.c1 htb (S' := (9, [some (.inr (.inr (some (4, 0)))), some (.inl a1)], [], am_mk m)) (if_neg hc1) ?_
    refine am_Go.n htb 2 (S' := (12, [some (.inr (.inr (some (4, 0)))), some (.inl a1)], [.inl 8, .inl a1], am_mk m)) rfl ?_
    by_cases hc22 : a1 < (8 : Int32)
    · rw [if_pos hc22] at h
      refine am_Go.c1 htb (S' := (20, [some (.inr (.inr (some (4, 0)))), some (.inl a1)], [], am_mk m)) (if_pos hc22) ?_
      refine am_Go.n htb 5 (S' := (27, [some (.inr (.inr (some (4, 0)))), some (.inl a1)], [.inl ((m.1 4 0 5) + (1 : Int32)), .inr (.inr (some (4, 0)))], am_mk m)) rfl ?_
      obtain ⟨r23, h24, h⟩ := am_bd h
      refine am_Go.cl htb rfl (ex_X4_goTo d (by omega) ((m.1 4 0 5) + (1 : Int32)) m r23 h24) ?_
      show am_Go d 55 (30, [some (.inr (.inr (some (4, 0)))), some (.inl a1)], [], am_mk r23) _ _ _ _
      refine am_Go.n htb 4 (S' := (34, [some (.inr (.inr (some (4, 0)))), some (.inl a1)], [.inl (a1 + (1 : Int32)), .inr (.inr (some (4, 0)))], am_mk r23)) rfl ?_
      obtain ⟨r25, h26, h⟩ := am_bd h
      refine am_Go.cl htb rfl (hrc 4 _ _ _ h26) ?_
      show am_Go d 55 (37, [some (.inr (.inr (some (4, 0)))), some (.inl a1)], [.inl r25.1], am_mk r25.2) _ _ _ _
      by_cases hc27 : r25.1 = 0
      · rw [if_pos hc27] at h
        refine am_Go.c1 htb (S' := (53, [some (.inr (.inr (some (4, 0)))), some (.inl a1)], [], am_mk r25.2)) (if_pos hc27) ?_
        refine am_Go.n htb 1 (S' := (54, [some (.inr (.inr (some (4, 0)))), some (.inl a1)], [.inl 0], am_mk r25.2)) rfl ?_
        cases h
        exact am_Go.rt htb rfl
      · rw [if_neg hc27] at h
        refine am_Go.c1 htb (S' := (40, [some (.inr (.inr (some (4, 0)))), some (.inl a1)], [], am_mk r25.2)) (if_neg hc27) ?_
        refine am_Go.n htb 2 (S' := (43, [some (.inr (.inr (some (4, 0)))), some (.inl a1)], [.inl 93, .inr (.inr (some (4, 0)))], am_mk r25.2)) rfl ?_
        obtain ⟨r28, h29, h⟩ := am_bd h
        refine am_Go.cl htb rfl (ex_X4_took d (by omega) 93 r25.2 r28 h29) ?_
        show am_Go d 55 (46, [some (.inr (.inr (some (4, 0)))), some (.inl a1)], [.inl r28.1], am_mk r28.2) _ _ _ _
        by_cases hc30 : r28.1 = 0
        · rw [if_pos hc30] at h
          refine am_Go.c1 htb (S' := (53, [some (.inr (.inr (some (4, 0)))), some (.inl a1)], [], am_mk r28.2)) (if_pos hc30) ?_
          refine am_Go.n htb 1 (S' := (54, [some (.inr (.inr (some (4, 0)))), some (.inl a1)], [.inl 0], am_mk r28.2)) rfl ?_
          cases h
          exact am_Go.rt htb rfl
        · rw [if_neg hc30] at h
          refine am_Go.c1 htb (S' := (49, [some (.inr (.inr (some (4, 0)))), some (.inl a1)], [], am_mk r28.2)) (if_neg hc30) ?_
          refine am_Go.n htb 2 (S' := (54, [some (.inr (.inr (some (4, 0)))), some (.inl a1)], [.inl 1], am_mk r28.2)) rfl ?_
          cases h
          exact am_Go.rt htb rfl
    · rw [if_neg hc22] at h
      refine am_Go.c1 htb (S' := (15, [some (.inr (.inr (some (4, 0)))), some (.inl a1)], [], am_mk m)) (if_neg hc22) ?_
      refine am_Go.n htb 1 (S' := (16, [some (.inr (.inr (some (4, 0)))), some (.inl a1)], [.inr (.inr (some (4, 0)))], am_mk m)) rfl ?_
      obtain ⟨r31, h32, h⟩ := am_bd h
      refine am_Go.cl htb rfl (ex_X4_failed d (by omega)  m r31 h32) ?_
      show am_Go d 55 (19, [some (.inr (.inr (some (4, 0)))), some (.inl a1)], [.inl r31.1], am_mk r31.2) _ _ _ _
      obtain ⟨hz33, h⟩ := am_gd_some h
      cases h
      exact am_Go.rt htb (if_pos hz33)
-- X4_readTerm
set_option maxRecDepth 100000 in
theorem lt_X4_readTerm_12 (d : Nat) (hd : 4 ≤ d + 1) (rc : am_rc) (hrc : am_rcok rc d) {r : Option am_V} {M' : am_M} {kc ks : Nat} {n : Nat} {x1 : Int32} {x2 : Int32} {m : am_m} {t : Sum (am_m) (Int32 × am_m)} (h : lp_X4_readTerm_12 rc n x1 x2 m = some t) (hk : ∀ t', t = .inl t' → am_Go d 54 (86, [some (.inr (.inr (some (4, 0)))), some (.inl x1), none, none], [], am_mk t') r M' kc ks) (hr : ∀ t', t = .inr t' → r = some (.inl t'.1) ∧ M' = am_mk t'.2 ∧ kc = 0 ∧ ks = 0) : am_Go d 54 (12, [some (.inr (.inr (some (4, 0)))), some (.inl x1), some (.inl x2), none], [], am_mk m) r M' kc ks := by
  have htb : am_tab 54 = at_54 := rfl
  induction n generalizing x2 m with
  | zero => cases h
  | succ n ih =>
    unfold lp_X4_readTerm_12 at h
    refine am_Go.n htb 2 (S' := (16, [some (.inr (.inr (some (4, 0)))), some (.inl x1), some (.inl x2), none], [.inl 401, .inl x2], am_mk m)) rfl ?_
    by_cases hc4 : (401 : Int32) ≤ x2
    · rw [if_pos hc4] at h
      refine am_Go.c1 htb (S' := (86, [some (.inr (.inr (some (4, 0)))), some (.inl x1), some (.inl x2), none], [], am_mk m)) (if_pos hc4) ?_
      cases h
      exact am_Go.fg (by exact ⟨rfl, ⟨rfl, trivial⟩⟩) (hk _ rfl)
    · rw [if_neg hc4] at h
      refine am_Go.c1 htb (S' := (19, [some (.inr (.inr (some (4, 0)))), some (.inl x1), some (.inl x2), none], [], am_mk m)) (if_neg hc4) ?_
      refine am_Go.n htb 3 (S' := (25, [some (.inr (.inr (some (4, 0)))), some (.inl x1), some (.inl x2), none], [.inl 42, .inl (m.1 4 0 6)], am_mk m)) rfl ?_
      by_cases hc5 : (m.1 4 0 6) = (42 : Int32)
      · rw [if_pos hc5] at h
        refine am_Go.c1 htb (S' := (46, [some (.inr (.inr (some (4, 0)))), some (.inl x1), some (.inl x2), none], [], am_mk m)) (if_pos hc5) ?_
        refine am_Go.n htb 8 (S' := (58, [some (.inr (.inr (some (4, 0)))), some (.inl x1), some (.inl x2), some (.inl (m.1 4 0 6))], [.inl ((m.1 4 0 5) + (1 : Int32)), .inr (.inr (some (4, 0)))], am_mk m)) rfl ?_
        obtain ⟨r6, h7, h⟩ := am_bd h
        refine am_Go.cl htb rfl (ex_X4_goTo d (by omega) ((m.1 4 0 5) + (1 : Int32)) m r6 h7) ?_
        show am_Go d 54 (61, [some (.inr (.inr (some (4, 0)))), some (.inl x1), some (.inl x2), some (.inl (m.1 4 0 6))], [], am_mk r6) _ _ _ _
        refine am_Go.n htb 2 (S' := (63, [some (.inr (.inr (some (4, 0)))), some (.inl x1), some (.inl x2), some (.inl (m.1 4 0 6))], [.inl x1, .inr (.inr (some (4, 0)))], am_mk r6)) rfl ?_
        obtain ⟨r8, h9, h⟩ := am_bd h
        refine am_Go.cl htb rfl (hrc 6 _ _ _ h9) ?_
        show am_Go d 54 (66, [some (.inr (.inr (some (4, 0)))), some (.inl x1), some (.inl x2), some (.inl (m.1 4 0 6))], [.inl r8.1], am_mk r8.2) _ _ _ _
        by_cases hc10 : r8.1 ≠ 0
        · rw [if_pos hc10] at h
          refine am_Go.c1 htb (S' := (71, [some (.inr (.inr (some (4, 0)))), some (.inl x1), some (.inl x2), some (.inl (m.1 4 0 6))], [], am_mk r8.2)) (if_pos hc10) ?_
          refine am_Go.n htb 4 (S' := (77, [some (.inr (.inr (some (4, 0)))), some (.inl x1), some (.inl x2), some (.inl (m.1 4 0 6))], [.inl 0, .inl (m.1 4 0 6), .inr (.inr (some (5, 0)))], am_mk r8.2)) rfl ?_
          obtain ⟨r11, h12, h⟩ := am_bd h
          refine am_Go.cl htb rfl (ex_X5_put d (by omega) 0 (m.1 4 0 6) 0 r8.2 r11 h12) ?_
          show am_Go d 54 (80, [some (.inr (.inr (some (4, 0)))), some (.inl x1), some (.inl x2), some (.inl (m.1 4 0 6))], [], am_mk r11) _ _ _ _
          refine am_Go.n htb 2 (S' := (12, [some (.inr (.inr (some (4, 0)))), some (.inl x1), some (.inl (x2 + 1)), some (.inl (m.1 4 0 6))], [], am_mk r11)) rfl ?_
          refine am_Go.fg (L0 := [some (.inr (.inr (some (4, 0)))), some (.inl x1), some (.inl (x2 + 1)), none]) (by exact ⟨rfl, ⟨rfl, ⟨rfl, trivial⟩⟩⟩) ?_
          first | exact ih h | exact ih h hk | exact ih h hr | exact ih h hk hr
        · rw [if_neg hc10] at h
          refine am_Go.c1 htb (S' := (69, [some (.inr (.inr (some (4, 0)))), some (.inl x1), some (.inl x2), some (.inl (m.1 4 0 6))], [], am_mk r8.2)) (if_neg hc10) ?_
          refine am_Go.n htb 1 (S' := (70, [some (.inr (.inr (some (4, 0)))), some (.inl x1), some (.inl x2), some (.inl (m.1 4 0 6))], [.inl 0], am_mk r8.2)) rfl ?_
          cases h
          obtain ⟨rfl, rfl, rfl, rfl⟩ := hr _ rfl
          exact am_Go.rt htb rfl
      · rw [if_neg hc5] at h
        refine am_Go.c1 htb (S' := (28, [some (.inr (.inr (some (4, 0)))), some (.inl x1), some (.inl x2), none], [], am_mk m)) (if_neg hc5) ?_
        refine am_Go.n htb 3 (S' := (34, [some (.inr (.inr (some (4, 0)))), some (.inl x1), some (.inl x2), none], [.inl 47, .inl (m.1 4 0 6)], am_mk m)) rfl ?_
        by_cases hc13 : (m.1 4 0 6) = (47 : Int32)
        · rw [if_pos hc13] at h
          refine am_Go.c1 htb (S' := (46, [some (.inr (.inr (some (4, 0)))), some (.inl x1), some (.inl x2), none], [], am_mk m)) (if_pos hc13) ?_
          refine am_Go.n htb 8 (S' := (58, [some (.inr (.inr (some (4, 0)))), some (.inl x1), some (.inl x2), some (.inl (m.1 4 0 6))], [.inl ((m.1 4 0 5) + (1 : Int32)), .inr (.inr (some (4, 0)))], am_mk m)) rfl ?_
          obtain ⟨r14, h15, h⟩ := am_bd h
          refine am_Go.cl htb rfl (ex_X4_goTo d (by omega) ((m.1 4 0 5) + (1 : Int32)) m r14 h15) ?_
          show am_Go d 54 (61, [some (.inr (.inr (some (4, 0)))), some (.inl x1), some (.inl x2), some (.inl (m.1 4 0 6))], [], am_mk r14) _ _ _ _
          refine am_Go.n htb 2 (S' := (63, [some (.inr (.inr (some (4, 0)))), some (.inl x1), some (.inl x2), some (.inl (m.1 4 0 6))], [.inl x1, .inr (.inr (some (4, 0)))], am_mk r14)) rfl ?_
          obtain ⟨r16, h17, h⟩ := am_bd h
          refine am_Go.cl htb rfl (hrc 6 _ _ _ h17) ?_
          show am_Go d 54 (66, [some (.inr (.inr (some (4, 0)))), some (.inl x1), some (.inl x2), some (.inl (m.1 4 0 6))], [.inl r16.1], am_mk r16.2) _ _ _ _
          by_cases hc18 : r16.1 ≠ 0
          · rw [if_pos hc18] at h
            refine am_Go.c1 htb (S' := (71, [some (.inr (.inr (some (4, 0)))), some (.inl x1), some (.inl x2), some (.inl (m.1 4 0 6))], [], am_mk r16.2)) (if_pos hc18) ?_
            refine am_Go.n htb 4 (S' := (77, [some (.inr (.inr (some (4, 0)))), some (.inl x1), some (.inl x2), some (.inl (m.1 4 0 6))], [.inl 0, .inl (m.1 4 0 6), .inr (.inr (some (5, 0)))], am_mk r16.2)) rfl ?_
            obtain ⟨r19, h20, h⟩ := am_bd h
            refine am_Go.cl htb rfl (ex_X5_put d (by omega) 0 (m.1 4 0 6) 0 r16.2 r19 h20) ?_
            show am_Go d 54 (80, [some (.inr (.inr (some (4, 0)))), some (.inl x1), some (.inl x2), some (.inl (m.1 4 0 6))], [], am_mk r19) _ _ _ _
            refine am_Go.n htb 2 (S' := (12, [some (.inr (.inr (some (4, 0)))), some (.inl x1), some (.inl (x2 + 1)), some (.inl (m.1 4 0 6))], [], am_mk r19)) rfl ?_
            refine am_Go.fg (L0 := [some (.inr (.inr (some (4, 0)))), some (.inl x1), some (.inl (x2 + 1)), none]) (by exact ⟨rfl, ⟨rfl, ⟨rfl, trivial⟩⟩⟩) ?_
            first | exact ih h | exact ih h hk | exact ih h hr | exact ih h hk hr
          · rw [if_neg hc18] at h
            refine am_Go.c1 htb (S' := (69, [some (.inr (.inr (some (4, 0)))), some (.inl x1), some (.inl x2), some (.inl (m.1 4 0 6))], [], am_mk r16.2)) (if_neg hc18) ?_
            refine am_Go.n htb 1 (S' := (70, [some (.inr (.inr (some (4, 0)))), some (.inl x1), some (.inl x2), some (.inl (m.1 4 0 6))], [.inl 0], am_mk r16.2)) rfl ?_
            cases h
            obtain ⟨rfl, rfl, rfl, rfl⟩ := hr _ rfl
            exact am_Go.rt htb rfl
        · rw [if_neg hc13] at h
          refine am_Go.c1 htb (S' := (37, [some (.inr (.inr (some (4, 0)))), some (.inl x1), some (.inl x2), none], [], am_mk m)) (if_neg hc13) ?_
          refine am_Go.n htb 3 (S' := (43, [some (.inr (.inr (some (4, 0)))), some (.inl x1), some (.inl x2), none], [.inl 37, .inl (m.1 4 0 6)], am_mk m)) rfl ?_
          by_cases hc21 : (m.1 4 0 6) ≠ (37 : Int32)
          · rw [if_pos hc21] at h
            refine am_Go.c1 htb (S' := (86, [some (.inr (.inr (some (4, 0)))), some (.inl x1), some (.inl x2), none], [], am_mk m)) (if_pos hc21) ?_
            cases h
            exact am_Go.fg (by exact ⟨rfl, ⟨rfl, trivial⟩⟩) (hk _ rfl)
          · rw [if_neg hc21] at h
            refine am_Go.c1 htb (S' := (46, [some (.inr (.inr (some (4, 0)))), some (.inl x1), some (.inl x2), none], [], am_mk m)) (if_neg hc21) ?_
            refine am_Go.n htb 8 (S' := (58, [some (.inr (.inr (some (4, 0)))), some (.inl x1), some (.inl x2), some (.inl (m.1 4 0 6))], [.inl ((m.1 4 0 5) + (1 : Int32)), .inr (.inr (some (4, 0)))], am_mk m)) rfl ?_
            obtain ⟨r22, h23, h⟩ := am_bd h
            refine am_Go.cl htb rfl (ex_X4_goTo d (by omega) ((m.1 4 0 5) + (1 : Int32)) m r22 h23) ?_
            show am_Go d 54 (61, [some (.inr (.inr (some (4, 0)))), some (.inl x1), some (.inl x2), some (.inl (m.1 4 0 6))], [], am_mk r22) _ _ _ _
            refine am_Go.n htb 2 (S' := (63, [some (.inr (.inr (some (4, 0)))), some (.inl x1), some (.inl x2), some (.inl (m.1 4 0 6))], [.inl x1, .inr (.inr (some (4, 0)))], am_mk r22)) rfl ?_
            obtain ⟨r24, h25, h⟩ := am_bd h
            refine am_Go.cl htb rfl (hrc 6 _ _ _ h25) ?_
            show am_Go d 54 (66, [some (.inr (.inr (some (4, 0)))), some (.inl x1), some (.inl x2), some (.inl (m.1 4 0 6))], [.inl r24.1], am_mk r24.2) _ _ _ _
            by_cases hc26 : r24.1 ≠ 0
            · rw [if_pos hc26] at h
              refine am_Go.c1 htb (S' := (71, [some (.inr (.inr (some (4, 0)))), some (.inl x1), some (.inl x2), some (.inl (m.1 4 0 6))], [], am_mk r24.2)) (if_pos hc26) ?_
              refine am_Go.n htb 4 (S' := (77, [some (.inr (.inr (some (4, 0)))), some (.inl x1), some (.inl x2), some (.inl (m.1 4 0 6))], [.inl 0, .inl (m.1 4 0 6), .inr (.inr (some (5, 0)))], am_mk r24.2)) rfl ?_
              obtain ⟨r27, h28, h⟩ := am_bd h
              refine am_Go.cl htb rfl (ex_X5_put d (by omega) 0 (m.1 4 0 6) 0 r24.2 r27 h28) ?_
              show am_Go d 54 (80, [some (.inr (.inr (some (4, 0)))), some (.inl x1), some (.inl x2), some (.inl (m.1 4 0 6))], [], am_mk r27) _ _ _ _
              refine am_Go.n htb 2 (S' := (12, [some (.inr (.inr (some (4, 0)))), some (.inl x1), some (.inl (x2 + 1)), some (.inl (m.1 4 0 6))], [], am_mk r27)) rfl ?_
              refine am_Go.fg (L0 := [some (.inr (.inr (some (4, 0)))), some (.inl x1), some (.inl (x2 + 1)), none]) (by exact ⟨rfl, ⟨rfl, ⟨rfl, trivial⟩⟩⟩) ?_
              first | exact ih h | exact ih h hk | exact ih h hr | exact ih h hk hr
            · rw [if_neg hc26] at h
              refine am_Go.c1 htb (S' := (69, [some (.inr (.inr (some (4, 0)))), some (.inl x1), some (.inl x2), some (.inl (m.1 4 0 6))], [], am_mk r24.2)) (if_neg hc26) ?_
              refine am_Go.n htb 1 (S' := (70, [some (.inr (.inr (some (4, 0)))), some (.inl x1), some (.inl x2), some (.inl (m.1 4 0 6))], [.inl 0], am_mk r24.2)) rfl ?_
              cases h
              obtain ⟨rfl, rfl, rfl, rfl⟩ := hr _ rfl
              exact am_Go.rt htb rfl
set_option maxRecDepth 100000 in
theorem ex_X4_readTerm (d : Nat) (hd : 4 ≤ d) (rc : am_rc) (hrc : am_rcok rc (d - 1)) (a1 : Int32) (m : am_m) (t : Int32 × am_m) (h : fn_X4_readTerm rc a1 m = some t) : am_Ex am_cod d 54 [.inr (.inr (some (4, 0))), .inl a1] (am_mk m) (some (.inl t.1)) (am_mk t.2) 0 0 := by
  obtain ⟨d, rfl⟩ : ∃ e, d = e + 1 := ⟨d - 1, by omega⟩
  have htb : am_tab 54 = at_54 := rfl
  refine ⟨Nat.le_of_ble_eq_true rfl, ?_⟩
  unfold fn_X4_readTerm at h
  show am_Go d 54 (0, [some (.inr (.inr (some (4, 0)))), some (.inl a1), none, none], [], am_mk m) _ _ 0 0
  refine am_Go.n htb 2 (S' := (2, [some (.inr (.inr (some (4, 0)))), some (.inl a1), none, none], [.inl a1, .inr (.inr (some (4, 0)))], am_mk m)) rfl ?_
  obtain ⟨r1, h2, h⟩ := am_bd h
  refine am_Go.cl htb rfl (hrc 6 _ _ _ h2) ?_
  show am_Go d 54 (5, [some (.inr (.inr (some (4, 0)))), some (.inl a1), none, none], [.inl r1.1], am_mk r1.2) _ _ _ _
  by_cases hc3 : r1.1 ≠ 0
  · rw [if_pos hc3] at h
    refine am_Go.c1 htb (S' := (10, [some (.inr (.inr (some (4, 0)))), some (.inl a1), none, none], [], am_mk r1.2)) (if_pos hc3) ?_
    refine am_Go.n htb 2 (S' := (12, [some (.inr (.inr (some (4, 0)))), some (.inl a1), some (.inl 0), none], [], am_mk r1.2)) rfl ?_
    obtain ⟨w32, h30, h⟩ := am_bd h
    refine lt_X4_readTerm_12 _ hd rc hrc (h := h30) (hk := ?_) (hr := ?_)
    · intro q29 he
      subst he
      dsimp only at h
      refine am_Go.n htb 1 (S' := (87, [some (.inr (.inr (some (4, 0)))), some (.inl a1), none, none], [.inl 1], am_mk q29)) rfl ?_
      cases h
      exact am_Go.rt htb rfl
    · intro rr31 he
      subst he
      cases h
      exact ⟨rfl, rfl, rfl, rfl⟩
  · rw [if_neg hc3] at h
    refine am_Go.c1 htb (S' := (8, [some (.inr (.inr (some (4, 0)))), some (.inl a1), none, none], [], am_mk r1.2)) (if_neg hc3) ?_
    refine am_Go.n htb 1 (S' := (9, [some (.inr (.inr (some (4, 0)))), some (.inl a1), none, none], [.inl 0], am_mk r1.2)) rfl ?_
    cases h
    exact am_Go.rt htb rfl
-- X4_readSum
set_option maxRecDepth 100000 in
theorem lt_X4_readSum_12 (d : Nat) (hd : 4 ≤ d + 1) (rc : am_rc) (hrc : am_rcok rc d) {r : Option am_V} {M' : am_M} {kc ks : Nat} {n : Nat} {x1 : Int32} {x2 : Int32} {m : am_m} {t : Sum (am_m) (Int32 × am_m)} (h : lp_X4_readSum_12 rc n x1 x2 m = some t) (hk : ∀ t', t = .inl t' → am_Go d 53 (77, [some (.inr (.inr (some (4, 0)))), some (.inl x1), none, none], [], am_mk t') r M' kc ks) (hr : ∀ t', t = .inr t' → r = some (.inl t'.1) ∧ M' = am_mk t'.2 ∧ kc = 0 ∧ ks = 0) : am_Go d 53 (12, [some (.inr (.inr (some (4, 0)))), some (.inl x1), some (.inl x2), none], [], am_mk m) r M' kc ks := by
  have htb : am_tab 53 = at_53 := rfl
  induction n generalizing x2 m with
  | zero => cases h
  | succ n ih =>
    unfold lp_X4_readSum_12 at h
    refine am_Go.n htb 2 (S' := (16, [some (.inr (.inr (some (4, 0)))), some (.inl x1), some (.inl x2), none], [.inl 401, .inl x2], am_mk m)) rfl ?_
    by_cases hc4 : (401 : Int32) ≤ x2
    · rw [if_pos hc4] at h
      refine am_Go.c1 htb (S' := (77, [some (.inr (.inr (some (4, 0)))), some (.inl x1), some (.inl x2), none], [], am_mk m)) (if_pos hc4) ?_
      cases h
      exact am_Go.fg (by exact ⟨rfl, ⟨rfl, trivial⟩⟩) (hk _ rfl)
    · rw [if_neg hc4] at h
      refine am_Go.c1 htb (S' := (19, [some (.inr (.inr (some (4, 0)))), some (.inl x1), some (.inl x2), none], [], am_mk m)) (if_neg hc4) ?_
      refine am_Go.n htb 3 (S' := (25, [some (.inr (.inr (some (4, 0)))), some (.inl x1), some (.inl x2), none], [.inl 43, .inl (m.1 4 0 6)], am_mk m)) rfl ?_
      by_cases hc5 : (m.1 4 0 6) = (43 : Int32)
      · rw [if_pos hc5] at h
        refine am_Go.c1 htb (S' := (37, [some (.inr (.inr (some (4, 0)))), some (.inl x1), some (.inl x2), none], [], am_mk m)) (if_pos hc5) ?_
        refine am_Go.n htb 8 (S' := (49, [some (.inr (.inr (some (4, 0)))), some (.inl x1), some (.inl x2), some (.inl (m.1 4 0 6))], [.inl ((m.1 4 0 5) + (1 : Int32)), .inr (.inr (some (4, 0)))], am_mk m)) rfl ?_
        obtain ⟨r6, h7, h⟩ := am_bd h
        refine am_Go.cl htb rfl (ex_X4_goTo d (by omega) ((m.1 4 0 5) + (1 : Int32)) m r6 h7) ?_
        show am_Go d 53 (52, [some (.inr (.inr (some (4, 0)))), some (.inl x1), some (.inl x2), some (.inl (m.1 4 0 6))], [], am_mk r6) _ _ _ _
        refine am_Go.n htb 2 (S' := (54, [some (.inr (.inr (some (4, 0)))), some (.inl x1), some (.inl x2), some (.inl (m.1 4 0 6))], [.inl x1, .inr (.inr (some (4, 0)))], am_mk r6)) rfl ?_
        obtain ⟨r8, h9, h⟩ := am_bd h
        refine am_Go.cl htb rfl (hrc 5 _ _ _ h9) ?_
        show am_Go d 53 (57, [some (.inr (.inr (some (4, 0)))), some (.inl x1), some (.inl x2), some (.inl (m.1 4 0 6))], [.inl r8.1], am_mk r8.2) _ _ _ _
        by_cases hc10 : r8.1 ≠ 0
        · rw [if_pos hc10] at h
          refine am_Go.c1 htb (S' := (62, [some (.inr (.inr (some (4, 0)))), some (.inl x1), some (.inl x2), some (.inl (m.1 4 0 6))], [], am_mk r8.2)) (if_pos hc10) ?_
          refine am_Go.n htb 4 (S' := (68, [some (.inr (.inr (some (4, 0)))), some (.inl x1), some (.inl x2), some (.inl (m.1 4 0 6))], [.inl 0, .inl (m.1 4 0 6), .inr (.inr (some (5, 0)))], am_mk r8.2)) rfl ?_
          obtain ⟨r11, h12, h⟩ := am_bd h
          refine am_Go.cl htb rfl (ex_X5_put d (by omega) 0 (m.1 4 0 6) 0 r8.2 r11 h12) ?_
          show am_Go d 53 (71, [some (.inr (.inr (some (4, 0)))), some (.inl x1), some (.inl x2), some (.inl (m.1 4 0 6))], [], am_mk r11) _ _ _ _
          refine am_Go.n htb 2 (S' := (12, [some (.inr (.inr (some (4, 0)))), some (.inl x1), some (.inl (x2 + 1)), some (.inl (m.1 4 0 6))], [], am_mk r11)) rfl ?_
          refine am_Go.fg (L0 := [some (.inr (.inr (some (4, 0)))), some (.inl x1), some (.inl (x2 + 1)), none]) (by exact ⟨rfl, ⟨rfl, ⟨rfl, trivial⟩⟩⟩) ?_
          first | exact ih h | exact ih h hk | exact ih h hr | exact ih h hk hr
        · rw [if_neg hc10] at h
          refine am_Go.c1 htb (S' := (60, [some (.inr (.inr (some (4, 0)))), some (.inl x1), some (.inl x2), some (.inl (m.1 4 0 6))], [], am_mk r8.2)) (if_neg hc10) ?_
          refine am_Go.n htb 1 (S' := (61, [some (.inr (.inr (some (4, 0)))), some (.inl x1), some (.inl x2), some (.inl (m.1 4 0 6))], [.inl 0], am_mk r8.2)) rfl ?_
          cases h
          obtain ⟨rfl, rfl, rfl, rfl⟩ := hr _ rfl
          exact am_Go.rt htb rfl
      · rw [if_neg hc5] at h
        refine am_Go.c1 htb (S' := (28, [some (.inr (.inr (some (4, 0)))), some (.inl x1), some (.inl x2), none], [], am_mk m)) (if_neg hc5) ?_
        refine am_Go.n htb 3 (S' := (34, [some (.inr (.inr (some (4, 0)))), some (.inl x1), some (.inl x2), none], [.inl 45, .inl (m.1 4 0 6)], am_mk m)) rfl ?_
        by_cases hc13 : (m.1 4 0 6) ≠ (45 : Int32)
        · rw [if_pos hc13] at h
          refine am_Go.c1 htb (S' := (77, [some (.inr (.inr (some (4, 0)))), some (.inl x1), some (.inl x2), none], [], am_mk m)) (if_pos hc13) ?_
          cases h
          exact am_Go.fg (by exact ⟨rfl, ⟨rfl, trivial⟩⟩) (hk _ rfl)
        · rw [if_neg hc13] at h
          refine am_Go.c1 htb (S' := (37, [some (.inr (.inr (some (4, 0)))), some (.inl x1), some (.inl x2), none], [], am_mk m)) (if_neg hc13) ?_
          refine am_Go.n htb 8 (S' := (49, [some (.inr (.inr (some (4, 0)))), some (.inl x1), some (.inl x2), some (.inl (m.1 4 0 6))], [.inl ((m.1 4 0 5) + (1 : Int32)), .inr (.inr (some (4, 0)))], am_mk m)) rfl ?_
          obtain ⟨r14, h15, h⟩ := am_bd h
          refine am_Go.cl htb rfl (ex_X4_goTo d (by omega) ((m.1 4 0 5) + (1 : Int32)) m r14 h15) ?_
          show am_Go d 53 (52, [some (.inr (.inr (some (4, 0)))), some (.inl x1), some (.inl x2), some (.inl (m.1 4 0 6))], [], am_mk r14) _ _ _ _
          refine am_Go.n htb 2 (S' := (54, [some (.inr (.inr (some (4, 0)))), some (.inl x1), some (.inl x2), some (.inl (m.1 4 0 6))], [.inl x1, .inr (.inr (some (4, 0)))], am_mk r14)) rfl ?_
          obtain ⟨r16, h17, h⟩ := am_bd h
          refine am_Go.cl htb rfl (hrc 5 _ _ _ h17) ?_
          show am_Go d 53 (57, [some (.inr (.inr (some (4, 0)))), some (.inl x1), some (.inl x2), some (.inl (m.1 4 0 6))], [.inl r16.1], am_mk r16.2) _ _ _ _
          by_cases hc18 : r16.1 ≠ 0
          · rw [if_pos hc18] at h
            refine am_Go.c1 htb (S' := (62, [some (.inr (.inr (some (4, 0)))), some (.inl x1), some (.inl x2), some (.inl (m.1 4 0 6))], [], am_mk r16.2)) (if_pos hc18) ?_
            refine am_Go.n htb 4 (S' := (68, [some (.inr (.inr (some (4, 0)))), some (.inl x1), some (.inl x2), some (.inl (m.1 4 0 6))], [.inl 0, .inl (m.1 4 0 6), .inr (.inr (some (5, 0)))], am_mk r16.2)) rfl ?_
            obtain ⟨r19, h20, h⟩ := am_bd h
            refine am_Go.cl htb rfl (ex_X5_put d (by omega) 0 (m.1 4 0 6) 0 r16.2 r19 h20) ?_
            show am_Go d 53 (71, [some (.inr (.inr (some (4, 0)))), some (.inl x1), some (.inl x2), some (.inl (m.1 4 0 6))], [], am_mk r19) _ _ _ _
            refine am_Go.n htb 2 (S' := (12, [some (.inr (.inr (some (4, 0)))), some (.inl x1), some (.inl (x2 + 1)), some (.inl (m.1 4 0 6))], [], am_mk r19)) rfl ?_
            refine am_Go.fg (L0 := [some (.inr (.inr (some (4, 0)))), some (.inl x1), some (.inl (x2 + 1)), none]) (by exact ⟨rfl, ⟨rfl, ⟨rfl, trivial⟩⟩⟩) ?_
            first | exact ih h | exact ih h hk | exact ih h hr | exact ih h hk hr
          · rw [if_neg hc18] at h
            refine am_Go.c1 htb (S' := (60, [some (.inr (.inr (some (4, 0)))), some (.inl x1), some (.inl x2), some (.inl (m.1 4 0 6))], [], am_mk r16.2)) (if_neg hc18) ?_
            refine am_Go.n htb 1 (S' := (61, [some (.inr (.inr (some (4, 0)))), some (.inl x1), some (.inl x2), some (.inl (m.1 4 0 6))], [.inl 0], am_mk r16.2)) rfl ?_
            cases h
            obtain ⟨rfl, rfl, rfl, rfl⟩ := hr _ rfl
            exact am_Go.rt htb rfl
set_option maxRecDepth 100000 in
theorem ex_X4_readSum (d : Nat) (hd : 4 ≤ d) (rc : am_rc) (hrc : am_rcok rc (d - 1)) (a1 : Int32) (m : am_m) (t : Int32 × am_m) (h : fn_X4_readSum rc a1 m = some t) : am_Ex am_cod d 53 [.inr (.inr (some (4, 0))), .inl a1] (am_mk m) (some (.inl t.1)) (am_mk t.2) 0 0 := by
  obtain ⟨d, rfl⟩ : ∃ e, d = e + 1 := ⟨d - 1, by omega⟩
  have htb : am_tab 53 = at_53 := rfl
  refine ⟨Nat.le_of_ble_eq_true rfl, ?_⟩
  unfold fn_X4_readSum at h
  show am_Go d 53 (0, [some (.inr (.inr (some (4, 0)))), some (.inl a1), none, none], [], am_mk m) _ _ 0 0
  refine am_Go.n htb 2 (S' := (2, [some (.inr (.inr (some (4, 0)))), some (.inl a1), none, none], [.inl a1, .inr (.inr (some (4, 0)))], am_mk m)) rfl ?_
  obtain ⟨r1, h2, h⟩ := am_bd h
  refine am_Go.cl htb rfl (hrc 5 _ _ _ h2) ?_
  show am_Go d 53 (5, [some (.inr (.inr (some (4, 0)))), some (.inl a1), none, none], [.inl r1.1], am_mk r1.2) _ _ _ _
  by_cases hc3 : r1.1 ≠ 0
  · rw [if_pos hc3] at h
    refine am_Go.c1 htb (S' := (10, [some (.inr (.inr (some (4, 0)))), some (.inl a1), none, none], [], am_mk r1.2)) (if_pos hc3) ?_
    refine am_Go.n htb 2 (S' := (12, [some (.inr (.inr (some (4, 0)))), some (.inl a1), some (.inl 0), none], [], am_mk r1.2)) rfl ?_
    obtain ⟨w24, h22, h⟩ := am_bd h
    refine lt_X4_readSum_12 _ hd rc hrc (h := h22) (hk := ?_) (hr := ?_)
    · intro q21 he
      subst he
      dsimp only at h
      refine am_Go.n htb 1 (S' := (78, [some (.inr (.inr (some (4, 0)))), some (.inl a1), none, none], [.inl 1], am_mk q21)) rfl ?_
      cases h
      exact am_Go.rt htb rfl
    · intro rr23 he
      subst he
      cases h
      exact ⟨rfl, rfl, rfl, rfl⟩
  · rw [if_neg hc3] at h
    refine am_Go.c1 htb (S' := (8, [some (.inr (.inr (some (4, 0)))), some (.inl a1), none, none], [], am_mk r1.2)) (if_neg hc3) ?_
    refine am_Go.n htb 1 (S' := (9, [some (.inr (.inr (some (4, 0)))), some (.inl a1), none, none], [.inl 0], am_mk r1.2)) rfl ?_
    cases h
    exact am_Go.rt htb rfl
