-- X10_readExpression
set_option maxRecDepth 100000 in
theorem lt_X10_readExpression_20 (d : Nat) (hd : 7 ≤ d + 1) {r : Option am_V} {M' : am_M} {kc ks : Nat} {n : Nat} {x1 : Int32} {x2 : Int32} {m : am_m} {t : am_m} (h : lp_X10_readExpression_20 n x1 x2 m = some t) (hk : am_Go d 225 (76, [some (.inr (.inr (some (10, 0)))), some (.inl x1), none], [], am_mk t) r M' kc ks) : am_Go d 225 (20, [some (.inr (.inr (some (10, 0)))), some (.inl x1), some (.inl x2)], [], am_mk m) r M' kc ks := by
  have htb : am_tab 225 = at_225 := rfl
  induction n generalizing x2 m with
  | zero => cases h
  | succ n ih =>
    unfold lp_X10_readExpression_20 at h
    refine am_Go.n htb 2 (S' := (24, [some (.inr (.inr (some (10, 0)))), some (.inl x1), some (.inl x2)], [.inl (m.1 10 0 19)], am_mk m)) rfl ?_
    by_cases hc2 : (m.1 10 0 19) ≠ 0
    · rw [if_pos hc2] at h
      refine am_Go.c1 htb (S' := (76, [some (.inr (.inr (some (10, 0)))), some (.inl x1), some (.inl x2)], [], am_mk m)) (if_pos hc2) ?_
      cases h
      exact am_Go.fg (by exact ⟨rfl, ⟨rfl, trivial⟩⟩) hk
    · rw [if_neg hc2] at h
      refine am_Go.c1 htb (S' := (27, [some (.inr (.inr (some (10, 0)))), some (.inl x1), some (.inl x2)], [], am_mk m)) (if_neg hc2) ?_
      refine am_Go.n htb 2 (S' := (29, [some (.inr (.inr (some (10, 0)))), some (.inl x1), some (.inl x2)], [.inl 4, .inl x2], am_mk m)) rfl ?_
      by_cases hc3 : x2 = (4 : Int32)
      · rw [if_pos hc3] at h
        refine am_Go.c1 htb (S' := (76, [some (.inr (.inr (some (10, 0)))), some (.inl x1), some (.inl x2)], [], am_mk m)) (if_pos hc3) ?_
        cases h
        exact am_Go.fg (by exact ⟨rfl, ⟨rfl, trivial⟩⟩) hk
      · rw [if_neg hc3] at h
        refine am_Go.c1 htb (S' := (32, [some (.inr (.inr (some (10, 0)))), some (.inl x1), some (.inl x2)], [], am_mk m)) (if_neg hc3) ?_
        refine am_Go.n htb 1 (S' := (33, [some (.inr (.inr (some (10, 0)))), some (.inl x1), some (.inl x2)], [.inl x2], am_mk m)) rfl ?_
        obtain ⟨q15, h16, h⟩ := am_bd h
        refine am_Go.cut (S := (72, [some (.inr (.inr (some (10, 0)))), some (.inl x1), some (.inl x2)], [.inl q15.1], am_mk q15.2)) ?_ (fun key => ?_)
        · refine am_Go.n htb 2 (S' := (20, [some (.inr (.inr (some (10, 0)))), some (.inl x1), some (.inl q15.1)], [], am_mk q15.2)) rfl ?_
          first | exact ih h | exact ih h hk
        · have h := h16
          by_cases hc4 : x2 ≠ 0
          · rw [if_pos hc4] at h
            refine am_Go.c1 htb (S' := (43, [some (.inr (.inr (some (10, 0)))), some (.inl x1), some (.inl x2)], [], am_mk m)) (if_pos hc4) ?_
            refine am_Go.n htb 2 (S' := (45, [some (.inr (.inr (some (10, 0)))), some (.inl x1), some (.inl x2)], [.inl 1, .inl x2], am_mk m)) rfl ?_
            by_cases hc5 : x2 ≠ (1 : Int32)
            · rw [if_pos hc5] at h
              refine am_Go.c1 htb (S' := (55, [some (.inr (.inr (some (10, 0)))), some (.inl x1), some (.inl x2)], [], am_mk m)) (if_pos hc5) ?_
              refine am_Go.n htb 2 (S' := (57, [some (.inr (.inr (some (10, 0)))), some (.inl x1), some (.inl x2)], [.inl 3, .inl x2], am_mk m)) rfl ?_
              by_cases hc6 : x2 ≠ (3 : Int32)
              · rw [if_pos hc6] at h
                refine am_Go.c1 htb (S' := (68, [some (.inr (.inr (some (10, 0)))), some (.inl x1), some (.inl x2)], [], am_mk m)) (if_pos hc6) ?_
                refine am_Go.n htb 1 (S' := (69, [some (.inr (.inr (some (10, 0)))), some (.inl x1), some (.inl x2)], [.inr (.inr (some (10, 0)))], am_mk m)) rfl ?_
                obtain ⟨r7, h8, h⟩ := am_bd h
                refine am_Go.cl htb rfl (ex_X10_behindTest d (by omega)  m r7 h8) ?_
                show am_Go d 225 (72, [some (.inr (.inr (some (10, 0)))), some (.inl x1), some (.inl x2)], [.inl r7.1], am_mk r7.2) _ _ _ _
                cases h
                exact am_Go.fg (by exact ⟨rfl, ⟨rfl, ⟨rfl, trivial⟩⟩⟩) key
              · rw [if_neg hc6] at h
                refine am_Go.c1 htb (S' := (60, [some (.inr (.inr (some (10, 0)))), some (.inl x1), some (.inl x2)], [], am_mk m)) (if_neg hc6) ?_
                refine am_Go.n htb 2 (S' := (62, [some (.inr (.inr (some (10, 0)))), some (.inl x1), some (.inl x2)], [.inl x1, .inr (.inr (some (10, 0)))], am_mk m)) rfl ?_
                obtain ⟨r9, h10, h⟩ := am_bd h
                refine am_Go.cl htb rfl (ex_X10_behindSum d (by omega) x1 m r9 h10) ?_
                show am_Go d 225 (65, [some (.inr (.inr (some (10, 0)))), some (.inl x1), some (.inl x2)], [.inl r9.1], am_mk r9.2) _ _ _ _
                refine am_Go.n htb 1 (S' := (72, [some (.inr (.inr (some (10, 0)))), some (.inl x1), some (.inl x2)], [.inl r9.1], am_mk r9.2)) rfl ?_
                cases h
                exact am_Go.fg (by exact ⟨rfl, ⟨rfl, ⟨rfl, trivial⟩⟩⟩) key
            · rw [if_neg hc5] at h
              refine am_Go.c1 htb (S' := (48, [some (.inr (.inr (some (10, 0)))), some (.inl x1), some (.inl x2)], [], am_mk m)) (if_neg hc5) ?_
              refine am_Go.n htb 1 (S' := (49, [some (.inr (.inr (some (10, 0)))), some (.inl x1), some (.inl x2)], [.inr (.inr (some (10, 0)))], am_mk m)) rfl ?_
              obtain ⟨r11, h12, h⟩ := am_bd h
              refine am_Go.cl htb rfl (ex_X10_readPart d (by omega)  m r11 h12) ?_
              show am_Go d 225 (52, [some (.inr (.inr (some (10, 0)))), some (.inl x1), some (.inl x2)], [.inl r11.1], am_mk r11.2) _ _ _ _
              refine am_Go.n htb 1 (S' := (72, [some (.inr (.inr (some (10, 0)))), some (.inl x1), some (.inl x2)], [.inl r11.1], am_mk r11.2)) rfl ?_
              cases h
              exact am_Go.fg (by exact ⟨rfl, ⟨rfl, ⟨rfl, trivial⟩⟩⟩) key
          · rw [if_neg hc4] at h
            refine am_Go.c1 htb (S' := (36, [some (.inr (.inr (some (10, 0)))), some (.inl x1), some (.inl x2)], [], am_mk m)) (if_neg hc4) ?_
            refine am_Go.n htb 1 (S' := (37, [some (.inr (.inr (some (10, 0)))), some (.inl x1), some (.inl x2)], [.inr (.inr (some (10, 0)))], am_mk m)) rfl ?_
            obtain ⟨r13, h14, h⟩ := am_bd h
            refine am_Go.cl htb rfl (ex_X10_readPlain d (by omega)  m r13 h14) ?_
            show am_Go d 225 (40, [some (.inr (.inr (some (10, 0)))), some (.inl x1), some (.inl x2)], [.inl r13.1], am_mk r13.2) _ _ _ _
            refine am_Go.n htb 1 (S' := (72, [some (.inr (.inr (some (10, 0)))), some (.inl x1), some (.inl x2)], [.inl r13.1], am_mk r13.2)) rfl ?_
            cases h
            exact am_Go.fg (by exact ⟨rfl, ⟨rfl, ⟨rfl, trivial⟩⟩⟩) key
set_option maxRecDepth 100000 in
theorem ex_X10_readExpression (d : Nat) (hd : 7 ≤ d) (a1 : Int32) (m : am_m) (t : am_m) (h : fn_X10_readExpression a1 m = some t) : am_Ex am_cod d 225 [.inr (.inr (some (10, 0))), .inl a1] (am_mk m) (none) (am_mk t) 0 0 := by
  obtain ⟨d, rfl⟩ : ∃ e, d = e + 1 := ⟨d - 1, by omega⟩
  have htb : am_tab 225 = at_225 := rfl
  refine ⟨Nat.le_of_ble_eq_true rfl, ?_⟩
  unfold fn_X10_readExpression at h
  show am_Go d 225 (0, [some (.inr (.inr (some (10, 0)))), some (.inl a1), none], [], am_mk m) _ _ 0 0
  refine am_Go.n htb 7 (S' := (11, [some (.inr (.inr (some (10, 0)))), some (.inl a1), none], [.inl a1], am_mk (am_si (am_si m 10 0 29 0) 10 0 30 0))) rfl ?_
  refine am_Go.cut (S := (19, [some (.inr (.inr (some (10, 0)))), some (.inl a1), none], [.inl (if a1 = 0 then (1 : Int32) else (0 : Int32))], am_mk (am_si (am_si m 10 0 29 0) 10 0 30 0))) ?_ (fun key => ?_)
  · refine am_Go.n htb 1 (S' := (20, [some (.inr (.inr (some (10, 0)))), some (.inl a1), some (.inl (if a1 = 0 then (1 : Int32) else (0 : Int32)))], [], am_mk (am_si (am_si m 10 0 29 0) 10 0 30 0))) rfl ?_
    obtain ⟨q17, h18, h⟩ := am_bd h
    refine lt_X10_readExpression_20 _ hd (h := h18) (hk := ?_)
    refine am_Go.n htb 2 (S' := (78, [some (.inr (.inr (some (10, 0)))), some (.inl a1), none], [.inl 1, .inr (.inr (some (10, 0)))], am_mk q17)) rfl ?_
    obtain ⟨r19, h20, h⟩ := am_bd h
    refine am_Go.cl htb rfl (ex_X10_settle d (by omega) 1 q17 r19 h20) ?_
    show am_Go d 225 (81, [some (.inr (.inr (some (10, 0)))), some (.inl a1), none], [], am_mk r19) _ _ _ _
    cases h
    exact am_Go.rt htb rfl
  · by_cases hc1 : a1 = 0
    · refine am_Go.c1 htb (S' := (18, [some (.inr (.inr (some (10, 0)))), some (.inl a1), none], [], am_mk (am_si (am_si m 10 0 29 0) 10 0 30 0))) (if_pos hc1) ?_
      refine am_Go.n htb 1 (S' := (19, [some (.inr (.inr (some (10, 0)))), some (.inl a1), none], [.inl 1], am_mk (am_si (am_si m 10 0 29 0) 10 0 30 0))) rfl ?_
      simp only [if_pos hc1] at key
      exact am_Go.fg (by exact ⟨rfl, ⟨rfl, trivial⟩⟩) key
    · refine am_Go.c1 htb (S' := (14, [some (.inr (.inr (some (10, 0)))), some (.inl a1), none], [], am_mk (am_si (am_si m 10 0 29 0) 10 0 30 0))) (if_neg hc1) ?_
      refine am_Go.n htb 2 (S' := (19, [some (.inr (.inr (some (10, 0)))), some (.inl a1), none], [.inl 0], am_mk (am_si (am_si m 10 0 29 0) 10 0 30 0))) rfl ?_
      simp only [if_neg hc1] at key
      exact am_Go.fg (by exact ⟨rfl, ⟨rfl, trivial⟩⟩) key
-- X10_beginText
set_option maxRecDepth 100000 in
theorem ex_X10_beginText (d : Nat) (hd : 4 ≤ d) (a1 : Int32) (m : am_m) (t : am_m) (h : fn_X10_beginText a1 m = some t) : am_Ex am_cod d 226 [.inr (.inr (some (10, 0))), .inl a1] (am_mk m) (none) (am_mk t) 0 0 := by
  obtain ⟨d, rfl⟩ : ∃ e, d = e + 1 := ⟨d - 1, by omega⟩
  have htb : am_tab 226 = at_226 := rfl
  refine ⟨Nat.le_of_ble_eq_true rfl, ?_⟩
  unfold fn_X10_beginText at h
  show am_Go d 226 (0, [some (.inr (.inr (some (10, 0)))), some (.inl a1)], [], am_mk m) _ _ 0 0
  refine am_Go.n htb 2 (S' := (2, [some (.inr (.inr (some (10, 0)))), some (.inl a1)], [.inl a1, .inr (.inr (some (10, 0)))], am_mk m)) rfl ?_
  obtain ⟨hz1, h⟩ := am_gd_some h
  refine am_Go.o htb (am_o_pf 10 20 2) rfl (S' := (5, [some (.inr (.inr (some (10, 0)))), some (.inl a1)], [], am_mk (am_si m 10 0 20 a1))) (am_pfz hz1) ?_
  refine am_Go.n htb 1 (S' := (6, [some (.inr (.inr (some (10, 0)))), some (.inl a1)], [.inr (.inr (some (10, 0)))], am_mk (am_si m 10 0 20 a1))) rfl ?_
  obtain ⟨r2, h3, h⟩ := am_bd h
  refine am_Go.cl htb rfl (ex_X10_begin d (by omega)  (am_si m 10 0 20 a1) r2 h3) ?_
  show am_Go d 226 (9, [some (.inr (.inr (some (10, 0)))), some (.inl a1)], [], am_mk r2) _ _ _ _
  refine am_Go.n htb 9 (S' := (24, [some (.inr (.inr (some (10, 0)))), some (.inl a1)], [], am_mk (am_si (am_si (am_si r2 10 0 21 0) 10 0 23 0) 10 0 26 0))) rfl ?_
  cases h
  exact am_Go.rt htb rfl
-- X10_endText
set_option maxRecDepth 100000 in
theorem ex_X10_endText (d : Nat) (hd : 4 ≤ d)  (m : am_m) (t : am_m) (h : fn_X10_endText  m = some t) : am_Ex am_cod d 227 [.inr (.inr (some (10, 0)))] (am_mk m) (none) (am_mk t) 0 0 := by
  obtain ⟨d, rfl⟩ : ∃ e, d = e + 1 := ⟨d - 1, by omega⟩
  have htb : am_tab 227 = at_227 := rfl
  refine ⟨Nat.le_of_ble_eq_true rfl, ?_⟩
  unfold fn_X10_endText at h
  show am_Go d 227 (0, [some (.inr (.inr (some (10, 0))))], [], am_mk m) _ _ 0 0
  refine am_Go.n htb 2 (S' := (4, [some (.inr (.inr (some (10, 0))))], [.inl (m.1 10 0 19)], am_mk m)) rfl ?_
  obtain ⟨q5, h6, h⟩ := am_bd h
  refine am_Go.cut (S := (19, [some (.inr (.inr (some (10, 0))))], [], am_mk q5)) ?_ (fun key => ?_)
  · refine am_Go.n htb 6 (S' := (29, [some (.inr (.inr (some (10, 0))))], [], am_mk (am_si (am_si q5 10 0 20 0) 10 0 13 0))) rfl ?_
    cases h
    exact am_Go.rt htb rfl
  · have h := h6
    by_cases hc1 : (m.1 10 0 19) ≠ 0
    · rw [if_pos hc1] at h
      refine am_Go.c1 htb (S' := (19, [some (.inr (.inr (some (10, 0))))], [], am_mk m)) (if_pos hc1) ?_
      cases h
      exact am_Go.fg (by exact ⟨rfl, trivial⟩) key
    · rw [if_neg hc1] at h
      refine am_Go.c1 htb (S' := (7, [some (.inr (.inr (some (10, 0))))], [], am_mk m)) (if_neg hc1) ?_
      refine am_Go.n htb 2 (S' := (11, [some (.inr (.inr (some (10, 0))))], [.inl (m.1 10 0 16)], am_mk m)) rfl ?_
      by_cases hc2 : (m.1 10 0 16) = 0
      · rw [if_pos hc2] at h
        refine am_Go.c1 htb (S' := (19, [some (.inr (.inr (some (10, 0))))], [], am_mk m)) (if_pos hc2) ?_
        cases h
        exact am_Go.fg (by exact ⟨rfl, trivial⟩) key
      · rw [if_neg hc2] at h
        refine am_Go.c1 htb (S' := (14, [some (.inr (.inr (some (10, 0))))], [], am_mk m)) (if_neg hc2) ?_
        refine am_Go.n htb 2 (S' := (16, [some (.inr (.inr (some (10, 0))))], [.inl 0, .inr (.inr (some (10, 0)))], am_mk m)) rfl ?_
        obtain ⟨r3, h4, h⟩ := am_bd h
        refine am_Go.cl htb rfl (ex_X10_must d (by omega) 0 m r3 h4) ?_
        show am_Go d 227 (19, [some (.inr (.inr (some (10, 0))))], [], am_mk r3) _ _ _ _
        cases h
        exact am_Go.fg (by exact ⟨rfl, trivial⟩) key
-- X10_readLaw
set_option maxRecDepth 100000 in
theorem lt_X10_readLaw_4 (d : Nat) (hd : 8 ≤ d + 1) {r : Option am_V} {M' : am_M} {kc ks : Nat} {n : Nat} {x1 : Int32} {x2 : Int32} {m : am_m} {t : Int32} (h : lp_X10_readLaw_4 n x1 x2 m = some t) (hk : am_Go d 228 (34, [some (.inr (.inr (some (10, 0)))), some (.inl t), none, none], [], am_mk m) r M' kc ks) : am_Go d 228 (4, [some (.inr (.inr (some (10, 0)))), some (.inl x1), some (.inl x2), none], [], am_mk m) r M' kc ks := by
  have htb : am_tab 228 = at_228 := rfl
  induction n generalizing x1 x2 with
  | zero => cases h
  | succ n ih =>
    unfold lp_X10_readLaw_4 at h
    refine am_Go.n htb 2 (S' := (6, [some (.inr (.inr (some (10, 0)))), some (.inl x1), some (.inl x2), none], [.inl 4, .inl x2], am_mk m)) rfl ?_
    by_cases hc1 : (4 : Int32) ≤ x2
    · rw [if_pos hc1] at h
      refine am_Go.c1 htb (S' := (34, [some (.inr (.inr (some (10, 0)))), some (.inl x1), some (.inl x2), none], [], am_mk m)) (if_pos hc1) ?_
      cases h
      exact am_Go.fg (by exact ⟨rfl, ⟨rfl, trivial⟩⟩) hk
    · rw [if_neg hc1] at h
      refine am_Go.c1 htb (S' := (9, [some (.inr (.inr (some (10, 0)))), some (.inl x1), some (.inl x2), none], [], am_mk m)) (if_neg hc1) ?_
      refine am_Go.n htb 4 (S' := (15, [some (.inr (.inr (some (10, 0)))), some (.inl x1), some (.inl x2), none], [.inl x2, .inr (.inr (some (84, 0))), .inr (.inr (some (10, 0)))], am_mk m)) rfl ?_
      obtain ⟨hg2, h⟩ := am_ck_some h
      refine am_Go.c1 htb (S' := (16, [some (.inr (.inr (some (10, 0)))), some (.inl x1), some (.inl x2), none], [.inr (.inl (m.2.1 84 0 x2.toNatClampNeg)), .inr (.inr (some (10, 0)))], am_mk m)) (if_neg hg2) ?_
      obtain ⟨r3, h4, h⟩ := am_bd h
      refine am_Go.cl htb rfl (ex_X10_isWord d (by omega) (m.2.1 84 0 x2.toNatClampNeg) m r3 h4) ?_
      show am_Go d 228 (19, [some (.inr (.inr (some (10, 0)))), some (.inl x1), some (.inl x2), none], [.inl r3], am_mk m) _ _ _ _
      refine am_Go.cut (S := (27, [some (.inr (.inr (some (10, 0)))), some (.inl x1), some (.inl x2), none], [.inl (if r3 = 0 then x1 else x2)], am_mk m)) ?_ (fun key => ?_)
      · refine am_Go.n htb 3 (S' := (4, [some (.inr (.inr (some (10, 0)))), some (.inl (if r3 = 0 then x1 else x2)), some (.inl (x2 + 1)), none], [], am_mk m)) rfl ?_
        first | exact ih h | exact ih h hk
      · by_cases hc5 : r3 = 0
        · refine am_Go.c1 htb (S' := (26, [some (.inr (.inr (some (10, 0)))), some (.inl x1), some (.inl x2), none], [], am_mk m)) (if_pos hc5) ?_
          refine am_Go.n htb 1 (S' := (27, [some (.inr (.inr (some (10, 0)))), some (.inl x1), some (.inl x2), none], [.inl x1], am_mk m)) rfl ?_
          simp only [if_pos hc5] at key
          exact am_Go.fg (by exact ⟨rfl, ⟨rfl, ⟨rfl, trivial⟩⟩⟩) key
        · refine am_Go.c1 htb (S' := (22, [some (.inr (.inr (some (10, 0)))), some (.inl x1), some (.inl x2), none], [], am_mk m)) (if_neg hc5) ?_
          refine am_Go.n htb 2 (S' := (27, [some (.inr (.inr (some (10, 0)))), some (.inl x1), some (.inl x2), none], [.inl x2], am_mk m)) rfl ?_
          simp only [if_neg hc5] at key
          exact am_Go.fg (by exact ⟨rfl, ⟨rfl, ⟨rfl, trivial⟩⟩⟩) key
set_option maxRecDepth 100000 in
theorem lt_X10_readLaw_75 (d : Nat) (hd : 8 ≤ d + 1) {r : Option am_V} {M' : am_M} {kc ks : Nat} {n : Nat} {x1 : Int32} {x2 : Int32} {x3 : Int32} {m : am_m} {t : am_m} (h : lp_X10_readLaw_75 n x1 x2 x3 m = some t) (hk : am_Go d 228 (96, [some (.inr (.inr (some (10, 0)))), some (.inl x1), some (.inl x2), none], [], am_mk t) r M' kc ks) : am_Go d 228 (75, [some (.inr (.inr (some (10, 0)))), some (.inl x1), some (.inl x2), some (.inl x3)], [], am_mk m) r M' kc ks := by
  have htb : am_tab 228 = at_228 := rfl
  induction n generalizing x3 m with
  | zero => cases h
  | succ n ih =>
    unfold lp_X10_readLaw_75 at h
    refine am_Go.n htb 2 (S' := (78, [some (.inr (.inr (some (10, 0)))), some (.inl x1), some (.inl x2), some (.inl x3)], [.inl 8, .inl x3], am_mk m)) rfl ?_
    by_cases hc14 : (8 : Int32) ≤ x3
    · rw [if_pos hc14] at h
      refine am_Go.c1 htb (S' := (96, [some (.inr (.inr (some (10, 0)))), some (.inl x1), some (.inl x2), some (.inl x3)], [], am_mk m)) (if_pos hc14) ?_
      cases h
      exact am_Go.fg (by exact ⟨rfl, ⟨rfl, ⟨rfl, trivial⟩⟩⟩) hk
    · rw [if_neg hc14] at h
      refine am_Go.c1 htb (S' := (81, [some (.inr (.inr (some (10, 0)))), some (.inl x1), some (.inl x2), some (.inl x3)], [], am_mk m)) (if_neg hc14) ?_
      refine am_Go.n htb 6 (S' := (89, [some (.inr (.inr (some (10, 0)))), some (.inl x1), some (.inl x2), some (.inl x3)], [.inl 0, .inl (x2 + x3), .inr (.inr (some (51, 0)))], am_mk m)) rfl ?_
      obtain ⟨hg15, h⟩ := am_ck_some h
      refine am_Go.c1 htb (S' := (90, [some (.inr (.inr (some (10, 0)))), some (.inl x1), some (.inl x2), some (.inl x3)], [], am_mk (am_si m 51 0 (x2 + x3).toNatClampNeg 0))) (if_neg hg15) ?_
      refine am_Go.n htb 2 (S' := (75, [some (.inr (.inr (some (10, 0)))), some (.inl x1), some (.inl x2), some (.inl (x3 + 1))], [], am_mk (am_si m 51 0 (x2 + x3).toNatClampNeg 0))) rfl ?_
      first | exact ih h | exact ih h hk
set_option maxRecDepth 100000 in
theorem ex_X10_readLaw (d : Nat) (hd : 8 ≤ d)  (m : am_m) (t : am_m) (h : fn_X10_readLaw  m = some t) : am_Ex am_cod d 228 [.inr (.inr (some (10, 0)))] (am_mk m) (none) (am_mk t) 0 0 := by
  obtain ⟨d, rfl⟩ : ∃ e, d = e + 1 := ⟨d - 1, by omega⟩
  have htb : am_tab 228 = at_228 := rfl
  refine ⟨Nat.le_of_ble_eq_true rfl, ?_⟩
  unfold fn_X10_readLaw at h
  show am_Go d 228 (0, [some (.inr (.inr (some (10, 0)))), none, none, none], [], am_mk m) _ _ 0 0
  refine am_Go.n htb 4 (S' := (4, [some (.inr (.inr (some (10, 0)))), some (.inl (-1)), some (.inl 0), none], [], am_mk m)) rfl ?_
  obtain ⟨q6, h7, h⟩ := am_bd h
  refine lt_X10_readLaw_4 _ hd (h := h7) (hk := ?_)
  refine am_Go.n htb 3 (S' := (37, [some (.inr (.inr (some (10, 0)))), some (.inl q6), none, none], [.inl (-1), .inl q6, .inr (.inr (some (10, 0)))], am_mk m)) rfl ?_
  obtain ⟨q10, h38, h⟩ := am_bd h
  refine am_Go.cut (S := (54, [some (.inr (.inr (some (10, 0)))), some (.inl q6), none, none], [.inl q10, .inr (.inr (some (10, 0)))], am_mk m)) ?_ (fun key => ?_)
  · obtain ⟨r11, h12, h⟩ := am_bd h
    refine am_Go.cl htb rfl (ex_X10_must d (by omega) q10 m r11 h12) ?_
    show am_Go d 228 (57, [some (.inr (.inr (some (10, 0)))), some (.inl q6), none, none], [], am_mk r11) _ _ _ _
    refine am_Go.n htb 2 (S' := (61, [some (.inr (.inr (some (10, 0)))), some (.inl q6), none, none], [.inl (r11.1 10 0 19)], am_mk r11)) rfl ?_
    by_cases hc13 : (r11.1 10 0 19) = 0
    · rw [if_pos hc13] at h
      refine am_Go.c1 htb (S' := (65, [some (.inr (.inr (some (10, 0)))), some (.inl q6), none, none], [], am_mk r11)) (if_pos hc13) ?_
      refine am_Go.n htb 7 (S' := (75, [some (.inr (.inr (some (10, 0)))), some (.inl q6), some (.inl ((8 : Int32) * (r11.1 10 0 21))), some (.inl 0)], [], am_mk r11)) rfl ?_
      obtain ⟨q16, h17, h⟩ := am_bd h
      refine lt_X10_readLaw_75 _ hd (h := h17) (hk := ?_)
      refine am_Go.n htb 4 (S' := (102, [some (.inr (.inr (some (10, 0)))), some (.inl q6), some (.inl ((8 : Int32) * (r11.1 10 0 21))), none], [.inl q6, .inl ((8 : Int32) * (r11.1 10 0 21)), .inr (.inr (some (51, 0)))], am_mk q16)) rfl ?_
      obtain ⟨hg18, h⟩ := am_ck_some h
      refine am_Go.c1 htb (S' := (103, [some (.inr (.inr (some (10, 0)))), some (.inl q6), some (.inl ((8 : Int32) * (r11.1 10 0 21))), none], [], am_mk (am_si q16 51 0 ((8 : Int32) * (r11.1 10 0 21)).toNatClampNeg q6))) (if_neg hg18) ?_
      refine am_Go.n htb 13 (S' := (124, [some (.inr (.inr (some (10, 0)))), some (.inl q6), some (.inl ((8 : Int32) * (r11.1 10 0 21))), none], [.inl (q16.1 10 0 23), .inl (((8 : Int32) * (r11.1 10 0 21)) + (3 : Int32)), .inr (.inr (some (51, 0)))], am_mk (am_si (am_si q16 51 0 ((8 : Int32) * (r11.1 10 0 21)).toNatClampNeg q6) 10 0 21 ((q16.1 10 0 21) + (1 : Int32))))) rfl ?_
      obtain ⟨hg19, h⟩ := am_ck_some h
      refine am_Go.c1 htb (S' := (125, [some (.inr (.inr (some (10, 0)))), some (.inl q6), some (.inl ((8 : Int32) * (r11.1 10 0 21))), none], [], am_mk (am_si (am_si (am_si q16 51 0 ((8 : Int32) * (r11.1 10 0 21)).toNatClampNeg q6) 10 0 21 ((q16.1 10 0 21) + (1 : Int32))) 51 0 (((8 : Int32) * (r11.1 10 0 21)) + (3 : Int32)).toNatClampNeg (q16.1 10 0 23)))) (if_neg hg19) ?_
      refine am_Go.n htb 2 (S' := (127, [some (.inr (.inr (some (10, 0)))), some (.inl q6), some (.inl ((8 : Int32) * (r11.1 10 0 21))), none], [.inl 3, .inl q6], am_mk (am_si (am_si (am_si q16 51 0 ((8 : Int32) * (r11.1 10 0 21)).toNatClampNeg q6) 10 0 21 ((q16.1 10 0 21) + (1 : Int32))) 51 0 (((8 : Int32) * (r11.1 10 0 21)) + (3 : Int32)).toNatClampNeg (q16.1 10 0 23)))) rfl ?_
      obtain ⟨q23, h37, h⟩ := am_bd h
      refine am_Go.cut (S := (135, [some (.inr (.inr (some (10, 0)))), some (.inl q6), some (.inl ((8 : Int32) * (r11.1 10 0 21))), none], [], am_mk q23)) ?_ (fun key => ?_)
      · refine am_Go.n htb 7 (S' := (146, [some (.inr (.inr (some (10, 0)))), some (.inl q6), some (.inl ((8 : Int32) * (r11.1 10 0 21))), none], [.inl (q23.1 10 0 23), .inl (((8 : Int32) * (r11.1 10 0 21)) + (4 : Int32)), .inr (.inr (some (51, 0)))], am_mk q23)) rfl ?_
        obtain ⟨hg24, h⟩ := am_ck_some h
        refine am_Go.c1 htb (S' := (147, [some (.inr (.inr (some (10, 0)))), some (.inl q6), some (.inl ((8 : Int32) * (r11.1 10 0 21))), none], [], am_mk (am_si q23 51 0 (((8 : Int32) * (r11.1 10 0 21)) + (4 : Int32)).toNatClampNeg (q23.1 10 0 23)))) (if_neg hg24) ?_
        refine am_Go.n htb 7 (S' := (158, [some (.inr (.inr (some (10, 0)))), some (.inl q6), some (.inl ((8 : Int32) * (r11.1 10 0 21))), none], [.inl (q23.1 10 0 23), .inl (((8 : Int32) * (r11.1 10 0 21)) + (5 : Int32)), .inr (.inr (some (51, 0)))], am_mk (am_si q23 51 0 (((8 : Int32) * (r11.1 10 0 21)) + (4 : Int32)).toNatClampNeg (q23.1 10 0 23)))) rfl ?_
        obtain ⟨hg25, h⟩ := am_ck_some h
        refine am_Go.c1 htb (S' := (159, [some (.inr (.inr (some (10, 0)))), some (.inl q6), some (.inl ((8 : Int32) * (r11.1 10 0 21))), none], [], am_mk (am_si (am_si q23 51 0 (((8 : Int32) * (r11.1 10 0 21)) + (4 : Int32)).toNatClampNeg (q23.1 10 0 23)) 51 0 (((8 : Int32) * (r11.1 10 0 21)) + (5 : Int32)).toNatClampNeg (q23.1 10 0 23)))) (if_neg hg25) ?_
        refine am_Go.n htb 2 (S' := (163, [some (.inr (.inr (some (10, 0)))), some (.inl q6), some (.inl ((8 : Int32) * (r11.1 10 0 21))), none], [.inl (q23.1 10 0 19)], am_mk (am_si (am_si q23 51 0 (((8 : Int32) * (r11.1 10 0 21)) + (4 : Int32)).toNatClampNeg (q23.1 10 0 23)) 51 0 (((8 : Int32) * (r11.1 10 0 21)) + (5 : Int32)).toNatClampNeg (q23.1 10 0 23)))) rfl ?_
        obtain ⟨q34, h36, h⟩ := am_bd h
        refine am_Go.cut (S := (185, [some (.inr (.inr (some (10, 0)))), some (.inl q6), some (.inl ((8 : Int32) * (r11.1 10 0 21))), none], [], am_mk q34)) ?_ (fun key => ?_)
        · refine am_Go.n htb 7 (S' := (197, [some (.inr (.inr (some (10, 0)))), some (.inl q6), some (.inl ((8 : Int32) * (r11.1 10 0 21))), none], [.inl (q34.1 10 0 23), .inl (((8 : Int32) * (r11.1 10 0 21)) + (6 : Int32)), .inr (.inr (some (51, 0)))], am_mk q34)) rfl ?_
          obtain ⟨hg35, h⟩ := am_ck_some h
          refine am_Go.c1 htb (S' := (198, [some (.inr (.inr (some (10, 0)))), some (.inl q6), some (.inl ((8 : Int32) * (r11.1 10 0 21))), none], [], am_mk (am_si q34 51 0 (((8 : Int32) * (r11.1 10 0 21)) + (6 : Int32)).toNatClampNeg (q34.1 10 0 23)))) (if_neg hg35) ?_
          cases h
          exact am_Go.rt htb rfl
        · have h := h36
          by_cases hc26 : (q23.1 10 0 19) ≠ 0
          · rw [if_pos hc26] at h
            refine am_Go.c1 htb (S' := (185, [some (.inr (.inr (some (10, 0)))), some (.inl q6), some (.inl ((8 : Int32) * (r11.1 10 0 21))), none], [], am_mk (am_si (am_si q23 51 0 (((8 : Int32) * (r11.1 10 0 21)) + (4 : Int32)).toNatClampNeg (q23.1 10 0 23)) 51 0 (((8 : Int32) * (r11.1 10 0 21)) + (5 : Int32)).toNatClampNeg (q23.1 10 0 23)))) (if_pos hc26) ?_
            cases h
            exact am_Go.fg (by exact ⟨rfl, ⟨rfl, ⟨rfl, trivial⟩⟩⟩) key
          · rw [if_neg hc26] at h
            refine am_Go.c1 htb (S' := (166, [some (.inr (.inr (some (10, 0)))), some (.inl q6), some (.inl ((8 : Int32) * (r11.1 10 0 21))), none], [], am_mk (am_si (am_si q23 51 0 (((8 : Int32) * (r11.1 10 0 21)) + (4 : Int32)).toNatClampNeg (q23.1 10 0 23)) 51 0 (((8 : Int32) * (r11.1 10 0 21)) + (5 : Int32)).toNatClampNeg (q23.1 10 0 23)))) (if_neg hc26) ?_
            refine am_Go.n htb 2 (S' := (170, [some (.inr (.inr (some (10, 0)))), some (.inl q6), some (.inl ((8 : Int32) * (r11.1 10 0 21))), none], [.inr (.inl 294), .inr (.inr (some (10, 0)))], am_mk (am_si (am_si q23 51 0 (((8 : Int32) * (r11.1 10 0 21)) + (4 : Int32)).toNatClampNeg (q23.1 10 0 23)) 51 0 (((8 : Int32) * (r11.1 10 0 21)) + (5 : Int32)).toNatClampNeg (q23.1 10 0 23)))) rfl ?_
            obtain ⟨r27, h28, h⟩ := am_bd h
            refine am_Go.cl htb rfl (ex_X10_isWord d (by omega) 294 (am_si (am_si q23 51 0 (((8 : Int32) * (r11.1 10 0 21)) + (4 : Int32)).toNatClampNeg (q23.1 10 0 23)) 51 0 (((8 : Int32) * (r11.1 10 0 21)) + (5 : Int32)).toNatClampNeg (q23.1 10 0 23)) r27 h28) ?_
            show am_Go d 228 (173, [some (.inr (.inr (some (10, 0)))), some (.inl q6), some (.inl ((8 : Int32) * (r11.1 10 0 21))), none], [.inl r27], am_mk (am_si (am_si q23 51 0 (((8 : Int32) * (r11.1 10 0 21)) + (4 : Int32)).toNatClampNeg (q23.1 10 0 23)) 51 0 (((8 : Int32) * (r11.1 10 0 21)) + (5 : Int32)).toNatClampNeg (q23.1 10 0 23))) _ _ _ _
            by_cases hc29 : r27 = 0
            · rw [if_pos hc29] at h
              refine am_Go.c1 htb (S' := (185, [some (.inr (.inr (some (10, 0)))), some (.inl q6), some (.inl ((8 : Int32) * (r11.1 10 0 21))), none], [], am_mk (am_si (am_si q23 51 0 (((8 : Int32) * (r11.1 10 0 21)) + (4 : Int32)).toNatClampNeg (q23.1 10 0 23)) 51 0 (((8 : Int32) * (r11.1 10 0 21)) + (5 : Int32)).toNatClampNeg (q23.1 10 0 23)))) (if_pos hc29) ?_
              cases h
              exact am_Go.fg (by exact ⟨rfl, ⟨rfl, ⟨rfl, trivial⟩⟩⟩) key
            · rw [if_neg hc29] at h
              refine am_Go.c1 htb (S' := (176, [some (.inr (.inr (some (10, 0)))), some (.inl q6), some (.inl ((8 : Int32) * (r11.1 10 0 21))), none], [], am_mk (am_si (am_si q23 51 0 (((8 : Int32) * (r11.1 10 0 21)) + (4 : Int32)).toNatClampNeg (q23.1 10 0 23)) 51 0 (((8 : Int32) * (r11.1 10 0 21)) + (5 : Int32)).toNatClampNeg (q23.1 10 0 23)))) (if_neg hc29) ?_
              refine am_Go.n htb 1 (S' := (177, [some (.inr (.inr (some (10, 0)))), some (.inl q6), some (.inl ((8 : Int32) * (r11.1 10 0 21))), none], [.inr (.inr (some (10, 0)))], am_mk (am_si (am_si q23 51 0 (((8 : Int32) * (r11.1 10 0 21)) + (4 : Int32)).toNatClampNeg (q23.1 10 0 23)) 51 0 (((8 : Int32) * (r11.1 10 0 21)) + (5 : Int32)).toNatClampNeg (q23.1 10 0 23)))) rfl ?_
              obtain ⟨r30, h31, h⟩ := am_bd h
              refine am_Go.cl htb rfl (ex_X10_next d (by omega)  (am_si (am_si q23 51 0 (((8 : Int32) * (r11.1 10 0 21)) + (4 : Int32)).toNatClampNeg (q23.1 10 0 23)) 51 0 (((8 : Int32) * (r11.1 10 0 21)) + (5 : Int32)).toNatClampNeg (q23.1 10 0 23)) r30 h31) ?_
              show am_Go d 228 (180, [some (.inr (.inr (some (10, 0)))), some (.inl q6), some (.inl ((8 : Int32) * (r11.1 10 0 21))), none], [], am_mk r30) _ _ _ _
              refine am_Go.n htb 2 (S' := (182, [some (.inr (.inr (some (10, 0)))), some (.inl q6), some (.inl ((8 : Int32) * (r11.1 10 0 21))), none], [.inl 1, .inr (.inr (some (10, 0)))], am_mk r30)) rfl ?_
              obtain ⟨r32, h33, h⟩ := am_bd h
              refine am_Go.cl htb rfl (ex_X10_readExpression d (by omega) 1 r30 r32 h33) ?_
              show am_Go d 228 (185, [some (.inr (.inr (some (10, 0)))), some (.inl q6), some (.inl ((8 : Int32) * (r11.1 10 0 21))), none], [], am_mk r32) _ _ _ _
              cases h
              exact am_Go.fg (by exact ⟨rfl, ⟨rfl, ⟨rfl, trivial⟩⟩⟩) key
      · have h := h37
        by_cases hc20 : q6 = (3 : Int32)
        · rw [if_pos hc20] at h
          refine am_Go.c1 htb (S' := (135, [some (.inr (.inr (some (10, 0)))), some (.inl q6), some (.inl ((8 : Int32) * (r11.1 10 0 21))), none], [], am_mk (am_si (am_si (am_si q16 51 0 ((8 : Int32) * (r11.1 10 0 21)).toNatClampNeg q6) 10 0 21 ((q16.1 10 0 21) + (1 : Int32))) 51 0 (((8 : Int32) * (r11.1 10 0 21)) + (3 : Int32)).toNatClampNeg (q16.1 10 0 23)))) (if_pos hc20) ?_
          cases h
          exact am_Go.fg (by exact ⟨rfl, ⟨rfl, ⟨rfl, trivial⟩⟩⟩) key
        · rw [if_neg hc20] at h
          refine am_Go.c1 htb (S' := (130, [some (.inr (.inr (some (10, 0)))), some (.inl q6), some (.inl ((8 : Int32) * (r11.1 10 0 21))), none], [], am_mk (am_si (am_si (am_si q16 51 0 ((8 : Int32) * (r11.1 10 0 21)).toNatClampNeg q6) 10 0 21 ((q16.1 10 0 21) + (1 : Int32))) 51 0 (((8 : Int32) * (r11.1 10 0 21)) + (3 : Int32)).toNatClampNeg (q16.1 10 0 23)))) (if_neg hc20) ?_
          refine am_Go.n htb 2 (S' := (132, [some (.inr (.inr (some (10, 0)))), some (.inl q6), some (.inl ((8 : Int32) * (r11.1 10 0 21))), none], [.inl 0, .inr (.inr (some (10, 0)))], am_mk (am_si (am_si (am_si q16 51 0 ((8 : Int32) * (r11.1 10 0 21)).toNatClampNeg q6) 10 0 21 ((q16.1 10 0 21) + (1 : Int32))) 51 0 (((8 : Int32) * (r11.1 10 0 21)) + (3 : Int32)).toNatClampNeg (q16.1 10 0 23)))) rfl ?_
          obtain ⟨r21, h22, h⟩ := am_bd h
          refine am_Go.cl htb rfl (ex_X10_readExpression d (by omega) 0 (am_si (am_si (am_si q16 51 0 ((8 : Int32) * (r11.1 10 0 21)).toNatClampNeg q6) 10 0 21 ((q16.1 10 0 21) + (1 : Int32))) 51 0 (((8 : Int32) * (r11.1 10 0 21)) + (3 : Int32)).toNatClampNeg (q16.1 10 0 23)) r21 h22) ?_
          show am_Go d 228 (135, [some (.inr (.inr (some (10, 0)))), some (.inl q6), some (.inl ((8 : Int32) * (r11.1 10 0 21))), none], [], am_mk r21) _ _ _ _
          cases h
          exact am_Go.fg (by exact ⟨rfl, ⟨rfl, ⟨rfl, trivial⟩⟩⟩) key
    · rw [if_neg hc13] at h
      refine am_Go.c1 htb (S' := (64, [some (.inr (.inr (some (10, 0)))), some (.inl q6), none, none], [], am_mk r11)) (if_neg hc13) ?_
      cases h
      exact am_Go.rt htb rfl
  · have h := h38
    by_cases hc8 : q6 = (-1 : Int32)
    · rw [if_pos hc8] at h
      refine am_Go.c1 htb (S' := (53, [some (.inr (.inr (some (10, 0)))), some (.inl q6), none, none], [.inr (.inr (some (10, 0)))], am_mk m)) (if_pos hc8) ?_
      refine am_Go.n htb 1 (S' := (54, [some (.inr (.inr (some (10, 0)))), some (.inl q6), none, none], [.inl 0, .inr (.inr (some (10, 0)))], am_mk m)) rfl ?_
      cases h
      exact am_Go.fg (by exact ⟨rfl, ⟨rfl, trivial⟩⟩) key
    · rw [if_neg hc8] at h
      refine am_Go.c1 htb (S' := (40, [some (.inr (.inr (some (10, 0)))), some (.inl q6), none, none], [.inr (.inr (some (10, 0)))], am_mk m)) (if_neg hc8) ?_
      refine am_Go.n htb 3 (S' := (46, [some (.inr (.inr (some (10, 0)))), some (.inl q6), none, none], [.inl 12, .inl (m.1 10 0 21), .inr (.inr (some (10, 0)))], am_mk m)) rfl ?_
      by_cases hc9 : (12 : Int32) ≤ (m.1 10 0 21)
      · rw [if_pos hc9] at h
        refine am_Go.c1 htb (S' := (53, [some (.inr (.inr (some (10, 0)))), some (.inl q6), none, none], [.inr (.inr (some (10, 0)))], am_mk m)) (if_pos hc9) ?_
        refine am_Go.n htb 1 (S' := (54, [some (.inr (.inr (some (10, 0)))), some (.inl q6), none, none], [.inl 0, .inr (.inr (some (10, 0)))], am_mk m)) rfl ?_
        cases h
        exact am_Go.fg (by exact ⟨rfl, ⟨rfl, trivial⟩⟩) key
      · rw [if_neg hc9] at h
        refine am_Go.c1 htb (S' := (49, [some (.inr (.inr (some (10, 0)))), some (.inl q6), none, none], [.inr (.inr (some (10, 0)))], am_mk m)) (if_neg hc9) ?_
        refine am_Go.n htb 2 (S' := (54, [some (.inr (.inr (some (10, 0)))), some (.inl q6), none, none], [.inl 1, .inr (.inr (some (10, 0)))], am_mk m)) rfl ?_
        cases h
        exact am_Go.fg (by exact ⟨rfl, ⟨rfl, trivial⟩⟩) key
-- X10_law
set_option maxRecDepth 100000 in
theorem lt_X10_law_37 (d : Nat) (hd : 9 ≤ d + 1) {r : Option am_V} {M' : am_M} {kc ks : Nat} {n : Nat} {m : am_m} {t : am_m} (h : lp_X10_law_37 n  m = some t) (hk : am_Go d 229 (64, [some (.inr (.inr (some (10, 0)))), none, none], [], am_mk t) r M' kc ks) : am_Go d 229 (37, [some (.inr (.inr (some (10, 0)))), none, none], [], am_mk m) r M' kc ks := by
  have htb : am_tab 229 = at_229 := rfl
  induction n generalizing m with
  | zero => cases h
  | succ n ih =>
    unfold lp_X10_law_37 at h
    refine am_Go.n htb 2 (S' := (41, [some (.inr (.inr (some (10, 0)))), none, none], [.inl (m.1 10 0 19)], am_mk m)) rfl ?_
    by_cases hc6 : (m.1 10 0 19) ≠ 0
    · rw [if_pos hc6] at h
      refine am_Go.c1 htb (S' := (64, [some (.inr (.inr (some (10, 0)))), none, none], [], am_mk m)) (if_pos hc6) ?_
      cases h
      exact am_Go.fg (by exact ⟨rfl, trivial⟩) hk
    · rw [if_neg hc6] at h
      refine am_Go.c1 htb (S' := (44, [some (.inr (.inr (some (10, 0)))), none, none], [], am_mk m)) (if_neg hc6) ?_
      refine am_Go.n htb 2 (S' := (47, [some (.inr (.inr (some (10, 0)))), none, none], [.inl 59, .inr (.inr (some (10, 0)))], am_mk m)) rfl ?_
      obtain ⟨r7, h8, h⟩ := am_bd h
      refine am_Go.cl htb rfl (ex_X10_isSign d (by omega) 59 m r7 h8) ?_
      show am_Go d 229 (50, [some (.inr (.inr (some (10, 0)))), none, none], [.inl r7], am_mk m) _ _ _ _
      by_cases hc9 : r7 = 0
      · rw [if_pos hc9] at h
        refine am_Go.c1 htb (S' := (64, [some (.inr (.inr (some (10, 0)))), none, none], [], am_mk m)) (if_pos hc9) ?_
        cases h
        exact am_Go.fg (by exact ⟨rfl, trivial⟩) hk
      · rw [if_neg hc9] at h
        refine am_Go.c1 htb (S' := (53, [some (.inr (.inr (some (10, 0)))), none, none], [], am_mk m)) (if_neg hc9) ?_
        refine am_Go.n htb 1 (S' := (54, [some (.inr (.inr (some (10, 0)))), none, none], [.inr (.inr (some (10, 0)))], am_mk m)) rfl ?_
        obtain ⟨r10, h11, h⟩ := am_bd h
        refine am_Go.cl htb rfl (ex_X10_next d (by omega)  m r10 h11) ?_
        show am_Go d 229 (57, [some (.inr (.inr (some (10, 0)))), none, none], [], am_mk r10) _ _ _ _
        refine am_Go.n htb 1 (S' := (58, [some (.inr (.inr (some (10, 0)))), none, none], [.inr (.inr (some (10, 0)))], am_mk r10)) rfl ?_
        obtain ⟨r12, h13, h⟩ := am_bd h
        refine am_Go.cl htb rfl (ex_X10_readLaw d (by omega)  r10 r12 h13) ?_
        show am_Go d 229 (61, [some (.inr (.inr (some (10, 0)))), none, none], [], am_mk r12) _ _ _ _
        refine am_Go.n htb 1 (S' := (37, [some (.inr (.inr (some (10, 0)))), none, none], [], am_mk r12)) rfl ?_
        first | exact ih h | exact ih h hk
set_option maxRecDepth 100000 in
theorem lt_X10_law_110 (d : Nat) (hd : 9 ≤ d + 1) {r : Option am_V} {M' : am_M} {kc ks : Nat} {n : Nat} {x1 : Int32} {x2 : Int32} {m : am_m} {t : am_m} (h : lp_X10_law_110 n x1 x2 m = some t) (hk : am_Go d 229 (143, [some (.inr (.inr (some (10, 0)))), some (.inl x1), none], [], am_mk t) r M' kc ks) : am_Go d 229 (110, [some (.inr (.inr (some (10, 0)))), some (.inl x1), some (.inl x2)], [], am_mk m) r M' kc ks := by
  have htb : am_tab 229 = at_229 := rfl
  induction n generalizing x2 m with
  | zero => cases h
  | succ n ih =>
    unfold lp_X10_law_110 at h
    refine am_Go.n htb 5 (S' := (118, [some (.inr (.inr (some (10, 0)))), some (.inl x1), some (.inl x2)], [.inl ((8 : Int32) * (m.1 10 0 21)), .inl x2], am_mk m)) rfl ?_
    by_cases hc20 : ((8 : Int32) * (m.1 10 0 21)) ≤ x2
    · rw [if_pos hc20] at h
      refine am_Go.c1 htb (S' := (143, [some (.inr (.inr (some (10, 0)))), some (.inl x1), some (.inl x2)], [], am_mk m)) (if_pos hc20) ?_
      cases h
      exact am_Go.fg (by exact ⟨rfl, ⟨rfl, trivial⟩⟩) hk
    · rw [if_neg hc20] at h
      refine am_Go.c1 htb (S' := (121, [some (.inr (.inr (some (10, 0)))), some (.inl x1), some (.inl x2)], [], am_mk m)) (if_neg hc20) ?_
      refine am_Go.n htb 10 (S' := (135, [some (.inr (.inr (some (10, 0)))), some (.inl x1), some (.inl x2)], [.inl x2, .inr (.inr (some (51, 0))), .inl ((x1 + (2 : Int32)) + x2), .inr (.inr (some (44, 0)))], am_mk m)) rfl ?_
      obtain ⟨hg21, h⟩ := am_ck_some h
      refine am_Go.c1 htb (S' := (136, [some (.inr (.inr (some (10, 0)))), some (.inl x1), some (.inl x2)], [.inl (m.1 51 0 x2.toNatClampNeg), .inl ((x1 + (2 : Int32)) + x2), .inr (.inr (some (44, 0)))], am_mk m)) (if_neg hg21) ?_
      obtain ⟨hg22, h⟩ := am_ck_some h
      refine am_Go.c1 htb (S' := (137, [some (.inr (.inr (some (10, 0)))), some (.inl x1), some (.inl x2)], [], am_mk (am_si m 44 0 ((x1 + (2 : Int32)) + x2).toNatClampNeg (m.1 51 0 x2.toNatClampNeg)))) (if_neg hg22) ?_
      refine am_Go.n htb 2 (S' := (110, [some (.inr (.inr (some (10, 0)))), some (.inl x1), some (.inl (x2 + 1))], [], am_mk (am_si m 44 0 ((x1 + (2 : Int32)) + x2).toNatClampNeg (m.1 51 0 x2.toNatClampNeg)))) rfl ?_
      first | exact ih h | exact ih h hk
set_option maxRecDepth 100000 in
theorem lt_X10_law_145 (d : Nat) (hd : 9 ≤ d + 1) {r : Option am_V} {M' : am_M} {kc ks : Nat} {n : Nat} {x1 : Int32} {x2 : Int32} {m : am_m} {t : am_m} (h : lp_X10_law_145 n x1 x2 m = some t) (hk : am_Go d 229 (199, [some (.inr (.inr (some (10, 0)))), some (.inl x1), none], [], am_mk t) r M' kc ks) : am_Go d 229 (145, [some (.inr (.inr (some (10, 0)))), some (.inl x1), some (.inl x2)], [], am_mk m) r M' kc ks := by
  have htb : am_tab 229 = at_229 := rfl
  induction n generalizing x2 m with
  | zero => cases h
  | succ n ih =>
    unfold lp_X10_law_145 at h
    refine am_Go.n htb 3 (S' := (150, [some (.inr (.inr (some (10, 0)))), some (.inl x1), some (.inl x2)], [.inl (m.1 10 0 23), .inl x2], am_mk m)) rfl ?_
    by_cases hc25 : (m.1 10 0 23) ≤ x2
    · rw [if_pos hc25] at h
      refine am_Go.c1 htb (S' := (199, [some (.inr (.inr (some (10, 0)))), some (.inl x1), some (.inl x2)], [], am_mk m)) (if_pos hc25) ?_
      cases h
      exact am_Go.fg (by exact ⟨rfl, ⟨rfl, trivial⟩⟩) hk
    · rw [if_neg hc25] at h
      refine am_Go.c1 htb (S' := (153, [some (.inr (.inr (some (10, 0)))), some (.inl x1), some (.inl x2)], [], am_mk m)) (if_neg hc25) ?_
      refine am_Go.n htb 12 (S' := (170, [some (.inr (.inr (some (10, 0)))), some (.inl x1), some (.inl x2)], [.inl x2, .inr (.inr (some (52, 0))), .inl ((x1 + (98 : Int32)) + ((2 : Int32) * x2)), .inr (.inr (some (44, 0)))], am_mk m)) rfl ?_
      obtain ⟨hg26, h⟩ := am_ck_some h
      refine am_Go.c1 htb (S' := (171, [some (.inr (.inr (some (10, 0)))), some (.inl x1), some (.inl x2)], [.inl (m.1 52 0 x2.toNatClampNeg), .inl ((x1 + (98 : Int32)) + ((2 : Int32) * x2)), .inr (.inr (some (44, 0)))], am_mk m)) (if_neg hg26) ?_
      obtain ⟨hg27, h⟩ := am_ck_some h
      refine am_Go.c1 htb (S' := (172, [some (.inr (.inr (some (10, 0)))), some (.inl x1), some (.inl x2)], [], am_mk (am_si m 44 0 ((x1 + (98 : Int32)) + ((2 : Int32) * x2)).toNatClampNeg (m.1 52 0 x2.toNatClampNeg)))) (if_neg hg27) ?_
      refine am_Go.n htb 14 (S' := (191, [some (.inr (.inr (some (10, 0)))), some (.inl x1), some (.inl x2)], [.inl x2, .inr (.inr (some (53, 0))), .inl (((x1 + (98 : Int32)) + ((2 : Int32) * x2)) + (1 : Int32)), .inr (.inr (some (44, 0)))], am_mk (am_si m 44 0 ((x1 + (98 : Int32)) + ((2 : Int32) * x2)).toNatClampNeg (m.1 52 0 x2.toNatClampNeg)))) rfl ?_
      obtain ⟨hg28, h⟩ := am_ck_some h
      refine am_Go.c1 htb (S' := (192, [some (.inr (.inr (some (10, 0)))), some (.inl x1), some (.inl x2)], [.inl (m.1 53 0 x2.toNatClampNeg), .inl (((x1 + (98 : Int32)) + ((2 : Int32) * x2)) + (1 : Int32)), .inr (.inr (some (44, 0)))], am_mk (am_si m 44 0 ((x1 + (98 : Int32)) + ((2 : Int32) * x2)).toNatClampNeg (m.1 52 0 x2.toNatClampNeg)))) (if_neg hg28) ?_
      obtain ⟨hg29, h⟩ := am_ck_some h
      refine am_Go.c1 htb (S' := (193, [some (.inr (.inr (some (10, 0)))), some (.inl x1), some (.inl x2)], [], am_mk (am_si (am_si m 44 0 ((x1 + (98 : Int32)) + ((2 : Int32) * x2)).toNatClampNeg (m.1 52 0 x2.toNatClampNeg)) 44 0 (((x1 + (98 : Int32)) + ((2 : Int32) * x2)) + (1 : Int32)).toNatClampNeg (m.1 53 0 x2.toNatClampNeg)))) (if_neg hg29) ?_
      refine am_Go.n htb 2 (S' := (145, [some (.inr (.inr (some (10, 0)))), some (.inl x1), some (.inl (x2 + 1))], [], am_mk (am_si (am_si m 44 0 ((x1 + (98 : Int32)) + ((2 : Int32) * x2)).toNatClampNeg (m.1 52 0 x2.toNatClampNeg)) 44 0 (((x1 + (98 : Int32)) + ((2 : Int32) * x2)) + (1 : Int32)).toNatClampNeg (m.1 53 0 x2.toNatClampNeg)))) rfl ?_
      first | exact ih h | exact ih h hk
set_option maxRecDepth 100000 in
theorem ex_X10_law (d : Nat) (hd : 9 ≤ d)  (m : am_m) (t : Int32 × am_m) (h : fn_X10_law  m = some t) : am_Ex am_cod d 229 [.inr (.inr (some (10, 0)))] (am_mk m) (some (.inl t.1)) (am_mk t.2) 0 0 := by
  obtain ⟨d, rfl⟩ : ∃ e, d = e + 1 := ⟨d - 1, by omega⟩
  have htb : am_tab 229 = at_229 := rfl
  refine ⟨Nat.le_of_ble_eq_true rfl, ?_⟩
  unfold fn_X10_law at h
  show am_Go d 229 (0, [some (.inr (.inr (some (10, 0)))), none, none], [], am_mk m) _ _ 0 0
  refine am_Go.n htb 8 (S' := (13, [some (.inr (.inr (some (10, 0)))), none, none], [.inl 6, .inl (m.1 44 0 2)], am_mk (am_si m 10 0 0 0))) rfl ?_
  by_cases hc1 : (m.1 44 0 2) ≠ (6 : Int32)
  · rw [if_pos hc1] at h
    refine am_Go.c1 htb (S' := (28, [some (.inr (.inr (some (10, 0)))), none, none], [], am_mk (am_si m 10 0 0 0))) (if_pos hc1) ?_
    refine am_Go.n htb 2 (S' := (30, [some (.inr (.inr (some (10, 0)))), none, none], [.inl 0, .inr (.inr (some (10, 0)))], am_mk (am_si m 10 0 0 0))) rfl ?_
    obtain ⟨r2, h3, h⟩ := am_bd h
    refine am_Go.cl htb rfl (ex_X10_beginText d (by omega) 0 (am_si m 10 0 0 0) r2 h3) ?_
    show am_Go d 229 (33, [some (.inr (.inr (some (10, 0)))), none, none], [], am_mk r2) _ _ _ _
    refine am_Go.n htb 1 (S' := (34, [some (.inr (.inr (some (10, 0)))), none, none], [.inr (.inr (some (10, 0)))], am_mk r2)) rfl ?_
    obtain ⟨r4, h5, h⟩ := am_bd h
    refine am_Go.cl htb rfl (ex_X10_readLaw d (by omega)  r2 r4 h5) ?_
    show am_Go d 229 (37, [some (.inr (.inr (some (10, 0)))), none, none], [], am_mk r4) _ _ _ _
    obtain ⟨q14, h15, h⟩ := am_bd h
    refine lt_X10_law_37 _ hd (h := h15) (hk := ?_)
    refine am_Go.n htb 1 (S' := (65, [some (.inr (.inr (some (10, 0)))), none, none], [.inr (.inr (some (10, 0)))], am_mk q14)) rfl ?_
    obtain ⟨r16, h17, h⟩ := am_bd h
    refine am_Go.cl htb rfl (ex_X10_endText d (by omega)  q14 r16 h17) ?_
    show am_Go d 229 (68, [some (.inr (.inr (some (10, 0)))), none, none], [], am_mk r16) _ _ _ _
    refine am_Go.n htb 2 (S' := (72, [some (.inr (.inr (some (10, 0)))), none, none], [.inl (r16.1 10 0 19)], am_mk r16)) rfl ?_
    by_cases hc18 : (r16.1 10 0 19) = 0
    · rw [if_pos hc18] at h
      refine am_Go.c1 htb (S' := (82, [some (.inr (.inr (some (10, 0)))), none, none], [], am_mk r16)) (if_pos hc18) ?_
      refine am_Go.n htb 16 (S' := (107, [some (.inr (.inr (some (10, 0)))), some (.inl ((118 : Int32) + ((900 : Int32) * (r16.1 44 0 2)))), none], [.inl (r16.1 10 0 21), .inl (((118 : Int32) + ((900 : Int32) * (r16.1 44 0 2))) + (1 : Int32)), .inr (.inr (some (44, 0)))], am_mk r16)) rfl ?_
      obtain ⟨hg19, h⟩ := am_ck_some h
      refine am_Go.c1 htb (S' := (108, [some (.inr (.inr (some (10, 0)))), some (.inl ((118 : Int32) + ((900 : Int32) * (r16.1 44 0 2)))), none], [], am_mk (am_si r16 44 0 (((118 : Int32) + ((900 : Int32) * (r16.1 44 0 2))) + (1 : Int32)).toNatClampNeg (r16.1 10 0 21)))) (if_neg hg19) ?_
      refine am_Go.n htb 2 (S' := (110, [some (.inr (.inr (some (10, 0)))), some (.inl ((118 : Int32) + ((900 : Int32) * (r16.1 44 0 2)))), some (.inl 0)], [], am_mk (am_si r16 44 0 (((118 : Int32) + ((900 : Int32) * (r16.1 44 0 2))) + (1 : Int32)).toNatClampNeg (r16.1 10 0 21)))) rfl ?_
      obtain ⟨q23, h24, h⟩ := am_bd h
      refine lt_X10_law_110 _ hd (h := h24) (hk := ?_)
      refine am_Go.n htb 2 (S' := (145, [some (.inr (.inr (some (10, 0)))), some (.inl ((118 : Int32) + ((900 : Int32) * (r16.1 44 0 2)))), some (.inl 0)], [], am_mk q23)) rfl ?_
      obtain ⟨q30, h31, h⟩ := am_bd h
      refine lt_X10_law_145 _ hd (h := h31) (hk := ?_)
      refine am_Go.n htb 15 (S' := (218, [some (.inr (.inr (some (10, 0)))), some (.inl ((118 : Int32) + ((900 : Int32) * (r16.1 44 0 2)))), none], [.inl (((q30.1 44 0 2) + (1 : Int32)) - (1 : Int32)), .inr (.inr (some (10, 0)))], am_mk (am_si q30 44 0 2 ((q30.1 44 0 2) + (1 : Int32))))) rfl ?_
      obtain ⟨r32, h33, h⟩ := am_bd h
      refine am_Go.cl htb rfl (ex_X10_tell d (by omega) (((q30.1 44 0 2) + (1 : Int32)) - (1 : Int32)) (am_si q30 44 0 2 ((q30.1 44 0 2) + (1 : Int32))) r32 h33) ?_
      show am_Go d 229 (221, [some (.inr (.inr (some (10, 0)))), some (.inl ((118 : Int32) + ((900 : Int32) * (r16.1 44 0 2)))), none], [.inl r32.1], am_mk r32.2) _ _ _ _
      cases h
      exact am_Go.rt htb rfl
    · rw [if_neg hc18] at h
      refine am_Go.c1 htb (S' := (75, [some (.inr (.inr (some (10, 0)))), none, none], [], am_mk r16)) (if_neg hc18) ?_
      refine am_Go.n htb 2 (S' := (78, [some (.inr (.inr (some (10, 0)))), none, none], [.inl (-6), .inr (.inr (some (10, 0)))], am_mk r16)) rfl ?_
      obtain ⟨r34, h35, h⟩ := am_bd h
      refine am_Go.cl htb rfl (ex_X10_tell d (by omega) (-6) r16 r34 h35) ?_
      show am_Go d 229 (81, [some (.inr (.inr (some (10, 0)))), none, none], [.inl r34.1], am_mk r34.2) _ _ _ _
      cases h
      exact am_Go.rt htb rfl
  · rw [if_neg hc1] at h
    refine am_Go.c1 htb (S' := (16, [some (.inr (.inr (some (10, 0)))), none, none], [], am_mk (am_si m 10 0 0 0))) (if_neg hc1) ?_
    refine am_Go.n htb 5 (S' := (24, [some (.inr (.inr (some (10, 0)))), none, none], [.inl (-5), .inr (.inr (some (10, 0)))], am_mk (am_si (am_si m 10 0 0 0) 10 0 13 0))) rfl ?_
    obtain ⟨r36, h37, h⟩ := am_bd h
    refine am_Go.cl htb rfl (ex_X10_tell d (by omega) (-5) (am_si (am_si m 10 0 0 0) 10 0 13 0) r36 h37) ?_
    show am_Go d 229 (27, [some (.inr (.inr (some (10, 0)))), none, none], [.inl r36.1], am_mk r36.2) _ _ _ _
    cases h
    exact am_Go.rt htb rfl
-- X10_isLaw
set_option maxRecDepth 100000 in
theorem ex_X10_isLaw (d : Nat) (hd : 2 ≤ d) (a1 : Int32) (m : am_m) (t : Int32) (h : fn_X10_isLaw a1 m = some t) : am_Ex am_cod d 230 [.inr (.inr (some (10, 0))), .inl a1] (am_mk m) (some (.inl t)) (am_mk m) 0 0 := by
  obtain ⟨d, rfl⟩ : ∃ e, d = e + 1 := ⟨d - 1, by omega⟩
  have htb : am_tab 230 = at_230 := rfl
  refine ⟨Nat.le_of_ble_eq_true rfl, ?_⟩
  unfold fn_X10_isLaw at h
  show am_Go d 230 (0, [some (.inr (.inr (some (10, 0)))), some (.inl a1)], [], am_mk m) _ _ 0 0
  refine am_Go.n htb 2 (S' := (2, [some (.inr (.inr (some (10, 0)))), some (.inl a1)], [.inl (-1), .inl a1], am_mk m)) rfl ?_
  by_cases hc1 : a1 = (-1 : Int32)
  · rw [if_pos hc1] at h
    refine am_Go.c1 htb (S' := (23, [some (.inr (.inr (some (10, 0)))), some (.inl a1)], [], am_mk m)) (if_pos hc1) ?_
    refine am_Go.n htb 2 (S' := (28, [some (.inr (.inr (some (10, 0)))), some (.inl a1)], [.inl 1], am_mk m)) rfl ?_
    cases h
    exact am_Go.rt htb rfl
  · rw [if_neg hc1] at h
    refine am_Go.c1 htb (S' := (5, [some (.inr (.inr (some (10, 0)))), some (.inl a1)], [], am_mk m)) (if_neg hc1) ?_
    refine am_Go.n htb 10 (S' := (17, [some (.inr (.inr (some (10, 0)))), some (.inl a1)], [.inr (.inl (((m.1 44 0 2).toInt64) - (1 : Int64))), .inr (.inl 0), .inr (.inl a1.toInt64)], am_mk m)) rfl ?_
    obtain ⟨r2, h3, h⟩ := am_bd h
    refine am_Go.cl htb rfl (ex_X10_in d (by omega) a1.toInt64 0 (((m.1 44 0 2).toInt64) - (1 : Int64)) m r2 h3) ?_
    show am_Go d 230 (20, [some (.inr (.inr (some (10, 0)))), some (.inl a1)], [.inl r2], am_mk m) _ _ _ _
    by_cases hc4 : r2 = 0
    · rw [if_pos hc4] at h
      refine am_Go.c1 htb (S' := (27, [some (.inr (.inr (some (10, 0)))), some (.inl a1)], [], am_mk m)) (if_pos hc4) ?_
      refine am_Go.n htb 1 (S' := (28, [some (.inr (.inr (some (10, 0)))), some (.inl a1)], [.inl 0], am_mk m)) rfl ?_
      cases h
      exact am_Go.rt htb rfl
    · rw [if_neg hc4] at h
      refine am_Go.c1 htb (S' := (23, [some (.inr (.inr (some (10, 0)))), some (.inl a1)], [], am_mk m)) (if_neg hc4) ?_
      refine am_Go.n htb 2 (S' := (28, [some (.inr (.inr (some (10, 0)))), some (.inl a1)], [.inl 1], am_mk m)) rfl ?_
      cases h
      exact am_Go.rt htb rfl
-- X10_force
set_option maxRecDepth 100000 in
theorem ex_X10_force (d : Nat) (hd : 3 ≤ d) (a1 : Int32) (m : am_m) (t : Int32 × am_m) (h : fn_X10_force a1 m = some t) : am_Ex am_cod d 231 [.inr (.inr (some (10, 0))), .inl a1] (am_mk m) (some (.inl t.1)) (am_mk t.2) 0 0 := by
  obtain ⟨d, rfl⟩ : ∃ e, d = e + 1 := ⟨d - 1, by omega⟩
  have htb : am_tab 231 = at_231 := rfl
  refine ⟨Nat.le_of_ble_eq_true rfl, ?_⟩
  unfold fn_X10_force at h
  show am_Go d 231 (0, [some (.inr (.inr (some (10, 0)))), some (.inl a1)], [], am_mk m) _ _ 0 0
  refine am_Go.n htb 5 (S' := (7, [some (.inr (.inr (some (10, 0)))), some (.inl a1)], [.inl a1, .inr (.inr (some (10, 0)))], am_mk (am_si m 10 0 0 0))) rfl ?_
  obtain ⟨r1, h2, h⟩ := am_bd h
  refine am_Go.cl htb rfl (ex_X10_isLaw d (by omega) a1 (am_si m 10 0 0 0) r1 h2) ?_
  show am_Go d 231 (10, [some (.inr (.inr (some (10, 0)))), some (.inl a1)], [.inl r1], am_mk (am_si m 10 0 0 0)) _ _ _ _
  by_cases hc3 : r1 = 0
  · rw [if_pos hc3] at h
    refine am_Go.c1 htb (S' := (22, [some (.inr (.inr (some (10, 0)))), some (.inl a1)], [], am_mk (am_si m 10 0 0 0))) (if_pos hc3) ?_
    refine am_Go.n htb 2 (S' := (25, [some (.inr (.inr (some (10, 0)))), some (.inl a1)], [.inl (-2), .inr (.inr (some (10, 0)))], am_mk (am_si m 10 0 0 0))) rfl ?_
    obtain ⟨r4, h5, h⟩ := am_bd h
    refine am_Go.cl htb rfl (ex_X10_tell d (by omega) (-2) (am_si m 10 0 0 0) r4 h5) ?_
    show am_Go d 231 (28, [some (.inr (.inr (some (10, 0)))), some (.inl a1)], [.inl r4.1], am_mk r4.2) _ _ _ _
    cases h
    exact am_Go.rt htb rfl
  · rw [if_neg hc3] at h
    refine am_Go.c1 htb (S' := (13, [some (.inr (.inr (some (10, 0)))), some (.inl a1)], [], am_mk (am_si m 10 0 0 0))) (if_neg hc3) ?_
    refine am_Go.n htb 3 (S' := (16, [some (.inr (.inr (some (10, 0)))), some (.inl a1)], [.inl a1, .inl 3, .inr (.inr (some (10, 0)))], am_mk (am_si m 10 0 0 0))) rfl ?_
    obtain ⟨r6, h7, h⟩ := am_bd h
    refine am_Go.cl htb rfl (ex_X10_change d (by omega) 3 a1 (am_si m 10 0 0 0) r6 h7) ?_
    show am_Go d 231 (19, [some (.inr (.inr (some (10, 0)))), some (.inl a1)], [.inl r6.1], am_mk r6.2) _ _ _ _
    refine am_Go.n htb 1 (S' := (28, [some (.inr (.inr (some (10, 0)))), some (.inl a1)], [.inl r6.1], am_mk r6.2)) rfl ?_
    cases h
    exact am_Go.rt htb rfl
-- X10_feedsAt
set_option maxRecDepth 100000 in
theorem ex_X10_feedsAt (d : Nat) (hd : 6 ≤ d) (a1 : Int32) (a2 : Int32) (m : am_m) (t : Int32 × am_m) (h : fn_X10_feedsAt a1 a2 m = some t) : am_Ex am_cod d 237 [.inr (.inr (some (10, 0))), .inl a1, .inl a2] (am_mk m) (some (.inl t.1)) (am_mk t.2) 0 0 := by
  obtain ⟨d, rfl⟩ : ∃ e, d = e + 1 := ⟨d - 1, by omega⟩
  have htb : am_tab 237 = at_237 := rfl
  refine ⟨Nat.le_of_ble_eq_true rfl, ?_⟩
  unfold fn_X10_feedsAt at h
  show am_Go d 237 (0, [some (.inr (.inr (some (10, 0)))), some (.inl a1), some (.inl a2)], [], am_mk m) _ _ 0 0
  refine am_Go.n htb 6 (S' := (8, [some (.inr (.inr (some (10, 0)))), some (.inl a1), some (.inl a2)], [.inr (.inl 2), .inl a2, .inl (-1), .inl a1, .inl 1, .inr (.inr (some (10, 0)))], am_mk m)) rfl ?_
  obtain ⟨r1, h2, h⟩ := am_bd h
  refine am_Go.cl htb rfl (ex_X10_tells d (by omega) 1 a1 (-1) a2 2 m r1 h2) ?_
  show am_Go d 237 (11, [some (.inr (.inr (some (10, 0)))), some (.inl a1), some (.inl a2)], [.inr (.inl r1.1)], am_mk r1.2) _ _ _ _
  refine am_Go.n htb 2 (S' := (14, [some (.inr (.inr (some (10, 0)))), some (.inl a1), some (.inl a2)], [.inl 9, .inl 0, .inr (.inl r1.1)], am_mk r1.2)) rfl ?_
  obtain ⟨r3, h4, h⟩ := am_bd h
  refine am_Go.cl htb rfl (ex_X10_bounded d (by omega) r1.1 0 9 r1.2 r3 h4) ?_
  show am_Go d 237 (17, [some (.inr (.inr (some (10, 0)))), some (.inl a1), some (.inl a2)], [.inl r3], am_mk r1.2) _ _ _ _
  cases h
  exact am_Go.rt htb rfl
-- X10_isTable
set_option maxRecDepth 100000 in
theorem lt_X10_isTable_16 (d : Nat) (hd : 2 ≤ d + 1) {r : Option am_V} {M' : am_M} {kc ks : Nat} {n : Nat} {x1 : Int32} {x2 : Int32} {x3 : Int32} {m : am_m} {t : Int32} (h : lp_X10_isTable_16 n x1 x2 x3 m = some t) (hk : am_Go d 243 (68, [some (.inr (.inr (some (10, 0)))), some (.inl x1), some (.inl t), none], [], am_mk m) r M' kc ks) : am_Go d 243 (16, [some (.inr (.inr (some (10, 0)))), some (.inl x1), some (.inl x2), some (.inl x3)], [], am_mk m) r M' kc ks := by
  have htb : am_tab 243 = at_243 := rfl
  induction n generalizing x2 x3 with
  | zero => cases h
  | succ n ih =>
    unfold lp_X10_isTable_16 at h
    refine am_Go.n htb 5 (S' := (23, [some (.inr (.inr (some (10, 0)))), some (.inl x1), some (.inl x2), some (.inl x3)], [.inl (m.1 44 0 0), .inl x3], am_mk m)) rfl ?_
    by_cases hc4 : (m.1 44 0 0) ≤ x3
    · rw [if_pos hc4] at h
      refine am_Go.c1 htb (S' := (68, [some (.inr (.inr (some (10, 0)))), some (.inl x1), some (.inl x2), some (.inl x3)], [], am_mk m)) (if_pos hc4) ?_
      cases h
      exact am_Go.fg (by exact ⟨rfl, ⟨rfl, ⟨rfl, trivial⟩⟩⟩) hk
    · rw [if_neg hc4] at h
      refine am_Go.c1 htb (S' := (26, [some (.inr (.inr (some (10, 0)))), some (.inl x1), some (.inl x2), some (.inl x3)], [], am_mk m)) (if_neg hc4) ?_
      refine am_Go.n htb 1 (S' := (27, [some (.inr (.inr (some (10, 0)))), some (.inl x1), some (.inl x2), some (.inl x3)], [.inl x2], am_mk m)) rfl ?_
      by_cases hc5 : x2 = 0
      · rw [if_pos hc5] at h
        refine am_Go.c1 htb (S' := (68, [some (.inr (.inr (some (10, 0)))), some (.inl x1), some (.inl x2), some (.inl x3)], [], am_mk m)) (if_pos hc5) ?_
        cases h
        exact am_Go.fg (by exact ⟨rfl, ⟨rfl, ⟨rfl, trivial⟩⟩⟩) hk
      · rw [if_neg hc5] at h
        refine am_Go.c1 htb (S' := (30, [some (.inr (.inr (some (10, 0)))), some (.inl x1), some (.inl x2), some (.inl x3)], [], am_mk m)) (if_neg hc5) ?_
        refine am_Go.n htb 2 (S' := (32, [some (.inr (.inr (some (10, 0)))), some (.inl x1), some (.inl x2), some (.inl x3)], [.inl x3, .inl x1], am_mk m)) rfl ?_
        obtain ⟨r6, h7, h⟩ := am_bd h
        refine am_Go.cl htb rfl (ex_X10_is d (by omega) x1 x3 m r6 h7) ?_
        show am_Go d 243 (35, [some (.inr (.inr (some (10, 0)))), some (.inl x1), some (.inl x2), some (.inl x3)], [.inl r6], am_mk m) _ _ _ _
        obtain ⟨q12, h13, h⟩ := am_bd h
        refine am_Go.cut (S := (61, [some (.inr (.inr (some (10, 0)))), some (.inl x1), some (.inl x2), some (.inl x3)], [.inl q12], am_mk m)) ?_ (fun key => ?_)
        · refine am_Go.n htb 3 (S' := (16, [some (.inr (.inr (some (10, 0)))), some (.inl x1), some (.inl q12), some (.inl (x3 + 1))], [], am_mk m)) rfl ?_
          first | exact ih h | exact ih h hk
        · have h := h13
          by_cases hc8 : r6 = 0
          · rw [if_pos hc8] at h
            refine am_Go.c1 htb (S' := (56, [some (.inr (.inr (some (10, 0)))), some (.inl x1), some (.inl x2), some (.inl x3)], [], am_mk m)) (if_pos hc8) ?_
            refine am_Go.n htb 2 (S' := (61, [some (.inr (.inr (some (10, 0)))), some (.inl x1), some (.inl x2), some (.inl x3)], [.inl 1], am_mk m)) rfl ?_
            cases h
            exact am_Go.fg (by exact ⟨rfl, ⟨rfl, ⟨rfl, ⟨rfl, trivial⟩⟩⟩⟩) key
          · rw [if_neg hc8] at h
            refine am_Go.c1 htb (S' := (38, [some (.inr (.inr (some (10, 0)))), some (.inl x1), some (.inl x2), some (.inl x3)], [], am_mk m)) (if_neg hc8) ?_
            refine am_Go.n htb 9 (S' := (47, [some (.inr (.inr (some (10, 0)))), some (.inl x1), some (.inl x2), some (.inl x3)], [.inl x3, .inr (.inr (some (10, 0))), .inl (x1 &&& (((1 : Int32) <<< (x3 &&& 31)) ^^^ (-1 : Int32)))], am_mk m)) rfl ?_
            obtain ⟨r9, h10, h⟩ := am_bd h
            refine am_Go.cl htb rfl (ex_X10_sitsWith d (by omega) x3 m r9 h10) ?_
            show am_Go d 243 (50, [some (.inr (.inr (some (10, 0)))), some (.inl x1), some (.inl x2), some (.inl x3)], [.inl r9, .inl (x1 &&& (((1 : Int32) <<< (x3 &&& 31)) ^^^ (-1 : Int32)))], am_mk m) _ _ _ _
            refine am_Go.n htb 3 (S' := (53, [some (.inr (.inr (some (10, 0)))), some (.inl x1), some (.inl x2), some (.inl x3)], [.inl ((x1 &&& (((1 : Int32) <<< (x3 &&& 31)) ^^^ (-1 : Int32))) &&& (r9 ^^^ (-1 : Int32)))], am_mk m)) rfl ?_
            by_cases hc11 : ((x1 &&& (((1 : Int32) <<< (x3 &&& 31)) ^^^ (-1 : Int32))) &&& (r9 ^^^ (-1 : Int32))) ≠ 0
            · rw [if_pos hc11] at h
              refine am_Go.c1 htb (S' := (60, [some (.inr (.inr (some (10, 0)))), some (.inl x1), some (.inl x2), some (.inl x3)], [], am_mk m)) (if_pos hc11) ?_
              refine am_Go.n htb 1 (S' := (61, [some (.inr (.inr (some (10, 0)))), some (.inl x1), some (.inl x2), some (.inl x3)], [.inl 0], am_mk m)) rfl ?_
              cases h
              exact am_Go.fg (by exact ⟨rfl, ⟨rfl, ⟨rfl, ⟨rfl, trivial⟩⟩⟩⟩) key
            · rw [if_neg hc11] at h
              refine am_Go.c1 htb (S' := (56, [some (.inr (.inr (some (10, 0)))), some (.inl x1), some (.inl x2), some (.inl x3)], [], am_mk m)) (if_neg hc11) ?_
              refine am_Go.n htb 2 (S' := (61, [some (.inr (.inr (some (10, 0)))), some (.inl x1), some (.inl x2), some (.inl x3)], [.inl 1], am_mk m)) rfl ?_
              cases h
              exact am_Go.fg (by exact ⟨rfl, ⟨rfl, ⟨rfl, ⟨rfl, trivial⟩⟩⟩⟩) key
set_option maxRecDepth 100000 in
theorem ex_X10_isTable (d : Nat) (hd : 2 ≤ d) (a1 : Int32) (m : am_m) (t : Int32) (h : fn_X10_isTable a1 m = some t) : am_Ex am_cod d 243 [.inr (.inr (some (10, 0))), .inl a1] (am_mk m) (some (.inl t)) (am_mk m) 0 0 := by
  obtain ⟨d, rfl⟩ : ∃ e, d = e + 1 := ⟨d - 1, by omega⟩
  have htb : am_tab 243 = at_243 := rfl
  refine ⟨Nat.le_of_ble_eq_true rfl, ?_⟩
  unfold fn_X10_isTable at h
  show am_Go d 243 (0, [some (.inr (.inr (some (10, 0)))), some (.inl a1), none, none], [], am_mk m) _ _ 0 0
  refine am_Go.n htb 1 (S' := (1, [some (.inr (.inr (some (10, 0)))), some (.inl a1), none, none], [.inl a1], am_mk m)) rfl ?_
  obtain ⟨r1, h2, h⟩ := am_bd h
  refine am_Go.cl htb rfl (ex_X10_ones d (by omega) a1 m r1 h2) ?_
  show am_Go d 243 (4, [some (.inr (.inr (some (10, 0)))), some (.inl a1), none, none], [.inl r1], am_mk m) _ _ _ _
  refine am_Go.n htb 1 (S' := (5, [some (.inr (.inr (some (10, 0)))), some (.inl a1), none, none], [.inl 1, .inl r1], am_mk m)) rfl ?_
  refine am_Go.cut (S := (13, [some (.inr (.inr (some (10, 0)))), some (.inl a1), none, none], [.inl (if r1 ≤ (1 : Int32) then (0 : Int32) else (1 : Int32))], am_mk m)) ?_ (fun key => ?_)
  · refine am_Go.n htb 3 (S' := (16, [some (.inr (.inr (some (10, 0)))), some (.inl a1), some (.inl (if r1 ≤ (1 : Int32) then (0 : Int32) else (1 : Int32))), some (.inl 0)], [], am_mk m)) rfl ?_
    obtain ⟨q14, h15, h⟩ := am_bd h
    refine lt_X10_isTable_16 _ hd (h := h15) (hk := ?_)
    refine am_Go.n htb 1 (S' := (69, [some (.inr (.inr (some (10, 0)))), some (.inl a1), some (.inl q14), none], [.inl q14], am_mk m)) rfl ?_
    obtain ⟨hz16, h⟩ := am_gd_some h
    cases h
    exact am_Go.rt htb (if_pos hz16)
  · by_cases hc3 : r1 ≤ (1 : Int32)
    · refine am_Go.c1 htb (S' := (12, [some (.inr (.inr (some (10, 0)))), some (.inl a1), none, none], [], am_mk m)) (if_pos hc3) ?_
      refine am_Go.n htb 1 (S' := (13, [some (.inr (.inr (some (10, 0)))), some (.inl a1), none, none], [.inl 0], am_mk m)) rfl ?_
      simp only [if_pos hc3] at key
      exact am_Go.fg (by exact ⟨rfl, ⟨rfl, trivial⟩⟩) key
    · refine am_Go.c1 htb (S' := (8, [some (.inr (.inr (some (10, 0)))), some (.inl a1), none, none], [], am_mk m)) (if_neg hc3) ?_
      refine am_Go.n htb 2 (S' := (13, [some (.inr (.inr (some (10, 0)))), some (.inl a1), none, none], [.inl 1], am_mk m)) rfl ?_
      simp only [if_neg hc3] at key
      exact am_Go.fg (by exact ⟨rfl, ⟨rfl, trivial⟩⟩) key
-- X10_harmNow
set_option maxRecDepth 100000 in
theorem ex_X10_harmNow (d : Nat) (hd : 3 ≤ d) (a1 : Int32) (a2 : Int32) (a3 : Int32) (m : am_m) (t : Int32 × am_m) (h : fn_X10_harmNow a1 a2 a3 m = some t) : am_Ex am_cod d 244 [.inr (.inr (some (10, 0))), .inl a1, .inl a2, .inl a3] (am_mk m) (some (.inl t.1)) (am_mk t.2) 0 0 := by
  obtain ⟨d, rfl⟩ : ∃ e, d = e + 1 := ⟨d - 1, by omega⟩
  have htb : am_tab 244 = at_244 := rfl
  refine ⟨Nat.le_of_ble_eq_true rfl, ?_⟩
  unfold fn_X10_harmNow at h
  show am_Go d 244 (0, [some (.inr (.inr (some (10, 0)))), some (.inl a1), some (.inl a2), some (.inl a3), none], [], am_mk m) _ _ 0 0
  refine am_Go.n htb 4 (S' := (6, [some (.inr (.inr (some (10, 0)))), some (.inl a1), some (.inl a2), some (.inl a3), none], [.inr (.inl 9), .inr (.inl 1), .inr (.inl a3.toInt64)], am_mk m)) rfl ?_
  obtain ⟨r1, h2, h⟩ := am_bd h
  refine am_Go.cl htb rfl (ex_X10_in d (by omega) a3.toInt64 1 9 m r1 h2) ?_
  show am_Go d 244 (9, [some (.inr (.inr (some (10, 0)))), some (.inl a1), some (.inl a2), some (.inl a3), none], [.inl r1], am_mk m) _ _ _ _
  by_cases hc3 : r1 = 0
  · rw [if_pos hc3] at h
    refine am_Go.c1 htb (S' := (17, [some (.inr (.inr (some (10, 0)))), some (.inl a1), some (.inl a2), some (.inl a3), none], [], am_mk m)) (if_pos hc3) ?_
    refine am_Go.n htb 1 (S' := (18, [some (.inr (.inr (some (10, 0)))), some (.inl a1), some (.inl a2), some (.inl a3), none], [.inl (-1)], am_mk m)) rfl ?_
    cases h
    exact am_Go.rt htb rfl
  · rw [if_neg hc3] at h
    refine am_Go.c1 htb (S' := (12, [some (.inr (.inr (some (10, 0)))), some (.inl a1), some (.inl a2), some (.inl a3), none], [], am_mk m)) (if_neg hc3) ?_
    refine am_Go.n htb 2 (S' := (14, [some (.inr (.inr (some (10, 0)))), some (.inl a1), some (.inl a2), some (.inl a3), none], [.inl a2, .inl a1], am_mk m)) rfl ?_
    by_cases hc4 : a1 ≠ a2
    · rw [if_pos hc4] at h
      refine am_Go.c1 htb (S' := (19, [some (.inr (.inr (some (10, 0)))), some (.inl a1), some (.inl a2), some (.inl a3), none], [], am_mk m)) (if_pos hc4) ?_
      refine am_Go.n htb 2 (S' := (21, [some (.inr (.inr (some (10, 0)))), some (.inl a1), some (.inl a2), some (.inl a3), none], [.inl a1, .inr (.inr (some (10, 0)))], am_mk m)) rfl ?_
      obtain ⟨r5, h6, h⟩ := am_bd h
      refine am_Go.cl htb rfl (ex_X10_isFolk d (by omega) a1 m r5 h6) ?_
      show am_Go d 244 (24, [some (.inr (.inr (some (10, 0)))), some (.inl a1), some (.inl a2), some (.inl a3), none], [.inl r5], am_mk m) _ _ _ _
      by_cases hc7 : r5 = 0
      · rw [if_pos hc7] at h
        refine am_Go.c1 htb (S' := (35, [some (.inr (.inr (some (10, 0)))), some (.inl a1), some (.inl a2), some (.inl a3), none], [], am_mk m)) (if_pos hc7) ?_
        refine am_Go.n htb 1 (S' := (37, [some (.inr (.inr (some (10, 0)))), some (.inl a1), some (.inl a2), some (.inl a3), none], [.inl (-2)], am_mk m)) rfl ?_
        cases h
        exact am_Go.rt htb rfl
      · rw [if_neg hc7] at h
        refine am_Go.c1 htb (S' := (27, [some (.inr (.inr (some (10, 0)))), some (.inl a1), some (.inl a2), some (.inl a3), none], [], am_mk m)) (if_neg hc7) ?_
        refine am_Go.n htb 2 (S' := (29, [some (.inr (.inr (some (10, 0)))), some (.inl a1), some (.inl a2), some (.inl a3), none], [.inl a2, .inr (.inr (some (10, 0)))], am_mk m)) rfl ?_
        obtain ⟨r8, h9, h⟩ := am_bd h
        refine am_Go.cl htb rfl (ex_X10_isFolk d (by omega) a2 m r8 h9) ?_
        show am_Go d 244 (32, [some (.inr (.inr (some (10, 0)))), some (.inl a1), some (.inl a2), some (.inl a3), none], [.inl r8], am_mk m) _ _ _ _
        by_cases hc10 : r8 ≠ 0
        · rw [if_pos hc10] at h
          refine am_Go.c1 htb (S' := (38, [some (.inr (.inr (some (10, 0)))), some (.inl a1), some (.inl a2), some (.inl a3), none], [], am_mk m)) (if_pos hc10) ?_
          refine am_Go.n htb 3 (S' := (41, [some (.inr (.inr (some (10, 0)))), some (.inl a1), some (.inl a2), some (.inl a3), none], [.inl a2, .inl a1, .inr (.inr (some (10, 0)))], am_mk m)) rfl ?_
          obtain ⟨r11, h12, h⟩ := am_bd h
          refine am_Go.cl htb rfl (ex_X10_weightOf d (by omega) a1 a2 m r11 h12) ?_
          show am_Go d 244 (44, [some (.inr (.inr (some (10, 0)))), some (.inl a1), some (.inl a2), some (.inl a3), none], [.inl r11], am_mk m) _ _ _ _
          refine am_Go.n htb 3 (S' := (49, [some (.inr (.inr (some (10, 0)))), some (.inl a1), some (.inl a2), some (.inl a3), some (.inl r11)], [.inl a3, .inl r11], am_mk m)) rfl ?_
          by_cases hc13 : r11 ≠ a3
          · rw [if_pos hc13] at h
            refine am_Go.c1 htb (S' := (55, [some (.inr (.inr (some (10, 0)))), some (.inl a1), some (.inl a2), some (.inl a3), some (.inl r11)], [], am_mk m)) (if_pos hc13) ?_
            refine am_Go.n htb 2 (S' := (57, [some (.inr (.inr (some (10, 0)))), some (.inl a1), some (.inl a2), some (.inl a3), some (.inl r11)], [.inl 0, .inr (.inr (some (10, 0)))], am_mk m)) rfl ?_
            obtain ⟨r14, h15, h⟩ := am_bd h
            refine am_Go.cl htb rfl (ex_X10_remember d (by omega) 0 m r14 h15) ?_
            show am_Go d 244 (60, [some (.inr (.inr (some (10, 0)))), some (.inl a1), some (.inl a2), some (.inl a3), some (.inl r11)], [], am_mk r14) _ _ _ _
            refine am_Go.n htb 4 (S' := (64, [some (.inr (.inr (some (10, 0)))), some (.inl a1), some (.inl a2), some (.inl a3), some (.inl r11)], [.inl a3, .inl a2, .inl a1, .inr (.inr (some (10, 0)))], am_mk r14)) rfl ?_
            obtain ⟨r16, h17, h⟩ := am_bd h
            refine am_Go.cl htb rfl (ex_X10_setHarm d (by omega) a1 a2 a3 r14 r16 h17) ?_
            show am_Go d 244 (67, [some (.inr (.inr (some (10, 0)))), some (.inl a1), some (.inl a2), some (.inl a3), some (.inl r11)], [], am_mk r16) _ _ _ _
            refine am_Go.n htb 1 (S' := (69, [some (.inr (.inr (some (10, 0)))), some (.inl a1), some (.inl a2), some (.inl a3), some (.inl r11)], [.inl r11], am_mk r16)) rfl ?_
            cases h
            exact am_Go.rt htb rfl
          · rw [if_neg hc13] at h
            refine am_Go.c1 htb (S' := (52, [some (.inr (.inr (some (10, 0)))), some (.inl a1), some (.inl a2), some (.inl a3), some (.inl r11)], [], am_mk m)) (if_neg hc13) ?_
            refine am_Go.n htb 1 (S' := (54, [some (.inr (.inr (some (10, 0)))), some (.inl a1), some (.inl a2), some (.inl a3), some (.inl r11)], [.inl (-3)], am_mk m)) rfl ?_
            cases h
            exact am_Go.rt htb rfl
        · rw [if_neg hc10] at h
          refine am_Go.c1 htb (S' := (35, [some (.inr (.inr (some (10, 0)))), some (.inl a1), some (.inl a2), some (.inl a3), none], [], am_mk m)) (if_neg hc10) ?_
          refine am_Go.n htb 1 (S' := (37, [some (.inr (.inr (some (10, 0)))), some (.inl a1), some (.inl a2), some (.inl a3), none], [.inl (-2)], am_mk m)) rfl ?_
          cases h
          exact am_Go.rt htb rfl
    · rw [if_neg hc4] at h
      refine am_Go.c1 htb (S' := (17, [some (.inr (.inr (some (10, 0)))), some (.inl a1), some (.inl a2), some (.inl a3), none], [], am_mk m)) (if_neg hc4) ?_
      refine am_Go.n htb 1 (S' := (18, [some (.inr (.inr (some (10, 0)))), some (.inl a1), some (.inl a2), some (.inl a3), none], [.inl (-1)], am_mk m)) rfl ?_
      cases h
      exact am_Go.rt htb rfl
-- X10_harm
set_option maxRecDepth 100000 in
theorem ex_X10_harm (d : Nat) (hd : 4 ≤ d) (a1 : Int32) (a2 : Int32) (a3 : Int32) (m : am_m) (t : Int32 × am_m) (h : fn_X10_harm a1 a2 a3 m = some t) : am_Ex am_cod d 245 [.inr (.inr (some (10, 0))), .inl a1, .inl a2, .inl a3] (am_mk m) (some (.inl t.1)) (am_mk t.2) 0 0 := by
  obtain ⟨d, rfl⟩ : ∃ e, d = e + 1 := ⟨d - 1, by omega⟩
  have htb : am_tab 245 = at_245 := rfl
  refine ⟨Nat.le_of_ble_eq_true rfl, ?_⟩
  unfold fn_X10_harm at h
  show am_Go d 245 (0, [some (.inr (.inr (some (10, 0)))), some (.inl a1), some (.inl a2), some (.inl a3)], [], am_mk m) _ _ 0 0
  refine am_Go.n htb 8 (S' := (10, [some (.inr (.inr (some (10, 0)))), some (.inl a1), some (.inl a2), some (.inl a3)], [.inl a3, .inl a2, .inl a1, .inr (.inr (some (10, 0))), .inr (.inr (some (10, 0)))], am_mk (am_si m 10 0 0 0))) rfl ?_
  obtain ⟨r1, h2, h⟩ := am_bd h
  refine am_Go.cl htb rfl (ex_X10_harmNow d (by omega) a1 a2 a3 (am_si m 10 0 0 0) r1 h2) ?_
  show am_Go d 245 (13, [some (.inr (.inr (some (10, 0)))), some (.inl a1), some (.inl a2), some (.inl a3)], [.inl r1.1, .inr (.inr (some (10, 0)))], am_mk r1.2) _ _ _ _
  obtain ⟨r3, h4, h⟩ := am_bd h
  refine am_Go.cl htb rfl (ex_X10_tell d (by omega) r1.1 r1.2 r3 h4) ?_
  show am_Go d 245 (16, [some (.inr (.inr (some (10, 0)))), some (.inl a1), some (.inl a2), some (.inl a3)], [.inl r3.1], am_mk r3.2) _ _ _ _
  cases h
  exact am_Go.rt htb rfl
-- X10_feastIt
set_option maxRecDepth 100000 in
theorem lt_X10_feastIt_2 (d : Nat) (hd : 7 ≤ d + 1) {r : Option am_V} {M' : am_M} {kc ks : Nat} {n : Nat} {x1 : Int32} {x2 : Int32} {m : am_m} {t : am_m} (h : lp_X10_feastIt_2 n x1 x2 m = some t) (hk : am_Go d 246 (45, [some (.inr (.inr (some (10, 0)))), some (.inl x1), none], [], am_mk t) r M' kc ks) : am_Go d 246 (2, [some (.inr (.inr (some (10, 0)))), some (.inl x1), some (.inl x2)], [], am_mk m) r M' kc ks := by
  have htb : am_tab 246 = at_246 := rfl
  induction n generalizing x2 m with
  | zero => cases h
  | succ n ih =>
    unfold lp_X10_feastIt_2 at h
    refine am_Go.n htb 5 (S' := (9, [some (.inr (.inr (some (10, 0)))), some (.inl x1), some (.inl x2)], [.inl (m.1 44 0 0), .inl x2], am_mk m)) rfl ?_
    by_cases hc1 : (m.1 44 0 0) ≤ x2
    · rw [if_pos hc1] at h
      refine am_Go.c1 htb (S' := (45, [some (.inr (.inr (some (10, 0)))), some (.inl x1), some (.inl x2)], [], am_mk m)) (if_pos hc1) ?_
      cases h
      exact am_Go.fg (by exact ⟨rfl, ⟨rfl, trivial⟩⟩) hk
    · rw [if_neg hc1] at h
      refine am_Go.c1 htb (S' := (12, [some (.inr (.inr (some (10, 0)))), some (.inl x1), some (.inl x2)], [], am_mk m)) (if_neg hc1) ?_
      refine am_Go.n htb 5 (S' := (19, [some (.inr (.inr (some (10, 0)))), some (.inl x1), some (.inl x2)], [.inl x2, .inl x1, .inl x2, .inr (.inr (some (56, 0)))], am_mk m)) rfl ?_
      obtain ⟨r2, h3, h⟩ := am_bd h
      refine am_Go.cl htb rfl (ex_X10_is d (by omega) x1 x2 m r2 h3) ?_
      show am_Go d 246 (22, [some (.inr (.inr (some (10, 0)))), some (.inl x1), some (.inl x2)], [.inl r2, .inl x2, .inr (.inr (some (56, 0)))], am_mk m) _ _ _ _
      obtain ⟨q9, h11, h⟩ := am_bd h
      refine am_Go.cut (S := (38, [some (.inr (.inr (some (10, 0)))), some (.inl x1), some (.inl x2)], [.inl q9.1, .inl x2, .inr (.inr (some (56, 0)))], am_mk q9.2)) ?_ (fun key => ?_)
      · obtain ⟨hg10, h⟩ := am_ck_some h
        refine am_Go.c1 htb (S' := (39, [some (.inr (.inr (some (10, 0)))), some (.inl x1), some (.inl x2)], [], am_mk (am_si q9.2 56 0 x2.toNatClampNeg q9.1))) (if_neg hg10) ?_
        refine am_Go.n htb 2 (S' := (2, [some (.inr (.inr (some (10, 0)))), some (.inl x1), some (.inl (x2 + 1))], [], am_mk (am_si q9.2 56 0 x2.toNatClampNeg q9.1))) rfl ?_
        first | exact ih h | exact ih h hk
      · have h := h11
        by_cases hc4 : r2 = 0
        · rw [if_pos hc4] at h
          refine am_Go.c1 htb (S' := (37, [some (.inr (.inr (some (10, 0)))), some (.inl x1), some (.inl x2)], [.inl x2, .inr (.inr (some (56, 0)))], am_mk m)) (if_pos hc4) ?_
          refine am_Go.n htb 1 (S' := (38, [some (.inr (.inr (some (10, 0)))), some (.inl x1), some (.inl x2)], [.inl 0, .inl x2, .inr (.inr (some (56, 0)))], am_mk m)) rfl ?_
          cases h
          exact am_Go.fg (by exact ⟨rfl, ⟨rfl, ⟨rfl, trivial⟩⟩⟩) key
        · rw [if_neg hc4] at h
          refine am_Go.c1 htb (S' := (25, [some (.inr (.inr (some (10, 0)))), some (.inl x1), some (.inl x2)], [.inl x2, .inr (.inr (some (56, 0)))], am_mk m)) (if_neg hc4) ?_
          refine am_Go.n htb 3 (S' := (28, [some (.inr (.inr (some (10, 0)))), some (.inl x1), some (.inl x2)], [.inl x1, .inl x2, .inr (.inr (some (10, 0))), .inl x2, .inr (.inr (some (56, 0)))], am_mk m)) rfl ?_
          obtain ⟨r5, h6, h⟩ := am_bd h
          refine am_Go.cl htb rfl (ex_X10_ones d (by omega) x1 m r5 h6) ?_
          show am_Go d 246 (31, [some (.inr (.inr (some (10, 0)))), some (.inl x1), some (.inl x2)], [.inl r5, .inl x2, .inr (.inr (some (10, 0))), .inl x2, .inr (.inr (some (56, 0)))], am_mk m) _ _ _ _
          obtain ⟨r7, h8, h⟩ := am_bd h
          refine am_Go.cl htb rfl (ex_X10_feedsAt d (by omega) x2 r5 m r7 h8) ?_
          show am_Go d 246 (34, [some (.inr (.inr (some (10, 0)))), some (.inl x1), some (.inl x2)], [.inl r7.1, .inl x2, .inr (.inr (some (56, 0)))], am_mk r7.2) _ _ _ _
          refine am_Go.n htb 1 (S' := (38, [some (.inr (.inr (some (10, 0)))), some (.inl x1), some (.inl x2)], [.inl r7.1, .inl x2, .inr (.inr (some (56, 0)))], am_mk r7.2)) rfl ?_
          cases h
          exact am_Go.fg (by exact ⟨rfl, ⟨rfl, ⟨rfl, trivial⟩⟩⟩) key
set_option maxRecDepth 100000 in
theorem lt_X10_feastIt_47 (d : Nat) (hd : 7 ≤ d + 1) {r : Option am_V} {M' : am_M} {kc ks : Nat} {n : Nat} {x2 : Int32} {m : am_m} {t : am_m} (h : lp_X10_feastIt_47 n x2 m = some t) (hk : am_Go d 246 (95, [some (.inr (.inr (some (10, 0)))), none, none], [], am_mk t) r M' kc ks) : am_Go d 246 (47, [some (.inr (.inr (some (10, 0)))), none, some (.inl x2)], [], am_mk m) r M' kc ks := by
  have htb : am_tab 246 = at_246 := rfl
  induction n generalizing x2 m with
  | zero => cases h
  | succ n ih =>
    unfold lp_X10_feastIt_47 at h
    refine am_Go.n htb 5 (S' := (54, [some (.inr (.inr (some (10, 0)))), none, some (.inl x2)], [.inl (m.1 44 0 0), .inl x2], am_mk m)) rfl ?_
    by_cases hc14 : (m.1 44 0 0) ≤ x2
    · rw [if_pos hc14] at h
      refine am_Go.c1 htb (S' := (95, [some (.inr (.inr (some (10, 0)))), none, some (.inl x2)], [], am_mk m)) (if_pos hc14) ?_
      cases h
      exact am_Go.fg (by exact ⟨rfl, trivial⟩) hk
    · rw [if_neg hc14] at h
      refine am_Go.c1 htb (S' := (57, [some (.inr (.inr (some (10, 0)))), none, some (.inl x2)], [], am_mk m)) (if_neg hc14) ?_
      refine am_Go.n htb 10 (S' := (73, [some (.inr (.inr (some (10, 0)))), none, some (.inl x2)], [.inl ((7 : Int32) + x2), .inr (.inr (some (44, 0))), .inl ((7 : Int32) + x2), .inr (.inr (some (44, 0)))], am_mk m)) rfl ?_
      obtain ⟨hg15, h⟩ := am_ck_some h
      refine am_Go.c1 htb (S' := (74, [some (.inr (.inr (some (10, 0)))), none, some (.inl x2)], [.inl (m.1 44 0 ((7 : Int32) + x2).toNatClampNeg), .inl ((7 : Int32) + x2), .inr (.inr (some (44, 0)))], am_mk m)) (if_neg hg15) ?_
      refine am_Go.n htb 3 (S' := (79, [some (.inr (.inr (some (10, 0)))), none, some (.inl x2)], [.inl x2, .inr (.inr (some (56, 0))), .inl (m.1 44 0 ((7 : Int32) + x2).toNatClampNeg), .inl ((7 : Int32) + x2), .inr (.inr (some (44, 0)))], am_mk m)) rfl ?_
      obtain ⟨hg16, h⟩ := am_ck_some h
      refine am_Go.c1 htb (S' := (80, [some (.inr (.inr (some (10, 0)))), none, some (.inl x2)], [.inl (m.1 56 0 x2.toNatClampNeg), .inl (m.1 44 0 ((7 : Int32) + x2).toNatClampNeg), .inl ((7 : Int32) + x2), .inr (.inr (some (44, 0)))], am_mk m)) (if_neg hg16) ?_
      refine am_Go.n htb 4 (S' := (85, [some (.inr (.inr (some (10, 0)))), none, some (.inl x2)], [.inl 9, .inl 0, .inr (.inl (((m.1 44 0 ((7 : Int32) + x2).toNatClampNeg) + (m.1 56 0 x2.toNatClampNeg)).toInt64)), .inl ((7 : Int32) + x2), .inr (.inr (some (44, 0)))], am_mk m)) rfl ?_
      obtain ⟨r17, h18, h⟩ := am_bd h
      refine am_Go.cl htb rfl (ex_X10_bounded d (by omega) (((m.1 44 0 ((7 : Int32) + x2).toNatClampNeg) + (m.1 56 0 x2.toNatClampNeg)).toInt64) 0 9 m r17 h18) ?_
      show am_Go d 246 (88, [some (.inr (.inr (some (10, 0)))), none, some (.inl x2)], [.inl r17, .inl ((7 : Int32) + x2), .inr (.inr (some (44, 0)))], am_mk m) _ _ _ _
      obtain ⟨hg19, h⟩ := am_ck_some h
      refine am_Go.c1 htb (S' := (89, [some (.inr (.inr (some (10, 0)))), none, some (.inl x2)], [], am_mk (am_si m 44 0 ((7 : Int32) + x2).toNatClampNeg r17))) (if_neg hg19) ?_
      refine am_Go.n htb 2 (S' := (47, [some (.inr (.inr (some (10, 0)))), none, some (.inl (x2 + 1))], [], am_mk (am_si m 44 0 ((7 : Int32) + x2).toNatClampNeg r17))) rfl ?_
      first | exact ih h | exact ih h hk
set_option maxRecDepth 100000 in
theorem ex_X10_feastIt (d : Nat) (hd : 7 ≤ d) (a1 : Int32) (m : am_m) (t : am_m) (h : fn_X10_feastIt a1 m = some t) : am_Ex am_cod d 246 [.inr (.inr (some (10, 0))), .inl a1] (am_mk m) (none) (am_mk t) 0 0 := by
  obtain ⟨d, rfl⟩ : ∃ e, d = e + 1 := ⟨d - 1, by omega⟩
  have htb : am_tab 246 = at_246 := rfl
  refine ⟨Nat.le_of_ble_eq_true rfl, ?_⟩
  unfold fn_X10_feastIt at h
  show am_Go d 246 (0, [some (.inr (.inr (some (10, 0)))), some (.inl a1), none], [], am_mk m) _ _ 0 0
  refine am_Go.n htb 2 (S' := (2, [some (.inr (.inr (some (10, 0)))), some (.inl a1), some (.inl 0)], [], am_mk m)) rfl ?_
  obtain ⟨q12, h13, h⟩ := am_bd h
  refine lt_X10_feastIt_2 _ hd (h := h13) (hk := ?_)
  refine am_Go.n htb 2 (S' := (47, [some (.inr (.inr (some (10, 0)))), some (.inl a1), some (.inl 0)], [], am_mk q12)) rfl ?_
  refine am_Go.fg (L0 := [some (.inr (.inr (some (10, 0)))), none, some (.inl 0)]) (by exact ⟨rfl, ⟨rfl, trivial⟩⟩) ?_
  obtain ⟨q20, h21, h⟩ := am_bd h
  refine lt_X10_feastIt_47 _ hd (h := h21) (hk := ?_)
  cases h
  exact am_Go.rt htb rfl
-- X10_feastNow
set_option maxRecDepth 100000 in
theorem ex_X10_feastNow (d : Nat) (hd : 9 ≤ d) (a1 : Int32) (m : am_m) (t : Int32 × am_m) (h : fn_X10_feastNow a1 m = some t) : am_Ex am_cod d 247 [.inr (.inr (some (10, 0))), .inl a1] (am_mk m) (some (.inl t.1)) (am_mk t.2) 0 0 := by
  obtain ⟨d, rfl⟩ : ∃ e, d = e + 1 := ⟨d - 1, by omega⟩
  have htb : am_tab 247 = at_247 := rfl
  refine ⟨Nat.le_of_ble_eq_true rfl, ?_⟩
  unfold fn_X10_feastNow at h
  show am_Go d 247 (0, [some (.inr (.inr (some (10, 0)))), some (.inl a1)], [], am_mk m) _ _ 0 0
  refine am_Go.n htb 1 (S' := (1, [some (.inr (.inr (some (10, 0)))), some (.inl a1)], [.inl a1], am_mk m)) rfl ?_
  obtain ⟨r1, h2, h⟩ := am_bd h
  refine am_Go.cl htb rfl (ex_X10_isSet d (by omega) a1 m r1 h2) ?_
  show am_Go d 247 (4, [some (.inr (.inr (some (10, 0)))), some (.inl a1)], [.inl r1], am_mk m) _ _ _ _
  by_cases hc3 : r1 ≠ 0
  · rw [if_pos hc3] at h
    refine am_Go.c1 htb (S' := (9, [some (.inr (.inr (some (10, 0)))), some (.inl a1)], [], am_mk m)) (if_pos hc3) ?_
    refine am_Go.n htb 2 (S' := (11, [some (.inr (.inr (some (10, 0)))), some (.inl a1)], [.inl a1, .inr (.inr (some (10, 0)))], am_mk m)) rfl ?_
    obtain ⟨r4, h5, h⟩ := am_bd h
    refine am_Go.cl htb rfl (ex_X10_areThere d (by omega) a1 m r4 h5) ?_
    show am_Go d 247 (14, [some (.inr (.inr (some (10, 0)))), some (.inl a1)], [.inl r4], am_mk m) _ _ _ _
    by_cases hc6 : r4 ≠ 0
    · rw [if_pos hc6] at h
      refine am_Go.c1 htb (S' := (20, [some (.inr (.inr (some (10, 0)))), some (.inl a1)], [], am_mk m)) (if_pos hc6) ?_
      refine am_Go.n htb 1 (S' := (21, [some (.inr (.inr (some (10, 0)))), some (.inl a1)], [.inr (.inr (some (10, 0)))], am_mk m)) rfl ?_
      obtain ⟨r7, h8, h⟩ := am_bd h
      refine am_Go.cl htb rfl (ex_X10_layMay d (by omega)  m r7 h8) ?_
      show am_Go d 247 (24, [some (.inr (.inr (some (10, 0)))), some (.inl a1)], [], am_mk r7) _ _ _ _
      refine am_Go.n htb 2 (S' := (26, [some (.inr (.inr (some (10, 0)))), some (.inl a1)], [.inl a1, .inr (.inr (some (10, 0)))], am_mk r7)) rfl ?_
      obtain ⟨r9, h10, h⟩ := am_bd h
      refine am_Go.cl htb rfl (ex_X10_isTable d (by omega) a1 r7 r9 h10) ?_
      show am_Go d 247 (29, [some (.inr (.inr (some (10, 0)))), some (.inl a1)], [.inl r9], am_mk r7) _ _ _ _
      by_cases hc11 : r9 ≠ 0
      · rw [if_pos hc11] at h
        refine am_Go.c1 htb (S' := (35, [some (.inr (.inr (some (10, 0)))), some (.inl a1)], [], am_mk r7)) (if_pos hc11) ?_
        refine am_Go.n htb 2 (S' := (37, [some (.inr (.inr (some (10, 0)))), some (.inl a1)], [.inl 1, .inr (.inr (some (10, 0)))], am_mk r7)) rfl ?_
        obtain ⟨r12, h13, h⟩ := am_bd h
        refine am_Go.cl htb rfl (ex_X10_remember d (by omega) 1 r7 r12 h13) ?_
        show am_Go d 247 (40, [some (.inr (.inr (some (10, 0)))), some (.inl a1)], [], am_mk r12) _ _ _ _
        refine am_Go.n htb 2 (S' := (42, [some (.inr (.inr (some (10, 0)))), some (.inl a1)], [.inl a1, .inr (.inr (some (10, 0)))], am_mk r12)) rfl ?_
        obtain ⟨r14, h15, h⟩ := am_bd h
        refine am_Go.cl htb rfl (ex_X10_feastIt d (by omega) a1 r12 r14 h15) ?_
        show am_Go d 247 (45, [some (.inr (.inr (some (10, 0)))), some (.inl a1)], [], am_mk r14) _ _ _ _
        refine am_Go.n htb 1 (S' := (46, [some (.inr (.inr (some (10, 0)))), some (.inl a1)], [.inl a1], am_mk r14)) rfl ?_
        obtain ⟨r16, h17, h⟩ := am_bd h
        refine am_Go.cl htb rfl (ex_X10_ones d (by omega) a1 r14 r16 h17) ?_
        show am_Go d 247 (49, [some (.inr (.inr (some (10, 0)))), some (.inl a1)], [.inl r16], am_mk r14) _ _ _ _
        cases h
        exact am_Go.rt htb rfl
      · rw [if_neg hc11] at h
        refine am_Go.c1 htb (S' := (32, [some (.inr (.inr (some (10, 0)))), some (.inl a1)], [], am_mk r7)) (if_neg hc11) ?_
        refine am_Go.n htb 1 (S' := (34, [some (.inr (.inr (some (10, 0)))), some (.inl a1)], [.inl (-3)], am_mk r7)) rfl ?_
        cases h
        exact am_Go.rt htb rfl
    · rw [if_neg hc6] at h
      refine am_Go.c1 htb (S' := (17, [some (.inr (.inr (some (10, 0)))), some (.inl a1)], [], am_mk m)) (if_neg hc6) ?_
      refine am_Go.n htb 1 (S' := (19, [some (.inr (.inr (some (10, 0)))), some (.inl a1)], [.inl (-2)], am_mk m)) rfl ?_
      cases h
      exact am_Go.rt htb rfl
  · rw [if_neg hc3] at h
    refine am_Go.c1 htb (S' := (7, [some (.inr (.inr (some (10, 0)))), some (.inl a1)], [], am_mk m)) (if_neg hc3) ?_
    refine am_Go.n htb 1 (S' := (8, [some (.inr (.inr (some (10, 0)))), some (.inl a1)], [.inl (-1)], am_mk m)) rfl ?_
    cases h
    exact am_Go.rt htb rfl
-- X10_feast
set_option maxRecDepth 100000 in
theorem ex_X10_feast (d : Nat) (hd : 10 ≤ d) (a1 : Int32) (m : am_m) (t : Int32 × am_m) (h : fn_X10_feast a1 m = some t) : am_Ex am_cod d 248 [.inr (.inr (some (10, 0))), .inl a1] (am_mk m) (some (.inl t.1)) (am_mk t.2) 0 0 := by
  obtain ⟨d, rfl⟩ : ∃ e, d = e + 1 := ⟨d - 1, by omega⟩
  have htb : am_tab 248 = at_248 := rfl
  refine ⟨Nat.le_of_ble_eq_true rfl, ?_⟩
  unfold fn_X10_feast at h
  show am_Go d 248 (0, [some (.inr (.inr (some (10, 0)))), some (.inl a1)], [], am_mk m) _ _ 0 0
  refine am_Go.n htb 6 (S' := (8, [some (.inr (.inr (some (10, 0)))), some (.inl a1)], [.inl a1, .inr (.inr (some (10, 0))), .inr (.inr (some (10, 0)))], am_mk (am_si m 10 0 0 0))) rfl ?_
  obtain ⟨r1, h2, h⟩ := am_bd h
  refine am_Go.cl htb rfl (ex_X10_feastNow d (by omega) a1 (am_si m 10 0 0 0) r1 h2) ?_
  show am_Go d 248 (11, [some (.inr (.inr (some (10, 0)))), some (.inl a1)], [.inl r1.1, .inr (.inr (some (10, 0)))], am_mk r1.2) _ _ _ _
  obtain ⟨r3, h4, h⟩ := am_bd h
  refine am_Go.cl htb rfl (ex_X10_tell d (by omega) r1.1 r1.2 r3 h4) ?_
  show am_Go d 248 (14, [some (.inr (.inr (some (10, 0)))), some (.inl a1)], [.inl r3.1], am_mk r3.2) _ _ _ _
  cases h
  exact am_Go.rt htb rfl
-- X10_pardonNow
set_option maxRecDepth 100000 in
theorem ex_X10_pardonNow (d : Nat) (hd : 3 ≤ d) (a1 : Int32) (a2 : Int32) (m : am_m) (t : Int32 × am_m) (h : fn_X10_pardonNow a1 a2 m = some t) : am_Ex am_cod d 249 [.inr (.inr (some (10, 0))), .inl a1, .inl a2] (am_mk m) (some (.inl t.1)) (am_mk t.2) 0 0 := by
  obtain ⟨d, rfl⟩ : ∃ e, d = e + 1 := ⟨d - 1, by omega⟩
  have htb : am_tab 249 = at_249 := rfl
  refine ⟨Nat.le_of_ble_eq_true rfl, ?_⟩
  unfold fn_X10_pardonNow at h
  show am_Go d 249 (0, [some (.inr (.inr (some (10, 0)))), some (.inl a1), some (.inl a2), none], [], am_mk m) _ _ 0 0
  refine am_Go.n htb 2 (S' := (2, [some (.inr (.inr (some (10, 0)))), some (.inl a1), some (.inl a2), none], [.inl a2, .inl a1], am_mk m)) rfl ?_
  by_cases hc1 : a1 ≠ a2
  · rw [if_pos hc1] at h
    refine am_Go.c1 htb (S' := (7, [some (.inr (.inr (some (10, 0)))), some (.inl a1), some (.inl a2), none], [], am_mk m)) (if_pos hc1) ?_
    refine am_Go.n htb 2 (S' := (9, [some (.inr (.inr (some (10, 0)))), some (.inl a1), some (.inl a2), none], [.inl a1, .inr (.inr (some (10, 0)))], am_mk m)) rfl ?_
    obtain ⟨r2, h3, h⟩ := am_bd h
    refine am_Go.cl htb rfl (ex_X10_isFolk d (by omega) a1 m r2 h3) ?_
    show am_Go d 249 (12, [some (.inr (.inr (some (10, 0)))), some (.inl a1), some (.inl a2), none], [.inl r2], am_mk m) _ _ _ _
    by_cases hc4 : r2 = 0
    · rw [if_pos hc4] at h
      refine am_Go.c1 htb (S' := (23, [some (.inr (.inr (some (10, 0)))), some (.inl a1), some (.inl a2), none], [], am_mk m)) (if_pos hc4) ?_
      refine am_Go.n htb 1 (S' := (25, [some (.inr (.inr (some (10, 0)))), some (.inl a1), some (.inl a2), none], [.inl (-2)], am_mk m)) rfl ?_
      cases h
      exact am_Go.rt htb rfl
    · rw [if_neg hc4] at h
      refine am_Go.c1 htb (S' := (15, [some (.inr (.inr (some (10, 0)))), some (.inl a1), some (.inl a2), none], [], am_mk m)) (if_neg hc4) ?_
      refine am_Go.n htb 2 (S' := (17, [some (.inr (.inr (some (10, 0)))), some (.inl a1), some (.inl a2), none], [.inl a2, .inr (.inr (some (10, 0)))], am_mk m)) rfl ?_
      obtain ⟨r5, h6, h⟩ := am_bd h
      refine am_Go.cl htb rfl (ex_X10_isFolk d (by omega) a2 m r5 h6) ?_
      show am_Go d 249 (20, [some (.inr (.inr (some (10, 0)))), some (.inl a1), some (.inl a2), none], [.inl r5], am_mk m) _ _ _ _
      by_cases hc7 : r5 ≠ 0
      · rw [if_pos hc7] at h
        refine am_Go.c1 htb (S' := (26, [some (.inr (.inr (some (10, 0)))), some (.inl a1), some (.inl a2), none], [], am_mk m)) (if_pos hc7) ?_
        refine am_Go.n htb 3 (S' := (29, [some (.inr (.inr (some (10, 0)))), some (.inl a1), some (.inl a2), none], [.inl a2, .inl a1, .inr (.inr (some (10, 0)))], am_mk m)) rfl ?_
        obtain ⟨r8, h9, h⟩ := am_bd h
        refine am_Go.cl htb rfl (ex_X10_weightOf d (by omega) a1 a2 m r8 h9) ?_
        show am_Go d 249 (32, [some (.inr (.inr (some (10, 0)))), some (.inl a1), some (.inl a2), none], [.inl r8], am_mk m) _ _ _ _
        refine am_Go.n htb 2 (S' := (34, [some (.inr (.inr (some (10, 0)))), some (.inl a1), some (.inl a2), some (.inl r8)], [.inl r8], am_mk m)) rfl ?_
        by_cases hc10 : r8 ≠ 0
        · rw [if_pos hc10] at h
          refine am_Go.c1 htb (S' := (40, [some (.inr (.inr (some (10, 0)))), some (.inl a1), some (.inl a2), some (.inl r8)], [], am_mk m)) (if_pos hc10) ?_
          refine am_Go.n htb 2 (S' := (42, [some (.inr (.inr (some (10, 0)))), some (.inl a1), some (.inl a2), some (.inl r8)], [.inl 2, .inr (.inr (some (10, 0)))], am_mk m)) rfl ?_
          obtain ⟨r11, h12, h⟩ := am_bd h
          refine am_Go.cl htb rfl (ex_X10_remember d (by omega) 2 m r11 h12) ?_
          show am_Go d 249 (45, [some (.inr (.inr (some (10, 0)))), some (.inl a1), some (.inl a2), some (.inl r8)], [], am_mk r11) _ _ _ _
          refine am_Go.n htb 10 (S' := (59, [some (.inr (.inr (some (10, 0)))), some (.inl a1), some (.inl a2), some (.inl r8)], [.inl 0, .inl (((14 : Int32) + ((7 : Int32) * a1)) + a2), .inr (.inr (some (44, 0)))], am_mk r11)) rfl ?_
          obtain ⟨hg13, h⟩ := am_ck_some h
          refine am_Go.c1 htb (S' := (60, [some (.inr (.inr (some (10, 0)))), some (.inl a1), some (.inl a2), some (.inl r8)], [], am_mk (am_si r11 44 0 (((14 : Int32) + ((7 : Int32) * a1)) + a2).toNatClampNeg 0))) (if_neg hg13) ?_
          refine am_Go.n htb 1 (S' := (61, [some (.inr (.inr (some (10, 0)))), some (.inl a1), some (.inl a2), some (.inl r8)], [.inl r8], am_mk (am_si r11 44 0 (((14 : Int32) + ((7 : Int32) * a1)) + a2).toNatClampNeg 0))) rfl ?_
          cases h
          exact am_Go.rt htb rfl
        · rw [if_neg hc10] at h
          refine am_Go.c1 htb (S' := (37, [some (.inr (.inr (some (10, 0)))), some (.inl a1), some (.inl a2), some (.inl r8)], [], am_mk m)) (if_neg hc10) ?_
          refine am_Go.n htb 1 (S' := (39, [some (.inr (.inr (some (10, 0)))), some (.inl a1), some (.inl a2), some (.inl r8)], [.inl (-3)], am_mk m)) rfl ?_
          cases h
          exact am_Go.rt htb rfl
      · rw [if_neg hc7] at h
        refine am_Go.c1 htb (S' := (23, [some (.inr (.inr (some (10, 0)))), some (.inl a1), some (.inl a2), none], [], am_mk m)) (if_neg hc7) ?_
        refine am_Go.n htb 1 (S' := (25, [some (.inr (.inr (some (10, 0)))), some (.inl a1), some (.inl a2), none], [.inl (-2)], am_mk m)) rfl ?_
        cases h
        exact am_Go.rt htb rfl
  · rw [if_neg hc1] at h
    refine am_Go.c1 htb (S' := (5, [some (.inr (.inr (some (10, 0)))), some (.inl a1), some (.inl a2), none], [], am_mk m)) (if_neg hc1) ?_
    refine am_Go.n htb 1 (S' := (6, [some (.inr (.inr (some (10, 0)))), some (.inl a1), some (.inl a2), none], [.inl (-1)], am_mk m)) rfl ?_
    cases h
    exact am_Go.rt htb rfl
-- X10_pardon
set_option maxRecDepth 100000 in
theorem ex_X10_pardon (d : Nat) (hd : 4 ≤ d) (a1 : Int32) (a2 : Int32) (m : am_m) (t : Int32 × am_m) (h : fn_X10_pardon a1 a2 m = some t) : am_Ex am_cod d 250 [.inr (.inr (some (10, 0))), .inl a1, .inl a2] (am_mk m) (some (.inl t.1)) (am_mk t.2) 0 0 := by
  obtain ⟨d, rfl⟩ : ∃ e, d = e + 1 := ⟨d - 1, by omega⟩
  have htb : am_tab 250 = at_250 := rfl
  refine ⟨Nat.le_of_ble_eq_true rfl, ?_⟩
  unfold fn_X10_pardon at h
  show am_Go d 250 (0, [some (.inr (.inr (some (10, 0)))), some (.inl a1), some (.inl a2)], [], am_mk m) _ _ 0 0
  refine am_Go.n htb 7 (S' := (9, [some (.inr (.inr (some (10, 0)))), some (.inl a1), some (.inl a2)], [.inl a2, .inl a1, .inr (.inr (some (10, 0))), .inr (.inr (some (10, 0)))], am_mk (am_si m 10 0 0 0))) rfl ?_
  obtain ⟨r1, h2, h⟩ := am_bd h
  refine am_Go.cl htb rfl (ex_X10_pardonNow d (by omega) a1 a2 (am_si m 10 0 0 0) r1 h2) ?_
  show am_Go d 250 (12, [some (.inr (.inr (some (10, 0)))), some (.inl a1), some (.inl a2)], [.inl r1.1, .inr (.inr (some (10, 0)))], am_mk r1.2) _ _ _ _
  obtain ⟨r3, h4, h⟩ := am_bd h
  refine am_Go.cl htb rfl (ex_X10_tell d (by omega) r1.1 r1.2 r3 h4) ?_
  show am_Go d 250 (15, [some (.inr (.inr (some (10, 0)))), some (.inl a1), some (.inl a2)], [.inl r3.1], am_mk r3.2) _ _ _ _
  cases h
  exact am_Go.rt htb rfl
-- X10_passIt
set_option maxRecDepth 100000 in
theorem lt_X10_passIt_2 (d : Nat) (hd : 7 ≤ d + 1) {r : Option am_V} {M' : am_M} {kc ks : Nat} {n : Nat} {x1 : Int32} {m : am_m} {t : am_m} (h : lp_X10_passIt_2 n x1 m = some t) (hk : am_Go d 251 (29, [some (.inr (.inr (some (10, 0)))), none], [], am_mk t) r M' kc ks) : am_Go d 251 (2, [some (.inr (.inr (some (10, 0)))), some (.inl x1)], [], am_mk m) r M' kc ks := by
  have htb : am_tab 251 = at_251 := rfl
  induction n generalizing x1 m with
  | zero => cases h
  | succ n ih =>
    unfold lp_X10_passIt_2 at h
    refine am_Go.n htb 5 (S' := (9, [some (.inr (.inr (some (10, 0)))), some (.inl x1)], [.inl (m.1 44 0 0), .inl x1], am_mk m)) rfl ?_
    by_cases hc1 : (m.1 44 0 0) ≤ x1
    · rw [if_pos hc1] at h
      refine am_Go.c1 htb (S' := (29, [some (.inr (.inr (some (10, 0)))), some (.inl x1)], [], am_mk m)) (if_pos hc1) ?_
      cases h
      exact am_Go.fg (by exact ⟨rfl, trivial⟩) hk
    · rw [if_neg hc1] at h
      refine am_Go.c1 htb (S' := (12, [some (.inr (.inr (some (10, 0)))), some (.inl x1)], [], am_mk m)) (if_neg hc1) ?_
      refine am_Go.n htb 5 (S' := (19, [some (.inr (.inr (some (10, 0)))), some (.inl x1)], [.inl x1, .inr (.inr (some (10, 0))), .inl x1, .inr (.inr (some (56, 0)))], am_mk m)) rfl ?_
      obtain ⟨r2, h3, h⟩ := am_bd h
      refine am_Go.cl htb rfl (ex_X10_hungersBy d (by omega) x1 m r2 h3) ?_
      show am_Go d 251 (22, [some (.inr (.inr (some (10, 0)))), some (.inl x1)], [.inl r2.1, .inl x1, .inr (.inr (some (56, 0)))], am_mk r2.2) _ _ _ _
      obtain ⟨hg4, h⟩ := am_ck_some h
      refine am_Go.c1 htb (S' := (23, [some (.inr (.inr (some (10, 0)))), some (.inl x1)], [], am_mk (am_si r2.2 56 0 x1.toNatClampNeg r2.1))) (if_neg hg4) ?_
      refine am_Go.n htb 2 (S' := (2, [some (.inr (.inr (some (10, 0)))), some (.inl (x1 + 1))], [], am_mk (am_si r2.2 56 0 x1.toNatClampNeg r2.1))) rfl ?_
      first | exact ih h | exact ih h hk
set_option maxRecDepth 100000 in
theorem lt_X10_passIt_31 (d : Nat) (hd : 7 ≤ d + 1) {r : Option am_V} {M' : am_M} {kc ks : Nat} {n : Nat} {x1 : Int32} {m : am_m} {t : am_m} (h : lp_X10_passIt_31 n x1 m = some t) (hk : am_Go d 251 (79, [some (.inr (.inr (some (10, 0)))), none], [], am_mk t) r M' kc ks) : am_Go d 251 (31, [some (.inr (.inr (some (10, 0)))), some (.inl x1)], [], am_mk m) r M' kc ks := by
  have htb : am_tab 251 = at_251 := rfl
  induction n generalizing x1 m with
  | zero => cases h
  | succ n ih =>
    unfold lp_X10_passIt_31 at h
    refine am_Go.n htb 5 (S' := (38, [some (.inr (.inr (some (10, 0)))), some (.inl x1)], [.inl (m.1 44 0 0), .inl x1], am_mk m)) rfl ?_
    by_cases hc7 : (m.1 44 0 0) ≤ x1
    · rw [if_pos hc7] at h
      refine am_Go.c1 htb (S' := (79, [some (.inr (.inr (some (10, 0)))), some (.inl x1)], [], am_mk m)) (if_pos hc7) ?_
      cases h
      exact am_Go.fg (by exact ⟨rfl, trivial⟩) hk
    · rw [if_neg hc7] at h
      refine am_Go.c1 htb (S' := (41, [some (.inr (.inr (some (10, 0)))), some (.inl x1)], [], am_mk m)) (if_neg hc7) ?_
      refine am_Go.n htb 10 (S' := (57, [some (.inr (.inr (some (10, 0)))), some (.inl x1)], [.inl ((7 : Int32) + x1), .inr (.inr (some (44, 0))), .inl ((7 : Int32) + x1), .inr (.inr (some (44, 0)))], am_mk m)) rfl ?_
      obtain ⟨hg8, h⟩ := am_ck_some h
      refine am_Go.c1 htb (S' := (58, [some (.inr (.inr (some (10, 0)))), some (.inl x1)], [.inl (m.1 44 0 ((7 : Int32) + x1).toNatClampNeg), .inl ((7 : Int32) + x1), .inr (.inr (some (44, 0)))], am_mk m)) (if_neg hg8) ?_
      refine am_Go.n htb 3 (S' := (63, [some (.inr (.inr (some (10, 0)))), some (.inl x1)], [.inl x1, .inr (.inr (some (56, 0))), .inl (m.1 44 0 ((7 : Int32) + x1).toNatClampNeg), .inl ((7 : Int32) + x1), .inr (.inr (some (44, 0)))], am_mk m)) rfl ?_
      obtain ⟨hg9, h⟩ := am_ck_some h
      refine am_Go.c1 htb (S' := (64, [some (.inr (.inr (some (10, 0)))), some (.inl x1)], [.inl (m.1 56 0 x1.toNatClampNeg), .inl (m.1 44 0 ((7 : Int32) + x1).toNatClampNeg), .inl ((7 : Int32) + x1), .inr (.inr (some (44, 0)))], am_mk m)) (if_neg hg9) ?_
      refine am_Go.n htb 4 (S' := (69, [some (.inr (.inr (some (10, 0)))), some (.inl x1)], [.inl 9, .inl 0, .inr (.inl (((m.1 44 0 ((7 : Int32) + x1).toNatClampNeg) - (m.1 56 0 x1.toNatClampNeg)).toInt64)), .inl ((7 : Int32) + x1), .inr (.inr (some (44, 0)))], am_mk m)) rfl ?_
      obtain ⟨r10, h11, h⟩ := am_bd h
      refine am_Go.cl htb rfl (ex_X10_bounded d (by omega) (((m.1 44 0 ((7 : Int32) + x1).toNatClampNeg) - (m.1 56 0 x1.toNatClampNeg)).toInt64) 0 9 m r10 h11) ?_
      show am_Go d 251 (72, [some (.inr (.inr (some (10, 0)))), some (.inl x1)], [.inl r10, .inl ((7 : Int32) + x1), .inr (.inr (some (44, 0)))], am_mk m) _ _ _ _
      obtain ⟨hg12, h⟩ := am_ck_some h
      refine am_Go.c1 htb (S' := (73, [some (.inr (.inr (some (10, 0)))), some (.inl x1)], [], am_mk (am_si m 44 0 ((7 : Int32) + x1).toNatClampNeg r10))) (if_neg hg12) ?_
      refine am_Go.n htb 2 (S' := (31, [some (.inr (.inr (some (10, 0)))), some (.inl (x1 + 1))], [], am_mk (am_si m 44 0 ((7 : Int32) + x1).toNatClampNeg r10))) rfl ?_
      first | exact ih h | exact ih h hk
set_option maxRecDepth 100000 in
theorem ex_X10_passIt (d : Nat) (hd : 7 ≤ d)  (m : am_m) (t : am_m) (h : fn_X10_passIt  m = some t) : am_Ex am_cod d 251 [.inr (.inr (some (10, 0)))] (am_mk m) (none) (am_mk t) 0 0 := by
  obtain ⟨d, rfl⟩ : ∃ e, d = e + 1 := ⟨d - 1, by omega⟩
  have htb : am_tab 251 = at_251 := rfl
  refine ⟨Nat.le_of_ble_eq_true rfl, ?_⟩
  unfold fn_X10_passIt at h
  show am_Go d 251 (0, [some (.inr (.inr (some (10, 0)))), none], [], am_mk m) _ _ 0 0
  refine am_Go.n htb 2 (S' := (2, [some (.inr (.inr (some (10, 0)))), some (.inl 0)], [], am_mk m)) rfl ?_
  obtain ⟨q5, h6, h⟩ := am_bd h
  refine lt_X10_passIt_2 _ hd (h := h6) (hk := ?_)
  refine am_Go.n htb 2 (S' := (31, [some (.inr (.inr (some (10, 0)))), some (.inl 0)], [], am_mk q5)) rfl ?_
  obtain ⟨q13, h14, h⟩ := am_bd h
  refine lt_X10_passIt_31 _ hd (h := h14) (hk := ?_)
  refine am_Go.n htb 8 (S' := (89, [some (.inr (.inr (some (10, 0)))), none], [], am_mk (am_si q13 44 0 4 ((q13.1 44 0 4) + (1 : Int32))))) rfl ?_
  cases h
  exact am_Go.rt htb rfl
-- X10_passNow
set_option maxRecDepth 100000 in
theorem ex_X10_passNow (d : Nat) (hd : 8 ≤ d)  (m : am_m) (t : Int32 × am_m) (h : fn_X10_passNow  m = some t) : am_Ex am_cod d 252 [.inr (.inr (some (10, 0)))] (am_mk m) (some (.inl t.1)) (am_mk t.2) 0 0 := by
  obtain ⟨d, rfl⟩ : ∃ e, d = e + 1 := ⟨d - 1, by omega⟩
  have htb : am_tab 252 = at_252 := rfl
  refine ⟨Nat.le_of_ble_eq_true rfl, ?_⟩
  unfold fn_X10_passNow at h
  show am_Go d 252 (0, [some (.inr (.inr (some (10, 0))))], [], am_mk m) _ _ 0 0
  refine am_Go.n htb 5 (S' := (9, [some (.inr (.inr (some (10, 0))))], [.inl 999, .inl (m.1 44 0 4)], am_mk m)) rfl ?_
  by_cases hc1 : (m.1 44 0 4) ≠ (999 : Int32)
  · rw [if_pos hc1] at h
    refine am_Go.c1 htb (S' := (15, [some (.inr (.inr (some (10, 0))))], [], am_mk m)) (if_pos hc1) ?_
    refine am_Go.n htb 2 (S' := (17, [some (.inr (.inr (some (10, 0))))], [.inl 3, .inr (.inr (some (10, 0)))], am_mk m)) rfl ?_
    obtain ⟨r2, h3, h⟩ := am_bd h
    refine am_Go.cl htb rfl (ex_X10_remember d (by omega) 3 m r2 h3) ?_
    show am_Go d 252 (20, [some (.inr (.inr (some (10, 0))))], [], am_mk r2) _ _ _ _
    refine am_Go.n htb 1 (S' := (21, [some (.inr (.inr (some (10, 0))))], [.inr (.inr (some (10, 0)))], am_mk r2)) rfl ?_
    obtain ⟨r4, h5, h⟩ := am_bd h
    refine am_Go.cl htb rfl (ex_X10_passIt d (by omega)  r2 r4 h5) ?_
    show am_Go d 252 (24, [some (.inr (.inr (some (10, 0))))], [], am_mk r4) _ _ _ _
    refine am_Go.n htb 1 (S' := (25, [some (.inr (.inr (some (10, 0))))], [.inr (.inr (some (10, 0)))], am_mk r4)) rfl ?_
    obtain ⟨r6, h7, h⟩ := am_bd h
    refine am_Go.cl htb rfl (ex_X10_starving d (by omega)  r4 r6 h7) ?_
    show am_Go d 252 (28, [some (.inr (.inr (some (10, 0))))], [.inl r6], am_mk r4) _ _ _ _
    cases h
    exact am_Go.rt htb rfl
  · rw [if_neg hc1] at h
    refine am_Go.c1 htb (S' := (12, [some (.inr (.inr (some (10, 0))))], [], am_mk m)) (if_neg hc1) ?_
    refine am_Go.n htb 1 (S' := (14, [some (.inr (.inr (some (10, 0))))], [.inl (-3)], am_mk m)) rfl ?_
    cases h
    exact am_Go.rt htb rfl
-- X10_pass
set_option maxRecDepth 100000 in
theorem ex_X10_pass (d : Nat) (hd : 9 ≤ d)  (m : am_m) (t : Int32 × am_m) (h : fn_X10_pass  m = some t) : am_Ex am_cod d 253 [.inr (.inr (some (10, 0)))] (am_mk m) (some (.inl t.1)) (am_mk t.2) 0 0 := by
  obtain ⟨d, rfl⟩ : ∃ e, d = e + 1 := ⟨d - 1, by omega⟩
  have htb : am_tab 253 = at_253 := rfl
  refine ⟨Nat.le_of_ble_eq_true rfl, ?_⟩
  unfold fn_X10_pass at h
  show am_Go d 253 (0, [some (.inr (.inr (some (10, 0))))], [], am_mk m) _ _ 0 0
  refine am_Go.n htb 5 (S' := (7, [some (.inr (.inr (some (10, 0))))], [.inr (.inr (some (10, 0))), .inr (.inr (some (10, 0)))], am_mk (am_si m 10 0 0 0))) rfl ?_
  obtain ⟨r1, h2, h⟩ := am_bd h
  refine am_Go.cl htb rfl (ex_X10_passNow d (by omega)  (am_si m 10 0 0 0) r1 h2) ?_
  show am_Go d 253 (10, [some (.inr (.inr (some (10, 0))))], [.inl r1.1, .inr (.inr (some (10, 0)))], am_mk r1.2) _ _ _ _
  obtain ⟨r3, h4, h⟩ := am_bd h
  refine am_Go.cl htb rfl (ex_X10_tell d (by omega) r1.1 r1.2 r3 h4) ?_
  show am_Go d 253 (13, [some (.inr (.inr (some (10, 0))))], [.inl r3.1], am_mk r3.2) _ _ _ _
  cases h
  exact am_Go.rt htb rfl
-- X10_largestSet
set_option maxRecDepth 100000 in
theorem lt_X10_largestSet_6 (d : Nat) (hd : 3 ≤ d + 1) {r : Option am_V} {M' : am_M} {kc ks : Nat} {n : Nat} {x1 : Int32} {x2 : Int32} {x3 : Int32} {m : am_m} {t : Int32} (h : lp_X10_largestSet_6 n x1 x2 x3 m = some t) (hk : am_Go d 254 (43, [some (.inr (.inr (some (10, 0)))), none, some (.inl t), none], [], am_mk m) r M' kc ks) : am_Go d 254 (6, [some (.inr (.inr (some (10, 0)))), some (.inl x1), some (.inl x2), some (.inl x3)], [], am_mk m) r M' kc ks := by
  have htb : am_tab 254 = at_254 := rfl
  induction n generalizing x1 x2 x3 with
  | zero => cases h
  | succ n ih =>
    unfold lp_X10_largestSet_6 at h
    refine am_Go.n htb 2 (S' := (8, [some (.inr (.inr (some (10, 0)))), some (.inl x1), some (.inl x2), some (.inl x3)], [.inr (.inr (some (10, 0))), .inl x3], am_mk m)) rfl ?_
    obtain ⟨r1, h2, h⟩ := am_bd h
    refine am_Go.cl htb rfl (ex_X10_all d (by omega)  m r1 h2) ?_
    show am_Go d 254 (11, [some (.inr (.inr (some (10, 0)))), some (.inl x1), some (.inl x2), some (.inl x3)], [.inl r1, .inl x3], am_mk m) _ _ _ _
    by_cases hc3 : r1 < x3
    · rw [if_pos hc3] at h
      refine am_Go.c1 htb (S' := (43, [some (.inr (.inr (some (10, 0)))), some (.inl x1), some (.inl x2), some (.inl x3)], [], am_mk m)) (if_pos hc3) ?_
      cases h
      exact am_Go.fg (by exact ⟨rfl, ⟨rfl, trivial⟩⟩) hk
    · rw [if_neg hc3] at h
      refine am_Go.c1 htb (S' := (14, [some (.inr (.inr (some (10, 0)))), some (.inl x1), some (.inl x2), some (.inl x3)], [], am_mk m)) (if_neg hc3) ?_
      refine am_Go.n htb 1 (S' := (15, [some (.inr (.inr (some (10, 0)))), some (.inl x1), some (.inl x2), some (.inl x3)], [.inl x3], am_mk m)) rfl ?_
      obtain ⟨r4, h5, h⟩ := am_bd h
      refine am_Go.cl htb rfl (ex_X10_ones d (by omega) x3 m r4 h5) ?_
      show am_Go d 254 (18, [some (.inr (.inr (some (10, 0)))), some (.inl x1), some (.inl x2), some (.inl x3)], [.inl r4], am_mk m) _ _ _ _
      refine am_Go.n htb 1 (S' := (19, [some (.inr (.inr (some (10, 0)))), some (.inl x1), some (.inl x2), some (.inl x3)], [.inl x1, .inl r4], am_mk m)) rfl ?_
      obtain ⟨q12, h13, h⟩ := am_bd h
      refine am_Go.cut (S := (37, [some (.inr (.inr (some (10, 0)))), some (.inl q12.1), some (.inl q12.2), some (.inl x3)], [], am_mk m)) ?_ (fun key => ?_)
      · refine am_Go.n htb 2 (S' := (6, [some (.inr (.inr (some (10, 0)))), some (.inl q12.1), some (.inl q12.2), some (.inl (x3 + 1))], [], am_mk m)) rfl ?_
        first | exact ih h | exact ih h hk
      · have h := h13
        by_cases hc6 : r4 ≤ x1
        · rw [if_pos hc6] at h
          refine am_Go.c1 htb (S' := (37, [some (.inr (.inr (some (10, 0)))), some (.inl x1), some (.inl x2), some (.inl x3)], [], am_mk m)) (if_pos hc6) ?_
          cases h
          exact am_Go.fg (by exact ⟨rfl, ⟨rfl, ⟨rfl, ⟨rfl, trivial⟩⟩⟩⟩) key
        · rw [if_neg hc6] at h
          refine am_Go.c1 htb (S' := (22, [some (.inr (.inr (some (10, 0)))), some (.inl x1), some (.inl x2), some (.inl x3)], [], am_mk m)) (if_neg hc6) ?_
          refine am_Go.n htb 2 (S' := (24, [some (.inr (.inr (some (10, 0)))), some (.inl x1), some (.inl x2), some (.inl x3)], [.inl x3, .inr (.inr (some (10, 0)))], am_mk m)) rfl ?_
          obtain ⟨r7, h8, h⟩ := am_bd h
          refine am_Go.cl htb rfl (ex_X10_isTable d (by omega) x3 m r7 h8) ?_
          show am_Go d 254 (27, [some (.inr (.inr (some (10, 0)))), some (.inl x1), some (.inl x2), some (.inl x3)], [.inl r7], am_mk m) _ _ _ _
          by_cases hc9 : r7 = 0
          · rw [if_pos hc9] at h
            refine am_Go.c1 htb (S' := (37, [some (.inr (.inr (some (10, 0)))), some (.inl x1), some (.inl x2), some (.inl x3)], [], am_mk m)) (if_pos hc9) ?_
            cases h
            exact am_Go.fg (by exact ⟨rfl, ⟨rfl, ⟨rfl, ⟨rfl, trivial⟩⟩⟩⟩) key
          · rw [if_neg hc9] at h
            refine am_Go.c1 htb (S' := (30, [some (.inr (.inr (some (10, 0)))), some (.inl x1), some (.inl x2), some (.inl x3)], [], am_mk m)) (if_neg hc9) ?_
            refine am_Go.n htb 1 (S' := (31, [some (.inr (.inr (some (10, 0)))), some (.inl x1), some (.inl x2), some (.inl x3)], [.inl x3], am_mk m)) rfl ?_
            obtain ⟨r10, h11, h⟩ := am_bd h
            refine am_Go.cl htb rfl (ex_X10_ones d (by omega) x3 m r10 h11) ?_
            show am_Go d 254 (34, [some (.inr (.inr (some (10, 0)))), some (.inl x1), some (.inl x2), some (.inl x3)], [.inl r10], am_mk m) _ _ _ _
            refine am_Go.n htb 3 (S' := (37, [some (.inr (.inr (some (10, 0)))), some (.inl r10), some (.inl x3), some (.inl x3)], [], am_mk m)) rfl ?_
            cases h
            exact am_Go.fg (by exact ⟨rfl, ⟨rfl, ⟨rfl, ⟨rfl, trivial⟩⟩⟩⟩) key
set_option maxRecDepth 100000 in
theorem ex_X10_largestSet (d : Nat) (hd : 3 ≤ d)  (m : am_m) (t : Int32) (h : fn_X10_largestSet  m = some t) : am_Ex am_cod d 254 [.inr (.inr (some (10, 0)))] (am_mk m) (some (.inl t)) (am_mk m) 0 0 := by
  obtain ⟨d, rfl⟩ : ∃ e, d = e + 1 := ⟨d - 1, by omega⟩
  have htb : am_tab 254 = at_254 := rfl
  refine ⟨Nat.le_of_ble_eq_true rfl, ?_⟩
  unfold fn_X10_largestSet at h
  show am_Go d 254 (0, [some (.inr (.inr (some (10, 0)))), none, none, none], [], am_mk m) _ _ 0 0
  refine am_Go.n htb 6 (S' := (6, [some (.inr (.inr (some (10, 0)))), some (.inl 1), some (.inl 0), some (.inl 0)], [], am_mk m)) rfl ?_
  obtain ⟨q14, h15, h⟩ := am_bd h
  refine lt_X10_largestSet_6 _ hd (h := h15) (hk := ?_)
  refine am_Go.n htb 1 (S' := (44, [some (.inr (.inr (some (10, 0)))), none, some (.inl q14), none], [.inl q14], am_mk m)) rfl ?_
  cases h
  exact am_Go.rt htb rfl
-- X10_largest
set_option maxRecDepth 100000 in
theorem ex_X10_largest (d : Nat) (hd : 9 ≤ d) (a1 : Int32) (m : am_m) (t : Int32 × am_m) (h : fn_X10_largest a1 m = some t) : am_Ex am_cod d 255 [.inr (.inr (some (10, 0))), .inl a1] (am_mk m) (some (.inl t.1)) (am_mk t.2) 0 0 := by
  obtain ⟨d, rfl⟩ : ∃ e, d = e + 1 := ⟨d - 1, by omega⟩
  have htb : am_tab 255 = at_255 := rfl
  refine ⟨Nat.le_of_ble_eq_true rfl, ?_⟩
  unfold fn_X10_largest at h
  show am_Go d 255 (0, [some (.inr (.inr (some (10, 0)))), some (.inl a1), none], [], am_mk m) _ _ 0 0
  refine am_Go.n htb 4 (S' := (6, [some (.inr (.inr (some (10, 0)))), some (.inl a1), none], [.inr (.inr (some (10, 0)))], am_mk (am_si m 10 0 0 0))) rfl ?_
  obtain ⟨r1, h2, h⟩ := am_bd h
  refine am_Go.cl htb rfl (ex_X10_layMay d (by omega)  (am_si m 10 0 0 0) r1 h2) ?_
  show am_Go d 255 (9, [some (.inr (.inr (some (10, 0)))), some (.inl a1), none], [], am_mk r1) _ _ _ _
  refine am_Go.n htb 1 (S' := (10, [some (.inr (.inr (some (10, 0)))), some (.inl a1), none], [.inr (.inr (some (10, 0)))], am_mk r1)) rfl ?_
  obtain ⟨r3, h4, h⟩ := am_bd h
  refine am_Go.cl htb rfl (ex_X10_largestSet d (by omega)  r1 r3 h4) ?_
  show am_Go d 255 (13, [some (.inr (.inr (some (10, 0)))), some (.inl a1), none], [.inl r3], am_mk r1) _ _ _ _
  refine am_Go.n htb 2 (S' := (15, [some (.inr (.inr (some (10, 0)))), some (.inl a1), some (.inl r3)], [.inl r3], am_mk r1)) rfl ?_
  by_cases hc5 : r3 = 0
  · rw [if_pos hc5] at h
    refine am_Go.c1 htb (S' := (28, [some (.inr (.inr (some (10, 0)))), some (.inl a1), some (.inl r3)], [], am_mk r1)) (if_pos hc5) ?_
    refine am_Go.n htb 2 (S' := (44, [some (.inr (.inr (some (10, 0)))), some (.inl a1), some (.inl r3)], [.inl (-1)], am_mk r1)) rfl ?_
    cases h
    exact am_Go.rt htb rfl
  · rw [if_neg hc5] at h
    refine am_Go.c1 htb (S' := (18, [some (.inr (.inr (some (10, 0)))), some (.inl a1), some (.inl r3)], [], am_mk r1)) (if_neg hc5) ?_
    refine am_Go.n htb 4 (S' := (22, [some (.inr (.inr (some (10, 0)))), some (.inl a1), some (.inl r3)], [.inr (.inl 1), .inr (.inl 0), .inr (.inl a1.toInt64)], am_mk r1)) rfl ?_
    obtain ⟨r6, h7, h⟩ := am_bd h
    refine am_Go.cl htb rfl (ex_X10_in d (by omega) a1.toInt64 0 1 r1 r6 h7) ?_
    show am_Go d 255 (25, [some (.inr (.inr (some (10, 0)))), some (.inl a1), some (.inl r3)], [.inl r6], am_mk r1) _ _ _ _
    by_cases hc8 : r6 ≠ 0
    · rw [if_pos hc8] at h
      refine am_Go.c1 htb (S' := (32, [some (.inr (.inr (some (10, 0)))), some (.inl a1), some (.inl r3)], [], am_mk r1)) (if_pos hc8) ?_
      refine am_Go.n htb 1 (S' := (33, [some (.inr (.inr (some (10, 0)))), some (.inl a1), some (.inl r3)], [.inl a1], am_mk r1)) rfl ?_
      by_cases hc9 : a1 ≠ 0
      · rw [if_pos hc9] at h
        refine am_Go.c1 htb (S' := (43, [some (.inr (.inr (some (10, 0)))), some (.inl a1), some (.inl r3)], [], am_mk r1)) (if_pos hc9) ?_
        refine am_Go.n htb 1 (S' := (44, [some (.inr (.inr (some (10, 0)))), some (.inl a1), some (.inl r3)], [.inl r3], am_mk r1)) rfl ?_
        cases h
        exact am_Go.rt htb rfl
      · rw [if_neg hc9] at h
        refine am_Go.c1 htb (S' := (36, [some (.inr (.inr (some (10, 0)))), some (.inl a1), some (.inl r3)], [], am_mk r1)) (if_neg hc9) ?_
        refine am_Go.n htb 1 (S' := (37, [some (.inr (.inr (some (10, 0)))), some (.inl a1), some (.inl r3)], [.inl r3], am_mk r1)) rfl ?_
        obtain ⟨r10, h11, h⟩ := am_bd h
        refine am_Go.cl htb rfl (ex_X10_ones d (by omega) r3 r1 r10 h11) ?_
        show am_Go d 255 (40, [some (.inr (.inr (some (10, 0)))), some (.inl a1), some (.inl r3)], [.inl r10], am_mk r1) _ _ _ _
        refine am_Go.n htb 1 (S' := (44, [some (.inr (.inr (some (10, 0)))), some (.inl a1), some (.inl r3)], [.inl r10], am_mk r1)) rfl ?_
        cases h
        exact am_Go.rt htb rfl
    · rw [if_neg hc8] at h
      refine am_Go.c1 htb (S' := (28, [some (.inr (.inr (some (10, 0)))), some (.inl a1), some (.inl r3)], [], am_mk r1)) (if_neg hc8) ?_
      refine am_Go.n htb 2 (S' := (44, [some (.inr (.inr (some (10, 0)))), some (.inl a1), some (.inl r3)], [.inl (-1)], am_mk r1)) rfl ?_
      cases h
      exact am_Go.rt htb rfl
-- X10_setsAhead
set_option maxRecDepth 100000 in
theorem lt_X10_setsAhead_4 (d : Nat) (hd : 1 ≤ d + 1) {r : Option am_V} {M' : am_M} {kc ks : Nat} {n : Nat} {x1 : Int32} {x2 : Int32} {x3 : Int32} {m : am_m} {t : Int32} (h : lp_X10_setsAhead_4 n x1 x2 x3 m = some t) (hk : am_Go d 256 (38, [some (.inr (.inr (some (10, 0)))), some (.inl x1), some (.inl t), none], [], am_mk m) r M' kc ks) : am_Go d 256 (4, [some (.inr (.inr (some (10, 0)))), some (.inl x1), some (.inl x2), some (.inl x3)], [], am_mk m) r M' kc ks := by
  have htb : am_tab 256 = at_256 := rfl
  induction n generalizing x2 x3 with
  | zero => cases h
  | succ n ih =>
    unfold lp_X10_setsAhead_4 at h
    refine am_Go.n htb 2 (S' := (6, [some (.inr (.inr (some (10, 0)))), some (.inl x1), some (.inl x2), some (.inl x3)], [.inl x1, .inl x3], am_mk m)) rfl ?_
    by_cases hc1 : x1 ≤ x3
    · rw [if_pos hc1] at h
      refine am_Go.c1 htb (S' := (38, [some (.inr (.inr (some (10, 0)))), some (.inl x1), some (.inl x2), some (.inl x3)], [], am_mk m)) (if_pos hc1) ?_
      cases h
      exact am_Go.fg (by exact ⟨rfl, ⟨rfl, ⟨rfl, trivial⟩⟩⟩) hk
    · rw [if_neg hc1] at h
      refine am_Go.c1 htb (S' := (9, [some (.inr (.inr (some (10, 0)))), some (.inl x1), some (.inl x2), some (.inl x3)], [], am_mk m)) (if_neg hc1) ?_
      refine am_Go.n htb 3 (S' := (14, [some (.inr (.inr (some (10, 0)))), some (.inl x1), some (.inl x2), some (.inl x3)], [.inl x3, .inr (.inr (some (57, 0)))], am_mk m)) rfl ?_
      obtain ⟨hg2, h⟩ := am_ck_some h
      refine am_Go.c1 htb (S' := (15, [some (.inr (.inr (some (10, 0)))), some (.inl x1), some (.inl x2), some (.inl x3)], [.inl (m.1 57 0 x3.toNatClampNeg)], am_mk m)) (if_neg hg2) ?_
      refine am_Go.n htb 1 (S' := (16, [some (.inr (.inr (some (10, 0)))), some (.inl x1), some (.inl x2), some (.inl x3)], [.inl x2, .inl (m.1 57 0 x3.toNatClampNeg)], am_mk m)) rfl ?_
      obtain ⟨q5, h6, h⟩ := am_bd h
      refine am_Go.cut (S := (31, [some (.inr (.inr (some (10, 0)))), some (.inl x1), some (.inl x2), some (.inl x3)], [.inl q5], am_mk m)) ?_ (fun key => ?_)
      · refine am_Go.n htb 3 (S' := (4, [some (.inr (.inr (some (10, 0)))), some (.inl x1), some (.inl q5), some (.inl (x3 + 1))], [], am_mk m)) rfl ?_
        first | exact ih h | exact ih h hk
      · have h := h6
        by_cases hc3 : (m.1 57 0 x3.toNatClampNeg) < x2
        · rw [if_pos hc3] at h
          refine am_Go.c1 htb (S' := (30, [some (.inr (.inr (some (10, 0)))), some (.inl x1), some (.inl x2), some (.inl x3)], [], am_mk m)) (if_pos hc3) ?_
          refine am_Go.n htb 1 (S' := (31, [some (.inr (.inr (some (10, 0)))), some (.inl x1), some (.inl x2), some (.inl x3)], [.inl x2], am_mk m)) rfl ?_
          cases h
          exact am_Go.fg (by exact ⟨rfl, ⟨rfl, ⟨rfl, ⟨rfl, trivial⟩⟩⟩⟩) key
        · rw [if_neg hc3] at h
          refine am_Go.c1 htb (S' := (19, [some (.inr (.inr (some (10, 0)))), some (.inl x1), some (.inl x2), some (.inl x3)], [], am_mk m)) (if_neg hc3) ?_
          refine am_Go.n htb 3 (S' := (24, [some (.inr (.inr (some (10, 0)))), some (.inl x1), some (.inl x2), some (.inl x3)], [.inl x3, .inr (.inr (some (57, 0)))], am_mk m)) rfl ?_
          obtain ⟨hg4, h⟩ := am_ck_some h
          refine am_Go.c1 htb (S' := (25, [some (.inr (.inr (some (10, 0)))), some (.inl x1), some (.inl x2), some (.inl x3)], [.inl (m.1 57 0 x3.toNatClampNeg)], am_mk m)) (if_neg hg4) ?_
          refine am_Go.n htb 3 (S' := (31, [some (.inr (.inr (some (10, 0)))), some (.inl x1), some (.inl x2), some (.inl x3)], [.inl ((m.1 57 0 x3.toNatClampNeg) + (1 : Int32))], am_mk m)) rfl ?_
          cases h
          exact am_Go.fg (by exact ⟨rfl, ⟨rfl, ⟨rfl, ⟨rfl, trivial⟩⟩⟩⟩) key
set_option maxRecDepth 100000 in
theorem ex_X10_setsAhead (d : Nat) (hd : 1 ≤ d) (a1 : Int32) (m : am_m) (t : Int32) (h : fn_X10_setsAhead a1 m = some t) : am_Ex am_cod d 256 [.inr (.inr (some (10, 0))), .inl a1] (am_mk m) (some (.inl t)) (am_mk m) 0 0 := by
  obtain ⟨d, rfl⟩ : ∃ e, d = e + 1 := ⟨d - 1, by omega⟩
  have htb : am_tab 256 = at_256 := rfl
  refine ⟨Nat.le_of_ble_eq_true rfl, ?_⟩
  unfold fn_X10_setsAhead at h
  show am_Go d 256 (0, [some (.inr (.inr (some (10, 0)))), some (.inl a1), none, none], [], am_mk m) _ _ 0 0
  refine am_Go.n htb 4 (S' := (4, [some (.inr (.inr (some (10, 0)))), some (.inl a1), some (.inl 0), some (.inl 0)], [], am_mk m)) rfl ?_
  obtain ⟨q7, h8, h⟩ := am_bd h
  refine lt_X10_setsAhead_4 _ hd (h := h8) (hk := ?_)
  refine am_Go.n htb 1 (S' := (39, [some (.inr (.inr (some (10, 0)))), some (.inl a1), some (.inl q7), none], [.inl q7], am_mk m)) rfl ?_
  cases h
  exact am_Go.rt htb rfl
-- X10_setOf
set_option maxRecDepth 100000 in
theorem lt_X10_setOf_5 (d : Nat) (hd : 1 ≤ d + 1) {r : Option am_V} {M' : am_M} {kc ks : Nat} {n : Nat} {x1 : Int32} {x2 : Int32} {x3 : Int32} {x4 : Int32} {m : am_m} {t : Int32} (h : lp_X10_setOf_5 n x1 x2 x3 x4 m = some t) (hk : am_Go d 257 (39, [some (.inr (.inr (some (10, 0)))), some (.inl x1), some (.inl x2), some (.inl t), none], [], am_mk m) r M' kc ks) : am_Go d 257 (5, [some (.inr (.inr (some (10, 0)))), some (.inl x1), some (.inl x2), some (.inl x3), some (.inl x4)], [], am_mk m) r M' kc ks := by
  have htb : am_tab 257 = at_257 := rfl
  induction n generalizing x3 x4 with
  | zero => cases h
  | succ n ih =>
    unfold lp_X10_setOf_5 at h
    refine am_Go.n htb 2 (S' := (8, [some (.inr (.inr (some (10, 0)))), some (.inl x1), some (.inl x2), some (.inl x3), some (.inl x4)], [.inl x2, .inl x4], am_mk m)) rfl ?_
    by_cases hc1 : x2 ≤ x4
    · rw [if_pos hc1] at h
      refine am_Go.c1 htb (S' := (39, [some (.inr (.inr (some (10, 0)))), some (.inl x1), some (.inl x2), some (.inl x3), some (.inl x4)], [], am_mk m)) (if_pos hc1) ?_
      cases h
      exact am_Go.fg (by exact ⟨rfl, ⟨rfl, ⟨rfl, ⟨rfl, trivial⟩⟩⟩⟩) hk
    · rw [if_neg hc1] at h
      refine am_Go.c1 htb (S' := (11, [some (.inr (.inr (some (10, 0)))), some (.inl x1), some (.inl x2), some (.inl x3), some (.inl x4)], [], am_mk m)) (if_neg hc1) ?_
      refine am_Go.n htb 4 (S' := (18, [some (.inr (.inr (some (10, 0)))), some (.inl x1), some (.inl x2), some (.inl x3), some (.inl x4)], [.inl x4, .inr (.inr (some (57, 0))), .inl x3], am_mk m)) rfl ?_
      obtain ⟨hg2, h⟩ := am_ck_some h
      refine am_Go.c1 htb (S' := (19, [some (.inr (.inr (some (10, 0)))), some (.inl x1), some (.inl x2), some (.inl x3), some (.inl x4)], [.inl (m.1 57 0 x4.toNatClampNeg), .inl x3], am_mk m)) (if_neg hg2) ?_
      refine am_Go.n htb 1 (S' := (20, [some (.inr (.inr (some (10, 0)))), some (.inl x1), some (.inl x2), some (.inl x3), some (.inl x4)], [.inl x1, .inl (m.1 57 0 x4.toNatClampNeg), .inl x3], am_mk m)) rfl ?_
      refine am_Go.cut (S := (31, [some (.inr (.inr (some (10, 0)))), some (.inl x1), some (.inl x2), some (.inl x3), some (.inl x4)], [.inl (if (m.1 57 0 x4.toNatClampNeg) ≠ x1 then (0 : Int32) else ((1 : Int32) <<< (x4 &&& 31))), .inl x3], am_mk m)) ?_ (fun key => ?_)
      · refine am_Go.n htb 4 (S' := (5, [some (.inr (.inr (some (10, 0)))), some (.inl x1), some (.inl x2), some (.inl (x3 ||| (if (m.1 57 0 x4.toNatClampNeg) ≠ x1 then (0 : Int32) else ((1 : Int32) <<< (x4 &&& 31))))), some (.inl (x4 + 1))], [], am_mk m)) rfl ?_
        first | exact ih h | exact ih h hk
      · by_cases hc3 : (m.1 57 0 x4.toNatClampNeg) ≠ x1
        · refine am_Go.c1 htb (S' := (30, [some (.inr (.inr (some (10, 0)))), some (.inl x1), some (.inl x2), some (.inl x3), some (.inl x4)], [.inl x3], am_mk m)) (if_pos hc3) ?_
          refine am_Go.n htb 1 (S' := (31, [some (.inr (.inr (some (10, 0)))), some (.inl x1), some (.inl x2), some (.inl x3), some (.inl x4)], [.inl 0, .inl x3], am_mk m)) rfl ?_
          simp only [if_pos hc3] at key
          exact am_Go.fg (by exact ⟨rfl, ⟨rfl, ⟨rfl, ⟨rfl, ⟨rfl, trivial⟩⟩⟩⟩⟩) key
        · refine am_Go.c1 htb (S' := (23, [some (.inr (.inr (some (10, 0)))), some (.inl x1), some (.inl x2), some (.inl x3), some (.inl x4)], [.inl x3], am_mk m)) (if_neg hc3) ?_
          refine am_Go.n htb 4 (S' := (31, [some (.inr (.inr (some (10, 0)))), some (.inl x1), some (.inl x2), some (.inl x3), some (.inl x4)], [.inl ((1 : Int32) <<< (x4 &&& 31)), .inl x3], am_mk m)) rfl ?_
          simp only [if_neg hc3] at key
          exact am_Go.fg (by exact ⟨rfl, ⟨rfl, ⟨rfl, ⟨rfl, ⟨rfl, trivial⟩⟩⟩⟩⟩) key
set_option maxRecDepth 100000 in
theorem ex_X10_setOf (d : Nat) (hd : 1 ≤ d) (a1 : Int32) (a2 : Int32) (m : am_m) (t : Int32) (h : fn_X10_setOf a1 a2 m = some t) : am_Ex am_cod d 257 [.inr (.inr (some (10, 0))), .inl a1, .inl a2] (am_mk m) (some (.inl t)) (am_mk m) 0 0 := by
  obtain ⟨d, rfl⟩ : ∃ e, d = e + 1 := ⟨d - 1, by omega⟩
  have htb : am_tab 257 = at_257 := rfl
  refine ⟨Nat.le_of_ble_eq_true rfl, ?_⟩
  unfold fn_X10_setOf at h
  show am_Go d 257 (0, [some (.inr (.inr (some (10, 0)))), some (.inl a1), some (.inl a2), none, none], [], am_mk m) _ _ 0 0
  refine am_Go.n htb 4 (S' := (5, [some (.inr (.inr (some (10, 0)))), some (.inl a1), some (.inl a2), some (.inl 0), some (.inl 0)], [], am_mk m)) rfl ?_
  obtain ⟨q4, h5, h⟩ := am_bd h
  refine lt_X10_setOf_5 _ hd (h := h5) (hk := ?_)
  refine am_Go.n htb 1 (S' := (40, [some (.inr (.inr (some (10, 0)))), some (.inl a1), some (.inl a2), some (.inl q4), none], [.inl q4], am_mk m)) rfl ?_
  cases h
  exact am_Go.rt htb rfl
-- X10_worthOf
set_option maxRecDepth 100000 in
theorem lt_X10_worthOf_19 (d : Nat) (hd : 3 ≤ d + 1) {r : Option am_V} {M' : am_M} {kc ks : Nat} {n : Nat} {x1 : Int32} {x2 : Int32} {x3 : Int32} {x4 : Int32} {x5 : Int32} {m : am_m} {t : Sum (Unit) (Int32)} (h : lp_X10_worthOf_19 n x1 x2 x3 x4 x5 m = some t) (hk : ∀ t', t = .inl t' → am_Go d 258 (69, [some (.inr (.inr (some (10, 0)))), some (.inl x1), some (.inl x2), some (.inl x3), some (.inl x4), none, none], [], am_mk m) r M' kc ks) (hr : ∀ t', t = .inr t' → r = some (.inl t') ∧ M' = am_mk m ∧ kc = 0 ∧ ks = 0) : am_Go d 258 (19, [some (.inr (.inr (some (10, 0)))), some (.inl x1), some (.inl x2), some (.inl x3), some (.inl x4), some (.inl x5), none], [], am_mk m) r M' kc ks := by
  have htb : am_tab 258 = at_258 := rfl
  induction n generalizing x5 with
  | zero => cases h
  | succ n ih =>
    unfold lp_X10_worthOf_19 at h
    refine am_Go.n htb 2 (S' := (22, [some (.inr (.inr (some (10, 0)))), some (.inl x1), some (.inl x2), some (.inl x3), some (.inl x4), some (.inl x5), none], [.inl x3, .inl x5], am_mk m)) rfl ?_
    by_cases hc3 : x3 ≤ x5
    · rw [if_pos hc3] at h
      refine am_Go.c1 htb (S' := (69, [some (.inr (.inr (some (10, 0)))), some (.inl x1), some (.inl x2), some (.inl x3), some (.inl x4), some (.inl x5), none], [], am_mk m)) (if_pos hc3) ?_
      cases h
      exact am_Go.fg (by exact ⟨rfl, ⟨rfl, ⟨rfl, ⟨rfl, ⟨rfl, trivial⟩⟩⟩⟩⟩) (hk _ rfl)
    · rw [if_neg hc3] at h
      refine am_Go.c1 htb (S' := (25, [some (.inr (.inr (some (10, 0)))), some (.inl x1), some (.inl x2), some (.inl x3), some (.inl x4), some (.inl x5), none], [], am_mk m)) (if_neg hc3) ?_
      refine am_Go.n htb 3 (S' := (29, [some (.inr (.inr (some (10, 0)))), some (.inl x1), some (.inl x2), some (.inl x3), some (.inl x4), some (.inl x5), none], [.inl x2, .inl x5, .inr (.inr (some (10, 0)))], am_mk m)) rfl ?_
      obtain ⟨r4, h5, h⟩ := am_bd h
      refine am_Go.cl htb rfl (ex_X10_setOf d (by omega) x5 x2 m r4 h5) ?_
      show am_Go d 258 (32, [some (.inr (.inr (some (10, 0)))), some (.inl x1), some (.inl x2), some (.inl x3), some (.inl x4), some (.inl x5), none], [.inl r4], am_mk m) _ _ _ _
      refine am_Go.n htb 2 (S' := (35, [some (.inr (.inr (some (10, 0)))), some (.inl x1), some (.inl x2), some (.inl x3), some (.inl x4), some (.inl x5), some (.inl r4)], [.inl x1], am_mk m)) rfl ?_
      by_cases hc6 : x1 = 0
      · rw [if_pos hc6] at h
        refine am_Go.c1 htb (S' := (50, [some (.inr (.inr (some (10, 0)))), some (.inl x1), some (.inl x2), some (.inl x3), some (.inl x4), some (.inl x5), some (.inl r4)], [], am_mk m)) (if_pos hc6) ?_
        refine am_Go.n htb 1 (S' := (52, [some (.inr (.inr (some (10, 0)))), some (.inl x1), some (.inl x2), some (.inl x3), some (.inl x4), some (.inl x5), some (.inl r4)], [.inl r4], am_mk m)) rfl ?_
        obtain ⟨r7, h8, h⟩ := am_bd h
        refine am_Go.cl htb rfl (ex_X10_ones d (by omega) r4 m r7 h8) ?_
        show am_Go d 258 (55, [some (.inr (.inr (some (10, 0)))), some (.inl x1), some (.inl x2), some (.inl x3), some (.inl x4), some (.inl x5), some (.inl r4)], [.inl r7], am_mk m) _ _ _ _
        refine am_Go.n htb 1 (S' := (56, [some (.inr (.inr (some (10, 0)))), some (.inl x1), some (.inl x2), some (.inl x3), some (.inl x4), some (.inl x5), some (.inl r4)], [.inl 2, .inl r7], am_mk m)) rfl ?_
        by_cases hc9 : (2 : Int32) ≤ r7
        · rw [if_pos hc9] at h
          refine am_Go.c1 htb (S' := (63, [some (.inr (.inr (some (10, 0)))), some (.inl x1), some (.inl x2), some (.inl x3), some (.inl x4), some (.inl x5), some (.inl r4)], [], am_mk m)) (if_pos hc9) ?_
          refine am_Go.n htb 2 (S' := (19, [some (.inr (.inr (some (10, 0)))), some (.inl x1), some (.inl x2), some (.inl x3), some (.inl x4), some (.inl (x5 + 1)), some (.inl r4)], [], am_mk m)) rfl ?_
          refine am_Go.fg (L0 := [some (.inr (.inr (some (10, 0)))), some (.inl x1), some (.inl x2), some (.inl x3), some (.inl x4), some (.inl (x5 + 1)), none]) (by exact ⟨rfl, ⟨rfl, ⟨rfl, ⟨rfl, ⟨rfl, ⟨rfl, trivial⟩⟩⟩⟩⟩⟩) ?_
          first | exact ih h | exact ih h hk | exact ih h hr | exact ih h hk hr
        · rw [if_neg hc9] at h
          refine am_Go.c1 htb (S' := (59, [some (.inr (.inr (some (10, 0)))), some (.inl x1), some (.inl x2), some (.inl x3), some (.inl x4), some (.inl x5), some (.inl r4)], [], am_mk m)) (if_neg hc9) ?_
          refine am_Go.n htb 1 (S' := (62, [some (.inr (.inr (some (10, 0)))), some (.inl x1), some (.inl x2), some (.inl x3), some (.inl x4), some (.inl x5), some (.inl r4)], [.inl 100000000], am_mk m)) rfl ?_
          cases h
          obtain ⟨rfl, rfl, rfl, rfl⟩ := hr _ rfl
          exact am_Go.rt htb rfl
      · rw [if_neg hc6] at h
        refine am_Go.c1 htb (S' := (38, [some (.inr (.inr (some (10, 0)))), some (.inl x1), some (.inl x2), some (.inl x3), some (.inl x4), some (.inl x5), some (.inl r4)], [], am_mk m)) (if_neg hc6) ?_
        refine am_Go.n htb 2 (S' := (41, [some (.inr (.inr (some (10, 0)))), some (.inl x1), some (.inl x2), some (.inl x3), some (.inl x4), some (.inl x5), some (.inl r4)], [.inl r4, .inr (.inr (some (10, 0)))], am_mk m)) rfl ?_
        obtain ⟨r10, h11, h⟩ := am_bd h
        refine am_Go.cl htb rfl (ex_X10_isTable d (by omega) r4 m r10 h11) ?_
        show am_Go d 258 (44, [some (.inr (.inr (some (10, 0)))), some (.inl x1), some (.inl x2), some (.inl x3), some (.inl x4), some (.inl x5), some (.inl r4)], [.inl r10], am_mk m) _ _ _ _
        by_cases hc12 : r10 ≠ 0
        · rw [if_pos hc12] at h
          refine am_Go.c1 htb (S' := (63, [some (.inr (.inr (some (10, 0)))), some (.inl x1), some (.inl x2), some (.inl x3), some (.inl x4), some (.inl x5), some (.inl r4)], [], am_mk m)) (if_pos hc12) ?_
          refine am_Go.n htb 2 (S' := (19, [some (.inr (.inr (some (10, 0)))), some (.inl x1), some (.inl x2), some (.inl x3), some (.inl x4), some (.inl (x5 + 1)), some (.inl r4)], [], am_mk m)) rfl ?_
          refine am_Go.fg (L0 := [some (.inr (.inr (some (10, 0)))), some (.inl x1), some (.inl x2), some (.inl x3), some (.inl x4), some (.inl (x5 + 1)), none]) (by exact ⟨rfl, ⟨rfl, ⟨rfl, ⟨rfl, ⟨rfl, ⟨rfl, trivial⟩⟩⟩⟩⟩⟩) ?_
          first | exact ih h | exact ih h hk | exact ih h hr | exact ih h hk hr
        · rw [if_neg hc12] at h
          refine am_Go.c1 htb (S' := (47, [some (.inr (.inr (some (10, 0)))), some (.inl x1), some (.inl x2), some (.inl x3), some (.inl x4), some (.inl x5), some (.inl r4)], [], am_mk m)) (if_neg hc12) ?_
          refine am_Go.n htb 2 (S' := (62, [some (.inr (.inr (some (10, 0)))), some (.inl x1), some (.inl x2), some (.inl x3), some (.inl x4), some (.inl x5), some (.inl r4)], [.inl 100000000], am_mk m)) rfl ?_
          cases h
          obtain ⟨rfl, rfl, rfl, rfl⟩ := hr _ rfl
          exact am_Go.rt htb rfl
set_option maxRecDepth 100000 in
theorem lt_X10_worthOf_84 (d : Nat) (hd : 3 ≤ d + 1) {r : Option am_V} {M' : am_M} {kc ks : Nat} {n : Nat} {x1 : Int32} {x2 : Int32} {x3 : Int32} {x4 : Int32} {x5 : Int32} {x6 : Int32} {m : am_m} {t : Sum (Int32) (Int32)} (h : lp_X10_worthOf_84 n x1 x2 x3 x4 x5 x6 m = some t) (hk : ∀ t', t = .inl t' → am_Go d 258 (163, [some (.inr (.inr (some (10, 0)))), some (.inl x1), some (.inl x2), some (.inl x3), some (.inl t'), some (.inl x5), none], [], am_mk m) r M' kc ks) (hr : ∀ t', t = .inr t' → r = some (.inl t') ∧ M' = am_mk m ∧ kc = 0 ∧ ks = 0) : am_Go d 258 (84, [some (.inr (.inr (some (10, 0)))), some (.inl x1), some (.inl x2), some (.inl x3), some (.inl x4), some (.inl x5), some (.inl x6)], [], am_mk m) r M' kc ks := by
  have htb : am_tab 258 = at_258 := rfl
  induction n generalizing x4 x6 with
  | zero => cases h
  | succ n ih =>
    unfold lp_X10_worthOf_84 at h
    refine am_Go.n htb 2 (S' := (87, [some (.inr (.inr (some (10, 0)))), some (.inl x1), some (.inl x2), some (.inl x3), some (.inl x4), some (.inl x5), some (.inl x6)], [.inl x2, .inl x6], am_mk m)) rfl ?_
    by_cases hc16 : x2 ≤ x6
    · rw [if_pos hc16] at h
      refine am_Go.c1 htb (S' := (163, [some (.inr (.inr (some (10, 0)))), some (.inl x1), some (.inl x2), some (.inl x3), some (.inl x4), some (.inl x5), some (.inl x6)], [], am_mk m)) (if_pos hc16) ?_
      cases h
      exact am_Go.fg (by exact ⟨rfl, ⟨rfl, ⟨rfl, ⟨rfl, ⟨rfl, ⟨rfl, trivial⟩⟩⟩⟩⟩⟩) (hk _ rfl)
    · rw [if_neg hc16] at h
      refine am_Go.c1 htb (S' := (90, [some (.inr (.inr (some (10, 0)))), some (.inl x1), some (.inl x2), some (.inl x3), some (.inl x4), some (.inl x5), some (.inl x6)], [], am_mk m)) (if_neg hc16) ?_
      refine am_Go.n htb 1 (S' := (91, [some (.inr (.inr (some (10, 0)))), some (.inl x1), some (.inl x2), some (.inl x3), some (.inl x4), some (.inl x5), some (.inl x6)], [.inl x1], am_mk m)) rfl ?_
      by_cases hc17 : x1 ≠ 0
      · rw [if_pos hc17] at h
        refine am_Go.c1 htb (S' := (157, [some (.inr (.inr (some (10, 0)))), some (.inl x1), some (.inl x2), some (.inl x3), some (.inl x4), some (.inl x5), some (.inl x6)], [], am_mk m)) (if_pos hc17) ?_
        refine am_Go.n htb 2 (S' := (84, [some (.inr (.inr (some (10, 0)))), some (.inl x1), some (.inl x2), some (.inl x3), some (.inl x4), some (.inl x5), some (.inl (x6 + 1))], [], am_mk m)) rfl ?_
        first | exact ih h | exact ih h hk | exact ih h hr | exact ih h hk hr
      · rw [if_neg hc17] at h
        refine am_Go.c1 htb (S' := (94, [some (.inr (.inr (some (10, 0)))), some (.inl x1), some (.inl x2), some (.inl x3), some (.inl x4), some (.inl x5), some (.inl x6)], [], am_mk m)) (if_neg hc17) ?_
        refine am_Go.n htb 3 (S' := (100, [some (.inr (.inr (some (10, 0)))), some (.inl x1), some (.inl x2), some (.inl x3), some (.inl x4), some (.inl x5), some (.inl x6)], [.inl x5, .inr (.inr (some (57, 0)))], am_mk m)) rfl ?_
        obtain ⟨hg18, h⟩ := am_ck_some h
        refine am_Go.c1 htb (S' := (101, [some (.inr (.inr (some (10, 0)))), some (.inl x1), some (.inl x2), some (.inl x3), some (.inl x4), some (.inl x5), some (.inl x6)], [.inl (m.1 57 0 x5.toNatClampNeg)], am_mk m)) (if_neg hg18) ?_
        refine am_Go.n htb 3 (S' := (107, [some (.inr (.inr (some (10, 0)))), some (.inl x1), some (.inl x2), some (.inl x3), some (.inl x4), some (.inl x5), some (.inl x6)], [.inl x6, .inr (.inr (some (57, 0))), .inl (m.1 57 0 x5.toNatClampNeg)], am_mk m)) rfl ?_
        obtain ⟨hg19, h⟩ := am_ck_some h
        refine am_Go.c1 htb (S' := (108, [some (.inr (.inr (some (10, 0)))), some (.inl x1), some (.inl x2), some (.inl x3), some (.inl x4), some (.inl x5), some (.inl x6)], [.inl (m.1 57 0 x6.toNatClampNeg), .inl (m.1 57 0 x5.toNatClampNeg)], am_mk m)) (if_neg hg19) ?_
        by_cases hc20 : (m.1 57 0 x5.toNatClampNeg) ≠ (m.1 57 0 x6.toNatClampNeg)
        · rw [if_pos hc20] at h
          refine am_Go.c1 htb (S' := (157, [some (.inr (.inr (some (10, 0)))), some (.inl x1), some (.inl x2), some (.inl x3), some (.inl x4), some (.inl x5), some (.inl x6)], [], am_mk m)) (if_pos hc20) ?_
          refine am_Go.n htb 2 (S' := (84, [some (.inr (.inr (some (10, 0)))), some (.inl x1), some (.inl x2), some (.inl x3), some (.inl x4), some (.inl x5), some (.inl (x6 + 1))], [], am_mk m)) rfl ?_
          first | exact ih h | exact ih h hk | exact ih h hr | exact ih h hk hr
        · rw [if_neg hc20] at h
          refine am_Go.c1 htb (S' := (111, [some (.inr (.inr (some (10, 0)))), some (.inl x1), some (.inl x2), some (.inl x3), some (.inl x4), some (.inl x5), some (.inl x6)], [], am_mk m)) (if_neg hc20) ?_
          refine am_Go.n htb 7 (S' := (123, [some (.inr (.inr (some (10, 0)))), some (.inl x1), some (.inl x2), some (.inl x3), some (.inl x4), some (.inl x5), some (.inl x6)], [.inl (((7 : Int32) * x5) + x6), .inr (.inr (some (93, 0)))], am_mk m)) rfl ?_
          obtain ⟨hg21, h⟩ := am_ck_some h
          refine am_Go.c1 htb (S' := (124, [some (.inr (.inr (some (10, 0)))), some (.inl x1), some (.inl x2), some (.inl x3), some (.inl x4), some (.inl x5), some (.inl x6)], [.inl (m.1 93 0 (((7 : Int32) * x5) + x6).toNatClampNeg)], am_mk m)) (if_neg hg21) ?_
          by_cases hc22 : (m.1 93 0 (((7 : Int32) * x5) + x6).toNatClampNeg) = 0
          · rw [if_pos hc22] at h
            refine am_Go.c1 htb (S' := (131, [some (.inr (.inr (some (10, 0)))), some (.inl x1), some (.inl x2), some (.inl x3), some (.inl x4), some (.inl x5), some (.inl x6)], [], am_mk m)) (if_pos hc22) ?_
            refine am_Go.n htb 8 (S' := (145, [some (.inr (.inr (some (10, 0)))), some (.inl x1), some (.inl x2), some (.inl x3), some (.inl x4), some (.inl x5), some (.inl x6)], [.inl (((7 : Int32) * x5) + x6), .inr (.inr (some (92, 0))), .inl x4], am_mk m)) rfl ?_
            obtain ⟨hg23, h⟩ := am_ck_some h
            refine am_Go.c1 htb (S' := (146, [some (.inr (.inr (some (10, 0)))), some (.inl x1), some (.inl x2), some (.inl x3), some (.inl x4), some (.inl x5), some (.inl x6)], [.inl (m.1 92 0 (((7 : Int32) * x5) + x6).toNatClampNeg), .inl x4], am_mk m)) (if_neg hg23) ?_
            refine am_Go.cut (S := (154, [some (.inr (.inr (some (10, 0)))), some (.inl x1), some (.inl x2), some (.inl x3), some (.inl x4), some (.inl x5), some (.inl x6)], [.inl (if (m.1 92 0 (((7 : Int32) * x5) + x6).toNatClampNeg) = 0 then (1 : Int32) else (0 : Int32)), .inl x4], am_mk m)) ?_ (fun key => ?_)
            · refine am_Go.n htb 4 (S' := (84, [some (.inr (.inr (some (10, 0)))), some (.inl x1), some (.inl x2), some (.inl x3), some (.inl (x4 + (if (m.1 92 0 (((7 : Int32) * x5) + x6).toNatClampNeg) = 0 then (1 : Int32) else (0 : Int32)))), some (.inl x5), some (.inl (x6 + 1))], [], am_mk m)) rfl ?_
              first | exact ih h | exact ih h hk | exact ih h hr | exact ih h hk hr
            · by_cases hc24 : (m.1 92 0 (((7 : Int32) * x5) + x6).toNatClampNeg) = 0
              · refine am_Go.c1 htb (S' := (153, [some (.inr (.inr (some (10, 0)))), some (.inl x1), some (.inl x2), some (.inl x3), some (.inl x4), some (.inl x5), some (.inl x6)], [.inl x4], am_mk m)) (if_pos hc24) ?_
                refine am_Go.n htb 1 (S' := (154, [some (.inr (.inr (some (10, 0)))), some (.inl x1), some (.inl x2), some (.inl x3), some (.inl x4), some (.inl x5), some (.inl x6)], [.inl 1, .inl x4], am_mk m)) rfl ?_
                simp only [if_pos hc24] at key
                exact am_Go.fg (by exact ⟨rfl, ⟨rfl, ⟨rfl, ⟨rfl, ⟨rfl, ⟨rfl, ⟨rfl, trivial⟩⟩⟩⟩⟩⟩⟩) key
              · refine am_Go.c1 htb (S' := (149, [some (.inr (.inr (some (10, 0)))), some (.inl x1), some (.inl x2), some (.inl x3), some (.inl x4), some (.inl x5), some (.inl x6)], [.inl x4], am_mk m)) (if_neg hc24) ?_
                refine am_Go.n htb 2 (S' := (154, [some (.inr (.inr (some (10, 0)))), some (.inl x1), some (.inl x2), some (.inl x3), some (.inl x4), some (.inl x5), some (.inl x6)], [.inl 0, .inl x4], am_mk m)) rfl ?_
                simp only [if_neg hc24] at key
                exact am_Go.fg (by exact ⟨rfl, ⟨rfl, ⟨rfl, ⟨rfl, ⟨rfl, ⟨rfl, ⟨rfl, trivial⟩⟩⟩⟩⟩⟩⟩) key
          · rw [if_neg hc22] at h
            refine am_Go.c1 htb (S' := (127, [some (.inr (.inr (some (10, 0)))), some (.inl x1), some (.inl x2), some (.inl x3), some (.inl x4), some (.inl x5), some (.inl x6)], [], am_mk m)) (if_neg hc22) ?_
            refine am_Go.n htb 1 (S' := (130, [some (.inr (.inr (some (10, 0)))), some (.inl x1), some (.inl x2), some (.inl x3), some (.inl x4), some (.inl x5), some (.inl x6)], [.inl 100000000], am_mk m)) rfl ?_
            cases h
            obtain ⟨rfl, rfl, rfl, rfl⟩ := hr _ rfl
            exact am_Go.rt htb rfl
set_option maxRecDepth 100000 in
theorem lt_X10_worthOf_72 (d : Nat) (hd : 3 ≤ d + 1) {r : Option am_V} {M' : am_M} {kc ks : Nat} {n : Nat} {x1 : Int32} {x2 : Int32} {x3 : Int32} {x4 : Int32} {x5 : Int32} {m : am_m} {t : Sum (Int32) (Int32)} (h : lp_X10_worthOf_72 n x1 x2 x3 x4 x5 m = some t) (hk : ∀ t', t = .inl t' → am_Go d 258 (169, [some (.inr (.inr (some (10, 0)))), some (.inl x1), some (.inl x2), some (.inl x3), some (.inl t'), none, none], [], am_mk m) r M' kc ks) (hr : ∀ t', t = .inr t' → r = some (.inl t') ∧ M' = am_mk m ∧ kc = 0 ∧ ks = 0) : am_Go d 258 (72, [some (.inr (.inr (some (10, 0)))), some (.inl x1), some (.inl x2), some (.inl x3), some (.inl x4), some (.inl x5), none], [], am_mk m) r M' kc ks := by
  have htb : am_tab 258 = at_258 := rfl
  induction n generalizing x4 x5 with
  | zero => cases h
  | succ n ih =>
    unfold lp_X10_worthOf_72 at h
    refine am_Go.n htb 2 (S' := (75, [some (.inr (.inr (some (10, 0)))), some (.inl x1), some (.inl x2), some (.inl x3), some (.inl x4), some (.inl x5), none], [.inl x2, .inl x5], am_mk m)) rfl ?_
    by_cases hc15 : x2 ≤ x5
    · rw [if_pos hc15] at h
      refine am_Go.c1 htb (S' := (169, [some (.inr (.inr (some (10, 0)))), some (.inl x1), some (.inl x2), some (.inl x3), some (.inl x4), some (.inl x5), none], [], am_mk m)) (if_pos hc15) ?_
      cases h
      exact am_Go.fg (by exact ⟨rfl, ⟨rfl, ⟨rfl, ⟨rfl, ⟨rfl, trivial⟩⟩⟩⟩⟩) (hk _ rfl)
    · rw [if_neg hc15] at h
      refine am_Go.c1 htb (S' := (78, [some (.inr (.inr (some (10, 0)))), some (.inl x1), some (.inl x2), some (.inl x3), some (.inl x4), some (.inl x5), none], [], am_mk m)) (if_neg hc15) ?_
      refine am_Go.n htb 4 (S' := (84, [some (.inr (.inr (some (10, 0)))), some (.inl x1), some (.inl x2), some (.inl x3), some (.inl x4), some (.inl x5), some (.inl (x5 + (1 : Int32)))], [], am_mk m)) rfl ?_
      obtain ⟨w28, h26, h⟩ := am_bd h
      refine lt_X10_worthOf_84 _ hd (h := h26) (hk := ?_) (hr := ?_)
      · intro q25 he
        subst he
        dsimp only at h
        refine am_Go.n htb 2 (S' := (72, [some (.inr (.inr (some (10, 0)))), some (.inl x1), some (.inl x2), some (.inl x3), some (.inl q25), some (.inl (x5 + 1)), none], [], am_mk m)) rfl ?_
        first | exact ih h | exact ih h hk | exact ih h hr | exact ih h hk hr
      · intro rr27 he
        subst he
        cases h
        exact hr _ rfl
set_option maxRecDepth 100000 in
theorem ex_X10_worthOf (d : Nat) (hd : 3 ≤ d) (a1 : Int32) (m : am_m) (t : Int32) (h : fn_X10_worthOf a1 m = some t) : am_Ex am_cod d 258 [.inr (.inr (some (10, 0))), .inl a1] (am_mk m) (some (.inl t)) (am_mk m) 0 0 := by
  obtain ⟨d, rfl⟩ : ∃ e, d = e + 1 := ⟨d - 1, by omega⟩
  have htb : am_tab 258 = at_258 := rfl
  refine ⟨Nat.le_of_ble_eq_true rfl, ?_⟩
  unfold fn_X10_worthOf at h
  show am_Go d 258 (0, [some (.inr (.inr (some (10, 0)))), some (.inl a1), none, none, none, none, none], [], am_mk m) _ _ 0 0
  refine am_Go.n htb 7 (S' := (9, [some (.inr (.inr (some (10, 0)))), some (.inl a1), some (.inl (m.1 44 0 0)), none, none, none, none], [.inl (m.1 44 0 0), .inr (.inr (some (10, 0)))], am_mk m)) rfl ?_
  obtain ⟨r1, h2, h⟩ := am_bd h
  refine am_Go.cl htb rfl (ex_X10_setsAhead d (by omega) (m.1 44 0 0) m r1 h2) ?_
  show am_Go d 258 (12, [some (.inr (.inr (some (10, 0)))), some (.inl a1), some (.inl (m.1 44 0 0)), none, none, none, none], [.inl r1], am_mk m) _ _ _ _
  refine am_Go.n htb 5 (S' := (19, [some (.inr (.inr (some (10, 0)))), some (.inl a1), some (.inl (m.1 44 0 0)), some (.inl r1), some (.inl 0), some (.inl 0), none], [], am_mk m)) rfl ?_
  obtain ⟨w35, h14, h⟩ := am_bd h
  refine lt_X10_worthOf_19 _ hd (h := h14) (hk := ?_) (hr := ?_)
  · intro q13 he
    subst he
    dsimp only at h
    refine am_Go.n htb 2 (S' := (72, [some (.inr (.inr (some (10, 0)))), some (.inl a1), some (.inl (m.1 44 0 0)), some (.inl r1), some (.inl 0), some (.inl 0), none], [], am_mk m)) rfl ?_
    obtain ⟨w33, h30, h⟩ := am_bd h
    refine lt_X10_worthOf_72 _ hd (h := h30) (hk := ?_) (hr := ?_)
    · intro q29 he
      subst he
      dsimp only at h
      refine am_Go.n htb 1 (S' := (170, [some (.inr (.inr (some (10, 0)))), some (.inl a1), some (.inl (m.1 44 0 0)), some (.inl r1), some (.inl q29), none, none], [.inl a1], am_mk m)) rfl ?_
      by_cases hc31 : a1 = 0
      · rw [if_pos hc31] at h
        refine am_Go.c1 htb (S' := (177, [some (.inr (.inr (some (10, 0)))), some (.inl a1), some (.inl (m.1 44 0 0)), some (.inl r1), some (.inl q29), none, none], [], am_mk m)) (if_pos hc31) ?_
        refine am_Go.n htb 1 (S' := (179, [some (.inr (.inr (some (10, 0)))), some (.inl a1), some (.inl (m.1 44 0 0)), some (.inl r1), some (.inl q29), none, none], [.inl q29], am_mk m)) rfl ?_
        cases h
        exact am_Go.rt htb rfl
      · rw [if_neg hc31] at h
        refine am_Go.c1 htb (S' := (173, [some (.inr (.inr (some (10, 0)))), some (.inl a1), some (.inl (m.1 44 0 0)), some (.inl r1), some (.inl q29), none, none], [], am_mk m)) (if_neg hc31) ?_
        refine am_Go.n htb 2 (S' := (179, [some (.inr (.inr (some (10, 0)))), some (.inl a1), some (.inl (m.1 44 0 0)), some (.inl r1), some (.inl q29), none, none], [.inl r1], am_mk m)) rfl ?_
        cases h
        exact am_Go.rt htb rfl
    · intro rr32 he
      subst he
      cases h
      exact ⟨rfl, rfl, rfl, rfl⟩
  · intro rr34 he
    subst he
    cases h
    exact ⟨rfl, rfl, rfl, rfl⟩
