-- X4_split
set_option maxRecDepth 100000 in
theorem lt_X4_split_83 (d : Nat) (hd : 4 ≤ d + 1) {r : Option am_V} {M' : am_M} {kc ks : Nat} {n : Nat} {x2 : Int32} {x3 : Int32} {m : am_m} {t : Int32} (h : lp_X4_split_83 n x2 x3 m = some t) (hk : am_Go d 36 (108, [some (.inr (.inr (some (4, 0)))), some (.inr (.inr (some (7, 0)))), some (.inl t), some (.inl x3), none], [], am_mk m) r M' kc ks) : am_Go d 36 (83, [some (.inr (.inr (some (4, 0)))), some (.inr (.inr (some (7, 0)))), some (.inl x2), some (.inl x3), none], [], am_mk m) r M' kc ks := by
  have htb : am_tab 36 = at_36 := rfl
  induction n generalizing x2 with
  | zero => cases h
  | succ n ih =>
    unfold lp_X4_split_83 at h
    refine am_Go.n htb 3 (S' := (88, [some (.inr (.inr (some (4, 0)))), some (.inr (.inr (some (7, 0)))), some (.inl x2), some (.inl x3), none], [.inl (m.1 7 0 1), .inl x2], am_mk m)) rfl ?_
    by_cases hc13 : (m.1 7 0 1) ≤ x2
    · rw [if_pos hc13] at h
      refine am_Go.c1 htb (S' := (108, [some (.inr (.inr (some (4, 0)))), some (.inr (.inr (some (7, 0)))), some (.inl x2), some (.inl x3), none], [], am_mk m)) (if_pos hc13) ?_
      cases h
      exact am_Go.fg (by exact ⟨rfl, ⟨rfl, ⟨rfl, ⟨rfl, trivial⟩⟩⟩⟩) hk
    · rw [if_neg hc13] at h
      refine am_Go.c1 htb (S' := (91, [some (.inr (.inr (some (4, 0)))), some (.inr (.inr (some (7, 0)))), some (.inl x2), some (.inl x3), none], [], am_mk m)) (if_neg hc13) ?_
      refine am_Go.n htb 2 (S' := (93, [some (.inr (.inr (some (4, 0)))), some (.inr (.inr (some (7, 0)))), some (.inl x2), some (.inl x3), none], [.inl x2, .inr (.inr (some (7, 0)))], am_mk m)) rfl ?_
      obtain ⟨r14, h15, h⟩ := am_bd h
      refine am_Go.cl htb rfl (ex_X7_byteAt d (by omega) x2 m r14 h15) ?_
      show am_Go d 36 (96, [some (.inr (.inr (some (4, 0)))), some (.inr (.inr (some (7, 0)))), some (.inl x2), some (.inl x3), none], [.inl r14], am_mk m) _ _ _ _
      obtain ⟨r16, h17, h⟩ := am_bd h
      refine am_Go.cl htb rfl (ex_X4_isDigit d (by omega) r14 m r16 h17) ?_
      show am_Go d 36 (99, [some (.inr (.inr (some (4, 0)))), some (.inr (.inr (some (7, 0)))), some (.inl x2), some (.inl x3), none], [.inl r16], am_mk m) _ _ _ _
      by_cases hc18 : r16 = 0
      · rw [if_pos hc18] at h
        refine am_Go.c1 htb (S' := (108, [some (.inr (.inr (some (4, 0)))), some (.inr (.inr (some (7, 0)))), some (.inl x2), some (.inl x3), none], [], am_mk m)) (if_pos hc18) ?_
        cases h
        exact am_Go.fg (by exact ⟨rfl, ⟨rfl, ⟨rfl, ⟨rfl, trivial⟩⟩⟩⟩) hk
      · rw [if_neg hc18] at h
        refine am_Go.c1 htb (S' := (102, [some (.inr (.inr (some (4, 0)))), some (.inr (.inr (some (7, 0)))), some (.inl x2), some (.inl x3), none], [], am_mk m)) (if_neg hc18) ?_
        refine am_Go.n htb 2 (S' := (83, [some (.inr (.inr (some (4, 0)))), some (.inr (.inr (some (7, 0)))), some (.inl (x2 + 1)), some (.inl x3), none], [], am_mk m)) rfl ?_
        first | exact ih h | exact ih h hk
set_option maxRecDepth 100000 in
theorem lt_X4_split_35 (d : Nat) (hd : 4 ≤ d + 1) {r : Option am_V} {M' : am_M} {kc ks : Nat} {n : Nat} {x2 : Int32} {x3 : Int32} {m : am_m} {t : Int32} (h : lp_X4_split_35 n x2 x3 m = some t) (hk : am_Go d 36 (60, [some (.inr (.inr (some (4, 0)))), some (.inr (.inr (some (7, 0)))), some (.inl t), some (.inl x3), none], [], am_mk m) r M' kc ks) : am_Go d 36 (35, [some (.inr (.inr (some (4, 0)))), some (.inr (.inr (some (7, 0)))), some (.inl x2), some (.inl x3), none], [], am_mk m) r M' kc ks := by
  have htb : am_tab 36 = at_36 := rfl
  induction n generalizing x2 with
  | zero => cases h
  | succ n ih =>
    unfold lp_X4_split_35 at h
    refine am_Go.n htb 3 (S' := (40, [some (.inr (.inr (some (4, 0)))), some (.inr (.inr (some (7, 0)))), some (.inl x2), some (.inl x3), none], [.inl (m.1 7 0 1), .inl x2], am_mk m)) rfl ?_
    by_cases hc25 : (m.1 7 0 1) ≤ x2
    · rw [if_pos hc25] at h
      refine am_Go.c1 htb (S' := (60, [some (.inr (.inr (some (4, 0)))), some (.inr (.inr (some (7, 0)))), some (.inl x2), some (.inl x3), none], [], am_mk m)) (if_pos hc25) ?_
      cases h
      exact am_Go.fg (by exact ⟨rfl, ⟨rfl, ⟨rfl, ⟨rfl, trivial⟩⟩⟩⟩) hk
    · rw [if_neg hc25] at h
      refine am_Go.c1 htb (S' := (43, [some (.inr (.inr (some (4, 0)))), some (.inr (.inr (some (7, 0)))), some (.inl x2), some (.inl x3), none], [], am_mk m)) (if_neg hc25) ?_
      refine am_Go.n htb 2 (S' := (45, [some (.inr (.inr (some (4, 0)))), some (.inr (.inr (some (7, 0)))), some (.inl x2), some (.inl x3), none], [.inl x2, .inr (.inr (some (7, 0)))], am_mk m)) rfl ?_
      obtain ⟨r26, h27, h⟩ := am_bd h
      refine am_Go.cl htb rfl (ex_X7_byteAt d (by omega) x2 m r26 h27) ?_
      show am_Go d 36 (48, [some (.inr (.inr (some (4, 0)))), some (.inr (.inr (some (7, 0)))), some (.inl x2), some (.inl x3), none], [.inl r26], am_mk m) _ _ _ _
      obtain ⟨r28, h29, h⟩ := am_bd h
      refine am_Go.cl htb rfl (ex_X4_isLetter d (by omega) r26 m r28 h29) ?_
      show am_Go d 36 (51, [some (.inr (.inr (some (4, 0)))), some (.inr (.inr (some (7, 0)))), some (.inl x2), some (.inl x3), none], [.inl r28], am_mk m) _ _ _ _
      by_cases hc30 : r28 = 0
      · rw [if_pos hc30] at h
        refine am_Go.c1 htb (S' := (60, [some (.inr (.inr (some (4, 0)))), some (.inr (.inr (some (7, 0)))), some (.inl x2), some (.inl x3), none], [], am_mk m)) (if_pos hc30) ?_
        cases h
        exact am_Go.fg (by exact ⟨rfl, ⟨rfl, ⟨rfl, ⟨rfl, trivial⟩⟩⟩⟩) hk
      · rw [if_neg hc30] at h
        refine am_Go.c1 htb (S' := (54, [some (.inr (.inr (some (4, 0)))), some (.inr (.inr (some (7, 0)))), some (.inl x2), some (.inl x3), none], [], am_mk m)) (if_neg hc30) ?_
        refine am_Go.n htb 2 (S' := (35, [some (.inr (.inr (some (4, 0)))), some (.inr (.inr (some (7, 0)))), some (.inl (x2 + 1)), some (.inl x3), none], [], am_mk m)) rfl ?_
        first | exact ih h | exact ih h hk
set_option maxRecDepth 100000 in
theorem lt_X4_split_7 (d : Nat) (hd : 4 ≤ d + 1) {r : Option am_V} {M' : am_M} {kc ks : Nat} {n : Nat} {x2 : Int32} {m : am_m} {t : am_m} (h : lp_X4_split_7 n x2 m = some t) (hk : am_Go d 36 (143, [some (.inr (.inr (some (4, 0)))), some (.inr (.inr (some (7, 0)))), none, none, none], [], am_mk t) r M' kc ks) : am_Go d 36 (7, [some (.inr (.inr (some (4, 0)))), some (.inr (.inr (some (7, 0)))), some (.inl x2), none, none], [], am_mk m) r M' kc ks := by
  have htb : am_tab 36 = at_36 := rfl
  induction n generalizing x2 m with
  | zero => cases h
  | succ n ih =>
    unfold lp_X4_split_7 at h
    refine am_Go.n htb 3 (S' := (12, [some (.inr (.inr (some (4, 0)))), some (.inr (.inr (some (7, 0)))), some (.inl x2), none, none], [.inl (m.1 7 0 1), .inl x2], am_mk m)) rfl ?_
    by_cases hc1 : (m.1 7 0 1) ≤ x2
    · rw [if_pos hc1] at h
      refine am_Go.c1 htb (S' := (143, [some (.inr (.inr (some (4, 0)))), some (.inr (.inr (some (7, 0)))), some (.inl x2), none, none], [], am_mk m)) (if_pos hc1) ?_
      cases h
      exact am_Go.fg (by exact ⟨rfl, ⟨rfl, trivial⟩⟩) hk
    · rw [if_neg hc1] at h
      refine am_Go.c1 htb (S' := (15, [some (.inr (.inr (some (4, 0)))), some (.inr (.inr (some (7, 0)))), some (.inl x2), none, none], [], am_mk m)) (if_neg hc1) ?_
      refine am_Go.n htb 4 (S' := (19, [some (.inr (.inr (some (4, 0)))), some (.inr (.inr (some (7, 0)))), some (.inl x2), some (.inl x2), none], [.inl x2, .inr (.inr (some (7, 0)))], am_mk m)) rfl ?_
      obtain ⟨r2, h3, h⟩ := am_bd h
      refine am_Go.cl htb rfl (ex_X7_byteAt d (by omega) x2 m r2 h3) ?_
      show am_Go d 36 (22, [some (.inr (.inr (some (4, 0)))), some (.inr (.inr (some (7, 0)))), some (.inl x2), some (.inl x2), none], [.inl r2], am_mk m) _ _ _ _
      refine am_Go.n htb 3 (S' := (29, [some (.inr (.inr (some (4, 0)))), some (.inr (.inr (some (7, 0)))), some (.inl (x2 + 1)), some (.inl x2), some (.inl r2)], [.inl r2], am_mk m)) rfl ?_
      obtain ⟨r4, h5, h⟩ := am_bd h
      refine am_Go.cl htb rfl (ex_X4_isLetter d (by omega) r2 m r4 h5) ?_
      show am_Go d 36 (32, [some (.inr (.inr (some (4, 0)))), some (.inr (.inr (some (7, 0)))), some (.inl (x2 + 1)), some (.inl x2), some (.inl r2)], [.inl r4], am_mk m) _ _ _ _
      obtain ⟨q37, h38, h⟩ := am_bd h
      refine am_Go.cut (S := (140, [some (.inr (.inr (some (4, 0)))), some (.inr (.inr (some (7, 0)))), some (.inl q37.1), some (.inl x2), none], [], am_mk q37.2)) ?_ (fun key => ?_)
      · refine am_Go.n htb 1 (S' := (7, [some (.inr (.inr (some (4, 0)))), some (.inr (.inr (some (7, 0)))), some (.inl q37.1), some (.inl x2), none], [], am_mk q37.2)) rfl ?_
        refine am_Go.fg (L0 := [some (.inr (.inr (some (4, 0)))), some (.inr (.inr (some (7, 0)))), some (.inl q37.1), none, none]) (by exact ⟨rfl, ⟨rfl, ⟨rfl, trivial⟩⟩⟩) ?_
        first | exact ih h | exact ih h hk
      · have h := h38
        by_cases hc6 : r4 = 0
        · rw [if_pos hc6] at h
          refine am_Go.c1 htb (S' := (75, [some (.inr (.inr (some (4, 0)))), some (.inr (.inr (some (7, 0)))), some (.inl (x2 + 1)), some (.inl x2), some (.inl r2)], [], am_mk m)) (if_pos hc6) ?_
          refine am_Go.n htb 1 (S' := (77, [some (.inr (.inr (some (4, 0)))), some (.inr (.inr (some (7, 0)))), some (.inl (x2 + 1)), some (.inl x2), some (.inl r2)], [.inl r2], am_mk m)) rfl ?_
          obtain ⟨r7, h8, h⟩ := am_bd h
          refine am_Go.cl htb rfl (ex_X4_isDigit d (by omega) r2 m r7 h8) ?_
          show am_Go d 36 (80, [some (.inr (.inr (some (4, 0)))), some (.inr (.inr (some (7, 0)))), some (.inl (x2 + 1)), some (.inl x2), some (.inl r2)], [.inl r7], am_mk m) _ _ _ _
          by_cases hc9 : r7 = 0
          · rw [if_pos hc9] at h
            refine am_Go.c1 htb (S' := (125, [some (.inr (.inr (some (4, 0)))), some (.inr (.inr (some (7, 0)))), some (.inl (x2 + 1)), some (.inl x2), some (.inl r2)], [], am_mk m)) (if_pos hc9) ?_
            refine am_Go.n htb 2 (S' := (129, [some (.inr (.inr (some (4, 0)))), some (.inr (.inr (some (7, 0)))), some (.inl (x2 + 1)), some (.inl x2), some (.inl r2)], [.inl 32, .inl r2], am_mk m)) rfl ?_
            by_cases hc10 : r2 = (32 : Int32)
            · rw [if_pos hc10] at h
              refine am_Go.c1 htb (S' := (140, [some (.inr (.inr (some (4, 0)))), some (.inr (.inr (some (7, 0)))), some (.inl (x2 + 1)), some (.inl x2), some (.inl r2)], [], am_mk m)) (if_pos hc10) ?_
              cases h
              exact am_Go.fg (by exact ⟨rfl, ⟨rfl, ⟨rfl, ⟨rfl, trivial⟩⟩⟩⟩) key
            · rw [if_neg hc10] at h
              refine am_Go.c1 htb (S' := (132, [some (.inr (.inr (some (4, 0)))), some (.inr (.inr (some (7, 0)))), some (.inl (x2 + 1)), some (.inl x2), some (.inl r2)], [], am_mk m)) (if_neg hc10) ?_
              refine am_Go.n htb 4 (S' := (137, [some (.inr (.inr (some (4, 0)))), some (.inr (.inr (some (7, 0)))), some (.inl (x2 + 1)), some (.inl x2), some (.inl r2)], [.inl x2, .inl 0, .inl r2, .inr (.inr (some (4, 0)))], am_mk m)) rfl ?_
              obtain ⟨r11, h12, h⟩ := am_bd h
              refine am_Go.cl htb rfl (ex_X4_addToken d (by omega) r2 0 x2 m r11 h12) ?_
              show am_Go d 36 (140, [some (.inr (.inr (some (4, 0)))), some (.inr (.inr (some (7, 0)))), some (.inl (x2 + 1)), some (.inl x2), some (.inl r2)], [], am_mk r11) _ _ _ _
              cases h
              exact am_Go.fg (by exact ⟨rfl, ⟨rfl, ⟨rfl, ⟨rfl, trivial⟩⟩⟩⟩) key
          · rw [if_neg hc9] at h
            refine am_Go.c1 htb (S' := (83, [some (.inr (.inr (some (4, 0)))), some (.inr (.inr (some (7, 0)))), some (.inl (x2 + 1)), some (.inl x2), some (.inl r2)], [], am_mk m)) (if_neg hc9) ?_
            refine am_Go.fg (L0 := [some (.inr (.inr (some (4, 0)))), some (.inr (.inr (some (7, 0)))), some (.inl (x2 + 1)), some (.inl x2), none]) (by exact ⟨rfl, ⟨rfl, ⟨rfl, ⟨rfl, trivial⟩⟩⟩⟩) ?_
            obtain ⟨q19, h20, h⟩ := am_bd h
            refine lt_X4_split_83 _ hd (h := h20) (hk := ?_)
            refine am_Go.n htb 5 (S' := (115, [some (.inr (.inr (some (4, 0)))), some (.inr (.inr (some (7, 0)))), some (.inl q19), some (.inl x2), none], [.inl q19, .inl x2, .inr (.inr (some (7, 0))), .inl 256, .inr (.inr (some (4, 0)))], am_mk m)) rfl ?_
            obtain ⟨r21, h22, h⟩ := am_bd h
            refine am_Go.cl htb rfl (ex_X4_numberOf d (by omega) x2 q19 m r21 h22) ?_
            show am_Go d 36 (118, [some (.inr (.inr (some (4, 0)))), some (.inr (.inr (some (7, 0)))), some (.inl q19), some (.inl x2), none], [.inl r21, .inl 256, .inr (.inr (some (4, 0)))], am_mk m) _ _ _ _
            refine am_Go.n htb 1 (S' := (119, [some (.inr (.inr (some (4, 0)))), some (.inr (.inr (some (7, 0)))), some (.inl q19), some (.inl x2), none], [.inl x2, .inl r21, .inl 256, .inr (.inr (some (4, 0)))], am_mk m)) rfl ?_
            obtain ⟨r23, h24, h⟩ := am_bd h
            refine am_Go.cl htb rfl (ex_X4_addToken d (by omega) 256 r21 x2 m r23 h24) ?_
            show am_Go d 36 (122, [some (.inr (.inr (some (4, 0)))), some (.inr (.inr (some (7, 0)))), some (.inl q19), some (.inl x2), none], [], am_mk r23) _ _ _ _
            refine am_Go.n htb 1 (S' := (140, [some (.inr (.inr (some (4, 0)))), some (.inr (.inr (some (7, 0)))), some (.inl q19), some (.inl x2), none], [], am_mk r23)) rfl ?_
            cases h
            exact am_Go.fg (by exact ⟨rfl, ⟨rfl, ⟨rfl, ⟨rfl, trivial⟩⟩⟩⟩) key
        · rw [if_neg hc6] at h
          refine am_Go.c1 htb (S' := (35, [some (.inr (.inr (some (4, 0)))), some (.inr (.inr (some (7, 0)))), some (.inl (x2 + 1)), some (.inl x2), some (.inl r2)], [], am_mk m)) (if_neg hc6) ?_
          refine am_Go.fg (L0 := [some (.inr (.inr (some (4, 0)))), some (.inr (.inr (some (7, 0)))), some (.inl (x2 + 1)), some (.inl x2), none]) (by exact ⟨rfl, ⟨rfl, ⟨rfl, ⟨rfl, trivial⟩⟩⟩⟩) ?_
          obtain ⟨q31, h32, h⟩ := am_bd h
          refine lt_X4_split_35 _ hd (h := h32) (hk := ?_)
          refine am_Go.n htb 4 (S' := (64, [some (.inr (.inr (some (4, 0)))), some (.inr (.inr (some (7, 0)))), some (.inl q31), some (.inl x2), none], [.inl q31, .inl x2, .inr (.inr (some (7, 0))), .inr (.inr (some (4, 0)))], am_mk m)) rfl ?_
          obtain ⟨r33, h34, h⟩ := am_bd h
          refine am_Go.cl htb rfl (ex_X4_wordOf d (by omega) x2 q31 m r33 h34) ?_
          show am_Go d 36 (67, [some (.inr (.inr (some (4, 0)))), some (.inr (.inr (some (7, 0)))), some (.inl q31), some (.inl x2), none], [.inl r33, .inr (.inr (some (4, 0)))], am_mk m) _ _ _ _
          refine am_Go.n htb 2 (S' := (69, [some (.inr (.inr (some (4, 0)))), some (.inr (.inr (some (7, 0)))), some (.inl q31), some (.inl x2), none], [.inl x2, .inl 0, .inl r33, .inr (.inr (some (4, 0)))], am_mk m)) rfl ?_
          obtain ⟨r35, h36, h⟩ := am_bd h
          refine am_Go.cl htb rfl (ex_X4_addToken d (by omega) r33 0 x2 m r35 h36) ?_
          show am_Go d 36 (72, [some (.inr (.inr (some (4, 0)))), some (.inr (.inr (some (7, 0)))), some (.inl q31), some (.inl x2), none], [], am_mk r35) _ _ _ _
          refine am_Go.n htb 1 (S' := (140, [some (.inr (.inr (some (4, 0)))), some (.inr (.inr (some (7, 0)))), some (.inl q31), some (.inl x2), none], [], am_mk r35)) rfl ?_
          cases h
          exact am_Go.fg (by exact ⟨rfl, ⟨rfl, ⟨rfl, ⟨rfl, trivial⟩⟩⟩⟩) key
set_option maxRecDepth 100000 in
theorem ex_X4_split (d : Nat) (hd : 4 ≤ d)  (m : am_m) (t : am_m) (h : fn_X4_split  m = some t) : am_Ex am_cod d 36 [.inr (.inr (some (4, 0))), .inr (.inr (some (7, 0)))] (am_mk m) (none) (am_mk t) 0 0 := by
  obtain ⟨d, rfl⟩ : ∃ e, d = e + 1 := ⟨d - 1, by omega⟩
  have htb : am_tab 36 = at_36 := rfl
  refine ⟨Nat.le_of_ble_eq_true rfl, ?_⟩
  unfold fn_X4_split at h
  show am_Go d 36 (0, [some (.inr (.inr (some (4, 0)))), some (.inr (.inr (some (7, 0)))), none, none, none], [], am_mk m) _ _ 0 0
  refine am_Go.n htb 5 (S' := (7, [some (.inr (.inr (some (4, 0)))), some (.inr (.inr (some (7, 0)))), some (.inl 0), none, none], [], am_mk (am_si m 4 0 4 0))) rfl ?_
  obtain ⟨q39, h40, h⟩ := am_bd h
  refine lt_X4_split_7 _ hd (h := h40) (hk := ?_)
  refine am_Go.n htb 5 (S' := (152, [some (.inr (.inr (some (4, 0)))), some (.inr (.inr (some (7, 0)))), none, none, none], [.inl (q39.1 7 0 1), .inl 0, .inl 257, .inr (.inr (some (4, 0)))], am_mk q39)) rfl ?_
  obtain ⟨r41, h42, h⟩ := am_bd h
  refine am_Go.cl htb rfl (ex_X4_addToken d (by omega) 257 0 (q39.1 7 0 1) q39 r41 h42) ?_
  show am_Go d 36 (155, [some (.inr (.inr (some (4, 0)))), some (.inr (.inr (some (7, 0)))), none, none, none], [], am_mk r41) _ _ _ _
  cases h
  exact am_Go.rt htb rfl
-- X4_goTo
set_option maxRecDepth 100000 in
theorem ex_X4_goTo (d : Nat) (hd : 2 ≤ d) (a1 : Int32) (m : am_m) (t : am_m) (h : fn_X4_goTo a1 m = some t) : am_Ex am_cod d 43 [.inr (.inr (some (4, 0))), .inl a1] (am_mk m) (none) (am_mk t) 0 0 := by
  obtain ⟨d, rfl⟩ : ∃ e, d = e + 1 := ⟨d - 1, by omega⟩
  have htb : am_tab 43 = at_43 := rfl
  refine ⟨Nat.le_of_ble_eq_true rfl, ?_⟩
  unfold fn_X4_goTo at h
  show am_Go d 43 (0, [some (.inr (.inr (some (4, 0)))), some (.inl a1)], [], am_mk m) _ _ 0 0
  refine am_Go.n htb 7 (S' := (9, [some (.inr (.inr (some (4, 0)))), some (.inl a1)], [.inl ((m.1 4 0 4) - (1 : Int32)), .inl a1, .inl 0, .inr (.inr (some (4, 0)))], am_mk m)) rfl ?_
  obtain ⟨r1, h2, h⟩ := am_bd h
  refine am_Go.cl htb rfl (ex_J9_min_7cf53 d (by omega) a1 ((m.1 4 0 4) - (1 : Int32)) m r1 h2) ?_
  show am_Go d 43 (12, [some (.inr (.inr (some (4, 0)))), some (.inl a1)], [.inl r1, .inl 0, .inr (.inr (some (4, 0)))], am_mk m) _ _ _ _
  obtain ⟨r3, h4, h⟩ := am_bd h
  refine am_Go.cl htb rfl (ex_J9_max_7cf53 d (by omega) 0 r1 m r3 h4) ?_
  show am_Go d 43 (15, [some (.inr (.inr (some (4, 0)))), some (.inl a1)], [.inl r3, .inr (.inr (some (4, 0)))], am_mk m) _ _ _ _
  refine am_Go.n htb 6 (S' := (27, [some (.inr (.inr (some (4, 0)))), some (.inl a1)], [.inl r3, .inr (.inr (some (25, 0))), .inr (.inr (some (4, 0)))], am_mk (am_si m 4 0 5 r3))) rfl ?_
  obtain ⟨hg5, h⟩ := am_ck_some h
  refine am_Go.c1 htb (S' := (28, [some (.inr (.inr (some (4, 0)))), some (.inl a1)], [.inl (m.1 25 0 r3.toNatClampNeg), .inr (.inr (some (4, 0)))], am_mk (am_si m 4 0 5 r3))) (if_neg hg5) ?_
  refine am_Go.n htb 6 (S' := (40, [some (.inr (.inr (some (4, 0)))), some (.inl a1)], [.inl r3, .inr (.inr (some (26, 0))), .inr (.inr (some (4, 0)))], am_mk (am_si (am_si m 4 0 5 r3) 4 0 6 (m.1 25 0 r3.toNatClampNeg)))) rfl ?_
  obtain ⟨hg6, h⟩ := am_ck_some h
  refine am_Go.c1 htb (S' := (41, [some (.inr (.inr (some (4, 0)))), some (.inl a1)], [.inl (m.1 26 0 r3.toNatClampNeg), .inr (.inr (some (4, 0)))], am_mk (am_si (am_si m 4 0 5 r3) 4 0 6 (m.1 25 0 r3.toNatClampNeg)))) (if_neg hg6) ?_
  refine am_Go.n htb 1 (S' := (44, [some (.inr (.inr (some (4, 0)))), some (.inl a1)], [], am_mk (am_si (am_si (am_si m 4 0 5 r3) 4 0 6 (m.1 25 0 r3.toNatClampNeg)) 4 0 7 (m.1 26 0 r3.toNatClampNeg)))) rfl ?_
  cases h
  exact am_Go.rt htb rfl
-- X4_failed
set_option maxRecDepth 100000 in
theorem ex_X4_failed (d : Nat) (hd : 1 ≤ d)  (m : am_m) (t : Int32 × am_m) (h : fn_X4_failed  m = some t) : am_Ex am_cod d 44 [.inr (.inr (some (4, 0)))] (am_mk m) (some (.inl t.1)) (am_mk t.2) 0 0 := by
  obtain ⟨d, rfl⟩ : ∃ e, d = e + 1 := ⟨d - 1, by omega⟩
  have htb : am_tab 44 = at_44 := rfl
  refine ⟨Nat.le_of_ble_eq_true rfl, ?_⟩
  unfold fn_X4_failed at h
  show am_Go d 44 (0, [some (.inr (.inr (some (4, 0))))], [], am_mk m) _ _ 0 0
  refine am_Go.n htb 5 (S' := (9, [some (.inr (.inr (some (4, 0))))], [.inl (m.1 4 0 5), .inr (.inr (some (27, 0))), .inr (.inr (some (4, 0)))], am_mk m)) rfl ?_
  obtain ⟨hg1, h⟩ := am_ck_some h
  refine am_Go.c1 htb (S' := (10, [some (.inr (.inr (some (4, 0))))], [.inl (m.1 27 0 (m.1 4 0 5).toNatClampNeg), .inr (.inr (some (4, 0)))], am_mk m)) (if_neg hg1) ?_
  refine am_Go.n htb 2 (S' := (14, [some (.inr (.inr (some (4, 0))))], [.inl 0], am_mk (am_si m 4 0 10 (m.1 27 0 (m.1 4 0 5).toNatClampNeg)))) rfl ?_
  cases h
  exact am_Go.rt htb rfl
-- X4_took
set_option maxRecDepth 100000 in
theorem ex_X4_took (d : Nat) (hd : 3 ≤ d) (a1 : Int32) (m : am_m) (t : Int32 × am_m) (h : fn_X4_took a1 m = some t) : am_Ex am_cod d 45 [.inr (.inr (some (4, 0))), .inl a1] (am_mk m) (some (.inl t.1)) (am_mk t.2) 0 0 := by
  obtain ⟨d, rfl⟩ : ∃ e, d = e + 1 := ⟨d - 1, by omega⟩
  have htb : am_tab 45 = at_45 := rfl
  refine ⟨Nat.le_of_ble_eq_true rfl, ?_⟩
  unfold fn_X4_took at h
  show am_Go d 45 (0, [some (.inr (.inr (some (4, 0)))), some (.inl a1)], [], am_mk m) _ _ 0 0
  refine am_Go.n htb 3 (S' := (5, [some (.inr (.inr (some (4, 0)))), some (.inl a1)], [.inl a1, .inl (m.1 4 0 6)], am_mk m)) rfl ?_
  by_cases hc1 : (m.1 4 0 6) = a1
  · rw [if_pos hc1] at h
    refine am_Go.c1 htb (S' := (13, [some (.inr (.inr (some (4, 0)))), some (.inl a1)], [], am_mk m)) (if_pos hc1) ?_
    refine am_Go.n htb 5 (S' := (20, [some (.inr (.inr (some (4, 0)))), some (.inl a1)], [.inl ((m.1 4 0 5) + (1 : Int32)), .inr (.inr (some (4, 0)))], am_mk m)) rfl ?_
    obtain ⟨r2, h3, h⟩ := am_bd h
    refine am_Go.cl htb rfl (ex_X4_goTo d (by omega) ((m.1 4 0 5) + (1 : Int32)) m r2 h3) ?_
    show am_Go d 45 (23, [some (.inr (.inr (some (4, 0)))), some (.inl a1)], [], am_mk r2) _ _ _ _
    refine am_Go.n htb 1 (S' := (24, [some (.inr (.inr (some (4, 0)))), some (.inl a1)], [.inl 1], am_mk r2)) rfl ?_
    cases h
    exact am_Go.rt htb rfl
  · rw [if_neg hc1] at h
    refine am_Go.c1 htb (S' := (8, [some (.inr (.inr (some (4, 0)))), some (.inl a1)], [], am_mk m)) (if_neg hc1) ?_
    refine am_Go.n htb 1 (S' := (9, [some (.inr (.inr (some (4, 0)))), some (.inl a1)], [.inr (.inr (some (4, 0)))], am_mk m)) rfl ?_
    obtain ⟨r4, h5, h⟩ := am_bd h
    refine am_Go.cl htb rfl (ex_X4_failed d (by omega)  m r4 h5) ?_
    show am_Go d 45 (12, [some (.inr (.inr (some (4, 0)))), some (.inl a1)], [.inl r4.1], am_mk r4.2) _ _ _ _
    obtain ⟨hz6, h⟩ := am_gd_some h
    cases h
    exact am_Go.rt htb (if_pos hz6)
-- X4_sumsOf
set_option maxRecDepth 100000 in
theorem ex_X4_sumsOf (d : Nat) (hd : 1 ≤ d) (a1 : Int32) (m : am_m) (t : Int32) (h : fn_X4_sumsOf a1 m = some t) : am_Ex am_cod d 47 [.inr (.inr (some (4, 0))), .inl a1] (am_mk m) (some (.inl t)) (am_mk m) 0 0 := by
  obtain ⟨d, rfl⟩ : ∃ e, d = e + 1 := ⟨d - 1, by omega⟩
  have htb : am_tab 47 = at_47 := rfl
  refine ⟨Nat.le_of_ble_eq_true rfl, ?_⟩
  unfold fn_X4_sumsOf at h
  show am_Go d 47 (0, [some (.inr (.inr (some (4, 0)))), some (.inl a1)], [], am_mk m) _ _ 0 0
  refine am_Go.n htb 1 (S' := (1, [some (.inr (.inr (some (4, 0)))), some (.inl a1)], [.inl a1], am_mk m)) rfl ?_
  by_cases hs1 : a1 = 266
  · rw [if_pos hs1] at h
    refine am_Go.o htb (am_o_sw [(266, 48), (267, 48), (268, 48), (269, 61), (270, 74), (271, 87), (272, 100), (273, 113)] 126) rfl (S' := (48, [some (.inr (.inr (some (4, 0)))), some (.inl a1)], [], am_mk m)) (am_sw_eq (by simp only [am_sw, if_pos hs1])) ?_
    refine am_Go.n htb 2 (S' := (52, [some (.inr (.inr (some (4, 0)))), some (.inl a1)], [.inl (m.1 4 0 9)], am_mk m)) rfl ?_
    by_cases hc2 : (m.1 4 0 9) = 0
    · rw [if_pos hc2] at h
      refine am_Go.c1 htb (S' := (59, [some (.inr (.inr (some (4, 0)))), some (.inl a1)], [], am_mk m)) (if_pos hc2) ?_
      refine am_Go.n htb 1 (S' := (60, [some (.inr (.inr (some (4, 0)))), some (.inl a1)], [.inl 1], am_mk m)) rfl ?_
      cases h
      exact am_Go.rt htb rfl
    · rw [if_neg hc2] at h
      refine am_Go.c1 htb (S' := (55, [some (.inr (.inr (some (4, 0)))), some (.inl a1)], [], am_mk m)) (if_neg hc2) ?_
      refine am_Go.n htb 2 (S' := (60, [some (.inr (.inr (some (4, 0)))), some (.inl a1)], [.inl (-1)], am_mk m)) rfl ?_
      cases h
      exact am_Go.rt htb rfl
  · rw [if_neg hs1] at h
    by_cases hs3 : a1 = 267
    · rw [if_pos hs3] at h
      refine am_Go.o htb (am_o_sw [(266, 48), (267, 48), (268, 48), (269, 61), (270, 74), (271, 87), (272, 100), (273, 113)] 126) rfl (S' := (48, [some (.inr (.inr (some (4, 0)))), some (.inl a1)], [], am_mk m)) (am_sw_eq (by simp only [am_sw, if_neg hs1, if_pos hs3])) ?_
      refine am_Go.n htb 2 (S' := (52, [some (.inr (.inr (some (4, 0)))), some (.inl a1)], [.inl (m.1 4 0 9)], am_mk m)) rfl ?_
      by_cases hc4 : (m.1 4 0 9) = 0
      · rw [if_pos hc4] at h
        refine am_Go.c1 htb (S' := (59, [some (.inr (.inr (some (4, 0)))), some (.inl a1)], [], am_mk m)) (if_pos hc4) ?_
        refine am_Go.n htb 1 (S' := (60, [some (.inr (.inr (some (4, 0)))), some (.inl a1)], [.inl 1], am_mk m)) rfl ?_
        cases h
        exact am_Go.rt htb rfl
      · rw [if_neg hc4] at h
        refine am_Go.c1 htb (S' := (55, [some (.inr (.inr (some (4, 0)))), some (.inl a1)], [], am_mk m)) (if_neg hc4) ?_
        refine am_Go.n htb 2 (S' := (60, [some (.inr (.inr (some (4, 0)))), some (.inl a1)], [.inl (-1)], am_mk m)) rfl ?_
        cases h
        exact am_Go.rt htb rfl
    · rw [if_neg hs3] at h
      by_cases hs5 : a1 = 268
      · rw [if_pos hs5] at h
        refine am_Go.o htb (am_o_sw [(266, 48), (267, 48), (268, 48), (269, 61), (270, 74), (271, 87), (272, 100), (273, 113)] 126) rfl (S' := (48, [some (.inr (.inr (some (4, 0)))), some (.inl a1)], [], am_mk m)) (am_sw_eq (by simp only [am_sw, if_neg hs1, if_neg hs3, if_pos hs5])) ?_
        refine am_Go.n htb 2 (S' := (52, [some (.inr (.inr (some (4, 0)))), some (.inl a1)], [.inl (m.1 4 0 9)], am_mk m)) rfl ?_
        by_cases hc6 : (m.1 4 0 9) = 0
        · rw [if_pos hc6] at h
          refine am_Go.c1 htb (S' := (59, [some (.inr (.inr (some (4, 0)))), some (.inl a1)], [], am_mk m)) (if_pos hc6) ?_
          refine am_Go.n htb 1 (S' := (60, [some (.inr (.inr (some (4, 0)))), some (.inl a1)], [.inl 1], am_mk m)) rfl ?_
          cases h
          exact am_Go.rt htb rfl
        · rw [if_neg hc6] at h
          refine am_Go.c1 htb (S' := (55, [some (.inr (.inr (some (4, 0)))), some (.inl a1)], [], am_mk m)) (if_neg hc6) ?_
          refine am_Go.n htb 2 (S' := (60, [some (.inr (.inr (some (4, 0)))), some (.inl a1)], [.inl (-1)], am_mk m)) rfl ?_
          cases h
          exact am_Go.rt htb rfl
      · rw [if_neg hs5] at h
        by_cases hs7 : a1 = 269
        · rw [if_pos hs7] at h
          refine am_Go.o htb (am_o_sw [(266, 48), (267, 48), (268, 48), (269, 61), (270, 74), (271, 87), (272, 100), (273, 113)] 126) rfl (S' := (61, [some (.inr (.inr (some (4, 0)))), some (.inl a1)], [], am_mk m)) (am_sw_eq (by simp only [am_sw, if_neg hs1, if_neg hs3, if_neg hs5, if_pos hs7])) ?_
          refine am_Go.n htb 2 (S' := (65, [some (.inr (.inr (some (4, 0)))), some (.inl a1)], [.inl (m.1 4 0 9)], am_mk m)) rfl ?_
          by_cases hc8 : (m.1 4 0 9) = 0
          · rw [if_pos hc8] at h
            refine am_Go.c1 htb (S' := (72, [some (.inr (.inr (some (4, 0)))), some (.inl a1)], [], am_mk m)) (if_pos hc8) ?_
            refine am_Go.n htb 1 (S' := (73, [some (.inr (.inr (some (4, 0)))), some (.inl a1)], [.inl 0], am_mk m)) rfl ?_
            cases h
            exact am_Go.rt htb rfl
          · rw [if_neg hc8] at h
            refine am_Go.c1 htb (S' := (68, [some (.inr (.inr (some (4, 0)))), some (.inl a1)], [], am_mk m)) (if_neg hc8) ?_
            refine am_Go.n htb 2 (S' := (73, [some (.inr (.inr (some (4, 0)))), some (.inl a1)], [.inl (-1)], am_mk m)) rfl ?_
            cases h
            exact am_Go.rt htb rfl
        · rw [if_neg hs7] at h
          by_cases hs9 : a1 = 270
          · rw [if_pos hs9] at h
            refine am_Go.o htb (am_o_sw [(266, 48), (267, 48), (268, 48), (269, 61), (270, 74), (271, 87), (272, 100), (273, 113)] 126) rfl (S' := (74, [some (.inr (.inr (some (4, 0)))), some (.inl a1)], [], am_mk m)) (am_sw_eq (by simp only [am_sw, if_neg hs1, if_neg hs3, if_neg hs5, if_neg hs7, if_pos hs9])) ?_
            refine am_Go.n htb 2 (S' := (78, [some (.inr (.inr (some (4, 0)))), some (.inl a1)], [.inl (m.1 4 0 9)], am_mk m)) rfl ?_
            by_cases hc10 : (m.1 4 0 9) = 0
            · rw [if_pos hc10] at h
              refine am_Go.c1 htb (S' := (85, [some (.inr (.inr (some (4, 0)))), some (.inl a1)], [], am_mk m)) (if_pos hc10) ?_
              refine am_Go.n htb 1 (S' := (86, [some (.inr (.inr (some (4, 0)))), some (.inl a1)], [.inl (-1)], am_mk m)) rfl ?_
              cases h
              exact am_Go.rt htb rfl
            · rw [if_neg hc10] at h
              refine am_Go.c1 htb (S' := (81, [some (.inr (.inr (some (4, 0)))), some (.inl a1)], [], am_mk m)) (if_neg hc10) ?_
              refine am_Go.n htb 2 (S' := (86, [some (.inr (.inr (some (4, 0)))), some (.inl a1)], [.inl 3], am_mk m)) rfl ?_
              cases h
              exact am_Go.rt htb rfl
          · rw [if_neg hs9] at h
            by_cases hs11 : a1 = 271
            · rw [if_pos hs11] at h
              refine am_Go.o htb (am_o_sw [(266, 48), (267, 48), (268, 48), (269, 61), (270, 74), (271, 87), (272, 100), (273, 113)] 126) rfl (S' := (87, [some (.inr (.inr (some (4, 0)))), some (.inl a1)], [], am_mk m)) (am_sw_eq (by simp only [am_sw, if_neg hs1, if_neg hs3, if_neg hs5, if_neg hs7, if_neg hs9, if_pos hs11])) ?_
              refine am_Go.n htb 2 (S' := (91, [some (.inr (.inr (some (4, 0)))), some (.inl a1)], [.inl (m.1 4 0 9)], am_mk m)) rfl ?_
              by_cases hc12 : (m.1 4 0 9) = 0
              · rw [if_pos hc12] at h
                refine am_Go.c1 htb (S' := (98, [some (.inr (.inr (some (4, 0)))), some (.inl a1)], [], am_mk m)) (if_pos hc12) ?_
                refine am_Go.n htb 1 (S' := (99, [some (.inr (.inr (some (4, 0)))), some (.inl a1)], [.inl (-1)], am_mk m)) rfl ?_
                cases h
                exact am_Go.rt htb rfl
              · rw [if_neg hc12] at h
                refine am_Go.c1 htb (S' := (94, [some (.inr (.inr (some (4, 0)))), some (.inl a1)], [], am_mk m)) (if_neg hc12) ?_
                refine am_Go.n htb 2 (S' := (99, [some (.inr (.inr (some (4, 0)))), some (.inl a1)], [.inl 1], am_mk m)) rfl ?_
                cases h
                exact am_Go.rt htb rfl
            · rw [if_neg hs11] at h
              by_cases hs13 : a1 = 272
              · rw [if_pos hs13] at h
                refine am_Go.o htb (am_o_sw [(266, 48), (267, 48), (268, 48), (269, 61), (270, 74), (271, 87), (272, 100), (273, 113)] 126) rfl (S' := (100, [some (.inr (.inr (some (4, 0)))), some (.inl a1)], [], am_mk m)) (am_sw_eq (by simp only [am_sw, if_neg hs1, if_neg hs3, if_neg hs5, if_neg hs7, if_neg hs9, if_neg hs11, if_pos hs13])) ?_
                refine am_Go.n htb 2 (S' := (104, [some (.inr (.inr (some (4, 0)))), some (.inl a1)], [.inl (m.1 4 0 9)], am_mk m)) rfl ?_
                by_cases hc14 : (m.1 4 0 9) = 0
                · rw [if_pos hc14] at h
                  refine am_Go.c1 htb (S' := (111, [some (.inr (.inr (some (4, 0)))), some (.inl a1)], [], am_mk m)) (if_pos hc14) ?_
                  refine am_Go.n htb 1 (S' := (112, [some (.inr (.inr (some (4, 0)))), some (.inl a1)], [.inl (-1)], am_mk m)) rfl ?_
                  cases h
                  exact am_Go.rt htb rfl
                · rw [if_neg hc14] at h
                  refine am_Go.c1 htb (S' := (107, [some (.inr (.inr (some (4, 0)))), some (.inl a1)], [], am_mk m)) (if_neg hc14) ?_
                  refine am_Go.n htb 2 (S' := (112, [some (.inr (.inr (some (4, 0)))), some (.inl a1)], [.inl 2], am_mk m)) rfl ?_
                  cases h
                  exact am_Go.rt htb rfl
              · rw [if_neg hs13] at h
                by_cases hs15 : a1 = 273
                · rw [if_pos hs15] at h
                  refine am_Go.o htb (am_o_sw [(266, 48), (267, 48), (268, 48), (269, 61), (270, 74), (271, 87), (272, 100), (273, 113)] 126) rfl (S' := (113, [some (.inr (.inr (some (4, 0)))), some (.inl a1)], [], am_mk m)) (am_sw_eq (by simp only [am_sw, if_neg hs1, if_neg hs3, if_neg hs5, if_neg hs7, if_neg hs9, if_neg hs11, if_neg hs13, if_pos hs15])) ?_
                  refine am_Go.n htb 2 (S' := (117, [some (.inr (.inr (some (4, 0)))), some (.inl a1)], [.inl (m.1 4 0 9)], am_mk m)) rfl ?_
                  by_cases hc16 : (m.1 4 0 9) = 0
                  · rw [if_pos hc16] at h
                    refine am_Go.c1 htb (S' := (124, [some (.inr (.inr (some (4, 0)))), some (.inl a1)], [], am_mk m)) (if_pos hc16) ?_
                    refine am_Go.n htb 1 (S' := (125, [some (.inr (.inr (some (4, 0)))), some (.inl a1)], [.inl (-1)], am_mk m)) rfl ?_
                    cases h
                    exact am_Go.rt htb rfl
                  · rw [if_neg hc16] at h
                    refine am_Go.c1 htb (S' := (120, [some (.inr (.inr (some (4, 0)))), some (.inl a1)], [], am_mk m)) (if_neg hc16) ?_
                    refine am_Go.n htb 2 (S' := (125, [some (.inr (.inr (some (4, 0)))), some (.inl a1)], [.inl 0], am_mk m)) rfl ?_
                    cases h
                    exact am_Go.rt htb rfl
                · rw [if_neg hs15] at h
                  refine am_Go.o htb (am_o_sw [(266, 48), (267, 48), (268, 48), (269, 61), (270, 74), (271, 87), (272, 100), (273, 113)] 126) rfl (S' := (126, [some (.inr (.inr (some (4, 0)))), some (.inl a1)], [], am_mk m)) (am_sw_eq (by simp only [am_sw, if_neg hs1, if_neg hs3, if_neg hs5, if_neg hs7, if_neg hs9, if_neg hs11, if_neg hs13, if_neg hs15, if_false])) ?_
                  refine am_Go.n htb 1 (S' := (127, [some (.inr (.inr (some (4, 0)))), some (.inl a1)], [.inl (-1)], am_mk m)) rfl ?_
                  cases h
                  exact am_Go.rt htb rfl
