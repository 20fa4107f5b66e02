-- X8_harmsTo
set_option maxRecDepth 100000 in
theorem lt_X8_harmsTo_4 (d : Nat) (hd : 3 ≤ d + 1) {r : Option am_V} {M' : am_M} {kc ks : Nat} {n : Nat} {x0 : Nat} {x1 : Int32} {x2 : Int32} {x3 : Int32} {m : am_m} {t : Int32} (h : lp_X8_harmsTo_4 n x0 x1 x2 x3 m = some t) (hk : am_Go d 108 (35, [some (.inr (.inr (some (8, x0)))), some (.inl x1), some (.inl t), none], [], am_mk m) r M' kc ks) : am_Go d 108 (4, [some (.inr (.inr (some (8, x0)))), some (.inl x1), some (.inl x2), some (.inl x3)], [], am_mk m) r M' kc ks := by
  have htb : am_tab 108 = at_108 := rfl
  induction n generalizing x2 x3 with
  | zero => cases h
  | succ n ih =>
    unfold lp_X8_harmsTo_4 at h
    refine am_Go.n htb 3 (S' := (9, [some (.inr (.inr (some (8, x0)))), some (.inl x1), some (.inl x2), some (.inl x3)], [.inl (m.1 8 x0 0), .inl x3], am_mk m)) rfl ?_
    by_cases hc1 : (m.1 8 x0 0) ≤ x3
    · rw [if_pos hc1] at h
      refine am_Go.c1 htb (S' := (35, [some (.inr (.inr (some (8, x0)))), some (.inl x1), some (.inl x2), some (.inl x3)], [], am_mk m)) (if_pos hc1) ?_
      cases h
      exact am_Go.fg (by exact ⟨rfl, ⟨rfl, ⟨rfl, trivial⟩⟩⟩) hk
    · rw [if_neg hc1] at h
      refine am_Go.c1 htb (S' := (12, [some (.inr (.inr (some (8, x0)))), some (.inl x1), some (.inl x2), some (.inl x3)], [], am_mk m)) (if_neg hc1) ?_
      refine am_Go.n htb 4 (S' := (16, [some (.inr (.inr (some (8, x0)))), some (.inl x1), some (.inl x2), some (.inl x3)], [.inl x1, .inl x3, .inr (.inr (some (8, x0))), .inl x2], am_mk m)) rfl ?_
      obtain ⟨r2, h3, h⟩ := am_bd h
      refine am_Go.cl htb rfl (ex_X8_weightOf d (by omega) x0 x3 x1 m r2 h3) ?_
      show am_Go d 108 (19, [some (.inr (.inr (some (8, x0)))), some (.inl x1), some (.inl x2), some (.inl x3)], [.inl r2, .inl x2], am_mk m) _ _ _ _
      refine am_Go.cut (S := (27, [some (.inr (.inr (some (8, x0)))), some (.inl x1), some (.inl x2), some (.inl x3)], [.inl (if r2 ≤ 0 then (0 : Int32) else (1 : Int32)), .inl x2], am_mk m)) ?_ (fun key => ?_)
      · refine am_Go.n htb 4 (S' := (4, [some (.inr (.inr (some (8, x0)))), some (.inl x1), some (.inl (x2 + (if r2 ≤ 0 then (0 : Int32) else (1 : Int32)))), some (.inl (x3 + 1))], [], am_mk m)) rfl ?_
        first | exact ih h | exact ih h hk
      · by_cases hc4 : r2 ≤ 0
        · refine am_Go.c1 htb (S' := (26, [some (.inr (.inr (some (8, x0)))), some (.inl x1), some (.inl x2), some (.inl x3)], [.inl x2], am_mk m)) (if_pos hc4) ?_
          refine am_Go.n htb 1 (S' := (27, [some (.inr (.inr (some (8, x0)))), some (.inl x1), some (.inl x2), some (.inl x3)], [.inl 0, .inl x2], am_mk m)) rfl ?_
          simp only [if_pos hc4] at key
          exact am_Go.fg (by exact ⟨rfl, ⟨rfl, ⟨rfl, ⟨rfl, trivial⟩⟩⟩⟩) key
        · refine am_Go.c1 htb (S' := (22, [some (.inr (.inr (some (8, x0)))), some (.inl x1), some (.inl x2), some (.inl x3)], [.inl x2], am_mk m)) (if_neg hc4) ?_
          refine am_Go.n htb 2 (S' := (27, [some (.inr (.inr (some (8, x0)))), some (.inl x1), some (.inl x2), some (.inl x3)], [.inl 1, .inl x2], am_mk m)) rfl ?_
          simp only [if_neg hc4] at key
          exact am_Go.fg (by exact ⟨rfl, ⟨rfl, ⟨rfl, ⟨rfl, trivial⟩⟩⟩⟩) key
set_option maxRecDepth 100000 in
theorem ex_X8_harmsTo (d : Nat) (hd : 3 ≤ d) (a0 : Nat) (a1 : Int32) (m : am_m) (t : Int32) (h : fn_X8_harmsTo a0 a1 m = some t) : am_Ex am_cod d 108 [.inr (.inr (some (8, a0))), .inl a1] (am_mk m) (some (.inl t)) (am_mk m) 0 0 := by
  obtain ⟨d, rfl⟩ : ∃ e, d = e + 1 := ⟨d - 1, by omega⟩
  have htb : am_tab 108 = at_108 := rfl
  refine ⟨Nat.le_of_ble_eq_true rfl, ?_⟩
  unfold fn_X8_harmsTo at h
  show am_Go d 108 (0, [some (.inr (.inr (some (8, a0)))), some (.inl a1), none, none], [], am_mk m) _ _ 0 0
  refine am_Go.n htb 4 (S' := (4, [some (.inr (.inr (some (8, a0)))), some (.inl a1), some (.inl 0), some (.inl 0)], [], am_mk m)) rfl ?_
  obtain ⟨q5, h6, h⟩ := am_bd h
  refine lt_X8_harmsTo_4 _ hd (h := h6) (hk := ?_)
  refine am_Go.n htb 1 (S' := (36, [some (.inr (.inr (some (8, a0)))), some (.inl a1), some (.inl q5), none], [.inl q5], am_mk m)) rfl ?_
  cases h
  exact am_Go.rt htb rfl
-- X8_harmCount
set_option maxRecDepth 100000 in
theorem lt_X8_harmCount_4 (d : Nat) (hd : 4 ≤ d + 1) {r : Option am_V} {M' : am_M} {kc ks : Nat} {n : Nat} {x0 : Nat} {x1 : Int32} {x2 : Int32} {m : am_m} {t : Int32} (h : lp_X8_harmCount_4 n x0 x1 x2 m = some t) (hk : am_Go d 109 (26, [some (.inr (.inr (some (8, x0)))), some (.inl t), none], [], am_mk m) r M' kc ks) : am_Go d 109 (4, [some (.inr (.inr (some (8, x0)))), some (.inl x1), some (.inl x2)], [], am_mk m) r M' kc ks := by
  have htb : am_tab 109 = at_109 := rfl
  induction n generalizing x1 x2 with
  | zero => cases h
  | succ n ih =>
    unfold lp_X8_harmCount_4 at h
    refine am_Go.n htb 3 (S' := (9, [some (.inr (.inr (some (8, x0)))), some (.inl x1), some (.inl x2)], [.inl (m.1 8 x0 0), .inl x2], am_mk m)) rfl ?_
    by_cases hc1 : (m.1 8 x0 0) ≤ x2
    · rw [if_pos hc1] at h
      refine am_Go.c1 htb (S' := (26, [some (.inr (.inr (some (8, x0)))), some (.inl x1), some (.inl x2)], [], am_mk m)) (if_pos hc1) ?_
      cases h
      exact am_Go.fg (by exact ⟨rfl, ⟨rfl, trivial⟩⟩) hk
    · rw [if_neg hc1] at h
      refine am_Go.c1 htb (S' := (12, [some (.inr (.inr (some (8, x0)))), some (.inl x1), some (.inl x2)], [], am_mk m)) (if_neg hc1) ?_
      refine am_Go.n htb 3 (S' := (15, [some (.inr (.inr (some (8, x0)))), some (.inl x1), some (.inl x2)], [.inl x2, .inr (.inr (some (8, x0))), .inl x1], am_mk m)) rfl ?_
      obtain ⟨r2, h3, h⟩ := am_bd h
      refine am_Go.cl htb rfl (ex_X8_harmsBy d (by omega) x0 x2 m r2 h3) ?_
      show am_Go d 109 (18, [some (.inr (.inr (some (8, x0)))), some (.inl x1), some (.inl x2)], [.inl r2, .inl x1], am_mk m) _ _ _ _
      refine am_Go.n htb 4 (S' := (4, [some (.inr (.inr (some (8, x0)))), some (.inl (x1 + r2)), some (.inl (x2 + 1))], [], am_mk m)) rfl ?_
      first | exact ih h | exact ih h hk
set_option maxRecDepth 100000 in
theorem ex_X8_harmCount (d : Nat) (hd : 4 ≤ d) (a0 : Nat) (m : am_m) (t : Int32) (h : fn_X8_harmCount a0 m = some t) : am_Ex am_cod d 109 [.inr (.inr (some (8, a0)))] (am_mk m) (some (.inl t)) (am_mk m) 0 0 := by
  obtain ⟨d, rfl⟩ : ∃ e, d = e + 1 := ⟨d - 1, by omega⟩
  have htb : am_tab 109 = at_109 := rfl
  refine ⟨Nat.le_of_ble_eq_true rfl, ?_⟩
  unfold fn_X8_harmCount at h
  show am_Go d 109 (0, [some (.inr (.inr (some (8, a0)))), none, none], [], am_mk m) _ _ 0 0
  refine am_Go.n htb 4 (S' := (4, [some (.inr (.inr (some (8, a0)))), some (.inl 0), some (.inl 0)], [], am_mk m)) rfl ?_
  obtain ⟨q4, h5, h⟩ := am_bd h
  refine lt_X8_harmCount_4 _ hd (h := h5) (hk := ?_)
  refine am_Go.n htb 1 (S' := (27, [some (.inr (.inr (some (8, a0)))), some (.inl q4), none], [.inl q4], am_mk m)) rfl ?_
  cases h
  exact am_Go.rt htb rfl
-- X8_fedBelow
set_option maxRecDepth 100000 in
theorem lt_X8_fedBelow_4 (d : Nat) (hd : 1 ≤ d + 1) {r : Option am_V} {M' : am_M} {kc ks : Nat} {n : Nat} {x0 : Nat} {x1 : Int32} {x2 : Int32} {x3 : Int32} {m : am_m} {t : Int32} (h : lp_X8_fedBelow_4 n x0 x1 x2 x3 m = some t) (hk : am_Go d 110 (34, [some (.inr (.inr (some (8, x0)))), some (.inl x1), some (.inl t), none], [], am_mk m) r M' kc ks) : am_Go d 110 (4, [some (.inr (.inr (some (8, x0)))), some (.inl x1), some (.inl x2), some (.inl x3)], [], am_mk m) r M' kc ks := by
  have htb : am_tab 110 = at_110 := rfl
  induction n generalizing x2 x3 with
  | zero => cases h
  | succ n ih =>
    unfold lp_X8_fedBelow_4 at h
    refine am_Go.n htb 3 (S' := (9, [some (.inr (.inr (some (8, x0)))), some (.inl x1), some (.inl x2), some (.inl x3)], [.inl (m.1 8 x0 0), .inl x3], am_mk m)) rfl ?_
    by_cases hc1 : (m.1 8 x0 0) ≤ x3
    · rw [if_pos hc1] at h
      refine am_Go.c1 htb (S' := (34, [some (.inr (.inr (some (8, x0)))), some (.inl x1), some (.inl x2), some (.inl x3)], [], am_mk m)) (if_pos hc1) ?_
      cases h
      exact am_Go.fg (by exact ⟨rfl, ⟨rfl, ⟨rfl, trivial⟩⟩⟩) hk
    · rw [if_neg hc1] at h
      refine am_Go.c1 htb (S' := (12, [some (.inr (.inr (some (8, x0)))), some (.inl x1), some (.inl x2), some (.inl x3)], [], am_mk m)) (if_neg hc1) ?_
      refine am_Go.n htb 3 (S' := (17, [some (.inr (.inr (some (8, x0)))), some (.inl x1), some (.inl x2), some (.inl x3)], [.inl x3, .inr (.inr (some (36, x0)))], am_mk m)) rfl ?_
      obtain ⟨hg2, h⟩ := am_ck_some h
      refine am_Go.c1 htb (S' := (18, [some (.inr (.inr (some (8, x0)))), some (.inl x1), some (.inl x2), some (.inl x3)], [.inl (m.1 36 x0 x3.toNatClampNeg)], am_mk m)) (if_neg hg2) ?_
      refine am_Go.n htb 1 (S' := (19, [some (.inr (.inr (some (8, x0)))), some (.inl x1), some (.inl x2), some (.inl x3)], [.inl x1, .inl (m.1 36 x0 x3.toNatClampNeg)], am_mk m)) rfl ?_
      refine am_Go.cut (S := (28, [some (.inr (.inr (some (8, x0)))), some (.inl x1), some (.inl (if x1 ≤ (m.1 36 x0 x3.toNatClampNeg) then x2 else (x2 ||| ((1 : Int32) <<< (x3 &&& 31))))), some (.inl x3)], [], am_mk m)) ?_ (fun key => ?_)
      · refine am_Go.n htb 2 (S' := (4, [some (.inr (.inr (some (8, x0)))), some (.inl x1), some (.inl (if x1 ≤ (m.1 36 x0 x3.toNatClampNeg) then x2 else (x2 ||| ((1 : Int32) <<< (x3 &&& 31))))), some (.inl (x3 + 1))], [], am_mk m)) rfl ?_
        first | exact ih h | exact ih h hk
      · by_cases hc3 : x1 ≤ (m.1 36 x0 x3.toNatClampNeg)
        · refine am_Go.c1 htb (S' := (28, [some (.inr (.inr (some (8, x0)))), some (.inl x1), some (.inl x2), some (.inl x3)], [], am_mk m)) (if_pos hc3) ?_
          simp only [if_pos hc3] at key
          exact am_Go.fg (by exact ⟨rfl, ⟨rfl, ⟨rfl, ⟨rfl, trivial⟩⟩⟩⟩) key
        · refine am_Go.c1 htb (S' := (22, [some (.inr (.inr (some (8, x0)))), some (.inl x1), some (.inl x2), some (.inl x3)], [], am_mk m)) (if_neg hc3) ?_
          refine am_Go.n htb 6 (S' := (28, [some (.inr (.inr (some (8, x0)))), some (.inl x1), some (.inl (x2 ||| ((1 : Int32) <<< (x3 &&& 31)))), some (.inl x3)], [], am_mk m)) rfl ?_
          simp only [if_neg hc3] at key
          exact am_Go.fg (by exact ⟨rfl, ⟨rfl, ⟨rfl, ⟨rfl, trivial⟩⟩⟩⟩) key
set_option maxRecDepth 100000 in
theorem ex_X8_fedBelow (d : Nat) (hd : 1 ≤ d) (a0 : Nat) (a1 : Int32) (m : am_m) (t : Int32) (h : fn_X8_fedBelow a0 a1 m = some t) : am_Ex am_cod d 110 [.inr (.inr (some (8, a0))), .inl a1] (am_mk m) (some (.inl t)) (am_mk m) 0 0 := by
  obtain ⟨d, rfl⟩ : ∃ e, d = e + 1 := ⟨d - 1, by omega⟩
  have htb : am_tab 110 = at_110 := rfl
  refine ⟨Nat.le_of_ble_eq_true rfl, ?_⟩
  unfold fn_X8_fedBelow at h
  show am_Go d 110 (0, [some (.inr (.inr (some (8, a0)))), some (.inl a1), none, none], [], am_mk m) _ _ 0 0
  refine am_Go.n htb 4 (S' := (4, [some (.inr (.inr (some (8, a0)))), some (.inl a1), some (.inl 0), some (.inl 0)], [], am_mk m)) rfl ?_
  obtain ⟨q4, h5, h⟩ := am_bd h
  refine lt_X8_fedBelow_4 _ hd (h := h5) (hk := ?_)
  refine am_Go.n htb 1 (S' := (35, [some (.inr (.inr (some (8, a0)))), some (.inl a1), some (.inl q4), none], [.inl q4], am_mk m)) rfl ?_
  cases h
  exact am_Go.rt htb rfl
-- X8_starving
set_option maxRecDepth 100000 in
theorem ex_X8_starving (d : Nat) (hd : 2 ≤ d) (a0 : Nat) (m : am_m) (t : Int32) (h : fn_X8_starving a0 m = some t) : am_Ex am_cod d 111 [.inr (.inr (some (8, a0)))] (am_mk m) (some (.inl t)) (am_mk m) 0 0 := by
  obtain ⟨d, rfl⟩ : ∃ e, d = e + 1 := ⟨d - 1, by omega⟩
  have htb : am_tab 111 = at_111 := rfl
  refine ⟨Nat.le_of_ble_eq_true rfl, ?_⟩
  unfold fn_X8_starving at h
  show am_Go d 111 (0, [some (.inr (.inr (some (8, a0))))], [], am_mk m) _ _ 0 0
  refine am_Go.n htb 2 (S' := (2, [some (.inr (.inr (some (8, a0))))], [.inl 1, .inr (.inr (some (8, a0)))], am_mk m)) rfl ?_
  obtain ⟨r1, h2, h⟩ := am_bd h
  refine am_Go.cl htb rfl (ex_X8_fedBelow d (by omega) a0 1 m r1 h2) ?_
  show am_Go d 111 (5, [some (.inr (.inr (some (8, a0))))], [.inl r1], am_mk m) _ _ _ _
  obtain ⟨r3, h4, h⟩ := am_bd h
  refine am_Go.cl htb rfl (ex_J6_bitCount_0f7a4 d (by omega) r1 m r3 h4) ?_
  show am_Go d 111 (8, [some (.inr (.inr (some (8, a0))))], [.inl r3], am_mk m) _ _ _ _
  cases h
  exact am_Go.rt htb rfl
-- X9_told
set_option maxRecDepth 100000 in
theorem ex_X9_told (d : Nat) (hd : 2 ≤ d) (a1 : Int32) (m : am_m) (t : Int32 × am_m) (h : fn_X9_told a1 m = some t) : am_Ex am_cod d 154 [.inr (.inr (some (9, 0))), .inl a1] (am_mk m) (some (.inl t.1)) (am_mk t.2) 0 0 := by
  obtain ⟨d, rfl⟩ : ∃ e, d = e + 1 := ⟨d - 1, by omega⟩
  have htb : am_tab 154 = at_154 := rfl
  refine ⟨Nat.le_of_ble_eq_true rfl, ?_⟩
  unfold fn_X9_told at h
  show am_Go d 154 (0, [some (.inr (.inr (some (9, 0)))), some (.inl a1)], [], am_mk m) _ _ 0 0
  refine am_Go.n htb 3 (S' := (3, [some (.inr (.inr (some (9, 0)))), some (.inl a1)], [.inl 0, .inl a1, .inr (.inr (some (9, 0)))], am_mk m)) rfl ?_
  obtain ⟨r1, h2, h⟩ := am_bd h
  refine am_Go.cl htb rfl (ex_J9_min_7cf53 d (by omega) a1 0 m r1 h2) ?_
  show am_Go d 154 (6, [some (.inr (.inr (some (9, 0)))), some (.inl a1)], [.inl r1, .inr (.inr (some (9, 0)))], am_mk m) _ _ _ _
  refine am_Go.n htb 2 (S' := (10, [some (.inr (.inr (some (9, 0)))), some (.inl a1)], [.inl a1], am_mk (am_si m 9 0 17 r1))) rfl ?_
  by_cases hc3 : 0 ≤ a1
  · rw [if_pos hc3] at h
    refine am_Go.c1 htb (S' := (30, [some (.inr (.inr (some (9, 0)))), some (.inl a1)], [], am_mk (am_si m 9 0 17 r1))) (if_pos hc3) ?_
    refine am_Go.n htb 1 (S' := (31, [some (.inr (.inr (some (9, 0)))), some (.inl a1)], [.inl a1], am_mk (am_si m 9 0 17 r1))) rfl ?_
    cases h
    exact am_Go.rt htb rfl
  · rw [if_neg hc3] at h
    refine am_Go.c1 htb (S' := (13, [some (.inr (.inr (some (9, 0)))), some (.inl a1)], [], am_mk (am_si m 9 0 17 r1))) (if_neg hc3) ?_
    refine am_Go.n htb 2 (S' := (16, [some (.inr (.inr (some (9, 0)))), some (.inl a1)], [.inl (-7), .inl a1], am_mk (am_si m 9 0 17 r1))) rfl ?_
    by_cases hc4 : a1 ≤ (-7 : Int32)
    · rw [if_pos hc4] at h
      refine am_Go.c1 htb (S' := (30, [some (.inr (.inr (some (9, 0)))), some (.inl a1)], [], am_mk (am_si m 9 0 17 r1))) (if_pos hc4) ?_
      refine am_Go.n htb 1 (S' := (31, [some (.inr (.inr (some (9, 0)))), some (.inl a1)], [.inl a1], am_mk (am_si m 9 0 17 r1))) rfl ?_
      cases h
      exact am_Go.rt htb rfl
    · rw [if_neg hc4] at h
      refine am_Go.c1 htb (S' := (19, [some (.inr (.inr (some (9, 0)))), some (.inl a1)], [], am_mk (am_si m 9 0 17 r1))) (if_neg hc4) ?_
      refine am_Go.n htb 5 (S' := (26, [some (.inr (.inr (some (9, 0)))), some (.inl a1)], [.inl (-a1), .inr (.inr (some (42, 0))), .inl (-a1), .inr (.inr (some (42, 0)))], am_mk (am_si m 9 0 17 r1))) rfl ?_
      obtain ⟨hg5, h⟩ := am_ck_some h
      refine am_Go.c1 htb (S' := (27, [some (.inr (.inr (some (9, 0)))), some (.inl a1)], [.inl (m.1 42 0 (-a1).toNatClampNeg), .inl (-a1), .inr (.inr (some (42, 0)))], am_mk (am_si m 9 0 17 r1))) (if_neg hg5) ?_
      refine am_Go.n htb 2 (S' := (29, [some (.inr (.inr (some (9, 0)))), some (.inl a1)], [.inl ((m.1 42 0 (-a1).toNatClampNeg) + (1 : Int32)), .inl (-a1), .inr (.inr (some (42, 0)))], am_mk (am_si m 9 0 17 r1))) rfl ?_
      obtain ⟨hg6, h⟩ := am_ck_some h
      refine am_Go.c1 htb (S' := (30, [some (.inr (.inr (some (9, 0)))), some (.inl a1)], [], am_mk (am_si (am_si m 9 0 17 r1) 42 0 (-a1).toNatClampNeg ((m.1 42 0 (-a1).toNatClampNeg) + (1 : Int32))))) (if_neg hg6) ?_
      refine am_Go.n htb 1 (S' := (31, [some (.inr (.inr (some (9, 0)))), some (.inl a1)], [.inl a1], am_mk (am_si (am_si m 9 0 17 r1) 42 0 (-a1).toNatClampNeg ((m.1 42 0 (-a1).toNatClampNeg) + (1 : Int32))))) rfl ?_
      cases h
      exact am_Go.rt htb rfl
-- X9_folk
set_option maxRecDepth 100000 in
theorem ex_X9_folk (d : Nat) (hd : 3 ≤ d) (a1 : Int32) (m : am_m) (t : Int32 × am_m) (h : fn_X9_folk a1 m = some t) : am_Ex am_cod d 113 [.inr (.inr (some (9, 0))), .inl a1] (am_mk m) (some (.inl t.1)) (am_mk t.2) 0 0 := by
  obtain ⟨d, rfl⟩ : ∃ e, d = e + 1 := ⟨d - 1, by omega⟩
  have htb : am_tab 113 = at_113 := rfl
  refine ⟨Nat.le_of_ble_eq_true rfl, ?_⟩
  unfold fn_X9_folk at h
  show am_Go d 113 (0, [some (.inr (.inr (some (9, 0)))), some (.inl a1), none], [], am_mk m) _ _ 0 0
  refine am_Go.n htb 1 (S' := (1, [some (.inr (.inr (some (9, 0)))), some (.inl a1), none], [.inl a1], am_mk m)) rfl ?_
  by_cases hc1 : a1 < 0
  · rw [if_pos hc1] at h
    refine am_Go.c1 htb (S' := (10, [some (.inr (.inr (some (9, 0)))), some (.inl a1), none], [], am_mk m)) (if_pos hc1) ?_
    refine am_Go.n htb 2 (S' := (12, [some (.inr (.inr (some (9, 0)))), some (.inl a1), none], [.inl (-1), .inr (.inr (some (9, 0)))], am_mk m)) rfl ?_
    obtain ⟨r2, h3, h⟩ := am_bd h
    refine am_Go.cl htb rfl (ex_X9_told d (by omega) (-1) m r2 h3) ?_
    show am_Go d 113 (15, [some (.inr (.inr (some (9, 0)))), some (.inl a1), none], [.inl r2.1], am_mk r2.2) _ _ _ _
    cases h
    exact am_Go.rt htb rfl
  · rw [if_neg hc1] at h
    refine am_Go.c1 htb (S' := (4, [some (.inr (.inr (some (9, 0)))), some (.inl a1), none], [], am_mk m)) (if_neg hc1) ?_
    refine am_Go.n htb 2 (S' := (7, [some (.inr (.inr (some (9, 0)))), some (.inl a1), none], [.inl 9, .inl a1], am_mk m)) rfl ?_
    by_cases hc4 : a1 ≤ (9 : Int32)
    · rw [if_pos hc4] at h
      refine am_Go.c1 htb (S' := (16, [some (.inr (.inr (some (9, 0)))), some (.inl a1), none], [], am_mk m)) (if_pos hc4) ?_
      refine am_Go.n htb 4 (S' := (25, [some (.inr (.inr (some (9, 0)))), some (.inl a1), none], [.inl 7, .inl (m.1 8 0 0)], am_mk m)) rfl ?_
      by_cases hc5 : (m.1 8 0 0) < (7 : Int32)
      · rw [if_pos hc5] at h
        refine am_Go.c1 htb (S' := (35, [some (.inr (.inr (some (9, 0)))), some (.inl a1), none], [], am_mk m)) (if_pos hc5) ?_
        refine am_Go.n htb 9 (S' := (52, [some (.inr (.inr (some (9, 0)))), some (.inl a1), some (.inl (m.1 8 0 0))], [.inl a1, .inl (m.1 8 0 0), .inr (.inr (some (36, 0)))], am_mk m)) rfl ?_
        obtain ⟨hg6, h⟩ := am_ck_some h
        refine am_Go.c1 htb (S' := (53, [some (.inr (.inr (some (9, 0)))), some (.inl a1), some (.inl (m.1 8 0 0))], [], am_mk (am_si m 36 0 (m.1 8 0 0).toNatClampNeg a1))) (if_neg hg6) ?_
        refine am_Go.n htb 8 (S' := (67, [some (.inr (.inr (some (9, 0)))), some (.inl a1), some (.inl (m.1 8 0 0))], [.inr (.inr (some (3, 0)))], am_mk (am_si (am_si m 36 0 (m.1 8 0 0).toNatClampNeg a1) 8 0 0 ((m.1 8 0 0) + (1 : Int32))))) rfl ?_
        obtain ⟨r7, h8, h⟩ := am_bd h
        refine am_Go.cl htb rfl (ex_X3_clear d (by omega) 0 (am_si (am_si m 36 0 (m.1 8 0 0).toNatClampNeg a1) 8 0 0 ((m.1 8 0 0) + (1 : Int32))) r7 h8) ?_
        show am_Go d 113 (70, [some (.inr (.inr (some (9, 0)))), some (.inl a1), some (.inl (m.1 8 0 0))], [], am_mk r7) _ _ _ _
        refine am_Go.n htb 2 (S' := (72, [some (.inr (.inr (some (9, 0)))), some (.inl a1), some (.inl (m.1 8 0 0))], [.inl (m.1 8 0 0), .inr (.inr (some (9, 0)))], am_mk r7)) rfl ?_
        obtain ⟨r9, h10, h⟩ := am_bd h
        refine am_Go.cl htb rfl (ex_X9_told d (by omega) (m.1 8 0 0) r7 r9 h10) ?_
        show am_Go d 113 (75, [some (.inr (.inr (some (9, 0)))), some (.inl a1), some (.inl (m.1 8 0 0))], [.inl r9.1], am_mk r9.2) _ _ _ _
        cases h
        exact am_Go.rt htb rfl
      · rw [if_neg hc5] at h
        refine am_Go.c1 htb (S' := (28, [some (.inr (.inr (some (9, 0)))), some (.inl a1), none], [], am_mk m)) (if_neg hc5) ?_
        refine am_Go.n htb 2 (S' := (31, [some (.inr (.inr (some (9, 0)))), some (.inl a1), none], [.inl (-5), .inr (.inr (some (9, 0)))], am_mk m)) rfl ?_
        obtain ⟨r11, h12, h⟩ := am_bd h
        refine am_Go.cl htb rfl (ex_X9_told d (by omega) (-5) m r11 h12) ?_
        show am_Go d 113 (34, [some (.inr (.inr (some (9, 0)))), some (.inl a1), none], [.inl r11.1], am_mk r11.2) _ _ _ _
        cases h
        exact am_Go.rt htb rfl
    · rw [if_neg hc4] at h
      refine am_Go.c1 htb (S' := (10, [some (.inr (.inr (some (9, 0)))), some (.inl a1), none], [], am_mk m)) (if_neg hc4) ?_
      refine am_Go.n htb 2 (S' := (12, [some (.inr (.inr (some (9, 0)))), some (.inl a1), none], [.inl (-1), .inr (.inr (some (9, 0)))], am_mk m)) rfl ?_
      obtain ⟨r13, h14, h⟩ := am_bd h
      refine am_Go.cl htb rfl (ex_X9_told d (by omega) (-1) m r13 h14) ?_
      show am_Go d 113 (15, [some (.inr (.inr (some (9, 0)))), some (.inl a1), none], [.inl r13.1], am_mk r13.2) _ _ _ _
      cases h
      exact am_Go.rt htb rfl
-- X9_askLive
set_option maxRecDepth 100000 in
theorem ex_X9_askLive (d : Nat) (hd : 2 ≤ d)  (m : am_m) (t : am_m) (h : fn_X9_askLive  m = some t) : am_Ex am_cod d 155 [.inr (.inr (some (9, 0)))] (am_mk m) (none) (am_mk t) 0 0 := by
  obtain ⟨d, rfl⟩ : ∃ e, d = e + 1 := ⟨d - 1, by omega⟩
  have htb : am_tab 155 = at_155 := rfl
  refine ⟨Nat.le_of_ble_eq_true rfl, ?_⟩
  unfold fn_X9_askLive at h
  show am_Go d 155 (0, [some (.inr (.inr (some (9, 0))))], [], am_mk m) _ _ 0 0
  refine am_Go.n htb 9 (S' := (19, [some (.inr (.inr (some (9, 0))))], [.inl (m.1 8 0 3), .inr (.inr (some (8, 0))), .inr (.inr (some (8, 0))), .inr (.inr (some (1, 0)))], am_mk m)) rfl ?_
  obtain ⟨r1, h2, h⟩ := am_bd h
  refine am_Go.cl htb rfl (ex_X8_lawOf d (by omega) 0 (m.1 8 0 3) m r1 h2) ?_
  show am_Go d 155 (22, [some (.inr (.inr (some (9, 0))))], [.inr (.inr (Option.map (fun j => (5, j)) r1)), .inr (.inr (some (8, 0))), .inr (.inr (some (1, 0)))], am_mk m) _ _ _ _
  obtain ⟨r3, h4, h⟩ := am_bd h
  refine am_Go.cl htb rfl (ex_X1_look d (by omega) 0 r1 m r3 h4) ?_
  show am_Go d 155 (25, [some (.inr (.inr (some (9, 0))))], [], am_mk r3) _ _ _ _
  cases h
  exact am_Go.rt htb rfl
-- X9_of
set_option maxRecDepth 100000 in
theorem ex_X9_of (d : Nat) (hd : 6 ≤ d) (a1 : Int32) (a2 : Int32) (m : am_m) (t : Int32 × am_m) (h : fn_X9_of a1 a2 m = some t) : am_Ex am_cod d 114 [.inr (.inr (some (9, 0))), .inl a1, .inl a2] (am_mk m) (some (.inl t.1)) (am_mk t.2) 0 0 := by
  obtain ⟨d, rfl⟩ : ∃ e, d = e + 1 := ⟨d - 1, by omega⟩
  have htb : am_tab 114 = at_114 := rfl
  refine ⟨Nat.le_of_ble_eq_true rfl, ?_⟩
  unfold fn_X9_of at h
  show am_Go d 114 (0, [some (.inr (.inr (some (9, 0)))), some (.inl a1), some (.inl a2)], [], am_mk m) _ _ 0 0
  refine am_Go.n htb 3 (S' := (5, [some (.inr (.inr (some (9, 0)))), some (.inl a1), some (.inl a2)], [.inl a1, .inr (.inr (some (8, 0)))], am_mk m)) rfl ?_
  obtain ⟨r1, h2, h⟩ := am_bd h
  refine am_Go.cl htb rfl (ex_X8_has d (by omega) 0 a1 m r1 h2) ?_
  show am_Go d 114 (8, [some (.inr (.inr (some (9, 0)))), some (.inl a1), some (.inl a2)], [.inl r1], am_mk m) _ _ _ _
  by_cases hc3 : r1 ≠ 0
  · rw [if_pos hc3] at h
    refine am_Go.c1 htb (S' := (13, [some (.inr (.inr (some (9, 0)))), some (.inl a1), some (.inl a2)], [], am_mk m)) (if_pos hc3) ?_
    refine am_Go.n htb 1 (S' := (14, [some (.inr (.inr (some (9, 0)))), some (.inl a1), some (.inl a2)], [.inr (.inr (some (9, 0)))], am_mk m)) rfl ?_
    obtain ⟨r4, h5, h⟩ := am_bd h
    refine am_Go.cl htb rfl (ex_X9_askLive d (by omega)  m r4 h5) ?_
    show am_Go d 114 (17, [some (.inr (.inr (some (9, 0)))), some (.inl a1), some (.inl a2)], [], am_mk r4) _ _ _ _
    refine am_Go.n htb 1 (S' := (18, [some (.inr (.inr (some (9, 0)))), some (.inl a1), some (.inl a2)], [.inl a2], am_mk r4)) rfl ?_
    by_cases hs6 : a2 = 0
    · rw [if_pos hs6] at h
      refine am_Go.o htb (am_o_sw [(0, 52), (1, 61), (2, 70), (3, 96), (4, 105)] 114) rfl (S' := (52, [some (.inr (.inr (some (9, 0)))), some (.inl a1), some (.inl a2)], [], am_mk r4)) (am_sw_eq (by simp only [am_sw, if_pos hs6])) ?_
      refine am_Go.n htb 3 (S' := (57, [some (.inr (.inr (some (9, 0)))), some (.inl a1), some (.inl a2)], [.inl a1, .inr (.inr (some (8, 0)))], am_mk r4)) rfl ?_
      obtain ⟨r7, h8, h⟩ := am_bd h
      refine am_Go.cl htb rfl (ex_X8_fedOf d (by omega) 0 a1 r4 r7 h8) ?_
      show am_Go d 114 (60, [some (.inr (.inr (some (9, 0)))), some (.inl a1), some (.inl a2)], [.inl r7], am_mk r4) _ _ _ _
      cases h
      exact am_Go.rt htb rfl
    · rw [if_neg hs6] at h
      by_cases hs9 : a2 = 1
      · rw [if_pos hs9] at h
        refine am_Go.o htb (am_o_sw [(0, 52), (1, 61), (2, 70), (3, 96), (4, 105)] 114) rfl (S' := (61, [some (.inr (.inr (some (9, 0)))), some (.inl a1), some (.inl a2)], [], am_mk r4)) (am_sw_eq (by simp only [am_sw, if_neg hs6, if_pos hs9])) ?_
        refine am_Go.n htb 3 (S' := (66, [some (.inr (.inr (some (9, 0)))), some (.inl a1), some (.inl a2)], [.inl a1, .inr (.inr (some (1, 0)))], am_mk r4)) rfl ?_
        obtain ⟨r10, h11, h⟩ := am_bd h
        refine am_Go.cl htb rfl (ex_X1_companions d (by omega) a1 r4 r10 h11) ?_
        show am_Go d 114 (69, [some (.inr (.inr (some (9, 0)))), some (.inl a1), some (.inl a2)], [.inl r10.1], am_mk r10.2) _ _ _ _
        cases h
        exact am_Go.rt htb rfl
      · rw [if_neg hs9] at h
        by_cases hs12 : a2 = 2
        · rw [if_pos hs12] at h
          refine am_Go.o htb (am_o_sw [(0, 52), (1, 61), (2, 70), (3, 96), (4, 105)] 114) rfl (S' := (70, [some (.inr (.inr (some (9, 0)))), some (.inl a1), some (.inl a2)], [], am_mk r4)) (am_sw_eq (by simp only [am_sw, if_neg hs6, if_neg hs9, if_pos hs12])) ?_
          refine am_Go.n htb 6 (S' := (80, [some (.inr (.inr (some (9, 0)))), some (.inl a1), some (.inl a2)], [.inl a1, .inr (.inr (some (8, 0))), .inl a1, .inr (.inr (some (1, 0)))], am_mk r4)) rfl ?_
          obtain ⟨r13, h14, h⟩ := am_bd h
          refine am_Go.cl htb rfl (ex_X8_fedOf d (by omega) 0 a1 r4 r13 h14) ?_
          show am_Go d 114 (83, [some (.inr (.inr (some (9, 0)))), some (.inl a1), some (.inl a2)], [.inl r13, .inl a1, .inr (.inr (some (1, 0)))], am_mk r4) _ _ _ _
          refine am_Go.n htb 5 (S' := (92, [some (.inr (.inr (some (9, 0)))), some (.inl a1), some (.inl a2)], [.inl (r4.1 39 0 0), .inl r13, .inl a1, .inr (.inr (some (1, 0)))], am_mk r4)) rfl ?_
          obtain ⟨r15, h16, h⟩ := am_bd h
          refine am_Go.cl htb rfl (ex_X1_hungerOf d (by omega) a1 r13 (r4.1 39 0 0) r4 r15 h16) ?_
          show am_Go d 114 (95, [some (.inr (.inr (some (9, 0)))), some (.inl a1), some (.inl a2)], [.inl r15.1], am_mk r15.2) _ _ _ _
          cases h
          exact am_Go.rt htb rfl
        · rw [if_neg hs12] at h
          by_cases hs17 : a2 = 3
          · rw [if_pos hs17] at h
            refine am_Go.o htb (am_o_sw [(0, 52), (1, 61), (2, 70), (3, 96), (4, 105)] 114) rfl (S' := (96, [some (.inr (.inr (some (9, 0)))), some (.inl a1), some (.inl a2)], [], am_mk r4)) (am_sw_eq (by simp only [am_sw, if_neg hs6, if_neg hs9, if_neg hs12, if_pos hs17])) ?_
            refine am_Go.n htb 3 (S' := (101, [some (.inr (.inr (some (9, 0)))), some (.inl a1), some (.inl a2)], [.inl a1, .inr (.inr (some (8, 0)))], am_mk r4)) rfl ?_
            obtain ⟨r18, h19, h⟩ := am_bd h
            refine am_Go.cl htb rfl (ex_X8_harmsBy d (by omega) 0 a1 r4 r18 h19) ?_
            show am_Go d 114 (104, [some (.inr (.inr (some (9, 0)))), some (.inl a1), some (.inl a2)], [.inl r18], am_mk r4) _ _ _ _
            cases h
            exact am_Go.rt htb rfl
          · rw [if_neg hs17] at h
            by_cases hs20 : a2 = 4
            · rw [if_pos hs20] at h
              refine am_Go.o htb (am_o_sw [(0, 52), (1, 61), (2, 70), (3, 96), (4, 105)] 114) rfl (S' := (105, [some (.inr (.inr (some (9, 0)))), some (.inl a1), some (.inl a2)], [], am_mk r4)) (am_sw_eq (by simp only [am_sw, if_neg hs6, if_neg hs9, if_neg hs12, if_neg hs17, if_pos hs20])) ?_
              refine am_Go.n htb 3 (S' := (110, [some (.inr (.inr (some (9, 0)))), some (.inl a1), some (.inl a2)], [.inl a1, .inr (.inr (some (8, 0)))], am_mk r4)) rfl ?_
              obtain ⟨r21, h22, h⟩ := am_bd h
              refine am_Go.cl htb rfl (ex_X8_harmsTo d (by omega) 0 a1 r4 r21 h22) ?_
              show am_Go d 114 (113, [some (.inr (.inr (some (9, 0)))), some (.inl a1), some (.inl a2)], [.inl r21], am_mk r4) _ _ _ _
              cases h
              exact am_Go.rt htb rfl
            · rw [if_neg hs20] at h
              refine am_Go.o htb (am_o_sw [(0, 52), (1, 61), (2, 70), (3, 96), (4, 105)] 114) rfl (S' := (114, [some (.inr (.inr (some (9, 0)))), some (.inl a1), some (.inl a2)], [], am_mk r4)) (am_sw_eq (by simp only [am_sw, if_neg hs6, if_neg hs9, if_neg hs12, if_neg hs17, if_neg hs20, if_false])) ?_
              refine am_Go.n htb 1 (S' := (115, [some (.inr (.inr (some (9, 0)))), some (.inl a1), some (.inl a2)], [.inl (-1)], am_mk r4)) rfl ?_
              cases h
              exact am_Go.rt htb rfl
  · rw [if_neg hc3] at h
    refine am_Go.c1 htb (S' := (11, [some (.inr (.inr (some (9, 0)))), some (.inl a1), some (.inl a2)], [], am_mk m)) (if_neg hc3) ?_
    refine am_Go.n htb 1 (S' := (12, [some (.inr (.inr (some (9, 0)))), some (.inl a1), some (.inl a2)], [.inl (-1)], am_mk m)) rfl ?_
    cases h
    exact am_Go.rt htb rfl
-- X9_asks
set_option maxRecDepth 100000 in
theorem ex_X9_asks (d : Nat) (hd : 5 ≤ d) (a1 : Int32) (a2 : Int32) (a3 : Int32) (m : am_m) (t : Int32 × am_m) (h : fn_X9_asks a1 a2 a3 m = some t) : am_Ex am_cod d 115 [.inr (.inr (some (9, 0))), .inl a1, .inl a2, .inl a3] (am_mk m) (some (.inl t.1)) (am_mk t.2) 0 0 := by
  obtain ⟨d, rfl⟩ : ∃ e, d = e + 1 := ⟨d - 1, by omega⟩
  have htb : am_tab 115 = at_115 := rfl
  refine ⟨Nat.le_of_ble_eq_true rfl, ?_⟩
  unfold fn_X9_asks at h
  show am_Go d 115 (0, [some (.inr (.inr (some (9, 0)))), some (.inl a1), some (.inl a2), some (.inl a3)], [], am_mk m) _ _ 0 0
  refine am_Go.n htb 4 (S' := (6, [some (.inr (.inr (some (9, 0)))), some (.inl a1), some (.inl a2), some (.inl a3)], [.inl a2, .inl a1, .inr (.inr (some (8, 0)))], am_mk m)) rfl ?_
  obtain ⟨r1, h2, h⟩ := am_bd h
  refine am_Go.cl htb rfl (ex_X8_hasTwo d (by omega) 0 a1 a2 m r1 h2) ?_
  show am_Go d 115 (9, [some (.inr (.inr (some (9, 0)))), some (.inl a1), some (.inl a2), some (.inl a3)], [.inl r1], am_mk m) _ _ _ _
  by_cases hc3 : r1 ≠ 0
  · rw [if_pos hc3] at h
    refine am_Go.c1 htb (S' := (14, [some (.inr (.inr (some (9, 0)))), some (.inl a1), some (.inl a2), some (.inl a3)], [], am_mk m)) (if_pos hc3) ?_
    refine am_Go.n htb 1 (S' := (15, [some (.inr (.inr (some (9, 0)))), some (.inl a1), some (.inl a2), some (.inl a3)], [.inr (.inr (some (9, 0)))], am_mk m)) rfl ?_
    obtain ⟨r4, h5, h⟩ := am_bd h
    refine am_Go.cl htb rfl (ex_X9_askLive d (by omega)  m r4 h5) ?_
    show am_Go d 115 (18, [some (.inr (.inr (some (9, 0)))), some (.inl a1), some (.inl a2), some (.inl a3)], [], am_mk r4) _ _ _ _
    refine am_Go.n htb 1 (S' := (19, [some (.inr (.inr (some (9, 0)))), some (.inl a1), some (.inl a2), some (.inl a3)], [.inl a3], am_mk r4)) rfl ?_
    by_cases hs6 : a3 = 0
    · rw [if_pos hs6] at h
      refine am_Go.o htb (am_o_sw [(0, 52), (1, 62), (2, 88), (3, 98), (4, 116)] 134) rfl (S' := (52, [some (.inr (.inr (some (9, 0)))), some (.inl a1), some (.inl a2), some (.inl a3)], [], am_mk r4)) (am_sw_eq (by simp only [am_sw, if_pos hs6])) ?_
      refine am_Go.n htb 4 (S' := (58, [some (.inr (.inr (some (9, 0)))), some (.inl a1), some (.inl a2), some (.inl a3)], [.inl a2, .inl a1, .inr (.inr (some (8, 0)))], am_mk r4)) rfl ?_
      obtain ⟨r7, h8, h⟩ := am_bd h
      refine am_Go.cl htb rfl (ex_X8_weightOf d (by omega) 0 a1 a2 r4 r7 h8) ?_
      show am_Go d 115 (61, [some (.inr (.inr (some (9, 0)))), some (.inl a1), some (.inl a2), some (.inl a3)], [.inl r7], am_mk r4) _ _ _ _
      cases h
      exact am_Go.rt htb rfl
    · rw [if_neg hs6] at h
      by_cases hs9 : a3 = 1
      · rw [if_pos hs9] at h
        refine am_Go.o htb (am_o_sw [(0, 52), (1, 62), (2, 88), (3, 98), (4, 116)] 134) rfl (S' := (62, [some (.inr (.inr (some (9, 0)))), some (.inl a1), some (.inl a2), some (.inl a3)], [], am_mk r4)) (am_sw_eq (by simp only [am_sw, if_neg hs6, if_pos hs9])) ?_
        refine am_Go.n htb 4 (S' := (68, [some (.inr (.inr (some (9, 0)))), some (.inl a1), some (.inl a2), some (.inl a3)], [.inl a2, .inl a1, .inr (.inr (some (8, 0)))], am_mk r4)) rfl ?_
        obtain ⟨r10, h11, h⟩ := am_bd h
        refine am_Go.cl htb rfl (ex_X8_weightOf d (by omega) 0 a1 a2 r4 r10 h11) ?_
        show am_Go d 115 (71, [some (.inr (.inr (some (9, 0)))), some (.inl a1), some (.inl a2), some (.inl a3)], [.inl r10], am_mk r4) _ _ _ _
        by_cases hc12 : r10 ≤ 0
        · rw [if_pos hc12] at h
          refine am_Go.c1 htb (S' := (86, [some (.inr (.inr (some (9, 0)))), some (.inl a1), some (.inl a2), some (.inl a3)], [], am_mk r4)) (if_pos hc12) ?_
          refine am_Go.n htb 1 (S' := (87, [some (.inr (.inr (some (9, 0)))), some (.inl a1), some (.inl a2), some (.inl a3)], [.inl (-1)], am_mk r4)) rfl ?_
          cases h
          exact am_Go.rt htb rfl
        · rw [if_neg hc12] at h
          refine am_Go.c1 htb (S' := (74, [some (.inr (.inr (some (9, 0)))), some (.inl a1), some (.inl a2), some (.inl a3)], [], am_mk r4)) (if_neg hc12) ?_
          refine am_Go.n htb 4 (S' := (80, [some (.inr (.inr (some (9, 0)))), some (.inl a1), some (.inl a2), some (.inl a3)], [.inl a2, .inl a1, .inr (.inr (some (8, 0)))], am_mk r4)) rfl ?_
          obtain ⟨r13, h14, h⟩ := am_bd h
          refine am_Go.cl htb rfl (ex_X8_sinceOf d (by omega) 0 a1 a2 r4 r13 h14) ?_
          show am_Go d 115 (83, [some (.inr (.inr (some (9, 0)))), some (.inl a1), some (.inl a2), some (.inl a3)], [.inl r13], am_mk r4) _ _ _ _
          refine am_Go.n htb 1 (S' := (87, [some (.inr (.inr (some (9, 0)))), some (.inl a1), some (.inl a2), some (.inl a3)], [.inl r13], am_mk r4)) rfl ?_
          cases h
          exact am_Go.rt htb rfl
      · rw [if_neg hs9] at h
        by_cases hs15 : a3 = 2
        · rw [if_pos hs15] at h
          refine am_Go.o htb (am_o_sw [(0, 52), (1, 62), (2, 88), (3, 98), (4, 116)] 134) rfl (S' := (88, [some (.inr (.inr (some (9, 0)))), some (.inl a1), some (.inl a2), some (.inl a3)], [], am_mk r4)) (am_sw_eq (by simp only [am_sw, if_neg hs6, if_neg hs9, if_pos hs15])) ?_
          refine am_Go.n htb 4 (S' := (94, [some (.inr (.inr (some (9, 0)))), some (.inl a1), some (.inl a2), some (.inl a3)], [.inl a2, .inl a1, .inr (.inr (some (1, 0)))], am_mk r4)) rfl ?_
          obtain ⟨r16, h17, h⟩ := am_bd h
          refine am_Go.cl htb rfl (ex_X1_countsOf d (by omega) a1 a2 r4 r16 h17) ?_
          show am_Go d 115 (97, [some (.inr (.inr (some (9, 0)))), some (.inl a1), some (.inl a2), some (.inl a3)], [.inl r16.1], am_mk r16.2) _ _ _ _
          cases h
          exact am_Go.rt htb rfl
        · rw [if_neg hs15] at h
          by_cases hs18 : a3 = 3
          · rw [if_pos hs18] at h
            refine am_Go.o htb (am_o_sw [(0, 52), (1, 62), (2, 88), (3, 98), (4, 116)] 134) rfl (S' := (98, [some (.inr (.inr (some (9, 0)))), some (.inl a1), some (.inl a2), some (.inl a3)], [], am_mk r4)) (am_sw_eq (by simp only [am_sw, if_neg hs6, if_neg hs9, if_neg hs15, if_pos hs18])) ?_
            refine am_Go.n htb 4 (S' := (104, [some (.inr (.inr (some (9, 0)))), some (.inl a1), some (.inl a2), some (.inl a3)], [.inl a2, .inl a1, .inr (.inr (some (1, 0)))], am_mk r4)) rfl ?_
            obtain ⟨r19, h20, h⟩ := am_bd h
            refine am_Go.cl htb rfl (ex_X1_isBarred d (by omega) a1 a2 r4 r19 h20) ?_
            show am_Go d 115 (107, [some (.inr (.inr (some (9, 0)))), some (.inl a1), some (.inl a2), some (.inl a3)], [.inl r19.1], am_mk r19.2) _ _ _ _
            by_cases hc21 : r19.1 = 0
            · rw [if_pos hc21] at h
              refine am_Go.c1 htb (S' := (114, [some (.inr (.inr (some (9, 0)))), some (.inl a1), some (.inl a2), some (.inl a3)], [], am_mk r19.2)) (if_pos hc21) ?_
              refine am_Go.n htb 1 (S' := (115, [some (.inr (.inr (some (9, 0)))), some (.inl a1), some (.inl a2), some (.inl a3)], [.inl 0], am_mk r19.2)) rfl ?_
              cases h
              exact am_Go.rt htb rfl
            · rw [if_neg hc21] at h
              refine am_Go.c1 htb (S' := (110, [some (.inr (.inr (some (9, 0)))), some (.inl a1), some (.inl a2), some (.inl a3)], [], am_mk r19.2)) (if_neg hc21) ?_
              refine am_Go.n htb 2 (S' := (115, [some (.inr (.inr (some (9, 0)))), some (.inl a1), some (.inl a2), some (.inl a3)], [.inl 1], am_mk r19.2)) rfl ?_
              cases h
              exact am_Go.rt htb rfl
          · rw [if_neg hs18] at h
            by_cases hs22 : a3 = 4
            · rw [if_pos hs22] at h
              refine am_Go.o htb (am_o_sw [(0, 52), (1, 62), (2, 88), (3, 98), (4, 116)] 134) rfl (S' := (116, [some (.inr (.inr (some (9, 0)))), some (.inl a1), some (.inl a2), some (.inl a3)], [], am_mk r4)) (am_sw_eq (by simp only [am_sw, if_neg hs6, if_neg hs9, if_neg hs15, if_neg hs18, if_pos hs22])) ?_
              refine am_Go.n htb 4 (S' := (122, [some (.inr (.inr (some (9, 0)))), some (.inl a1), some (.inl a2), some (.inl a3)], [.inl a2, .inl a1, .inr (.inr (some (1, 0)))], am_mk r4)) rfl ?_
              obtain ⟨r23, h24, h⟩ := am_bd h
              refine am_Go.cl htb rfl (ex_X1_maySit d (by omega) a1 a2 r4 r23 h24) ?_
              show am_Go d 115 (125, [some (.inr (.inr (some (9, 0)))), some (.inl a1), some (.inl a2), some (.inl a3)], [.inl r23.1], am_mk r23.2) _ _ _ _
              by_cases hc25 : r23.1 = 0
              · rw [if_pos hc25] at h
                refine am_Go.c1 htb (S' := (132, [some (.inr (.inr (some (9, 0)))), some (.inl a1), some (.inl a2), some (.inl a3)], [], am_mk r23.2)) (if_pos hc25) ?_
                refine am_Go.n htb 1 (S' := (133, [some (.inr (.inr (some (9, 0)))), some (.inl a1), some (.inl a2), some (.inl a3)], [.inl 0], am_mk r23.2)) rfl ?_
                cases h
                exact am_Go.rt htb rfl
              · rw [if_neg hc25] at h
                refine am_Go.c1 htb (S' := (128, [some (.inr (.inr (some (9, 0)))), some (.inl a1), some (.inl a2), some (.inl a3)], [], am_mk r23.2)) (if_neg hc25) ?_
                refine am_Go.n htb 2 (S' := (133, [some (.inr (.inr (some (9, 0)))), some (.inl a1), some (.inl a2), some (.inl a3)], [.inl 1], am_mk r23.2)) rfl ?_
                cases h
                exact am_Go.rt htb rfl
            · rw [if_neg hs22] at h
              refine am_Go.o htb (am_o_sw [(0, 52), (1, 62), (2, 88), (3, 98), (4, 116)] 134) rfl (S' := (134, [some (.inr (.inr (some (9, 0)))), some (.inl a1), some (.inl a2), some (.inl a3)], [], am_mk r4)) (am_sw_eq (by simp only [am_sw, if_neg hs6, if_neg hs9, if_neg hs15, if_neg hs18, if_neg hs22, if_false])) ?_
              refine am_Go.n htb 1 (S' := (135, [some (.inr (.inr (some (9, 0)))), some (.inl a1), some (.inl a2), some (.inl a3)], [.inl (-1)], am_mk r4)) rfl ?_
              cases h
              exact am_Go.rt htb rfl
  · rw [if_neg hc3] at h
    refine am_Go.c1 htb (S' := (12, [some (.inr (.inr (some (9, 0)))), some (.inl a1), some (.inl a2), some (.inl a3)], [], am_mk m)) (if_neg hc3) ?_
    refine am_Go.n htb 1 (S' := (13, [some (.inr (.inr (some (9, 0)))), some (.inl a1), some (.inl a2), some (.inl a3)], [.inl (-1)], am_mk m)) rfl ?_
    cases h
    exact am_Go.rt htb rfl
