-- X1_companions
set_option maxRecDepth 100000 in
theorem lt_X1_companions_4 (d : Nat) (hd : 5 ≤ d + 1) {r : Option am_V} {M' : am_M} {kc ks : Nat} {n : Nat} {x1 : Int32} {x2 : Int32} {x3 : Int32} {m : am_m} {t : Int32 × am_m} (h : lp_X1_companions_4 n x1 x2 x3 m = some t) (hk : am_Go d 9 (36, [some (.inr (.inr (some (1, 0)))), some (.inl x1), some (.inl t.1), none], [], am_mk t.2) r M' kc ks) : am_Go d 9 (4, [some (.inr (.inr (some (1, 0)))), some (.inl x1), some (.inl x2), some (.inl x3)], [], am_mk m) r M' kc ks := by
  have htb : am_tab 9 = at_9 := rfl
  induction n generalizing x2 x3 m with
  | zero => cases h
  | succ n ih =>
    unfold lp_X1_companions_4 at h
    refine am_Go.n htb 2 (S' := (6, [some (.inr (.inr (some (1, 0)))), some (.inl x1), some (.inl x2), some (.inl x3)], [.inr (.inr (some (1, 0))), .inl x3], am_mk m)) rfl ?_
    obtain ⟨u1, hu2, h⟩ := am_bd h
    refine am_Go.o htb (am_o_gf 1 0 11) rfl (S' := (9, [some (.inr (.inr (some (1, 0)))), some (.inl x1), some (.inl x2), some (.inl x3)], [.inr (.inr (some (8, u1))), .inl x3], am_mk m)) (am_gfd hu2) ?_
    refine am_Go.n htb 1 (S' := (12, [some (.inr (.inr (some (1, 0)))), some (.inl x1), some (.inl x2), some (.inl x3)], [.inl (m.1 8 u1 0), .inl x3], am_mk m)) rfl ?_
    by_cases hc3 : (m.1 8 u1 0) ≤ x3
    · rw [if_pos hc3] at h
      refine am_Go.c1 htb (S' := (36, [some (.inr (.inr (some (1, 0)))), some (.inl x1), some (.inl x2), some (.inl x3)], [], am_mk m)) (if_pos hc3) ?_
      cases h
      exact am_Go.fg (by exact ⟨rfl, ⟨rfl, ⟨rfl, trivial⟩⟩⟩) hk
    · rw [if_neg hc3] at h
      refine am_Go.c1 htb (S' := (15, [some (.inr (.inr (some (1, 0)))), some (.inl x1), some (.inl x2), some (.inl x3)], [], am_mk m)) (if_neg hc3) ?_
      refine am_Go.n htb 3 (S' := (18, [some (.inr (.inr (some (1, 0)))), some (.inl x1), some (.inl x2), some (.inl x3)], [.inl x3, .inl x1, .inr (.inr (some (1, 0)))], am_mk m)) rfl ?_
      obtain ⟨r4, h5, h⟩ := am_bd h
      refine am_Go.cl htb rfl (ex_X1_maySit d (by omega) x1 x3 m r4 h5) ?_
      show am_Go d 9 (21, [some (.inr (.inr (some (1, 0)))), some (.inl x1), some (.inl x2), some (.inl x3)], [.inl r4.1], am_mk r4.2) _ _ _ _
      refine am_Go.cut (S := (30, [some (.inr (.inr (some (1, 0)))), some (.inl x1), some (.inl (if r4.1 = 0 then x2 else (x2 ||| ((1 : Int32) <<< (x3 &&& 31))))), some (.inl x3)], [], am_mk r4.2)) ?_ (fun key => ?_)
      · refine am_Go.n htb 2 (S' := (4, [some (.inr (.inr (some (1, 0)))), some (.inl x1), some (.inl (if r4.1 = 0 then x2 else (x2 ||| ((1 : Int32) <<< (x3 &&& 31))))), some (.inl (x3 + 1))], [], am_mk r4.2)) rfl ?_
        first | exact ih h | exact ih h hk
      · by_cases hc6 : r4.1 = 0
        · refine am_Go.c1 htb (S' := (30, [some (.inr (.inr (some (1, 0)))), some (.inl x1), some (.inl x2), some (.inl x3)], [], am_mk r4.2)) (if_pos hc6) ?_
          simp only [if_pos hc6] at key
          exact am_Go.fg (by exact ⟨rfl, ⟨rfl, ⟨rfl, ⟨rfl, trivial⟩⟩⟩⟩) key
        · refine am_Go.c1 htb (S' := (24, [some (.inr (.inr (some (1, 0)))), some (.inl x1), some (.inl x2), some (.inl x3)], [], am_mk r4.2)) (if_neg hc6) ?_
          refine am_Go.n htb 6 (S' := (30, [some (.inr (.inr (some (1, 0)))), some (.inl x1), some (.inl (x2 ||| ((1 : Int32) <<< (x3 &&& 31)))), some (.inl x3)], [], am_mk r4.2)) rfl ?_
          simp only [if_neg hc6] at key
          exact am_Go.fg (by exact ⟨rfl, ⟨rfl, ⟨rfl, ⟨rfl, trivial⟩⟩⟩⟩) key
set_option maxRecDepth 100000 in
theorem ex_X1_companions (d : Nat) (hd : 5 ≤ d) (a1 : Int32) (m : am_m) (t : Int32 × am_m) (h : fn_X1_companions a1 m = some t) : am_Ex am_cod d 9 [.inr (.inr (some (1, 0))), .inl a1] (am_mk m) (some (.inl t.1)) (am_mk t.2) 0 0 := by
  obtain ⟨d, rfl⟩ : ∃ e, d = e + 1 := ⟨d - 1, by omega⟩
  have htb : am_tab 9 = at_9 := rfl
  refine ⟨Nat.le_of_ble_eq_true rfl, ?_⟩
  unfold fn_X1_companions at h
  show am_Go d 9 (0, [some (.inr (.inr (some (1, 0)))), some (.inl a1), none, none], [], am_mk m) _ _ 0 0
  refine am_Go.n htb 4 (S' := (4, [some (.inr (.inr (some (1, 0)))), some (.inl a1), some (.inl 0), some (.inl 0)], [], am_mk m)) rfl ?_
  obtain ⟨q7, h8, h⟩ := am_bd h
  refine lt_X1_companions_4 _ hd (h := h8) (hk := ?_)
  refine am_Go.n htb 1 (S' := (37, [some (.inr (.inr (some (1, 0)))), some (.inl a1), some (.inl q7.1), none], [.inl q7.1], am_mk q7.2)) rfl ?_
  cases h
  exact am_Go.rt htb rfl
-- X1_isTable
set_option maxRecDepth 100000 in
theorem lt_X1_isTable_12 (d : Nat) (hd : 5 ≤ d + 1) {r : Option am_V} {M' : am_M} {kc ks : Nat} {n : Nat} {x1 : Int32} {x2 : Int32} {x3 : Int32} {m : am_m} {t : Sum (am_m) (Int32 × am_m)} (h : lp_X1_isTable_12 n x1 x2 x3 m = some t) (hk : ∀ t', t = .inl t' → am_Go d 10 (48, [some (.inr (.inr (some (1, 0)))), some (.inl x1), some (.inl x2), none], [], am_mk t') r M' kc ks) (hr : ∀ t', t = .inr t' → r = some (.inl t'.1) ∧ M' = am_mk t'.2 ∧ kc = 0 ∧ ks = 0) : am_Go d 10 (12, [some (.inr (.inr (some (1, 0)))), some (.inl x1), some (.inl x2), some (.inl x3)], [], am_mk m) r M' kc ks := by
  have htb : am_tab 10 = at_10 := rfl
  induction n generalizing x3 m with
  | zero => cases h
  | succ n ih =>
    unfold lp_X1_isTable_12 at h
    refine am_Go.n htb 2 (S' := (15, [some (.inr (.inr (some (1, 0)))), some (.inl x1), some (.inl x2), some (.inl x3)], [.inl 7, .inl x3], am_mk m)) rfl ?_
    by_cases hc2 : (7 : Int32) ≤ x3
    · rw [if_pos hc2] at h
      refine am_Go.c1 htb (S' := (48, [some (.inr (.inr (some (1, 0)))), some (.inl x1), some (.inl x2), some (.inl x3)], [], am_mk m)) (if_pos hc2) ?_
      cases h
      exact am_Go.fg (by exact ⟨rfl, ⟨rfl, ⟨rfl, trivial⟩⟩⟩) (hk _ rfl)
    · rw [if_neg hc2] at h
      refine am_Go.c1 htb (S' := (18, [some (.inr (.inr (some (1, 0)))), some (.inl x1), some (.inl x2), some (.inl x3)], [], am_mk m)) (if_neg hc2) ?_
      refine am_Go.n htb 10 (S' := (28, [some (.inr (.inr (some (1, 0)))), some (.inl x1), some (.inl x2), some (.inl x3)], [.inl 1, .inl (((x1 >>> (x2 &&& 31)) &&& (x1 >>> (x3 &&& 31))) &&& (1 : Int32))], am_mk m)) rfl ?_
      by_cases hc3 : (((x1 >>> (x2 &&& 31)) &&& (x1 >>> (x3 &&& 31))) &&& (1 : Int32)) ≠ (1 : Int32)
      · rw [if_pos hc3] at h
        refine am_Go.c1 htb (S' := (42, [some (.inr (.inr (some (1, 0)))), some (.inl x1), some (.inl x2), some (.inl x3)], [], am_mk m)) (if_pos hc3) ?_
        refine am_Go.n htb 2 (S' := (12, [some (.inr (.inr (some (1, 0)))), some (.inl x1), some (.inl x2), some (.inl (x3 + 1))], [], am_mk m)) rfl ?_
        first | exact ih h | exact ih h hk | exact ih h hr | exact ih h hk hr
      · rw [if_neg hc3] at h
        refine am_Go.c1 htb (S' := (31, [some (.inr (.inr (some (1, 0)))), some (.inl x1), some (.inl x2), some (.inl x3)], [], am_mk m)) (if_neg hc3) ?_
        refine am_Go.n htb 3 (S' := (34, [some (.inr (.inr (some (1, 0)))), some (.inl x1), some (.inl x2), some (.inl x3)], [.inl x3, .inl x2, .inr (.inr (some (1, 0)))], am_mk m)) rfl ?_
        obtain ⟨r4, h5, h⟩ := am_bd h
        refine am_Go.cl htb rfl (ex_X1_maySit d (by omega) x2 x3 m r4 h5) ?_
        show am_Go d 10 (37, [some (.inr (.inr (some (1, 0)))), some (.inl x1), some (.inl x2), some (.inl x3)], [.inl r4.1], am_mk r4.2) _ _ _ _
        by_cases hc6 : r4.1 ≠ 0
        · rw [if_pos hc6] at h
          refine am_Go.c1 htb (S' := (42, [some (.inr (.inr (some (1, 0)))), some (.inl x1), some (.inl x2), some (.inl x3)], [], am_mk r4.2)) (if_pos hc6) ?_
          refine am_Go.n htb 2 (S' := (12, [some (.inr (.inr (some (1, 0)))), some (.inl x1), some (.inl x2), some (.inl (x3 + 1))], [], am_mk r4.2)) rfl ?_
          first | exact ih h | exact ih h hk | exact ih h hr | exact ih h hk hr
        · rw [if_neg hc6] at h
          refine am_Go.c1 htb (S' := (40, [some (.inr (.inr (some (1, 0)))), some (.inl x1), some (.inl x2), some (.inl x3)], [], am_mk r4.2)) (if_neg hc6) ?_
          refine am_Go.n htb 1 (S' := (41, [some (.inr (.inr (some (1, 0)))), some (.inl x1), some (.inl x2), some (.inl x3)], [.inl 0], am_mk r4.2)) rfl ?_
          cases h
          obtain ⟨rfl, rfl, rfl, rfl⟩ := hr _ rfl
          exact am_Go.rt htb rfl
set_option maxRecDepth 100000 in
theorem lt_X1_isTable_2 (d : Nat) (hd : 5 ≤ d + 1) {r : Option am_V} {M' : am_M} {kc ks : Nat} {n : Nat} {x1 : Int32} {x2 : Int32} {m : am_m} {t : Sum (am_m) (Int32 × am_m)} (h : lp_X1_isTable_2 n x1 x2 m = some t) (hk : ∀ t', t = .inl t' → am_Go d 10 (54, [some (.inr (.inr (some (1, 0)))), some (.inl x1), none, none], [], am_mk t') r M' kc ks) (hr : ∀ t', t = .inr t' → r = some (.inl t'.1) ∧ M' = am_mk t'.2 ∧ kc = 0 ∧ ks = 0) : am_Go d 10 (2, [some (.inr (.inr (some (1, 0)))), some (.inl x1), some (.inl x2), none], [], am_mk m) r M' kc ks := by
  have htb : am_tab 10 = at_10 := rfl
  induction n generalizing x2 m with
  | zero => cases h
  | succ n ih =>
    unfold lp_X1_isTable_2 at h
    refine am_Go.n htb 2 (S' := (5, [some (.inr (.inr (some (1, 0)))), some (.inl x1), some (.inl x2), none], [.inl 7, .inl x2], am_mk m)) rfl ?_
    by_cases hc1 : (7 : Int32) ≤ x2
    · rw [if_pos hc1] at h
      refine am_Go.c1 htb (S' := (54, [some (.inr (.inr (some (1, 0)))), some (.inl x1), some (.inl x2), none], [], am_mk m)) (if_pos hc1) ?_
      cases h
      exact am_Go.fg (by exact ⟨rfl, ⟨rfl, trivial⟩⟩) (hk _ rfl)
    · rw [if_neg hc1] at h
      refine am_Go.c1 htb (S' := (8, [some (.inr (.inr (some (1, 0)))), some (.inl x1), some (.inl x2), none], [], am_mk m)) (if_neg hc1) ?_
      refine am_Go.n htb 4 (S' := (12, [some (.inr (.inr (some (1, 0)))), some (.inl x1), some (.inl x2), some (.inl (x2 + (1 : Int32)))], [], am_mk m)) rfl ?_
      obtain ⟨w10, h8, h⟩ := am_bd h
      refine lt_X1_isTable_12 _ hd (h := h8) (hk := ?_) (hr := ?_)
      · intro q7 he
        subst he
        dsimp only at h
        refine am_Go.n htb 2 (S' := (2, [some (.inr (.inr (some (1, 0)))), some (.inl x1), some (.inl (x2 + 1)), none], [], am_mk q7)) rfl ?_
        first | exact ih h | exact ih h hk | exact ih h hr | exact ih h hk hr
      · intro rr9 he
        subst he
        cases h
        exact hr _ rfl
set_option maxRecDepth 100000 in
theorem ex_X1_isTable (d : Nat) (hd : 5 ≤ d) (a1 : Int32) (m : am_m) (t : Int32 × am_m) (h : fn_X1_isTable a1 m = some t) : am_Ex am_cod d 10 [.inr (.inr (some (1, 0))), .inl a1] (am_mk m) (some (.inl t.1)) (am_mk t.2) 0 0 := by
  obtain ⟨d, rfl⟩ : ∃ e, d = e + 1 := ⟨d - 1, by omega⟩
  have htb : am_tab 10 = at_10 := rfl
  refine ⟨Nat.le_of_ble_eq_true rfl, ?_⟩
  unfold fn_X1_isTable at h
  show am_Go d 10 (0, [some (.inr (.inr (some (1, 0)))), some (.inl a1), none, none], [], am_mk m) _ _ 0 0
  refine am_Go.n htb 2 (S' := (2, [some (.inr (.inr (some (1, 0)))), some (.inl a1), some (.inl 0), none], [], am_mk m)) rfl ?_
  obtain ⟨w17, h12, h⟩ := am_bd h
  refine lt_X1_isTable_2 _ hd (h := h12) (hk := ?_) (hr := ?_)
  · intro q11 he
    subst he
    dsimp only at h
    refine am_Go.n htb 1 (S' := (55, [some (.inr (.inr (some (1, 0)))), some (.inl a1), none, none], [.inl a1], am_mk q11)) rfl ?_
    obtain ⟨r13, h14, h⟩ := am_bd h
    refine am_Go.cl htb rfl (ex_J6_bitCount_0f7a4 d (by omega) a1 q11 r13 h14) ?_
    show am_Go d 10 (58, [some (.inr (.inr (some (1, 0)))), some (.inl a1), none, none], [.inl r13], am_mk q11) _ _ _ _
    refine am_Go.n htb 1 (S' := (59, [some (.inr (.inr (some (1, 0)))), some (.inl a1), none, none], [.inl 2, .inl r13], am_mk q11)) rfl ?_
    by_cases hc15 : r13 < (2 : Int32)
    · rw [if_pos hc15] at h
      refine am_Go.c1 htb (S' := (66, [some (.inr (.inr (some (1, 0)))), some (.inl a1), none, none], [], am_mk q11)) (if_pos hc15) ?_
      refine am_Go.n htb 1 (S' := (67, [some (.inr (.inr (some (1, 0)))), some (.inl a1), none, none], [.inl 0], am_mk q11)) rfl ?_
      cases h
      exact am_Go.rt htb rfl
    · rw [if_neg hc15] at h
      refine am_Go.c1 htb (S' := (62, [some (.inr (.inr (some (1, 0)))), some (.inl a1), none, none], [], am_mk q11)) (if_neg hc15) ?_
      refine am_Go.n htb 2 (S' := (67, [some (.inr (.inr (some (1, 0)))), some (.inl a1), none, none], [.inl 1], am_mk q11)) rfl ?_
      cases h
      exact am_Go.rt htb rfl
  · intro rr16 he
    subst he
    cases h
    exact ⟨rfl, rfl, rfl, rfl⟩
-- X1_sufferedBy
set_option maxRecDepth 100000 in
theorem lt_X1_sufferedBy_5 (d : Nat) (hd : 5 ≤ d + 1) {r : Option am_V} {M' : am_M} {kc ks : Nat} {n : Nat} {x1 : Int32} {x2 : Int32} {x3 : Int32} {x4 : Int32} {m : am_m} {t : Int32 × am_m} (h : lp_X1_sufferedBy_5 n x1 x2 x3 x4 m = some t) (hk : am_Go d 11 (44, [some (.inr (.inr (some (1, 0)))), some (.inl x1), some (.inl x2), some (.inl t.1), none], [], am_mk t.2) r M' kc ks) : am_Go d 11 (5, [some (.inr (.inr (some (1, 0)))), some (.inl x1), some (.inl x2), some (.inl x3), some (.inl x4)], [], am_mk m) r M' kc ks := by
  have htb : am_tab 11 = at_11 := rfl
  induction n generalizing x3 x4 m with
  | zero => cases h
  | succ n ih =>
    unfold lp_X1_sufferedBy_5 at h
    refine am_Go.n htb 2 (S' := (9, [some (.inr (.inr (some (1, 0)))), some (.inl x1), some (.inl x2), some (.inl x3), some (.inl x4)], [.inl 7, .inl x4], am_mk m)) rfl ?_
    by_cases hc1 : (7 : Int32) ≤ x4
    · rw [if_pos hc1] at h
      refine am_Go.c1 htb (S' := (44, [some (.inr (.inr (some (1, 0)))), some (.inl x1), some (.inl x2), some (.inl x3), some (.inl x4)], [], am_mk m)) (if_pos hc1) ?_
      cases h
      exact am_Go.fg (by exact ⟨rfl, ⟨rfl, ⟨rfl, ⟨rfl, trivial⟩⟩⟩⟩) hk
    · rw [if_neg hc1] at h
      refine am_Go.c1 htb (S' := (12, [some (.inr (.inr (some (1, 0)))), some (.inl x1), some (.inl x2), some (.inl x3), some (.inl x4)], [], am_mk m)) (if_neg hc1) ?_
      refine am_Go.n htb 2 (S' := (15, [some (.inr (.inr (some (1, 0)))), some (.inl x1), some (.inl x2), some (.inl x3), some (.inl x4)], [.inl x1, .inl x4], am_mk m)) rfl ?_
      obtain ⟨q6, h7, h⟩ := am_bd h
      refine am_Go.cut (S := (38, [some (.inr (.inr (some (1, 0)))), some (.inl x1), some (.inl x2), some (.inl q6.1), some (.inl x4)], [], am_mk q6.2)) ?_ (fun key => ?_)
      · refine am_Go.n htb 2 (S' := (5, [some (.inr (.inr (some (1, 0)))), some (.inl x1), some (.inl x2), some (.inl q6.1), some (.inl (x4 + 1))], [], am_mk q6.2)) rfl ?_
        first | exact ih h | exact ih h hk
      · have h := h7
        by_cases hc2 : x4 = x1
        · rw [if_pos hc2] at h
          refine am_Go.c1 htb (S' := (38, [some (.inr (.inr (some (1, 0)))), some (.inl x1), some (.inl x2), some (.inl x3), some (.inl x4)], [], am_mk m)) (if_pos hc2) ?_
          cases h
          exact am_Go.fg (by exact ⟨rfl, ⟨rfl, ⟨rfl, ⟨rfl, ⟨rfl, trivial⟩⟩⟩⟩⟩) key
        · rw [if_neg hc2] at h
          refine am_Go.c1 htb (S' := (18, [some (.inr (.inr (some (1, 0)))), some (.inl x1), some (.inl x2), some (.inl x3), some (.inl x4)], [], am_mk m)) (if_neg hc2) ?_
          refine am_Go.n htb 6 (S' := (25, [some (.inr (.inr (some (1, 0)))), some (.inl x1), some (.inl x2), some (.inl x3), some (.inl x4)], [.inl 1, .inl ((x2 >>> (x4 &&& 31)) &&& (1 : Int32))], am_mk m)) rfl ?_
          by_cases hc3 : ((x2 >>> (x4 &&& 31)) &&& (1 : Int32)) ≠ (1 : Int32)
          · rw [if_pos hc3] at h
            refine am_Go.c1 htb (S' := (38, [some (.inr (.inr (some (1, 0)))), some (.inl x1), some (.inl x2), some (.inl x3), some (.inl x4)], [], am_mk m)) (if_pos hc3) ?_
            cases h
            exact am_Go.fg (by exact ⟨rfl, ⟨rfl, ⟨rfl, ⟨rfl, ⟨rfl, trivial⟩⟩⟩⟩⟩) key
          · rw [if_neg hc3] at h
            refine am_Go.c1 htb (S' := (28, [some (.inr (.inr (some (1, 0)))), some (.inl x1), some (.inl x2), some (.inl x3), some (.inl x4)], [], am_mk m)) (if_neg hc3) ?_
            refine am_Go.n htb 4 (S' := (33, [some (.inr (.inr (some (1, 0)))), some (.inl x1), some (.inl x2), some (.inl x3), some (.inl x4)], [.inl x1, .inl x4, .inr (.inr (some (1, 0))), .inl x3], am_mk m)) rfl ?_
            obtain ⟨r4, h5, h⟩ := am_bd h
            refine am_Go.cl htb rfl (ex_X1_countsOf d (by omega) x4 x1 m r4 h5) ?_
            show am_Go d 11 (36, [some (.inr (.inr (some (1, 0)))), some (.inl x1), some (.inl x2), some (.inl x3), some (.inl x4)], [.inl r4.1, .inl x3], am_mk r4.2) _ _ _ _
            refine am_Go.n htb 2 (S' := (38, [some (.inr (.inr (some (1, 0)))), some (.inl x1), some (.inl x2), some (.inl (x3 + r4.1)), some (.inl x4)], [], am_mk r4.2)) rfl ?_
            cases h
            exact am_Go.fg (by exact ⟨rfl, ⟨rfl, ⟨rfl, ⟨rfl, ⟨rfl, trivial⟩⟩⟩⟩⟩) key
set_option maxRecDepth 100000 in
theorem ex_X1_sufferedBy (d : Nat) (hd : 5 ≤ d) (a1 : Int32) (a2 : Int32) (m : am_m) (t : Int32 × am_m) (h : fn_X1_sufferedBy a1 a2 m = some t) : am_Ex am_cod d 11 [.inr (.inr (some (1, 0))), .inl a1, .inl a2] (am_mk m) (some (.inl t.1)) (am_mk t.2) 0 0 := by
  obtain ⟨d, rfl⟩ : ∃ e, d = e + 1 := ⟨d - 1, by omega⟩
  have htb : am_tab 11 = at_11 := rfl
  refine ⟨Nat.le_of_ble_eq_true rfl, ?_⟩
  unfold fn_X1_sufferedBy at h
  show am_Go d 11 (0, [some (.inr (.inr (some (1, 0)))), some (.inl a1), some (.inl a2), none, none], [], am_mk m) _ _ 0 0
  refine am_Go.n htb 4 (S' := (5, [some (.inr (.inr (some (1, 0)))), some (.inl a1), some (.inl a2), some (.inl 0), some (.inl 0)], [], am_mk m)) rfl ?_
  obtain ⟨q8, h9, h⟩ := am_bd h
  refine lt_X1_sufferedBy_5 _ hd (h := h9) (hk := ?_)
  refine am_Go.n htb 1 (S' := (45, [some (.inr (.inr (some (1, 0)))), some (.inl a1), some (.inl a2), some (.inl q8.1), none], [.inl q8.1], am_mk q8.2)) rfl ?_
  cases h
  exact am_Go.rt htb rfl
-- X1_hungerOf
set_option maxRecDepth 100000 in
theorem ex_X1_hungerOf (d : Nat) (hd : 4 ≤ d) (a1 : Int32) (a2 : Int32) (a3 : Int32) (m : am_m) (t : Int32 × am_m) (h : fn_X1_hungerOf a1 a2 a3 m = some t) : am_Ex am_cod d 12 [.inr (.inr (some (1, 0))), .inl a1, .inl a2, .inl a3] (am_mk m) (some (.inl t.1)) (am_mk t.2) 0 0 := by
  obtain ⟨d, rfl⟩ : ∃ e, d = e + 1 := ⟨d - 1, by omega⟩
  have htb : am_tab 12 = at_12 := rfl
  refine ⟨Nat.le_of_ble_eq_true rfl, ?_⟩
  unfold fn_X1_hungerOf at h
  show am_Go d 12 (0, [some (.inr (.inr (some (1, 0)))), some (.inl a1), some (.inl a2), some (.inl a3)], [], am_mk m) _ _ 0 0
  refine am_Go.n htb 5 (S' := (5, [some (.inr (.inr (some (1, 0)))), some (.inl a1), some (.inl a2), some (.inl a3)], [.inl a3, .inl (-1), .inl a2, .inl a1, .inr (.inr (some (1, 0)))], am_mk m)) rfl ?_
  obtain ⟨r1, h2, h⟩ := am_bd h
  refine am_Go.cl htb rfl (ex_X1_knowOne d (by omega) a1 a2 (-1) a3 m r1 h2) ?_
  show am_Go d 12 (8, [some (.inr (.inr (some (1, 0)))), some (.inl a1), some (.inl a2), some (.inl a3)], [], am_mk r1) _ _ _ _
  refine am_Go.n htb 3 (S' := (13, [some (.inr (.inr (some (1, 0)))), some (.inl a1), some (.inl a2), some (.inl a3)], [.inl 1, .inl 268, .inr (.inr (some (1, 0)))], am_mk r1)) rfl ?_
  obtain ⟨r3, h4, h⟩ := am_bd h
  refine am_Go.cl htb rfl (ex_X1_tellsLaw d (by omega) 268 1 r1 r3 h4) ?_
  show am_Go d 12 (16, [some (.inr (.inr (some (1, 0)))), some (.inl a1), some (.inl a2), some (.inl a3)], [.inl r3.1], am_mk r3.2) _ _ _ _
  cases h
  exact am_Go.rt htb rfl
-- X1_feedTable
set_option maxRecDepth 100000 in
theorem lt_X1_feedTable_7 (d : Nat) (hd : 4 ≤ d + 1) {r : Option am_V} {M' : am_M} {kc ks : Nat} {n : Nat} {x1 : Int32} {x2 : Int32} {x3 : Int32} {m : am_m} {t : am_m} (h : lp_X1_feedTable_7 n x1 x2 x3 m = some t) (hk : am_Go d 13 (89, [some (.inr (.inr (some (1, 0)))), some (.inl x1), some (.inl x2), none], [], am_mk t) r M' kc ks) : am_Go d 13 (7, [some (.inr (.inr (some (1, 0)))), some (.inl x1), some (.inl x2), some (.inl x3)], [], am_mk m) r M' kc ks := by
  have htb : am_tab 13 = at_13 := rfl
  induction n generalizing x3 m with
  | zero => cases h
  | succ n ih =>
    unfold lp_X1_feedTable_7 at h
    refine am_Go.n htb 2 (S' := (9, [some (.inr (.inr (some (1, 0)))), some (.inl x1), some (.inl x2), some (.inl x3)], [.inr (.inr (some (1, 0))), .inl x3], am_mk m)) rfl ?_
    obtain ⟨u3, hu4, h⟩ := am_bd h
    refine am_Go.o htb (am_o_gf 1 0 11) rfl (S' := (12, [some (.inr (.inr (some (1, 0)))), some (.inl x1), some (.inl x2), some (.inl x3)], [.inr (.inr (some (8, u3))), .inl x3], am_mk m)) (am_gfd hu4) ?_
    refine am_Go.n htb 1 (S' := (15, [some (.inr (.inr (some (1, 0)))), some (.inl x1), some (.inl x2), some (.inl x3)], [.inl (m.1 8 u3 0), .inl x3], am_mk m)) rfl ?_
    by_cases hc5 : (m.1 8 u3 0) ≤ x3
    · rw [if_pos hc5] at h
      refine am_Go.c1 htb (S' := (89, [some (.inr (.inr (some (1, 0)))), some (.inl x1), some (.inl x2), some (.inl x3)], [], am_mk m)) (if_pos hc5) ?_
      cases h
      exact am_Go.fg (by exact ⟨rfl, ⟨rfl, ⟨rfl, trivial⟩⟩⟩) hk
    · rw [if_neg hc5] at h
      refine am_Go.c1 htb (S' := (18, [some (.inr (.inr (some (1, 0)))), some (.inl x1), some (.inl x2), some (.inl x3)], [], am_mk m)) (if_neg hc5) ?_
      refine am_Go.n htb 6 (S' := (24, [some (.inr (.inr (some (1, 0)))), some (.inl x1), some (.inl x2), some (.inl x3)], [.inl 1, .inl ((x1 >>> (x3 &&& 31)) &&& (1 : Int32))], am_mk m)) rfl ?_
      obtain ⟨q24, h25, h⟩ := am_bd h
      refine am_Go.cut (S := (83, [some (.inr (.inr (some (1, 0)))), some (.inl x1), some (.inl x2), some (.inl x3)], [], am_mk q24)) ?_ (fun key => ?_)
      · refine am_Go.n htb 2 (S' := (7, [some (.inr (.inr (some (1, 0)))), some (.inl x1), some (.inl x2), some (.inl (x3 + 1))], [], am_mk q24)) rfl ?_
        first | exact ih h | exact ih h hk
      · have h := h25
        by_cases hc6 : ((x1 >>> (x3 &&& 31)) &&& (1 : Int32)) ≠ (1 : Int32)
        · rw [if_pos hc6] at h
          refine am_Go.c1 htb (S' := (83, [some (.inr (.inr (some (1, 0)))), some (.inl x1), some (.inl x2), some (.inl x3)], [], am_mk m)) (if_pos hc6) ?_
          cases h
          exact am_Go.fg (by exact ⟨rfl, ⟨rfl, ⟨rfl, ⟨rfl, trivial⟩⟩⟩⟩) key
        · rw [if_neg hc6] at h
          refine am_Go.c1 htb (S' := (27, [some (.inr (.inr (some (1, 0)))), some (.inl x1), some (.inl x2), some (.inl x3)], [], am_mk m)) (if_neg hc6) ?_
          refine am_Go.n htb 3 (S' := (30, [some (.inr (.inr (some (1, 0)))), some (.inl x1), some (.inl x2), some (.inl x3)], [.inr (.inr (some (1, 0))), .inl x3, .inr (.inr (some (1, 0)))], am_mk m)) rfl ?_
          obtain ⟨u7, hu8, h⟩ := am_bd h
          refine am_Go.o htb (am_o_gf 1 0 11) rfl (S' := (33, [some (.inr (.inr (some (1, 0)))), some (.inl x1), some (.inl x2), some (.inl x3)], [.inr (.inr (some (8, u7))), .inl x3, .inr (.inr (some (1, 0)))], am_mk m)) (am_gfd hu8) ?_
          refine am_Go.n htb 2 (S' := (37, [some (.inr (.inr (some (1, 0)))), some (.inl x1), some (.inl x2), some (.inl x3)], [.inl x3, .inr (.inr (some (36, u7))), .inl x3, .inr (.inr (some (1, 0)))], am_mk m)) rfl ?_
          obtain ⟨hg9, h⟩ := am_ck_some h
          refine am_Go.c1 htb (S' := (38, [some (.inr (.inr (some (1, 0)))), some (.inl x1), some (.inl x2), some (.inl x3)], [.inl (m.1 36 u7 x3.toNatClampNeg), .inl x3, .inr (.inr (some (1, 0)))], am_mk m)) (if_neg hg9) ?_
          refine am_Go.n htb 2 (S' := (40, [some (.inr (.inr (some (1, 0)))), some (.inl x1), some (.inl x2), some (.inl x3)], [.inr (.inr (some (1, 0))), .inl x2, .inl (m.1 36 u7 x3.toNatClampNeg), .inl x3, .inr (.inr (some (1, 0)))], am_mk m)) rfl ?_
          obtain ⟨u10, hu11, h⟩ := am_bd h
          refine am_Go.o htb (am_o_gf 1 0 11) rfl (S' := (43, [some (.inr (.inr (some (1, 0)))), some (.inl x1), some (.inl x2), some (.inl x3)], [.inr (.inr (some (8, u10))), .inl x2, .inl (m.1 36 u7 x3.toNatClampNeg), .inl x3, .inr (.inr (some (1, 0)))], am_mk m)) (am_gfd hu11) ?_
          refine am_Go.n htb 3 (S' := (48, [some (.inr (.inr (some (1, 0)))), some (.inl x1), some (.inl x2), some (.inl x3)], [.inl (m.1 39 u10 0), .inl x2, .inl (m.1 36 u7 x3.toNatClampNeg), .inl x3, .inr (.inr (some (1, 0)))], am_mk m)) rfl ?_
          obtain ⟨r12, h13, h⟩ := am_bd h
          refine am_Go.cl htb rfl (ex_X1_knowOne d (by omega) x3 (m.1 36 u7 x3.toNatClampNeg) x2 (m.1 39 u10 0) m r12 h13) ?_
          show am_Go d 13 (51, [some (.inr (.inr (some (1, 0)))), some (.inl x1), some (.inl x2), some (.inl x3)], [], am_mk r12) _ _ _ _
          refine am_Go.n htb 1 (S' := (52, [some (.inr (.inr (some (1, 0)))), some (.inl x1), some (.inl x2), some (.inl x3)], [.inr (.inr (some (1, 0)))], am_mk r12)) rfl ?_
          obtain ⟨u14, hu15, h⟩ := am_bd h
          refine am_Go.o htb (am_o_gf 1 0 11) rfl (S' := (55, [some (.inr (.inr (some (1, 0)))), some (.inl x1), some (.inl x2), some (.inl x3)], [.inr (.inr (some (8, u14)))], am_mk r12)) (am_gfd hu15) ?_
          refine am_Go.n htb 4 (S' := (62, [some (.inr (.inr (some (1, 0)))), some (.inl x1), some (.inl x2), some (.inl x3)], [.inr (.inr (some (1, 0))), .inl 9, .inl x3, .inr (.inr (some (36, u14)))], am_mk r12)) rfl ?_
          obtain ⟨u16, hu17, h⟩ := am_bd h
          refine am_Go.o htb (am_o_gf 1 0 11) rfl (S' := (65, [some (.inr (.inr (some (1, 0)))), some (.inl x1), some (.inl x2), some (.inl x3)], [.inr (.inr (some (8, u16))), .inl 9, .inl x3, .inr (.inr (some (36, u14)))], am_mk r12)) (am_gfd hu17) ?_
          refine am_Go.n htb 2 (S' := (69, [some (.inr (.inr (some (1, 0)))), some (.inl x1), some (.inl x2), some (.inl x3)], [.inl x3, .inr (.inr (some (36, u16))), .inl 9, .inl x3, .inr (.inr (some (36, u14)))], am_mk r12)) rfl ?_
          obtain ⟨hg18, h⟩ := am_ck_some h
          refine am_Go.c1 htb (S' := (70, [some (.inr (.inr (some (1, 0)))), some (.inl x1), some (.inl x2), some (.inl x3)], [.inl (r12.1 36 u16 x3.toNatClampNeg), .inl 9, .inl x3, .inr (.inr (some (36, u14)))], am_mk r12)) (if_neg hg18) ?_
          refine am_Go.n htb 3 (S' := (75, [some (.inr (.inr (some (1, 0)))), some (.inl x1), some (.inl x2), some (.inl x3)], [.inl 2, .inl 267, .inr (.inr (some (1, 0))), .inl (r12.1 36 u16 x3.toNatClampNeg), .inl 9, .inl x3, .inr (.inr (some (36, u14)))], am_mk r12)) rfl ?_
          obtain ⟨r19, h20, h⟩ := am_bd h
          refine am_Go.cl htb rfl (ex_X1_tellsLaw d (by omega) 267 2 r12 r19 h20) ?_
          show am_Go d 13 (78, [some (.inr (.inr (some (1, 0)))), some (.inl x1), some (.inl x2), some (.inl x3)], [.inl r19.1, .inl (r12.1 36 u16 x3.toNatClampNeg), .inl 9, .inl x3, .inr (.inr (some (36, u14)))], am_mk r19.2) _ _ _ _
          refine am_Go.n htb 1 (S' := (79, [some (.inr (.inr (some (1, 0)))), some (.inl x1), some (.inl x2), some (.inl x3)], [.inl ((r12.1 36 u16 x3.toNatClampNeg) + r19.1), .inl 9, .inl x3, .inr (.inr (some (36, u14)))], am_mk r19.2)) rfl ?_
          obtain ⟨r21, h22, h⟩ := am_bd h
          refine am_Go.cl htb rfl (ex_J9_min_7cf53 d (by omega) 9 ((r12.1 36 u16 x3.toNatClampNeg) + r19.1) r19.2 r21 h22) ?_
          show am_Go d 13 (82, [some (.inr (.inr (some (1, 0)))), some (.inl x1), some (.inl x2), some (.inl x3)], [.inl r21, .inl x3, .inr (.inr (some (36, u14)))], am_mk r19.2) _ _ _ _
          obtain ⟨hg23, h⟩ := am_ck_some h
          refine am_Go.c1 htb (S' := (83, [some (.inr (.inr (some (1, 0)))), some (.inl x1), some (.inl x2), some (.inl x3)], [], am_mk (am_si r19.2 36 u14 x3.toNatClampNeg r21))) (if_neg hg23) ?_
          cases h
          exact am_Go.fg (by exact ⟨rfl, ⟨rfl, ⟨rfl, ⟨rfl, trivial⟩⟩⟩⟩) key
set_option maxRecDepth 100000 in
theorem ex_X1_feedTable (d : Nat) (hd : 4 ≤ d) (a1 : Int32) (m : am_m) (t : am_m) (h : fn_X1_feedTable a1 m = some t) : am_Ex am_cod d 13 [.inr (.inr (some (1, 0))), .inl a1] (am_mk m) (none) (am_mk t) 0 0 := by
  obtain ⟨d, rfl⟩ : ∃ e, d = e + 1 := ⟨d - 1, by omega⟩
  have htb : am_tab 13 = at_13 := rfl
  refine ⟨Nat.le_of_ble_eq_true rfl, ?_⟩
  unfold fn_X1_feedTable at h
  show am_Go d 13 (0, [some (.inr (.inr (some (1, 0)))), some (.inl a1), none, none], [], am_mk m) _ _ 0 0
  refine am_Go.n htb 1 (S' := (1, [some (.inr (.inr (some (1, 0)))), some (.inl a1), none, none], [.inl a1], am_mk m)) rfl ?_
  obtain ⟨r1, h2, h⟩ := am_bd h
  refine am_Go.cl htb rfl (ex_J6_bitCount_0f7a4 d (by omega) a1 m r1 h2) ?_
  show am_Go d 13 (4, [some (.inr (.inr (some (1, 0)))), some (.inl a1), none, none], [.inl r1], am_mk m) _ _ _ _
  refine am_Go.n htb 3 (S' := (7, [some (.inr (.inr (some (1, 0)))), some (.inl a1), some (.inl r1), some (.inl 0)], [], am_mk m)) rfl ?_
  obtain ⟨q26, h27, h⟩ := am_bd h
  refine lt_X1_feedTable_7 _ hd (h := h27) (hk := ?_)
  cases h
  exact am_Go.rt htb rfl
-- X1_passDay
set_option maxRecDepth 100000 in
theorem lt_X1_passDay_2 (d : Nat) (hd : 5 ≤ d + 1) {r : Option am_V} {M' : am_M} {kc ks : Nat} {n : Nat} {x1 : Int32} {m : am_m} {t : am_m} (h : lp_X1_passDay_2 n x1 m = some t) (hk : am_Go d 14 (65, [some (.inr (.inr (some (1, 0)))), none], [], am_mk t) r M' kc ks) : am_Go d 14 (2, [some (.inr (.inr (some (1, 0)))), some (.inl x1)], [], am_mk m) r M' kc ks := by
  have htb : am_tab 14 = at_14 := rfl
  induction n generalizing x1 m with
  | zero => cases h
  | succ n ih =>
    unfold lp_X1_passDay_2 at h
    refine am_Go.n htb 2 (S' := (4, [some (.inr (.inr (some (1, 0)))), some (.inl x1)], [.inr (.inr (some (1, 0))), .inl x1], am_mk m)) rfl ?_
    obtain ⟨u1, hu2, h⟩ := am_bd h
    refine am_Go.o htb (am_o_gf 1 0 11) rfl (S' := (7, [some (.inr (.inr (some (1, 0)))), some (.inl x1)], [.inr (.inr (some (8, u1))), .inl x1], am_mk m)) (am_gfd hu2) ?_
    refine am_Go.n htb 1 (S' := (10, [some (.inr (.inr (some (1, 0)))), some (.inl x1)], [.inl (m.1 8 u1 0), .inl x1], am_mk m)) rfl ?_
    by_cases hc3 : (m.1 8 u1 0) ≤ x1
    · rw [if_pos hc3] at h
      refine am_Go.c1 htb (S' := (65, [some (.inr (.inr (some (1, 0)))), some (.inl x1)], [], am_mk m)) (if_pos hc3) ?_
      cases h
      exact am_Go.fg (by exact ⟨rfl, trivial⟩) hk
    · rw [if_neg hc3] at h
      refine am_Go.c1 htb (S' := (13, [some (.inr (.inr (some (1, 0)))), some (.inl x1)], [], am_mk m)) (if_neg hc3) ?_
      refine am_Go.n htb 1 (S' := (14, [some (.inr (.inr (some (1, 0)))), some (.inl x1)], [.inr (.inr (some (1, 0)))], am_mk m)) rfl ?_
      obtain ⟨u4, hu5, h⟩ := am_bd h
      refine am_Go.o htb (am_o_gf 1 0 11) rfl (S' := (17, [some (.inr (.inr (some (1, 0)))), some (.inl x1)], [.inr (.inr (some (8, u4)))], am_mk m)) (am_gfd hu5) ?_
      refine am_Go.n htb 4 (S' := (23, [some (.inr (.inr (some (1, 0)))), some (.inl x1)], [.inr (.inr (some (1, 0))), .inl 0, .inl x1, .inr (.inr (some (36, u4)))], am_mk m)) rfl ?_
      obtain ⟨u6, hu7, h⟩ := am_bd h
      refine am_Go.o htb (am_o_gf 1 0 11) rfl (S' := (26, [some (.inr (.inr (some (1, 0)))), some (.inl x1)], [.inr (.inr (some (8, u6))), .inl 0, .inl x1, .inr (.inr (some (36, u4)))], am_mk m)) (am_gfd hu7) ?_
      refine am_Go.n htb 2 (S' := (30, [some (.inr (.inr (some (1, 0)))), some (.inl x1)], [.inl x1, .inr (.inr (some (36, u6))), .inl 0, .inl x1, .inr (.inr (some (36, u4)))], am_mk m)) rfl ?_
      obtain ⟨hg8, h⟩ := am_ck_some h
      refine am_Go.c1 htb (S' := (31, [some (.inr (.inr (some (1, 0)))), some (.inl x1)], [.inl (m.1 36 u6 x1.toNatClampNeg), .inl 0, .inl x1, .inr (.inr (some (36, u4)))], am_mk m)) (if_neg hg8) ?_
      refine am_Go.n htb 3 (S' := (34, [some (.inr (.inr (some (1, 0)))), some (.inl x1)], [.inr (.inr (some (1, 0))), .inl x1, .inr (.inr (some (1, 0))), .inl (m.1 36 u6 x1.toNatClampNeg), .inl 0, .inl x1, .inr (.inr (some (36, u4)))], am_mk m)) rfl ?_
      obtain ⟨u9, hu10, h⟩ := am_bd h
      refine am_Go.o htb (am_o_gf 1 0 11) rfl (S' := (37, [some (.inr (.inr (some (1, 0)))), some (.inl x1)], [.inr (.inr (some (8, u9))), .inl x1, .inr (.inr (some (1, 0))), .inl (m.1 36 u6 x1.toNatClampNeg), .inl 0, .inl x1, .inr (.inr (some (36, u4)))], am_mk m)) (am_gfd hu10) ?_
      refine am_Go.n htb 2 (S' := (41, [some (.inr (.inr (some (1, 0)))), some (.inl x1)], [.inl x1, .inr (.inr (some (36, u9))), .inl x1, .inr (.inr (some (1, 0))), .inl (m.1 36 u6 x1.toNatClampNeg), .inl 0, .inl x1, .inr (.inr (some (36, u4)))], am_mk m)) rfl ?_
      obtain ⟨hg11, h⟩ := am_ck_some h
      refine am_Go.c1 htb (S' := (42, [some (.inr (.inr (some (1, 0)))), some (.inl x1)], [.inl (m.1 36 u9 x1.toNatClampNeg), .inl x1, .inr (.inr (some (1, 0))), .inl (m.1 36 u6 x1.toNatClampNeg), .inl 0, .inl x1, .inr (.inr (some (36, u4)))], am_mk m)) (if_neg hg11) ?_
      refine am_Go.n htb 1 (S' := (43, [some (.inr (.inr (some (1, 0)))), some (.inl x1)], [.inr (.inr (some (1, 0))), .inl (m.1 36 u9 x1.toNatClampNeg), .inl x1, .inr (.inr (some (1, 0))), .inl (m.1 36 u6 x1.toNatClampNeg), .inl 0, .inl x1, .inr (.inr (some (36, u4)))], am_mk m)) rfl ?_
      obtain ⟨u12, hu13, h⟩ := am_bd h
      refine am_Go.o htb (am_o_gf 1 0 11) rfl (S' := (46, [some (.inr (.inr (some (1, 0)))), some (.inl x1)], [.inr (.inr (some (8, u12))), .inl (m.1 36 u9 x1.toNatClampNeg), .inl x1, .inr (.inr (some (1, 0))), .inl (m.1 36 u6 x1.toNatClampNeg), .inl 0, .inl x1, .inr (.inr (some (36, u4)))], am_mk m)) (am_gfd hu13) ?_
      refine am_Go.n htb 3 (S' := (51, [some (.inr (.inr (some (1, 0)))), some (.inl x1)], [.inl (m.1 39 u12 0), .inl (m.1 36 u9 x1.toNatClampNeg), .inl x1, .inr (.inr (some (1, 0))), .inl (m.1 36 u6 x1.toNatClampNeg), .inl 0, .inl x1, .inr (.inr (some (36, u4)))], am_mk m)) rfl ?_
      obtain ⟨r14, h15, h⟩ := am_bd h
      refine am_Go.cl htb rfl (ex_X1_hungerOf d (by omega) x1 (m.1 36 u9 x1.toNatClampNeg) (m.1 39 u12 0) m r14 h15) ?_
      show am_Go d 14 (54, [some (.inr (.inr (some (1, 0)))), some (.inl x1)], [.inl r14.1, .inl (m.1 36 u6 x1.toNatClampNeg), .inl 0, .inl x1, .inr (.inr (some (36, u4)))], am_mk r14.2) _ _ _ _
      refine am_Go.n htb 1 (S' := (55, [some (.inr (.inr (some (1, 0)))), some (.inl x1)], [.inl ((m.1 36 u6 x1.toNatClampNeg) - r14.1), .inl 0, .inl x1, .inr (.inr (some (36, u4)))], am_mk r14.2)) rfl ?_
      obtain ⟨r16, h17, h⟩ := am_bd h
      refine am_Go.cl htb rfl (ex_J9_max_7cf53 d (by omega) 0 ((m.1 36 u6 x1.toNatClampNeg) - r14.1) r14.2 r16 h17) ?_
      show am_Go d 14 (58, [some (.inr (.inr (some (1, 0)))), some (.inl x1)], [.inl r16, .inl x1, .inr (.inr (some (36, u4)))], am_mk r14.2) _ _ _ _
      obtain ⟨hg18, h⟩ := am_ck_some h
      refine am_Go.c1 htb (S' := (59, [some (.inr (.inr (some (1, 0)))), some (.inl x1)], [], am_mk (am_si r14.2 36 u4 x1.toNatClampNeg r16))) (if_neg hg18) ?_
      refine am_Go.n htb 2 (S' := (2, [some (.inr (.inr (some (1, 0)))), some (.inl (x1 + 1))], [], am_mk (am_si r14.2 36 u4 x1.toNatClampNeg r16))) rfl ?_
      first | exact ih h | exact ih h hk
set_option maxRecDepth 100000 in
theorem ex_X1_passDay (d : Nat) (hd : 5 ≤ d)  (m : am_m) (t : am_m) (h : fn_X1_passDay  m = some t) : am_Ex am_cod d 14 [.inr (.inr (some (1, 0)))] (am_mk m) (none) (am_mk t) 0 0 := by
  obtain ⟨d, rfl⟩ : ∃ e, d = e + 1 := ⟨d - 1, by omega⟩
  have htb : am_tab 14 = at_14 := rfl
  refine ⟨Nat.le_of_ble_eq_true rfl, ?_⟩
  unfold fn_X1_passDay at h
  show am_Go d 14 (0, [some (.inr (.inr (some (1, 0)))), none], [], am_mk m) _ _ 0 0
  refine am_Go.n htb 2 (S' := (2, [some (.inr (.inr (some (1, 0)))), some (.inl 0)], [], am_mk m)) rfl ?_
  obtain ⟨q19, h20, h⟩ := am_bd h
  refine lt_X1_passDay_2 _ hd (h := h20) (hk := ?_)
  refine am_Go.n htb 1 (S' := (66, [some (.inr (.inr (some (1, 0)))), none], [.inr (.inr (some (1, 0)))], am_mk q19)) rfl ?_
  obtain ⟨u21, hu22, h⟩ := am_bd h
  refine am_Go.o htb (am_o_gf 1 0 11) rfl (S' := (69, [some (.inr (.inr (some (1, 0)))), none], [.inr (.inr (some (8, u21)))], am_mk q19)) (am_gfd hu22) ?_
  refine am_Go.n htb 7 (S' := (78, [some (.inr (.inr (some (1, 0)))), none], [], am_mk (am_si q19 39 u21 0 ((q19.1 39 u21 0) + (1 : Int32))))) rfl ?_
  cases h
  exact am_Go.rt htb rfl
