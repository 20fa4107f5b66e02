-- X5_clear
set_option maxRecDepth 100000 in
theorem ex_X5_clear (d : Nat) (hd : 1 ≤ d) (a0 : Nat) (m : am_m) (t : am_m) (h : fn_X5_clear a0 m = some t) : am_Ex am_cod d 59 [.inr (.inr (some (5, a0)))] (am_mk m) (none) (am_mk t) 0 0 := by
  obtain ⟨d, rfl⟩ : ∃ e, d = e + 1 := ⟨d - 1, by omega⟩
  have htb : am_tab 59 = at_59 := rfl
  refine ⟨Nat.le_of_ble_eq_true rfl, ?_⟩
  unfold fn_X5_clear at h
  show am_Go d 59 (0, [some (.inr (.inr (some (5, a0))))], [], am_mk m) _ _ 0 0
  refine am_Go.n htb 9 (S' := (15, [some (.inr (.inr (some (5, a0))))], [], am_mk (am_si (am_si (am_si m 5 a0 2 0) 5 a0 3 0) 5 a0 4 0))) rfl ?_
  cases h
  exact am_Go.rt htb rfl
-- X4_readWhole
set_option maxRecDepth 100000 in
theorem lt_X4_readWhole_39 (d : Nat) (hd : 46 ≤ d + 1) {r : Option am_V} {M' : am_M} {kc ks : Nat} {n : Nat} {x3 : Int32} {m : am_m} {t : Sum (am_m) (Int32 × am_m)} (h : lp_X4_readWhole_39 n x3 m = some t) (hk : ∀ t', t = .inl t' → am_Go d 35 (83, [some (.inr (.inr (some (4, 0)))), none, none, none], [], am_mk t') r M' kc ks) (hr : ∀ t', t = .inr t' → r = some (.inl t'.1) ∧ M' = am_mk t'.2 ∧ kc = 0 ∧ ks = 0) : am_Go d 35 (39, [some (.inr (.inr (some (4, 0)))), none, none, some (.inl x3)], [], am_mk m) r M' kc ks := by
  have htb : am_tab 35 = at_35 := rfl
  induction n generalizing x3 m with
  | zero => cases h
  | succ n ih =>
    unfold lp_X4_readWhole_39 at h
    refine am_Go.n htb 2 (S' := (42, [some (.inr (.inr (some (4, 0)))), none, none, some (.inl x3)], [.inl 12, .inl x3], am_mk m)) rfl ?_
    by_cases hc8 : (12 : Int32) ≤ x3
    · rw [if_pos hc8] at h
      refine am_Go.c1 htb (S' := (83, [some (.inr (.inr (some (4, 0)))), none, none, some (.inl x3)], [], am_mk m)) (if_pos hc8) ?_
      cases h
      exact am_Go.fg (by exact ⟨rfl, trivial⟩) (hk _ rfl)
    · rw [if_neg hc8] at h
      refine am_Go.c1 htb (S' := (45, [some (.inr (.inr (some (4, 0)))), none, none, some (.inl x3)], [], am_mk m)) (if_neg hc8) ?_
      refine am_Go.n htb 1 (S' := (46, [some (.inr (.inr (some (4, 0)))), none, none, some (.inl x3)], [.inr (.inr (some (4, 0)))], am_mk m)) rfl ?_
      obtain ⟨r9, h10, h⟩ := am_bd h
      refine am_Go.cl htb rfl (ex_X4_readClause d (by omega)  m r9 h10) ?_
      show am_Go d 35 (49, [some (.inr (.inr (some (4, 0)))), none, none, some (.inl x3)], [.inl r9.1], am_mk r9.2) _ _ _ _
      by_cases hc11 : r9.1 ≠ 0
      · rw [if_pos hc11] at h
        refine am_Go.c1 htb (S' := (54, [some (.inr (.inr (some (4, 0)))), none, none, some (.inl x3)], [], am_mk r9.2)) (if_pos hc11) ?_
        refine am_Go.n htb 3 (S' := (61, [some (.inr (.inr (some (4, 0)))), none, none, some (.inl x3)], [.inl 257, .inl (r9.2.1 4 0 6)], am_mk r9.2)) rfl ?_
        by_cases hc12 : (r9.2.1 4 0 6) ≠ (257 : Int32)
        · rw [if_pos hc12] at h
          refine am_Go.c1 htb (S' := (66, [some (.inr (.inr (some (4, 0)))), none, none, some (.inl x3)], [], am_mk r9.2)) (if_pos hc12) ?_
          refine am_Go.n htb 2 (S' := (69, [some (.inr (.inr (some (4, 0)))), none, none, some (.inl x3)], [.inl 59, .inr (.inr (some (4, 0)))], am_mk r9.2)) rfl ?_
          obtain ⟨r13, h14, h⟩ := am_bd h
          refine am_Go.cl htb rfl (ex_X4_took d (by omega) 59 r9.2 r13 h14) ?_
          show am_Go d 35 (72, [some (.inr (.inr (some (4, 0)))), none, none, some (.inl x3)], [.inl r13.1], am_mk r13.2) _ _ _ _
          by_cases hc15 : r13.1 ≠ 0
          · rw [if_pos hc15] at h
            refine am_Go.c1 htb (S' := (77, [some (.inr (.inr (some (4, 0)))), none, none, some (.inl x3)], [], am_mk r13.2)) (if_pos hc15) ?_
            refine am_Go.n htb 2 (S' := (39, [some (.inr (.inr (some (4, 0)))), none, none, some (.inl (x3 + 1))], [], am_mk r13.2)) rfl ?_
            first | exact ih h | exact ih h hk | exact ih h hr | exact ih h hk hr
          · rw [if_neg hc15] at h
            refine am_Go.c1 htb (S' := (75, [some (.inr (.inr (some (4, 0)))), none, none, some (.inl x3)], [], am_mk r13.2)) (if_neg hc15) ?_
            refine am_Go.n htb 1 (S' := (76, [some (.inr (.inr (some (4, 0)))), none, none, some (.inl x3)], [.inl 0], am_mk r13.2)) rfl ?_
            cases h
            obtain ⟨rfl, rfl, rfl, rfl⟩ := hr _ rfl
            exact am_Go.rt htb rfl
        · rw [if_neg hc12] at h
          refine am_Go.c1 htb (S' := (64, [some (.inr (.inr (some (4, 0)))), none, none, some (.inl x3)], [], am_mk r9.2)) (if_neg hc12) ?_
          refine am_Go.n htb 1 (S' := (65, [some (.inr (.inr (some (4, 0)))), none, none, some (.inl x3)], [.inl 1], am_mk r9.2)) rfl ?_
          cases h
          obtain ⟨rfl, rfl, rfl, rfl⟩ := hr _ rfl
          exact am_Go.rt htb rfl
      · rw [if_neg hc11] at h
        refine am_Go.c1 htb (S' := (52, [some (.inr (.inr (some (4, 0)))), none, none, some (.inl x3)], [], am_mk r9.2)) (if_neg hc11) ?_
        refine am_Go.n htb 1 (S' := (53, [some (.inr (.inr (some (4, 0)))), none, none, some (.inl x3)], [.inl 0], am_mk r9.2)) rfl ?_
        cases h
        obtain ⟨rfl, rfl, rfl, rfl⟩ := hr _ rfl
        exact am_Go.rt htb rfl
set_option maxRecDepth 100000 in
theorem ex_X4_readWhole (d : Nat) (hd : 46 ≤ d) (a2 : Int32) (m : am_m) (t : Int32 × am_m) (h : fn_X4_readWhole a2 m = some t) : am_Ex am_cod d 35 [.inr (.inr (some (4, 0))), .inr (.inr (some (7, 0))), .inl a2] (am_mk m) (some (.inl t.1)) (am_mk t.2) 0 0 := by
  obtain ⟨d, rfl⟩ : ∃ e, d = e + 1 := ⟨d - 1, by omega⟩
  have htb : am_tab 35 = at_35 := rfl
  refine ⟨Nat.le_of_ble_eq_true rfl, ?_⟩
  unfold fn_X4_readWhole at h
  show am_Go d 35 (0, [some (.inr (.inr (some (4, 0)))), some (.inr (.inr (some (7, 0)))), some (.inl a2), none], [], am_mk m) _ _ 0 0
  refine am_Go.n htb 2 (S' := (2, [some (.inr (.inr (some (4, 0)))), some (.inr (.inr (some (7, 0)))), some (.inl a2), none], [.inr (.inr (some (7, 0))), .inr (.inr (some (4, 0)))], am_mk m)) rfl ?_
  obtain ⟨r1, h2, h⟩ := am_bd h
  refine am_Go.cl htb rfl (ex_X4_split d (by omega)  m r1 h2) ?_
  show am_Go d 35 (5, [some (.inr (.inr (some (4, 0)))), some (.inr (.inr (some (7, 0)))), some (.inl a2), none], [], am_mk r1) _ _ _ _
  refine am_Go.n htb 5 (S' := (14, [some (.inr (.inr (some (4, 0)))), some (.inr (.inr (some (7, 0)))), some (.inl a2), none], [.inr (.inr (some (5, 0)))], am_mk (am_si r1 7 0 1 0))) rfl ?_
  obtain ⟨r3, h4, h⟩ := am_bd h
  refine am_Go.cl htb rfl (ex_X5_clear d (by omega) 0 (am_si r1 7 0 1 0) r3 h4) ?_
  show am_Go d 35 (17, [some (.inr (.inr (some (4, 0)))), some (.inr (.inr (some (7, 0)))), some (.inl a2), none], [], am_mk r3) _ _ _ _
  refine am_Go.n htb 5 (S' := (24, [some (.inr (.inr (some (4, 0)))), some (.inr (.inr (some (7, 0)))), some (.inl a2), none], [.inl a2, .inr (.inr (some (4, 0)))], am_mk (am_si r3 4 0 8 0))) rfl ?_
  obtain ⟨hz5, h⟩ := am_gd_some h
  refine am_Go.o htb (am_o_pf 4 9 2) rfl (S' := (27, [some (.inr (.inr (some (4, 0)))), some (.inr (.inr (some (7, 0)))), some (.inl a2), none], [], am_mk (am_si (am_si r3 4 0 8 0) 4 0 9 a2))) (am_pfz hz5) ?_
  refine am_Go.n htb 5 (S' := (34, [some (.inr (.inr (some (4, 0)))), some (.inr (.inr (some (7, 0)))), some (.inl a2), none], [.inl 0, .inr (.inr (some (4, 0)))], am_mk (am_si (am_si (am_si r3 4 0 8 0) 4 0 9 a2) 4 0 10 (-1)))) rfl ?_
  obtain ⟨r6, h7, h⟩ := am_bd h
  refine am_Go.cl htb rfl (ex_X4_goTo d (by omega) 0 (am_si (am_si (am_si r3 4 0 8 0) 4 0 9 a2) 4 0 10 (-1)) r6 h7) ?_
  show am_Go d 35 (37, [some (.inr (.inr (some (4, 0)))), some (.inr (.inr (some (7, 0)))), some (.inl a2), none], [], am_mk r6) _ _ _ _
  refine am_Go.n htb 2 (S' := (39, [some (.inr (.inr (some (4, 0)))), some (.inr (.inr (some (7, 0)))), some (.inl a2), some (.inl 0)], [], am_mk r6)) rfl ?_
  refine am_Go.fg (L0 := [some (.inr (.inr (some (4, 0)))), none, none, some (.inl 0)]) (by exact ⟨rfl, ⟨rfl, trivial⟩⟩) ?_
  obtain ⟨w22, h17, h⟩ := am_bd h
  refine lt_X4_readWhole_39 _ hd (h := h17) (hk := ?_) (hr := ?_)
  · intro q16 he
    subst he
    dsimp only at h
    refine am_Go.n htb 1 (S' := (84, [some (.inr (.inr (some (4, 0)))), none, none, none], [.inr (.inr (some (4, 0)))], am_mk q16)) rfl ?_
    obtain ⟨r18, h19, h⟩ := am_bd h
    refine am_Go.cl htb rfl (ex_X4_failed d (by omega)  q16 r18 h19) ?_
    show am_Go d 35 (87, [some (.inr (.inr (some (4, 0)))), none, none, none], [.inl r18.1], am_mk r18.2) _ _ _ _
    obtain ⟨hz20, h⟩ := am_gd_some h
    cases h
    exact am_Go.rt htb (if_pos hz20)
  · intro rr21 he
    subst he
    cases h
    exact ⟨rfl, rfl, rfl, rfl⟩
-- X6_lookAt
set_option maxRecDepth 100000 in
theorem lt_X6_lookAt_15 (d : Nat) (hd : 5 ≤ d + 1) {r : Option am_V} {M' : am_M} {kc ks : Nat} {n : Nat} {x2 : Int32} {m : am_m} {t : am_m} (h : lp_X6_lookAt_15 n x2 m = some t) (hk : am_Go d 67 (36, [some (.inr (.inr (some (6, 0)))), some (.inr (.inr (some (1, 0)))), none, none], [], am_mk t) r M' kc ks) : am_Go d 67 (15, [some (.inr (.inr (some (6, 0)))), some (.inr (.inr (some (1, 0)))), some (.inl x2), none], [], am_mk m) r M' kc ks := by
  have htb : am_tab 67 = at_67 := rfl
  induction n generalizing x2 m with
  | zero => cases h
  | succ n ih =>
    unfold lp_X6_lookAt_15 at h
    refine am_Go.n htb 3 (S' := (20, [some (.inr (.inr (some (6, 0)))), some (.inr (.inr (some (1, 0)))), some (.inl x2), none], [.inl (m.1 6 0 0), .inl x2], am_mk m)) rfl ?_
    by_cases hc5 : (m.1 6 0 0) ≤ x2
    · rw [if_pos hc5] at h
      refine am_Go.c1 htb (S' := (36, [some (.inr (.inr (some (6, 0)))), some (.inr (.inr (some (1, 0)))), some (.inl x2), none], [], am_mk m)) (if_pos hc5) ?_
      cases h
      exact am_Go.fg (by exact ⟨rfl, ⟨rfl, trivial⟩⟩) hk
    · rw [if_neg hc5] at h
      refine am_Go.c1 htb (S' := (23, [some (.inr (.inr (some (6, 0)))), some (.inr (.inr (some (1, 0)))), some (.inl x2), none], [], am_mk m)) (if_neg hc5) ?_
      refine am_Go.n htb 4 (S' := (29, [some (.inr (.inr (some (6, 0)))), some (.inr (.inr (some (1, 0)))), some (.inl x2), none], [.inl 0, .inl x2, .inr (.inr (some (30, 0)))], am_mk m)) rfl ?_
      obtain ⟨hg6, h⟩ := am_ck_some h
      refine am_Go.c1 htb (S' := (30, [some (.inr (.inr (some (6, 0)))), some (.inr (.inr (some (1, 0)))), some (.inl x2), none], [], am_mk (am_si m 30 0 x2.toNatClampNeg 0))) (if_neg hg6) ?_
      refine am_Go.n htb 2 (S' := (15, [some (.inr (.inr (some (6, 0)))), some (.inr (.inr (some (1, 0)))), some (.inl (x2 + 1)), none], [], am_mk (am_si m 30 0 x2.toNatClampNeg 0))) rfl ?_
      first | exact ih h | exact ih h hk
set_option maxRecDepth 100000 in
theorem lt_X6_lookAt_50 (d : Nat) (hd : 5 ≤ d + 1) {r : Option am_V} {M' : am_M} {kc ks : Nat} {n : Nat} {x2 : Int32} {x3 : Int32} {m : am_m} {t : am_m} (h : lp_X6_lookAt_50 n x2 x3 m = some t) (hk : am_Go d 67 (97, [some (.inr (.inr (some (6, 0)))), some (.inr (.inr (some (1, 0)))), some (.inl x2), none], [], am_mk t) r M' kc ks) : am_Go d 67 (50, [some (.inr (.inr (some (6, 0)))), some (.inr (.inr (some (1, 0)))), some (.inl x2), some (.inl x3)], [], am_mk m) r M' kc ks := by
  have htb : am_tab 67 = at_67 := rfl
  induction n generalizing x3 m with
  | zero => cases h
  | succ n ih =>
    unfold lp_X6_lookAt_50 at h
    refine am_Go.n htb 3 (S' := (55, [some (.inr (.inr (some (6, 0)))), some (.inr (.inr (some (1, 0)))), some (.inl x2), some (.inl x3)], [.inl (m.1 6 0 0), .inl x3], am_mk m)) rfl ?_
    by_cases hc10 : (m.1 6 0 0) ≤ x3
    · rw [if_pos hc10] at h
      refine am_Go.c1 htb (S' := (97, [some (.inr (.inr (some (6, 0)))), some (.inr (.inr (some (1, 0)))), some (.inl x2), some (.inl x3)], [], am_mk m)) (if_pos hc10) ?_
      cases h
      exact am_Go.fg (by exact ⟨rfl, ⟨rfl, ⟨rfl, trivial⟩⟩⟩) hk
    · rw [if_neg hc10] at h
      refine am_Go.c1 htb (S' := (58, [some (.inr (.inr (some (6, 0)))), some (.inr (.inr (some (1, 0)))), some (.inl x2), some (.inl x3)], [], am_mk m)) (if_neg hc10) ?_
      refine am_Go.n htb 3 (S' := (61, [some (.inr (.inr (some (6, 0)))), some (.inr (.inr (some (1, 0)))), some (.inl x2), some (.inl x3)], [.inl x3, .inl x2, .inr (.inr (some (1, 0)))], am_mk m)) rfl ?_
      obtain ⟨r11, h12, h⟩ := am_bd h
      refine am_Go.cl htb rfl (ex_X1_maySit d (by omega) x2 x3 m r11 h12) ?_
      show am_Go d 67 (64, [some (.inr (.inr (some (6, 0)))), some (.inr (.inr (some (1, 0)))), some (.inl x2), some (.inl x3)], [.inl r11.1], am_mk r11.2) _ _ _ _
      obtain ⟨q18, h19, h⟩ := am_bd h
      refine am_Go.cut (S := (91, [some (.inr (.inr (some (6, 0)))), some (.inr (.inr (some (1, 0)))), some (.inl x2), some (.inl x3)], [], am_mk q18)) ?_ (fun key => ?_)
      · refine am_Go.n htb 2 (S' := (50, [some (.inr (.inr (some (6, 0)))), some (.inr (.inr (some (1, 0)))), some (.inl x2), some (.inl (x3 + 1))], [], am_mk q18)) rfl ?_
        first | exact ih h | exact ih h hk
      · have h := h19
        by_cases hc13 : r11.1 = 0
        · rw [if_pos hc13] at h
          refine am_Go.c1 htb (S' := (91, [some (.inr (.inr (some (6, 0)))), some (.inr (.inr (some (1, 0)))), some (.inl x2), some (.inl x3)], [], am_mk r11.2)) (if_pos hc13) ?_
          cases h
          exact am_Go.fg (by exact ⟨rfl, ⟨rfl, ⟨rfl, ⟨rfl, trivial⟩⟩⟩⟩) key
        · rw [if_neg hc13] at h
          refine am_Go.c1 htb (S' := (67, [some (.inr (.inr (some (6, 0)))), some (.inr (.inr (some (1, 0)))), some (.inl x2), some (.inl x3)], [], am_mk r11.2)) (if_neg hc13) ?_
          refine am_Go.n htb 4 (S' := (73, [some (.inr (.inr (some (6, 0)))), some (.inr (.inr (some (1, 0)))), some (.inl x2), some (.inl x3)], [.inl x2, .inr (.inr (some (30, 0))), .inl x2, .inr (.inr (some (30, 0)))], am_mk r11.2)) rfl ?_
          obtain ⟨hg14, h⟩ := am_ck_some h
          refine am_Go.c1 htb (S' := (74, [some (.inr (.inr (some (6, 0)))), some (.inr (.inr (some (1, 0)))), some (.inl x2), some (.inl x3)], [.inl (r11.2.1 30 0 x2.toNatClampNeg), .inl x2, .inr (.inr (some (30, 0)))], am_mk r11.2)) (if_neg hg14) ?_
          refine am_Go.n htb 4 (S' := (78, [some (.inr (.inr (some (6, 0)))), some (.inr (.inr (some (1, 0)))), some (.inl x2), some (.inl x3)], [.inl ((r11.2.1 30 0 x2.toNatClampNeg) ||| ((1 : Int32) <<< (x3 &&& 31))), .inl x2, .inr (.inr (some (30, 0)))], am_mk r11.2)) rfl ?_
          obtain ⟨hg15, h⟩ := am_ck_some h
          refine am_Go.c1 htb (S' := (79, [some (.inr (.inr (some (6, 0)))), some (.inr (.inr (some (1, 0)))), some (.inl x2), some (.inl x3)], [], am_mk (am_si r11.2 30 0 x2.toNatClampNeg ((r11.2.1 30 0 x2.toNatClampNeg) ||| ((1 : Int32) <<< (x3 &&& 31)))))) (if_neg hg15) ?_
          refine am_Go.n htb 4 (S' := (85, [some (.inr (.inr (some (6, 0)))), some (.inr (.inr (some (1, 0)))), some (.inl x2), some (.inl x3)], [.inl x3, .inr (.inr (some (30, 0))), .inl x3, .inr (.inr (some (30, 0)))], am_mk (am_si r11.2 30 0 x2.toNatClampNeg ((r11.2.1 30 0 x2.toNatClampNeg) ||| ((1 : Int32) <<< (x3 &&& 31)))))) rfl ?_
          obtain ⟨hg16, h⟩ := am_ck_some h
          refine am_Go.c1 htb (S' := (86, [some (.inr (.inr (some (6, 0)))), some (.inr (.inr (some (1, 0)))), some (.inl x2), some (.inl x3)], [.inl ((am_si r11.2 30 0 x2.toNatClampNeg ((r11.2.1 30 0 x2.toNatClampNeg) ||| ((1 : Int32) <<< (x3 &&& 31)))).1 30 0 x3.toNatClampNeg), .inl x3, .inr (.inr (some (30, 0)))], am_mk (am_si r11.2 30 0 x2.toNatClampNeg ((r11.2.1 30 0 x2.toNatClampNeg) ||| ((1 : Int32) <<< (x3 &&& 31)))))) (if_neg hg16) ?_
          refine am_Go.n htb 4 (S' := (90, [some (.inr (.inr (some (6, 0)))), some (.inr (.inr (some (1, 0)))), some (.inl x2), some (.inl x3)], [.inl (((am_si r11.2 30 0 x2.toNatClampNeg ((r11.2.1 30 0 x2.toNatClampNeg) ||| ((1 : Int32) <<< (x3 &&& 31)))).1 30 0 x3.toNatClampNeg) ||| ((1 : Int32) <<< (x2 &&& 31))), .inl x3, .inr (.inr (some (30, 0)))], am_mk (am_si r11.2 30 0 x2.toNatClampNeg ((r11.2.1 30 0 x2.toNatClampNeg) ||| ((1 : Int32) <<< (x3 &&& 31)))))) rfl ?_
          obtain ⟨hg17, h⟩ := am_ck_some h
          refine am_Go.c1 htb (S' := (91, [some (.inr (.inr (some (6, 0)))), some (.inr (.inr (some (1, 0)))), some (.inl x2), some (.inl x3)], [], am_mk (am_si (am_si r11.2 30 0 x2.toNatClampNeg ((r11.2.1 30 0 x2.toNatClampNeg) ||| ((1 : Int32) <<< (x3 &&& 31)))) 30 0 x3.toNatClampNeg (((am_si r11.2 30 0 x2.toNatClampNeg ((r11.2.1 30 0 x2.toNatClampNeg) ||| ((1 : Int32) <<< (x3 &&& 31)))).1 30 0 x3.toNatClampNeg) ||| ((1 : Int32) <<< (x2 &&& 31)))))) (if_neg hg17) ?_
          cases h
          exact am_Go.fg (by exact ⟨rfl, ⟨rfl, ⟨rfl, ⟨rfl, trivial⟩⟩⟩⟩) key
set_option maxRecDepth 100000 in
theorem lt_X6_lookAt_38 (d : Nat) (hd : 5 ≤ d + 1) {r : Option am_V} {M' : am_M} {kc ks : Nat} {n : Nat} {x2 : Int32} {m : am_m} {t : am_m} (h : lp_X6_lookAt_38 n x2 m = some t) (hk : am_Go d 67 (103, [some (.inr (.inr (some (6, 0)))), some (.inr (.inr (some (1, 0)))), none, none], [], am_mk t) r M' kc ks) : am_Go d 67 (38, [some (.inr (.inr (some (6, 0)))), some (.inr (.inr (some (1, 0)))), some (.inl x2), none], [], am_mk m) r M' kc ks := by
  have htb : am_tab 67 = at_67 := rfl
  induction n generalizing x2 m with
  | zero => cases h
  | succ n ih =>
    unfold lp_X6_lookAt_38 at h
    refine am_Go.n htb 3 (S' := (43, [some (.inr (.inr (some (6, 0)))), some (.inr (.inr (some (1, 0)))), some (.inl x2), none], [.inl (m.1 6 0 0), .inl x2], am_mk m)) rfl ?_
    by_cases hc9 : (m.1 6 0 0) ≤ x2
    · rw [if_pos hc9] at h
      refine am_Go.c1 htb (S' := (103, [some (.inr (.inr (some (6, 0)))), some (.inr (.inr (some (1, 0)))), some (.inl x2), none], [], am_mk m)) (if_pos hc9) ?_
      cases h
      exact am_Go.fg (by exact ⟨rfl, ⟨rfl, trivial⟩⟩) hk
    · rw [if_neg hc9] at h
      refine am_Go.c1 htb (S' := (46, [some (.inr (.inr (some (6, 0)))), some (.inr (.inr (some (1, 0)))), some (.inl x2), none], [], am_mk m)) (if_neg hc9) ?_
      refine am_Go.n htb 4 (S' := (50, [some (.inr (.inr (some (6, 0)))), some (.inr (.inr (some (1, 0)))), some (.inl x2), some (.inl (x2 + (1 : Int32)))], [], am_mk m)) rfl ?_
      obtain ⟨q20, h21, h⟩ := am_bd h
      refine lt_X6_lookAt_50 _ hd (h := h21) (hk := ?_)
      refine am_Go.n htb 2 (S' := (38, [some (.inr (.inr (some (6, 0)))), some (.inr (.inr (some (1, 0)))), some (.inl (x2 + 1)), none], [], am_mk q20)) rfl ?_
      first | exact ih h | exact ih h hk
set_option maxRecDepth 100000 in
theorem ex_X6_lookAt (d : Nat) (hd : 5 ≤ d)  (m : am_m) (t : am_m) (h : fn_X6_lookAt  m = some t) : am_Ex am_cod d 67 [.inr (.inr (some (6, 0))), .inr (.inr (some (1, 0)))] (am_mk m) (none) (am_mk t) 0 0 := by
  obtain ⟨d, rfl⟩ : ∃ e, d = e + 1 := ⟨d - 1, by omega⟩
  have htb : am_tab 67 = at_67 := rfl
  refine ⟨Nat.le_of_ble_eq_true rfl, ?_⟩
  unfold fn_X6_lookAt at h
  show am_Go d 67 (0, [some (.inr (.inr (some (6, 0)))), some (.inr (.inr (some (1, 0)))), none, none], [], am_mk m) _ _ 0 0
  refine am_Go.n htb 3 (S' := (4, [some (.inr (.inr (some (6, 0)))), some (.inr (.inr (some (1, 0)))), none, none], [.inr (.inr (some (1, 0))), .inl 7, .inr (.inr (some (6, 0)))], am_mk m)) rfl ?_
  obtain ⟨r1, h2, h⟩ := am_bd h
  refine am_Go.cl htb rfl (ex_X1_folks d (by omega)  m r1 h2) ?_
  show am_Go d 67 (7, [some (.inr (.inr (some (6, 0)))), some (.inr (.inr (some (1, 0)))), none, none], [.inl r1, .inl 7, .inr (.inr (some (6, 0)))], am_mk m) _ _ _ _
  obtain ⟨r3, h4, h⟩ := am_bd h
  refine am_Go.cl htb rfl (ex_J9_min_7cf53 d (by omega) 7 r1 m r3 h4) ?_
  show am_Go d 67 (10, [some (.inr (.inr (some (6, 0)))), some (.inr (.inr (some (1, 0)))), none, none], [.inl r3, .inr (.inr (some (6, 0)))], am_mk m) _ _ _ _
  refine am_Go.n htb 3 (S' := (15, [some (.inr (.inr (some (6, 0)))), some (.inr (.inr (some (1, 0)))), some (.inl 0), none], [], am_mk (am_si m 6 0 0 r3))) rfl ?_
  obtain ⟨q7, h8, h⟩ := am_bd h
  refine lt_X6_lookAt_15 _ hd (h := h8) (hk := ?_)
  refine am_Go.n htb 2 (S' := (38, [some (.inr (.inr (some (6, 0)))), some (.inr (.inr (some (1, 0)))), some (.inl 0), none], [], am_mk q7)) rfl ?_
  obtain ⟨q22, h23, h⟩ := am_bd h
  refine lt_X6_lookAt_38 _ hd (h := h23) (hk := ?_)
  cases h
  exact am_Go.rt htb rfl
-- X6_lookAtBars
set_option maxRecDepth 100000 in
theorem lt_X6_lookAtBars_2 (d : Nat) (hd : 5 ≤ d + 1) {r : Option am_V} {M' : am_M} {kc ks : Nat} {n : Nat} {x2 : Int32} {m : am_m} {t : am_m} (h : lp_X6_lookAtBars_2 n x2 m = some t) (hk : am_Go d 68 (23, [some (.inr (.inr (some (6, 0)))), some (.inr (.inr (some (1, 0)))), none, none], [], am_mk t) r M' kc ks) : am_Go d 68 (2, [some (.inr (.inr (some (6, 0)))), some (.inr (.inr (some (1, 0)))), some (.inl x2), none], [], am_mk m) r M' kc ks := by
  have htb : am_tab 68 = at_68 := rfl
  induction n generalizing x2 m with
  | zero => cases h
  | succ n ih =>
    unfold lp_X6_lookAtBars_2 at h
    refine am_Go.n htb 3 (S' := (7, [some (.inr (.inr (some (6, 0)))), some (.inr (.inr (some (1, 0)))), some (.inl x2), none], [.inl (m.1 6 0 0), .inl x2], am_mk m)) rfl ?_
    by_cases hc1 : (m.1 6 0 0) ≤ x2
    · rw [if_pos hc1] at h
      refine am_Go.c1 htb (S' := (23, [some (.inr (.inr (some (6, 0)))), some (.inr (.inr (some (1, 0)))), some (.inl x2), none], [], am_mk m)) (if_pos hc1) ?_
      cases h
      exact am_Go.fg (by exact ⟨rfl, ⟨rfl, trivial⟩⟩) hk
    · rw [if_neg hc1] at h
      refine am_Go.c1 htb (S' := (10, [some (.inr (.inr (some (6, 0)))), some (.inr (.inr (some (1, 0)))), some (.inl x2), none], [], am_mk m)) (if_neg hc1) ?_
      refine am_Go.n htb 4 (S' := (16, [some (.inr (.inr (some (6, 0)))), some (.inr (.inr (some (1, 0)))), some (.inl x2), none], [.inl 0, .inl x2, .inr (.inr (some (31, 0)))], am_mk m)) rfl ?_
      obtain ⟨hg2, h⟩ := am_ck_some h
      refine am_Go.c1 htb (S' := (17, [some (.inr (.inr (some (6, 0)))), some (.inr (.inr (some (1, 0)))), some (.inl x2), none], [], am_mk (am_si m 31 0 x2.toNatClampNeg 0))) (if_neg hg2) ?_
      refine am_Go.n htb 2 (S' := (2, [some (.inr (.inr (some (6, 0)))), some (.inr (.inr (some (1, 0)))), some (.inl (x2 + 1)), none], [], am_mk (am_si m 31 0 x2.toNatClampNeg 0))) rfl ?_
      first | exact ih h | exact ih h hk
set_option maxRecDepth 100000 in
theorem lt_X6_lookAtBars_37 (d : Nat) (hd : 5 ≤ d + 1) {r : Option am_V} {M' : am_M} {kc ks : Nat} {n : Nat} {x2 : Int32} {x3 : Int32} {m : am_m} {t : am_m} (h : lp_X6_lookAtBars_37 n x2 x3 m = some t) (hk : am_Go d 68 (93, [some (.inr (.inr (some (6, 0)))), some (.inr (.inr (some (1, 0)))), some (.inl x2), none], [], am_mk t) r M' kc ks) : am_Go d 68 (37, [some (.inr (.inr (some (6, 0)))), some (.inr (.inr (some (1, 0)))), some (.inl x2), some (.inl x3)], [], am_mk m) r M' kc ks := by
  have htb : am_tab 68 = at_68 := rfl
  induction n generalizing x3 m with
  | zero => cases h
  | succ n ih =>
    unfold lp_X6_lookAtBars_37 at h
    refine am_Go.n htb 3 (S' := (42, [some (.inr (.inr (some (6, 0)))), some (.inr (.inr (some (1, 0)))), some (.inl x2), some (.inl x3)], [.inl (m.1 6 0 0), .inl x3], am_mk m)) rfl ?_
    by_cases hc6 : (m.1 6 0 0) ≤ x3
    · rw [if_pos hc6] at h
      refine am_Go.c1 htb (S' := (93, [some (.inr (.inr (some (6, 0)))), some (.inr (.inr (some (1, 0)))), some (.inl x2), some (.inl x3)], [], am_mk m)) (if_pos hc6) ?_
      cases h
      exact am_Go.fg (by exact ⟨rfl, ⟨rfl, ⟨rfl, trivial⟩⟩⟩) hk
    · rw [if_neg hc6] at h
      refine am_Go.c1 htb (S' := (45, [some (.inr (.inr (some (6, 0)))), some (.inr (.inr (some (1, 0)))), some (.inl x2), some (.inl x3)], [], am_mk m)) (if_neg hc6) ?_
      refine am_Go.n htb 3 (S' := (48, [some (.inr (.inr (some (6, 0)))), some (.inr (.inr (some (1, 0)))), some (.inl x2), some (.inl x3)], [.inl x3, .inl x2, .inr (.inr (some (1, 0)))], am_mk m)) rfl ?_
      obtain ⟨r7, h8, h⟩ := am_bd h
      refine am_Go.cl htb rfl (ex_X1_isBarred d (by omega) x2 x3 m r7 h8) ?_
      show am_Go d 68 (51, [some (.inr (.inr (some (6, 0)))), some (.inr (.inr (some (1, 0)))), some (.inl x2), some (.inl x3)], [.inl r7.1], am_mk r7.2) _ _ _ _
      obtain ⟨q21, h22, h⟩ := am_bd h
      refine am_Go.cut (S := (87, [some (.inr (.inr (some (6, 0)))), some (.inr (.inr (some (1, 0)))), some (.inl x2), some (.inl x3)], [], am_mk q21)) ?_ (fun key => ?_)
      · refine am_Go.n htb 2 (S' := (37, [some (.inr (.inr (some (6, 0)))), some (.inr (.inr (some (1, 0)))), some (.inl x2), some (.inl (x3 + 1))], [], am_mk q21)) rfl ?_
        first | exact ih h | exact ih h hk
      · have h := h22
        by_cases hc9 : r7.1 ≠ 0
        · rw [if_pos hc9] at h
          refine am_Go.c1 htb (S' := (63, [some (.inr (.inr (some (6, 0)))), some (.inr (.inr (some (1, 0)))), some (.inl x2), some (.inl x3)], [], am_mk r7.2)) (if_pos hc9) ?_
          refine am_Go.n htb 4 (S' := (69, [some (.inr (.inr (some (6, 0)))), some (.inr (.inr (some (1, 0)))), some (.inl x2), some (.inl x3)], [.inl x2, .inr (.inr (some (31, 0))), .inl x2, .inr (.inr (some (31, 0)))], am_mk r7.2)) rfl ?_
          obtain ⟨hg10, h⟩ := am_ck_some h
          refine am_Go.c1 htb (S' := (70, [some (.inr (.inr (some (6, 0)))), some (.inr (.inr (some (1, 0)))), some (.inl x2), some (.inl x3)], [.inl (r7.2.1 31 0 x2.toNatClampNeg), .inl x2, .inr (.inr (some (31, 0)))], am_mk r7.2)) (if_neg hg10) ?_
          refine am_Go.n htb 4 (S' := (74, [some (.inr (.inr (some (6, 0)))), some (.inr (.inr (some (1, 0)))), some (.inl x2), some (.inl x3)], [.inl ((r7.2.1 31 0 x2.toNatClampNeg) ||| ((1 : Int32) <<< (x3 &&& 31))), .inl x2, .inr (.inr (some (31, 0)))], am_mk r7.2)) rfl ?_
          obtain ⟨hg11, h⟩ := am_ck_some h
          refine am_Go.c1 htb (S' := (75, [some (.inr (.inr (some (6, 0)))), some (.inr (.inr (some (1, 0)))), some (.inl x2), some (.inl x3)], [], am_mk (am_si r7.2 31 0 x2.toNatClampNeg ((r7.2.1 31 0 x2.toNatClampNeg) ||| ((1 : Int32) <<< (x3 &&& 31)))))) (if_neg hg11) ?_
          refine am_Go.n htb 4 (S' := (81, [some (.inr (.inr (some (6, 0)))), some (.inr (.inr (some (1, 0)))), some (.inl x2), some (.inl x3)], [.inl x3, .inr (.inr (some (31, 0))), .inl x3, .inr (.inr (some (31, 0)))], am_mk (am_si r7.2 31 0 x2.toNatClampNeg ((r7.2.1 31 0 x2.toNatClampNeg) ||| ((1 : Int32) <<< (x3 &&& 31)))))) rfl ?_
          obtain ⟨hg12, h⟩ := am_ck_some h
          refine am_Go.c1 htb (S' := (82, [some (.inr (.inr (some (6, 0)))), some (.inr (.inr (some (1, 0)))), some (.inl x2), some (.inl x3)], [.inl ((am_si r7.2 31 0 x2.toNatClampNeg ((r7.2.1 31 0 x2.toNatClampNeg) ||| ((1 : Int32) <<< (x3 &&& 31)))).1 31 0 x3.toNatClampNeg), .inl x3, .inr (.inr (some (31, 0)))], am_mk (am_si r7.2 31 0 x2.toNatClampNeg ((r7.2.1 31 0 x2.toNatClampNeg) ||| ((1 : Int32) <<< (x3 &&& 31)))))) (if_neg hg12) ?_
          refine am_Go.n htb 4 (S' := (86, [some (.inr (.inr (some (6, 0)))), some (.inr (.inr (some (1, 0)))), some (.inl x2), some (.inl x3)], [.inl (((am_si r7.2 31 0 x2.toNatClampNeg ((r7.2.1 31 0 x2.toNatClampNeg) ||| ((1 : Int32) <<< (x3 &&& 31)))).1 31 0 x3.toNatClampNeg) ||| ((1 : Int32) <<< (x2 &&& 31))), .inl x3, .inr (.inr (some (31, 0)))], am_mk (am_si r7.2 31 0 x2.toNatClampNeg ((r7.2.1 31 0 x2.toNatClampNeg) ||| ((1 : Int32) <<< (x3 &&& 31)))))) rfl ?_
          obtain ⟨hg13, h⟩ := am_ck_some h
          refine am_Go.c1 htb (S' := (87, [some (.inr (.inr (some (6, 0)))), some (.inr (.inr (some (1, 0)))), some (.inl x2), some (.inl x3)], [], am_mk (am_si (am_si r7.2 31 0 x2.toNatClampNeg ((r7.2.1 31 0 x2.toNatClampNeg) ||| ((1 : Int32) <<< (x3 &&& 31)))) 31 0 x3.toNatClampNeg (((am_si r7.2 31 0 x2.toNatClampNeg ((r7.2.1 31 0 x2.toNatClampNeg) ||| ((1 : Int32) <<< (x3 &&& 31)))).1 31 0 x3.toNatClampNeg) ||| ((1 : Int32) <<< (x2 &&& 31)))))) (if_neg hg13) ?_
          cases h
          exact am_Go.fg (by exact ⟨rfl, ⟨rfl, ⟨rfl, ⟨rfl, trivial⟩⟩⟩⟩) key
        · rw [if_neg hc9] at h
          refine am_Go.c1 htb (S' := (54, [some (.inr (.inr (some (6, 0)))), some (.inr (.inr (some (1, 0)))), some (.inl x2), some (.inl x3)], [], am_mk r7.2)) (if_neg hc9) ?_
          refine am_Go.n htb 3 (S' := (57, [some (.inr (.inr (some (6, 0)))), some (.inr (.inr (some (1, 0)))), some (.inl x2), some (.inl x3)], [.inl x2, .inl x3, .inr (.inr (some (1, 0)))], am_mk r7.2)) rfl ?_
          obtain ⟨r14, h15, h⟩ := am_bd h
          refine am_Go.cl htb rfl (ex_X1_isBarred d (by omega) x3 x2 r7.2 r14 h15) ?_
          show am_Go d 68 (60, [some (.inr (.inr (some (6, 0)))), some (.inr (.inr (some (1, 0)))), some (.inl x2), some (.inl x3)], [.inl r14.1], am_mk r14.2) _ _ _ _
          by_cases hc16 : r14.1 = 0
          · rw [if_pos hc16] at h
            refine am_Go.c1 htb (S' := (87, [some (.inr (.inr (some (6, 0)))), some (.inr (.inr (some (1, 0)))), some (.inl x2), some (.inl x3)], [], am_mk r14.2)) (if_pos hc16) ?_
            cases h
            exact am_Go.fg (by exact ⟨rfl, ⟨rfl, ⟨rfl, ⟨rfl, trivial⟩⟩⟩⟩) key
          · rw [if_neg hc16] at h
            refine am_Go.c1 htb (S' := (63, [some (.inr (.inr (some (6, 0)))), some (.inr (.inr (some (1, 0)))), some (.inl x2), some (.inl x3)], [], am_mk r14.2)) (if_neg hc16) ?_
            refine am_Go.n htb 4 (S' := (69, [some (.inr (.inr (some (6, 0)))), some (.inr (.inr (some (1, 0)))), some (.inl x2), some (.inl x3)], [.inl x2, .inr (.inr (some (31, 0))), .inl x2, .inr (.inr (some (31, 0)))], am_mk r14.2)) rfl ?_
            obtain ⟨hg17, h⟩ := am_ck_some h
            refine am_Go.c1 htb (S' := (70, [some (.inr (.inr (some (6, 0)))), some (.inr (.inr (some (1, 0)))), some (.inl x2), some (.inl x3)], [.inl (r14.2.1 31 0 x2.toNatClampNeg), .inl x2, .inr (.inr (some (31, 0)))], am_mk r14.2)) (if_neg hg17) ?_
            refine am_Go.n htb 4 (S' := (74, [some (.inr (.inr (some (6, 0)))), some (.inr (.inr (some (1, 0)))), some (.inl x2), some (.inl x3)], [.inl ((r14.2.1 31 0 x2.toNatClampNeg) ||| ((1 : Int32) <<< (x3 &&& 31))), .inl x2, .inr (.inr (some (31, 0)))], am_mk r14.2)) rfl ?_
            obtain ⟨hg18, h⟩ := am_ck_some h
            refine am_Go.c1 htb (S' := (75, [some (.inr (.inr (some (6, 0)))), some (.inr (.inr (some (1, 0)))), some (.inl x2), some (.inl x3)], [], am_mk (am_si r14.2 31 0 x2.toNatClampNeg ((r14.2.1 31 0 x2.toNatClampNeg) ||| ((1 : Int32) <<< (x3 &&& 31)))))) (if_neg hg18) ?_
            refine am_Go.n htb 4 (S' := (81, [some (.inr (.inr (some (6, 0)))), some (.inr (.inr (some (1, 0)))), some (.inl x2), some (.inl x3)], [.inl x3, .inr (.inr (some (31, 0))), .inl x3, .inr (.inr (some (31, 0)))], am_mk (am_si r14.2 31 0 x2.toNatClampNeg ((r14.2.1 31 0 x2.toNatClampNeg) ||| ((1 : Int32) <<< (x3 &&& 31)))))) rfl ?_
            obtain ⟨hg19, h⟩ := am_ck_some h
            refine am_Go.c1 htb (S' := (82, [some (.inr (.inr (some (6, 0)))), some (.inr (.inr (some (1, 0)))), some (.inl x2), some (.inl x3)], [.inl ((am_si r14.2 31 0 x2.toNatClampNeg ((r14.2.1 31 0 x2.toNatClampNeg) ||| ((1 : Int32) <<< (x3 &&& 31)))).1 31 0 x3.toNatClampNeg), .inl x3, .inr (.inr (some (31, 0)))], am_mk (am_si r14.2 31 0 x2.toNatClampNeg ((r14.2.1 31 0 x2.toNatClampNeg) ||| ((1 : Int32) <<< (x3 &&& 31)))))) (if_neg hg19) ?_
            refine am_Go.n htb 4 (S' := (86, [some (.inr (.inr (some (6, 0)))), some (.inr (.inr (some (1, 0)))), some (.inl x2), some (.inl x3)], [.inl (((am_si r14.2 31 0 x2.toNatClampNeg ((r14.2.1 31 0 x2.toNatClampNeg) ||| ((1 : Int32) <<< (x3 &&& 31)))).1 31 0 x3.toNatClampNeg) ||| ((1 : Int32) <<< (x2 &&& 31))), .inl x3, .inr (.inr (some (31, 0)))], am_mk (am_si r14.2 31 0 x2.toNatClampNeg ((r14.2.1 31 0 x2.toNatClampNeg) ||| ((1 : Int32) <<< (x3 &&& 31)))))) rfl ?_
            obtain ⟨hg20, h⟩ := am_ck_some h
            refine am_Go.c1 htb (S' := (87, [some (.inr (.inr (some (6, 0)))), some (.inr (.inr (some (1, 0)))), some (.inl x2), some (.inl x3)], [], am_mk (am_si (am_si r14.2 31 0 x2.toNatClampNeg ((r14.2.1 31 0 x2.toNatClampNeg) ||| ((1 : Int32) <<< (x3 &&& 31)))) 31 0 x3.toNatClampNeg (((am_si r14.2 31 0 x2.toNatClampNeg ((r14.2.1 31 0 x2.toNatClampNeg) ||| ((1 : Int32) <<< (x3 &&& 31)))).1 31 0 x3.toNatClampNeg) ||| ((1 : Int32) <<< (x2 &&& 31)))))) (if_neg hg20) ?_
            cases h
            exact am_Go.fg (by exact ⟨rfl, ⟨rfl, ⟨rfl, ⟨rfl, trivial⟩⟩⟩⟩) key
set_option maxRecDepth 100000 in
theorem lt_X6_lookAtBars_25 (d : Nat) (hd : 5 ≤ d + 1) {r : Option am_V} {M' : am_M} {kc ks : Nat} {n : Nat} {x2 : Int32} {m : am_m} {t : am_m} (h : lp_X6_lookAtBars_25 n x2 m = some t) (hk : am_Go d 68 (99, [some (.inr (.inr (some (6, 0)))), some (.inr (.inr (some (1, 0)))), none, none], [], am_mk t) r M' kc ks) : am_Go d 68 (25, [some (.inr (.inr (some (6, 0)))), some (.inr (.inr (some (1, 0)))), some (.inl x2), none], [], am_mk m) r M' kc ks := by
  have htb : am_tab 68 = at_68 := rfl
  induction n generalizing x2 m with
  | zero => cases h
  | succ n ih =>
    unfold lp_X6_lookAtBars_25 at h
    refine am_Go.n htb 3 (S' := (30, [some (.inr (.inr (some (6, 0)))), some (.inr (.inr (some (1, 0)))), some (.inl x2), none], [.inl (m.1 6 0 0), .inl x2], am_mk m)) rfl ?_
    by_cases hc5 : (m.1 6 0 0) ≤ x2
    · rw [if_pos hc5] at h
      refine am_Go.c1 htb (S' := (99, [some (.inr (.inr (some (6, 0)))), some (.inr (.inr (some (1, 0)))), some (.inl x2), none], [], am_mk m)) (if_pos hc5) ?_
      cases h
      exact am_Go.fg (by exact ⟨rfl, ⟨rfl, trivial⟩⟩) hk
    · rw [if_neg hc5] at h
      refine am_Go.c1 htb (S' := (33, [some (.inr (.inr (some (6, 0)))), some (.inr (.inr (some (1, 0)))), some (.inl x2), none], [], am_mk m)) (if_neg hc5) ?_
      refine am_Go.n htb 4 (S' := (37, [some (.inr (.inr (some (6, 0)))), some (.inr (.inr (some (1, 0)))), some (.inl x2), some (.inl (x2 + (1 : Int32)))], [], am_mk m)) rfl ?_
      obtain ⟨q23, h24, h⟩ := am_bd h
      refine lt_X6_lookAtBars_37 _ hd (h := h24) (hk := ?_)
      refine am_Go.n htb 2 (S' := (25, [some (.inr (.inr (some (6, 0)))), some (.inr (.inr (some (1, 0)))), some (.inl (x2 + 1)), none], [], am_mk q23)) rfl ?_
      first | exact ih h | exact ih h hk
set_option maxRecDepth 100000 in
theorem ex_X6_lookAtBars (d : Nat) (hd : 5 ≤ d)  (m : am_m) (t : am_m) (h : fn_X6_lookAtBars  m = some t) : am_Ex am_cod d 68 [.inr (.inr (some (6, 0))), .inr (.inr (some (1, 0)))] (am_mk m) (none) (am_mk t) 0 0 := by
  obtain ⟨d, rfl⟩ : ∃ e, d = e + 1 := ⟨d - 1, by omega⟩
  have htb : am_tab 68 = at_68 := rfl
  refine ⟨Nat.le_of_ble_eq_true rfl, ?_⟩
  unfold fn_X6_lookAtBars at h
  show am_Go d 68 (0, [some (.inr (.inr (some (6, 0)))), some (.inr (.inr (some (1, 0)))), none, none], [], am_mk m) _ _ 0 0
  refine am_Go.n htb 2 (S' := (2, [some (.inr (.inr (some (6, 0)))), some (.inr (.inr (some (1, 0)))), some (.inl 0), none], [], am_mk m)) rfl ?_
  obtain ⟨q3, h4, h⟩ := am_bd h
  refine lt_X6_lookAtBars_2 _ hd (h := h4) (hk := ?_)
  refine am_Go.n htb 2 (S' := (25, [some (.inr (.inr (some (6, 0)))), some (.inr (.inr (some (1, 0)))), some (.inl 0), none], [], am_mk q3)) rfl ?_
  obtain ⟨q25, h26, h⟩ := am_bd h
  refine lt_X6_lookAtBars_25 _ hd (h := h26) (hk := ?_)
  cases h
  exact am_Go.rt htb rfl
