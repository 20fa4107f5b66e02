-- X6_findParts
set_option maxRecDepth 100000 in
theorem lt_X6_findParts_31 (d : Nat) (hd : 3 ≤ d + 1) {r : Option am_V} {M' : am_M} {kc ks : Nat} {n : Nat} {x1 : Int32} {x2 : Int32} {x3 : Int32} {m : am_m} {t : am_m} (h : lp_X6_findParts_31 n x1 x2 x3 m = some t) (hk : am_Go d 76 (91, [some (.inr (.inr (some (6, 0)))), some (.inl x1), some (.inl x2), none], [], am_mk t) r M' kc ks) : am_Go d 76 (31, [some (.inr (.inr (some (6, 0)))), some (.inl x1), some (.inl x2), some (.inl x3)], [], am_mk m) r M' kc ks := by
  have htb : am_tab 76 = at_76 := rfl
  induction n generalizing x3 m with
  | zero => cases h
  | succ n ih =>
    unfold lp_X6_findParts_31 at h
    refine am_Go.n htb 1 (S' := (32, [some (.inr (.inr (some (6, 0)))), some (.inl x1), some (.inl x2), some (.inl x3)], [.inl x3], am_mk m)) rfl ?_
    by_cases hc8 : x3 ≤ 0
    · rw [if_pos hc8] at h
      refine am_Go.c1 htb (S' := (91, [some (.inr (.inr (some (6, 0)))), some (.inl x1), some (.inl x2), some (.inl x3)], [], am_mk m)) (if_pos hc8) ?_
      cases h
      exact am_Go.fg (by exact ⟨rfl, ⟨rfl, ⟨rfl, trivial⟩⟩⟩) hk
    · rw [if_neg hc8] at h
      refine am_Go.c1 htb (S' := (35, [some (.inr (.inr (some (6, 0)))), some (.inl x1), some (.inl x2), some (.inl x3)], [], am_mk m)) (if_neg hc8) ?_
      refine am_Go.n htb 3 (S' := (40, [some (.inr (.inr (some (6, 0)))), some (.inl x1), some (.inl x2), some (.inl x3)], [.inl x1, .inr (.inr (some (90, 0)))], am_mk m)) rfl ?_
      obtain ⟨hg9, h⟩ := am_ck_some h
      refine am_Go.c1 htb (S' := (41, [some (.inr (.inr (some (6, 0)))), some (.inl x1), some (.inl x2), some (.inl x3)], [.inl (m.1 90 0 x1.toNatClampNeg)], am_mk m)) (if_neg hg9) ?_
      by_cases hc10 : (m.1 90 0 x1.toNatClampNeg) ≠ 0
      · rw [if_pos hc10] at h
        refine am_Go.c1 htb (S' := (91, [some (.inr (.inr (some (6, 0)))), some (.inl x1), some (.inl x2), some (.inl x3)], [], am_mk m)) (if_pos hc10) ?_
        cases h
        exact am_Go.fg (by exact ⟨rfl, ⟨rfl, ⟨rfl, trivial⟩⟩⟩) hk
      · rw [if_neg hc10] at h
        refine am_Go.c1 htb (S' := (44, [some (.inr (.inr (some (6, 0)))), some (.inl x1), some (.inl x2), some (.inl x3)], [], am_mk m)) (if_neg hc10) ?_
        refine am_Go.n htb 6 (S' := (52, [some (.inr (.inr (some (6, 0)))), some (.inl x1), some (.inl x2), some (.inl x3)], [.inl (x3 &&& x2), .inl x1, .inr (.inr (some (90, 0)))], am_mk m)) rfl ?_
        obtain ⟨q17, h20, h⟩ := am_bd h
        refine am_Go.cut (S := (81, [some (.inr (.inr (some (6, 0)))), some (.inl x1), some (.inl x2), some (.inl x3)], [.inl q17, .inl x1, .inr (.inr (some (90, 0)))], am_mk m)) ?_ (fun key => ?_)
        · obtain ⟨hz19, h⟩ := am_gd_some h
          obtain ⟨hg18, h⟩ := am_ck_some h
          refine am_Go.o htb (am_o_zast) rfl (S' := (82, [some (.inr (.inr (some (6, 0)))), some (.inl x1), some (.inl x2), some (.inl x3)], [], am_mk (am_si m 90 0 x1.toNatClampNeg q17))) (am_zs (by decide) hz19 hg18) ?_
          refine am_Go.n htb 7 (S' := (31, [some (.inr (.inr (some (6, 0)))), some (.inl x1), some (.inl x2), some (.inl ((x3 - (1 : Int32)) &&& x1))], [], am_mk (am_si m 90 0 x1.toNatClampNeg q17))) rfl ?_
          first | exact ih h | exact ih h hk
        · have h := h20
          by_cases hc11 : (x3 &&& x2) = 0
          · rw [if_pos hc11] at h
            refine am_Go.c1 htb (S' := (80, [some (.inr (.inr (some (6, 0)))), some (.inl x1), some (.inl x2), some (.inl x3)], [.inl x1, .inr (.inr (some (90, 0)))], am_mk m)) (if_pos hc11) ?_
            refine am_Go.n htb 1 (S' := (81, [some (.inr (.inr (some (6, 0)))), some (.inl x1), some (.inl x2), some (.inl x3)], [.inl 0, .inl x1, .inr (.inr (some (90, 0)))], am_mk m)) rfl ?_
            cases h
            exact am_Go.fg (by exact ⟨rfl, ⟨rfl, ⟨rfl, ⟨rfl, trivial⟩⟩⟩⟩) key
          · rw [if_neg hc11] at h
            refine am_Go.c1 htb (S' := (55, [some (.inr (.inr (some (6, 0)))), some (.inl x1), some (.inl x2), some (.inl x3)], [.inl x1, .inr (.inr (some (90, 0)))], am_mk m)) (if_neg hc11) ?_
            refine am_Go.n htb 7 (S' := (64, [some (.inr (.inr (some (6, 0)))), some (.inl x1), some (.inl x2), some (.inl x3)], [.inl (x1 &&& (x3 ^^^ (-1 : Int32))), .inr (.inr (some (90, 0))), .inl x1, .inr (.inr (some (90, 0)))], am_mk m)) rfl ?_
            obtain ⟨hg12, h⟩ := am_ck_some h
            refine am_Go.c1 htb (S' := (65, [some (.inr (.inr (some (6, 0)))), some (.inl x1), some (.inl x2), some (.inl x3)], [.inl (m.1 90 0 (x1 &&& (x3 ^^^ (-1 : Int32))).toNatClampNeg), .inl x1, .inr (.inr (some (90, 0)))], am_mk m)) (if_neg hg12) ?_
            by_cases hc13 : (m.1 90 0 (x1 &&& (x3 ^^^ (-1 : Int32))).toNatClampNeg) = 0
            · rw [if_pos hc13] at h
              refine am_Go.c1 htb (S' := (80, [some (.inr (.inr (some (6, 0)))), some (.inl x1), some (.inl x2), some (.inl x3)], [.inl x1, .inr (.inr (some (90, 0)))], am_mk m)) (if_pos hc13) ?_
              refine am_Go.n htb 1 (S' := (81, [some (.inr (.inr (some (6, 0)))), some (.inl x1), some (.inl x2), some (.inl x3)], [.inl 0, .inl x1, .inr (.inr (some (90, 0)))], am_mk m)) rfl ?_
              cases h
              exact am_Go.fg (by exact ⟨rfl, ⟨rfl, ⟨rfl, ⟨rfl, trivial⟩⟩⟩⟩) key
            · rw [if_neg hc13] at h
              refine am_Go.c1 htb (S' := (68, [some (.inr (.inr (some (6, 0)))), some (.inl x1), some (.inl x2), some (.inl x3)], [.inl x1, .inr (.inr (some (90, 0)))], am_mk m)) (if_neg hc13) ?_
              refine am_Go.n htb 2 (S' := (70, [some (.inr (.inr (some (6, 0)))), some (.inl x1), some (.inl x2), some (.inl x3)], [.inl x3, .inr (.inr (some (6, 0))), .inl x1, .inr (.inr (some (90, 0)))], am_mk m)) rfl ?_
              obtain ⟨r14, h15, h⟩ := am_bd h
              refine am_Go.cl htb rfl (ex_X6_isTable d (by omega) x3 m r14 h15) ?_
              show am_Go d 76 (73, [some (.inr (.inr (some (6, 0)))), some (.inl x1), some (.inl x2), some (.inl x3)], [.inl r14, .inl x1, .inr (.inr (some (90, 0)))], am_mk m) _ _ _ _
              by_cases hc16 : r14 = 0
              · rw [if_pos hc16] at h
                refine am_Go.c1 htb (S' := (80, [some (.inr (.inr (some (6, 0)))), some (.inl x1), some (.inl x2), some (.inl x3)], [.inl x1, .inr (.inr (some (90, 0)))], am_mk m)) (if_pos hc16) ?_
                refine am_Go.n htb 1 (S' := (81, [some (.inr (.inr (some (6, 0)))), some (.inl x1), some (.inl x2), some (.inl x3)], [.inl 0, .inl x1, .inr (.inr (some (90, 0)))], am_mk m)) rfl ?_
                cases h
                exact am_Go.fg (by exact ⟨rfl, ⟨rfl, ⟨rfl, ⟨rfl, trivial⟩⟩⟩⟩) key
              · rw [if_neg hc16] at h
                refine am_Go.c1 htb (S' := (76, [some (.inr (.inr (some (6, 0)))), some (.inl x1), some (.inl x2), some (.inl x3)], [.inl x1, .inr (.inr (some (90, 0)))], am_mk m)) (if_neg hc16) ?_
                refine am_Go.n htb 2 (S' := (81, [some (.inr (.inr (some (6, 0)))), some (.inl x1), some (.inl x2), some (.inl x3)], [.inl 1, .inl x1, .inr (.inr (some (90, 0)))], am_mk m)) rfl ?_
                cases h
                exact am_Go.fg (by exact ⟨rfl, ⟨rfl, ⟨rfl, ⟨rfl, trivial⟩⟩⟩⟩) key
set_option maxRecDepth 100000 in
theorem lt_X6_findParts_9 (d : Nat) (hd : 3 ≤ d + 1) {r : Option am_V} {M' : am_M} {kc ks : Nat} {n : Nat} {x1 : Int32} {m : am_m} {t : am_m} (h : lp_X6_findParts_9 n x1 m = some t) (hk : am_Go d 76 (97, [some (.inr (.inr (some (6, 0)))), none, none, none], [], am_mk t) r M' kc ks) : am_Go d 76 (9, [some (.inr (.inr (some (6, 0)))), some (.inl x1), none, none], [], am_mk m) r M' kc ks := by
  have htb : am_tab 76 = at_76 := rfl
  induction n generalizing x1 m with
  | zero => cases h
  | succ n ih =>
    unfold lp_X6_findParts_9 at h
    refine am_Go.n htb 2 (S' := (11, [some (.inr (.inr (some (6, 0)))), some (.inl x1), none, none], [.inr (.inr (some (6, 0))), .inl x1], am_mk m)) rfl ?_
    obtain ⟨r3, h4, h⟩ := am_bd h
    refine am_Go.cl htb rfl (ex_X6_everybody d (by omega)  m r3 h4) ?_
    show am_Go d 76 (14, [some (.inr (.inr (some (6, 0)))), some (.inl x1), none, none], [.inl r3, .inl x1], am_mk m) _ _ _ _
    by_cases hc5 : r3 < x1
    · rw [if_pos hc5] at h
      refine am_Go.c1 htb (S' := (97, [some (.inr (.inr (some (6, 0)))), some (.inl x1), none, none], [], am_mk m)) (if_pos hc5) ?_
      cases h
      exact am_Go.fg (by exact ⟨rfl, trivial⟩) hk
    · rw [if_neg hc5] at h
      refine am_Go.c1 htb (S' := (17, [some (.inr (.inr (some (6, 0)))), some (.inl x1), none, none], [], am_mk m)) (if_neg hc5) ?_
      refine am_Go.n htb 9 (S' := (28, [some (.inr (.inr (some (6, 0)))), some (.inl x1), some (.inl (x1 &&& (-x1))), none], [.inl 0, .inl x1, .inr (.inr (some (90, 0)))], am_mk m)) rfl ?_
      obtain ⟨hg6, h⟩ := am_ck_some h
      refine am_Go.o htb (am_o_zast) rfl (S' := (29, [some (.inr (.inr (some (6, 0)))), some (.inl x1), some (.inl (x1 &&& (-x1))), none], [], am_mk (am_si m 90 0 x1.toNatClampNeg 0))) (am_zs (by decide) (by decide) hg6) ?_
      refine am_Go.n htb 2 (S' := (31, [some (.inr (.inr (some (6, 0)))), some (.inl x1), some (.inl (x1 &&& (-x1))), some (.inl x1)], [], am_mk (am_si m 90 0 x1.toNatClampNeg 0))) rfl ?_
      obtain ⟨q21, h22, h⟩ := am_bd h
      refine lt_X6_findParts_31 _ hd (h := h22) (hk := ?_)
      refine am_Go.n htb 2 (S' := (9, [some (.inr (.inr (some (6, 0)))), some (.inl (x1 + 1)), some (.inl (x1 &&& (-x1))), none], [], am_mk q21)) rfl ?_
      refine am_Go.fg (L0 := [some (.inr (.inr (some (6, 0)))), some (.inl (x1 + 1)), none, none]) (by exact ⟨rfl, ⟨rfl, trivial⟩⟩) ?_
      first | exact ih h | exact ih h hk
set_option maxRecDepth 100000 in
theorem ex_X6_findParts (d : Nat) (hd : 3 ≤ d)  (m : am_m) (t : am_m) (h : fn_X6_findParts  m = some t) : am_Ex am_cod d 76 [.inr (.inr (some (6, 0)))] (am_mk m) (none) (am_mk t) 0 0 := by
  obtain ⟨d, rfl⟩ : ∃ e, d = e + 1 := ⟨d - 1, by omega⟩
  have htb : am_tab 76 = at_76 := rfl
  refine ⟨Nat.le_of_ble_eq_true rfl, ?_⟩
  unfold fn_X6_findParts at h
  show am_Go d 76 (0, [some (.inr (.inr (some (6, 0)))), none, none, none], [], am_mk m) _ _ 0 0
  refine am_Go.n htb 4 (S' := (6, [some (.inr (.inr (some (6, 0)))), none, none, none], [.inl 1, .inl 0, .inr (.inr (some (90, 0)))], am_mk m)) rfl ?_
  obtain ⟨hg1, h⟩ := am_ck_some h
  refine am_Go.o htb (am_o_zast) rfl (S' := (7, [some (.inr (.inr (some (6, 0)))), none, none, none], [], am_mk (am_si m 90 0 (0 : Int32).toNatClampNeg 1))) (am_zs (by decide) (by decide) hg1) ?_
  refine am_Go.n htb 2 (S' := (9, [some (.inr (.inr (some (6, 0)))), some (.inl 1), none, none], [], am_mk (am_si m 90 0 (0 : Int32).toNatClampNeg 1))) rfl ?_
  obtain ⟨q23, h24, h⟩ := am_bd h
  refine lt_X6_findParts_9 _ hd (h := h24) (hk := ?_)
  cases h
  exact am_Go.rt htb rfl
-- X6_fewestOut
set_option maxRecDepth 100000 in
theorem lt_X6_fewestOut_11 (d : Nat) (hd : 4 ≤ d + 1) {r : Option am_V} {M' : am_M} {kc ks : Nat} {n : Nat} {x1 : Int32} {x2 : Int32} {m : am_m} {t : Int32} (h : lp_X6_fewestOut_11 n x1 x2 m = some t) (hk : am_Go d 75 (56, [some (.inr (.inr (some (6, 0)))), some (.inl t), none, none], [], am_mk m) r M' kc ks) : am_Go d 75 (11, [some (.inr (.inr (some (6, 0)))), some (.inl x1), some (.inl x2), none], [], am_mk m) r M' kc ks := by
  have htb : am_tab 75 = at_75 := rfl
  induction n generalizing x1 x2 with
  | zero => cases h
  | succ n ih =>
    unfold lp_X6_fewestOut_11 at h
    refine am_Go.n htb 2 (S' := (13, [some (.inr (.inr (some (6, 0)))), some (.inl x1), some (.inl x2), none], [.inr (.inr (some (6, 0))), .inl x2], am_mk m)) rfl ?_
    obtain ⟨r5, h6, h⟩ := am_bd h
    refine am_Go.cl htb rfl (ex_X6_everybody d (by omega)  m r5 h6) ?_
    show am_Go d 75 (16, [some (.inr (.inr (some (6, 0)))), some (.inl x1), some (.inl x2), none], [.inl r5, .inl x2], am_mk m) _ _ _ _
    by_cases hc7 : r5 < x2
    · rw [if_pos hc7] at h
      refine am_Go.c1 htb (S' := (56, [some (.inr (.inr (some (6, 0)))), some (.inl x1), some (.inl x2), none], [], am_mk m)) (if_pos hc7) ?_
      cases h
      exact am_Go.fg (by exact ⟨rfl, ⟨rfl, trivial⟩⟩) hk
    · rw [if_neg hc7] at h
      refine am_Go.c1 htb (S' := (19, [some (.inr (.inr (some (6, 0)))), some (.inl x1), some (.inl x2), none], [], am_mk m)) (if_neg hc7) ?_
      refine am_Go.n htb 1 (S' := (20, [some (.inr (.inr (some (6, 0)))), some (.inl x1), some (.inl x2), none], [.inr (.inr (some (6, 0)))], am_mk m)) rfl ?_
      obtain ⟨r8, h9, h⟩ := am_bd h
      refine am_Go.cl htb rfl (ex_X6_everybody d (by omega)  m r8 h9) ?_
      show am_Go d 75 (23, [some (.inr (.inr (some (6, 0)))), some (.inl x1), some (.inl x2), none], [.inl r8], am_mk m) _ _ _ _
      refine am_Go.n htb 6 (S' := (29, [some (.inr (.inr (some (6, 0)))), some (.inl x1), some (.inl x2), some (.inl (r8 &&& (x2 ^^^ (-1 : Int32))))], [.inl x2], am_mk m)) rfl ?_
      obtain ⟨r10, h11, h⟩ := am_bd h
      refine am_Go.cl htb rfl (ex_J6_bitCount_0f7a4 d (by omega) x2 m r10 h11) ?_
      show am_Go d 75 (32, [some (.inr (.inr (some (6, 0)))), some (.inl x1), some (.inl x2), some (.inl (r8 &&& (x2 ^^^ (-1 : Int32))))], [.inl r10], am_mk m) _ _ _ _
      refine am_Go.n htb 1 (S' := (33, [some (.inr (.inr (some (6, 0)))), some (.inl x1), some (.inl x2), some (.inl (r8 &&& (x2 ^^^ (-1 : Int32))))], [.inl x1, .inl r10], am_mk m)) rfl ?_
      obtain ⟨r12, h13, h⟩ := am_bd h
      refine am_Go.cl htb rfl (ex_J6_bitCount_0f7a4 d (by omega) x1 m r12 h13) ?_
      show am_Go d 75 (36, [some (.inr (.inr (some (6, 0)))), some (.inl x1), some (.inl x2), some (.inl (r8 &&& (x2 ^^^ (-1 : Int32))))], [.inl r12, .inl r10], am_mk m) _ _ _ _
      obtain ⟨q17, h18, h⟩ := am_bd h
      refine am_Go.cut (S := (50, [some (.inr (.inr (some (6, 0)))), some (.inl q17), some (.inl x2), some (.inl (r8 &&& (x2 ^^^ (-1 : Int32))))], [], am_mk m)) ?_ (fun key => ?_)
      · refine am_Go.n htb 2 (S' := (11, [some (.inr (.inr (some (6, 0)))), some (.inl q17), some (.inl (x2 + 1)), some (.inl (r8 &&& (x2 ^^^ (-1 : Int32))))], [], am_mk m)) rfl ?_
        refine am_Go.fg (L0 := [some (.inr (.inr (some (6, 0)))), some (.inl q17), some (.inl (x2 + 1)), none]) (by exact ⟨rfl, ⟨rfl, ⟨rfl, trivial⟩⟩⟩) ?_
        first | exact ih h | exact ih h hk
      · have h := h18
        by_cases hc14 : r12 ≤ r10
        · rw [if_pos hc14] at h
          refine am_Go.c1 htb (S' := (50, [some (.inr (.inr (some (6, 0)))), some (.inl x1), some (.inl x2), some (.inl (r8 &&& (x2 ^^^ (-1 : Int32))))], [], am_mk m)) (if_pos hc14) ?_
          cases h
          exact am_Go.fg (by exact ⟨rfl, ⟨rfl, ⟨rfl, ⟨rfl, trivial⟩⟩⟩⟩) key
        · rw [if_neg hc14] at h
          refine am_Go.c1 htb (S' := (39, [some (.inr (.inr (some (6, 0)))), some (.inl x1), some (.inl x2), some (.inl (r8 &&& (x2 ^^^ (-1 : Int32))))], [], am_mk m)) (if_neg hc14) ?_
          refine am_Go.n htb 3 (S' := (44, [some (.inr (.inr (some (6, 0)))), some (.inl x1), some (.inl x2), some (.inl (r8 &&& (x2 ^^^ (-1 : Int32))))], [.inl (r8 &&& (x2 ^^^ (-1 : Int32))), .inr (.inr (some (90, 0)))], am_mk m)) rfl ?_
          obtain ⟨hg15, h⟩ := am_ck_some h
          refine am_Go.c1 htb (S' := (45, [some (.inr (.inr (some (6, 0)))), some (.inl x1), some (.inl x2), some (.inl (r8 &&& (x2 ^^^ (-1 : Int32))))], [.inl (m.1 90 0 (r8 &&& (x2 ^^^ (-1 : Int32))).toNatClampNeg)], am_mk m)) (if_neg hg15) ?_
          by_cases hc16 : (m.1 90 0 (r8 &&& (x2 ^^^ (-1 : Int32))).toNatClampNeg) = 0
          · rw [if_pos hc16] at h
            refine am_Go.c1 htb (S' := (50, [some (.inr (.inr (some (6, 0)))), some (.inl x1), some (.inl x2), some (.inl (r8 &&& (x2 ^^^ (-1 : Int32))))], [], am_mk m)) (if_pos hc16) ?_
            cases h
            exact am_Go.fg (by exact ⟨rfl, ⟨rfl, ⟨rfl, ⟨rfl, trivial⟩⟩⟩⟩) key
          · rw [if_neg hc16] at h
            refine am_Go.c1 htb (S' := (48, [some (.inr (.inr (some (6, 0)))), some (.inl x1), some (.inl x2), some (.inl (r8 &&& (x2 ^^^ (-1 : Int32))))], [], am_mk m)) (if_neg hc16) ?_
            refine am_Go.n htb 2 (S' := (50, [some (.inr (.inr (some (6, 0)))), some (.inl x2), some (.inl x2), some (.inl (r8 &&& (x2 ^^^ (-1 : Int32))))], [], am_mk m)) rfl ?_
            cases h
            exact am_Go.fg (by exact ⟨rfl, ⟨rfl, ⟨rfl, ⟨rfl, trivial⟩⟩⟩⟩) key
set_option maxRecDepth 100000 in
theorem ex_X6_fewestOut (d : Nat) (hd : 4 ≤ d)  (m : am_m) (t : Int32 × am_m) (h : fn_X6_fewestOut  m = some t) : am_Ex am_cod d 75 [.inr (.inr (some (6, 0)))] (am_mk m) (some (.inl t.1)) (am_mk t.2) 0 0 := by
  obtain ⟨d, rfl⟩ : ∃ e, d = e + 1 := ⟨d - 1, by omega⟩
  have htb : am_tab 75 = at_75 := rfl
  refine ⟨Nat.le_of_ble_eq_true rfl, ?_⟩
  unfold fn_X6_fewestOut at h
  show am_Go d 75 (0, [some (.inr (.inr (some (6, 0)))), none, none, none], [], am_mk m) _ _ 0 0
  refine am_Go.n htb 1 (S' := (1, [some (.inr (.inr (some (6, 0)))), none, none, none], [.inr (.inr (some (6, 0)))], am_mk m)) rfl ?_
  obtain ⟨r1, h2, h⟩ := am_bd h
  refine am_Go.cl htb rfl (ex_X6_findParts d (by omega)  m r1 h2) ?_
  show am_Go d 75 (4, [some (.inr (.inr (some (6, 0)))), none, none, none], [], am_mk r1) _ _ _ _
  refine am_Go.n htb 1 (S' := (5, [some (.inr (.inr (some (6, 0)))), none, none, none], [.inr (.inr (some (6, 0)))], am_mk r1)) rfl ?_
  obtain ⟨r3, h4, h⟩ := am_bd h
  refine am_Go.cl htb rfl (ex_X6_everybody d (by omega)  r1 r3 h4) ?_
  show am_Go d 75 (8, [some (.inr (.inr (some (6, 0)))), none, none, none], [.inl r3], am_mk r1) _ _ _ _
  refine am_Go.n htb 3 (S' := (11, [some (.inr (.inr (some (6, 0)))), some (.inl r3), some (.inl 0), none], [], am_mk r1)) rfl ?_
  obtain ⟨q19, h20, h⟩ := am_bd h
  refine lt_X6_fewestOut_11 _ hd (h := h20) (hk := ?_)
  refine am_Go.n htb 1 (S' := (57, [some (.inr (.inr (some (6, 0)))), some (.inl q19), none, none], [.inl q19], am_mk r1)) rfl ?_
  cases h
  exact am_Go.rt htb rfl
-- X6_addTable
set_option maxRecDepth 100000 in
theorem lt_X6_addTable_3 (d : Nat) (hd : 2 ≤ d + 1) {r : Option am_V} {M' : am_M} {kc ks : Nat} {n : Nat} {x1 : Int32} {x2 : Int32} {m : am_m} {t : am_m} (h : lp_X6_addTable_3 n x1 x2 m = some t) (hk : am_Go d 78 (75, [some (.inr (.inr (some (6, 0)))), some (.inl x1), none, none, none], [], am_mk t) r M' kc ks) : am_Go d 78 (3, [some (.inr (.inr (some (6, 0)))), some (.inl x1), some (.inl x2), none, none], [], am_mk m) r M' kc ks := by
  have htb : am_tab 78 = at_78 := rfl
  induction n generalizing x2 m with
  | zero => cases h
  | succ n ih =>
    unfold lp_X6_addTable_3 at h
    refine am_Go.n htb 1 (S' := (4, [some (.inr (.inr (some (6, 0)))), some (.inl x1), some (.inl x2), none, none], [.inl x2], am_mk m)) rfl ?_
    by_cases hc1 : x2 < 0
    · rw [if_pos hc1] at h
      refine am_Go.c1 htb (S' := (75, [some (.inr (.inr (some (6, 0)))), some (.inl x1), some (.inl x2), none, none], [], am_mk m)) (if_pos hc1) ?_
      cases h
      exact am_Go.fg (by exact ⟨rfl, ⟨rfl, trivial⟩⟩) hk
    · rw [if_neg hc1] at h
      refine am_Go.c1 htb (S' := (7, [some (.inr (.inr (some (6, 0)))), some (.inl x1), some (.inl x2), none, none], [], am_mk m)) (if_neg hc1) ?_
      refine am_Go.n htb 6 (S' := (14, [some (.inr (.inr (some (6, 0)))), some (.inl x1), some (.inl x2), some (.inl (x2 ||| x1)), none], [.inl 127, .inl (x2 ||| x1)], am_mk m)) rfl ?_
      obtain ⟨q14, h15, h⟩ := am_bd h
      refine am_Go.cut (S := (69, [some (.inr (.inr (some (6, 0)))), some (.inl x1), some (.inl x2), some (.inl (x2 ||| x1)), none], [], am_mk q14)) ?_ (fun key => ?_)
      · refine am_Go.o htb (am_o_inc 2 (-1)) rfl (S' := (72, [some (.inr (.inr (some (6, 0)))), some (.inl x1), some (.inl (x2 - 1)), some (.inl (x2 ||| x1)), none], [], am_mk q14)) (am_incn rfl rfl) ?_
        refine am_Go.n htb 1 (S' := (3, [some (.inr (.inr (some (6, 0)))), some (.inl x1), some (.inl (x2 - 1)), some (.inl (x2 ||| x1)), none], [], am_mk q14)) rfl ?_
        refine am_Go.fg (L0 := [some (.inr (.inr (some (6, 0)))), some (.inl x1), some (.inl (x2 - 1)), none, none]) (by exact ⟨rfl, ⟨rfl, ⟨rfl, trivial⟩⟩⟩) ?_
        first | exact ih h | exact ih h hk
      · have h := h15
        by_cases hc2 : (127 : Int32) < (x2 ||| x1)
        · rw [if_pos hc2] at h
          refine am_Go.c1 htb (S' := (69, [some (.inr (.inr (some (6, 0)))), some (.inl x1), some (.inl x2), some (.inl (x2 ||| x1)), none], [], am_mk m)) (if_pos hc2) ?_
          cases h
          exact am_Go.fg (by exact ⟨rfl, ⟨rfl, ⟨rfl, ⟨rfl, trivial⟩⟩⟩⟩) key
        · rw [if_neg hc2] at h
          refine am_Go.c1 htb (S' := (17, [some (.inr (.inr (some (6, 0)))), some (.inl x1), some (.inl x2), some (.inl (x2 ||| x1)), none], [], am_mk m)) (if_neg hc2) ?_
          refine am_Go.n htb 3 (S' := (22, [some (.inr (.inr (some (6, 0)))), some (.inl x1), some (.inl x2), some (.inl (x2 ||| x1)), none], [.inl x2, .inr (.inr (some (34, 0)))], am_mk m)) rfl ?_
          obtain ⟨hg3, h⟩ := am_ck_some h
          refine am_Go.c1 htb (S' := (23, [some (.inr (.inr (some (6, 0)))), some (.inl x1), some (.inl x2), some (.inl (x2 ||| x1)), none], [.inl (m.1 34 0 x2.toNatClampNeg)], am_mk m)) (if_neg hg3) ?_
          refine am_Go.n htb 1 (S' := (24, [some (.inr (.inr (some (6, 0)))), some (.inl x1), some (.inl x2), some (.inl (x2 ||| x1)), none], [.inl (-1), .inl (m.1 34 0 x2.toNatClampNeg)], am_mk m)) rfl ?_
          by_cases hc4 : (m.1 34 0 x2.toNatClampNeg) = (-1 : Int32)
          · rw [if_pos hc4] at h
            refine am_Go.c1 htb (S' := (69, [some (.inr (.inr (some (6, 0)))), some (.inl x1), some (.inl x2), some (.inl (x2 ||| x1)), none], [], am_mk m)) (if_pos hc4) ?_
            cases h
            exact am_Go.fg (by exact ⟨rfl, ⟨rfl, ⟨rfl, ⟨rfl, trivial⟩⟩⟩⟩) key
          · rw [if_neg hc4] at h
            refine am_Go.c1 htb (S' := (27, [some (.inr (.inr (some (6, 0)))), some (.inl x1), some (.inl x2), some (.inl (x2 ||| x1)), none], [], am_mk m)) (if_neg hc4) ?_
            refine am_Go.n htb 3 (S' := (32, [some (.inr (.inr (some (6, 0)))), some (.inl x1), some (.inl x2), some (.inl (x2 ||| x1)), none], [.inl x2, .inr (.inr (some (34, 0)))], am_mk m)) rfl ?_
            obtain ⟨hg5, h⟩ := am_ck_some h
            refine am_Go.c1 htb (S' := (33, [some (.inr (.inr (some (6, 0)))), some (.inl x1), some (.inl x2), some (.inl (x2 ||| x1)), none], [.inl (m.1 34 0 x2.toNatClampNeg)], am_mk m)) (if_neg hg5) ?_
            refine am_Go.n htb 9 (S' := (47, [some (.inr (.inr (some (6, 0)))), some (.inl x1), some (.inl x2), some (.inl (x2 ||| x1)), some (.inl ((m.1 34 0 x2.toNatClampNeg) + (1 : Int32)))], [.inl (x2 ||| x1), .inr (.inr (some (34, 0))), .inl (x2 ||| x1), .inr (.inr (some (34, 0)))], am_mk m)) rfl ?_
            obtain ⟨hg6, h⟩ := am_ck_some h
            refine am_Go.c1 htb (S' := (48, [some (.inr (.inr (some (6, 0)))), some (.inl x1), some (.inl x2), some (.inl (x2 ||| x1)), some (.inl ((m.1 34 0 x2.toNatClampNeg) + (1 : Int32)))], [.inl (m.1 34 0 (x2 ||| x1).toNatClampNeg), .inl (x2 ||| x1), .inr (.inr (some (34, 0)))], am_mk m)) (if_neg hg6) ?_
            refine am_Go.n htb 1 (S' := (49, [some (.inr (.inr (some (6, 0)))), some (.inl x1), some (.inl x2), some (.inl (x2 ||| x1)), some (.inl ((m.1 34 0 x2.toNatClampNeg) + (1 : Int32)))], [.inl (-1), .inl (m.1 34 0 (x2 ||| x1).toNatClampNeg), .inl (x2 ||| x1), .inr (.inr (some (34, 0)))], am_mk m)) rfl ?_
            obtain ⟨q11, h13, h⟩ := am_bd h
            refine am_Go.cut (S := (68, [some (.inr (.inr (some (6, 0)))), some (.inl x1), some (.inl x2), some (.inl (x2 ||| x1)), some (.inl ((m.1 34 0 x2.toNatClampNeg) + (1 : Int32)))], [.inl q11, .inl (x2 ||| x1), .inr (.inr (some (34, 0)))], am_mk m)) ?_ (fun key => ?_)
            · obtain ⟨hg12, h⟩ := am_ck_some h
              refine am_Go.c1 htb (S' := (69, [some (.inr (.inr (some (6, 0)))), some (.inl x1), some (.inl x2), some (.inl (x2 ||| x1)), some (.inl ((m.1 34 0 x2.toNatClampNeg) + (1 : Int32)))], [], am_mk (am_si m 34 0 (x2 ||| x1).toNatClampNeg q11))) (if_neg hg12) ?_
              cases h
              exact am_Go.fg (by exact ⟨rfl, ⟨rfl, ⟨rfl, ⟨rfl, trivial⟩⟩⟩⟩) key
            · have h := h13
              by_cases hc7 : (m.1 34 0 (x2 ||| x1).toNatClampNeg) ≠ (-1 : Int32)
              · rw [if_pos hc7] at h
                refine am_Go.c1 htb (S' := (57, [some (.inr (.inr (some (6, 0)))), some (.inl x1), some (.inl x2), some (.inl (x2 ||| x1)), some (.inl ((m.1 34 0 x2.toNatClampNeg) + (1 : Int32)))], [.inl (x2 ||| x1), .inr (.inr (some (34, 0)))], am_mk m)) (if_pos hc7) ?_
                refine am_Go.n htb 3 (S' := (62, [some (.inr (.inr (some (6, 0)))), some (.inl x1), some (.inl x2), some (.inl (x2 ||| x1)), some (.inl ((m.1 34 0 x2.toNatClampNeg) + (1 : Int32)))], [.inl (x2 ||| x1), .inr (.inr (some (34, 0))), .inl (x2 ||| x1), .inr (.inr (some (34, 0)))], am_mk m)) rfl ?_
                obtain ⟨hg8, h⟩ := am_ck_some h
                refine am_Go.c1 htb (S' := (63, [some (.inr (.inr (some (6, 0)))), some (.inl x1), some (.inl x2), some (.inl (x2 ||| x1)), some (.inl ((m.1 34 0 x2.toNatClampNeg) + (1 : Int32)))], [.inl (m.1 34 0 (x2 ||| x1).toNatClampNeg), .inl (x2 ||| x1), .inr (.inr (some (34, 0)))], am_mk m)) (if_neg hg8) ?_
                refine am_Go.n htb 1 (S' := (65, [some (.inr (.inr (some (6, 0)))), some (.inl x1), some (.inl x2), some (.inl (x2 ||| x1)), some (.inl ((m.1 34 0 x2.toNatClampNeg) + (1 : Int32)))], [.inl ((m.1 34 0 x2.toNatClampNeg) + (1 : Int32)), .inl (m.1 34 0 (x2 ||| x1).toNatClampNeg), .inl (x2 ||| x1), .inr (.inr (some (34, 0)))], am_mk m)) rfl ?_
                obtain ⟨r9, h10, h⟩ := am_bd h
                refine am_Go.cl htb rfl (ex_J9_min_7cf53 d (by omega) (m.1 34 0 (x2 ||| x1).toNatClampNeg) ((m.1 34 0 x2.toNatClampNeg) + (1 : Int32)) m r9 h10) ?_
                show am_Go d 78 (68, [some (.inr (.inr (some (6, 0)))), some (.inl x1), some (.inl x2), some (.inl (x2 ||| x1)), some (.inl ((m.1 34 0 x2.toNatClampNeg) + (1 : Int32)))], [.inl r9, .inl (x2 ||| x1), .inr (.inr (some (34, 0)))], am_mk m) _ _ _ _
                cases h
                exact am_Go.fg (by exact ⟨rfl, ⟨rfl, ⟨rfl, ⟨rfl, ⟨rfl, trivial⟩⟩⟩⟩⟩) key
              · rw [if_neg hc7] at h
                refine am_Go.c1 htb (S' := (52, [some (.inr (.inr (some (6, 0)))), some (.inl x1), some (.inl x2), some (.inl (x2 ||| x1)), some (.inl ((m.1 34 0 x2.toNatClampNeg) + (1 : Int32)))], [.inl (x2 ||| x1), .inr (.inr (some (34, 0)))], am_mk m)) (if_neg hc7) ?_
                refine am_Go.n htb 2 (S' := (68, [some (.inr (.inr (some (6, 0)))), some (.inl x1), some (.inl x2), some (.inl (x2 ||| x1)), some (.inl ((m.1 34 0 x2.toNatClampNeg) + (1 : Int32)))], [.inl ((m.1 34 0 x2.toNatClampNeg) + (1 : Int32)), .inl (x2 ||| x1), .inr (.inr (some (34, 0)))], am_mk m)) rfl ?_
                cases h
                exact am_Go.fg (by exact ⟨rfl, ⟨rfl, ⟨rfl, ⟨rfl, ⟨rfl, trivial⟩⟩⟩⟩⟩) key
set_option maxRecDepth 100000 in
theorem ex_X6_addTable (d : Nat) (hd : 2 ≤ d) (a1 : Int32) (m : am_m) (t : am_m) (h : fn_X6_addTable a1 m = some t) : am_Ex am_cod d 78 [.inr (.inr (some (6, 0))), .inl a1] (am_mk m) (none) (am_mk t) 0 0 := by
  obtain ⟨d, rfl⟩ : ∃ e, d = e + 1 := ⟨d - 1, by omega⟩
  have htb : am_tab 78 = at_78 := rfl
  refine ⟨Nat.le_of_ble_eq_true rfl, ?_⟩
  unfold fn_X6_addTable at h
  show am_Go d 78 (0, [some (.inr (.inr (some (6, 0)))), some (.inl a1), none, none, none], [], am_mk m) _ _ 0 0
  refine am_Go.n htb 2 (S' := (3, [some (.inr (.inr (some (6, 0)))), some (.inl a1), some (.inl 127), none, none], [], am_mk m)) rfl ?_
  obtain ⟨q16, h17, h⟩ := am_bd h
  refine lt_X6_addTable_3 _ hd (h := h17) (hk := ?_)
  cases h
  exact am_Go.rt htb rfl
-- X6_fewestFeeding
set_option maxRecDepth 100000 in
theorem lt_X6_fewestFeeding_2 (d : Nat) (hd : 3 ≤ d + 1) {r : Option am_V} {M' : am_M} {kc ks : Nat} {n : Nat} {x1 : Int32} {x2 : Int32} {m : am_m} {t : am_m} (h : lp_X6_fewestFeeding_2 n x1 x2 m = some t) (hk : am_Go d 77 (21, [some (.inr (.inr (some (6, 0)))), some (.inl x1), none], [], am_mk t) r M' kc ks) : am_Go d 77 (2, [some (.inr (.inr (some (6, 0)))), some (.inl x1), some (.inl x2)], [], am_mk m) r M' kc ks := by
  have htb : am_tab 77 = at_77 := rfl
  induction n generalizing x2 m with
  | zero => cases h
  | succ n ih =>
    unfold lp_X6_fewestFeeding_2 at h
    refine am_Go.n htb 2 (S' := (5, [some (.inr (.inr (some (6, 0)))), some (.inl x1), some (.inl x2)], [.inl 127, .inl x2], am_mk m)) rfl ?_
    by_cases hc1 : (127 : Int32) < x2
    · rw [if_pos hc1] at h
      refine am_Go.c1 htb (S' := (21, [some (.inr (.inr (some (6, 0)))), some (.inl x1), some (.inl x2)], [], am_mk m)) (if_pos hc1) ?_
      cases h
      exact am_Go.fg (by exact ⟨rfl, ⟨rfl, trivial⟩⟩) hk
    · rw [if_neg hc1] at h
      refine am_Go.c1 htb (S' := (8, [some (.inr (.inr (some (6, 0)))), some (.inl x1), some (.inl x2)], [], am_mk m)) (if_neg hc1) ?_
      refine am_Go.n htb 4 (S' := (14, [some (.inr (.inr (some (6, 0)))), some (.inl x1), some (.inl x2)], [.inl (-1), .inl x2, .inr (.inr (some (34, 0)))], am_mk m)) rfl ?_
      obtain ⟨hg2, h⟩ := am_ck_some h
      refine am_Go.c1 htb (S' := (15, [some (.inr (.inr (some (6, 0)))), some (.inl x1), some (.inl x2)], [], am_mk (am_si m 34 0 x2.toNatClampNeg (-1)))) (if_neg hg2) ?_
      refine am_Go.n htb 2 (S' := (2, [some (.inr (.inr (some (6, 0)))), some (.inl x1), some (.inl (x2 + 1))], [], am_mk (am_si m 34 0 x2.toNatClampNeg (-1)))) rfl ?_
      first | exact ih h | exact ih h hk
set_option maxRecDepth 100000 in
theorem lt_X6_fewestFeeding_30 (d : Nat) (hd : 3 ≤ d + 1) {r : Option am_V} {M' : am_M} {kc ks : Nat} {n : Nat} {x1 : Int32} {x2 : Int32} {m : am_m} {t : am_m} (h : lp_X6_fewestFeeding_30 n x1 x2 m = some t) (hk : am_Go d 77 (59, [some (.inr (.inr (some (6, 0)))), some (.inl x1), none], [], am_mk t) r M' kc ks) : am_Go d 77 (30, [some (.inr (.inr (some (6, 0)))), some (.inl x1), some (.inl x2)], [], am_mk m) r M' kc ks := by
  have htb : am_tab 77 = at_77 := rfl
  induction n generalizing x2 m with
  | zero => cases h
  | succ n ih =>
    unfold lp_X6_fewestFeeding_30 at h
    refine am_Go.n htb 2 (S' := (32, [some (.inr (.inr (some (6, 0)))), some (.inl x1), some (.inl x2)], [.inr (.inr (some (6, 0))), .inl x2], am_mk m)) rfl ?_
    obtain ⟨r5, h6, h⟩ := am_bd h
    refine am_Go.cl htb rfl (ex_X6_everybody d (by omega)  m r5 h6) ?_
    show am_Go d 77 (35, [some (.inr (.inr (some (6, 0)))), some (.inl x1), some (.inl x2)], [.inl r5, .inl x2], am_mk m) _ _ _ _
    by_cases hc7 : r5 < x2
    · rw [if_pos hc7] at h
      refine am_Go.c1 htb (S' := (59, [some (.inr (.inr (some (6, 0)))), some (.inl x1), some (.inl x2)], [], am_mk m)) (if_pos hc7) ?_
      cases h
      exact am_Go.fg (by exact ⟨rfl, ⟨rfl, trivial⟩⟩) hk
    · rw [if_neg hc7] at h
      refine am_Go.c1 htb (S' := (38, [some (.inr (.inr (some (6, 0)))), some (.inl x1), some (.inl x2)], [], am_mk m)) (if_neg hc7) ?_
      refine am_Go.n htb 2 (S' := (40, [some (.inr (.inr (some (6, 0)))), some (.inl x1), some (.inl x2)], [.inl x2, .inr (.inr (some (6, 0)))], am_mk m)) rfl ?_
      obtain ⟨r8, h9, h⟩ := am_bd h
      refine am_Go.cl htb rfl (ex_X6_isTable d (by omega) x2 m r8 h9) ?_
      show am_Go d 77 (43, [some (.inr (.inr (some (6, 0)))), some (.inl x1), some (.inl x2)], [.inl r8], am_mk m) _ _ _ _
      obtain ⟨q13, h14, h⟩ := am_bd h
      refine am_Go.cut (S := (53, [some (.inr (.inr (some (6, 0)))), some (.inl x1), some (.inl x2)], [], am_mk q13)) ?_ (fun key => ?_)
      · refine am_Go.n htb 2 (S' := (30, [some (.inr (.inr (some (6, 0)))), some (.inl x1), some (.inl (x2 + 1))], [], am_mk q13)) rfl ?_
        first | exact ih h | exact ih h hk
      · have h := h14
        by_cases hc10 : r8 = 0
        · rw [if_pos hc10] at h
          refine am_Go.c1 htb (S' := (53, [some (.inr (.inr (some (6, 0)))), some (.inl x1), some (.inl x2)], [], am_mk m)) (if_pos hc10) ?_
          cases h
          exact am_Go.fg (by exact ⟨rfl, ⟨rfl, ⟨rfl, trivial⟩⟩⟩) key
        · rw [if_neg hc10] at h
          refine am_Go.c1 htb (S' := (46, [some (.inr (.inr (some (6, 0)))), some (.inl x1), some (.inl x2)], [], am_mk m)) (if_neg hc10) ?_
          refine am_Go.n htb 4 (S' := (50, [some (.inr (.inr (some (6, 0)))), some (.inl x1), some (.inl x2)], [.inl (x2 &&& x1), .inr (.inr (some (6, 0)))], am_mk m)) rfl ?_
          obtain ⟨r11, h12, h⟩ := am_bd h
          refine am_Go.cl htb rfl (ex_X6_addTable d (by omega) (x2 &&& x1) m r11 h12) ?_
          show am_Go d 77 (53, [some (.inr (.inr (some (6, 0)))), some (.inl x1), some (.inl x2)], [], am_mk r11) _ _ _ _
          cases h
          exact am_Go.fg (by exact ⟨rfl, ⟨rfl, ⟨rfl, trivial⟩⟩⟩) key
set_option maxRecDepth 100000 in
theorem ex_X6_fewestFeeding (d : Nat) (hd : 3 ≤ d) (a1 : Int32) (m : am_m) (t : Int32 × am_m) (h : fn_X6_fewestFeeding a1 m = some t) : am_Ex am_cod d 77 [.inr (.inr (some (6, 0))), .inl a1] (am_mk m) (some (.inl t.1)) (am_mk t.2) 0 0 := by
  obtain ⟨d, rfl⟩ : ∃ e, d = e + 1 := ⟨d - 1, by omega⟩
  have htb : am_tab 77 = at_77 := rfl
  refine ⟨Nat.le_of_ble_eq_true rfl, ?_⟩
  unfold fn_X6_fewestFeeding at h
  show am_Go d 77 (0, [some (.inr (.inr (some (6, 0)))), some (.inl a1), none], [], am_mk m) _ _ 0 0
  refine am_Go.n htb 2 (S' := (2, [some (.inr (.inr (some (6, 0)))), some (.inl a1), some (.inl 0)], [], am_mk m)) rfl ?_
  obtain ⟨q3, h4, h⟩ := am_bd h
  refine lt_X6_fewestFeeding_2 _ hd (h := h4) (hk := ?_)
  refine am_Go.n htb 7 (S' := (30, [some (.inr (.inr (some (6, 0)))), some (.inl a1), some (.inl 1)], [], am_mk (am_si q3 34 0 0 0))) rfl ?_
  obtain ⟨q15, h16, h⟩ := am_bd h
  refine lt_X6_fewestFeeding_30 _ hd (h := h16) (hk := ?_)
  refine am_Go.n htb 1 (S' := (60, [some (.inr (.inr (some (6, 0)))), some (.inl a1), none], [.inl a1], am_mk q15)) rfl ?_
  by_cases hc17 : a1 < 0
  · rw [if_pos hc17] at h
    refine am_Go.c1 htb (S' := (78, [some (.inr (.inr (some (6, 0)))), some (.inl a1), none], [], am_mk q15)) (if_pos hc17) ?_
    refine am_Go.n htb 1 (S' := (79, [some (.inr (.inr (some (6, 0)))), some (.inl a1), none], [.inl (-1)], am_mk q15)) rfl ?_
    cases h
    exact am_Go.rt htb rfl
  · rw [if_neg hc17] at h
    refine am_Go.c1 htb (S' := (63, [some (.inr (.inr (some (6, 0)))), some (.inl a1), none], [], am_mk q15)) (if_neg hc17) ?_
    refine am_Go.n htb 2 (S' := (66, [some (.inr (.inr (some (6, 0)))), some (.inl a1), none], [.inl 127, .inl a1], am_mk q15)) rfl ?_
    by_cases hc18 : (127 : Int32) < a1
    · rw [if_pos hc18] at h
      refine am_Go.c1 htb (S' := (78, [some (.inr (.inr (some (6, 0)))), some (.inl a1), none], [], am_mk q15)) (if_pos hc18) ?_
      refine am_Go.n htb 1 (S' := (79, [some (.inr (.inr (some (6, 0)))), some (.inl a1), none], [.inl (-1)], am_mk q15)) rfl ?_
      cases h
      exact am_Go.rt htb rfl
    · rw [if_neg hc18] at h
      refine am_Go.c1 htb (S' := (69, [some (.inr (.inr (some (6, 0)))), some (.inl a1), none], [], am_mk q15)) (if_neg hc18) ?_
      refine am_Go.n htb 3 (S' := (74, [some (.inr (.inr (some (6, 0)))), some (.inl a1), none], [.inl a1, .inr (.inr (some (34, 0)))], am_mk q15)) rfl ?_
      obtain ⟨hg19, h⟩ := am_ck_some h
      refine am_Go.c1 htb (S' := (75, [some (.inr (.inr (some (6, 0)))), some (.inl a1), none], [.inl (q15.1 34 0 a1.toNatClampNeg)], am_mk q15)) (if_neg hg19) ?_
      refine am_Go.n htb 1 (S' := (79, [some (.inr (.inr (some (6, 0)))), some (.inl a1), none], [.inl (q15.1 34 0 a1.toNatClampNeg)], am_mk q15)) rfl ?_
      cases h
      exact am_Go.rt htb rfl
-- X6_isStepAhead
set_option maxRecDepth 100000 in
theorem lt_X6_isStepAhead_2 (d : Nat) (hd : 1 ≤ d + 1) {r : Option am_V} {M' : am_M} {kc ks : Nat} {n : Nat} {x1 : Int32} {x2 : Int32} {x3 : Int32} {m : am_m} {t : Sum (Unit) (Int32)} (h : lp_X6_isStepAhead_2 n x1 x2 x3 m = some t) (hk : ∀ t', t = .inl t' → am_Go d 80 (42, [some (.inr (.inr (some (6, 0)))), some (.inl x1), some (.inl x2), none], [], am_mk m) r M' kc ks) (hr : ∀ t', t = .inr t' → r = some (.inl t') ∧ M' = am_mk m ∧ kc = 0 ∧ ks = 0) : am_Go d 80 (2, [some (.inr (.inr (some (6, 0)))), some (.inl x1), some (.inl x2), some (.inl x3)], [], am_mk m) r M' kc ks := by
  have htb : am_tab 80 = at_80 := rfl
  induction n generalizing x3 with
  | zero => cases h
  | succ n ih =>
    unfold lp_X6_isStepAhead_2 at h
    refine am_Go.n htb 3 (S' := (7, [some (.inr (.inr (some (6, 0)))), some (.inl x1), some (.inl x2), some (.inl x3)], [.inl (m.1 6 0 0), .inl x3], am_mk m)) rfl ?_
    by_cases hc1 : (m.1 6 0 0) ≤ x3
    · rw [if_pos hc1] at h
      refine am_Go.c1 htb (S' := (42, [some (.inr (.inr (some (6, 0)))), some (.inl x1), some (.inl x2), some (.inl x3)], [], am_mk m)) (if_pos hc1) ?_
      cases h
      exact am_Go.fg (by exact ⟨rfl, ⟨rfl, ⟨rfl, trivial⟩⟩⟩) (hk _ rfl)
    · rw [if_neg hc1] at h
      refine am_Go.c1 htb (S' := (10, [some (.inr (.inr (some (6, 0)))), some (.inl x1), some (.inl x2), some (.inl x3)], [], am_mk m)) (if_neg hc1) ?_
      refine am_Go.n htb 3 (S' := (15, [some (.inr (.inr (some (6, 0)))), some (.inl x1), some (.inl x2), some (.inl x3)], [.inl x3, .inr (.inr (some (32, 0)))], am_mk m)) rfl ?_
      obtain ⟨hg2, h⟩ := am_ck_some h
      refine am_Go.c1 htb (S' := (16, [some (.inr (.inr (some (6, 0)))), some (.inl x1), some (.inl x2), some (.inl x3)], [.inl (m.1 32 0 x3.toNatClampNeg)], am_mk m)) (if_neg hg2) ?_
      refine am_Go.n htb 1 (S' := (17, [some (.inr (.inr (some (6, 0)))), some (.inl x1), some (.inl x2), some (.inl x3)], [.inl x2, .inl (m.1 32 0 x3.toNatClampNeg)], am_mk m)) rfl ?_
      by_cases hc3 : (m.1 32 0 x3.toNatClampNeg) ≠ x2
      · rw [if_pos hc3] at h
        refine am_Go.c1 htb (S' := (36, [some (.inr (.inr (some (6, 0)))), some (.inl x1), some (.inl x2), some (.inl x3)], [], am_mk m)) (if_pos hc3) ?_
        refine am_Go.n htb 2 (S' := (2, [some (.inr (.inr (some (6, 0)))), some (.inl x1), some (.inl x2), some (.inl (x3 + 1))], [], am_mk m)) rfl ?_
        first | exact ih h | exact ih h hk | exact ih h hr | exact ih h hk hr
      · rw [if_neg hc3] at h
        refine am_Go.c1 htb (S' := (20, [some (.inr (.inr (some (6, 0)))), some (.inl x1), some (.inl x2), some (.inl x3)], [], am_mk m)) (if_neg hc3) ?_
        refine am_Go.n htb 3 (S' := (25, [some (.inr (.inr (some (6, 0)))), some (.inl x1), some (.inl x2), some (.inl x3)], [.inl x1, .inr (.inr (some (30, 0)))], am_mk m)) rfl ?_
        obtain ⟨hg4, h⟩ := am_ck_some h
        refine am_Go.c1 htb (S' := (26, [some (.inr (.inr (some (6, 0)))), some (.inl x1), some (.inl x2), some (.inl x3)], [.inl (m.1 30 0 x1.toNatClampNeg)], am_mk m)) (if_neg hg4) ?_
        refine am_Go.n htb 5 (S' := (31, [some (.inr (.inr (some (6, 0)))), some (.inl x1), some (.inl x2), some (.inl x3)], [.inl 1, .inl (((m.1 30 0 x1.toNatClampNeg) >>> (x3 &&& 31)) &&& (1 : Int32))], am_mk m)) rfl ?_
        by_cases hc5 : (((m.1 30 0 x1.toNatClampNeg) >>> (x3 &&& 31)) &&& (1 : Int32)) ≠ (1 : Int32)
        · rw [if_pos hc5] at h
          refine am_Go.c1 htb (S' := (36, [some (.inr (.inr (some (6, 0)))), some (.inl x1), some (.inl x2), some (.inl x3)], [], am_mk m)) (if_pos hc5) ?_
          refine am_Go.n htb 2 (S' := (2, [some (.inr (.inr (some (6, 0)))), some (.inl x1), some (.inl x2), some (.inl (x3 + 1))], [], am_mk m)) rfl ?_
          first | exact ih h | exact ih h hk | exact ih h hr | exact ih h hk hr
        · rw [if_neg hc5] at h
          refine am_Go.c1 htb (S' := (34, [some (.inr (.inr (some (6, 0)))), some (.inl x1), some (.inl x2), some (.inl x3)], [], am_mk m)) (if_neg hc5) ?_
          refine am_Go.n htb 1 (S' := (35, [some (.inr (.inr (some (6, 0)))), some (.inl x1), some (.inl x2), some (.inl x3)], [.inl 1], am_mk m)) rfl ?_
          cases h
          obtain ⟨rfl, rfl, rfl, rfl⟩ := hr _ rfl
          exact am_Go.rt htb rfl
set_option maxRecDepth 100000 in
theorem ex_X6_isStepAhead (d : Nat) (hd : 1 ≤ d) (a1 : Int32) (a2 : Int32) (m : am_m) (t : Int32) (h : fn_X6_isStepAhead a1 a2 m = some t) : am_Ex am_cod d 80 [.inr (.inr (some (6, 0))), .inl a1, .inl a2] (am_mk m) (some (.inl t)) (am_mk m) 0 0 := by
  obtain ⟨d, rfl⟩ : ∃ e, d = e + 1 := ⟨d - 1, by omega⟩
  have htb : am_tab 80 = at_80 := rfl
  refine ⟨Nat.le_of_ble_eq_true rfl, ?_⟩
  unfold fn_X6_isStepAhead at h
  show am_Go d 80 (0, [some (.inr (.inr (some (6, 0)))), some (.inl a1), some (.inl a2), none], [], am_mk m) _ _ 0 0
  refine am_Go.n htb 2 (S' := (2, [some (.inr (.inr (some (6, 0)))), some (.inl a1), some (.inl a2), some (.inl 0)], [], am_mk m)) rfl ?_
  obtain ⟨w9, h7, h⟩ := am_bd h
  refine lt_X6_isStepAhead_2 _ hd (h := h7) (hk := ?_) (hr := ?_)
  · intro q6 he
    subst he
    dsimp only at h
    refine am_Go.n htb 1 (S' := (43, [some (.inr (.inr (some (6, 0)))), some (.inl a1), some (.inl a2), none], [.inl 0], am_mk m)) rfl ?_
    cases h
    exact am_Go.rt htb rfl
  · intro rr8 he
    subst he
    cases h
    exact ⟨rfl, rfl, rfl, rfl⟩
-- X6_stepsTo
set_option maxRecDepth 100000 in
theorem lt_X6_stepsTo_20 (d : Nat) (hd : 2 ≤ d + 1) {r : Option am_V} {M' : am_M} {kc ks : Nat} {n : Nat} {x1 : Int32} {x2 : Int32} {x3 : Int32} {m : am_m} {t : am_m} (h : lp_X6_stepsTo_20 n x1 x2 x3 m = some t) (hk : am_Go d 79 (41, [some (.inr (.inr (some (6, 0)))), some (.inl x1), some (.inl x2), none, none], [], am_mk t) r M' kc ks) : am_Go d 79 (20, [some (.inr (.inr (some (6, 0)))), some (.inl x1), some (.inl x2), some (.inl x3), none], [], am_mk m) r M' kc ks := by
  have htb : am_tab 79 = at_79 := rfl
  induction n generalizing x3 m with
  | zero => cases h
  | succ n ih =>
    unfold lp_X6_stepsTo_20 at h
    refine am_Go.n htb 3 (S' := (25, [some (.inr (.inr (some (6, 0)))), some (.inl x1), some (.inl x2), some (.inl x3), none], [.inl (m.1 6 0 0), .inl x3], am_mk m)) rfl ?_
    by_cases hc7 : (m.1 6 0 0) ≤ x3
    · rw [if_pos hc7] at h
      refine am_Go.c1 htb (S' := (41, [some (.inr (.inr (some (6, 0)))), some (.inl x1), some (.inl x2), some (.inl x3), none], [], am_mk m)) (if_pos hc7) ?_
      cases h
      exact am_Go.fg (by exact ⟨rfl, ⟨rfl, ⟨rfl, trivial⟩⟩⟩) hk
    · rw [if_neg hc7] at h
      refine am_Go.c1 htb (S' := (28, [some (.inr (.inr (some (6, 0)))), some (.inl x1), some (.inl x2), some (.inl x3), none], [], am_mk m)) (if_neg hc7) ?_
      refine am_Go.n htb 4 (S' := (34, [some (.inr (.inr (some (6, 0)))), some (.inl x1), some (.inl x2), some (.inl x3), none], [.inl (-1), .inl x3, .inr (.inr (some (32, 0)))], am_mk m)) rfl ?_
      obtain ⟨hg8, h⟩ := am_ck_some h
      refine am_Go.c1 htb (S' := (35, [some (.inr (.inr (some (6, 0)))), some (.inl x1), some (.inl x2), some (.inl x3), none], [], am_mk (am_si m 32 0 x3.toNatClampNeg (-1)))) (if_neg hg8) ?_
      refine am_Go.n htb 2 (S' := (20, [some (.inr (.inr (some (6, 0)))), some (.inl x1), some (.inl x2), some (.inl (x3 + 1)), none], [], am_mk (am_si m 32 0 x3.toNatClampNeg (-1)))) rfl ?_
      first | exact ih h | exact ih h hk
set_option maxRecDepth 100000 in
theorem lt_X6_stepsTo_61 (d : Nat) (hd : 2 ≤ d + 1) {r : Option am_V} {M' : am_M} {kc ks : Nat} {n : Nat} {x1 : Int32} {x3 : Int32} {x4 : Int32} {m : am_m} {t : am_m} (h : lp_X6_stepsTo_61 n x1 x3 x4 m = some t) (hk : am_Go d 79 (107, [some (.inr (.inr (some (6, 0)))), some (.inl x1), none, some (.inl x3), none], [], am_mk t) r M' kc ks) : am_Go d 79 (61, [some (.inr (.inr (some (6, 0)))), some (.inl x1), none, some (.inl x3), some (.inl x4)], [], am_mk m) r M' kc ks := by
  have htb : am_tab 79 = at_79 := rfl
  induction n generalizing x4 m with
  | zero => cases h
  | succ n ih =>
    unfold lp_X6_stepsTo_61 at h
    refine am_Go.n htb 3 (S' := (67, [some (.inr (.inr (some (6, 0)))), some (.inl x1), none, some (.inl x3), some (.inl x4)], [.inl (m.1 6 0 0), .inl x4], am_mk m)) rfl ?_
    by_cases hc13 : (m.1 6 0 0) ≤ x4
    · rw [if_pos hc13] at h
      refine am_Go.c1 htb (S' := (107, [some (.inr (.inr (some (6, 0)))), some (.inl x1), none, some (.inl x3), some (.inl x4)], [], am_mk m)) (if_pos hc13) ?_
      cases h
      exact am_Go.fg (by exact ⟨rfl, ⟨rfl, ⟨rfl, trivial⟩⟩⟩) hk
    · rw [if_neg hc13] at h
      refine am_Go.c1 htb (S' := (70, [some (.inr (.inr (some (6, 0)))), some (.inl x1), none, some (.inl x3), some (.inl x4)], [], am_mk m)) (if_neg hc13) ?_
      refine am_Go.n htb 3 (S' := (76, [some (.inr (.inr (some (6, 0)))), some (.inl x1), none, some (.inl x3), some (.inl x4)], [.inl x4, .inr (.inr (some (32, 0)))], am_mk m)) rfl ?_
      obtain ⟨hg14, h⟩ := am_ck_some h
      refine am_Go.c1 htb (S' := (77, [some (.inr (.inr (some (6, 0)))), some (.inl x1), none, some (.inl x3), some (.inl x4)], [.inl (m.1 32 0 x4.toNatClampNeg)], am_mk m)) (if_neg hg14) ?_
      refine am_Go.n htb 1 (S' := (78, [some (.inr (.inr (some (6, 0)))), some (.inl x1), none, some (.inl x3), some (.inl x4)], [.inl (-1), .inl (m.1 32 0 x4.toNatClampNeg)], am_mk m)) rfl ?_
      obtain ⟨q20, h21, h⟩ := am_bd h
      refine am_Go.cut (S := (101, [some (.inr (.inr (some (6, 0)))), some (.inl x1), none, some (.inl x3), some (.inl x4)], [], am_mk q20)) ?_ (fun key => ?_)
      · refine am_Go.n htb 2 (S' := (61, [some (.inr (.inr (some (6, 0)))), some (.inl x1), none, some (.inl x3), some (.inl (x4 + 1))], [], am_mk q20)) rfl ?_
        first | exact ih h | exact ih h hk
      · have h := h21
        by_cases hc15 : (m.1 32 0 x4.toNatClampNeg) ≠ (-1 : Int32)
        · rw [if_pos hc15] at h
          refine am_Go.c1 htb (S' := (101, [some (.inr (.inr (some (6, 0)))), some (.inl x1), none, some (.inl x3), some (.inl x4)], [], am_mk m)) (if_pos hc15) ?_
          cases h
          exact am_Go.fg (by exact ⟨rfl, ⟨rfl, ⟨rfl, ⟨rfl, trivial⟩⟩⟩⟩) key
        · rw [if_neg hc15] at h
          refine am_Go.c1 htb (S' := (81, [some (.inr (.inr (some (6, 0)))), some (.inl x1), none, some (.inl x3), some (.inl x4)], [], am_mk m)) (if_neg hc15) ?_
          refine am_Go.n htb 3 (S' := (85, [some (.inr (.inr (some (6, 0)))), some (.inl x1), none, some (.inl x3), some (.inl x4)], [.inl x3, .inl x4, .inr (.inr (some (6, 0)))], am_mk m)) rfl ?_
          obtain ⟨r16, h17, h⟩ := am_bd h
          refine am_Go.cl htb rfl (ex_X6_isStepAhead d (by omega) x4 x3 m r16 h17) ?_
          show am_Go d 79 (88, [some (.inr (.inr (some (6, 0)))), some (.inl x1), none, some (.inl x3), some (.inl x4)], [.inl r16], am_mk m) _ _ _ _
          by_cases hc18 : r16 = 0
          · rw [if_pos hc18] at h
            refine am_Go.c1 htb (S' := (101, [some (.inr (.inr (some (6, 0)))), some (.inl x1), none, some (.inl x3), some (.inl x4)], [], am_mk m)) (if_pos hc18) ?_
            cases h
            exact am_Go.fg (by exact ⟨rfl, ⟨rfl, ⟨rfl, ⟨rfl, trivial⟩⟩⟩⟩) key
          · rw [if_neg hc18] at h
            refine am_Go.c1 htb (S' := (91, [some (.inr (.inr (some (6, 0)))), some (.inl x1), none, some (.inl x3), some (.inl x4)], [], am_mk m)) (if_neg hc18) ?_
            refine am_Go.n htb 6 (S' := (100, [some (.inr (.inr (some (6, 0)))), some (.inl x1), none, some (.inl x3), some (.inl x4)], [.inl (x3 + (1 : Int32)), .inl x4, .inr (.inr (some (32, 0)))], am_mk m)) rfl ?_
            obtain ⟨hg19, h⟩ := am_ck_some h
            refine am_Go.c1 htb (S' := (101, [some (.inr (.inr (some (6, 0)))), some (.inl x1), none, some (.inl x3), some (.inl x4)], [], am_mk (am_si m 32 0 x4.toNatClampNeg (x3 + (1 : Int32))))) (if_neg hg19) ?_
            cases h
            exact am_Go.fg (by exact ⟨rfl, ⟨rfl, ⟨rfl, ⟨rfl, trivial⟩⟩⟩⟩) key
set_option maxRecDepth 100000 in
theorem lt_X6_stepsTo_50 (d : Nat) (hd : 2 ≤ d + 1) {r : Option am_V} {M' : am_M} {kc ks : Nat} {n : Nat} {x1 : Int32} {x3 : Int32} {m : am_m} {t : am_m} (h : lp_X6_stepsTo_50 n x1 x3 m = some t) (hk : am_Go d 79 (113, [some (.inr (.inr (some (6, 0)))), some (.inl x1), none, none, none], [], am_mk t) r M' kc ks) : am_Go d 79 (50, [some (.inr (.inr (some (6, 0)))), some (.inl x1), none, some (.inl x3), none], [], am_mk m) r M' kc ks := by
  have htb : am_tab 79 = at_79 := rfl
  induction n generalizing x3 m with
  | zero => cases h
  | succ n ih =>
    unfold lp_X6_stepsTo_50 at h
    refine am_Go.n htb 3 (S' := (55, [some (.inr (.inr (some (6, 0)))), some (.inl x1), none, some (.inl x3), none], [.inl (m.1 6 0 0), .inl x3], am_mk m)) rfl ?_
    by_cases hc12 : (m.1 6 0 0) ≤ x3
    · rw [if_pos hc12] at h
      refine am_Go.c1 htb (S' := (113, [some (.inr (.inr (some (6, 0)))), some (.inl x1), none, some (.inl x3), none], [], am_mk m)) (if_pos hc12) ?_
      cases h
      exact am_Go.fg (by exact ⟨rfl, ⟨rfl, trivial⟩⟩) hk
    · rw [if_neg hc12] at h
      refine am_Go.c1 htb (S' := (58, [some (.inr (.inr (some (6, 0)))), some (.inl x1), none, some (.inl x3), none], [], am_mk m)) (if_neg hc12) ?_
      refine am_Go.n htb 2 (S' := (61, [some (.inr (.inr (some (6, 0)))), some (.inl x1), none, some (.inl x3), some (.inl 0)], [], am_mk m)) rfl ?_
      obtain ⟨q22, h23, h⟩ := am_bd h
      refine lt_X6_stepsTo_61 _ hd (h := h23) (hk := ?_)
      refine am_Go.n htb 2 (S' := (50, [some (.inr (.inr (some (6, 0)))), some (.inl x1), none, some (.inl (x3 + 1)), none], [], am_mk q22)) rfl ?_
      first | exact ih h | exact ih h hk
set_option maxRecDepth 100000 in
theorem ex_X6_stepsTo (d : Nat) (hd : 2 ≤ d) (a1 : Int32) (a2 : Int32) (m : am_m) (t : Int32 × am_m) (h : fn_X6_stepsTo a1 a2 m = some t) : am_Ex am_cod d 79 [.inr (.inr (some (6, 0))), .inl a1, .inl a2] (am_mk m) (some (.inl t.1)) (am_mk t.2) 0 0 := by
  obtain ⟨d, rfl⟩ : ∃ e, d = e + 1 := ⟨d - 1, by omega⟩
  have htb : am_tab 79 = at_79 := rfl
  refine ⟨Nat.le_of_ble_eq_true rfl, ?_⟩
  unfold fn_X6_stepsTo at h
  show am_Go d 79 (0, [some (.inr (.inr (some (6, 0)))), some (.inl a1), some (.inl a2), none, none], [], am_mk m) _ _ 0 0
  refine am_Go.n htb 2 (S' := (2, [some (.inr (.inr (some (6, 0)))), some (.inl a1), some (.inl a2), none, none], [.inl a1, .inr (.inr (some (6, 0)))], am_mk m)) rfl ?_
  obtain ⟨r1, h2, h⟩ := am_bd h
  refine am_Go.cl htb rfl (ex_X6_isThere d (by omega) a1 m r1 h2) ?_
  show am_Go d 79 (5, [some (.inr (.inr (some (6, 0)))), some (.inl a1), some (.inl a2), none, none], [.inl r1], am_mk m) _ _ _ _
  by_cases hc3 : r1 = 0
  · rw [if_pos hc3] at h
    refine am_Go.c1 htb (S' := (16, [some (.inr (.inr (some (6, 0)))), some (.inl a1), some (.inl a2), none, none], [], am_mk m)) (if_pos hc3) ?_
    refine am_Go.n htb 1 (S' := (17, [some (.inr (.inr (some (6, 0)))), some (.inl a1), some (.inl a2), none, none], [.inl (-1)], am_mk m)) rfl ?_
    cases h
    exact am_Go.rt htb rfl
  · rw [if_neg hc3] at h
    refine am_Go.c1 htb (S' := (8, [some (.inr (.inr (some (6, 0)))), some (.inl a1), some (.inl a2), none, none], [], am_mk m)) (if_neg hc3) ?_
    refine am_Go.n htb 2 (S' := (10, [some (.inr (.inr (some (6, 0)))), some (.inl a1), some (.inl a2), none, none], [.inl a2, .inr (.inr (some (6, 0)))], am_mk m)) rfl ?_
    obtain ⟨r4, h5, h⟩ := am_bd h
    refine am_Go.cl htb rfl (ex_X6_isThere d (by omega) a2 m r4 h5) ?_
    show am_Go d 79 (13, [some (.inr (.inr (some (6, 0)))), some (.inl a1), some (.inl a2), none, none], [.inl r4], am_mk m) _ _ _ _
    by_cases hc6 : r4 ≠ 0
    · rw [if_pos hc6] at h
      refine am_Go.c1 htb (S' := (18, [some (.inr (.inr (some (6, 0)))), some (.inl a1), some (.inl a2), none, none], [], am_mk m)) (if_pos hc6) ?_
      refine am_Go.n htb 2 (S' := (20, [some (.inr (.inr (some (6, 0)))), some (.inl a1), some (.inl a2), some (.inl 0), none], [], am_mk m)) rfl ?_
      obtain ⟨q9, h10, h⟩ := am_bd h
      refine lt_X6_stepsTo_20 _ hd (h := h10) (hk := ?_)
      refine am_Go.n htb 4 (S' := (47, [some (.inr (.inr (some (6, 0)))), some (.inl a1), some (.inl a2), none, none], [.inl 0, .inl a2, .inr (.inr (some (32, 0)))], am_mk q9)) rfl ?_
      obtain ⟨hg11, h⟩ := am_ck_some h
      refine am_Go.c1 htb (S' := (48, [some (.inr (.inr (some (6, 0)))), some (.inl a1), some (.inl a2), none, none], [], am_mk (am_si q9 32 0 a2.toNatClampNeg 0))) (if_neg hg11) ?_
      refine am_Go.n htb 2 (S' := (50, [some (.inr (.inr (some (6, 0)))), some (.inl a1), some (.inl a2), some (.inl 0), none], [], am_mk (am_si q9 32 0 a2.toNatClampNeg 0))) rfl ?_
      refine am_Go.fg (L0 := [some (.inr (.inr (some (6, 0)))), some (.inl a1), none, some (.inl 0), none]) (by exact ⟨rfl, ⟨rfl, ⟨rfl, trivial⟩⟩⟩) ?_
      obtain ⟨q24, h25, h⟩ := am_bd h
      refine lt_X6_stepsTo_50 _ hd (h := h25) (hk := ?_)
      refine am_Go.n htb 3 (S' := (118, [some (.inr (.inr (some (6, 0)))), some (.inl a1), none, none, none], [.inl a1, .inr (.inr (some (32, 0)))], am_mk q24)) rfl ?_
      obtain ⟨hg26, h⟩ := am_ck_some h
      refine am_Go.c1 htb (S' := (119, [some (.inr (.inr (some (6, 0)))), some (.inl a1), none, none, none], [.inl (q24.1 32 0 a1.toNatClampNeg)], am_mk q24)) (if_neg hg26) ?_
      cases h
      exact am_Go.rt htb rfl
    · rw [if_neg hc6] at h
      refine am_Go.c1 htb (S' := (16, [some (.inr (.inr (some (6, 0)))), some (.inl a1), some (.inl a2), none, none], [], am_mk m)) (if_neg hc6) ?_
      refine am_Go.n htb 1 (S' := (17, [some (.inr (.inr (some (6, 0)))), some (.inl a1), some (.inl a2), none, none], [.inl (-1)], am_mk m)) rfl ?_
      cases h
      exact am_Go.rt htb rfl
-- X6_nearer
set_option maxRecDepth 100000 in
theorem lt_X6_nearer_2 (d : Nat) (hd : 1 ≤ d + 1) {r : Option am_V} {M' : am_M} {kc ks : Nat} {n : Nat} {x1 : Int32} {x2 : Int32} {m : am_m} {t : Sum (Unit) (Int32)} (h : lp_X6_nearer_2 n x1 x2 m = some t) (hk : ∀ t', t = .inl t' → am_Go d 82 (49, [some (.inr (.inr (some (6, 0)))), some (.inl x1), none], [], am_mk m) r M' kc ks) (hr : ∀ t', t = .inr t' → r = some (.inl t') ∧ M' = am_mk m ∧ kc = 0 ∧ ks = 0) : am_Go d 82 (2, [some (.inr (.inr (some (6, 0)))), some (.inl x1), some (.inl x2)], [], am_mk m) r M' kc ks := by
  have htb : am_tab 82 = at_82 := rfl
  induction n generalizing x2 with
  | zero => cases h
  | succ n ih =>
    unfold lp_X6_nearer_2 at h
    refine am_Go.n htb 3 (S' := (7, [some (.inr (.inr (some (6, 0)))), some (.inl x1), some (.inl x2)], [.inl (m.1 6 0 0), .inl x2], am_mk m)) rfl ?_
    by_cases hc1 : (m.1 6 0 0) ≤ x2
    · rw [if_pos hc1] at h
      refine am_Go.c1 htb (S' := (49, [some (.inr (.inr (some (6, 0)))), some (.inl x1), some (.inl x2)], [], am_mk m)) (if_pos hc1) ?_
      cases h
      exact am_Go.fg (by exact ⟨rfl, ⟨rfl, trivial⟩⟩) (hk _ rfl)
    · rw [if_neg hc1] at h
      refine am_Go.c1 htb (S' := (10, [some (.inr (.inr (some (6, 0)))), some (.inl x1), some (.inl x2)], [], am_mk m)) (if_neg hc1) ?_
      refine am_Go.n htb 3 (S' := (15, [some (.inr (.inr (some (6, 0)))), some (.inl x1), some (.inl x2)], [.inl x1, .inr (.inr (some (30, 0)))], am_mk m)) rfl ?_
      obtain ⟨hg2, h⟩ := am_ck_some h
      refine am_Go.c1 htb (S' := (16, [some (.inr (.inr (some (6, 0)))), some (.inl x1), some (.inl x2)], [.inl (m.1 30 0 x1.toNatClampNeg)], am_mk m)) (if_neg hg2) ?_
      refine am_Go.n htb 5 (S' := (21, [some (.inr (.inr (some (6, 0)))), some (.inl x1), some (.inl x2)], [.inl 1, .inl (((m.1 30 0 x1.toNatClampNeg) >>> (x2 &&& 31)) &&& (1 : Int32))], am_mk m)) rfl ?_
      by_cases hc3 : (((m.1 30 0 x1.toNatClampNeg) >>> (x2 &&& 31)) &&& (1 : Int32)) ≠ (1 : Int32)
      · rw [if_pos hc3] at h
        refine am_Go.c1 htb (S' := (43, [some (.inr (.inr (some (6, 0)))), some (.inl x1), some (.inl x2)], [], am_mk m)) (if_pos hc3) ?_
        refine am_Go.n htb 2 (S' := (2, [some (.inr (.inr (some (6, 0)))), some (.inl x1), some (.inl (x2 + 1))], [], am_mk m)) rfl ?_
        first | exact ih h | exact ih h hk | exact ih h hr | exact ih h hk hr
      · rw [if_neg hc3] at h
        refine am_Go.c1 htb (S' := (24, [some (.inr (.inr (some (6, 0)))), some (.inl x1), some (.inl x2)], [], am_mk m)) (if_neg hc3) ?_
        refine am_Go.n htb 3 (S' := (29, [some (.inr (.inr (some (6, 0)))), some (.inl x1), some (.inl x2)], [.inl x2, .inr (.inr (some (32, 0)))], am_mk m)) rfl ?_
        obtain ⟨hg4, h⟩ := am_ck_some h
        refine am_Go.c1 htb (S' := (30, [some (.inr (.inr (some (6, 0)))), some (.inl x1), some (.inl x2)], [.inl (m.1 32 0 x2.toNatClampNeg)], am_mk m)) (if_neg hg4) ?_
        refine am_Go.n htb 3 (S' := (35, [some (.inr (.inr (some (6, 0)))), some (.inl x1), some (.inl x2)], [.inl x1, .inr (.inr (some (32, 0))), .inl (m.1 32 0 x2.toNatClampNeg)], am_mk m)) rfl ?_
        obtain ⟨hg5, h⟩ := am_ck_some h
        refine am_Go.c1 htb (S' := (36, [some (.inr (.inr (some (6, 0)))), some (.inl x1), some (.inl x2)], [.inl (m.1 32 0 x1.toNatClampNeg), .inl (m.1 32 0 x2.toNatClampNeg)], am_mk m)) (if_neg hg5) ?_
        refine am_Go.n htb 2 (S' := (38, [some (.inr (.inr (some (6, 0)))), some (.inl x1), some (.inl x2)], [.inl ((m.1 32 0 x1.toNatClampNeg) - (1 : Int32)), .inl (m.1 32 0 x2.toNatClampNeg)], am_mk m)) rfl ?_
        by_cases hc6 : (m.1 32 0 x2.toNatClampNeg) ≠ ((m.1 32 0 x1.toNatClampNeg) - (1 : Int32))
        · rw [if_pos hc6] at h
          refine am_Go.c1 htb (S' := (43, [some (.inr (.inr (some (6, 0)))), some (.inl x1), some (.inl x2)], [], am_mk m)) (if_pos hc6) ?_
          refine am_Go.n htb 2 (S' := (2, [some (.inr (.inr (some (6, 0)))), some (.inl x1), some (.inl (x2 + 1))], [], am_mk m)) rfl ?_
          first | exact ih h | exact ih h hk | exact ih h hr | exact ih h hk hr
        · rw [if_neg hc6] at h
          refine am_Go.c1 htb (S' := (41, [some (.inr (.inr (some (6, 0)))), some (.inl x1), some (.inl x2)], [], am_mk m)) (if_neg hc6) ?_
          refine am_Go.n htb 1 (S' := (42, [some (.inr (.inr (some (6, 0)))), some (.inl x1), some (.inl x2)], [.inl x2], am_mk m)) rfl ?_
          cases h
          obtain ⟨rfl, rfl, rfl, rfl⟩ := hr _ rfl
          exact am_Go.rt htb rfl
set_option maxRecDepth 100000 in
theorem ex_X6_nearer (d : Nat) (hd : 1 ≤ d) (a1 : Int32) (m : am_m) (t : Int32) (h : fn_X6_nearer a1 m = some t) : am_Ex am_cod d 82 [.inr (.inr (some (6, 0))), .inl a1] (am_mk m) (some (.inl t)) (am_mk m) 0 0 := by
  obtain ⟨d, rfl⟩ : ∃ e, d = e + 1 := ⟨d - 1, by omega⟩
  have htb : am_tab 82 = at_82 := rfl
  refine ⟨Nat.le_of_ble_eq_true rfl, ?_⟩
  unfold fn_X6_nearer at h
  show am_Go d 82 (0, [some (.inr (.inr (some (6, 0)))), some (.inl a1), none], [], am_mk m) _ _ 0 0
  refine am_Go.n htb 2 (S' := (2, [some (.inr (.inr (some (6, 0)))), some (.inl a1), some (.inl 0)], [], am_mk m)) rfl ?_
  obtain ⟨w10, h8, h⟩ := am_bd h
  refine lt_X6_nearer_2 _ hd (h := h8) (hk := ?_) (hr := ?_)
  · intro q7 he
    subst he
    dsimp only at h
    refine am_Go.n htb 1 (S' := (50, [some (.inr (.inr (some (6, 0)))), some (.inl a1), none], [.inl (-1)], am_mk m)) rfl ?_
    cases h
    exact am_Go.rt htb rfl
  · intro rr9 he
    subst he
    cases h
    exact ⟨rfl, rfl, rfl, rfl⟩
-- X6_stepOf
set_option maxRecDepth 100000 in
theorem lt_X6_stepOf_6 (d : Nat) (hd : 2 ≤ d + 1) {r : Option am_V} {M' : am_M} {kc ks : Nat} {n : Nat} {x2 : Int32} {x3 : Int32} {x4 : Int32} {x5 : Int32} {m : am_m} {t : Int32} (h : lp_X6_stepOf_6 n x2 x3 x4 x5 m = some t) (hk : am_Go d 81 (45, [some (.inr (.inr (some (6, 0)))), none, some (.inl x2), some (.inl x3), some (.inl t), none], [], am_mk m) r M' kc ks) : am_Go d 81 (6, [some (.inr (.inr (some (6, 0)))), none, some (.inl x2), some (.inl x3), some (.inl x4), some (.inl x5)], [], am_mk m) r M' kc ks := by
  have htb : am_tab 81 = at_81 := rfl
  induction n generalizing x4 x5 with
  | zero => cases h
  | succ n ih =>
    unfold lp_X6_stepOf_6 at h
    refine am_Go.n htb 2 (S' := (9, [some (.inr (.inr (some (6, 0)))), none, some (.inl x2), some (.inl x3), some (.inl x4), some (.inl x5)], [.inl x3, .inl x5], am_mk m)) rfl ?_
    by_cases hc1 : x3 < x5
    · rw [if_pos hc1] at h
      refine am_Go.c1 htb (S' := (45, [some (.inr (.inr (some (6, 0)))), none, some (.inl x2), some (.inl x3), some (.inl x4), some (.inl x5)], [], am_mk m)) (if_pos hc1) ?_
      cases h
      exact am_Go.fg (by exact ⟨rfl, ⟨rfl, ⟨rfl, ⟨rfl, trivial⟩⟩⟩⟩) hk
    · rw [if_neg hc1] at h
      refine am_Go.c1 htb (S' := (12, [some (.inr (.inr (some (6, 0)))), none, some (.inl x2), some (.inl x3), some (.inl x4), some (.inl x5)], [], am_mk m)) (if_neg hc1) ?_
      refine am_Go.n htb 2 (S' := (15, [some (.inr (.inr (some (6, 0)))), none, some (.inl x2), some (.inl x3), some (.inl x4), some (.inl x5)], [.inl x4, .inr (.inr (some (6, 0)))], am_mk m)) rfl ?_
      obtain ⟨r2, h3, h⟩ := am_bd h
      refine am_Go.cl htb rfl (ex_X6_isThere d (by omega) x4 m r2 h3) ?_
      show am_Go d 81 (18, [some (.inr (.inr (some (6, 0)))), none, some (.inl x2), some (.inl x3), some (.inl x4), some (.inl x5)], [.inl r2], am_mk m) _ _ _ _
      obtain ⟨q8, h9, h⟩ := am_bd h
      refine am_Go.cut (S := (37, [some (.inr (.inr (some (6, 0)))), none, some (.inl x2), some (.inl x3), some (.inl x4), some (.inl x5)], [.inl q8], am_mk m)) ?_ (fun key => ?_)
      · refine am_Go.n htb 3 (S' := (6, [some (.inr (.inr (some (6, 0)))), none, some (.inl x2), some (.inl x3), some (.inl q8), some (.inl (x5 + 1))], [], am_mk m)) rfl ?_
        first | exact ih h | exact ih h hk
      · have h := h9
        by_cases hc4 : r2 = 0
        · rw [if_pos hc4] at h
          refine am_Go.c1 htb (S' := (36, [some (.inr (.inr (some (6, 0)))), none, some (.inl x2), some (.inl x3), some (.inl x4), some (.inl x5)], [], am_mk m)) (if_pos hc4) ?_
          refine am_Go.n htb 1 (S' := (37, [some (.inr (.inr (some (6, 0)))), none, some (.inl x2), some (.inl x3), some (.inl x4), some (.inl x5)], [.inl (-1)], am_mk m)) rfl ?_
          cases h
          exact am_Go.fg (by exact ⟨rfl, ⟨rfl, ⟨rfl, ⟨rfl, ⟨rfl, trivial⟩⟩⟩⟩⟩) key
        · rw [if_neg hc4] at h
          refine am_Go.c1 htb (S' := (21, [some (.inr (.inr (some (6, 0)))), none, some (.inl x2), some (.inl x3), some (.inl x4), some (.inl x5)], [], am_mk m)) (if_neg hc4) ?_
          refine am_Go.n htb 2 (S' := (24, [some (.inr (.inr (some (6, 0)))), none, some (.inl x2), some (.inl x3), some (.inl x4), some (.inl x5)], [.inl x2, .inl x4], am_mk m)) rfl ?_
          by_cases hc5 : x4 = x2
          · rw [if_pos hc5] at h
            refine am_Go.c1 htb (S' := (36, [some (.inr (.inr (some (6, 0)))), none, some (.inl x2), some (.inl x3), some (.inl x4), some (.inl x5)], [], am_mk m)) (if_pos hc5) ?_
            refine am_Go.n htb 1 (S' := (37, [some (.inr (.inr (some (6, 0)))), none, some (.inl x2), some (.inl x3), some (.inl x4), some (.inl x5)], [.inl (-1)], am_mk m)) rfl ?_
            cases h
            exact am_Go.fg (by exact ⟨rfl, ⟨rfl, ⟨rfl, ⟨rfl, ⟨rfl, trivial⟩⟩⟩⟩⟩) key
          · rw [if_neg hc5] at h
            refine am_Go.c1 htb (S' := (27, [some (.inr (.inr (some (6, 0)))), none, some (.inl x2), some (.inl x3), some (.inl x4), some (.inl x5)], [], am_mk m)) (if_neg hc5) ?_
            refine am_Go.n htb 2 (S' := (30, [some (.inr (.inr (some (6, 0)))), none, some (.inl x2), some (.inl x3), some (.inl x4), some (.inl x5)], [.inl x4, .inr (.inr (some (6, 0)))], am_mk m)) rfl ?_
            obtain ⟨r6, h7, h⟩ := am_bd h
            refine am_Go.cl htb rfl (ex_X6_nearer d (by omega) x4 m r6 h7) ?_
            show am_Go d 81 (33, [some (.inr (.inr (some (6, 0)))), none, some (.inl x2), some (.inl x3), some (.inl x4), some (.inl x5)], [.inl r6], am_mk m) _ _ _ _
            refine am_Go.n htb 1 (S' := (37, [some (.inr (.inr (some (6, 0)))), none, some (.inl x2), some (.inl x3), some (.inl x4), some (.inl x5)], [.inl r6], am_mk m)) rfl ?_
            cases h
            exact am_Go.fg (by exact ⟨rfl, ⟨rfl, ⟨rfl, ⟨rfl, ⟨rfl, trivial⟩⟩⟩⟩⟩) key
set_option maxRecDepth 100000 in
theorem ex_X6_stepOf (d : Nat) (hd : 2 ≤ d) (a1 : Int32) (a2 : Int32) (a3 : Int32) (m : am_m) (t : Int32) (h : fn_X6_stepOf a1 a2 a3 m = some t) : am_Ex am_cod d 81 [.inr (.inr (some (6, 0))), .inl a1, .inl a2, .inl a3] (am_mk m) (some (.inl t)) (am_mk m) 0 0 := by
  obtain ⟨d, rfl⟩ : ∃ e, d = e + 1 := ⟨d - 1, by omega⟩
  have htb : am_tab 81 = at_81 := rfl
  refine ⟨Nat.le_of_ble_eq_true rfl, ?_⟩
  unfold fn_X6_stepOf at h
  show am_Go d 81 (0, [some (.inr (.inr (some (6, 0)))), some (.inl a1), some (.inl a2), some (.inl a3), none, none], [], am_mk m) _ _ 0 0
  refine am_Go.n htb 4 (S' := (6, [some (.inr (.inr (some (6, 0)))), some (.inl a1), some (.inl a2), some (.inl a3), some (.inl a1), some (.inl 0)], [], am_mk m)) rfl ?_
  refine am_Go.fg (L0 := [some (.inr (.inr (some (6, 0)))), none, some (.inl a2), some (.inl a3), some (.inl a1), some (.inl 0)]) (by exact ⟨rfl, ⟨rfl, ⟨rfl, ⟨rfl, ⟨rfl, trivial⟩⟩⟩⟩⟩) ?_
  obtain ⟨q10, h11, h⟩ := am_bd h
  refine lt_X6_stepOf_6 _ hd (h := h11) (hk := ?_)
  refine am_Go.n htb 1 (S' := (47, [some (.inr (.inr (some (6, 0)))), none, some (.inl a2), some (.inl a3), some (.inl q10), none], [.inl q10], am_mk m)) rfl ?_
  cases h
  exact am_Go.rt htb rfl
-- X6_circleOf
set_option maxRecDepth 100000 in
theorem lt_X6_circleOf_20 (d : Nat) (hd : 1 ≤ d + 1) {r : Option am_V} {M' : am_M} {kc ks : Nat} {n : Nat} {x2 : Int32} {x3 : Int32} {x4 : Int32} {x5 : Int32} {x6 : Int32} {m : am_m} {t : Int32} (h : lp_X6_circleOf_20 n x2 x3 x4 x5 x6 m = some t) (hk : am_Go d 84 (102, [some (.inr (.inr (some (6, 0)))), none, some (.inl x2), some (.inl x3), some (.inl t), some (.inl x5), none, none], [], am_mk m) r M' kc ks) : am_Go d 84 (20, [some (.inr (.inr (some (6, 0)))), none, some (.inl x2), some (.inl x3), some (.inl x4), some (.inl x5), some (.inl x6), none], [], am_mk m) r M' kc ks := by
  have htb : am_tab 84 = at_84 := rfl
  induction n generalizing x4 x6 with
  | zero => cases h
  | succ n ih =>
    unfold lp_X6_circleOf_20 at h
    refine am_Go.n htb 3 (S' := (26, [some (.inr (.inr (some (6, 0)))), none, some (.inl x2), some (.inl x3), some (.inl x4), some (.inl x5), some (.inl x6), none], [.inl (m.1 6 0 0), .inl x6], am_mk m)) rfl ?_
    by_cases hc2 : (m.1 6 0 0) ≤ x6
    · rw [if_pos hc2] at h
      refine am_Go.c1 htb (S' := (102, [some (.inr (.inr (some (6, 0)))), none, some (.inl x2), some (.inl x3), some (.inl x4), some (.inl x5), some (.inl x6), none], [], am_mk m)) (if_pos hc2) ?_
      cases h
      exact am_Go.fg (by exact ⟨rfl, ⟨rfl, ⟨rfl, ⟨rfl, ⟨rfl, trivial⟩⟩⟩⟩⟩) hk
    · rw [if_neg hc2] at h
      refine am_Go.c1 htb (S' := (29, [some (.inr (.inr (some (6, 0)))), none, some (.inl x2), some (.inl x3), some (.inl x4), some (.inl x5), some (.inl x6), none], [], am_mk m)) (if_neg hc2) ?_
      refine am_Go.n htb 6 (S' := (37, [some (.inr (.inr (some (6, 0)))), none, some (.inl x2), some (.inl x3), some (.inl x4), some (.inl x5), some (.inl x6), none], [.inl 1, .inl ((x4 >>> (x6 &&& 31)) &&& (1 : Int32))], am_mk m)) rfl ?_
      obtain ⟨q13, h14, h⟩ := am_bd h
      refine am_Go.cut (S := (96, [some (.inr (.inr (some (6, 0)))), none, some (.inl x2), some (.inl x3), some (.inl q13), some (.inl x5), some (.inl x6), none], [], am_mk m)) ?_ (fun key => ?_)
      · refine am_Go.n htb 2 (S' := (20, [some (.inr (.inr (some (6, 0)))), none, some (.inl x2), some (.inl x3), some (.inl q13), some (.inl x5), some (.inl (x6 + 1)), none], [], am_mk m)) rfl ?_
        first | exact ih h | exact ih h hk
      · have h := h14
        by_cases hc3 : ((x4 >>> (x6 &&& 31)) &&& (1 : Int32)) ≠ (1 : Int32)
        · rw [if_pos hc3] at h
          refine am_Go.c1 htb (S' := (96, [some (.inr (.inr (some (6, 0)))), none, some (.inl x2), some (.inl x3), some (.inl x4), some (.inl x5), some (.inl x6), none], [], am_mk m)) (if_pos hc3) ?_
          cases h
          exact am_Go.fg (by exact ⟨rfl, ⟨rfl, ⟨rfl, ⟨rfl, ⟨rfl, ⟨rfl, trivial⟩⟩⟩⟩⟩⟩) key
        · rw [if_neg hc3] at h
          refine am_Go.c1 htb (S' := (40, [some (.inr (.inr (some (6, 0)))), none, some (.inl x2), some (.inl x3), some (.inl x4), some (.inl x5), some (.inl x6), none], [], am_mk m)) (if_neg hc3) ?_
          refine am_Go.n htb 3 (S' := (46, [some (.inr (.inr (some (6, 0)))), none, some (.inl x2), some (.inl x3), some (.inl x4), some (.inl x5), some (.inl x6), none], [.inl x6, .inr (.inr (some (30, 0)))], am_mk m)) rfl ?_
          obtain ⟨hg4, h⟩ := am_ck_some h
          refine am_Go.c1 htb (S' := (47, [some (.inr (.inr (some (6, 0)))), none, some (.inl x2), some (.inl x3), some (.inl x4), some (.inl x5), some (.inl x6), none], [.inl (m.1 30 0 x6.toNatClampNeg)], am_mk m)) (if_neg hg4) ?_
          refine am_Go.n htb 3 (S' := (52, [some (.inr (.inr (some (6, 0)))), none, some (.inl x2), some (.inl x3), some (.inl x4), some (.inl x5), some (.inl x6), some (.inl (m.1 30 0 x6.toNatClampNeg))], [.inl x2, .inl x6], am_mk m)) rfl ?_
          obtain ⟨q7, h12, h⟩ := am_bd h
          refine am_Go.cut (S := (69, [some (.inr (.inr (some (6, 0)))), none, some (.inl x2), some (.inl x3), some (.inl x4), some (.inl x5), some (.inl x6), some (.inl q7)], [], am_mk m)) ?_ (fun key => ?_)
          · refine am_Go.n htb 2 (S' := (72, [some (.inr (.inr (some (6, 0)))), none, some (.inl x2), some (.inl x3), some (.inl x4), some (.inl x5), some (.inl x6), some (.inl q7)], [.inl x3, .inl x6], am_mk m)) rfl ?_
            obtain ⟨q10, h11, h⟩ := am_bd h
            refine am_Go.cut (S := (89, [some (.inr (.inr (some (6, 0)))), none, some (.inl x2), some (.inl x3), some (.inl x4), some (.inl x5), some (.inl x6), some (.inl q10)], [], am_mk m)) ?_ (fun key => ?_)
            · refine am_Go.n htb 4 (S' := (96, [some (.inr (.inr (some (6, 0)))), none, some (.inl x2), some (.inl x3), some (.inl (x4 ||| q10)), some (.inl x5), some (.inl x6), some (.inl q10)], [], am_mk m)) rfl ?_
              cases h
              exact am_Go.fg (by exact ⟨rfl, ⟨rfl, ⟨rfl, ⟨rfl, ⟨rfl, ⟨rfl, trivial⟩⟩⟩⟩⟩⟩) key
            · have h := h11
              by_cases hc8 : x6 ≠ x3
              · rw [if_pos hc8] at h
                refine am_Go.c1 htb (S' := (89, [some (.inr (.inr (some (6, 0)))), none, some (.inl x2), some (.inl x3), some (.inl x4), some (.inl x5), some (.inl x6), some (.inl q7)], [], am_mk m)) (if_pos hc8) ?_
                cases h
                exact am_Go.fg (by exact ⟨rfl, ⟨rfl, ⟨rfl, ⟨rfl, ⟨rfl, ⟨rfl, ⟨rfl, trivial⟩⟩⟩⟩⟩⟩⟩) key
              · rw [if_neg hc8] at h
                refine am_Go.c1 htb (S' := (75, [some (.inr (.inr (some (6, 0)))), none, some (.inl x2), some (.inl x3), some (.inl x4), some (.inl x5), some (.inl x6), some (.inl q7)], [], am_mk m)) (if_neg hc8) ?_
                refine am_Go.n htb 1 (S' := (76, [some (.inr (.inr (some (6, 0)))), none, some (.inl x2), some (.inl x3), some (.inl x4), some (.inl x5), some (.inl x6), some (.inl q7)], [.inl x2], am_mk m)) rfl ?_
                by_cases hc9 : x2 < 0
                · rw [if_pos hc9] at h
                  refine am_Go.c1 htb (S' := (89, [some (.inr (.inr (some (6, 0)))), none, some (.inl x2), some (.inl x3), some (.inl x4), some (.inl x5), some (.inl x6), some (.inl q7)], [], am_mk m)) (if_pos hc9) ?_
                  cases h
                  exact am_Go.fg (by exact ⟨rfl, ⟨rfl, ⟨rfl, ⟨rfl, ⟨rfl, ⟨rfl, ⟨rfl, trivial⟩⟩⟩⟩⟩⟩⟩) key
                · rw [if_neg hc9] at h
                  refine am_Go.c1 htb (S' := (79, [some (.inr (.inr (some (6, 0)))), none, some (.inl x2), some (.inl x3), some (.inl x4), some (.inl x5), some (.inl x6), some (.inl q7)], [], am_mk m)) (if_neg hc9) ?_
                  refine am_Go.n htb 8 (S' := (89, [some (.inr (.inr (some (6, 0)))), none, some (.inl x2), some (.inl x3), some (.inl x4), some (.inl x5), some (.inl x6), some (.inl (q7 &&& (((1 : Int32) <<< (x2 &&& 31)) ^^^ (-1 : Int32))))], [], am_mk m)) rfl ?_
                  cases h
                  exact am_Go.fg (by exact ⟨rfl, ⟨rfl, ⟨rfl, ⟨rfl, ⟨rfl, ⟨rfl, ⟨rfl, trivial⟩⟩⟩⟩⟩⟩⟩) key
          · have h := h12
            by_cases hc5 : x6 ≠ x2
            · rw [if_pos hc5] at h
              refine am_Go.c1 htb (S' := (69, [some (.inr (.inr (some (6, 0)))), none, some (.inl x2), some (.inl x3), some (.inl x4), some (.inl x5), some (.inl x6), some (.inl (m.1 30 0 x6.toNatClampNeg))], [], am_mk m)) (if_pos hc5) ?_
              cases h
              exact am_Go.fg (by exact ⟨rfl, ⟨rfl, ⟨rfl, ⟨rfl, ⟨rfl, ⟨rfl, ⟨rfl, trivial⟩⟩⟩⟩⟩⟩⟩) key
            · rw [if_neg hc5] at h
              refine am_Go.c1 htb (S' := (55, [some (.inr (.inr (some (6, 0)))), none, some (.inl x2), some (.inl x3), some (.inl x4), some (.inl x5), some (.inl x6), some (.inl (m.1 30 0 x6.toNatClampNeg))], [], am_mk m)) (if_neg hc5) ?_
              refine am_Go.n htb 1 (S' := (56, [some (.inr (.inr (some (6, 0)))), none, some (.inl x2), some (.inl x3), some (.inl x4), some (.inl x5), some (.inl x6), some (.inl (m.1 30 0 x6.toNatClampNeg))], [.inl x3], am_mk m)) rfl ?_
              by_cases hc6 : x3 < 0
              · rw [if_pos hc6] at h
                refine am_Go.c1 htb (S' := (69, [some (.inr (.inr (some (6, 0)))), none, some (.inl x2), some (.inl x3), some (.inl x4), some (.inl x5), some (.inl x6), some (.inl (m.1 30 0 x6.toNatClampNeg))], [], am_mk m)) (if_pos hc6) ?_
                cases h
                exact am_Go.fg (by exact ⟨rfl, ⟨rfl, ⟨rfl, ⟨rfl, ⟨rfl, ⟨rfl, ⟨rfl, trivial⟩⟩⟩⟩⟩⟩⟩) key
              · rw [if_neg hc6] at h
                refine am_Go.c1 htb (S' := (59, [some (.inr (.inr (some (6, 0)))), none, some (.inl x2), some (.inl x3), some (.inl x4), some (.inl x5), some (.inl x6), some (.inl (m.1 30 0 x6.toNatClampNeg))], [], am_mk m)) (if_neg hc6) ?_
                refine am_Go.n htb 8 (S' := (69, [some (.inr (.inr (some (6, 0)))), none, some (.inl x2), some (.inl x3), some (.inl x4), some (.inl x5), some (.inl x6), some (.inl ((m.1 30 0 x6.toNatClampNeg) &&& (((1 : Int32) <<< (x3 &&& 31)) ^^^ (-1 : Int32))))], [], am_mk m)) rfl ?_
                cases h
                exact am_Go.fg (by exact ⟨rfl, ⟨rfl, ⟨rfl, ⟨rfl, ⟨rfl, ⟨rfl, ⟨rfl, trivial⟩⟩⟩⟩⟩⟩⟩) key
set_option maxRecDepth 100000 in
theorem lt_X6_circleOf_8 (d : Nat) (hd : 1 ≤ d + 1) {r : Option am_V} {M' : am_M} {kc ks : Nat} {n : Nat} {x2 : Int32} {x3 : Int32} {x4 : Int32} {x5 : Int32} {m : am_m} {t : Int32} (h : lp_X6_circleOf_8 n x2 x3 x4 x5 m = some t) (hk : am_Go d 84 (108, [some (.inr (.inr (some (6, 0)))), none, some (.inl x2), some (.inl x3), some (.inl t), none, none, none], [], am_mk m) r M' kc ks) : am_Go d 84 (8, [some (.inr (.inr (some (6, 0)))), none, some (.inl x2), some (.inl x3), some (.inl x4), some (.inl x5), none, none], [], am_mk m) r M' kc ks := by
  have htb : am_tab 84 = at_84 := rfl
  induction n generalizing x4 x5 with
  | zero => cases h
  | succ n ih =>
    unfold lp_X6_circleOf_8 at h
    refine am_Go.n htb 3 (S' := (14, [some (.inr (.inr (some (6, 0)))), none, some (.inl x2), some (.inl x3), some (.inl x4), some (.inl x5), none, none], [.inl (m.1 6 0 0), .inl x5], am_mk m)) rfl ?_
    by_cases hc1 : (m.1 6 0 0) ≤ x5
    · rw [if_pos hc1] at h
      refine am_Go.c1 htb (S' := (108, [some (.inr (.inr (some (6, 0)))), none, some (.inl x2), some (.inl x3), some (.inl x4), some (.inl x5), none, none], [], am_mk m)) (if_pos hc1) ?_
      cases h
      exact am_Go.fg (by exact ⟨rfl, ⟨rfl, ⟨rfl, ⟨rfl, trivial⟩⟩⟩⟩) hk
    · rw [if_neg hc1] at h
      refine am_Go.c1 htb (S' := (17, [some (.inr (.inr (some (6, 0)))), none, some (.inl x2), some (.inl x3), some (.inl x4), some (.inl x5), none, none], [], am_mk m)) (if_neg hc1) ?_
      refine am_Go.n htb 2 (S' := (20, [some (.inr (.inr (some (6, 0)))), none, some (.inl x2), some (.inl x3), some (.inl x4), some (.inl x5), some (.inl 0), none], [], am_mk m)) rfl ?_
      obtain ⟨q15, h16, h⟩ := am_bd h
      refine lt_X6_circleOf_20 _ hd (h := h16) (hk := ?_)
      refine am_Go.n htb 2 (S' := (8, [some (.inr (.inr (some (6, 0)))), none, some (.inl x2), some (.inl x3), some (.inl q15), some (.inl (x5 + 1)), none, none], [], am_mk m)) rfl ?_
      first | exact ih h | exact ih h hk
set_option maxRecDepth 100000 in
theorem ex_X6_circleOf (d : Nat) (hd : 1 ≤ d) (a1 : Int32) (a2 : Int32) (a3 : Int32) (m : am_m) (t : Int32) (h : fn_X6_circleOf a1 a2 a3 m = some t) : am_Ex am_cod d 84 [.inr (.inr (some (6, 0))), .inl a1, .inl a2, .inl a3] (am_mk m) (some (.inl t)) (am_mk m) 0 0 := by
  obtain ⟨d, rfl⟩ : ∃ e, d = e + 1 := ⟨d - 1, by omega⟩
  have htb : am_tab 84 = at_84 := rfl
  refine ⟨Nat.le_of_ble_eq_true rfl, ?_⟩
  unfold fn_X6_circleOf at h
  show am_Go d 84 (0, [some (.inr (.inr (some (6, 0)))), some (.inl a1), some (.inl a2), some (.inl a3), none, none, none, none], [], am_mk m) _ _ 0 0
  refine am_Go.n htb 6 (S' := (8, [some (.inr (.inr (some (6, 0)))), some (.inl a1), some (.inl a2), some (.inl a3), some (.inl ((1 : Int32) <<< (a1 &&& 31))), some (.inl 0), none, none], [], am_mk m)) rfl ?_
  refine am_Go.fg (L0 := [some (.inr (.inr (some (6, 0)))), none, some (.inl a2), some (.inl a3), some (.inl ((1 : Int32) <<< (a1 &&& 31))), some (.inl 0), none, none]) (by exact ⟨rfl, ⟨rfl, ⟨rfl, ⟨rfl, ⟨rfl, trivial⟩⟩⟩⟩⟩) ?_
  obtain ⟨q17, h18, h⟩ := am_bd h
  refine lt_X6_circleOf_8 _ hd (h := h18) (hk := ?_)
  refine am_Go.n htb 1 (S' := (110, [some (.inr (.inr (some (6, 0)))), none, some (.inl a2), some (.inl a3), some (.inl q17), none, none, none], [.inl q17], am_mk m)) rfl ?_
  cases h
  exact am_Go.rt htb rfl
-- X6_circlesWithout
set_option maxRecDepth 100000 in
theorem lt_X6_circlesWithout_11 (d : Nat) (hd : 2 ≤ d + 1) {r : Option am_V} {M' : am_M} {kc ks : Nat} {n : Nat} {x1 : Int32} {x2 : Int32} {x3 : Int32} {x4 : Int32} {x5 : Int32} {m : am_m} {t : Int32} (h : lp_X6_circlesWithout_11 n x1 x2 x3 x4 x5 m = some t) (hk : am_Go d 83 (52, [some (.inr (.inr (some (6, 0)))), some (.inl x1), some (.inl x2), none, some (.inl t), none], [], am_mk m) r M' kc ks) : am_Go d 83 (11, [some (.inr (.inr (some (6, 0)))), some (.inl x1), some (.inl x2), some (.inl x3), some (.inl x4), some (.inl x5)], [], am_mk m) r M' kc ks := by
  have htb : am_tab 83 = at_83 := rfl
  induction n generalizing x3 x4 x5 with
  | zero => cases h
  | succ n ih =>
    unfold lp_X6_circlesWithout_11 at h
    refine am_Go.n htb 3 (S' := (17, [some (.inr (.inr (some (6, 0)))), some (.inl x1), some (.inl x2), some (.inl x3), some (.inl x4), some (.inl x5)], [.inl (m.1 6 0 0), .inl x5], am_mk m)) rfl ?_
    by_cases hc3 : (m.1 6 0 0) ≤ x5
    · rw [if_pos hc3] at h
      refine am_Go.c1 htb (S' := (52, [some (.inr (.inr (some (6, 0)))), some (.inl x1), some (.inl x2), some (.inl x3), some (.inl x4), some (.inl x5)], [], am_mk m)) (if_pos hc3) ?_
      cases h
      exact am_Go.fg (by exact ⟨rfl, ⟨rfl, ⟨rfl, ⟨rfl, trivial⟩⟩⟩⟩) hk
    · rw [if_neg hc3] at h
      refine am_Go.c1 htb (S' := (20, [some (.inr (.inr (some (6, 0)))), some (.inl x1), some (.inl x2), some (.inl x3), some (.inl x4), some (.inl x5)], [], am_mk m)) (if_neg hc3) ?_
      refine am_Go.n htb 6 (S' := (27, [some (.inr (.inr (some (6, 0)))), some (.inl x1), some (.inl x2), some (.inl x3), some (.inl x4), some (.inl x5)], [.inl 1, .inl ((x3 >>> (x5 &&& 31)) &&& (1 : Int32))], am_mk m)) rfl ?_
      obtain ⟨q7, h8, h⟩ := am_bd h
      refine am_Go.cut (S := (46, [some (.inr (.inr (some (6, 0)))), some (.inl x1), some (.inl x2), some (.inl q7.1), some (.inl q7.2), some (.inl x5)], [], am_mk m)) ?_ (fun key => ?_)
      · refine am_Go.n htb 2 (S' := (11, [some (.inr (.inr (some (6, 0)))), some (.inl x1), some (.inl x2), some (.inl q7.1), some (.inl q7.2), some (.inl (x5 + 1))], [], am_mk m)) rfl ?_
        first | exact ih h | exact ih h hk
      · have h := h8
        by_cases hc4 : ((x3 >>> (x5 &&& 31)) &&& (1 : Int32)) ≠ (1 : Int32)
        · rw [if_pos hc4] at h
          refine am_Go.c1 htb (S' := (46, [some (.inr (.inr (some (6, 0)))), some (.inl x1), some (.inl x2), some (.inl x3), some (.inl x4), some (.inl x5)], [], am_mk m)) (if_pos hc4) ?_
          cases h
          exact am_Go.fg (by exact ⟨rfl, ⟨rfl, ⟨rfl, ⟨rfl, ⟨rfl, ⟨rfl, trivial⟩⟩⟩⟩⟩⟩) key
        · rw [if_neg hc4] at h
          refine am_Go.c1 htb (S' := (30, [some (.inr (.inr (some (6, 0)))), some (.inl x1), some (.inl x2), some (.inl x3), some (.inl x4), some (.inl x5)], [], am_mk m)) (if_neg hc4) ?_
          refine am_Go.n htb 5 (S' := (36, [some (.inr (.inr (some (6, 0)))), some (.inl x1), some (.inl x2), some (.inl x3), some (.inl x4), some (.inl x5)], [.inl x2, .inl x1, .inl x5, .inr (.inr (some (6, 0))), .inl x3], am_mk m)) rfl ?_
          obtain ⟨r5, h6, h⟩ := am_bd h
          refine am_Go.cl htb rfl (ex_X6_circleOf d (by omega) x5 x1 x2 m r5 h6) ?_
          show am_Go d 83 (39, [some (.inr (.inr (some (6, 0)))), some (.inl x1), some (.inl x2), some (.inl x3), some (.inl x4), some (.inl x5)], [.inl r5, .inl x3], am_mk m) _ _ _ _
          refine am_Go.n htb 5 (S' := (46, [some (.inr (.inr (some (6, 0)))), some (.inl x1), some (.inl x2), some (.inl (x3 &&& (r5 ^^^ (-1 : Int32)))), some (.inl (x4 + 1)), some (.inl x5)], [], am_mk m)) rfl ?_
          cases h
          exact am_Go.fg (by exact ⟨rfl, ⟨rfl, ⟨rfl, ⟨rfl, ⟨rfl, ⟨rfl, trivial⟩⟩⟩⟩⟩⟩) key
set_option maxRecDepth 100000 in
theorem ex_X6_circlesWithout (d : Nat) (hd : 2 ≤ d) (a1 : Int32) (a2 : Int32) (m : am_m) (t : Int32) (h : fn_X6_circlesWithout a1 a2 m = some t) : am_Ex am_cod d 83 [.inr (.inr (some (6, 0))), .inl a1, .inl a2] (am_mk m) (some (.inl t)) (am_mk m) 0 0 := by
  obtain ⟨d, rfl⟩ : ∃ e, d = e + 1 := ⟨d - 1, by omega⟩
  have htb : am_tab 83 = at_83 := rfl
  refine ⟨Nat.le_of_ble_eq_true rfl, ?_⟩
  unfold fn_X6_circlesWithout at h
  show am_Go d 83 (0, [some (.inr (.inr (some (6, 0)))), some (.inl a1), some (.inl a2), none, none, none], [], am_mk m) _ _ 0 0
  refine am_Go.n htb 1 (S' := (1, [some (.inr (.inr (some (6, 0)))), some (.inl a1), some (.inl a2), none, none, none], [.inr (.inr (some (6, 0)))], am_mk m)) rfl ?_
  obtain ⟨r1, h2, h⟩ := am_bd h
  refine am_Go.cl htb rfl (ex_X6_everybody d (by omega)  m r1 h2) ?_
  show am_Go d 83 (4, [some (.inr (.inr (some (6, 0)))), some (.inl a1), some (.inl a2), none, none, none], [.inl r1], am_mk m) _ _ _ _
  refine am_Go.n htb 5 (S' := (11, [some (.inr (.inr (some (6, 0)))), some (.inl a1), some (.inl a2), some (.inl r1), some (.inl 0), some (.inl 0)], [], am_mk m)) rfl ?_
  obtain ⟨q9, h10, h⟩ := am_bd h
  refine lt_X6_circlesWithout_11 _ hd (h := h10) (hk := ?_)
  refine am_Go.n htb 1 (S' := (54, [some (.inr (.inr (some (6, 0)))), some (.inl a1), some (.inl a2), none, some (.inl q9), none], [.inl q9], am_mk m)) rfl ?_
  cases h
  exact am_Go.rt htb rfl
-- X6_addTwo
set_option maxRecDepth 100000 in
theorem ex_X6_addTwo (d : Nat) (hd : 1 ≤ d) (a1 : Int32) (a2 : Int32) (m : am_m) (t : am_m) (h : fn_X6_addTwo a1 a2 m = some t) : am_Ex am_cod d 88 [.inr (.inr (some (6, 0))), .inl a1, .inl a2] (am_mk m) (none) (am_mk t) 0 0 := by
  obtain ⟨d, rfl⟩ : ∃ e, d = e + 1 := ⟨d - 1, by omega⟩
  have htb : am_tab 88 = at_88 := rfl
  refine ⟨Nat.le_of_ble_eq_true rfl, ?_⟩
  unfold fn_X6_addTwo at h
  show am_Go d 88 (0, [some (.inr (.inr (some (6, 0)))), some (.inl a1), some (.inl a2)], [], am_mk m) _ _ 0 0
  refine am_Go.n htb 3 (S' := (6, [some (.inr (.inr (some (6, 0)))), some (.inl a1), some (.inl a2)], [.inl 21, .inl (m.1 6 0 7)], am_mk m)) rfl ?_
  by_cases hc1 : (21 : Int32) ≤ (m.1 6 0 7)
  · rw [if_pos hc1] at h
    refine am_Go.c1 htb (S' := (34, [some (.inr (.inr (some (6, 0)))), some (.inl a1), some (.inl a2)], [], am_mk m)) (if_pos hc1) ?_
    cases h
    exact am_Go.rt htb rfl
  · rw [if_neg hc1] at h
    refine am_Go.c1 htb (S' := (9, [some (.inr (.inr (some (6, 0)))), some (.inl a1), some (.inl a2)], [], am_mk m)) (if_neg hc1) ?_
    refine am_Go.n htb 9 (S' := (23, [some (.inr (.inr (some (6, 0)))), some (.inl a1), some (.inl a2)], [.inl (((10 : Int32) * a1) + a2), .inl (m.1 6 0 7), .inr (.inr (some (33, 0)))], am_mk m)) rfl ?_
    obtain ⟨hg2, h⟩ := am_ck_some h
    refine am_Go.c1 htb (S' := (24, [some (.inr (.inr (some (6, 0)))), some (.inl a1), some (.inl a2)], [], am_mk (am_si m 33 0 (m.1 6 0 7).toNatClampNeg (((10 : Int32) * a1) + a2)))) (if_neg hg2) ?_
    refine am_Go.n htb 6 (S' := (34, [some (.inr (.inr (some (6, 0)))), some (.inl a1), some (.inl a2)], [], am_mk (am_si (am_si m 33 0 (m.1 6 0 7).toNatClampNeg (((10 : Int32) * a1) + a2)) 6 0 7 ((m.1 6 0 7) + (1 : Int32))))) rfl ?_
    cases h
    exact am_Go.rt htb rfl
-- X6_findBridges
set_option maxRecDepth 100000 in
theorem lt_X6_findBridges_26 (d : Nat) (hd : 3 ≤ d + 1) {r : Option am_V} {M' : am_M} {kc ks : Nat} {n : Nat} {x1 : Int32} {x2 : Int32} {x3 : Int32} {m : am_m} {t : am_m} (h : lp_X6_findBridges_26 n x1 x2 x3 m = some t) (hk : am_Go d 85 (70, [some (.inr (.inr (some (6, 0)))), some (.inl x1), some (.inl x2), none], [], am_mk t) r M' kc ks) : am_Go d 85 (26, [some (.inr (.inr (some (6, 0)))), some (.inl x1), some (.inl x2), some (.inl x3)], [], am_mk m) r M' kc ks := by
  have htb : am_tab 85 = at_85 := rfl
  induction n generalizing x3 m with
  | zero => cases h
  | succ n ih =>
    unfold lp_X6_findBridges_26 at h
    refine am_Go.n htb 3 (S' := (31, [some (.inr (.inr (some (6, 0)))), some (.inl x1), some (.inl x2), some (.inl x3)], [.inl (m.1 6 0 0), .inl x3], am_mk m)) rfl ?_
    by_cases hc4 : (m.1 6 0 0) ≤ x3
    · rw [if_pos hc4] at h
      refine am_Go.c1 htb (S' := (70, [some (.inr (.inr (some (6, 0)))), some (.inl x1), some (.inl x2), some (.inl x3)], [], am_mk m)) (if_pos hc4) ?_
      cases h
      exact am_Go.fg (by exact ⟨rfl, ⟨rfl, ⟨rfl, trivial⟩⟩⟩) hk
    · rw [if_neg hc4] at h
      refine am_Go.c1 htb (S' := (34, [some (.inr (.inr (some (6, 0)))), some (.inl x1), some (.inl x2), some (.inl x3)], [], am_mk m)) (if_neg hc4) ?_
      refine am_Go.n htb 3 (S' := (39, [some (.inr (.inr (some (6, 0)))), some (.inl x1), some (.inl x2), some (.inl x3)], [.inl x2, .inr (.inr (some (30, 0)))], am_mk m)) rfl ?_
      obtain ⟨hg5, h⟩ := am_ck_some h
      refine am_Go.c1 htb (S' := (40, [some (.inr (.inr (some (6, 0)))), some (.inl x1), some (.inl x2), some (.inl x3)], [.inl (m.1 30 0 x2.toNatClampNeg)], am_mk m)) (if_neg hg5) ?_
      refine am_Go.n htb 5 (S' := (45, [some (.inr (.inr (some (6, 0)))), some (.inl x1), some (.inl x2), some (.inl x3)], [.inl 1, .inl (((m.1 30 0 x2.toNatClampNeg) >>> (x3 &&& 31)) &&& (1 : Int32))], am_mk m)) rfl ?_
      obtain ⟨q12, h13, h⟩ := am_bd h
      refine am_Go.cut (S := (64, [some (.inr (.inr (some (6, 0)))), some (.inl x1), some (.inl x2), some (.inl x3)], [], am_mk q12)) ?_ (fun key => ?_)
      · refine am_Go.n htb 2 (S' := (26, [some (.inr (.inr (some (6, 0)))), some (.inl x1), some (.inl x2), some (.inl (x3 + 1))], [], am_mk q12)) rfl ?_
        first | exact ih h | exact ih h hk
      · have h := h13
        by_cases hc6 : (((m.1 30 0 x2.toNatClampNeg) >>> (x3 &&& 31)) &&& (1 : Int32)) ≠ (1 : Int32)
        · rw [if_pos hc6] at h
          refine am_Go.c1 htb (S' := (64, [some (.inr (.inr (some (6, 0)))), some (.inl x1), some (.inl x2), some (.inl x3)], [], am_mk m)) (if_pos hc6) ?_
          cases h
          exact am_Go.fg (by exact ⟨rfl, ⟨rfl, ⟨rfl, ⟨rfl, trivial⟩⟩⟩⟩) key
        · rw [if_neg hc6] at h
          refine am_Go.c1 htb (S' := (48, [some (.inr (.inr (some (6, 0)))), some (.inl x1), some (.inl x2), some (.inl x3)], [], am_mk m)) (if_neg hc6) ?_
          refine am_Go.n htb 3 (S' := (51, [some (.inr (.inr (some (6, 0)))), some (.inl x1), some (.inl x2), some (.inl x3)], [.inl x3, .inl x2, .inr (.inr (some (6, 0)))], am_mk m)) rfl ?_
          obtain ⟨r7, h8, h⟩ := am_bd h
          refine am_Go.cl htb rfl (ex_X6_circlesWithout d (by omega) x2 x3 m r7 h8) ?_
          show am_Go d 85 (54, [some (.inr (.inr (some (6, 0)))), some (.inl x1), some (.inl x2), some (.inl x3)], [.inl r7], am_mk m) _ _ _ _
          refine am_Go.n htb 1 (S' := (55, [some (.inr (.inr (some (6, 0)))), some (.inl x1), some (.inl x2), some (.inl x3)], [.inl x1, .inl r7], am_mk m)) rfl ?_
          by_cases hc9 : r7 ≤ x1
          · rw [if_pos hc9] at h
            refine am_Go.c1 htb (S' := (64, [some (.inr (.inr (some (6, 0)))), some (.inl x1), some (.inl x2), some (.inl x3)], [], am_mk m)) (if_pos hc9) ?_
            cases h
            exact am_Go.fg (by exact ⟨rfl, ⟨rfl, ⟨rfl, ⟨rfl, trivial⟩⟩⟩⟩) key
          · rw [if_neg hc9] at h
            refine am_Go.c1 htb (S' := (58, [some (.inr (.inr (some (6, 0)))), some (.inl x1), some (.inl x2), some (.inl x3)], [], am_mk m)) (if_neg hc9) ?_
            refine am_Go.n htb 3 (S' := (61, [some (.inr (.inr (some (6, 0)))), some (.inl x1), some (.inl x2), some (.inl x3)], [.inl x3, .inl x2, .inr (.inr (some (6, 0)))], am_mk m)) rfl ?_
            obtain ⟨r10, h11, h⟩ := am_bd h
            refine am_Go.cl htb rfl (ex_X6_addTwo d (by omega) x2 x3 m r10 h11) ?_
            show am_Go d 85 (64, [some (.inr (.inr (some (6, 0)))), some (.inl x1), some (.inl x2), some (.inl x3)], [], am_mk r10) _ _ _ _
            cases h
            exact am_Go.fg (by exact ⟨rfl, ⟨rfl, ⟨rfl, ⟨rfl, trivial⟩⟩⟩⟩) key
set_option maxRecDepth 100000 in
theorem lt_X6_findBridges_14 (d : Nat) (hd : 3 ≤ d + 1) {r : Option am_V} {M' : am_M} {kc ks : Nat} {n : Nat} {x1 : Int32} {x2 : Int32} {m : am_m} {t : am_m} (h : lp_X6_findBridges_14 n x1 x2 m = some t) (hk : am_Go d 85 (76, [some (.inr (.inr (some (6, 0)))), some (.inl x1), none, none], [], am_mk t) r M' kc ks) : am_Go d 85 (14, [some (.inr (.inr (some (6, 0)))), some (.inl x1), some (.inl x2), none], [], am_mk m) r M' kc ks := by
  have htb : am_tab 85 = at_85 := rfl
  induction n generalizing x2 m with
  | zero => cases h
  | succ n ih =>
    unfold lp_X6_findBridges_14 at h
    refine am_Go.n htb 3 (S' := (19, [some (.inr (.inr (some (6, 0)))), some (.inl x1), some (.inl x2), none], [.inl (m.1 6 0 0), .inl x2], am_mk m)) rfl ?_
    by_cases hc3 : (m.1 6 0 0) ≤ x2
    · rw [if_pos hc3] at h
      refine am_Go.c1 htb (S' := (76, [some (.inr (.inr (some (6, 0)))), some (.inl x1), some (.inl x2), none], [], am_mk m)) (if_pos hc3) ?_
      cases h
      exact am_Go.fg (by exact ⟨rfl, ⟨rfl, trivial⟩⟩) hk
    · rw [if_neg hc3] at h
      refine am_Go.c1 htb (S' := (22, [some (.inr (.inr (some (6, 0)))), some (.inl x1), some (.inl x2), none], [], am_mk m)) (if_neg hc3) ?_
      refine am_Go.n htb 4 (S' := (26, [some (.inr (.inr (some (6, 0)))), some (.inl x1), some (.inl x2), some (.inl (x2 + (1 : Int32)))], [], am_mk m)) rfl ?_
      obtain ⟨q14, h15, h⟩ := am_bd h
      refine lt_X6_findBridges_26 _ hd (h := h15) (hk := ?_)
      refine am_Go.n htb 2 (S' := (14, [some (.inr (.inr (some (6, 0)))), some (.inl x1), some (.inl (x2 + 1)), none], [], am_mk q14)) rfl ?_
      first | exact ih h | exact ih h hk
set_option maxRecDepth 100000 in
theorem ex_X6_findBridges (d : Nat) (hd : 3 ≤ d)  (m : am_m) (t : am_m) (h : fn_X6_findBridges  m = some t) : am_Ex am_cod d 85 [.inr (.inr (some (6, 0)))] (am_mk m) (none) (am_mk t) 0 0 := by
  obtain ⟨d, rfl⟩ : ∃ e, d = e + 1 := ⟨d - 1, by omega⟩
  have htb : am_tab 85 = at_85 := rfl
  refine ⟨Nat.le_of_ble_eq_true rfl, ?_⟩
  unfold fn_X6_findBridges at h
  show am_Go d 85 (0, [some (.inr (.inr (some (6, 0)))), none, none, none], [], am_mk m) _ _ 0 0
  refine am_Go.n htb 6 (S' := (8, [some (.inr (.inr (some (6, 0)))), none, none, none], [.inl (-1), .inl (-1), .inr (.inr (some (6, 0)))], am_mk (am_si m 6 0 7 0))) rfl ?_
  obtain ⟨r1, h2, h⟩ := am_bd h
  refine am_Go.cl htb rfl (ex_X6_circlesWithout d (by omega) (-1) (-1) (am_si m 6 0 7 0) r1 h2) ?_
  show am_Go d 85 (11, [some (.inr (.inr (some (6, 0)))), none, none, none], [.inl r1], am_mk (am_si m 6 0 7 0)) _ _ _ _
  refine am_Go.n htb 3 (S' := (14, [some (.inr (.inr (some (6, 0)))), some (.inl r1), some (.inl 0), none], [], am_mk (am_si m 6 0 7 0))) rfl ?_
  obtain ⟨q16, h17, h⟩ := am_bd h
  refine lt_X6_findBridges_14 _ hd (h := h17) (hk := ?_)
  cases h
  exact am_Go.rt htb rfl
-- X6_wereSeen
set_option maxRecDepth 100000 in
theorem lt_X6_wereSeen_2 (d : Nat) (hd : 1 ≤ d + 1) {r : Option am_V} {M' : am_M} {kc ks : Nat} {n : Nat} {x0 : Nat} {x1 : Int32} {x2 : Int32} {m : am_m} {t : Sum (Unit) (Int32)} (h : lp_X6_wereSeen_2 n x0 x1 x2 m = some t) (hk : ∀ t', t = .inl t' → am_Go d 87 (30, [some (.inr (.inr (some (8, x0)))), some (.inl x1), none], [], am_mk m) r M' kc ks) (hr : ∀ t', t = .inr t' → r = some (.inl t') ∧ M' = am_mk m ∧ kc = 0 ∧ ks = 0) : am_Go d 87 (2, [some (.inr (.inr (some (8, x0)))), some (.inl x1), some (.inl x2)], [], am_mk m) r M' kc ks := by
  have htb : am_tab 87 = at_87 := rfl
  induction n generalizing x2 with
  | zero => cases h
  | succ n ih =>
    unfold lp_X6_wereSeen_2 at h
    refine am_Go.n htb 3 (S' := (7, [some (.inr (.inr (some (8, x0)))), some (.inl x1), some (.inl x2)], [.inl (m.1 8 x0 1), .inl x2], am_mk m)) rfl ?_
    by_cases hc1 : (m.1 8 x0 1) ≤ x2
    · rw [if_pos hc1] at h
      refine am_Go.c1 htb (S' := (30, [some (.inr (.inr (some (8, x0)))), some (.inl x1), some (.inl x2)], [], am_mk m)) (if_pos hc1) ?_
      cases h
      exact am_Go.fg (by exact ⟨rfl, ⟨rfl, trivial⟩⟩) (hk _ rfl)
    · rw [if_neg hc1] at h
      refine am_Go.c1 htb (S' := (10, [some (.inr (.inr (some (8, x0)))), some (.inl x1), some (.inl x2)], [], am_mk m)) (if_neg hc1) ?_
      refine am_Go.n htb 3 (S' := (15, [some (.inr (.inr (some (8, x0)))), some (.inl x1), some (.inl x2)], [.inl x2, .inr (.inr (some (40, x0)))], am_mk m)) rfl ?_
      obtain ⟨hg2, h⟩ := am_ck_some h
      refine am_Go.c1 htb (S' := (16, [some (.inr (.inr (some (8, x0)))), some (.inl x1), some (.inl x2)], [.inl (m.1 40 x0 x2.toNatClampNeg)], am_mk m)) (if_neg hg2) ?_
      refine am_Go.n htb 3 (S' := (19, [some (.inr (.inr (some (8, x0)))), some (.inl x1), some (.inl x2)], [.inl x1, .inl ((m.1 40 x0 x2.toNatClampNeg) &&& x1)], am_mk m)) rfl ?_
      by_cases hc3 : ((m.1 40 x0 x2.toNatClampNeg) &&& x1) ≠ x1
      · rw [if_pos hc3] at h
        refine am_Go.c1 htb (S' := (24, [some (.inr (.inr (some (8, x0)))), some (.inl x1), some (.inl x2)], [], am_mk m)) (if_pos hc3) ?_
        refine am_Go.n htb 2 (S' := (2, [some (.inr (.inr (some (8, x0)))), some (.inl x1), some (.inl (x2 + 1))], [], am_mk m)) rfl ?_
        first | exact ih h | exact ih h hk | exact ih h hr | exact ih h hk hr
      · rw [if_neg hc3] at h
        refine am_Go.c1 htb (S' := (22, [some (.inr (.inr (some (8, x0)))), some (.inl x1), some (.inl x2)], [], am_mk m)) (if_neg hc3) ?_
        refine am_Go.n htb 1 (S' := (23, [some (.inr (.inr (some (8, x0)))), some (.inl x1), some (.inl x2)], [.inl 1], am_mk m)) rfl ?_
        cases h
        obtain ⟨rfl, rfl, rfl, rfl⟩ := hr _ rfl
        exact am_Go.rt htb rfl
set_option maxRecDepth 100000 in
theorem ex_X6_wereSeen (d : Nat) (hd : 1 ≤ d) (a1 : Nat) (a2 : Int32) (m : am_m) (t : Int32) (h : fn_X6_wereSeen a1 a2 m = some t) : am_Ex am_cod d 87 [.inr (.inr (some (8, a1))), .inl a2] (am_mk m) (some (.inl t)) (am_mk m) 0 0 := by
  obtain ⟨d, rfl⟩ : ∃ e, d = e + 1 := ⟨d - 1, by omega⟩
  have htb : am_tab 87 = at_87 := rfl
  refine ⟨Nat.le_of_ble_eq_true rfl, ?_⟩
  unfold fn_X6_wereSeen at h
  show am_Go d 87 (0, [some (.inr (.inr (some (8, a1)))), some (.inl a2), none], [], am_mk m) _ _ 0 0
  refine am_Go.n htb 2 (S' := (2, [some (.inr (.inr (some (8, a1)))), some (.inl a2), some (.inl 0)], [], am_mk m)) rfl ?_
  obtain ⟨w7, h5, h⟩ := am_bd h
  refine lt_X6_wereSeen_2 _ hd (h := h5) (hk := ?_) (hr := ?_)
  · intro q4 he
    subst he
    dsimp only at h
    refine am_Go.n htb 1 (S' := (31, [some (.inr (.inr (some (8, a1)))), some (.inl a2), none], [.inl 0], am_mk m)) rfl ?_
    cases h
    exact am_Go.rt htb rfl
  · intro rr6 he
    subst he
    cases h
    exact ⟨rfl, rfl, rfl, rfl⟩
-- X6_findDoubted
set_option maxRecDepth 100000 in
theorem lt_X6_findDoubted_19 (d : Nat) (hd : 2 ≤ d + 1) {r : Option am_V} {M' : am_M} {kc ks : Nat} {n : Nat} {x1 : Nat} {x2 : Int32} {x3 : Int32} {m : am_m} {t : am_m} (h : lp_X6_findDoubted_19 n x1 x2 x3 m = some t) (hk : am_Go d 86 (66, [some (.inr (.inr (some (6, 0)))), some (.inr (.inr (some (8, x1)))), some (.inl x2), none], [], am_mk t) r M' kc ks) : am_Go d 86 (19, [some (.inr (.inr (some (6, 0)))), some (.inr (.inr (some (8, x1)))), some (.inl x2), some (.inl x3)], [], am_mk m) r M' kc ks := by
  have htb : am_tab 86 = at_86 := rfl
  induction n generalizing x3 m with
  | zero => cases h
  | succ n ih =>
    unfold lp_X6_findDoubted_19 at h
    refine am_Go.n htb 3 (S' := (24, [some (.inr (.inr (some (6, 0)))), some (.inr (.inr (some (8, x1)))), some (.inl x2), some (.inl x3)], [.inl (m.1 6 0 0), .inl x3], am_mk m)) rfl ?_
    by_cases hc2 : (m.1 6 0 0) ≤ x3
    · rw [if_pos hc2] at h
      refine am_Go.c1 htb (S' := (66, [some (.inr (.inr (some (6, 0)))), some (.inr (.inr (some (8, x1)))), some (.inl x2), some (.inl x3)], [], am_mk m)) (if_pos hc2) ?_
      cases h
      exact am_Go.fg (by exact ⟨rfl, ⟨rfl, ⟨rfl, trivial⟩⟩⟩) hk
    · rw [if_neg hc2] at h
      refine am_Go.c1 htb (S' := (27, [some (.inr (.inr (some (6, 0)))), some (.inr (.inr (some (8, x1)))), some (.inl x2), some (.inl x3)], [], am_mk m)) (if_neg hc2) ?_
      refine am_Go.n htb 3 (S' := (32, [some (.inr (.inr (some (6, 0)))), some (.inr (.inr (some (8, x1)))), some (.inl x2), some (.inl x3)], [.inl x2, .inr (.inr (some (30, 0)))], am_mk m)) rfl ?_
      obtain ⟨hg3, h⟩ := am_ck_some h
      refine am_Go.c1 htb (S' := (33, [some (.inr (.inr (some (6, 0)))), some (.inr (.inr (some (8, x1)))), some (.inl x2), some (.inl x3)], [.inl (m.1 30 0 x2.toNatClampNeg)], am_mk m)) (if_neg hg3) ?_
      refine am_Go.n htb 4 (S' := (37, [some (.inr (.inr (some (6, 0)))), some (.inr (.inr (some (8, x1)))), some (.inl x2), some (.inl x3)], [.inl (((m.1 30 0 x2.toNatClampNeg) >>> (x3 &&& 31)) &&& (1 : Int32))], am_mk m)) rfl ?_
      obtain ⟨q10, h11, h⟩ := am_bd h
      refine am_Go.cut (S := (60, [some (.inr (.inr (some (6, 0)))), some (.inr (.inr (some (8, x1)))), some (.inl x2), some (.inl x3)], [], am_mk q10)) ?_ (fun key => ?_)
      · refine am_Go.n htb 2 (S' := (19, [some (.inr (.inr (some (6, 0)))), some (.inr (.inr (some (8, x1)))), some (.inl x2), some (.inl (x3 + 1))], [], am_mk q10)) rfl ?_
        first | exact ih h | exact ih h hk
      · have h := h11
        by_cases hc4 : (((m.1 30 0 x2.toNatClampNeg) >>> (x3 &&& 31)) &&& (1 : Int32)) ≠ 0
        · rw [if_pos hc4] at h
          refine am_Go.c1 htb (S' := (60, [some (.inr (.inr (some (6, 0)))), some (.inr (.inr (some (8, x1)))), some (.inl x2), some (.inl x3)], [], am_mk m)) (if_pos hc4) ?_
          cases h
          exact am_Go.fg (by exact ⟨rfl, ⟨rfl, ⟨rfl, ⟨rfl, trivial⟩⟩⟩⟩) key
        · rw [if_neg hc4] at h
          refine am_Go.c1 htb (S' := (40, [some (.inr (.inr (some (6, 0)))), some (.inr (.inr (some (8, x1)))), some (.inl x2), some (.inl x3)], [], am_mk m)) (if_neg hc4) ?_
          refine am_Go.n htb 8 (S' := (48, [some (.inr (.inr (some (6, 0)))), some (.inr (.inr (some (8, x1)))), some (.inl x2), some (.inl x3)], [.inl (((1 : Int32) <<< (x2 &&& 31)) ||| ((1 : Int32) <<< (x3 &&& 31))), .inr (.inr (some (8, x1)))], am_mk m)) rfl ?_
          obtain ⟨r5, h6, h⟩ := am_bd h
          refine am_Go.cl htb rfl (ex_X6_wereSeen d (by omega) x1 (((1 : Int32) <<< (x2 &&& 31)) ||| ((1 : Int32) <<< (x3 &&& 31))) m r5 h6) ?_
          show am_Go d 86 (51, [some (.inr (.inr (some (6, 0)))), some (.inr (.inr (some (8, x1)))), some (.inl x2), some (.inl x3)], [.inl r5], am_mk m) _ _ _ _
          by_cases hc7 : r5 = 0
          · rw [if_pos hc7] at h
            refine am_Go.c1 htb (S' := (60, [some (.inr (.inr (some (6, 0)))), some (.inr (.inr (some (8, x1)))), some (.inl x2), some (.inl x3)], [], am_mk m)) (if_pos hc7) ?_
            cases h
            exact am_Go.fg (by exact ⟨rfl, ⟨rfl, ⟨rfl, ⟨rfl, trivial⟩⟩⟩⟩) key
          · rw [if_neg hc7] at h
            refine am_Go.c1 htb (S' := (54, [some (.inr (.inr (some (6, 0)))), some (.inr (.inr (some (8, x1)))), some (.inl x2), some (.inl x3)], [], am_mk m)) (if_neg hc7) ?_
            refine am_Go.n htb 3 (S' := (57, [some (.inr (.inr (some (6, 0)))), some (.inr (.inr (some (8, x1)))), some (.inl x2), some (.inl x3)], [.inl x3, .inl x2, .inr (.inr (some (6, 0)))], am_mk m)) rfl ?_
            obtain ⟨r8, h9, h⟩ := am_bd h
            refine am_Go.cl htb rfl (ex_X6_addTwo d (by omega) x2 x3 m r8 h9) ?_
            show am_Go d 86 (60, [some (.inr (.inr (some (6, 0)))), some (.inr (.inr (some (8, x1)))), some (.inl x2), some (.inl x3)], [], am_mk r8) _ _ _ _
            cases h
            exact am_Go.fg (by exact ⟨rfl, ⟨rfl, ⟨rfl, ⟨rfl, trivial⟩⟩⟩⟩) key
set_option maxRecDepth 100000 in
theorem lt_X6_findDoubted_7 (d : Nat) (hd : 2 ≤ d + 1) {r : Option am_V} {M' : am_M} {kc ks : Nat} {n : Nat} {x1 : Nat} {x2 : Int32} {m : am_m} {t : am_m} (h : lp_X6_findDoubted_7 n x1 x2 m = some t) (hk : am_Go d 86 (72, [some (.inr (.inr (some (6, 0)))), some (.inr (.inr (some (8, x1)))), none, none], [], am_mk t) r M' kc ks) : am_Go d 86 (7, [some (.inr (.inr (some (6, 0)))), some (.inr (.inr (some (8, x1)))), some (.inl x2), none], [], am_mk m) r M' kc ks := by
  have htb : am_tab 86 = at_86 := rfl
  induction n generalizing x2 m with
  | zero => cases h
  | succ n ih =>
    unfold lp_X6_findDoubted_7 at h
    refine am_Go.n htb 3 (S' := (12, [some (.inr (.inr (some (6, 0)))), some (.inr (.inr (some (8, x1)))), some (.inl x2), none], [.inl (m.1 6 0 0), .inl x2], am_mk m)) rfl ?_
    by_cases hc1 : (m.1 6 0 0) ≤ x2
    · rw [if_pos hc1] at h
      refine am_Go.c1 htb (S' := (72, [some (.inr (.inr (some (6, 0)))), some (.inr (.inr (some (8, x1)))), some (.inl x2), none], [], am_mk m)) (if_pos hc1) ?_
      cases h
      exact am_Go.fg (by exact ⟨rfl, ⟨rfl, trivial⟩⟩) hk
    · rw [if_neg hc1] at h
      refine am_Go.c1 htb (S' := (15, [some (.inr (.inr (some (6, 0)))), some (.inr (.inr (some (8, x1)))), some (.inl x2), none], [], am_mk m)) (if_neg hc1) ?_
      refine am_Go.n htb 4 (S' := (19, [some (.inr (.inr (some (6, 0)))), some (.inr (.inr (some (8, x1)))), some (.inl x2), some (.inl (x2 + (1 : Int32)))], [], am_mk m)) rfl ?_
      obtain ⟨q12, h13, h⟩ := am_bd h
      refine lt_X6_findDoubted_19 _ hd (h := h13) (hk := ?_)
      refine am_Go.n htb 2 (S' := (7, [some (.inr (.inr (some (6, 0)))), some (.inr (.inr (some (8, x1)))), some (.inl (x2 + 1)), none], [], am_mk q12)) rfl ?_
      first | exact ih h | exact ih h hk
set_option maxRecDepth 100000 in
theorem ex_X6_findDoubted (d : Nat) (hd : 2 ≤ d) (a1 : Nat) (m : am_m) (t : am_m) (h : fn_X6_findDoubted a1 m = some t) : am_Ex am_cod d 86 [.inr (.inr (some (6, 0))), .inr (.inr (some (8, a1)))] (am_mk m) (none) (am_mk t) 0 0 := by
  obtain ⟨d, rfl⟩ : ∃ e, d = e + 1 := ⟨d - 1, by omega⟩
  have htb : am_tab 86 = at_86 := rfl
  refine ⟨Nat.le_of_ble_eq_true rfl, ?_⟩
  unfold fn_X6_findDoubted at h
  show am_Go d 86 (0, [some (.inr (.inr (some (6, 0)))), some (.inr (.inr (some (8, a1)))), none, none], [], am_mk m) _ _ 0 0
  refine am_Go.n htb 5 (S' := (7, [some (.inr (.inr (some (6, 0)))), some (.inr (.inr (some (8, a1)))), some (.inl 0), none], [], am_mk (am_si m 6 0 7 0))) rfl ?_
  obtain ⟨q14, h15, h⟩ := am_bd h
  refine lt_X6_findDoubted_7 _ hd (h := h15) (hk := ?_)
  cases h
  exact am_Go.rt htb rfl
-- X6_twoOf
set_option maxRecDepth 100000 in
theorem ex_X6_twoOf (d : Nat) (hd : 1 ≤ d) (a1 : Int32) (m : am_m) (t : Int32) (h : fn_X6_twoOf a1 m = some t) : am_Ex am_cod d 89 [.inr (.inr (some (6, 0))), .inl a1] (am_mk m) (some (.inl t)) (am_mk m) 0 0 := by
  obtain ⟨d, rfl⟩ : ∃ e, d = e + 1 := ⟨d - 1, by omega⟩
  have htb : am_tab 89 = at_89 := rfl
  refine ⟨Nat.le_of_ble_eq_true rfl, ?_⟩
  unfold fn_X6_twoOf at h
  show am_Go d 89 (0, [some (.inr (.inr (some (6, 0)))), some (.inl a1)], [], am_mk m) _ _ 0 0
  refine am_Go.n htb 2 (S' := (2, [some (.inr (.inr (some (6, 0)))), some (.inl a1)], [.inl (-1), .inl a1], am_mk m)) rfl ?_
  by_cases hc1 : a1 ≠ (-1 : Int32)
  · rw [if_pos hc1] at h
    refine am_Go.c1 htb (S' := (10, [some (.inr (.inr (some (6, 0)))), some (.inl a1)], [], am_mk m)) (if_pos hc1) ?_
    refine am_Go.n htb 1 (S' := (11, [some (.inr (.inr (some (6, 0)))), some (.inl a1)], [.inl a1], am_mk m)) rfl ?_
    by_cases hc2 : a1 < 0
    · rw [if_pos hc2] at h
      refine am_Go.c1 htb (S' := (31, [some (.inr (.inr (some (6, 0)))), some (.inl a1)], [], am_mk m)) (if_pos hc2) ?_
      refine am_Go.n htb 1 (S' := (32, [some (.inr (.inr (some (6, 0)))), some (.inl a1)], [.inl (-1)], am_mk m)) rfl ?_
      cases h
      exact am_Go.rt htb rfl
    · rw [if_neg hc2] at h
      refine am_Go.c1 htb (S' := (14, [some (.inr (.inr (some (6, 0)))), some (.inl a1)], [], am_mk m)) (if_neg hc2) ?_
      refine am_Go.n htb 3 (S' := (19, [some (.inr (.inr (some (6, 0)))), some (.inl a1)], [.inl (m.1 6 0 7), .inl a1], am_mk m)) rfl ?_
      by_cases hc3 : (m.1 6 0 7) ≤ a1
      · rw [if_pos hc3] at h
        refine am_Go.c1 htb (S' := (31, [some (.inr (.inr (some (6, 0)))), some (.inl a1)], [], am_mk m)) (if_pos hc3) ?_
        refine am_Go.n htb 1 (S' := (32, [some (.inr (.inr (some (6, 0)))), some (.inl a1)], [.inl (-1)], am_mk m)) rfl ?_
        cases h
        exact am_Go.rt htb rfl
      · rw [if_neg hc3] at h
        refine am_Go.c1 htb (S' := (22, [some (.inr (.inr (some (6, 0)))), some (.inl a1)], [], am_mk m)) (if_neg hc3) ?_
        refine am_Go.n htb 3 (S' := (27, [some (.inr (.inr (some (6, 0)))), some (.inl a1)], [.inl a1, .inr (.inr (some (33, 0)))], am_mk m)) rfl ?_
        obtain ⟨hg4, h⟩ := am_ck_some h
        refine am_Go.c1 htb (S' := (28, [some (.inr (.inr (some (6, 0)))), some (.inl a1)], [.inl (m.1 33 0 a1.toNatClampNeg)], am_mk m)) (if_neg hg4) ?_
        refine am_Go.n htb 1 (S' := (32, [some (.inr (.inr (some (6, 0)))), some (.inl a1)], [.inl (m.1 33 0 a1.toNatClampNeg)], am_mk m)) rfl ?_
        cases h
        exact am_Go.rt htb rfl
  · rw [if_neg hc1] at h
    refine am_Go.c1 htb (S' := (5, [some (.inr (.inr (some (6, 0)))), some (.inl a1)], [], am_mk m)) (if_neg hc1) ?_
    refine am_Go.n htb 2 (S' := (9, [some (.inr (.inr (some (6, 0)))), some (.inl a1)], [.inl (m.1 6 0 7)], am_mk m)) rfl ?_
    cases h
    exact am_Go.rt htb rfl
-- X6_fittingFor
set_option maxRecDepth 100000 in
theorem lt_X6_fittingFor_4 (d : Nat) (hd : 1 ≤ d + 1) {r : Option am_V} {M' : am_M} {kc ks : Nat} {n : Nat} {x1 : Int32} {x2 : Int32} {x3 : Int32} {m : am_m} {t : Int32} (h : lp_X6_fittingFor_4 n x1 x2 x3 m = some t) (hk : am_Go d 90 (37, [some (.inr (.inr (some (6, 0)))), some (.inl x1), some (.inl t), none], [], am_mk m) r M' kc ks) : am_Go d 90 (4, [some (.inr (.inr (some (6, 0)))), some (.inl x1), some (.inl x2), some (.inl x3)], [], am_mk m) r M' kc ks := by
  have htb : am_tab 90 = at_90 := rfl
  induction n generalizing x2 x3 with
  | zero => cases h
  | succ n ih =>
    unfold lp_X6_fittingFor_4 at h
    refine am_Go.n htb 3 (S' := (9, [some (.inr (.inr (some (6, 0)))), some (.inl x1), some (.inl x2), some (.inl x3)], [.inl (m.1 6 0 0), .inl x3], am_mk m)) rfl ?_
    by_cases hc1 : (m.1 6 0 0) ≤ x3
    · rw [if_pos hc1] at h
      refine am_Go.c1 htb (S' := (37, [some (.inr (.inr (some (6, 0)))), some (.inl x1), some (.inl x2), some (.inl x3)], [], am_mk m)) (if_pos hc1) ?_
      cases h
      exact am_Go.fg (by exact ⟨rfl, ⟨rfl, ⟨rfl, trivial⟩⟩⟩) hk
    · rw [if_neg hc1] at h
      refine am_Go.c1 htb (S' := (12, [some (.inr (.inr (some (6, 0)))), some (.inl x1), some (.inl x2), some (.inl x3)], [], am_mk m)) (if_neg hc1) ?_
      refine am_Go.n htb 4 (S' := (18, [some (.inr (.inr (some (6, 0)))), some (.inl x1), some (.inl x2), some (.inl x3)], [.inl x3, .inr (.inr (some (30, 0))), .inl x1], am_mk m)) rfl ?_
      obtain ⟨hg2, h⟩ := am_ck_some h
      refine am_Go.c1 htb (S' := (19, [some (.inr (.inr (some (6, 0)))), some (.inl x1), some (.inl x2), some (.inl x3)], [.inl (m.1 30 0 x3.toNatClampNeg), .inl x1], am_mk m)) (if_neg hg2) ?_
      refine am_Go.n htb 3 (S' := (22, [some (.inr (.inr (some (6, 0)))), some (.inl x1), some (.inl x2), some (.inl x3)], [.inl (x1 &&& ((m.1 30 0 x3.toNatClampNeg) ^^^ (-1 : Int32)))], am_mk m)) rfl ?_
      refine am_Go.cut (S := (31, [some (.inr (.inr (some (6, 0)))), some (.inl x1), some (.inl (if (x1 &&& ((m.1 30 0 x3.toNatClampNeg) ^^^ (-1 : Int32))) ≠ 0 then x2 else (x2 ||| ((1 : Int32) <<< (x3 &&& 31))))), some (.inl x3)], [], am_mk m)) ?_ (fun key => ?_)
      · refine am_Go.n htb 2 (S' := (4, [some (.inr (.inr (some (6, 0)))), some (.inl x1), some (.inl (if (x1 &&& ((m.1 30 0 x3.toNatClampNeg) ^^^ (-1 : Int32))) ≠ 0 then x2 else (x2 ||| ((1 : Int32) <<< (x3 &&& 31))))), some (.inl (x3 + 1))], [], am_mk m)) rfl ?_
        first | exact ih h | exact ih h hk
      · by_cases hc3 : (x1 &&& ((m.1 30 0 x3.toNatClampNeg) ^^^ (-1 : Int32))) ≠ 0
        · refine am_Go.c1 htb (S' := (31, [some (.inr (.inr (some (6, 0)))), some (.inl x1), some (.inl x2), some (.inl x3)], [], am_mk m)) (if_pos hc3) ?_
          simp only [if_pos hc3] at key
          exact am_Go.fg (by exact ⟨rfl, ⟨rfl, ⟨rfl, ⟨rfl, trivial⟩⟩⟩⟩) key
        · refine am_Go.c1 htb (S' := (25, [some (.inr (.inr (some (6, 0)))), some (.inl x1), some (.inl x2), some (.inl x3)], [], am_mk m)) (if_neg hc3) ?_
          refine am_Go.n htb 6 (S' := (31, [some (.inr (.inr (some (6, 0)))), some (.inl x1), some (.inl (x2 ||| ((1 : Int32) <<< (x3 &&& 31)))), some (.inl x3)], [], am_mk m)) rfl ?_
          simp only [if_neg hc3] at key
          exact am_Go.fg (by exact ⟨rfl, ⟨rfl, ⟨rfl, ⟨rfl, trivial⟩⟩⟩⟩) key
set_option maxRecDepth 100000 in
theorem ex_X6_fittingFor (d : Nat) (hd : 1 ≤ d) (a1 : Int32) (m : am_m) (t : Int32) (h : fn_X6_fittingFor a1 m = some t) : am_Ex am_cod d 90 [.inr (.inr (some (6, 0))), .inl a1] (am_mk m) (some (.inl t)) (am_mk m) 0 0 := by
  obtain ⟨d, rfl⟩ : ∃ e, d = e + 1 := ⟨d - 1, by omega⟩
  have htb : am_tab 90 = at_90 := rfl
  refine ⟨Nat.le_of_ble_eq_true rfl, ?_⟩
  unfold fn_X6_fittingFor at h
  show am_Go d 90 (0, [some (.inr (.inr (some (6, 0)))), some (.inl a1), none, none], [], am_mk m) _ _ 0 0
  refine am_Go.n htb 4 (S' := (4, [some (.inr (.inr (some (6, 0)))), some (.inl a1), some (.inl 0), some (.inl 0)], [], am_mk m)) rfl ?_
  obtain ⟨q4, h5, h⟩ := am_bd h
  refine lt_X6_fittingFor_4 _ hd (h := h5) (hk := ?_)
  refine am_Go.n htb 1 (S' := (38, [some (.inr (.inr (some (6, 0)))), some (.inl a1), some (.inl q4), none], [.inl q4], am_mk m)) rfl ?_
  cases h
  exact am_Go.rt htb rfl
-- X6_companionsAmong
set_option maxRecDepth 100000 in
theorem ex_X6_companionsAmong (d : Nat) (hd : 3 ≤ d) (a1 : Int32) (a2 : Int32) (m : am_m) (t : Int32) (h : fn_X6_companionsAmong a1 a2 m = some t) : am_Ex am_cod d 91 [.inr (.inr (some (6, 0))), .inl a1, .inl a2] (am_mk m) (some (.inl t)) (am_mk m) 0 0 := by
  obtain ⟨d, rfl⟩ : ∃ e, d = e + 1 := ⟨d - 1, by omega⟩
  have htb : am_tab 91 = at_91 := rfl
  refine ⟨Nat.le_of_ble_eq_true rfl, ?_⟩
  unfold fn_X6_companionsAmong at h
  show am_Go d 91 (0, [some (.inr (.inr (some (6, 0)))), some (.inl a1), some (.inl a2)], [], am_mk m) _ _ 0 0
  refine am_Go.n htb 2 (S' := (2, [some (.inr (.inr (some (6, 0)))), some (.inl a1), some (.inl a2)], [.inl a1, .inr (.inr (some (6, 0)))], am_mk m)) rfl ?_
  obtain ⟨r1, h2, h⟩ := am_bd h
  refine am_Go.cl htb rfl (ex_X6_mayOf d (by omega) a1 m r1 h2) ?_
  show am_Go d 91 (5, [some (.inr (.inr (some (6, 0)))), some (.inl a1), some (.inl a2)], [.inl r1], am_mk m) _ _ _ _
  refine am_Go.n htb 2 (S' := (7, [some (.inr (.inr (some (6, 0)))), some (.inl a1), some (.inl a2)], [.inl (r1 &&& a2)], am_mk m)) rfl ?_
  obtain ⟨r3, h4, h⟩ := am_bd h
  refine am_Go.cl htb rfl (ex_J6_bitCount_0f7a4 d (by omega) (r1 &&& a2) m r3 h4) ?_
  show am_Go d 91 (10, [some (.inr (.inr (some (6, 0)))), some (.inl a1), some (.inl a2)], [.inl r3], am_mk m) _ _ _ _
  cases h
  exact am_Go.rt htb rfl
-- X6_nearestHalf
set_option maxRecDepth 100000 in
theorem lt_X6_nearestHalf_8 (d : Nat) (hd : 4 ≤ d + 1) {r : Option am_V} {M' : am_M} {kc ks : Nat} {n : Nat} {x1 : Int32} {x2 : Int32} {x3 : Int32} {x4 : Int32} {m : am_m} {t : Int32} (h : lp_X6_nearestHalf_8 n x1 x2 x3 x4 m = some t) (hk : am_Go d 92 (58, [some (.inr (.inr (some (6, 0)))), some (.inl x1), some (.inl t), none, none, none], [], am_mk m) r M' kc ks) : am_Go d 92 (8, [some (.inr (.inr (some (6, 0)))), some (.inl x1), some (.inl x2), some (.inl x3), some (.inl x4), none], [], am_mk m) r M' kc ks := by
  have htb : am_tab 92 = at_92 := rfl
  induction n generalizing x2 x3 x4 with
  | zero => cases h
  | succ n ih =>
    unfold lp_X6_nearestHalf_8 at h
    refine am_Go.n htb 3 (S' := (14, [some (.inr (.inr (some (6, 0)))), some (.inl x1), some (.inl x2), some (.inl x3), some (.inl x4), none], [.inl (m.1 6 0 0), .inl x4], am_mk m)) rfl ?_
    by_cases hc1 : (m.1 6 0 0) ≤ x4
    · rw [if_pos hc1] at h
      refine am_Go.c1 htb (S' := (58, [some (.inr (.inr (some (6, 0)))), some (.inl x1), some (.inl x2), some (.inl x3), some (.inl x4), none], [], am_mk m)) (if_pos hc1) ?_
      cases h
      exact am_Go.fg (by exact ⟨rfl, ⟨rfl, ⟨rfl, trivial⟩⟩⟩) hk
    · rw [if_neg hc1] at h
      refine am_Go.c1 htb (S' := (17, [some (.inr (.inr (some (6, 0)))), some (.inl x1), some (.inl x2), some (.inl x3), some (.inl x4), none], [], am_mk m)) (if_neg hc1) ?_
      refine am_Go.n htb 1 (S' := (18, [some (.inr (.inr (some (6, 0)))), some (.inl x1), some (.inl x2), some (.inl x3), some (.inl x4), none], [.inl x1], am_mk m)) rfl ?_
      by_cases hc2 : x1 = 0
      · rw [if_pos hc2] at h
        refine am_Go.c1 htb (S' := (58, [some (.inr (.inr (some (6, 0)))), some (.inl x1), some (.inl x2), some (.inl x3), some (.inl x4), none], [], am_mk m)) (if_pos hc2) ?_
        cases h
        exact am_Go.fg (by exact ⟨rfl, ⟨rfl, ⟨rfl, trivial⟩⟩⟩) hk
      · rw [if_neg hc2] at h
        refine am_Go.c1 htb (S' := (21, [some (.inr (.inr (some (6, 0)))), some (.inl x1), some (.inl x2), some (.inl x3), some (.inl x4), none], [], am_mk m)) (if_neg hc2) ?_
        refine am_Go.n htb 4 (S' := (26, [some (.inr (.inr (some (6, 0)))), some (.inl x1), some (.inl x2), some (.inl x3), some (.inl x4), none], [.inl x1, .inl x4, .inr (.inr (some (6, 0))), .inl 2], am_mk m)) rfl ?_
        obtain ⟨r3, h4, h⟩ := am_bd h
        refine am_Go.cl htb rfl (ex_X6_companionsAmong d (by omega) x4 x1 m r3 h4) ?_
        show am_Go d 92 (29, [some (.inr (.inr (some (6, 0)))), some (.inl x1), some (.inl x2), some (.inl x3), some (.inl x4), none], [.inl r3, .inl 2], am_mk m) _ _ _ _
        refine am_Go.n htb 2 (S' := (31, [some (.inr (.inr (some (6, 0)))), some (.inl x1), some (.inl x2), some (.inl x3), some (.inl x4), none], [.inl x1, .inl ((2 : Int32) * r3)], am_mk m)) rfl ?_
        obtain ⟨r5, h6, h⟩ := am_bd h
        refine am_Go.cl htb rfl (ex_J6_bitCount_0f7a4 d (by omega) x1 m r5 h6) ?_
        show am_Go d 92 (34, [some (.inr (.inr (some (6, 0)))), some (.inl x1), some (.inl x2), some (.inl x3), some (.inl x4), none], [.inl r5, .inl ((2 : Int32) * r3)], am_mk m) _ _ _ _
        refine am_Go.n htb 1 (S' := (35, [some (.inr (.inr (some (6, 0)))), some (.inl x1), some (.inl x2), some (.inl x3), some (.inl x4), none], [.inl (((2 : Int32) * r3) - r5)], am_mk m)) rfl ?_
        obtain ⟨r7, h8, h⟩ := am_bd h
        refine am_Go.cl htb rfl (ex_J9_abs_0f7a4 d (by omega) (((2 : Int32) * r3) - r5) m r7 h8) ?_
        show am_Go d 92 (38, [some (.inr (.inr (some (6, 0)))), some (.inl x1), some (.inl x2), some (.inl x3), some (.inl x4), none], [.inl r7], am_mk m) _ _ _ _
        refine am_Go.n htb 3 (S' := (43, [some (.inr (.inr (some (6, 0)))), some (.inl x1), some (.inl x2), some (.inl x3), some (.inl x4), some (.inl r7)], [.inl x3, .inl r7], am_mk m)) rfl ?_
        refine am_Go.cut (S := (52, [some (.inr (.inr (some (6, 0)))), some (.inl x1), some (.inl (if x3 ≤ r7 then x2 else x4)), some (.inl (if x3 ≤ r7 then x3 else r7)), some (.inl x4), some (.inl r7)], [], am_mk m)) ?_ (fun key => ?_)
        · refine am_Go.n htb 2 (S' := (8, [some (.inr (.inr (some (6, 0)))), some (.inl x1), some (.inl (if x3 ≤ r7 then x2 else x4)), some (.inl (if x3 ≤ r7 then x3 else r7)), some (.inl (x4 + 1)), some (.inl r7)], [], am_mk m)) rfl ?_
          refine am_Go.fg (L0 := [some (.inr (.inr (some (6, 0)))), some (.inl x1), some (.inl (if x3 ≤ r7 then x2 else x4)), some (.inl (if x3 ≤ r7 then x3 else r7)), some (.inl (x4 + 1)), none]) (by exact ⟨rfl, ⟨rfl, ⟨rfl, ⟨rfl, ⟨rfl, trivial⟩⟩⟩⟩⟩) ?_
          first | exact ih h | exact ih h hk
        · by_cases hc9 : x3 ≤ r7
          · refine am_Go.c1 htb (S' := (52, [some (.inr (.inr (some (6, 0)))), some (.inl x1), some (.inl x2), some (.inl x3), some (.inl x4), some (.inl r7)], [], am_mk m)) (if_pos hc9) ?_
            simp only [if_pos hc9] at key
            exact am_Go.fg (by exact ⟨rfl, ⟨rfl, ⟨rfl, ⟨rfl, ⟨rfl, ⟨rfl, trivial⟩⟩⟩⟩⟩⟩) key
          · refine am_Go.c1 htb (S' := (46, [some (.inr (.inr (some (6, 0)))), some (.inl x1), some (.inl x2), some (.inl x3), some (.inl x4), some (.inl r7)], [], am_mk m)) (if_neg hc9) ?_
            refine am_Go.n htb 4 (S' := (52, [some (.inr (.inr (some (6, 0)))), some (.inl x1), some (.inl x4), some (.inl r7), some (.inl x4), some (.inl r7)], [], am_mk m)) rfl ?_
            simp only [if_neg hc9] at key
            exact am_Go.fg (by exact ⟨rfl, ⟨rfl, ⟨rfl, ⟨rfl, ⟨rfl, ⟨rfl, trivial⟩⟩⟩⟩⟩⟩) key
set_option maxRecDepth 100000 in
theorem ex_X6_nearestHalf (d : Nat) (hd : 4 ≤ d) (a1 : Int32) (m : am_m) (t : Int32) (h : fn_X6_nearestHalf a1 m = some t) : am_Ex am_cod d 92 [.inr (.inr (some (6, 0))), .inl a1] (am_mk m) (some (.inl t)) (am_mk m) 0 0 := by
  obtain ⟨d, rfl⟩ : ∃ e, d = e + 1 := ⟨d - 1, by omega⟩
  have htb : am_tab 92 = at_92 := rfl
  refine ⟨Nat.le_of_ble_eq_true rfl, ?_⟩
  unfold fn_X6_nearestHalf at h
  show am_Go d 92 (0, [some (.inr (.inr (some (6, 0)))), some (.inl a1), none, none, none, none], [], am_mk m) _ _ 0 0
  refine am_Go.n htb 6 (S' := (8, [some (.inr (.inr (some (6, 0)))), some (.inl a1), some (.inl (-1)), some (.inl 8), some (.inl 0), none], [], am_mk m)) rfl ?_
  obtain ⟨q10, h11, h⟩ := am_bd h
  refine lt_X6_nearestHalf_8 _ hd (h := h11) (hk := ?_)
  refine am_Go.n htb 1 (S' := (59, [some (.inr (.inr (some (6, 0)))), some (.inl a1), some (.inl q10), none, none, none], [.inl q10], am_mk m)) rfl ?_
  cases h
  exact am_Go.rt htb rfl
-- X7_take
set_option maxRecDepth 100000 in
theorem lt_X7_take_3 (d : Nat) (hd : 1 ≤ d + 1) {r : Option am_V} {M' : am_M} {kc ks : Nat} {n : Nat} {x1 : Int32} {x2 : Int32} {m : am_m} {t : am_m} (h : lp_X7_take_3 n x1 x2 m = some t) (hk : am_Go d 94 (49, [some (.inr (.inr (some (7, 0)))), some (.inl x1), none], [], am_mk t) r M' kc ks) : am_Go d 94 (3, [some (.inr (.inr (some (7, 0)))), some (.inl x1), some (.inl x2)], [], am_mk m) r M' kc ks := by
  have htb : am_tab 94 = at_94 := rfl
  induction n generalizing x2 m with
  | zero => cases h
  | succ n ih =>
    unfold lp_X7_take_3 at h
    refine am_Go.n htb 1 (S' := (4, [some (.inr (.inr (some (7, 0)))), some (.inl x1), some (.inl x2)], [.inl x2], am_mk m)) rfl ?_
    by_cases hc1 : x2 < 0
    · rw [if_pos hc1] at h
      refine am_Go.c1 htb (S' := (49, [some (.inr (.inr (some (7, 0)))), some (.inl x1), some (.inl x2)], [], am_mk m)) (if_pos hc1) ?_
      cases h
      exact am_Go.fg (by exact ⟨rfl, ⟨rfl, trivial⟩⟩) hk
    · rw [if_neg hc1] at h
      refine am_Go.c1 htb (S' := (7, [some (.inr (.inr (some (7, 0)))), some (.inl x1), some (.inl x2)], [], am_mk m)) (if_neg hc1) ?_
      refine am_Go.n htb 3 (S' := (14, [some (.inr (.inr (some (7, 0)))), some (.inl x1), some (.inl x2)], [.inl 400, .inl (m.1 7 0 1)], am_mk m)) rfl ?_
      obtain ⟨q4, h5, h⟩ := am_bd h
      refine am_Go.cut (S := (43, [some (.inr (.inr (some (7, 0)))), some (.inl x1), some (.inl x2)], [], am_mk q4)) ?_ (fun key => ?_)
      · refine am_Go.o htb (am_o_inc 2 (-8)) rfl (S' := (46, [some (.inr (.inr (some (7, 0)))), some (.inl x1), some (.inl (x2 - 8))], [], am_mk q4)) (am_incn rfl rfl) ?_
        refine am_Go.n htb 1 (S' := (3, [some (.inr (.inr (some (7, 0)))), some (.inl x1), some (.inl (x2 - 8))], [], am_mk q4)) rfl ?_
        first | exact ih h | exact ih h hk
      · have h := h5
        by_cases hc2 : (400 : Int32) ≤ (m.1 7 0 1)
        · rw [if_pos hc2] at h
          refine am_Go.c1 htb (S' := (43, [some (.inr (.inr (some (7, 0)))), some (.inl x1), some (.inl x2)], [], am_mk m)) (if_pos hc2) ?_
          cases h
          exact am_Go.fg (by exact ⟨rfl, ⟨rfl, ⟨rfl, trivial⟩⟩⟩) key
        · rw [if_neg hc2] at h
          refine am_Go.c1 htb (S' := (17, [some (.inr (.inr (some (7, 0)))), some (.inl x1), some (.inl x2)], [], am_mk m)) (if_neg hc2) ?_
          refine am_Go.n htb 9 (S' := (32, [some (.inr (.inr (some (7, 0)))), some (.inl x1), some (.inl x2)], [.inl ((x1 >>> (x2 &&& 31)) &&& (255 : Int32)), .inl (m.1 7 0 1), .inr (.inr (some (35, 0)))], am_mk m)) rfl ?_
          obtain ⟨hg3, h⟩ := am_ck_some h
          refine am_Go.c1 htb (S' := (33, [some (.inr (.inr (some (7, 0)))), some (.inl x1), some (.inl x2)], [], am_mk (am_si m 35 0 (m.1 7 0 1).toNatClampNeg ((x1 >>> (x2 &&& 31)) &&& (255 : Int32))))) (if_neg hg3) ?_
          refine am_Go.n htb 6 (S' := (43, [some (.inr (.inr (some (7, 0)))), some (.inl x1), some (.inl x2)], [], am_mk (am_si (am_si m 35 0 (m.1 7 0 1).toNatClampNeg ((x1 >>> (x2 &&& 31)) &&& (255 : Int32))) 7 0 1 ((m.1 7 0 1) + (1 : Int32))))) rfl ?_
          cases h
          exact am_Go.fg (by exact ⟨rfl, ⟨rfl, ⟨rfl, trivial⟩⟩⟩) key
set_option maxRecDepth 100000 in
theorem ex_X7_take (d : Nat) (hd : 1 ≤ d) (a1 : Int32) (m : am_m) (t : am_m) (h : fn_X7_take a1 m = some t) : am_Ex am_cod d 94 [.inr (.inr (some (7, 0))), .inl a1] (am_mk m) (none) (am_mk t) 0 0 := by
  obtain ⟨d, rfl⟩ : ∃ e, d = e + 1 := ⟨d - 1, by omega⟩
  have htb : am_tab 94 = at_94 := rfl
  refine ⟨Nat.le_of_ble_eq_true rfl, ?_⟩
  unfold fn_X7_take at h
  show am_Go d 94 (0, [some (.inr (.inr (some (7, 0)))), some (.inl a1), none], [], am_mk m) _ _ 0 0
  refine am_Go.n htb 2 (S' := (3, [some (.inr (.inr (some (7, 0)))), some (.inl a1), some (.inl 24)], [], am_mk m)) rfl ?_
  obtain ⟨q6, h7, h⟩ := am_bd h
  refine lt_X7_take_3 _ hd (h := h7) (hk := ?_)
  cases h
  exact am_Go.rt htb rfl
