-- X6_addTable
set_option maxRecDepth 100000 in
theorem lt_X6_addTable_3 (d : Nat) (hd : 2 ≤ d + 1) {r : Option am_V} {M' : am_M} {kc ks : Nat} {n : Nat} {x1 : Int32} {x2 : Int32} {m : am_m} {t : am_m} (h : lp_X6_addTable_3 n x1 x2 m = some t) (hk : am_Go d 78 (75, [some (.inr (.inr (some (6, 0)))), some (.inl x1), none, none, none], [], am_mk t) r M' kc ks) : am_Go d 78 (3, [some (.inr (.inr (some (6, 0)))), some (.inl x1), some (.inl x2), none, none], [], am_mk m) r M' kc ks := by
  have htb : am_tab 78 = at_78 := rfl
  induction n generalizing x2 m with
  | zero => cases h
  | succ n ih =>
    unfold lp_X6_addTable_3 at h
    refine am_Go.n htb 1 (S' := (4, [some (.inr (.inr (some (6, 0)))), some (.inl x1), some (.inl x2), none, none], [.inl x2], am_mk m)) rfl ?_
    by_cases hc1 : x2 < 0
    · rw [if_pos hc1] at h
      refine am_Go.c1 htb (S' := (75, [some (.inr (.inr (some (6, 0)))), some (.inl x1), some (.inl x2), none, none], [], am_mk m)) (if_pos hc1) ?_
      cases h
      exact am_Go.fg (by exact ⟨rfl, ⟨rfl, trivial⟩⟩) hk
    · rw [if_neg hc1] at h
      refine am_Go.c1 htb (S' := (7, [some (.inr (.inr (some (6, 0)))), some (.inl x1), some (.inl x2), none, none], [], am_mk m)) (if_neg hc1) ?_
      refine am_Go.n htb 6 (S' := (14, [some (.inr (.inr (some (6, 0)))), some (.inl x1), some (.inl x2), some (.inl (x2 ||| x1)), none], [.inl 127, .inl (x2 ||| x1)], am_mk m)) rfl ?_
      obtain ⟨q14, h15, h⟩ := am_bd h
      refine am_Go.cut (S := (69, [some (.inr (.inr (some (6, 0)))), some (.inl x1), some (.inl x2), some (.inl (x2 ||| x1)), none], [], am_mk q14)) ?_ (fun key => ?_)
      · refine am_Go.o htb (am_o_inc 2 (-1)) rfl (S' := (72, [some (.inr (.inr (some (6, 0)))), some (.inl x1), some (.inl (x2 - 1)), some (.inl (x2 ||| x1)), none], [], am_mk q14)) (am_incn rfl rfl) ?_
        refine am_Go.n htb 1 (S' := (3, [some (.inr (.inr (some (6, 0)))), some (.inl x1), some (.inl (x2 - 1)), some (.inl (x2 ||| x1)), none], [], am_mk q14)) rfl ?_
        refine am_Go.fg (L0 := [some (.inr (.inr (some (6, 0)))), some (.inl x1), some (.inl (x2 - 1)), none, none]) (by exact ⟨rfl, ⟨rfl, ⟨rfl, trivial⟩⟩⟩) ?_
        first | exact ih h | exact ih h hk
      · have h := h15
        by_cases hc2 : (127 : Int32) < (x2 ||| x1)
        · rw [if_pos hc2] at h
          refine am_Go.c1 htb (S' := (69, [some (.inr (.inr (some (6, 0)))), some (.inl x1), some (.inl x2), some (.inl (x2 ||| x1)), none], [], am_mk m)) (if_pos hc2) ?_
          cases h
          exact am_Go.fg (by exact ⟨rfl, ⟨rfl, ⟨rfl, ⟨rfl, trivial⟩⟩⟩⟩) key
        · rw [if_neg hc2] at h
          refine am_Go.c1 htb (S' := (17, [some (.inr (.inr (some (6, 0)))), some (.inl x1), some (.inl x2), some (.inl (x2 ||| x1)), none], [], am_mk m)) (if_neg hc2) ?_
          refine am_Go.n htb 3 (S' := (22, [some (.inr (.inr (some (6, 0)))), some (.inl x1), some (.inl x2), some (.inl (x2 ||| x1)), none], [.inl x2, .inr (.inr (some (34, 0)))], am_mk m)) rfl ?_
          obtain ⟨hg3, h⟩ := am_ck_some h
          refine am_Go.c1 htb (S' := (23, [some (.inr (.inr (some (6, 0)))), some (.inl x1), some (.inl x2), some (.inl (x2 ||| x1)), none], [.inl (m.1 34 0 x2.toNatClampNeg)], am_mk m)) (if_neg hg3) ?_
          refine am_Go.n htb 1 (S' := (24, [some (.inr (.inr (some (6, 0)))), some (.inl x1), some (.inl x2), some (.inl (x2 ||| x1)), none], [.inl (-1), .inl (m.1 34 0 x2.toNatClampNeg)], am_mk m)) rfl ?_
          by_cases hc4 : (m.1 34 0 x2.toNatClampNeg) = (-1 : Int32)
          · rw [if_pos hc4] at h
            refine am_Go.c1 htb (S' := (69, [some (.inr (.inr (some (6, 0)))), some (.inl x1), some (.inl x2), some (.inl (x2 ||| x1)), none], [], am_mk m)) (if_pos hc4) ?_
            cases h
            exact am_Go.fg (by exact ⟨rfl, ⟨rfl, ⟨rfl, ⟨rfl, trivial⟩⟩⟩⟩) key
          · rw [if_neg hc4] at h
            refine am_Go.c1 htb (S' := (27, [some (.inr (.inr (some (6, 0)))), some (.inl x1), some (.inl x2), some (.inl (x2 ||| x1)), none], [], am_mk m)) (if_neg hc4) ?_
            refine am_Go.n htb 3 (S' := (32, [some (.inr (.inr (some (6, 0)))), some (.inl x1), some (.inl x2), some (.inl (x2 ||| x1)), none], [.inl x2, .inr (.inr (some (34, 0)))], am_mk m)) rfl ?_
            obtain ⟨hg5, h⟩ := am_ck_some h
            refine am_Go.c1 htb (S' := (33, [some (.inr (.inr (some (6, 0)))), some (.inl x1), some (.inl x2), some (.inl (x2 ||| x1)), none], [.inl (m.1 34 0 x2.toNatClampNeg)], am_mk m)) (if_neg hg5) ?_
            refine am_Go.n htb 9 (S' := (47, [some (.inr (.inr (some (6, 0)))), some (.inl x1), some (.inl x2), some (.inl (x2 ||| x1)), some (.inl ((m.1 34 0 x2.toNatClampNeg) + (1 : Int32)))], [.inl (x2 ||| x1), .inr (.inr (some (34, 0))), .inl (x2 ||| x1), .inr (.inr (some (34, 0)))], am_mk m)) rfl ?_
            obtain ⟨hg6, h⟩ := am_ck_some h
            refine am_Go.c1 htb (S' := (48, [some (.inr (.inr (some (6, 0)))), some (.inl x1), some (.inl x2), some (.inl (x2 ||| x1)), some (.inl ((m.1 34 0 x2.toNatClampNeg) + (1 : Int32)))], [.inl (m.1 34 0 (x2 ||| x1).toNatClampNeg), .inl (x2 ||| x1), .inr (.inr (some (34, 0)))], am_mk m)) (if_neg hg6) ?_
            refine am_Go.n htb 1 (S' := (49, [some (.inr (.inr (some (6, 0)))), some (.inl x1), some (.inl x2), some (.inl (x2 ||| x1)), some (.inl ((m.1 34 0 x2.toNatClampNeg) + (1 : Int32)))], [.inl (-1), .inl (m.1 34 0 (x2 ||| x1).toNatClampNeg), .inl (x2 ||| x1), .inr (.inr (some (34, 0)))], am_mk m)) rfl ?_
            obtain ⟨q11, h13, h⟩ := am_bd h
            refine am_Go.cut (S := (68, [some (.inr (.inr (some (6, 0)))), some (.inl x1), some (.inl x2), some (.inl (x2 ||| x1)), some (.inl ((m.1 34 0 x2.toNatClampNeg) + (1 : Int32)))], [.inl q11, .inl (x2 ||| x1), .inr (.inr (some (34, 0)))], am_mk m)) ?_ (fun key => ?_)
            · obtain ⟨hg12, h⟩ := am_ck_some h
              refine am_Go.c1 htb (S' := (69, [some (.inr (.inr (some (6, 0)))), some (.inl x1), some (.inl x2), some (.inl (x2 ||| x1)), some (.inl ((m.1 34 0 x2.toNatClampNeg) + (1 : Int32)))], [], am_mk (am_si m 34 0 (x2 ||| x1).toNatClampNeg q11))) (if_neg hg12) ?_
              cases h
              exact am_Go.fg (by exact ⟨rfl, ⟨rfl, ⟨rfl, ⟨rfl, trivial⟩⟩⟩⟩) key
            · have h := h13
              by_cases hc7 : (m.1 34 0 (x2 ||| x1).toNatClampNeg) ≠ (-1 : Int32)
              · rw [if_pos hc7] at h
                refine am_Go.c1 htb (S' := (57, [some (.inr (.inr (some (6, 0)))), some (.inl x1), some (.inl x2), some (.inl (x2 ||| x1)), some (.inl ((m.1 34 0 x2.toNatClampNeg) + (1 : Int32)))], [.inl (x2 ||| x1), .inr (.inr (some (34, 0)))], am_mk m)) (if_pos hc7) ?_
                refine am_Go.n htb 3 (S' := (62, [some (.inr (.inr (some (6, 0)))), some (.inl x1), some (.inl x2), some (.inl (x2 ||| x1)), some (.inl ((m.1 34 0 x2.toNatClampNeg) + (1 : Int32)))], [.inl (x2 ||| x1), .inr (.inr (some (34, 0))), .inl (x2 ||| x1), .inr (.inr (some (34, 0)))], am_mk m)) rfl ?_
                obtain ⟨hg8, h⟩ := am_ck_some h
                refine am_Go.c1 htb (S' := (63, [some (.inr (.inr (some (6, 0)))), some (.inl x1), some (.inl x2), some (.inl (x2 ||| x1)), some (.inl ((m.1 34 0 x2.toNatClampNeg) + (1 : Int32)))], [.inl (m.1 34 0 (x2 ||| x1).toNatClampNeg), .inl (x2 ||| x1), .inr (.inr (some (34, 0)))], am_mk m)) (if_neg hg8) ?_
                refine am_Go.n htb 1 (S' := (65, [some (.inr (.inr (some (6, 0)))), some (.inl x1), some (.inl x2), some (.inl (x2 ||| x1)), some (.inl ((m.1 34 0 x2.toNatClampNeg) + (1 : Int32)))], [.inl ((m.1 34 0 x2.toNatClampNeg) + (1 : Int32)), .inl (m.1 34 0 (x2 ||| x1).toNatClampNeg), .inl (x2 ||| x1), .inr (.inr (some (34, 0)))], am_mk m)) rfl ?_
                obtain ⟨r9, h10, h⟩ := am_bd h
                refine am_Go.cl htb rfl (ex_J9_min_7cf53 d (by omega) (m.1 34 0 (x2 ||| x1).toNatClampNeg) ((m.1 34 0 x2.toNatClampNeg) + (1 : Int32)) m r9 h10) ?_
                show am_Go d 78 (68, [some (.inr (.inr (some (6, 0)))), some (.inl x1), some (.inl x2), some (.inl (x2 ||| x1)), some (.inl ((m.1 34 0 x2.toNatClampNeg) + (1 : Int32)))], [.inl r9, .inl (x2 ||| x1), .inr (.inr (some (34, 0)))], am_mk m) _ _ _ _
                cases h
                exact am_Go.fg (by exact ⟨rfl, ⟨rfl, ⟨rfl, ⟨rfl, ⟨rfl, trivial⟩⟩⟩⟩⟩) key
              · rw [if_neg hc7] at h
                refine am_Go.c1 htb (S' := (52, [some (.inr (.inr (some (6, 0)))), some (.inl x1), some (.inl x2), some (.inl (x2 ||| x1)), some (.inl ((m.1 34 0 x2.toNatClampNeg) + (1 : Int32)))], [.inl (x2 ||| x1), .inr (.inr (some (34, 0)))], am_mk m)) (if_neg hc7) ?_
                refine am_Go.n htb 2 (S' := (68, [some (.inr (.inr (some (6, 0)))), some (.inl x1), some (.inl x2), some (.inl (x2 ||| x1)), some (.inl ((m.1 34 0 x2.toNatClampNeg) + (1 : Int32)))], [.inl ((m.1 34 0 x2.toNatClampNeg) + (1 : Int32)), .inl (x2 ||| x1), .inr (.inr (some (34, 0)))], am_mk m)) rfl ?_
                cases h
                exact am_Go.fg (by exact ⟨rfl, ⟨rfl, ⟨rfl, ⟨rfl, ⟨rfl, trivial⟩⟩⟩⟩⟩) key
set_option maxRecDepth 100000 in
theorem ex_X6_addTable (d : Nat) (hd : 2 ≤ d) (a1 : Int32) (m : am_m) (t : am_m) (h : fn_X6_addTable a1 m = some t) : am_Ex am_cod d 78 [.inr (.inr (some (6, 0))), .inl a1] (am_mk m) (none) (am_mk t) 0 0 := by
  obtain ⟨d, rfl⟩ : ∃ e, d = e + 1 := ⟨d - 1, by omega⟩
  have htb : am_tab 78 = at_78 := rfl
  refine ⟨Nat.le_of_ble_eq_true rfl, ?_⟩
  unfold fn_X6_addTable at h
  show am_Go d 78 (0, [some (.inr (.inr (some (6, 0)))), some (.inl a1), none, none, none], [], am_mk m) _ _ 0 0
  refine am_Go.n htb 2 (S' := (3, [some (.inr (.inr (some (6, 0)))), some (.inl a1), some (.inl 127), none, none], [], am_mk m)) rfl ?_
  obtain ⟨q16, h17, h⟩ := am_bd h
  refine lt_X6_addTable_3 _ hd (h := h17) (hk := ?_)
  cases h
  exact am_Go.rt htb rfl
-- X6_fewestFeeding
set_option maxRecDepth 100000 in
theorem lt_X6_fewestFeeding_2 (d : Nat) (hd : 3 ≤ d + 1) {r : Option am_V} {M' : am_M} {kc ks : Nat} {n : Nat} {x1 : Int32} {x2 : Int32} {m : am_m} {t : am_m} (h : lp_X6_fewestFeeding_2 n x1 x2 m = some t) (hk : am_Go d 77 (21, [some (.inr (.inr (some (6, 0)))), some (.inl x1), none], [], am_mk t) r M' kc ks) : am_Go d 77 (2, [some (.inr (.inr (some (6, 0)))), some (.inl x1), some (.inl x2)], [], am_mk m) r M' kc ks := by
  have htb : am_tab 77 = at_77 := rfl
  induction n generalizing x2 m with
  | zero => cases h
  | succ n ih =>
    unfold lp_X6_fewestFeeding_2 at h
    refine am_Go.n htb 2 (S' := (5, [some (.inr (.inr (some (6, 0)))), some (.inl x1), some (.inl x2)], [.inl 127, .inl x2], am_mk m)) rfl ?_
    by_cases hc1 : (127 : Int32) < x2
    · rw [if_pos hc1] at h
      refine am_Go.c1 htb (S' := (21, [some (.inr (.inr (some (6, 0)))), some (.inl x1), some (.inl x2)], [], am_mk m)) (if_pos hc1) ?_
      cases h
      exact am_Go.fg (by exact ⟨rfl, ⟨rfl, trivial⟩⟩) hk
    · rw [if_neg hc1] at h
      refine am_Go.c1 htb (S' := (8, [some (.inr (.inr (some (6, 0)))), some (.inl x1), some (.inl x2)], [], am_mk m)) (if_neg hc1) ?_
      refine am_Go.n htb 4 (S' := (14, [some (.inr (.inr (some (6, 0)))), some (.inl x1), some (.inl x2)], [.inl (-1), .inl x2, .inr (.inr (some (34, 0)))], am_mk m)) rfl ?_
      obtain ⟨hg2, h⟩ := am_ck_some h
      refine am_Go.c1 htb (S' := (15, [some (.inr (.inr (some (6, 0)))), some (.inl x1), some (.inl x2)], [], am_mk (am_si m 34 0 x2.toNatClampNeg (-1)))) (if_neg hg2) ?_
      refine am_Go.n htb 2 (S' := (2, [some (.inr (.inr (some (6, 0)))), some (.inl x1), some (.inl (x2 + 1))], [], am_mk (am_si m 34 0 x2.toNatClampNeg (-1)))) rfl ?_
      first | exact ih h | exact ih h hk
set_option maxRecDepth 100000 in
theorem lt_X6_fewestFeeding_30 (d : Nat) (hd : 3 ≤ d + 1) {r : Option am_V} {M' : am_M} {kc ks : Nat} {n : Nat} {x1 : Int32} {x2 : Int32} {m : am_m} {t : am_m} (h : lp_X6_fewestFeeding_30 n x1 x2 m = some t) (hk : am_Go d 77 (59, [some (.inr (.inr (some (6, 0)))), some (.inl x1), none], [], am_mk t) r M' kc ks) : am_Go d 77 (30, [some (.inr (.inr (some (6, 0)))), some (.inl x1), some (.inl x2)], [], am_mk m) r M' kc ks := by
  have htb : am_tab 77 = at_77 := rfl
  induction n generalizing x2 m with
  | zero => cases h
  | succ n ih =>
    unfold lp_X6_fewestFeeding_30 at h
    refine am_Go.n htb 2 (S' := (32, [some (.inr (.inr (some (6, 0)))), some (.inl x1), some (.inl x2)], [.inr (.inr (some (6, 0))), .inl x2], am_mk m)) rfl ?_
    obtain ⟨r5, h6, h⟩ := am_bd h
    refine am_Go.cl htb rfl (ex_X6_everybody d (by omega)  m r5 h6) ?_
    show am_Go d 77 (35, [some (.inr (.inr (some (6, 0)))), some (.inl x1), some (.inl x2)], [.inl r5, .inl x2], am_mk m) _ _ _ _
    by_cases hc7 : r5 < x2
    · rw [if_pos hc7] at h
      refine am_Go.c1 htb (S' := (59, [some (.inr (.inr (some (6, 0)))), some (.inl x1), some (.inl x2)], [], am_mk m)) (if_pos hc7) ?_
      cases h
      exact am_Go.fg (by exact ⟨rfl, ⟨rfl, trivial⟩⟩) hk
    · rw [if_neg hc7] at h
      refine am_Go.c1 htb (S' := (38, [some (.inr (.inr (some (6, 0)))), some (.inl x1), some (.inl x2)], [], am_mk m)) (if_neg hc7) ?_
      refine am_Go.n htb 2 (S' := (40, [some (.inr (.inr (some (6, 0)))), some (.inl x1), some (.inl x2)], [.inl x2, .inr (.inr (some (6, 0)))], am_mk m)) rfl ?_
      obtain ⟨r8, h9, h⟩ := am_bd h
      refine am_Go.cl htb rfl (ex_X6_isTable d (by omega) x2 m r8 h9) ?_
      show am_Go d 77 (43, [some (.inr (.inr (some (6, 0)))), some (.inl x1), some (.inl x2)], [.inl r8], am_mk m) _ _ _ _
      obtain ⟨q13, h14, h⟩ := am_bd h
      refine am_Go.cut (S := (53, [some (.inr (.inr (some (6, 0)))), some (.inl x1), some (.inl x2)], [], am_mk q13)) ?_ (fun key => ?_)
      · refine am_Go.n htb 2 (S' := (30, [some (.inr (.inr (some (6, 0)))), some (.inl x1), some (.inl (x2 + 1))], [], am_mk q13)) rfl ?_
        first | exact ih h | exact ih h hk
      · have h := h14
        by_cases hc10 : r8 = 0
        · rw [if_pos hc10] at h
          refine am_Go.c1 htb (S' := (53, [some (.inr (.inr (some (6, 0)))), some (.inl x1), some (.inl x2)], [], am_mk m)) (if_pos hc10) ?_
          cases h
          exact am_Go.fg (by exact ⟨rfl, ⟨rfl, ⟨rfl, trivial⟩⟩⟩) key
        · rw [if_neg hc10] at h
          refine am_Go.c1 htb (S' := (46, [some (.inr (.inr (some (6, 0)))), some (.inl x1), some (.inl x2)], [], am_mk m)) (if_neg hc10) ?_
          refine am_Go.n htb 4 (S' := (50, [some (.inr (.inr (some (6, 0)))), some (.inl x1), some (.inl x2)], [.inl (x2 &&& x1), .inr (.inr (some (6, 0)))], am_mk m)) rfl ?_
          obtain ⟨r11, h12, h⟩ := am_bd h
          refine am_Go.cl htb rfl (ex_X6_addTable d (by omega) (x2 &&& x1) m r11 h12) ?_
          show am_Go d 77 (53, [some (.inr (.inr (some (6, 0)))), some (.inl x1), some (.inl x2)], [], am_mk r11) _ _ _ _
          cases h
          exact am_Go.fg (by exact ⟨rfl, ⟨rfl, ⟨rfl, trivial⟩⟩⟩) key
set_option maxRecDepth 100000 in
theorem ex_X6_fewestFeeding (d : Nat) (hd : 3 ≤ d) (a1 : Int32) (m : am_m) (t : Int32 × am_m) (h : fn_X6_fewestFeeding a1 m = some t) : am_Ex am_cod d 77 [.inr (.inr (some (6, 0))), .inl a1] (am_mk m) (some (.inl t.1)) (am_mk t.2) 0 0 := by
  obtain ⟨d, rfl⟩ : ∃ e, d = e + 1 := ⟨d - 1, by omega⟩
  have htb : am_tab 77 = at_77 := rfl
  refine ⟨Nat.le_of_ble_eq_true rfl, ?_⟩
  unfold fn_X6_fewestFeeding at h
  show am_Go d 77 (0, [some (.inr (.inr (some (6, 0)))), some (.inl a1), none], [], am_mk m) _ _ 0 0
  refine am_Go.n htb 2 (S' := (2, [some (.inr (.inr (some (6, 0)))), some (.inl a1), some (.inl 0)], [], am_mk m)) rfl ?_
  obtain ⟨q3, h4, h⟩ := am_bd h
  refine lt_X6_fewestFeeding_2 _ hd (h := h4) (hk := ?_)
  refine am_Go.n htb 7 (S' := (30, [some (.inr (.inr (some (6, 0)))), some (.inl a1), some (.inl 1)], [], am_mk (am_si q3 34 0 0 0))) rfl ?_
  obtain ⟨q15, h16, h⟩ := am_bd h
  refine lt_X6_fewestFeeding_30 _ hd (h := h16) (hk := ?_)
  refine am_Go.n htb 1 (S' := (60, [some (.inr (.inr (some (6, 0)))), some (.inl a1), none], [.inl a1], am_mk q15)) rfl ?_
  by_cases hc17 : a1 < 0
  · rw [if_pos hc17] at h
    refine am_Go.c1 htb (S' := (78, [some (.inr (.inr (some (6, 0)))), some (.inl a1), none], [], am_mk q15)) (if_pos hc17) ?_
    refine am_Go.n htb 1 (S' := (79, [some (.inr (.inr (some (6, 0)))), some (.inl a1), none], [.inl (-1)], am_mk q15)) rfl ?_
    cases h
    exact am_Go.rt htb rfl
  · rw [if_neg hc17] at h
    refine am_Go.c1 htb (S' := (63, [some (.inr (.inr (some (6, 0)))), some (.inl a1), none], [], am_mk q15)) (if_neg hc17) ?_
    refine am_Go.n htb 2 (S' := (66, [some (.inr (.inr (some (6, 0)))), some (.inl a1), none], [.inl 127, .inl a1], am_mk q15)) rfl ?_
    by_cases hc18 : (127 : Int32) < a1
    · rw [if_pos hc18] at h
      refine am_Go.c1 htb (S' := (78, [some (.inr (.inr (some (6, 0)))), some (.inl a1), none], [], am_mk q15)) (if_pos hc18) ?_
      refine am_Go.n htb 1 (S' := (79, [some (.inr (.inr (some (6, 0)))), some (.inl a1), none], [.inl (-1)], am_mk q15)) rfl ?_
      cases h
      exact am_Go.rt htb rfl
    · rw [if_neg hc18] at h
      refine am_Go.c1 htb (S' := (69, [some (.inr (.inr (some (6, 0)))), some (.inl a1), none], [], am_mk q15)) (if_neg hc18) ?_
      refine am_Go.n htb 3 (S' := (74, [some (.inr (.inr (some (6, 0)))), some (.inl a1), none], [.inl a1, .inr (.inr (some (34, 0)))], am_mk q15)) rfl ?_
      obtain ⟨hg19, h⟩ := am_ck_some h
      refine am_Go.c1 htb (S' := (75, [some (.inr (.inr (some (6, 0)))), some (.inl a1), none], [.inl (q15.1 34 0 a1.toNatClampNeg)], am_mk q15)) (if_neg hg19) ?_
      refine am_Go.n htb 1 (S' := (79, [some (.inr (.inr (some (6, 0)))), some (.inl a1), none], [.inl (q15.1 34 0 a1.toNatClampNeg)], am_mk q15)) rfl ?_
      cases h
      exact am_Go.rt htb rfl
-- X6_isStepAhead
set_option maxRecDepth 100000 in
theorem lt_X6_isStepAhead_2 (d : Nat) (hd : 1 ≤ d + 1) {r : Option am_V} {M' : am_M} {kc ks : Nat} {n : Nat} {x1 : Int32} {x2 : Int32} {x3 : Int32} {m : am_m} {t : Sum (Unit) (Int32)} (h : lp_X6_isStepAhead_2 n x1 x2 x3 m = some t) (hk : ∀ t', t = .inl t' → am_Go d 80 (42, [some (.inr (.inr (some (6, 0)))), some (.inl x1), some (.inl x2), none], [], am_mk m) r M' kc ks) (hr : ∀ t', t = .inr t' → r = some (.inl t') ∧ M' = am_mk m ∧ kc = 0 ∧ ks = 0) : am_Go d 80 (2, [some (.inr (.inr (some (6, 0)))), some (.inl x1), some (.inl x2), some (.inl x3)], [], am_mk m) r M' kc ks := by
  have htb : am_tab 80 = at_80 := rfl
  induction n generalizing x3 with
  | zero => cases h
  | succ n ih =>
    unfold lp_X6_isStepAhead_2 at h
    refine am_Go.n htb 3 (S' := (7, [some (.inr (.inr (some (6, 0)))), some (.inl x1), some (.inl x2), some (.inl x3)], [.inl (m.1 6 0 0), .inl x3], am_mk m)) rfl ?_
    by_cases hc1 : (m.1 6 0 0) ≤ x3
    · rw [if_pos hc1] at h
      refine am_Go.c1 htb (S' := (42, [some (.inr (.inr (some (6, 0)))), some (.inl x1), some (.inl x2), some (.inl x3)], [], am_mk m)) (if_pos hc1) ?_
      cases h
      exact am_Go.fg (by exact ⟨rfl, ⟨rfl, ⟨rfl, trivial⟩⟩⟩) (hk _ rfl)
    · rw [if_neg hc1] at h
      refine am_Go.c1 htb (S' := (10, [some (.inr (.inr (some (6, 0)))), some (.inl x1), some (.inl x2), some (.inl x3)], [], am_mk m)) (if_neg hc1) ?_
      refine am_Go.n htb 3 (S' := (15, [some (.inr (.inr (some (6, 0)))), some (.inl x1), some (.inl x2), some (.inl x3)], [.inl x3, .inr (.inr (some (32, 0)))], am_mk m)) rfl ?_
      obtain ⟨hg2, h⟩ := am_ck_some h
      refine am_Go.c1 htb (S' := (16, [some (.inr (.inr (some (6, 0)))), some (.inl x1), some (.inl x2), some (.inl x3)], [.inl (m.1 32 0 x3.toNatClampNeg)], am_mk m)) (if_neg hg2) ?_
      refine am_Go.n htb 1 (S' := (17, [some (.inr (.inr (some (6, 0)))), some (.inl x1), some (.inl x2), some (.inl x3)], [.inl x2, .inl (m.1 32 0 x3.toNatClampNeg)], am_mk m)) rfl ?_
      by_cases hc3 : (m.1 32 0 x3.toNatClampNeg) ≠ x2
      · rw [if_pos hc3] at h
        refine am_Go.c1 htb (S' := (36, [some (.inr (.inr (some (6, 0)))), some (.inl x1), some (.inl x2), some (.inl x3)], [], am_mk m)) (if_pos hc3) ?_
        refine am_Go.n htb 2 (S' := (2, [some (.inr (.inr (some (6, 0)))), some (.inl x1), some (.inl x2), some (.inl (x3 + 1))], [], am_mk m)) rfl ?_
        first | exact ih h | exact ih h hk | exact ih h hr | exact ih h hk hr
      · rw [if_neg hc3] at h
        refine am_Go.c1 htb (S' := (20, [some (.inr (.inr (some (6, 0)))), some (.inl x1), some (.inl x2), some (.inl x3)], [], am_mk m)) (if_neg hc3) ?_
        refine am_Go.n htb 3 (S' := (25, [some (.inr (.inr (some (6, 0)))), some (.inl x1), some (.inl x2), some (.inl x3)], [.inl x1, .inr (.inr (some (30, 0)))], am_mk m)) rfl ?_
        obtain ⟨hg4, h⟩ := am_ck_some h
        refine am_Go.c1 htb (S' := (26, [some (.inr (.inr (some (6, 0)))), some (.inl x1), some (.inl x2), some (.inl x3)], [.inl (m.1 30 0 x1.toNatClampNeg)], am_mk m)) (if_neg hg4) ?_
        refine am_Go.n htb 5 (S' := (31, [some (.inr (.inr (some (6, 0)))), some (.inl x1), some (.inl x2), some (.inl x3)], [.inl 1, .inl (((m.1 30 0 x1.toNatClampNeg) >>> (x3 &&& 31)) &&& (1 : Int32))], am_mk m)) rfl ?_
        by_cases hc5 : (((m.1 30 0 x1.toNatClampNeg) >>> (x3 &&& 31)) &&& (1 : Int32)) ≠ (1 : Int32)
        · rw [if_pos hc5] at h
          refine am_Go.c1 htb (S' := (36, [some (.inr (.inr (some (6, 0)))), some (.inl x1), some (.inl x2), some (.inl x3)], [], am_mk m)) (if_pos hc5) ?_
          refine am_Go.n htb 2 (S' := (2, [some (.inr (.inr (some (6, 0)))), some (.inl x1), some (.inl x2), some (.inl (x3 + 1))], [], am_mk m)) rfl ?_
          first | exact ih h | exact ih h hk | exact ih h hr | exact ih h hk hr
        · rw [if_neg hc5] at h
          refine am_Go.c1 htb (S' := (34, [some (.inr (.inr (some (6, 0)))), some (.inl x1), some (.inl x2), some (.inl x3)], [], am_mk m)) (if_neg hc5) ?_
          refine am_Go.n htb 1 (S' := (35, [some (.inr (.inr (some (6, 0)))), some (.inl x1), some (.inl x2), some (.inl x3)], [.inl 1], am_mk m)) rfl ?_
          cases h
          obtain ⟨rfl, rfl, rfl, rfl⟩ := hr _ rfl
          exact am_Go.rt htb rfl
set_option maxRecDepth 100000 in
theorem ex_X6_isStepAhead (d : Nat) (hd : 1 ≤ d) (a1 : Int32) (a2 : Int32) (m : am_m) (t : Int32) (h : fn_X6_isStepAhead a1 a2 m = some t) : am_Ex am_cod d 80 [.inr (.inr (some (6, 0))), .inl a1, .inl a2] (am_mk m) (some (.inl t)) (am_mk m) 0 0 := by
  obtain ⟨d, rfl⟩ : ∃ e, d = e + 1 := ⟨d - 1, by omega⟩
  have htb : am_tab 80 = at_80 := rfl
  refine ⟨Nat.le_of_ble_eq_true rfl, ?_⟩
  unfold fn_X6_isStepAhead at h
  show am_Go d 80 (0, [some (.inr (.inr (some (6, 0)))), some (.inl a1), some (.inl a2), none], [], am_mk m) _ _ 0 0
  refine am_Go.n htb 2 (S' := (2, [some (.inr (.inr (some (6, 0)))), some (.inl a1), some (.inl a2), some (.inl 0)], [], am_mk m)) rfl ?_
  obtain ⟨w9, h7, h⟩ := am_bd h
  refine lt_X6_isStepAhead_2 _ hd (h := h7) (hk := ?_) (hr := ?_)
  · intro q6 he
    subst he
    dsimp only at h
    refine am_Go.n htb 1 (S' := (43, [some (.inr (.inr (some (6, 0)))), some (.inl a1), some (.inl a2), none], [.inl 0], am_mk m)) rfl ?_
    cases h
    exact am_Go.rt htb rfl
  · intro rr8 he
    subst he
    cases h
    exact ⟨rfl, rfl, rfl, rfl⟩
-- X6_stepsTo
set_option maxRecDepth 100000 in
theorem lt_X6_stepsTo_20 (d : Nat) (hd : 2 ≤ d + 1) {r : Option am_V} {M' : am_M} {kc ks : Nat} {n : Nat} {x1 : Int32} {x2 : Int32} {x3 : Int32} {m : am_m} {t : am_m} (h : lp_X6_stepsTo_20 n x1 x2 x3 m = some t) (hk : am_Go d 79 (41, [some (.inr (.inr (some (6, 0)))), some (.inl x1), some (.inl x2), none, none], [], am_mk t) r M' kc ks) : am_Go d 79 (20, [some (.inr (.inr (some (6, 0)))), some (.inl x1), some (.inl x2), some (.inl x3), none], [], am_mk m) r M' kc ks := by
  have htb : am_tab 79 = at_79 := rfl
  induction n generalizing x3 m with
  | zero => cases h
  | succ n ih =>
    unfold lp_X6_stepsTo_20 at h
    refine am_Go.n htb 3 (S' := (25, [some (.inr (.inr (some (6, 0)))), some (.inl x1), some (.inl x2), some (.inl x3), none], [.inl (m.1 6 0 0), .inl x3], am_mk m)) rfl ?_
    by_cases hc7 : (m.1 6 0 0) ≤ x3
    · rw [if_pos hc7] at h
      refine am_Go.c1 htb (S' := (41, [some (.inr (.inr (some (6, 0)))), some (.inl x1), some (.inl x2), some (.inl x3), none], [], am_mk m)) (if_pos hc7) ?_
      cases h
      exact am_Go.fg (by exact ⟨rfl, ⟨rfl, ⟨rfl, trivial⟩⟩⟩) hk
    · rw [if_neg hc7] at h
      refine am_Go.c1 htb (S' := (28, [some (.inr (.inr (some (6, 0)))), some (.inl x1), some (.inl x2), some (.inl x3), none], [], am_mk m)) (if_neg hc7) ?_
      refine am_Go.n htb 4 (S' := (34, [some (.inr (.inr (some (6, 0)))), some (.inl x1), some (.inl x2), some (.inl x3), none], [.inl (-1), .inl x3, .inr (.inr (some (32, 0)))], am_mk m)) rfl ?_
      obtain ⟨hg8, h⟩ := am_ck_some h
      refine am_Go.c1 htb (S' := (35, [some (.inr (.inr (some (6, 0)))), some (.inl x1), some (.inl x2), some (.inl x3), none], [], am_mk (am_si m 32 0 x3.toNatClampNeg (-1)))) (if_neg hg8) ?_
      refine am_Go.n htb 2 (S' := (20, [some (.inr (.inr (some (6, 0)))), some (.inl x1), some (.inl x2), some (.inl (x3 + 1)), none], [], am_mk (am_si m 32 0 x3.toNatClampNeg (-1)))) rfl ?_
      first | exact ih h | exact ih h hk
set_option maxRecDepth 100000 in
theorem lt_X6_stepsTo_61 (d : Nat) (hd : 2 ≤ d + 1) {r : Option am_V} {M' : am_M} {kc ks : Nat} {n : Nat} {x1 : Int32} {x3 : Int32} {x4 : Int32} {m : am_m} {t : am_m} (h : lp_X6_stepsTo_61 n x1 x3 x4 m = some t) (hk : am_Go d 79 (107, [some (.inr (.inr (some (6, 0)))), some (.inl x1), none, some (.inl x3), none], [], am_mk t) r M' kc ks) : am_Go d 79 (61, [some (.inr (.inr (some (6, 0)))), some (.inl x1), none, some (.inl x3), some (.inl x4)], [], am_mk m) r M' kc ks := by
  have htb : am_tab 79 = at_79 := rfl
  induction n generalizing x4 m with
  | zero => cases h
  | succ n ih =>
    unfold lp_X6_stepsTo_61 at h
    refine am_Go.n htb 3 (S' := (67, [some (.inr (.inr (some (6, 0)))), some (.inl x1), none, some (.inl x3), some (.inl x4)], [.inl (m.1 6 0 0), .inl x4], am_mk m)) rfl ?_
    by_cases hc13 : (m.1 6 0 0) ≤ x4
    · rw [if_pos hc13] at h
      refine am_Go.c1 htb (S' := (107, [some (.inr (.inr (some (6, 0)))), some (.inl x1), none, some (.inl x3), some (.inl x4)], [], am_mk m)) (if_pos hc13) ?_
      cases h
      exact am_Go.fg (by exact ⟨rfl, ⟨rfl, ⟨rfl, trivial⟩⟩⟩) hk
    · rw [if_neg hc13] at h
      refine am_Go.c1 htb (S' := (70, [some (.inr (.inr (some (6, 0)))), some (.inl x1), none, some (.inl x3), some (.inl x4)], [], am_mk m)) (if_neg hc13) ?_
      refine am_Go.n htb 3 (S' := (76, [some (.inr (.inr (some (6, 0)))), some (.inl x1), none, some (.inl x3), some (.inl x4)], [.inl x4, .inr (.inr (some (32, 0)))], am_mk m)) rfl ?_
      obtain ⟨hg14, h⟩ := am_ck_some h
      refine am_Go.c1 htb (S' := (77, [some (.inr (.inr (some (6, 0)))), some (.inl x1), none, some (.inl x3), some (.inl x4)], [.inl (m.1 32 0 x4.toNatClampNeg)], am_mk m)) (if_neg hg14) ?_
      refine am_Go.n htb 1 (S' := (78, [some (.inr (.inr (some (6, 0)))), some (.inl x1), none, some (.inl x3), some (.inl x4)], [.inl (-1), .inl (m.1 32 0 x4.toNatClampNeg)], am_mk m)) rfl ?_
      obtain ⟨q20, h21, h⟩ := am_bd h
      refine am_Go.cut (S := (101, [some (.inr (.inr (some (6, 0)))), some (.inl x1), none, some (.inl x3), some (.inl x4)], [], am_mk q20)) ?_ (fun key => ?_)
      · refine am_Go.n htb 2 (S' := (61, [some (.inr (.inr (some (6, 0)))), some (.inl x1), none, some (.inl x3), some (.inl (x4 + 1))], [], am_mk q20)) rfl ?_
        first | exact ih h | exact ih h hk
      · have h := h21
        by_cases hc15 : (m.1 32 0 x4.toNatClampNeg) ≠ (-1 : Int32)
        · rw [if_pos hc15] at h
          refine am_Go.c1 htb (S' := (101, [some (.inr (.inr (some (6, 0)))), some (.inl x1), none, some (.inl x3), some (.inl x4)], [], am_mk m)) (if_pos hc15) ?_
          cases h
          exact am_Go.fg (by exact ⟨rfl, ⟨rfl, ⟨rfl, ⟨rfl, trivial⟩⟩⟩⟩) key
        · rw [if_neg hc15] at h
          refine am_Go.c1 htb (S' := (81, [some (.inr (.inr (some (6, 0)))), some (.inl x1), none, some (.inl x3), some (.inl x4)], [], am_mk m)) (if_neg hc15) ?_
          refine am_Go.n htb 3 (S' := (85, [some (.inr (.inr (some (6, 0)))), some (.inl x1), none, some (.inl x3), some (.inl x4)], [.inl x3, .inl x4, .inr (.inr (some (6, 0)))], am_mk m)) rfl ?_
          obtain ⟨r16, h17, h⟩ := am_bd h
          refine am_Go.cl htb rfl (ex_X6_isStepAhead d (by omega) x4 x3 m r16 h17) ?_
          show am_Go d 79 (88, [some (.inr (.inr (some (6, 0)))), some (.inl x1), none, some (.inl x3), some (.inl x4)], [.inl r16], am_mk m) _ _ _ _
          by_cases hc18 : r16 = 0
          · rw [if_pos hc18] at h
            refine am_Go.c1 htb (S' := (101, [some (.inr (.inr (some (6, 0)))), some (.inl x1), none, some (.inl x3), some (.inl x4)], [], am_mk m)) (if_pos hc18) ?_
            cases h
            exact am_Go.fg (by exact ⟨rfl, ⟨rfl, ⟨rfl, ⟨rfl, trivial⟩⟩⟩⟩) key
          · rw [if_neg hc18] at h
            refine am_Go.c1 htb (S' := (91, [some (.inr (.inr (some (6, 0)))), some (.inl x1), none, some (.inl x3), some (.inl x4)], [], am_mk m)) (if_neg hc18) ?_
            refine am_Go.n htb 6 (S' := (100, [some (.inr (.inr (some (6, 0)))), some (.inl x1), none, some (.inl x3), some (.inl x4)], [.inl (x3 + (1 : Int32)), .inl x4, .inr (.inr (some (32, 0)))], am_mk m)) rfl ?_
            obtain ⟨hg19, h⟩ := am_ck_some h
            refine am_Go.c1 htb (S' := (101, [some (.inr (.inr (some (6, 0)))), some (.inl x1), none, some (.inl x3), some (.inl x4)], [], am_mk (am_si m 32 0 x4.toNatClampNeg (x3 + (1 : Int32))))) (if_neg hg19) ?_
            cases h
            exact am_Go.fg (by exact ⟨rfl, ⟨rfl, ⟨rfl, ⟨rfl, trivial⟩⟩⟩⟩) key
set_option maxRecDepth 100000 in
theorem lt_X6_stepsTo_50 (d : Nat) (hd : 2 ≤ d + 1) {r : Option am_V} {M' : am_M} {kc ks : Nat} {n : Nat} {x1 : Int32} {x3 : Int32} {m : am_m} {t : am_m} (h : lp_X6_stepsTo_50 n x1 x3 m = some t) (hk : am_Go d 79 (113, [some (.inr (.inr (some (6, 0)))), some (.inl x1), none, none, none], [], am_mk t) r M' kc ks) : am_Go d 79 (50, [some (.inr (.inr (some (6, 0)))), some (.inl x1), none, some (.inl x3), none], [], am_mk m) r M' kc ks := by
  have htb : am_tab 79 = at_79 := rfl
  induction n generalizing x3 m with
  | zero => cases h
  | succ n ih =>
    unfold lp_X6_stepsTo_50 at h
    refine am_Go.n htb 3 (S' := (55, [some (.inr (.inr (some (6, 0)))), some (.inl x1), none, some (.inl x3), none], [.inl (m.1 6 0 0), .inl x3], am_mk m)) rfl ?_
    by_cases hc12 : (m.1 6 0 0) ≤ x3
    · rw [if_pos hc12] at h
      refine am_Go.c1 htb (S' := (113, [some (.inr (.inr (some (6, 0)))), some (.inl x1), none, some (.inl x3), none], [], am_mk m)) (if_pos hc12) ?_
      cases h
      exact am_Go.fg (by exact ⟨rfl, ⟨rfl, trivial⟩⟩) hk
    · rw [if_neg hc12] at h
      refine am_Go.c1 htb (S' := (58, [some (.inr (.inr (some (6, 0)))), some (.inl x1), none, some (.inl x3), none], [], am_mk m)) (if_neg hc12) ?_
      refine am_Go.n htb 2 (S' := (61, [some (.inr (.inr (some (6, 0)))), some (.inl x1), none, some (.inl x3), some (.inl 0)], [], am_mk m)) rfl ?_
      obtain ⟨q22, h23, h⟩ := am_bd h
      refine lt_X6_stepsTo_61 _ hd (h := h23) (hk := ?_)
      refine am_Go.n htb 2 (S' := (50, [some (.inr (.inr (some (6, 0)))), some (.inl x1), none, some (.inl (x3 + 1)), none], [], am_mk q22)) rfl ?_
      first | exact ih h | exact ih h hk
set_option maxRecDepth 100000 in
theorem ex_X6_stepsTo (d : Nat) (hd : 2 ≤ d) (a1 : Int32) (a2 : Int32) (m : am_m) (t : Int32 × am_m) (h : fn_X6_stepsTo a1 a2 m = some t) : am_Ex am_cod d 79 [.inr (.inr (some (6, 0))), .inl a1, .inl a2] (am_mk m) (some (.inl t.1)) (am_mk t.2) 0 0 := by
  obtain ⟨d, rfl⟩ : ∃ e, d = e + 1 := ⟨d - 1, by omega⟩
  have htb : am_tab 79 = at_79 := rfl
  refine ⟨Nat.le_of_ble_eq_true rfl, ?_⟩
  unfold fn_X6_stepsTo at h
  show am_Go d 79 (0, [some (.inr (.inr (some (6, 0)))), some (.inl a1), some (.inl a2), none, none], [], am_mk m) _ _ 0 0
  refine am_Go.n htb 2 (S' := (2, [some (.inr (.inr (some (6, 0)))), some (.inl a1), some (.inl a2), none, none], [.inl a1, .inr (.inr (some (6, 0)))], am_mk m)) rfl ?_
  obtain ⟨r1, h2, h⟩ := am_bd h
  refine am_Go.cl htb rfl (ex_X6_isThere d (by omega) a1 m r1 h2) ?_
  show am_Go d 79 (5, [some (.inr (.inr (some (6, 0)))), some (.inl a1), some (.inl a2), none, none], [.inl r1], am_mk m) _ _ _ _
  by_cases hc3 : r1 = 0
  · rw [if_pos hc3] at h
    refine am_Go.c1 htb (S' := (16, [some (.inr (.inr (some (6, 0)))), some (.inl a1), some (.inl a2), none, none], [], am_mk m)) (if_pos hc3) ?_
    refine am_Go.n htb 1 (S' := (17, [some (.inr (.inr (some (6, 0)))), some (.inl a1), some (.inl a2), none, none], [.inl (-1)], am_mk m)) rfl ?_
    cases h
    exact am_Go.rt htb rfl
  · rw [if_neg hc3] at h
    refine am_Go.c1 htb (S' := (8, [some (.inr (.inr (some (6, 0)))), some (.inl a1), some (.inl a2), none, none], [], am_mk m)) (if_neg hc3) ?_
    refine am_Go.n htb 2 (S' := (10, [some (.inr (.inr (some (6, 0)))), some (.inl a1), some (.inl a2), none, none], [.inl a2, .inr (.inr (some (6, 0)))], am_mk m)) rfl ?_
    obtain ⟨r4, h5, h⟩ := am_bd h
    refine am_Go.cl htb rfl (ex_X6_isThere d (by omega) a2 m r4 h5) ?_
    show am_Go d 79 (13, [some (.inr (.inr (some (6, 0)))), some (.inl a1), some (.inl a2), none, none], [.inl r4], am_mk m) _ _ _ _
    by_cases hc6 : r4 ≠ 0
    · rw [if_pos hc6] at h
      refine am_Go.c1 htb (S' := (18, [some (.inr (.inr (some (6, 0)))), some (.inl a1), some (.inl a2), none, none], [], am_mk m)) (if_pos hc6) ?_
      refine am_Go.n htb 2 (S' := (20, [some (.inr (.inr (some (6, 0)))), some (.inl a1), some (.inl a2), some (.inl 0), none], [], am_mk m)) rfl ?_
      obtain ⟨q9, h10, h⟩ := am_bd h
      refine lt_X6_stepsTo_20 _ hd (h := h10) (hk := ?_)
      refine am_Go.n htb 4 (S' := (47, [some (.inr (.inr (some (6, 0)))), some (.inl a1), some (.inl a2), none, none], [.inl 0, .inl a2, .inr (.inr (some (32, 0)))], am_mk q9)) rfl ?_
      obtain ⟨hg11, h⟩ := am_ck_some h
      refine am_Go.c1 htb (S' := (48, [some (.inr (.inr (some (6, 0)))), some (.inl a1), some (.inl a2), none, none], [], am_mk (am_si q9 32 0 a2.toNatClampNeg 0))) (if_neg hg11) ?_
      refine am_Go.n htb 2 (S' := (50, [some (.inr (.inr (some (6, 0)))), some (.inl a1), some (.inl a2), some (.inl 0), none], [], am_mk (am_si q9 32 0 a2.toNatClampNeg 0))) rfl ?_
      refine am_Go.fg (L0 := [some (.inr (.inr (some (6, 0)))), some (.inl a1), none, some (.inl 0), none]) (by exact ⟨rfl, ⟨rfl, ⟨rfl, trivial⟩⟩⟩) ?_
      obtain ⟨q24, h25, h⟩ := am_bd h
      refine lt_X6_stepsTo_50 _ hd (h := h25) (hk := ?_)
      refine am_Go.n htb 3 (S' := (118, [some (.inr (.inr (some (6, 0)))), some (.inl a1), none, none, none], [.inl a1, .inr (.inr (some (32, 0)))], am_mk q24)) rfl ?_
      obtain ⟨hg26, h⟩ := am_ck_some h
      refine am_Go.c1 htb (S' := (119, [some (.inr (.inr (some (6, 0)))), some (.inl a1), none, none, none], [.inl (q24.1 32 0 a1.toNatClampNeg)], am_mk q24)) (if_neg hg26) ?_
      cases h
      exact am_Go.rt htb rfl
    · rw [if_neg hc6] at h
      refine am_Go.c1 htb (S' := (16, [some (.inr (.inr (some (6, 0)))), some (.inl a1), some (.inl a2), none, none], [], am_mk m)) (if_neg hc6) ?_
      refine am_Go.n htb 1 (S' := (17, [some (.inr (.inr (some (6, 0)))), some (.inl a1), some (.inl a2), none, none], [.inl (-1)], am_mk m)) rfl ?_
      cases h
      exact am_Go.rt htb rfl
