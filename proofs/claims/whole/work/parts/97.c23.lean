-- X9_lasts
set_option maxRecDepth 100000 in
theorem lt_X9_lasts_28 (d : Nat) (hd : 5 ≤ d + 1) {r : Option am_V} {M' : am_M} {kc ks : Nat} {n : Nat} {x1 : Int32} {x2 : Int32} {x3 : Int32} {m : am_m} {t : Sum (am_m) (Int32 × am_m)} (h : lp_X9_lasts_28 n x1 x2 x3 m = some t) (hk : ∀ t', t = .inl t' → am_Go d 144 (73, [some (.inr (.inr (some (9, 0)))), some (.inl x1), none, none], [], am_mk t') r M' kc ks) (hr : ∀ t', t = .inr t' → r = some (.inl t'.1) ∧ M' = am_mk t'.2 ∧ kc = 0 ∧ ks = 0) : am_Go d 144 (28, [some (.inr (.inr (some (9, 0)))), some (.inl x1), some (.inl x2), some (.inl x3)], [], am_mk m) r M' kc ks := by
  have htb : am_tab 144 = at_144 := rfl
  induction n generalizing x2 x3 m with
  | zero => cases h
  | succ n ih =>
    unfold lp_X9_lasts_28 at h
    refine am_Go.n htb 2 (S' := (31, [some (.inr (.inr (some (9, 0)))), some (.inl x1), some (.inl x2), some (.inl x3)], [.inl 100, .inl x3], am_mk m)) rfl ?_
    by_cases hc8 : (100 : Int32) < x3
    · rw [if_pos hc8] at h
      refine am_Go.c1 htb (S' := (73, [some (.inr (.inr (some (9, 0)))), some (.inl x1), some (.inl x2), some (.inl x3)], [], am_mk m)) (if_pos hc8) ?_
      cases h
      exact am_Go.fg (by exact ⟨rfl, ⟨rfl, trivial⟩⟩) (hk _ rfl)
    · rw [if_neg hc8] at h
      refine am_Go.c1 htb (S' := (34, [some (.inr (.inr (some (9, 0)))), some (.inl x1), some (.inl x2), some (.inl x3)], [], am_mk m)) (if_neg hc8) ?_
      refine am_Go.n htb 1 (S' := (35, [some (.inr (.inr (some (9, 0)))), some (.inl x1), some (.inl x2), some (.inl x3)], [.inl x2], am_mk m)) rfl ?_
      by_cases hc9 : x2 ≠ 0
      · rw [if_pos hc9] at h
        refine am_Go.c1 htb (S' := (40, [some (.inr (.inr (some (9, 0)))), some (.inl x1), some (.inl x2), some (.inl x3)], [], am_mk m)) (if_pos hc9) ?_
        refine am_Go.n htb 13 (S' := (59, [some (.inr (.inr (some (9, 0)))), some (.inl x1), some (.inl x2), some (.inl x3)], [.inl ((m.1 39 0 0) + x3), .inl x2, .inl x1, .inr (.inr (some (1, 0))), .inl x2, .inl 0], am_mk m)) rfl ?_
        obtain ⟨r10, h11, h⟩ := am_bd h
        refine am_Go.cl htb rfl (ex_X1_hungerOf d (by omega) x1 x2 ((m.1 39 0 0) + x3) m r10 h11) ?_
        show am_Go d 144 (62, [some (.inr (.inr (some (9, 0)))), some (.inl x1), some (.inl x2), some (.inl x3)], [.inl r10.1, .inl x2, .inl 0], am_mk r10.2) _ _ _ _
        refine am_Go.n htb 1 (S' := (63, [some (.inr (.inr (some (9, 0)))), some (.inl x1), some (.inl x2), some (.inl x3)], [.inl (x2 - r10.1), .inl 0], am_mk r10.2)) rfl ?_
        obtain ⟨r12, h13, h⟩ := am_bd h
        refine am_Go.cl htb rfl (ex_J9_max_7cf53 d (by omega) 0 (x2 - r10.1) r10.2 r12 h13) ?_
        show am_Go d 144 (66, [some (.inr (.inr (some (9, 0)))), some (.inl x1), some (.inl x2), some (.inl x3)], [.inl r12], am_mk r10.2) _ _ _ _
        refine am_Go.n htb 3 (S' := (28, [some (.inr (.inr (some (9, 0)))), some (.inl x1), some (.inl r12), some (.inl (x3 + 1))], [], am_mk r10.2)) rfl ?_
        first | exact ih h | exact ih h hk | exact ih h hr | exact ih h hk hr
      · rw [if_neg hc9] at h
        refine am_Go.c1 htb (S' := (38, [some (.inr (.inr (some (9, 0)))), some (.inl x1), some (.inl x2), some (.inl x3)], [], am_mk m)) (if_neg hc9) ?_
        refine am_Go.n htb 1 (S' := (39, [some (.inr (.inr (some (9, 0)))), some (.inl x1), some (.inl x2), some (.inl x3)], [.inl x3], am_mk m)) rfl ?_
        cases h
        obtain ⟨rfl, rfl, rfl, rfl⟩ := hr _ rfl
        exact am_Go.rt htb rfl
set_option maxRecDepth 100000 in
theorem ex_X9_lasts (d : Nat) (hd : 5 ≤ d) (a1 : Int32) (m : am_m) (t : Int32 × am_m) (h : fn_X9_lasts a1 m = some t) : am_Ex am_cod d 144 [.inr (.inr (some (9, 0))), .inl a1] (am_mk m) (some (.inl t.1)) (am_mk t.2) 0 0 := by
  obtain ⟨d, rfl⟩ : ∃ e, d = e + 1 := ⟨d - 1, by omega⟩
  have htb : am_tab 144 = at_144 := rfl
  refine ⟨Nat.le_of_ble_eq_true rfl, ?_⟩
  unfold fn_X9_lasts at h
  show am_Go d 144 (0, [some (.inr (.inr (some (9, 0)))), some (.inl a1), none, none], [], am_mk m) _ _ 0 0
  refine am_Go.n htb 3 (S' := (5, [some (.inr (.inr (some (9, 0)))), some (.inl a1), none, none], [.inl a1, .inr (.inr (some (8, 0)))], am_mk m)) rfl ?_
  obtain ⟨r1, h2, h⟩ := am_bd h
  refine am_Go.cl htb rfl (ex_X8_has d (by omega) 0 a1 m r1 h2) ?_
  show am_Go d 144 (8, [some (.inr (.inr (some (9, 0)))), some (.inl a1), none, none], [.inl r1], am_mk m) _ _ _ _
  by_cases hc3 : r1 ≠ 0
  · rw [if_pos hc3] at h
    refine am_Go.c1 htb (S' := (13, [some (.inr (.inr (some (9, 0)))), some (.inl a1), none, none], [], am_mk m)) (if_pos hc3) ?_
    refine am_Go.n htb 1 (S' := (14, [some (.inr (.inr (some (9, 0)))), some (.inl a1), none, none], [.inr (.inr (some (9, 0)))], am_mk m)) rfl ?_
    obtain ⟨r4, h5, h⟩ := am_bd h
    refine am_Go.cl htb rfl (ex_X9_askLive d (by omega)  m r4 h5) ?_
    show am_Go d 144 (17, [some (.inr (.inr (some (9, 0)))), some (.inl a1), none, none], [], am_mk r4) _ _ _ _
    refine am_Go.n htb 3 (S' := (22, [some (.inr (.inr (some (9, 0)))), some (.inl a1), none, none], [.inl a1, .inr (.inr (some (8, 0)))], am_mk r4)) rfl ?_
    obtain ⟨r6, h7, h⟩ := am_bd h
    refine am_Go.cl htb rfl (ex_X8_fedOf d (by omega) 0 a1 r4 r6 h7) ?_
    show am_Go d 144 (25, [some (.inr (.inr (some (9, 0)))), some (.inl a1), none, none], [.inl r6], am_mk r4) _ _ _ _
    refine am_Go.n htb 3 (S' := (28, [some (.inr (.inr (some (9, 0)))), some (.inl a1), some (.inl r6), some (.inl 0)], [], am_mk r4)) rfl ?_
    obtain ⟨w17, h15, h⟩ := am_bd h
    refine lt_X9_lasts_28 _ hd (h := h15) (hk := ?_) (hr := ?_)
    · intro q14 he
      subst he
      dsimp only at h
      refine am_Go.n htb 1 (S' := (74, [some (.inr (.inr (some (9, 0)))), some (.inl a1), none, none], [.inl (-1)], am_mk q14)) rfl ?_
      cases h
      exact am_Go.rt htb rfl
    · intro rr16 he
      subst he
      cases h
      exact ⟨rfl, rfl, rfl, rfl⟩
  · rw [if_neg hc3] at h
    refine am_Go.c1 htb (S' := (11, [some (.inr (.inr (some (9, 0)))), some (.inl a1), none, none], [], am_mk m)) (if_neg hc3) ?_
    refine am_Go.n htb 1 (S' := (12, [some (.inr (.inr (some (9, 0)))), some (.inl a1), none, none], [.inl (-1)], am_mk m)) rfl ?_
    cases h
    exact am_Go.rt htb rfl
-- X9_fedBy
set_option maxRecDepth 100000 in
theorem ex_X9_fedBy (d : Nat) (hd : 7 ≤ d) (a1 : Int32) (m : am_m) (t : Int32 × am_m) (h : fn_X9_fedBy a1 m = some t) : am_Ex am_cod d 145 [.inr (.inr (some (9, 0))), .inl a1] (am_mk m) (some (.inl t.1)) (am_mk t.2) 0 0 := by
  obtain ⟨d, rfl⟩ : ∃ e, d = e + 1 := ⟨d - 1, by omega⟩
  have htb : am_tab 145 = at_145 := rfl
  refine ⟨Nat.le_of_ble_eq_true rfl, ?_⟩
  unfold fn_X9_fedBy at h
  show am_Go d 145 (0, [some (.inr (.inr (some (9, 0)))), some (.inl a1)], [], am_mk m) _ _ 0 0
  refine am_Go.n htb 1 (S' := (1, [some (.inr (.inr (some (9, 0)))), some (.inl a1)], [.inl a1], am_mk m)) rfl ?_
  by_cases hc1 : a1 < 0
  · rw [if_pos hc1] at h
    refine am_Go.c1 htb (S' := (10, [some (.inr (.inr (some (9, 0)))), some (.inl a1)], [], am_mk m)) (if_pos hc1) ?_
    refine am_Go.n htb 1 (S' := (11, [some (.inr (.inr (some (9, 0)))), some (.inl a1)], [.inl (-1)], am_mk m)) rfl ?_
    cases h
    exact am_Go.rt htb rfl
  · rw [if_neg hc1] at h
    refine am_Go.c1 htb (S' := (4, [some (.inr (.inr (some (9, 0)))), some (.inl a1)], [], am_mk m)) (if_neg hc1) ?_
    refine am_Go.n htb 2 (S' := (7, [some (.inr (.inr (some (9, 0)))), some (.inl a1)], [.inl 10, .inl a1], am_mk m)) rfl ?_
    by_cases hc2 : a1 ≤ (10 : Int32)
    · rw [if_pos hc2] at h
      refine am_Go.c1 htb (S' := (12, [some (.inr (.inr (some (9, 0)))), some (.inl a1)], [], am_mk m)) (if_pos hc2) ?_
      refine am_Go.n htb 1 (S' := (13, [some (.inr (.inr (some (9, 0)))), some (.inl a1)], [.inr (.inr (some (9, 0)))], am_mk m)) rfl ?_
      obtain ⟨r3, h4, h⟩ := am_bd h
      refine am_Go.cl htb rfl (ex_X9_lookLive d (by omega)  m r3 h4) ?_
      show am_Go d 145 (16, [some (.inr (.inr (some (9, 0)))), some (.inl a1)], [], am_mk r3) _ _ _ _
      refine am_Go.n htb 5 (S' := (25, [some (.inr (.inr (some (9, 0)))), some (.inl a1)], [.inl a1, .inr (.inr (some (8, 0))), .inr (.inr (some (6, 0)))], am_mk r3)) rfl ?_
      obtain ⟨r5, h6, h⟩ := am_bd h
      refine am_Go.cl htb rfl (ex_X8_fedBelow d (by omega) 0 a1 r3 r5 h6) ?_
      show am_Go d 145 (28, [some (.inr (.inr (some (9, 0)))), some (.inl a1)], [.inl r5, .inr (.inr (some (6, 0)))], am_mk r3) _ _ _ _
      obtain ⟨r7, h8, h⟩ := am_bd h
      refine am_Go.cl htb rfl (ex_X6_fewestFeeding d (by omega) r5 r3 r7 h8) ?_
      show am_Go d 145 (31, [some (.inr (.inr (some (9, 0)))), some (.inl a1)], [.inl r7.1], am_mk r7.2) _ _ _ _
      cases h
      exact am_Go.rt htb rfl
    · rw [if_neg hc2] at h
      refine am_Go.c1 htb (S' := (10, [some (.inr (.inr (some (9, 0)))), some (.inl a1)], [], am_mk m)) (if_neg hc2) ?_
      refine am_Go.n htb 1 (S' := (11, [some (.inr (.inr (some (9, 0)))), some (.inl a1)], [.inl (-1)], am_mk m)) rfl ?_
      cases h
      exact am_Go.rt htb rfl
-- X9_seatGuest
set_option maxRecDepth 100000 in
theorem lt_X9_seatGuest_3 (d : Nat) (hd : 1 ≤ d + 1) {r : Option am_V} {M' : am_M} {kc ks : Nat} {n : Nat} {x1 : Int32} {x2 : Int32} {m : am_m} {t : am_m} (h : lp_X9_seatGuest_3 n x1 x2 m = some t) (hk : am_Go d 167 (65, [some (.inr (.inr (some (9, 0)))), some (.inl x1), none, none, none, none, none], [], am_mk t) r M' kc ks) : am_Go d 167 (3, [some (.inr (.inr (some (9, 0)))), some (.inl x1), some (.inl x2), none, none, none, none], [], am_mk m) r M' kc ks := by
  have htb : am_tab 167 = at_167 := rfl
  induction n generalizing x2 m with
  | zero => cases h
  | succ n ih =>
    unfold lp_X9_seatGuest_3 at h
    refine am_Go.n htb 1 (S' := (4, [some (.inr (.inr (some (9, 0)))), some (.inl x1), some (.inl x2), none, none, none, none], [.inl x2], am_mk m)) rfl ?_
    by_cases hc1 : x2 < 0
    · rw [if_pos hc1] at h
      refine am_Go.c1 htb (S' := (65, [some (.inr (.inr (some (9, 0)))), some (.inl x1), some (.inl x2), none, none, none, none], [], am_mk m)) (if_pos hc1) ?_
      cases h
      exact am_Go.fg (by exact ⟨rfl, ⟨rfl, trivial⟩⟩) hk
    · rw [if_neg hc1] at h
      refine am_Go.c1 htb (S' := (7, [some (.inr (.inr (some (9, 0)))), some (.inl x1), some (.inl x2), none, none, none, none], [], am_mk m)) (if_neg hc1) ?_
      refine am_Go.n htb 3 (S' := (12, [some (.inr (.inr (some (9, 0)))), some (.inl x1), some (.inl x2), none, none, none, none], [.inl x2, .inr (.inr (some (81, 0)))], am_mk m)) rfl ?_
      obtain ⟨hg2, h⟩ := am_ck_some h
      refine am_Go.c1 htb (S' := (13, [some (.inr (.inr (some (9, 0)))), some (.inl x1), some (.inl x2), none, none, none, none], [.inr (.inl (m.2.1 81 0 x2.toNatClampNeg))], am_mk m)) (if_neg hg2) ?_
      refine am_Go.n htb 6 (S' := (22, [some (.inr (.inr (some (9, 0)))), some (.inl x1), some (.inl x2), none, none, none, none], [.inr (.inl 10), .inr (.inl ((m.2.1 81 0 x2.toNatClampNeg) * (((10 : Int32) - x1).toInt64)))], am_mk m)) rfl ?_
      refine am_Go.c1 htb (S' := (23, [some (.inr (.inr (some (9, 0)))), some (.inl x1), some (.inl x2), none, none, none, none], [.inr (.inl (((m.2.1 81 0 x2.toNatClampNeg) * (((10 : Int32) - x1).toInt64)) / (10 : Int64)))], am_mk m)) rfl ?_
      refine am_Go.n htb 2 (S' := (25, [some (.inr (.inr (some (9, 0)))), some (.inl x1), some (.inl x2), some (.inr (.inl (((m.2.1 81 0 x2.toNatClampNeg) * (((10 : Int32) - x1).toInt64)) / (10 : Int64)))), none, none, none], [.inl x2], am_mk m)) rfl ?_
      obtain ⟨q5, h7, h⟩ := am_bd h
      refine am_Go.cut (S := (47, [some (.inr (.inr (some (9, 0)))), some (.inl x1), some (.inl x2), some (.inr (.inl (((m.2.1 81 0 x2.toNatClampNeg) * (((10 : Int32) - x1).toInt64)) / (10 : Int64)))), none, none, none], [.inr (.inl q5)], am_mk m)) ?_ (fun key => ?_)
      · refine am_Go.n htb 7 (S' := (58, [some (.inr (.inr (some (9, 0)))), some (.inl x1), some (.inl x2), some (.inr (.inl (((m.2.1 81 0 x2.toNatClampNeg) * (((10 : Int32) - x1).toInt64)) / (10 : Int64)))), none, some (.inr (.inl q5)), none], [.inr (.inl ((((m.2.1 81 0 x2.toNatClampNeg) * (((10 : Int32) - x1).toInt64)) / (10 : Int64)) + q5)), .inl x2, .inr (.inr (some (81, 0)))], am_mk m)) rfl ?_
        obtain ⟨hg6, h⟩ := am_ck_some h
        refine am_Go.c1 htb (S' := (59, [some (.inr (.inr (some (9, 0)))), some (.inl x1), some (.inl x2), some (.inr (.inl (((m.2.1 81 0 x2.toNatClampNeg) * (((10 : Int32) - x1).toInt64)) / (10 : Int64)))), none, some (.inr (.inl q5)), none], [], am_mk (am_sg m 81 0 x2.toNatClampNeg ((((m.2.1 81 0 x2.toNatClampNeg) * (((10 : Int32) - x1).toInt64)) / (10 : Int64)) + q5)))) (if_neg hg6) ?_
        refine am_Go.o htb (am_o_inc 2 (-1)) rfl (S' := (62, [some (.inr (.inr (some (9, 0)))), some (.inl x1), some (.inl (x2 - 1)), some (.inr (.inl (((m.2.1 81 0 x2.toNatClampNeg) * (((10 : Int32) - x1).toInt64)) / (10 : Int64)))), none, some (.inr (.inl q5)), none], [], am_mk (am_sg m 81 0 x2.toNatClampNeg ((((m.2.1 81 0 x2.toNatClampNeg) * (((10 : Int32) - x1).toInt64)) / (10 : Int64)) + q5)))) (am_incn rfl rfl) ?_
        refine am_Go.n htb 1 (S' := (3, [some (.inr (.inr (some (9, 0)))), some (.inl x1), some (.inl (x2 - 1)), some (.inr (.inl (((m.2.1 81 0 x2.toNatClampNeg) * (((10 : Int32) - x1).toInt64)) / (10 : Int64)))), none, some (.inr (.inl q5)), none], [], am_mk (am_sg m 81 0 x2.toNatClampNeg ((((m.2.1 81 0 x2.toNatClampNeg) * (((10 : Int32) - x1).toInt64)) / (10 : Int64)) + q5)))) rfl ?_
        refine am_Go.fg (L0 := [some (.inr (.inr (some (9, 0)))), some (.inl x1), some (.inl (x2 - 1)), none, none, none, none]) (by exact ⟨rfl, ⟨rfl, ⟨rfl, trivial⟩⟩⟩) ?_
        first | exact ih h | exact ih h hk
      · have h := h7
        by_cases hc3 : x2 ≤ 0
        · rw [if_pos hc3] at h
          refine am_Go.c1 htb (S' := (46, [some (.inr (.inr (some (9, 0)))), some (.inl x1), some (.inl x2), some (.inr (.inl (((m.2.1 81 0 x2.toNatClampNeg) * (((10 : Int32) - x1).toInt64)) / (10 : Int64)))), none, none, none], [], am_mk m)) (if_pos hc3) ?_
          refine am_Go.n htb 1 (S' := (47, [some (.inr (.inr (some (9, 0)))), some (.inl x1), some (.inl x2), some (.inr (.inl (((m.2.1 81 0 x2.toNatClampNeg) * (((10 : Int32) - x1).toInt64)) / (10 : Int64)))), none, none, none], [.inr (.inl 0)], am_mk m)) rfl ?_
          cases h
          exact am_Go.fg (by exact ⟨rfl, ⟨rfl, ⟨rfl, ⟨rfl, trivial⟩⟩⟩⟩) key
        · rw [if_neg hc3] at h
          refine am_Go.c1 htb (S' := (28, [some (.inr (.inr (some (9, 0)))), some (.inl x1), some (.inl x2), some (.inr (.inl (((m.2.1 81 0 x2.toNatClampNeg) * (((10 : Int32) - x1).toInt64)) / (10 : Int64)))), none, none, none], [], am_mk m)) (if_neg hc3) ?_
          refine am_Go.n htb 5 (S' := (35, [some (.inr (.inr (some (9, 0)))), some (.inl x1), some (.inl x2), some (.inr (.inl (((m.2.1 81 0 x2.toNatClampNeg) * (((10 : Int32) - x1).toInt64)) / (10 : Int64)))), none, none, none], [.inl (x2 - (1 : Int32)), .inr (.inr (some (81, 0)))], am_mk m)) rfl ?_
          obtain ⟨hg4, h⟩ := am_ck_some h
          refine am_Go.c1 htb (S' := (36, [some (.inr (.inr (some (9, 0)))), some (.inl x1), some (.inl x2), some (.inr (.inl (((m.2.1 81 0 x2.toNatClampNeg) * (((10 : Int32) - x1).toInt64)) / (10 : Int64)))), none, none, none], [.inr (.inl (m.2.1 81 0 (x2 - (1 : Int32)).toNatClampNeg))], am_mk m)) (if_neg hg4) ?_
          refine am_Go.n htb 4 (S' := (42, [some (.inr (.inr (some (9, 0)))), some (.inl x1), some (.inl x2), some (.inr (.inl (((m.2.1 81 0 x2.toNatClampNeg) * (((10 : Int32) - x1).toInt64)) / (10 : Int64)))), none, none, none], [.inr (.inl 10), .inr (.inl ((m.2.1 81 0 (x2 - (1 : Int32)).toNatClampNeg) * x1.toInt64))], am_mk m)) rfl ?_
          refine am_Go.c1 htb (S' := (43, [some (.inr (.inr (some (9, 0)))), some (.inl x1), some (.inl x2), some (.inr (.inl (((m.2.1 81 0 x2.toNatClampNeg) * (((10 : Int32) - x1).toInt64)) / (10 : Int64)))), none, none, none], [.inr (.inl (((m.2.1 81 0 (x2 - (1 : Int32)).toNatClampNeg) * x1.toInt64) / (10 : Int64)))], am_mk m)) rfl ?_
          refine am_Go.n htb 1 (S' := (47, [some (.inr (.inr (some (9, 0)))), some (.inl x1), some (.inl x2), some (.inr (.inl (((m.2.1 81 0 x2.toNatClampNeg) * (((10 : Int32) - x1).toInt64)) / (10 : Int64)))), none, none, none], [.inr (.inl (((m.2.1 81 0 (x2 - (1 : Int32)).toNatClampNeg) * x1.toInt64) / (10 : Int64)))], am_mk m)) rfl ?_
          cases h
          exact am_Go.fg (by exact ⟨rfl, ⟨rfl, ⟨rfl, ⟨rfl, trivial⟩⟩⟩⟩) key
set_option maxRecDepth 100000 in
theorem ex_X9_seatGuest (d : Nat) (hd : 1 ≤ d) (a1 : Int32) (m : am_m) (t : am_m) (h : fn_X9_seatGuest a1 m = some t) : am_Ex am_cod d 167 [.inr (.inr (some (9, 0))), .inl a1] (am_mk m) (none) (am_mk t) 0 0 := by
  obtain ⟨d, rfl⟩ : ∃ e, d = e + 1 := ⟨d - 1, by omega⟩
  have htb : am_tab 167 = at_167 := rfl
  refine ⟨Nat.le_of_ble_eq_true rfl, ?_⟩
  unfold fn_X9_seatGuest at h
  show am_Go d 167 (0, [some (.inr (.inr (some (9, 0)))), some (.inl a1), none, none, none, none, none], [], am_mk m) _ _ 0 0
  refine am_Go.n htb 2 (S' := (3, [some (.inr (.inr (some (9, 0)))), some (.inl a1), some (.inl 19), none, none, none, none], [], am_mk m)) rfl ?_
  obtain ⟨q8, h9, h⟩ := am_bd h
  refine lt_X9_seatGuest_3 _ hd (h := h9) (hk := ?_)
  cases h
  exact am_Go.rt htb rfl
-- X9_few
set_option maxRecDepth 100000 in
theorem lt_X9_few_27 (d : Nat) (hd : 2 ≤ d + 1) {r : Option am_V} {M' : am_M} {kc ks : Nat} {n : Nat} {x1 : Int32} {x2 : Int32} {x3 : Int32} {m : am_m} {t : am_m} (h : lp_X9_few_27 n x1 x2 x3 m = some t) (hk : am_Go d 146 (46, [some (.inr (.inr (some (9, 0)))), some (.inl x1), some (.inl x2), none, none, none], [], am_mk t) r M' kc ks) : am_Go d 146 (27, [some (.inr (.inr (some (9, 0)))), some (.inl x1), some (.inl x2), some (.inl x3), none, none], [], am_mk m) r M' kc ks := by
  have htb : am_tab 146 = at_146 := rfl
  induction n generalizing x3 m with
  | zero => cases h
  | succ n ih =>
    unfold lp_X9_few_27 at h
    refine am_Go.n htb 2 (S' := (30, [some (.inr (.inr (some (9, 0)))), some (.inl x1), some (.inl x2), some (.inl x3), none, none], [.inl 20, .inl x3], am_mk m)) rfl ?_
    by_cases hc5 : (20 : Int32) ≤ x3
    · rw [if_pos hc5] at h
      refine am_Go.c1 htb (S' := (46, [some (.inr (.inr (some (9, 0)))), some (.inl x1), some (.inl x2), some (.inl x3), none, none], [], am_mk m)) (if_pos hc5) ?_
      cases h
      exact am_Go.fg (by exact ⟨rfl, ⟨rfl, ⟨rfl, trivial⟩⟩⟩) hk
    · rw [if_neg hc5] at h
      refine am_Go.c1 htb (S' := (33, [some (.inr (.inr (some (9, 0)))), some (.inl x1), some (.inl x2), some (.inl x3), none, none], [], am_mk m)) (if_neg hc5) ?_
      refine am_Go.n htb 4 (S' := (39, [some (.inr (.inr (some (9, 0)))), some (.inl x1), some (.inl x2), some (.inl x3), none, none], [.inr (.inl 0), .inl x3, .inr (.inr (some (81, 0)))], am_mk m)) rfl ?_
      obtain ⟨hg6, h⟩ := am_ck_some h
      refine am_Go.c1 htb (S' := (40, [some (.inr (.inr (some (9, 0)))), some (.inl x1), some (.inl x2), some (.inl x3), none, none], [], am_mk (am_sg m 81 0 x3.toNatClampNeg 0))) (if_neg hg6) ?_
      refine am_Go.n htb 2 (S' := (27, [some (.inr (.inr (some (9, 0)))), some (.inl x1), some (.inl x2), some (.inl (x3 + 1)), none, none], [], am_mk (am_sg m 81 0 x3.toNatClampNeg 0))) rfl ?_
      first | exact ih h | exact ih h hk
set_option maxRecDepth 100000 in
theorem lt_X9_few_57 (d : Nat) (hd : 2 ≤ d + 1) {r : Option am_V} {M' : am_M} {kc ks : Nat} {n : Nat} {x1 : Int32} {x2 : Int32} {x3 : Int32} {m : am_m} {t : am_m} (h : lp_X9_few_57 n x1 x2 x3 m = some t) (hk : am_Go d 146 (81, [some (.inr (.inr (some (9, 0)))), some (.inl x1), some (.inl x2), none, none, none], [], am_mk t) r M' kc ks) : am_Go d 146 (57, [some (.inr (.inr (some (9, 0)))), some (.inl x1), some (.inl x2), some (.inl x3), none, none], [], am_mk m) r M' kc ks := by
  have htb : am_tab 146 = at_146 := rfl
  induction n generalizing x3 m with
  | zero => cases h
  | succ n ih =>
    unfold lp_X9_few_57 at h
    refine am_Go.n htb 2 (S' := (59, [some (.inr (.inr (some (9, 0)))), some (.inl x1), some (.inl x2), some (.inl x3), none, none], [.inl x2, .inl x3], am_mk m)) rfl ?_
    by_cases hc9 : x2 ≤ x3
    · rw [if_pos hc9] at h
      refine am_Go.c1 htb (S' := (81, [some (.inr (.inr (some (9, 0)))), some (.inl x1), some (.inl x2), some (.inl x3), none, none], [], am_mk m)) (if_pos hc9) ?_
      cases h
      exact am_Go.fg (by exact ⟨rfl, ⟨rfl, ⟨rfl, trivial⟩⟩⟩) hk
    · rw [if_neg hc9] at h
      refine am_Go.c1 htb (S' := (62, [some (.inr (.inr (some (9, 0)))), some (.inl x1), some (.inl x2), some (.inl x3), none, none], [], am_mk m)) (if_neg hc9) ?_
      refine am_Go.n htb 6 (S' := (72, [some (.inr (.inr (some (9, 0)))), some (.inl x1), some (.inl x2), some (.inl x3), none, none], [.inl (m.1 39 0 1), .inr (.inr (some (9, 0)))], am_mk m)) rfl ?_
      obtain ⟨r10, h11, h⟩ := am_bd h
      refine am_Go.cl htb rfl (ex_X9_seatGuest d (by omega) (m.1 39 0 1) m r10 h11) ?_
      show am_Go d 146 (75, [some (.inr (.inr (some (9, 0)))), some (.inl x1), some (.inl x2), some (.inl x3), none, none], [], am_mk r10) _ _ _ _
      refine am_Go.n htb 2 (S' := (57, [some (.inr (.inr (some (9, 0)))), some (.inl x1), some (.inl x2), some (.inl (x3 + 1)), none, none], [], am_mk r10)) rfl ?_
      first | exact ih h | exact ih h hk
set_option maxRecDepth 100000 in
theorem lt_X9_few_86 (d : Nat) (hd : 2 ≤ d + 1) {r : Option am_V} {M' : am_M} {kc ks : Nat} {n : Nat} {x1 : Int32} {x3 : Int64} {x5 : Int32} {m : am_m} {t : Int64} (h : lp_X9_few_86 n x1 x3 x5 m = some t) (hk : am_Go d 146 (108, [some (.inr (.inr (some (9, 0)))), some (.inl x1), none, some (.inr (.inl t)), none, none], [], am_mk m) r M' kc ks) : am_Go d 146 (86, [some (.inr (.inr (some (9, 0)))), some (.inl x1), none, some (.inr (.inl x3)), none, some (.inl x5)], [], am_mk m) r M' kc ks := by
  have htb : am_tab 146 = at_146 := rfl
  induction n generalizing x3 x5 with
  | zero => cases h
  | succ n ih =>
    unfold lp_X9_few_86 at h
    refine am_Go.n htb 2 (S' := (89, [some (.inr (.inr (some (9, 0)))), some (.inl x1), none, some (.inr (.inl x3)), none, some (.inl x5)], [.inl x1, .inl x5], am_mk m)) rfl ?_
    by_cases hc14 : x1 ≤ x5
    · rw [if_pos hc14] at h
      refine am_Go.c1 htb (S' := (108, [some (.inr (.inr (some (9, 0)))), some (.inl x1), none, some (.inr (.inl x3)), none, some (.inl x5)], [], am_mk m)) (if_pos hc14) ?_
      cases h
      exact am_Go.fg (by exact ⟨rfl, ⟨rfl, ⟨rfl, trivial⟩⟩⟩) hk
    · rw [if_neg hc14] at h
      refine am_Go.c1 htb (S' := (92, [some (.inr (.inr (some (9, 0)))), some (.inl x1), none, some (.inr (.inl x3)), none, some (.inl x5)], [], am_mk m)) (if_neg hc14) ?_
      refine am_Go.n htb 4 (S' := (99, [some (.inr (.inr (some (9, 0)))), some (.inl x1), none, some (.inr (.inl x3)), none, some (.inl x5)], [.inl x5, .inr (.inr (some (81, 0))), .inr (.inl x3)], am_mk m)) rfl ?_
      obtain ⟨hg15, h⟩ := am_ck_some h
      refine am_Go.c1 htb (S' := (100, [some (.inr (.inr (some (9, 0)))), some (.inl x1), none, some (.inr (.inl x3)), none, some (.inl x5)], [.inr (.inl (m.2.1 81 0 x5.toNatClampNeg)), .inr (.inl x3)], am_mk m)) (if_neg hg15) ?_
      refine am_Go.n htb 4 (S' := (86, [some (.inr (.inr (some (9, 0)))), some (.inl x1), none, some (.inr (.inl (x3 + (m.2.1 81 0 x5.toNatClampNeg)))), none, some (.inl (x5 + 1))], [], am_mk m)) rfl ?_
      first | exact ih h | exact ih h hk
set_option maxRecDepth 100000 in
theorem ex_X9_few (d : Nat) (hd : 2 ≤ d) (a1 : Int32) (a2 : Int32) (m : am_m) (t : Int64 × am_m) (h : fn_X9_few a1 a2 m = some t) : am_Ex am_cod d 146 [.inr (.inr (some (9, 0))), .inl a1, .inl a2] (am_mk m) (some (.inr (.inl t.1))) (am_mk t.2) 0 0 := by
  obtain ⟨d, rfl⟩ : ∃ e, d = e + 1 := ⟨d - 1, by omega⟩
  have htb : am_tab 146 = at_146 := rfl
  refine ⟨Nat.le_of_ble_eq_true rfl, ?_⟩
  unfold fn_X9_few at h
  show am_Go d 146 (0, [some (.inr (.inr (some (9, 0)))), some (.inl a1), some (.inl a2), none, none, none], [], am_mk m) _ _ 0 0
  refine am_Go.n htb 2 (S' := (2, [some (.inr (.inr (some (9, 0)))), some (.inl a1), some (.inl a2), none, none, none], [.inl 1, .inl a1], am_mk m)) rfl ?_
  by_cases hc1 : a1 < (1 : Int32)
  · rw [if_pos hc1] at h
    refine am_Go.c1 htb (S' := (21, [some (.inr (.inr (some (9, 0)))), some (.inl a1), some (.inl a2), none, none, none], [], am_mk m)) (if_pos hc1) ?_
    refine am_Go.n htb 1 (S' := (24, [some (.inr (.inr (some (9, 0)))), some (.inl a1), some (.inl a2), none, none, none], [.inr (.inl (-1))], am_mk m)) rfl ?_
    cases h
    exact am_Go.rt htb rfl
  · rw [if_neg hc1] at h
    refine am_Go.c1 htb (S' := (5, [some (.inr (.inr (some (9, 0)))), some (.inl a1), some (.inl a2), none, none, none], [], am_mk m)) (if_neg hc1) ?_
    refine am_Go.n htb 2 (S' := (8, [some (.inr (.inr (some (9, 0)))), some (.inl a1), some (.inl a2), none, none, none], [.inl 20, .inl a1], am_mk m)) rfl ?_
    by_cases hc2 : (20 : Int32) < a1
    · rw [if_pos hc2] at h
      refine am_Go.c1 htb (S' := (21, [some (.inr (.inr (some (9, 0)))), some (.inl a1), some (.inl a2), none, none, none], [], am_mk m)) (if_pos hc2) ?_
      refine am_Go.n htb 1 (S' := (24, [some (.inr (.inr (some (9, 0)))), some (.inl a1), some (.inl a2), none, none, none], [.inr (.inl (-1))], am_mk m)) rfl ?_
      cases h
      exact am_Go.rt htb rfl
    · rw [if_neg hc2] at h
      refine am_Go.c1 htb (S' := (11, [some (.inr (.inr (some (9, 0)))), some (.inl a1), some (.inl a2), none, none, none], [], am_mk m)) (if_neg hc2) ?_
      refine am_Go.n htb 1 (S' := (12, [some (.inr (.inr (some (9, 0)))), some (.inl a1), some (.inl a2), none, none, none], [.inl a2], am_mk m)) rfl ?_
      by_cases hc3 : a2 < 0
      · rw [if_pos hc3] at h
        refine am_Go.c1 htb (S' := (21, [some (.inr (.inr (some (9, 0)))), some (.inl a1), some (.inl a2), none, none, none], [], am_mk m)) (if_pos hc3) ?_
        refine am_Go.n htb 1 (S' := (24, [some (.inr (.inr (some (9, 0)))), some (.inl a1), some (.inl a2), none, none, none], [.inr (.inl (-1))], am_mk m)) rfl ?_
        cases h
        exact am_Go.rt htb rfl
      · rw [if_neg hc3] at h
        refine am_Go.c1 htb (S' := (15, [some (.inr (.inr (some (9, 0)))), some (.inl a1), some (.inl a2), none, none, none], [], am_mk m)) (if_neg hc3) ?_
        refine am_Go.n htb 2 (S' := (18, [some (.inr (.inr (some (9, 0)))), some (.inl a1), some (.inl a2), none, none, none], [.inl 99, .inl a2], am_mk m)) rfl ?_
        by_cases hc4 : a2 ≤ (99 : Int32)
        · rw [if_pos hc4] at h
          refine am_Go.c1 htb (S' := (25, [some (.inr (.inr (some (9, 0)))), some (.inl a1), some (.inl a2), none, none, none], [], am_mk m)) (if_pos hc4) ?_
          refine am_Go.n htb 2 (S' := (27, [some (.inr (.inr (some (9, 0)))), some (.inl a1), some (.inl a2), some (.inl 0), none, none], [], am_mk m)) rfl ?_
          obtain ⟨q7, h8, h⟩ := am_bd h
          refine lt_X9_few_27 _ hd (h := h8) (hk := ?_)
          refine am_Go.n htb 7 (S' := (57, [some (.inr (.inr (some (9, 0)))), some (.inl a1), some (.inl a2), some (.inl 0), none, none], [], am_mk (am_sg q7 81 0 0 1000000000000))) rfl ?_
          obtain ⟨q12, h13, h⟩ := am_bd h
          refine lt_X9_few_57 _ hd (h := h13) (hk := ?_)
          refine am_Go.n htb 4 (S' := (86, [some (.inr (.inr (some (9, 0)))), some (.inl a1), some (.inl a2), some (.inr (.inl 0)), none, some (.inl 0)], [], am_mk q12)) rfl ?_
          refine am_Go.fg (L0 := [some (.inr (.inr (some (9, 0)))), some (.inl a1), none, some (.inr (.inl 0)), none, some (.inl 0)]) (by exact ⟨rfl, ⟨rfl, ⟨rfl, ⟨rfl, trivial⟩⟩⟩⟩) ?_
          obtain ⟨q16, h17, h⟩ := am_bd h
          refine lt_X9_few_86 _ hd (h := h17) (hk := ?_)
          refine am_Go.n htb 1 (S' := (109, [some (.inr (.inr (some (9, 0)))), some (.inl a1), none, some (.inr (.inl q16)), none, none], [.inr (.inl q16)], am_mk q12)) rfl ?_
          cases h
          exact am_Go.rt htb rfl
        · rw [if_neg hc4] at h
          refine am_Go.c1 htb (S' := (21, [some (.inr (.inr (some (9, 0)))), some (.inl a1), some (.inl a2), none, none, none], [], am_mk m)) (if_neg hc4) ?_
          refine am_Go.n htb 1 (S' := (24, [some (.inr (.inr (some (9, 0)))), some (.inl a1), some (.inl a2), none, none, none], [.inr (.inl (-1))], am_mk m)) rfl ?_
          cases h
          exact am_Go.rt htb rfl
-- X9_compare
set_option maxRecDepth 100000 in
theorem ex_X9_compare (d : Nat) (hd : 6 ≤ d) (a1 : Int32) (m : am_m) (t : Int32 × am_m) (h : fn_X9_compare a1 m = some t) : am_Ex am_cod d 147 [.inr (.inr (some (9, 0))), .inl a1] (am_mk m) (some (.inl t.1)) (am_mk t.2) 0 0 := by
  obtain ⟨d, rfl⟩ : ∃ e, d = e + 1 := ⟨d - 1, by omega⟩
  have htb : am_tab 147 = at_147 := rfl
  refine ⟨Nat.le_of_ble_eq_true rfl, ?_⟩
  unfold fn_X9_compare at h
  show am_Go d 147 (0, [some (.inr (.inr (some (9, 0)))), some (.inl a1)], [], am_mk m) _ _ 0 0
  refine am_Go.n htb 3 (S' := (5, [some (.inr (.inr (some (9, 0)))), some (.inl a1)], [.inl a1, .inr (.inr (some (8, 0)))], am_mk m)) rfl ?_
  obtain ⟨r1, h2, h⟩ := am_bd h
  refine am_Go.cl htb rfl (ex_X8_hasLaw d (by omega) 0 a1 m r1 h2) ?_
  show am_Go d 147 (8, [some (.inr (.inr (some (9, 0)))), some (.inl a1)], [.inl r1], am_mk m) _ _ _ _
  by_cases hc3 : r1 ≠ 0
  · rw [if_pos hc3] at h
    refine am_Go.c1 htb (S' := (13, [some (.inr (.inr (some (9, 0)))), some (.inl a1)], [], am_mk m)) (if_pos hc3) ?_
    refine am_Go.n htb 7 (S' := (26, [some (.inr (.inr (some (9, 0)))), some (.inl a1)], [.inl a1, .inr (.inr (some (8, 0))), .inr (.inr (some (8, 0))), .inr (.inr (some (1, 0)))], am_mk m)) rfl ?_
    obtain ⟨r4, h5, h⟩ := am_bd h
    refine am_Go.cl htb rfl (ex_X8_lawOf d (by omega) 0 a1 m r4 h5) ?_
    show am_Go d 147 (29, [some (.inr (.inr (some (9, 0)))), some (.inl a1)], [.inr (.inr (Option.map (fun j => (5, j)) r4)), .inr (.inr (some (8, 0))), .inr (.inr (some (1, 0)))], am_mk m) _ _ _ _
    obtain ⟨r6, h7, h⟩ := am_bd h
    refine am_Go.cl htb rfl (ex_X1_look d (by omega) 0 r4 m r6 h7) ?_
    show am_Go d 147 (32, [some (.inr (.inr (some (9, 0)))), some (.inl a1)], [], am_mk r6) _ _ _ _
    refine am_Go.n htb 4 (S' := (40, [some (.inr (.inr (some (9, 0)))), some (.inl a1)], [.inr (.inr (some (1, 0))), .inr (.inr (some (6, 0)))], am_mk r6)) rfl ?_
    obtain ⟨r8, h9, h⟩ := am_bd h
    refine am_Go.cl htb rfl (ex_X6_lookAt d (by omega)  r6 r8 h9) ?_
    show am_Go d 147 (43, [some (.inr (.inr (some (9, 0)))), some (.inl a1)], [], am_mk r8) _ _ _ _
    refine am_Go.n htb 2 (S' := (47, [some (.inr (.inr (some (9, 0)))), some (.inl a1)], [.inr (.inr (some (6, 0)))], am_mk r8)) rfl ?_
    obtain ⟨r10, h11, h⟩ := am_bd h
    refine am_Go.cl htb rfl (ex_X6_largestTable d (by omega)  r8 r10 h11) ?_
    show am_Go d 147 (50, [some (.inr (.inr (some (9, 0)))), some (.inl a1)], [.inl r10], am_mk r8) _ _ _ _
    obtain ⟨r12, h13, h⟩ := am_bd h
    refine am_Go.cl htb rfl (ex_J6_bitCount_0f7a4 d (by omega) r10 r8 r12 h13) ?_
    show am_Go d 147 (53, [some (.inr (.inr (some (9, 0)))), some (.inl a1)], [.inl r12], am_mk r8) _ _ _ _
    cases h
    exact am_Go.rt htb rfl
  · rw [if_neg hc3] at h
    refine am_Go.c1 htb (S' := (11, [some (.inr (.inr (some (9, 0)))), some (.inl a1)], [], am_mk m)) (if_neg hc3) ?_
    refine am_Go.n htb 1 (S' := (12, [some (.inr (.inr (some (9, 0)))), some (.inl a1)], [.inl (-1)], am_mk m)) rfl ?_
    cases h
    exact am_Go.rt htb rfl
