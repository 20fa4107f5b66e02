-- X7_take
set_option maxRecDepth 100000 in
theorem lt_X7_take_3 (d : Nat) (hd : 1 ≤ d + 1) {r : Option am_V} {M' : am_M} {kc ks : Nat} {n : Nat} {x1 : Int32} {x2 : Int32} {m : am_m} {t : am_m} (h : lp_X7_take_3 n x1 x2 m = some t) (hk : am_Go d 94 (49, [some (.inr (.inr (some (7, 0)))), some (.inl x1), none], [], am_mk t) r M' kc ks) : am_Go d 94 (3, [some (.inr (.inr (some (7, 0)))), some (.inl x1), some (.inl x2)], [], am_mk m) r M' kc ks := by
  have htb : am_tab 94 = at_94 := rfl
  induction n generalizing x2 m with
  | zero => cases h
  | succ n ih =>
    unfold lp_X7_take_3 at h
    refine am_Go.n htb 1 (S' := (4, [some (.inr (.inr (some (7, 0)))), some (.inl x1), some (.inl x2)], [.inl x2], am_mk m)) rfl ?_
    by_cases hc1 : x2 < 0
    · rw [if_pos hc1] at h
      refine am_Go.c1 htb (S' := (49, [some (.inr (.inr (some (7, 0)))), some (.inl x1), some (.inl x2)], [], am_mk m)) (if_pos hc1) ?_
      cases h
      exact am_Go.fg (by exact ⟨rfl, ⟨rfl, trivial⟩⟩) hk
    · rw [if_neg hc1] at h
      refine am_Go.c1 htb (S' := (7, [some (.inr (.inr (some (7, 0)))), some (.inl x1), some (.inl x2)], [], am_mk m)) (if_neg hc1) ?_
      refine am_Go.n htb 3 (S' := (14, [some (.inr (.inr (some (7, 0)))), some (.inl x1), some (.inl x2)], [.inl 400, .inl (m.1 7 0 1)], am_mk m)) rfl ?_
      obtain ⟨q4, h5, h⟩ := am_bd h
      refine am_Go.cut (S := (43, [some (.inr (.inr (some (7, 0)))), some (.inl x1), some (.inl x2)], [], am_mk q4)) ?_ (fun key => ?_)
      · refine am_Go.o htb (am_o_inc 2 (-8)) rfl (S' := (46, [some (.inr (.inr (some (7, 0)))), some (.inl x1), some (.inl (x2 - 8))], [], am_mk q4)) (am_incn rfl rfl) ?_
        refine am_Go.n htb 1 (S' := (3, [some (.inr (.inr (some (7, 0)))), some (.inl x1), some (.inl (x2 - 8))], [], am_mk q4)) rfl ?_
        first | exact ih h | exact ih h hk
      · have h := h5
        by_cases hc2 : (400 : Int32) ≤ (m.1 7 0 1)
        · rw [if_pos hc2] at h
          refine am_Go.c1 htb (S' := (43, [some (.inr (.inr (some (7, 0)))), some (.inl x1), some (.inl x2)], [], am_mk m)) (if_pos hc2) ?_
          cases h
          exact am_Go.fg (by exact ⟨rfl, ⟨rfl, ⟨rfl, trivial⟩⟩⟩) key
        · rw [if_neg hc2] at h
          refine am_Go.c1 htb (S' := (17, [some (.inr (.inr (some (7, 0)))), some (.inl x1), some (.inl x2)], [], am_mk m)) (if_neg hc2) ?_
          refine am_Go.n htb 9 (S' := (32, [some (.inr (.inr (some (7, 0)))), some (.inl x1), some (.inl x2)], [.inl ((x1 >>> (x2 &&& 31)) &&& (255 : Int32)), .inl (m.1 7 0 1), .inr (.inr (some (35, 0)))], am_mk m)) rfl ?_
          obtain ⟨hg3, h⟩ := am_ck_some h
          refine am_Go.c1 htb (S' := (33, [some (.inr (.inr (some (7, 0)))), some (.inl x1), some (.inl x2)], [], am_mk (am_si m 35 0 (m.1 7 0 1).toNatClampNeg ((x1 >>> (x2 &&& 31)) &&& (255 : Int32))))) (if_neg hg3) ?_
          refine am_Go.n htb 6 (S' := (43, [some (.inr (.inr (some (7, 0)))), some (.inl x1), some (.inl x2)], [], am_mk (am_si (am_si m 35 0 (m.1 7 0 1).toNatClampNeg ((x1 >>> (x2 &&& 31)) &&& (255 : Int32))) 7 0 1 ((m.1 7 0 1) + (1 : Int32))))) rfl ?_
          cases h
          exact am_Go.fg (by exact ⟨rfl, ⟨rfl, ⟨rfl, trivial⟩⟩⟩) key
set_option maxRecDepth 100000 in
theorem ex_X7_take (d : Nat) (hd : 1 ≤ d) (a1 : Int32) (m : am_m) (t : am_m) (h : fn_X7_take a1 m = some t) : am_Ex am_cod d 94 [.inr (.inr (some (7, 0))), .inl a1] (am_mk m) (none) (am_mk t) 0 0 := by
  obtain ⟨d, rfl⟩ : ∃ e, d = e + 1 := ⟨d - 1, by omega⟩
  have htb : am_tab 94 = at_94 := rfl
  refine ⟨Nat.le_of_ble_eq_true rfl, ?_⟩
  unfold fn_X7_take at h
  show am_Go d 94 (0, [some (.inr (.inr (some (7, 0)))), some (.inl a1), none], [], am_mk m) _ _ 0 0
  refine am_Go.n htb 2 (S' := (3, [some (.inr (.inr (some (7, 0)))), some (.inl a1), some (.inl 24)], [], am_mk m)) rfl ?_
  obtain ⟨q6, h7, h⟩ := am_bd h
  refine lt_X7_take_3 _ hd (h := h7) (hk := ?_)
  cases h
  exact am_Go.rt htb rfl
-- X8_become
set_option maxRecDepth 100000 in
theorem lt_X8_become_108 (d : Nat) (hd : 1 ≤ d + 1) {r : Option am_V} {M' : am_M} {kc ks : Nat} {n : Nat} {x0 : Nat} {x1 : Nat} {x2 : Int32} {m : am_m} {t : am_m} (h : lp_X8_become_108 n x0 x1 x2 m = some t) (hk : am_Go d 97 (132, [some (.inr (.inr (some (8, x0)))), some (.inr (.inr (some (8, x1)))), none], [], am_mk t) r M' kc ks) : am_Go d 97 (108, [some (.inr (.inr (some (8, x0)))), some (.inr (.inr (some (8, x1)))), some (.inl x2)], [], am_mk m) r M' kc ks := by
  have htb : am_tab 97 = at_97 := rfl
  induction n generalizing x2 m with
  | zero => cases h
  | succ n ih =>
    unfold lp_X8_become_108 at h
    refine am_Go.n htb 2 (S' := (111, [some (.inr (.inr (some (8, x0)))), some (.inr (.inr (some (8, x1)))), some (.inl x2)], [.inl 6, .inl x2], am_mk m)) rfl ?_
    by_cases hc6 : (6 : Int32) ≤ x2
    · rw [if_pos hc6] at h
      refine am_Go.c1 htb (S' := (132, [some (.inr (.inr (some (8, x0)))), some (.inr (.inr (some (8, x1)))), some (.inl x2)], [], am_mk m)) (if_pos hc6) ?_
      cases h
      exact am_Go.fg (by exact ⟨rfl, ⟨rfl, trivial⟩⟩) hk
    · rw [if_neg hc6] at h
      refine am_Go.c1 htb (S' := (114, [some (.inr (.inr (some (8, x0)))), some (.inr (.inr (some (8, x1)))), some (.inl x2)], [], am_mk m)) (if_neg hc6) ?_
      refine am_Go.n htb 6 (S' := (124, [some (.inr (.inr (some (8, x0)))), some (.inr (.inr (some (8, x1)))), some (.inl x2)], [.inl x2, .inr (.inr (some (100, x1))), .inl x2, .inr (.inr (some (100, x0)))], am_mk m)) rfl ?_
      obtain ⟨hg7, h⟩ := am_ck_some h
      refine am_Go.c1 htb (S' := (125, [some (.inr (.inr (some (8, x0)))), some (.inr (.inr (some (8, x1)))), some (.inl x2)], [.inr (.inr (Option.map (fun j => (5, j)) (m.2.2.2.2.1 x1 x2.toNatClampNeg))), .inl x2, .inr (.inr (some (100, x0)))], am_mk m)) (if_neg hg7) ?_
      obtain ⟨hg8, h⟩ := am_ck_some h
      refine am_Go.o htb (am_o_aast) rfl (S' := (126, [some (.inr (.inr (some (8, x0)))), some (.inr (.inr (some (8, x1)))), some (.inl x2)], [], am_mk (am_ss m x0 x2.toNatClampNeg (m.2.2.2.2.1 x1 x2.toNatClampNeg)))) (am_ass (m.2.2.2.2.1 x1 x2.toNatClampNeg) hg8) ?_
      refine am_Go.n htb 2 (S' := (108, [some (.inr (.inr (some (8, x0)))), some (.inr (.inr (some (8, x1)))), some (.inl (x2 + 1))], [], am_mk (am_ss m x0 x2.toNatClampNeg (m.2.2.2.2.1 x1 x2.toNatClampNeg)))) rfl ?_
      first | exact ih h | exact ih h hk
set_option maxRecDepth 100000 in
theorem ex_X8_become (d : Nat) (hd : 1 ≤ d) (a0 : Nat) (a1 : Nat) (m : am_m) (t : am_m) (h : fn_X8_become a0 a1 m = some t) : am_Ex am_cod d 97 [.inr (.inr (some (8, a0))), .inr (.inr (some (8, a1)))] (am_mk m) (none) (am_mk t) 0 0 := by
  obtain ⟨d, rfl⟩ : ∃ e, d = e + 1 := ⟨d - 1, by omega⟩
  have htb : am_tab 97 = at_97 := rfl
  refine ⟨Nat.le_of_ble_eq_true rfl, ?_⟩
  unfold fn_X8_become at h
  show am_Go d 97 (0, [some (.inr (.inr (some (8, a0)))), some (.inr (.inr (some (8, a1)))), none], [], am_mk m) _ _ 0 0
  refine am_Go.n htb 23 (S' := (44, [some (.inr (.inr (some (8, a0)))), some (.inr (.inr (some (8, a1)))), none], [.inl 7, .inl 0, .inr (.inr (some (36, a0))), .inl 0, .inr (.inr (some (36, a1)))], am_mk (am_si (am_si (am_si (am_si m 8 a0 0 (m.1 8 a1 0)) 8 a0 1 ((am_si m 8 a0 0 (m.1 8 a1 0)).1 8 a1 1)) 8 a0 2 ((am_si (am_si m 8 a0 0 (m.1 8 a1 0)) 8 a0 1 ((am_si m 8 a0 0 (m.1 8 a1 0)).1 8 a1 1)).1 8 a1 2)) 8 a0 3 ((am_si (am_si (am_si m 8 a0 0 (m.1 8 a1 0)) 8 a0 1 ((am_si m 8 a0 0 (m.1 8 a1 0)).1 8 a1 1)) 8 a0 2 ((am_si (am_si m 8 a0 0 (m.1 8 a1 0)) 8 a0 1 ((am_si m 8 a0 0 (m.1 8 a1 0)).1 8 a1 1)).1 8 a1 2)).1 8 a1 3)))) rfl ?_
  obtain ⟨hz1, h⟩ := am_gd_some h
  refine am_Go.c1 htb (S' := (47, [some (.inr (.inr (some (8, a0)))), some (.inr (.inr (some (8, a1)))), none], [], am_mk (am_sc (am_si (am_si (am_si (am_si m 8 a0 0 (m.1 8 a1 0)) 8 a0 1 ((am_si m 8 a0 0 (m.1 8 a1 0)).1 8 a1 1)) 8 a0 2 ((am_si (am_si m 8 a0 0 (m.1 8 a1 0)) 8 a0 1 ((am_si m 8 a0 0 (m.1 8 a1 0)).1 8 a1 1)).1 8 a1 2)) 8 a0 3 ((am_si (am_si (am_si m 8 a0 0 (m.1 8 a1 0)) 8 a0 1 ((am_si m 8 a0 0 (m.1 8 a1 0)).1 8 a1 1)) 8 a0 2 ((am_si (am_si m 8 a0 0 (m.1 8 a1 0)) 8 a0 1 ((am_si m 8 a0 0 (m.1 8 a1 0)).1 8 a1 1)).1 8 a1 2)).1 8 a1 3)) 36 a1 36 a0 (0 : Int32).toNatClampNeg (0 : Int32).toNatClampNeg (7 : Int32).toNatClampNeg))) (by first | exact if_neg hz1 | rfl) ?_
  refine am_Go.n htb 7 (S' := (59, [some (.inr (.inr (some (8, a0)))), some (.inr (.inr (some (8, a1)))), none], [.inl 49, .inl 0, .inr (.inr (some (37, a0))), .inl 0, .inr (.inr (some (37, a1)))], am_mk (am_sc (am_si (am_si (am_si (am_si m 8 a0 0 (m.1 8 a1 0)) 8 a0 1 ((am_si m 8 a0 0 (m.1 8 a1 0)).1 8 a1 1)) 8 a0 2 ((am_si (am_si m 8 a0 0 (m.1 8 a1 0)) 8 a0 1 ((am_si m 8 a0 0 (m.1 8 a1 0)).1 8 a1 1)).1 8 a1 2)) 8 a0 3 ((am_si (am_si (am_si m 8 a0 0 (m.1 8 a1 0)) 8 a0 1 ((am_si m 8 a0 0 (m.1 8 a1 0)).1 8 a1 1)) 8 a0 2 ((am_si (am_si m 8 a0 0 (m.1 8 a1 0)) 8 a0 1 ((am_si m 8 a0 0 (m.1 8 a1 0)).1 8 a1 1)).1 8 a1 2)).1 8 a1 3)) 36 a1 36 a0 (0 : Int32).toNatClampNeg (0 : Int32).toNatClampNeg (7 : Int32).toNatClampNeg))) rfl ?_
  obtain ⟨hz2, h⟩ := am_gd_some h
  refine am_Go.c1 htb (S' := (62, [some (.inr (.inr (some (8, a0)))), some (.inr (.inr (some (8, a1)))), none], [], am_mk (am_sc (am_sc (am_si (am_si (am_si (am_si m 8 a0 0 (m.1 8 a1 0)) 8 a0 1 ((am_si m 8 a0 0 (m.1 8 a1 0)).1 8 a1 1)) 8 a0 2 ((am_si (am_si m 8 a0 0 (m.1 8 a1 0)) 8 a0 1 ((am_si m 8 a0 0 (m.1 8 a1 0)).1 8 a1 1)).1 8 a1 2)) 8 a0 3 ((am_si (am_si (am_si m 8 a0 0 (m.1 8 a1 0)) 8 a0 1 ((am_si m 8 a0 0 (m.1 8 a1 0)).1 8 a1 1)) 8 a0 2 ((am_si (am_si m 8 a0 0 (m.1 8 a1 0)) 8 a0 1 ((am_si m 8 a0 0 (m.1 8 a1 0)).1 8 a1 1)).1 8 a1 2)).1 8 a1 3)) 36 a1 36 a0 (0 : Int32).toNatClampNeg (0 : Int32).toNatClampNeg (7 : Int32).toNatClampNeg) 37 a1 37 a0 (0 : Int32).toNatClampNeg (0 : Int32).toNatClampNeg (49 : Int32).toNatClampNeg))) (by first | exact if_neg hz2 | rfl) ?_
  refine am_Go.n htb 7 (S' := (74, [some (.inr (.inr (some (8, a0)))), some (.inr (.inr (some (8, a1)))), none], [.inl 49, .inl 0, .inr (.inr (some (38, a0))), .inl 0, .inr (.inr (some (38, a1)))], am_mk (am_sc (am_sc (am_si (am_si (am_si (am_si m 8 a0 0 (m.1 8 a1 0)) 8 a0 1 ((am_si m 8 a0 0 (m.1 8 a1 0)).1 8 a1 1)) 8 a0 2 ((am_si (am_si m 8 a0 0 (m.1 8 a1 0)) 8 a0 1 ((am_si m 8 a0 0 (m.1 8 a1 0)).1 8 a1 1)).1 8 a1 2)) 8 a0 3 ((am_si (am_si (am_si m 8 a0 0 (m.1 8 a1 0)) 8 a0 1 ((am_si m 8 a0 0 (m.1 8 a1 0)).1 8 a1 1)) 8 a0 2 ((am_si (am_si m 8 a0 0 (m.1 8 a1 0)) 8 a0 1 ((am_si m 8 a0 0 (m.1 8 a1 0)).1 8 a1 1)).1 8 a1 2)).1 8 a1 3)) 36 a1 36 a0 (0 : Int32).toNatClampNeg (0 : Int32).toNatClampNeg (7 : Int32).toNatClampNeg) 37 a1 37 a0 (0 : Int32).toNatClampNeg (0 : Int32).toNatClampNeg (49 : Int32).toNatClampNeg))) rfl ?_
  obtain ⟨hz3, h⟩ := am_gd_some h
  refine am_Go.c1 htb (S' := (77, [some (.inr (.inr (some (8, a0)))), some (.inr (.inr (some (8, a1)))), none], [], am_mk (am_sc (am_sc (am_sc (am_si (am_si (am_si (am_si m 8 a0 0 (m.1 8 a1 0)) 8 a0 1 ((am_si m 8 a0 0 (m.1 8 a1 0)).1 8 a1 1)) 8 a0 2 ((am_si (am_si m 8 a0 0 (m.1 8 a1 0)) 8 a0 1 ((am_si m 8 a0 0 (m.1 8 a1 0)).1 8 a1 1)).1 8 a1 2)) 8 a0 3 ((am_si (am_si (am_si m 8 a0 0 (m.1 8 a1 0)) 8 a0 1 ((am_si m 8 a0 0 (m.1 8 a1 0)).1 8 a1 1)) 8 a0 2 ((am_si (am_si m 8 a0 0 (m.1 8 a1 0)) 8 a0 1 ((am_si m 8 a0 0 (m.1 8 a1 0)).1 8 a1 1)).1 8 a1 2)).1 8 a1 3)) 36 a1 36 a0 (0 : Int32).toNatClampNeg (0 : Int32).toNatClampNeg (7 : Int32).toNatClampNeg) 37 a1 37 a0 (0 : Int32).toNatClampNeg (0 : Int32).toNatClampNeg (49 : Int32).toNatClampNeg) 38 a1 38 a0 (0 : Int32).toNatClampNeg (0 : Int32).toNatClampNeg (49 : Int32).toNatClampNeg))) (by first | exact if_neg hz3 | rfl) ?_
  refine am_Go.n htb 7 (S' := (88, [some (.inr (.inr (some (8, a0)))), some (.inr (.inr (some (8, a1)))), none], [.inl 3, .inl 0, .inr (.inr (some (39, a0))), .inl 0, .inr (.inr (some (39, a1)))], am_mk (am_sc (am_sc (am_sc (am_si (am_si (am_si (am_si m 8 a0 0 (m.1 8 a1 0)) 8 a0 1 ((am_si m 8 a0 0 (m.1 8 a1 0)).1 8 a1 1)) 8 a0 2 ((am_si (am_si m 8 a0 0 (m.1 8 a1 0)) 8 a0 1 ((am_si m 8 a0 0 (m.1 8 a1 0)).1 8 a1 1)).1 8 a1 2)) 8 a0 3 ((am_si (am_si (am_si m 8 a0 0 (m.1 8 a1 0)) 8 a0 1 ((am_si m 8 a0 0 (m.1 8 a1 0)).1 8 a1 1)) 8 a0 2 ((am_si (am_si m 8 a0 0 (m.1 8 a1 0)) 8 a0 1 ((am_si m 8 a0 0 (m.1 8 a1 0)).1 8 a1 1)).1 8 a1 2)).1 8 a1 3)) 36 a1 36 a0 (0 : Int32).toNatClampNeg (0 : Int32).toNatClampNeg (7 : Int32).toNatClampNeg) 37 a1 37 a0 (0 : Int32).toNatClampNeg (0 : Int32).toNatClampNeg (49 : Int32).toNatClampNeg) 38 a1 38 a0 (0 : Int32).toNatClampNeg (0 : Int32).toNatClampNeg (49 : Int32).toNatClampNeg))) rfl ?_
  obtain ⟨hz4, h⟩ := am_gd_some h
  refine am_Go.c1 htb (S' := (91, [some (.inr (.inr (some (8, a0)))), some (.inr (.inr (some (8, a1)))), none], [], am_mk (am_sc (am_sc (am_sc (am_sc (am_si (am_si (am_si (am_si m 8 a0 0 (m.1 8 a1 0)) 8 a0 1 ((am_si m 8 a0 0 (m.1 8 a1 0)).1 8 a1 1)) 8 a0 2 ((am_si (am_si m 8 a0 0 (m.1 8 a1 0)) 8 a0 1 ((am_si m 8 a0 0 (m.1 8 a1 0)).1 8 a1 1)).1 8 a1 2)) 8 a0 3 ((am_si (am_si (am_si m 8 a0 0 (m.1 8 a1 0)) 8 a0 1 ((am_si m 8 a0 0 (m.1 8 a1 0)).1 8 a1 1)) 8 a0 2 ((am_si (am_si m 8 a0 0 (m.1 8 a1 0)) 8 a0 1 ((am_si m 8 a0 0 (m.1 8 a1 0)).1 8 a1 1)).1 8 a1 2)).1 8 a1 3)) 36 a1 36 a0 (0 : Int32).toNatClampNeg (0 : Int32).toNatClampNeg (7 : Int32).toNatClampNeg) 37 a1 37 a0 (0 : Int32).toNatClampNeg (0 : Int32).toNatClampNeg (49 : Int32).toNatClampNeg) 38 a1 38 a0 (0 : Int32).toNatClampNeg (0 : Int32).toNatClampNeg (49 : Int32).toNatClampNeg) 39 a1 39 a0 (0 : Int32).toNatClampNeg (0 : Int32).toNatClampNeg (3 : Int32).toNatClampNeg))) (by first | exact if_neg hz4 | rfl) ?_
  refine am_Go.n htb 7 (S' := (103, [some (.inr (.inr (some (8, a0)))), some (.inr (.inr (some (8, a1)))), none], [.inl 6, .inl 0, .inr (.inr (some (40, a0))), .inl 0, .inr (.inr (some (40, a1)))], am_mk (am_sc (am_sc (am_sc (am_sc (am_si (am_si (am_si (am_si m 8 a0 0 (m.1 8 a1 0)) 8 a0 1 ((am_si m 8 a0 0 (m.1 8 a1 0)).1 8 a1 1)) 8 a0 2 ((am_si (am_si m 8 a0 0 (m.1 8 a1 0)) 8 a0 1 ((am_si m 8 a0 0 (m.1 8 a1 0)).1 8 a1 1)).1 8 a1 2)) 8 a0 3 ((am_si (am_si (am_si m 8 a0 0 (m.1 8 a1 0)) 8 a0 1 ((am_si m 8 a0 0 (m.1 8 a1 0)).1 8 a1 1)) 8 a0 2 ((am_si (am_si m 8 a0 0 (m.1 8 a1 0)) 8 a0 1 ((am_si m 8 a0 0 (m.1 8 a1 0)).1 8 a1 1)).1 8 a1 2)).1 8 a1 3)) 36 a1 36 a0 (0 : Int32).toNatClampNeg (0 : Int32).toNatClampNeg (7 : Int32).toNatClampNeg) 37 a1 37 a0 (0 : Int32).toNatClampNeg (0 : Int32).toNatClampNeg (49 : Int32).toNatClampNeg) 38 a1 38 a0 (0 : Int32).toNatClampNeg (0 : Int32).toNatClampNeg (49 : Int32).toNatClampNeg) 39 a1 39 a0 (0 : Int32).toNatClampNeg (0 : Int32).toNatClampNeg (3 : Int32).toNatClampNeg))) rfl ?_
  obtain ⟨hz5, h⟩ := am_gd_some h
  refine am_Go.c1 htb (S' := (106, [some (.inr (.inr (some (8, a0)))), some (.inr (.inr (some (8, a1)))), none], [], am_mk (am_sc (am_sc (am_sc (am_sc (am_sc (am_si (am_si (am_si (am_si m 8 a0 0 (m.1 8 a1 0)) 8 a0 1 ((am_si m 8 a0 0 (m.1 8 a1 0)).1 8 a1 1)) 8 a0 2 ((am_si (am_si m 8 a0 0 (m.1 8 a1 0)) 8 a0 1 ((am_si m 8 a0 0 (m.1 8 a1 0)).1 8 a1 1)).1 8 a1 2)) 8 a0 3 ((am_si (am_si (am_si m 8 a0 0 (m.1 8 a1 0)) 8 a0 1 ((am_si m 8 a0 0 (m.1 8 a1 0)).1 8 a1 1)) 8 a0 2 ((am_si (am_si m 8 a0 0 (m.1 8 a1 0)) 8 a0 1 ((am_si m 8 a0 0 (m.1 8 a1 0)).1 8 a1 1)).1 8 a1 2)).1 8 a1 3)) 36 a1 36 a0 (0 : Int32).toNatClampNeg (0 : Int32).toNatClampNeg (7 : Int32).toNatClampNeg) 37 a1 37 a0 (0 : Int32).toNatClampNeg (0 : Int32).toNatClampNeg (49 : Int32).toNatClampNeg) 38 a1 38 a0 (0 : Int32).toNatClampNeg (0 : Int32).toNatClampNeg (49 : Int32).toNatClampNeg) 39 a1 39 a0 (0 : Int32).toNatClampNeg (0 : Int32).toNatClampNeg (3 : Int32).toNatClampNeg) 40 a1 40 a0 (0 : Int32).toNatClampNeg (0 : Int32).toNatClampNeg (6 : Int32).toNatClampNeg))) (by first | exact if_neg hz5 | rfl) ?_
  refine am_Go.n htb 2 (S' := (108, [some (.inr (.inr (some (8, a0)))), some (.inr (.inr (some (8, a1)))), some (.inl 0)], [], am_mk (am_sc (am_sc (am_sc (am_sc (am_sc (am_si (am_si (am_si (am_si m 8 a0 0 (m.1 8 a1 0)) 8 a0 1 ((am_si m 8 a0 0 (m.1 8 a1 0)).1 8 a1 1)) 8 a0 2 ((am_si (am_si m 8 a0 0 (m.1 8 a1 0)) 8 a0 1 ((am_si m 8 a0 0 (m.1 8 a1 0)).1 8 a1 1)).1 8 a1 2)) 8 a0 3 ((am_si (am_si (am_si m 8 a0 0 (m.1 8 a1 0)) 8 a0 1 ((am_si m 8 a0 0 (m.1 8 a1 0)).1 8 a1 1)) 8 a0 2 ((am_si (am_si m 8 a0 0 (m.1 8 a1 0)) 8 a0 1 ((am_si m 8 a0 0 (m.1 8 a1 0)).1 8 a1 1)).1 8 a1 2)).1 8 a1 3)) 36 a1 36 a0 (0 : Int32).toNatClampNeg (0 : Int32).toNatClampNeg (7 : Int32).toNatClampNeg) 37 a1 37 a0 (0 : Int32).toNatClampNeg (0 : Int32).toNatClampNeg (49 : Int32).toNatClampNeg) 38 a1 38 a0 (0 : Int32).toNatClampNeg (0 : Int32).toNatClampNeg (49 : Int32).toNatClampNeg) 39 a1 39 a0 (0 : Int32).toNatClampNeg (0 : Int32).toNatClampNeg (3 : Int32).toNatClampNeg) 40 a1 40 a0 (0 : Int32).toNatClampNeg (0 : Int32).toNatClampNeg (6 : Int32).toNatClampNeg))) rfl ?_
  obtain ⟨q9, h10, h⟩ := am_bd h
  refine lt_X8_become_108 _ hd (h := h10) (hk := ?_)
  cases h
  exact am_Go.rt htb rfl
-- X8_has
set_option maxRecDepth 100000 in
theorem ex_X8_has (d : Nat) (hd : 1 ≤ d) (a0 : Nat) (a1 : Int32) (m : am_m) (t : Int32) (h : fn_X8_has a0 a1 m = some t) : am_Ex am_cod d 98 [.inr (.inr (some (8, a0))), .inl a1] (am_mk m) (some (.inl t)) (am_mk m) 0 0 := by
  obtain ⟨d, rfl⟩ : ∃ e, d = e + 1 := ⟨d - 1, by omega⟩
  have htb : am_tab 98 = at_98 := rfl
  refine ⟨Nat.le_of_ble_eq_true rfl, ?_⟩
  unfold fn_X8_has at h
  show am_Go d 98 (0, [some (.inr (.inr (some (8, a0)))), some (.inl a1)], [], am_mk m) _ _ 0 0
  refine am_Go.n htb 1 (S' := (1, [some (.inr (.inr (some (8, a0)))), some (.inl a1)], [.inl a1], am_mk m)) rfl ?_
  by_cases hc1 : a1 < 0
  · rw [if_pos hc1] at h
    refine am_Go.c1 htb (S' := (16, [some (.inr (.inr (some (8, a0)))), some (.inl a1)], [], am_mk m)) (if_pos hc1) ?_
    refine am_Go.n htb 1 (S' := (17, [some (.inr (.inr (some (8, a0)))), some (.inl a1)], [.inl 0], am_mk m)) rfl ?_
    cases h
    exact am_Go.rt htb rfl
  · rw [if_neg hc1] at h
    refine am_Go.c1 htb (S' := (4, [some (.inr (.inr (some (8, a0)))), some (.inl a1)], [], am_mk m)) (if_neg hc1) ?_
    refine am_Go.n htb 3 (S' := (9, [some (.inr (.inr (some (8, a0)))), some (.inl a1)], [.inl (m.1 8 a0 0), .inl a1], am_mk m)) rfl ?_
    by_cases hc2 : (m.1 8 a0 0) ≤ a1
    · rw [if_pos hc2] at h
      refine am_Go.c1 htb (S' := (16, [some (.inr (.inr (some (8, a0)))), some (.inl a1)], [], am_mk m)) (if_pos hc2) ?_
      refine am_Go.n htb 1 (S' := (17, [some (.inr (.inr (some (8, a0)))), some (.inl a1)], [.inl 0], am_mk m)) rfl ?_
      cases h
      exact am_Go.rt htb rfl
    · rw [if_neg hc2] at h
      refine am_Go.c1 htb (S' := (12, [some (.inr (.inr (some (8, a0)))), some (.inl a1)], [], am_mk m)) (if_neg hc2) ?_
      refine am_Go.n htb 2 (S' := (17, [some (.inr (.inr (some (8, a0)))), some (.inl a1)], [.inl 1], am_mk m)) rfl ?_
      cases h
      exact am_Go.rt htb rfl
-- X8_hasSet
set_option maxRecDepth 100000 in
theorem ex_X8_hasSet (d : Nat) (hd : 1 ≤ d) (a0 : Nat) (a1 : Int32) (m : am_m) (t : Int32) (h : fn_X8_hasSet a0 a1 m = some t) : am_Ex am_cod d 100 [.inr (.inr (some (8, a0))), .inl a1] (am_mk m) (some (.inl t)) (am_mk m) 0 0 := by
  obtain ⟨d, rfl⟩ : ∃ e, d = e + 1 := ⟨d - 1, by omega⟩
  have htb : am_tab 100 = at_100 := rfl
  refine ⟨Nat.le_of_ble_eq_true rfl, ?_⟩
  unfold fn_X8_hasSet at h
  show am_Go d 100 (0, [some (.inr (.inr (some (8, a0)))), some (.inl a1)], [], am_mk m) _ _ 0 0
  refine am_Go.n htb 1 (S' := (1, [some (.inr (.inr (some (8, a0)))), some (.inl a1)], [.inl a1], am_mk m)) rfl ?_
  by_cases hc1 : a1 < 0
  · rw [if_pos hc1] at h
    refine am_Go.c1 htb (S' := (18, [some (.inr (.inr (some (8, a0)))), some (.inl a1)], [], am_mk m)) (if_pos hc1) ?_
    refine am_Go.n htb 1 (S' := (19, [some (.inr (.inr (some (8, a0)))), some (.inl a1)], [.inl 0], am_mk m)) rfl ?_
    cases h
    exact am_Go.rt htb rfl
  · rw [if_neg hc1] at h
    refine am_Go.c1 htb (S' := (4, [some (.inr (.inr (some (8, a0)))), some (.inl a1)], [], am_mk m)) (if_neg hc1) ?_
    refine am_Go.n htb 5 (S' := (11, [some (.inr (.inr (some (8, a0)))), some (.inl a1)], [.inl ((1 : Int32) <<< ((m.1 8 a0 0) &&& 31)), .inl a1], am_mk m)) rfl ?_
    by_cases hc2 : ((1 : Int32) <<< ((m.1 8 a0 0) &&& 31)) ≤ a1
    · rw [if_pos hc2] at h
      refine am_Go.c1 htb (S' := (18, [some (.inr (.inr (some (8, a0)))), some (.inl a1)], [], am_mk m)) (if_pos hc2) ?_
      refine am_Go.n htb 1 (S' := (19, [some (.inr (.inr (some (8, a0)))), some (.inl a1)], [.inl 0], am_mk m)) rfl ?_
      cases h
      exact am_Go.rt htb rfl
    · rw [if_neg hc2] at h
      refine am_Go.c1 htb (S' := (14, [some (.inr (.inr (some (8, a0)))), some (.inl a1)], [], am_mk m)) (if_neg hc2) ?_
      refine am_Go.n htb 2 (S' := (19, [some (.inr (.inr (some (8, a0)))), some (.inl a1)], [.inl 1], am_mk m)) rfl ?_
      cases h
      exact am_Go.rt htb rfl
-- X8_hasLaw
set_option maxRecDepth 100000 in
theorem ex_X8_hasLaw (d : Nat) (hd : 1 ≤ d) (a0 : Nat) (a1 : Int32) (m : am_m) (t : Int32) (h : fn_X8_hasLaw a0 a1 m = some t) : am_Ex am_cod d 101 [.inr (.inr (some (8, a0))), .inl a1] (am_mk m) (some (.inl t)) (am_mk m) 0 0 := by
  obtain ⟨d, rfl⟩ : ∃ e, d = e + 1 := ⟨d - 1, by omega⟩
  have htb : am_tab 101 = at_101 := rfl
  refine ⟨Nat.le_of_ble_eq_true rfl, ?_⟩
  unfold fn_X8_hasLaw at h
  show am_Go d 101 (0, [some (.inr (.inr (some (8, a0)))), some (.inl a1)], [], am_mk m) _ _ 0 0
  refine am_Go.n htb 2 (S' := (2, [some (.inr (.inr (some (8, a0)))), some (.inl a1)], [.inl (-1), .inl a1], am_mk m)) rfl ?_
  by_cases hc1 : a1 < (-1 : Int32)
  · rw [if_pos hc1] at h
    refine am_Go.c1 htb (S' := (17, [some (.inr (.inr (some (8, a0)))), some (.inl a1)], [], am_mk m)) (if_pos hc1) ?_
    refine am_Go.n htb 1 (S' := (18, [some (.inr (.inr (some (8, a0)))), some (.inl a1)], [.inl 0], am_mk m)) rfl ?_
    cases h
    exact am_Go.rt htb rfl
  · rw [if_neg hc1] at h
    refine am_Go.c1 htb (S' := (5, [some (.inr (.inr (some (8, a0)))), some (.inl a1)], [], am_mk m)) (if_neg hc1) ?_
    refine am_Go.n htb 3 (S' := (10, [some (.inr (.inr (some (8, a0)))), some (.inl a1)], [.inl (m.1 8 a0 2), .inl a1], am_mk m)) rfl ?_
    by_cases hc2 : (m.1 8 a0 2) ≤ a1
    · rw [if_pos hc2] at h
      refine am_Go.c1 htb (S' := (17, [some (.inr (.inr (some (8, a0)))), some (.inl a1)], [], am_mk m)) (if_pos hc2) ?_
      refine am_Go.n htb 1 (S' := (18, [some (.inr (.inr (some (8, a0)))), some (.inl a1)], [.inl 0], am_mk m)) rfl ?_
      cases h
      exact am_Go.rt htb rfl
    · rw [if_neg hc2] at h
      refine am_Go.c1 htb (S' := (13, [some (.inr (.inr (some (8, a0)))), some (.inl a1)], [], am_mk m)) (if_neg hc2) ?_
      refine am_Go.n htb 2 (S' := (18, [some (.inr (.inr (some (8, a0)))), some (.inl a1)], [.inl 1], am_mk m)) rfl ?_
      cases h
      exact am_Go.rt htb rfl
-- X8_lawOf
set_option maxRecDepth 100000 in
theorem ex_X8_lawOf (d : Nat) (hd : 1 ≤ d) (a0 : Nat) (a1 : Int32) (m : am_m) (t : Option Nat) (h : fn_X8_lawOf a0 a1 m = some t) : am_Ex am_cod d 102 [.inr (.inr (some (8, a0))), .inl a1] (am_mk m) (some (.inr (.inr (Option.map (fun j => (5, j)) t)))) (am_mk m) 0 0 := by
  obtain ⟨d, rfl⟩ : ∃ e, d = e + 1 := ⟨d - 1, by omega⟩
  have htb : am_tab 102 = at_102 := rfl
  refine ⟨Nat.le_of_ble_eq_true rfl, ?_⟩
  unfold fn_X8_lawOf at h
  show am_Go d 102 (0, [some (.inr (.inr (some (8, a0)))), some (.inl a1)], [], am_mk m) _ _ 0 0
  refine am_Go.n htb 1 (S' := (1, [some (.inr (.inr (some (8, a0)))), some (.inl a1)], [.inl a1], am_mk m)) rfl ?_
  by_cases hc1 : a1 < 0
  · rw [if_pos hc1] at h
    refine am_Go.c1 htb (S' := (21, [some (.inr (.inr (some (8, a0)))), some (.inl a1)], [], am_mk m)) (if_pos hc1) ?_
    refine am_Go.n htb 1 (S' := (22, [some (.inr (.inr (some (8, a0)))), some (.inl a1)], [.inr (.inr none)], am_mk m)) rfl ?_
    cases h
    exact am_Go.rt htb rfl
  · rw [if_neg hc1] at h
    refine am_Go.c1 htb (S' := (4, [some (.inr (.inr (some (8, a0)))), some (.inl a1)], [], am_mk m)) (if_neg hc1) ?_
    refine am_Go.n htb 3 (S' := (9, [some (.inr (.inr (some (8, a0)))), some (.inl a1)], [.inl (m.1 8 a0 2), .inl a1], am_mk m)) rfl ?_
    by_cases hc2 : (m.1 8 a0 2) ≤ a1
    · rw [if_pos hc2] at h
      refine am_Go.c1 htb (S' := (21, [some (.inr (.inr (some (8, a0)))), some (.inl a1)], [], am_mk m)) (if_pos hc2) ?_
      refine am_Go.n htb 1 (S' := (22, [some (.inr (.inr (some (8, a0)))), some (.inl a1)], [.inr (.inr none)], am_mk m)) rfl ?_
      cases h
      exact am_Go.rt htb rfl
    · rw [if_neg hc2] at h
      refine am_Go.c1 htb (S' := (12, [some (.inr (.inr (some (8, a0)))), some (.inl a1)], [], am_mk m)) (if_neg hc2) ?_
      refine am_Go.n htb 3 (S' := (17, [some (.inr (.inr (some (8, a0)))), some (.inl a1)], [.inl a1, .inr (.inr (some (100, a0)))], am_mk m)) rfl ?_
      obtain ⟨hg3, h⟩ := am_ck_some h
      refine am_Go.c1 htb (S' := (18, [some (.inr (.inr (some (8, a0)))), some (.inl a1)], [.inr (.inr (Option.map (fun j => (5, j)) (m.2.2.2.2.1 a0 a1.toNatClampNeg)))], am_mk m)) (if_neg hg3) ?_
      refine am_Go.n htb 1 (S' := (22, [some (.inr (.inr (some (8, a0)))), some (.inl a1)], [.inr (.inr (Option.map (fun j => (5, j)) (m.2.2.2.2.1 a0 a1.toNatClampNeg)))], am_mk m)) rfl ?_
      cases h
      exact am_Go.rt htb rfl
-- X8_fedOf
set_option maxRecDepth 100000 in
theorem ex_X8_fedOf (d : Nat) (hd : 2 ≤ d) (a0 : Nat) (a1 : Int32) (m : am_m) (t : Int32) (h : fn_X8_fedOf a0 a1 m = some t) : am_Ex am_cod d 103 [.inr (.inr (some (8, a0))), .inl a1] (am_mk m) (some (.inl t)) (am_mk m) 0 0 := by
  obtain ⟨d, rfl⟩ : ∃ e, d = e + 1 := ⟨d - 1, by omega⟩
  have htb : am_tab 103 = at_103 := rfl
  refine ⟨Nat.le_of_ble_eq_true rfl, ?_⟩
  unfold fn_X8_fedOf at h
  show am_Go d 103 (0, [some (.inr (.inr (some (8, a0)))), some (.inl a1)], [], am_mk m) _ _ 0 0
  refine am_Go.n htb 2 (S' := (2, [some (.inr (.inr (some (8, a0)))), some (.inl a1)], [.inl a1, .inr (.inr (some (8, a0)))], am_mk m)) rfl ?_
  obtain ⟨r1, h2, h⟩ := am_bd h
  refine am_Go.cl htb rfl (ex_X8_has d (by omega) a0 a1 m r1 h2) ?_
  show am_Go d 103 (5, [some (.inr (.inr (some (8, a0)))), some (.inl a1)], [.inl r1], am_mk m) _ _ _ _
  by_cases hc3 : r1 = 0
  · rw [if_pos hc3] at h
    refine am_Go.c1 htb (S' := (17, [some (.inr (.inr (some (8, a0)))), some (.inl a1)], [], am_mk m)) (if_pos hc3) ?_
    refine am_Go.n htb 1 (S' := (18, [some (.inr (.inr (some (8, a0)))), some (.inl a1)], [.inl (-1)], am_mk m)) rfl ?_
    cases h
    exact am_Go.rt htb rfl
  · rw [if_neg hc3] at h
    refine am_Go.c1 htb (S' := (8, [some (.inr (.inr (some (8, a0)))), some (.inl a1)], [], am_mk m)) (if_neg hc3) ?_
    refine am_Go.n htb 3 (S' := (13, [some (.inr (.inr (some (8, a0)))), some (.inl a1)], [.inl a1, .inr (.inr (some (36, a0)))], am_mk m)) rfl ?_
    obtain ⟨hg4, h⟩ := am_ck_some h
    refine am_Go.c1 htb (S' := (14, [some (.inr (.inr (some (8, a0)))), some (.inl a1)], [.inl (m.1 36 a0 a1.toNatClampNeg)], am_mk m)) (if_neg hg4) ?_
    refine am_Go.n htb 1 (S' := (18, [some (.inr (.inr (some (8, a0)))), some (.inl a1)], [.inl (m.1 36 a0 a1.toNatClampNeg)], am_mk m)) rfl ?_
    cases h
    exact am_Go.rt htb rfl
-- X8_harmsBy
set_option maxRecDepth 100000 in
theorem lt_X8_harmsBy_4 (d : Nat) (hd : 3 ≤ d + 1) {r : Option am_V} {M' : am_M} {kc ks : Nat} {n : Nat} {x0 : Nat} {x1 : Int32} {x2 : Int32} {x3 : Int32} {m : am_m} {t : Int32} (h : lp_X8_harmsBy_4 n x0 x1 x2 x3 m = some t) (hk : am_Go d 107 (35, [some (.inr (.inr (some (8, x0)))), some (.inl x1), some (.inl t), none], [], am_mk m) r M' kc ks) : am_Go d 107 (4, [some (.inr (.inr (some (8, x0)))), some (.inl x1), some (.inl x2), some (.inl x3)], [], am_mk m) r M' kc ks := by
  have htb : am_tab 107 = at_107 := rfl
  induction n generalizing x2 x3 with
  | zero => cases h
  | succ n ih =>
    unfold lp_X8_harmsBy_4 at h
    refine am_Go.n htb 3 (S' := (9, [some (.inr (.inr (some (8, x0)))), some (.inl x1), some (.inl x2), some (.inl x3)], [.inl (m.1 8 x0 0), .inl x3], am_mk m)) rfl ?_
    by_cases hc1 : (m.1 8 x0 0) ≤ x3
    · rw [if_pos hc1] at h
      refine am_Go.c1 htb (S' := (35, [some (.inr (.inr (some (8, x0)))), some (.inl x1), some (.inl x2), some (.inl x3)], [], am_mk m)) (if_pos hc1) ?_
      cases h
      exact am_Go.fg (by exact ⟨rfl, ⟨rfl, ⟨rfl, trivial⟩⟩⟩) hk
    · rw [if_neg hc1] at h
      refine am_Go.c1 htb (S' := (12, [some (.inr (.inr (some (8, x0)))), some (.inl x1), some (.inl x2), some (.inl x3)], [], am_mk m)) (if_neg hc1) ?_
      refine am_Go.n htb 4 (S' := (16, [some (.inr (.inr (some (8, x0)))), some (.inl x1), some (.inl x2), some (.inl x3)], [.inl x3, .inl x1, .inr (.inr (some (8, x0))), .inl x2], am_mk m)) rfl ?_
      obtain ⟨r2, h3, h⟩ := am_bd h
      refine am_Go.cl htb rfl (ex_X8_weightOf d (by omega) x0 x1 x3 m r2 h3) ?_
      show am_Go d 107 (19, [some (.inr (.inr (some (8, x0)))), some (.inl x1), some (.inl x2), some (.inl x3)], [.inl r2, .inl x2], am_mk m) _ _ _ _
      refine am_Go.cut (S := (27, [some (.inr (.inr (some (8, x0)))), some (.inl x1), some (.inl x2), some (.inl x3)], [.inl (if r2 ≤ 0 then (0 : Int32) else (1 : Int32)), .inl x2], am_mk m)) ?_ (fun key => ?_)
      · refine am_Go.n htb 4 (S' := (4, [some (.inr (.inr (some (8, x0)))), some (.inl x1), some (.inl (x2 + (if r2 ≤ 0 then (0 : Int32) else (1 : Int32)))), some (.inl (x3 + 1))], [], am_mk m)) rfl ?_
        first | exact ih h | exact ih h hk
      · by_cases hc4 : r2 ≤ 0
        · refine am_Go.c1 htb (S' := (26, [some (.inr (.inr (some (8, x0)))), some (.inl x1), some (.inl x2), some (.inl x3)], [.inl x2], am_mk m)) (if_pos hc4) ?_
          refine am_Go.n htb 1 (S' := (27, [some (.inr (.inr (some (8, x0)))), some (.inl x1), some (.inl x2), some (.inl x3)], [.inl 0, .inl x2], am_mk m)) rfl ?_
          simp only [if_pos hc4] at key
          exact am_Go.fg (by exact ⟨rfl, ⟨rfl, ⟨rfl, ⟨rfl, trivial⟩⟩⟩⟩) key
        · refine am_Go.c1 htb (S' := (22, [some (.inr (.inr (some (8, x0)))), some (.inl x1), some (.inl x2), some (.inl x3)], [.inl x2], am_mk m)) (if_neg hc4) ?_
          refine am_Go.n htb 2 (S' := (27, [some (.inr (.inr (some (8, x0)))), some (.inl x1), some (.inl x2), some (.inl x3)], [.inl 1, .inl x2], am_mk m)) rfl ?_
          simp only [if_neg hc4] at key
          exact am_Go.fg (by exact ⟨rfl, ⟨rfl, ⟨rfl, ⟨rfl, trivial⟩⟩⟩⟩) key
set_option maxRecDepth 100000 in
theorem ex_X8_harmsBy (d : Nat) (hd : 3 ≤ d) (a0 : Nat) (a1 : Int32) (m : am_m) (t : Int32) (h : fn_X8_harmsBy a0 a1 m = some t) : am_Ex am_cod d 107 [.inr (.inr (some (8, a0))), .inl a1] (am_mk m) (some (.inl t)) (am_mk m) 0 0 := by
  obtain ⟨d, rfl⟩ : ∃ e, d = e + 1 := ⟨d - 1, by omega⟩
  have htb : am_tab 107 = at_107 := rfl
  refine ⟨Nat.le_of_ble_eq_true rfl, ?_⟩
  unfold fn_X8_harmsBy at h
  show am_Go d 107 (0, [some (.inr (.inr (some (8, a0)))), some (.inl a1), none, none], [], am_mk m) _ _ 0 0
  refine am_Go.n htb 4 (S' := (4, [some (.inr (.inr (some (8, a0)))), some (.inl a1), some (.inl 0), some (.inl 0)], [], am_mk m)) rfl ?_
  obtain ⟨q5, h6, h⟩ := am_bd h
  refine lt_X8_harmsBy_4 _ hd (h := h6) (hk := ?_)
  refine am_Go.n htb 1 (S' := (36, [some (.inr (.inr (some (8, a0)))), some (.inl a1), some (.inl q5), none], [.inl q5], am_mk m)) rfl ?_
  cases h
  exact am_Go.rt htb rfl
