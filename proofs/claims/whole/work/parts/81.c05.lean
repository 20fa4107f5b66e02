-- X8_become
set_option maxRecDepth 100000 in
theorem lt_X8_become_108 (d : Nat) (hd : 1 ≤ d + 1) {r : Option am_V} {M' : am_M} {kc ks : Nat} {n : Nat} {x0 : Nat} {x1 : Nat} {x2 : Int32} {m : am_m} {t : am_m} (h : lp_X8_become_108 n x0 x1 x2 m = some t) (hk : am_Go d 97 (132, [some (.inr (.inr (some (8, x0)))), some (.inr (.inr (some (8, x1)))), none], [], am_mk t) r M' kc ks) : am_Go d 97 (108, [some (.inr (.inr (some (8, x0)))), some (.inr (.inr (some (8, x1)))), some (.inl x2)], [], am_mk m) r M' kc ks := by
  have htb : am_tab 97 = at_97 := rfl
  induction n generalizing x2 m with
  | zero => cases h
  | succ n ih =>
    unfold lp_X8_become_108 at h
    refine am_Go.n htb 2 (S' := (111, [some (.inr (.inr (some (8, x0)))), some (.inr (.inr (some (8, x1)))), some (.inl x2)], [.inl 6, .inl x2], am_mk m)) rfl ?_
    by_cases hc6 : (6 : Int32) ≤ x2
    · rw [if_pos hc6] at h
      refine am_Go.c1 htb (S' := (132, [some (.inr (.inr (some (8, x0)))), some (.inr (.inr (some (8, x1)))), some (.inl x2)], [], am_mk m)) (if_pos hc6) ?_
      cases h
      exact am_Go.fg (by exact ⟨rfl, ⟨rfl, trivial⟩⟩) hk
    · rw [if_neg hc6] at h
      refine am_Go.c1 htb (S' := (114, [some (.inr (.inr (some (8, x0)))), some (.inr (.inr (some (8, x1)))), some (.inl x2)], [], am_mk m)) (if_neg hc6) ?_
      refine am_Go.n htb 6 (S' := (124, [some (.inr (.inr (some (8, x0)))), some (.inr (.inr (some (8, x1)))), some (.inl x2)], [.inl x2, .inr (.inr (some (100, x1))), .inl x2, .inr (.inr (some (100, x0)))], am_mk m)) rfl ?_
      obtain ⟨hg7, h⟩ := am_ck_some h
      refine am_Go.c1 htb (S' := (125, [some (.inr (.inr (some (8, x0)))), some (.inr (.inr (some (8, x1)))), some (.inl x2)], [.inr (.inr (Option.map (fun j => (5, j)) (m.2.2.2.2.1 x1 x2.toNatClampNeg))), .inl x2, .inr (.inr (some (100, x0)))], am_mk m)) (if_neg hg7) ?_
      obtain ⟨hg8, h⟩ := am_ck_some h
      refine am_Go.o htb (am_o_aast) rfl (S' := (126, [some (.inr (.inr (some (8, x0)))), some (.inr (.inr (some (8, x1)))), some (.inl x2)], [], am_mk (am_ss m x0 x2.toNatClampNeg (m.2.2.2.2.1 x1 x2.toNatClampNeg)))) (am_ass (m.2.2.2.2.1 x1 x2.toNatClampNeg) hg8) ?_
      refine am_Go.n htb 2 (S' := (108, [some (.inr (.inr (some (8, x0)))), some (.inr (.inr (some (8, x1)))), some (.inl (x2 + 1))], [], am_mk (am_ss m x0 x2.toNatClampNeg (m.2.2.2.2.1 x1 x2.toNatClampNeg)))) rfl ?_
      first | exact ih h | exact ih h hk
set_option maxRecDepth 100000 in
theorem ex_X8_become (d : Nat) (hd : 1 ≤ d) (a0 : Nat) (a1 : Nat) (m : am_m) (t : am_m) (h : fn_X8_become a0 a1 m = some t) : am_Ex am_cod d 97 [.inr (.inr (some (8, a0))), .inr (.inr (some (8, a1)))] (am_mk m) (none) (am_mk t) 0 0 := by
  obtain ⟨d, rfl⟩ : ∃ e, d = e + 1 := ⟨d - 1, by omega⟩
  have htb : am_tab 97 = at_97 := rfl
  refine ⟨Nat.le_of_ble_eq_true rfl, ?_⟩
  unfold fn_X8_become at h
  show am_Go d 97 (0, [some (.inr (.inr (some (8, a0)))), some (.inr (.inr (some (8, a1)))), none], [], am_mk m) _ _ 0 0
  refine am_Go.n htb 23 (S' := (44, [some (.inr (.inr (some (8, a0)))), some (.inr (.inr (some (8, a1)))), none], [.inl 7, .inl 0, .inr (.inr (some (36, a0))), .inl 0, .inr (.inr (some (36, a1)))], am_mk (am_si (am_si (am_si (am_si m 8 a0 0 (m.1 8 a1 0)) 8 a0 1 ((am_si m 8 a0 0 (m.1 8 a1 0)).1 8 a1 1)) 8 a0 2 ((am_si (am_si m 8 a0 0 (m.1 8 a1 0)) 8 a0 1 ((am_si m 8 a0 0 (m.1 8 a1 0)).1 8 a1 1)).1 8 a1 2)) 8 a0 3 ((am_si (am_si (am_si m 8 a0 0 (m.1 8 a1 0)) 8 a0 1 ((am_si m 8 a0 0 (m.1 8 a1 0)).1 8 a1 1)) 8 a0 2 ((am_si (am_si m 8 a0 0 (m.1 8 a1 0)) 8 a0 1 ((am_si m 8 a0 0 (m.1 8 a1 0)).1 8 a1 1)).1 8 a1 2)).1 8 a1 3)))) rfl ?_
  obtain ⟨hz1, h⟩ := am_gd_some h
  refine am_Go.c1 htb (S' := (47, [some (.inr (.inr (some (8, a0)))), some (.inr (.inr (some (8, a1)))), none], [], am_mk (am_sc (am_si (am_si (am_si (am_si m 8 a0 0 (m.1 8 a1 0)) 8 a0 1 ((am_si m 8 a0 0 (m.1 8 a1 0)).1 8 a1 1)) 8 a0 2 ((am_si (am_si m 8 a0 0 (m.1 8 a1 0)) 8 a0 1 ((am_si m 8 a0 0 (m.1 8 a1 0)).1 8 a1 1)).1 8 a1 2)) 8 a0 3 ((am_si (am_si (am_si m 8 a0 0 (m.1 8 a1 0)) 8 a0 1 ((am_si m 8 a0 0 (m.1 8 a1 0)).1 8 a1 1)) 8 a0 2 ((am_si (am_si m 8 a0 0 (m.1 8 a1 0)) 8 a0 1 ((am_si m 8 a0 0 (m.1 8 a1 0)).1 8 a1 1)).1 8 a1 2)).1 8 a1 3)) 36 a1 36 a0 (0 : Int32).toNatClampNeg (0 : Int32).toNatClampNeg (7 : Int32).toNatClampNeg))) (if_neg hz1) ?_
  refine am_Go.n htb 7 (S' := (59, [some (.inr (.inr (some (8, a0)))), some (.inr (.inr (some (8, a1)))), none], [.inl 49, .inl 0, .inr (.inr (some (37, a0))), .inl 0, .inr (.inr (some (37, a1)))], am_mk (am_sc (am_si (am_si (am_si (am_si m 8 a0 0 (m.1 8 a1 0)) 8 a0 1 ((am_si m 8 a0 0 (m.1 8 a1 0)).1 8 a1 1)) 8 a0 2 ((am_si (am_si m 8 a0 0 (m.1 8 a1 0)) 8 a0 1 ((am_si m 8 a0 0 (m.1 8 a1 0)).1 8 a1 1)).1 8 a1 2)) 8 a0 3 ((am_si (am_si (am_si m 8 a0 0 (m.1 8 a1 0)) 8 a0 1 ((am_si m 8 a0 0 (m.1 8 a1 0)).1 8 a1 1)) 8 a0 2 ((am_si (am_si m 8 a0 0 (m.1 8 a1 0)) 8 a0 1 ((am_si m 8 a0 0 (m.1 8 a1 0)).1 8 a1 1)).1 8 a1 2)).1 8 a1 3)) 36 a1 36 a0 (0 : Int32).toNatClampNeg (0 : Int32).toNatClampNeg (7 : Int32).toNatClampNeg))) rfl ?_
  obtain ⟨hz2, h⟩ := am_gd_some h
  refine am_Go.c1 htb (S' := (62, [some (.inr (.inr (some (8, a0)))), some (.inr (.inr (some (8, a1)))), none], [], am_mk (am_sc (am_sc (am_si (am_si (am_si (am_si m 8 a0 0 (m.1 8 a1 0)) 8 a0 1 ((am_si m 8 a0 0 (m.1 8 a1 0)).1 8 a1 1)) 8 a0 2 ((am_si (am_si m 8 a0 0 (m.1 8 a1 0)) 8 a0 1 ((am_si m 8 a0 0 (m.1 8 a1 0)).1 8 a1 1)).1 8 a1 2)) 8 a0 3 ((am_si (am_si (am_si m 8 a0 0 (m.1 8 a1 0)) 8 a0 1 ((am_si m 8 a0 0 (m.1 8 a1 0)).1 8 a1 1)) 8 a0 2 ((am_si (am_si m 8 a0 0 (m.1 8 a1 0)) 8 a0 1 ((am_si m 8 a0 0 (m.1 8 a1 0)).1 8 a1 1)).1 8 a1 2)).1 8 a1 3)) 36 a1 36 a0 (0 : Int32).toNatClampNeg (0 : Int32).toNatClampNeg (7 : Int32).toNatClampNeg) 37 a1 37 a0 (0 : Int32).toNatClampNeg (0 : Int32).toNatClampNeg (49 : Int32).toNatClampNeg))) (if_neg hz2) ?_
  refine am_Go.n htb 7 (S' := (74, [some (.inr (.inr (some (8, a0)))), some (.inr (.inr (some (8, a1)))), none], [.inl 49, .inl 0, .inr (.inr (some (38, a0))), .inl 0, .inr (.inr (some (38, a1)))], am_mk (am_sc (am_sc (am_si (am_si (am_si (am_si m 8 a0 0 (m.1 8 a1 0)) 8 a0 1 ((am_si m 8 a0 0 (m.1 8 a1 0)).1 8 a1 1)) 8 a0 2 ((am_si (am_si m 8 a0 0 (m.1 8 a1 0)) 8 a0 1 ((am_si m 8 a0 0 (m.1 8 a1 0)).1 8 a1 1)).1 8 a1 2)) 8 a0 3 ((am_si (am_si (am_si m 8 a0 0 (m.1 8 a1 0)) 8 a0 1 ((am_si m 8 a0 0 (m.1 8 a1 0)).1 8 a1 1)) 8 a0 2 ((am_si (am_si m 8 a0 0 (m.1 8 a1 0)) 8 a0 1 ((am_si m 8 a0 0 (m.1 8 a1 0)).1 8 a1 1)).1 8 a1 2)).1 8 a1 3)) 36 a1 36 a0 (0 : Int32).toNatClampNeg (0 : Int32).toNatClampNeg (7 : Int32).toNatClampNeg) 37 a1 37 a0 (0 : Int32).toNatClampNeg (0 : Int32).toNatClampNeg (49 : Int32).toNatClampNeg))) rfl ?_
  obtain ⟨hz3, h⟩ := am_gd_some h
  refine am_Go.c1 htb (S' := (77, [some (.inr (.inr (some (8, a0)))), some (.inr (.inr (some (8, a1)))), none], [], am_mk (am_sc (am_sc (am_sc (am_si (am_si (am_si (am_si m 8 a0 0 (m.1 8 a1 0)) 8 a0 1 ((am_si m 8 a0 0 (m.1 8 a1 0)).1 8 a1 1)) 8 a0 2 ((am_si (am_si m 8 a0 0 (m.1 8 a1 0)) 8 a0 1 ((am_si m 8 a0 0 (m.1 8 a1 0)).1 8 a1 1)).1 8 a1 2)) 8 a0 3 ((am_si (am_si (am_si m 8 a0 0 (m.1 8 a1 0)) 8 a0 1 ((am_si m 8 a0 0 (m.1 8 a1 0)).1 8 a1 1)) 8 a0 2 ((am_si (am_si m 8 a0 0 (m.1 8 a1 0)) 8 a0 1 ((am_si m 8 a0 0 (m.1 8 a1 0)).1 8 a1 1)).1 8 a1 2)).1 8 a1 3)) 36 a1 36 a0 (0 : Int32).toNatClampNeg (0 : Int32).toNatClampNeg (7 : Int32).toNatClampNeg) 37 a1 37 a0 (0 : Int32).toNatClampNeg (0 : Int32).toNatClampNeg (49 : Int32).toNatClampNeg) 38 a1 38 a0 (0 : Int32).toNatClampNeg (0 : Int32).toNatClampNeg (49 : Int32).toNatClampNeg))) (if_neg hz3) ?_
  refine am_Go.n htb 7 (S' := (88, [some (.inr (.inr (some (8, a0)))), some (.inr (.inr (some (8, a1)))), none], [.inl 3, .inl 0, .inr (.inr (some (39, a0))), .inl 0, .inr (.inr (some (39, a1)))], am_mk (am_sc (am_sc (am_sc (am_si (am_si (am_si (am_si m 8 a0 0 (m.1 8 a1 0)) 8 a0 1 ((am_si m 8 a0 0 (m.1 8 a1 0)).1 8 a1 1)) 8 a0 2 ((am_si (am_si m 8 a0 0 (m.1 8 a1 0)) 8 a0 1 ((am_si m 8 a0 0 (m.1 8 a1 0)).1 8 a1 1)).1 8 a1 2)) 8 a0 3 ((am_si (am_si (am_si m 8 a0 0 (m.1 8 a1 0)) 8 a0 1 ((am_si m 8 a0 0 (m.1 8 a1 0)).1 8 a1 1)) 8 a0 2 ((am_si (am_si m 8 a0 0 (m.1 8 a1 0)) 8 a0 1 ((am_si m 8 a0 0 (m.1 8 a1 0)).1 8 a1 1)).1 8 a1 2)).1 8 a1 3)) 36 a1 36 a0 (0 : Int32).toNatClampNeg (0 : Int32).toNatClampNeg (7 : Int32).toNatClampNeg) 37 a1 37 a0 (0 : Int32).toNatClampNeg (0 : Int32).toNatClampNeg (49 : Int32).toNatClampNeg) 38 a1 38 a0 (0 : Int32).toNatClampNeg (0 : Int32).toNatClampNeg (49 : Int32).toNatClampNeg))) rfl ?_
  obtain ⟨hz4, h⟩ := am_gd_some h
  refine am_Go.c1 htb (S' := (91, [some (.inr (.inr (some (8, a0)))), some (.inr (.inr (some (8, a1)))), none], [], am_mk (am_sc (am_sc (am_sc (am_sc (am_si (am_si (am_si (am_si m 8 a0 0 (m.1 8 a1 0)) 8 a0 1 ((am_si m 8 a0 0 (m.1 8 a1 0)).1 8 a1 1)) 8 a0 2 ((am_si (am_si m 8 a0 0 (m.1 8 a1 0)) 8 a0 1 ((am_si m 8 a0 0 (m.1 8 a1 0)).1 8 a1 1)).1 8 a1 2)) 8 a0 3 ((am_si (am_si (am_si m 8 a0 0 (m.1 8 a1 0)) 8 a0 1 ((am_si m 8 a0 0 (m.1 8 a1 0)).1 8 a1 1)) 8 a0 2 ((am_si (am_si m 8 a0 0 (m.1 8 a1 0)) 8 a0 1 ((am_si m 8 a0 0 (m.1 8 a1 0)).1 8 a1 1)).1 8 a1 2)).1 8 a1 3)) 36 a1 36 a0 (0 : Int32).toNatClampNeg (0 : Int32).toNatClampNeg (7 : Int32).toNatClampNeg) 37 a1 37 a0 (0 : Int32).toNatClampNeg (0 : Int32).toNatClampNeg (49 : Int32).toNatClampNeg) 38 a1 38 a0 (0 : Int32).toNatClampNeg (0 : Int32).toNatClampNeg (49 : Int32).toNatClampNeg) 39 a1 39 a0 (0 : Int32).toNatClampNeg (0 : Int32).toNatClampNeg (3 : Int32).toNatClampNeg))) (if_neg hz4) ?_
  refine am_Go.n htb 7 (S' := (103, [some (.inr (.inr (some (8, a0)))), some (.inr (.inr (some (8, a1)))), none], [.inl 6, .inl 0, .inr (.inr (some (40, a0))), .inl 0, .inr (.inr (some (40, a1)))], am_mk (am_sc (am_sc (am_sc (am_sc (am_si (am_si (am_si (am_si m 8 a0 0 (m.1 8 a1 0)) 8 a0 1 ((am_si m 8 a0 0 (m.1 8 a1 0)).1 8 a1 1)) 8 a0 2 ((am_si (am_si m 8 a0 0 (m.1 8 a1 0)) 8 a0 1 ((am_si m 8 a0 0 (m.1 8 a1 0)).1 8 a1 1)).1 8 a1 2)) 8 a0 3 ((am_si (am_si (am_si m 8 a0 0 (m.1 8 a1 0)) 8 a0 1 ((am_si m 8 a0 0 (m.1 8 a1 0)).1 8 a1 1)) 8 a0 2 ((am_si (am_si m 8 a0 0 (m.1 8 a1 0)) 8 a0 1 ((am_si m 8 a0 0 (m.1 8 a1 0)).1 8 a1 1)).1 8 a1 2)).1 8 a1 3)) 36 a1 36 a0 (0 : Int32).toNatClampNeg (0 : Int32).toNatClampNeg (7 : Int32).toNatClampNeg) 37 a1 37 a0 (0 : Int32).toNatClampNeg (0 : Int32).toNatClampNeg (49 : Int32).toNatClampNeg) 38 a1 38 a0 (0 : Int32).toNatClampNeg (0 : Int32).toNatClampNeg (49 : Int32).toNatClampNeg) 39 a1 39 a0 (0 : Int32).toNatClampNeg (0 : Int32).toNatClampNeg (3 : Int32).toNatClampNeg))) rfl ?_
  obtain ⟨hz5, h⟩ := am_gd_some h
  refine am_Go.c1 htb (S' := (106, [some (.inr (.inr (some (8, a0)))), some (.inr (.inr (some (8, a1)))), none], [], am_mk (am_sc (am_sc (am_sc (am_sc (am_sc (am_si (am_si (am_si (am_si m 8 a0 0 (m.1 8 a1 0)) 8 a0 1 ((am_si m 8 a0 0 (m.1 8 a1 0)).1 8 a1 1)) 8 a0 2 ((am_si (am_si m 8 a0 0 (m.1 8 a1 0)) 8 a0 1 ((am_si m 8 a0 0 (m.1 8 a1 0)).1 8 a1 1)).1 8 a1 2)) 8 a0 3 ((am_si (am_si (am_si m 8 a0 0 (m.1 8 a1 0)) 8 a0 1 ((am_si m 8 a0 0 (m.1 8 a1 0)).1 8 a1 1)) 8 a0 2 ((am_si (am_si m 8 a0 0 (m.1 8 a1 0)) 8 a0 1 ((am_si m 8 a0 0 (m.1 8 a1 0)).1 8 a1 1)).1 8 a1 2)).1 8 a1 3)) 36 a1 36 a0 (0 : Int32).toNatClampNeg (0 : Int32).toNatClampNeg (7 : Int32).toNatClampNeg) 37 a1 37 a0 (0 : Int32).toNatClampNeg (0 : Int32).toNatClampNeg (49 : Int32).toNatClampNeg) 38 a1 38 a0 (0 : Int32).toNatClampNeg (0 : Int32).toNatClampNeg (49 : Int32).toNatClampNeg) 39 a1 39 a0 (0 : Int32).toNatClampNeg (0 : Int32).toNatClampNeg (3 : Int32).toNatClampNeg) 40 a1 40 a0 (0 : Int32).toNatClampNeg (0 : Int32).toNatClampNeg (6 : Int32).toNatClampNeg))) (if_neg hz5) ?_
  refine am_Go.n htb 2 (S' := (108, [some (.inr (.inr (some (8, a0)))), some (.inr (.inr (some (8, a1)))), some (.inl 0)], [], am_mk (am_sc (am_sc (am_sc (am_sc (am_sc (am_si (am_si (am_si (am_si m 8 a0 0 (m.1 8 a1 0)) 8 a0 1 ((am_si m 8 a0 0 (m.1 8 a1 0)).1 8 a1 1)) 8 a0 2 ((am_si (am_si m 8 a0 0 (m.1 8 a1 0)) 8 a0 1 ((am_si m 8 a0 0 (m.1 8 a1 0)).1 8 a1 1)).1 8 a1 2)) 8 a0 3 ((am_si (am_si (am_si m 8 a0 0 (m.1 8 a1 0)) 8 a0 1 ((am_si m 8 a0 0 (m.1 8 a1 0)).1 8 a1 1)) 8 a0 2 ((am_si (am_si m 8 a0 0 (m.1 8 a1 0)) 8 a0 1 ((am_si m 8 a0 0 (m.1 8 a1 0)).1 8 a1 1)).1 8 a1 2)).1 8 a1 3)) 36 a1 36 a0 (0 : Int32).toNatClampNeg (0 : Int32).toNatClampNeg (7 : Int32).toNatClampNeg) 37 a1 37 a0 (0 : Int32).toNatClampNeg (0 : Int32).toNatClampNeg (49 : Int32).toNatClampNeg) 38 a1 38 a0 (0 : Int32).toNatClampNeg (0 : Int32).toNatClampNeg (49 : Int32).toNatClampNeg) 39 a1 39 a0 (0 : Int32).toNatClampNeg (0 : Int32).toNatClampNeg (3 : Int32).toNatClampNeg) 40 a1 40 a0 (0 : Int32).toNatClampNeg (0 : Int32).toNatClampNeg (6 : Int32).toNatClampNeg))) rfl ?_
  obtain ⟨q9, h10, h⟩ := am_bd h
  refine lt_X8_become_108 _ hd (h := h10) (hk := ?_)
  cases h
  exact am_Go.rt htb rfl
-- X8_has
set_option maxRecDepth 100000 in
theorem ex_X8_has (d : Nat) (hd : 1 ≤ d) (a0 : Nat) (a1 : Int32) (m : am_m) (t : Int32) (h : fn_X8_has a0 a1 m = some t) : am_Ex am_cod d 98 [.inr (.inr (some (8, a0))), .inl a1] (am_mk m) (some (.inl t)) (am_mk m) 0 0 := by
  obtain ⟨d, rfl⟩ : ∃ e, d = e + 1 := ⟨d - 1, by omega⟩
  have htb : am_tab 98 = at_98 := rfl
  refine ⟨Nat.le_of_ble_eq_true rfl, ?_⟩
  unfold fn_X8_has at h
  show am_Go d 98 (0, [some (.inr (.inr (some (8, a0)))), some (.inl a1)], [], am_mk m) _ _ 0 0
  refine am_Go.n htb 1 (S' := (1, [some (.inr (.inr (some (8, a0)))), some (.inl a1)], [.inl a1], am_mk m)) rfl ?_
  by_cases hc1 : a1 < 0
  · rw [if_pos hc1] at h
    refine am_Go.c1 htb (S' := (16, [some (.inr (.inr (some (8, a0)))), some (.inl a1)], [], am_mk m)) (if_pos hc1) ?_
    refine am_Go.n htb 1 (S' := (17, [some (.inr (.inr (some (8, a0)))), some (.inl a1)], [.inl 0], am_mk m)) rfl ?_
    cases h
    exact am_Go.rt htb rfl
  · rw [if_neg hc1] at h
    refine am_Go.c1 htb (S' := (4, [some (.inr (.inr (some (8, a0)))), some (.inl a1)], [], am_mk m)) (if_neg hc1) ?_
    refine am_Go.n htb 3 (S' := (9, [some (.inr (.inr (some (8, a0)))), some (.inl a1)], [.inl (m.1 8 a0 0), .inl a1], am_mk m)) rfl ?_
    by_cases hc2 : (m.1 8 a0 0) ≤ a1
    · rw [if_pos hc2] at h
      refine am_Go.c1 htb (S' := (16, [some (.inr (.inr (some (8, a0)))), some (.inl a1)], [], am_mk m)) (if_pos hc2) ?_
      refine am_Go.n htb 1 (S' := (17, [some (.inr (.inr (some (8, a0)))), some (.inl a1)], [.inl 0], am_mk m)) rfl ?_
      cases h
      exact am_Go.rt htb rfl
    · rw [if_neg hc2] at h
      refine am_Go.c1 htb (S' := (12, [some (.inr (.inr (some (8, a0)))), some (.inl a1)], [], am_mk m)) (if_neg hc2) ?_
      refine am_Go.n htb 2 (S' := (17, [some (.inr (.inr (some (8, a0)))), some (.inl a1)], [.inl 1], am_mk m)) rfl ?_
      cases h
      exact am_Go.rt htb rfl
-- X8_hasSet
set_option maxRecDepth 100000 in
theorem ex_X8_hasSet (d : Nat) (hd : 1 ≤ d) (a0 : Nat) (a1 : Int32) (m : am_m) (t : Int32) (h : fn_X8_hasSet a0 a1 m = some t) : am_Ex am_cod d 100 [.inr (.inr (some (8, a0))), .inl a1] (am_mk m) (some (.inl t)) (am_mk m) 0 0 := by
  obtain ⟨d, rfl⟩ : ∃ e, d = e + 1 := ⟨d - 1, by omega⟩
  have htb : am_tab 100 = at_100 := rfl
  refine ⟨Nat.le_of_ble_eq_true rfl, ?_⟩
  unfold fn_X8_hasSet at h
  show am_Go d 100 (0, [some (.inr (.inr (some (8, a0)))), some (.inl a1)], [], am_mk m) _ _ 0 0
  refine am_Go.n htb 1 (S' := (1, [some (.inr (.inr (some (8, a0)))), some (.inl a1)], [.inl a1], am_mk m)) rfl ?_
  by_cases hc1 : a1 < 0
  · rw [if_pos hc1] at h
    refine am_Go.c1 htb (S' := (18, [some (.inr (.inr (some (8, a0)))), some (.inl a1)], [], am_mk m)) (if_pos hc1) ?_
    refine am_Go.n htb 1 (S' := (19, [some (.inr (.inr (some (8, a0)))), some (.inl a1)], [.inl 0], am_mk m)) rfl ?_
    cases h
    exact am_Go.rt htb rfl
  · rw [if_neg hc1] at h
    refine am_Go.c1 htb (S' := (4, [some (.inr (.inr (some (8, a0)))), some (.inl a1)], [], am_mk m)) (if_neg hc1) ?_
    refine am_Go.n htb 5 (S' := (11, [some (.inr (.inr (some (8, a0)))), some (.inl a1)], [.inl ((1 : Int32) <<< ((m.1 8 a0 0) &&& 31)), .inl a1], am_mk m)) rfl ?_
    by_cases hc2 : ((1 : Int32) <<< ((m.1 8 a0 0) &&& 31)) ≤ a1
    · rw [if_pos hc2] at h
      refine am_Go.c1 htb (S' := (18, [some (.inr (.inr (some (8, a0)))), some (.inl a1)], [], am_mk m)) (if_pos hc2) ?_
      refine am_Go.n htb 1 (S' := (19, [some (.inr (.inr (some (8, a0)))), some (.inl a1)], [.inl 0], am_mk m)) rfl ?_
      cases h
      exact am_Go.rt htb rfl
    · rw [if_neg hc2] at h
      refine am_Go.c1 htb (S' := (14, [some (.inr (.inr (some (8, a0)))), some (.inl a1)], [], am_mk m)) (if_neg hc2) ?_
      refine am_Go.n htb 2 (S' := (19, [some (.inr (.inr (some (8, a0)))), some (.inl a1)], [.inl 1], am_mk m)) rfl ?_
      cases h
      exact am_Go.rt htb rfl
-- X8_hasLaw
set_option maxRecDepth 100000 in
theorem ex_X8_hasLaw (d : Nat) (hd : 1 ≤ d) (a0 : Nat) (a1 : Int32) (m : am_m) (t : Int32) (h : fn_X8_hasLaw a0 a1 m = some t) : am_Ex am_cod d 101 [.inr (.inr (some (8, a0))), .inl a1] (am_mk m) (some (.inl t)) (am_mk m) 0 0 := by
  obtain ⟨d, rfl⟩ : ∃ e, d = e + 1 := ⟨d - 1, by omega⟩
  have htb : am_tab 101 = at_101 := rfl
  refine ⟨Nat.le_of_ble_eq_true rfl, ?_⟩
  unfold fn_X8_hasLaw at h
  show am_Go d 101 (0, [some (.inr (.inr (some (8, a0)))), some (.inl a1)], [], am_mk m) _ _ 0 0
  refine am_Go.n htb 2 (S' := (2, [some (.inr (.inr (some (8, a0)))), some (.inl a1)], [.inl (-1), .inl a1], am_mk m)) rfl ?_
  by_cases hc1 : a1 < (-1 : Int32)
  · rw [if_pos hc1] at h
    refine am_Go.c1 htb (S' := (17, [some (.inr (.inr (some (8, a0)))), some (.inl a1)], [], am_mk m)) (if_pos hc1) ?_
    refine am_Go.n htb 1 (S' := (18, [some (.inr (.inr (some (8, a0)))), some (.inl a1)], [.inl 0], am_mk m)) rfl ?_
    cases h
    exact am_Go.rt htb rfl
  · rw [if_neg hc1] at h
    refine am_Go.c1 htb (S' := (5, [some (.inr (.inr (some (8, a0)))), some (.inl a1)], [], am_mk m)) (if_neg hc1) ?_
    refine am_Go.n htb 3 (S' := (10, [some (.inr (.inr (some (8, a0)))), some (.inl a1)], [.inl (m.1 8 a0 2), .inl a1], am_mk m)) rfl ?_
    by_cases hc2 : (m.1 8 a0 2) ≤ a1
    · rw [if_pos hc2] at h
      refine am_Go.c1 htb (S' := (17, [some (.inr (.inr (some (8, a0)))), some (.inl a1)], [], am_mk m)) (if_pos hc2) ?_
      refine am_Go.n htb 1 (S' := (18, [some (.inr (.inr (some (8, a0)))), some (.inl a1)], [.inl 0], am_mk m)) rfl ?_
      cases h
      exact am_Go.rt htb rfl
    · rw [if_neg hc2] at h
      refine am_Go.c1 htb (S' := (13, [some (.inr (.inr (some (8, a0)))), some (.inl a1)], [], am_mk m)) (if_neg hc2) ?_
      refine am_Go.n htb 2 (S' := (18, [some (.inr (.inr (some (8, a0)))), some (.inl a1)], [.inl 1], am_mk m)) rfl ?_
      cases h
      exact am_Go.rt htb rfl
-- X8_lawOf
set_option maxRecDepth 100000 in
theorem ex_X8_lawOf (d : Nat) (hd : 1 ≤ d) (a0 : Nat) (a1 : Int32) (m : am_m) (t : Option Nat) (h : fn_X8_lawOf a0 a1 m = some t) : am_Ex am_cod d 102 [.inr (.inr (some (8, a0))), .inl a1] (am_mk m) (some (.inr (.inr (Option.map (fun j => (5, j)) t)))) (am_mk m) 0 0 := by
  obtain ⟨d, rfl⟩ : ∃ e, d = e + 1 := ⟨d - 1, by omega⟩
  have htb : am_tab 102 = at_102 := rfl
  refine ⟨Nat.le_of_ble_eq_true rfl, ?_⟩
  unfold fn_X8_lawOf at h
  show am_Go d 102 (0, [some (.inr (.inr (some (8, a0)))), some (.inl a1)], [], am_mk m) _ _ 0 0
  refine am_Go.n htb 1 (S' := (1, [some (.inr (.inr (some (8, a0)))), some (.inl a1)], [.inl a1], am_mk m)) rfl ?_
  by_cases hc1 : a1 < 0
  · rw [if_pos hc1] at h
    refine am_Go.c1 htb (S' := (21, [some (.inr (.inr (some (8, a0)))), some (.inl a1)], [], am_mk m)) (if_pos hc1) ?_
    refine am_Go.n htb 1 (S' := (22, [some (.inr (.inr (some (8, a0)))), some (.inl a1)], [.inr (.inr none)], am_mk m)) rfl ?_
    cases h
    exact am_Go.rt htb rfl
  · rw [if_neg hc1] at h
    refine am_Go.c1 htb (S' := (4, [some (.inr (.inr (some (8, a0)))), some (.inl a1)], [], am_mk m)) (if_neg hc1) ?_
    refine am_Go.n htb 3 (S' := (9, [some (.inr (.inr (some (8, a0)))), some (.inl a1)], [.inl (m.1 8 a0 2), .inl a1], am_mk m)) rfl ?_
    by_cases hc2 : (m.1 8 a0 2) ≤ a1
    · rw [if_pos hc2] at h
      refine am_Go.c1 htb (S' := (21, [some (.inr (.inr (some (8, a0)))), some (.inl a1)], [], am_mk m)) (if_pos hc2) ?_
      refine am_Go.n htb 1 (S' := (22, [some (.inr (.inr (some (8, a0)))), some (.inl a1)], [.inr (.inr none)], am_mk m)) rfl ?_
      cases h
      exact am_Go.rt htb rfl
    · rw [if_neg hc2] at h
      refine am_Go.c1 htb (S' := (12, [some (.inr (.inr (some (8, a0)))), some (.inl a1)], [], am_mk m)) (if_neg hc2) ?_
      refine am_Go.n htb 3 (S' := (17, [some (.inr (.inr (some (8, a0)))), some (.inl a1)], [.inl a1, .inr (.inr (some (100, a0)))], am_mk m)) rfl ?_
      obtain ⟨hg3, h⟩ := am_ck_some h
      refine am_Go.c1 htb (S' := (18, [some (.inr (.inr (some (8, a0)))), some (.inl a1)], [.inr (.inr (Option.map (fun j => (5, j)) (m.2.2.2.2.1 a0 a1.toNatClampNeg)))], am_mk m)) (if_neg hg3) ?_
      refine am_Go.n htb 1 (S' := (22, [some (.inr (.inr (some (8, a0)))), some (.inl a1)], [.inr (.inr (Option.map (fun j => (5, j)) (m.2.2.2.2.1 a0 a1.toNatClampNeg)))], am_mk m)) rfl ?_
      cases h
      exact am_Go.rt htb rfl
-- X8_fedOf
set_option maxRecDepth 100000 in
theorem ex_X8_fedOf (d : Nat) (hd : 2 ≤ d) (a0 : Nat) (a1 : Int32) (m : am_m) (t : Int32) (h : fn_X8_fedOf a0 a1 m = some t) : am_Ex am_cod d 103 [.inr (.inr (some (8, a0))), .inl a1] (am_mk m) (some (.inl t)) (am_mk m) 0 0 := by
  obtain ⟨d, rfl⟩ : ∃ e, d = e + 1 := ⟨d - 1, by omega⟩
  have htb : am_tab 103 = at_103 := rfl
  refine ⟨Nat.le_of_ble_eq_true rfl, ?_⟩
  unfold fn_X8_fedOf at h
  show am_Go d 103 (0, [some (.inr (.inr (some (8, a0)))), some (.inl a1)], [], am_mk m) _ _ 0 0
  refine am_Go.n htb 2 (S' := (2, [some (.inr (.inr (some (8, a0)))), some (.inl a1)], [.inl a1, .inr (.inr (some (8, a0)))], am_mk m)) rfl ?_
  obtain ⟨r1, h2, h⟩ := am_bd h
  refine am_Go.cl htb rfl (ex_X8_has d (by omega) a0 a1 m r1 h2) ?_
  show am_Go d 103 (5, [some (.inr (.inr (some (8, a0)))), some (.inl a1)], [.inl r1], am_mk m) _ _ _ _
  by_cases hc3 : r1 = 0
  · rw [if_pos hc3] at h
    refine am_Go.c1 htb (S' := (17, [some (.inr (.inr (some (8, a0)))), some (.inl a1)], [], am_mk m)) (if_pos hc3) ?_
    refine am_Go.n htb 1 (S' := (18, [some (.inr (.inr (some (8, a0)))), some (.inl a1)], [.inl (-1)], am_mk m)) rfl ?_
    cases h
    exact am_Go.rt htb rfl
  · rw [if_neg hc3] at h
    refine am_Go.c1 htb (S' := (8, [some (.inr (.inr (some (8, a0)))), some (.inl a1)], [], am_mk m)) (if_neg hc3) ?_
    refine am_Go.n htb 3 (S' := (13, [some (.inr (.inr (some (8, a0)))), some (.inl a1)], [.inl a1, .inr (.inr (some (36, a0)))], am_mk m)) rfl ?_
    obtain ⟨hg4, h⟩ := am_ck_some h
    refine am_Go.c1 htb (S' := (14, [some (.inr (.inr (some (8, a0)))), some (.inl a1)], [.inl (m.1 36 a0 a1.toNatClampNeg)], am_mk m)) (if_neg hg4) ?_
    refine am_Go.n htb 1 (S' := (18, [some (.inr (.inr (some (8, a0)))), some (.inl a1)], [.inl (m.1 36 a0 a1.toNatClampNeg)], am_mk m)) rfl ?_
    cases h
    exact am_Go.rt htb rfl
-- X8_harmsBy
set_option maxRecDepth 100000 in
theorem lt_X8_harmsBy_4 (d : Nat) (hd : 3 ≤ d + 1) {r : Option am_V} {M' : am_M} {kc ks : Nat} {n : Nat} {x0 : Nat} {x1 : Int32} {x2 : Int32} {x3 : Int32} {m : am_m} {t : Int32} (h : lp_X8_harmsBy_4 n x0 x1 x2 x3 m = some t) (hk : am_Go d 107 (35, [some (.inr (.inr (some (8, x0)))), some (.inl x1), some (.inl t), none], [], am_mk m) r M' kc ks) : am_Go d 107 (4, [some (.inr (.inr (some (8, x0)))), some (.inl x1), some (.inl x2), some (.inl x3)], [], am_mk m) r M' kc ks := by
  have htb : am_tab 107 = at_107 := rfl
  induction n generalizing x2 x3 with
  | zero => cases h
  | succ n ih =>
    unfold lp_X8_harmsBy_4 at h
    refine am_Go.n htb 3 (S' := (9, [some (.inr (.inr (some (8, x0)))), some (.inl x1), some (.inl x2), some (.inl x3)], [.inl (m.1 8 x0 0), .inl x3], am_mk m)) rfl ?_
    by_cases hc1 : (m.1 8 x0 0) ≤ x3
    · rw [if_pos hc1] at h
      refine am_Go.c1 htb (S' := (35, [some (.inr (.inr (some (8, x0)))), some (.inl x1), some (.inl x2), some (.inl x3)], [], am_mk m)) (if_pos hc1) ?_
      cases h
      exact am_Go.fg (by exact ⟨rfl, ⟨rfl, ⟨rfl, trivial⟩⟩⟩) hk
    · rw [if_neg hc1] at h
      refine am_Go.c1 htb (S' := (12, [some (.inr (.inr (some (8, x0)))), some (.inl x1), some (.inl x2), some (.inl x3)], [], am_mk m)) (if_neg hc1) ?_
      refine am_Go.n htb 4 (S' := (16, [some (.inr (.inr (some (8, x0)))), some (.inl x1), some (.inl x2), some (.inl x3)], [.inl x3, .inl x1, .inr (.inr (some (8, x0))), .inl x2], am_mk m)) rfl ?_
      obtain ⟨r2, h3, h⟩ := am_bd h
      refine am_Go.cl htb rfl (ex_X8_weightOf d (by omega) x0 x1 x3 m r2 h3) ?_
      show am_Go d 107 (19, [some (.inr (.inr (some (8, x0)))), some (.inl x1), some (.inl x2), some (.inl x3)], [.inl r2, .inl x2], am_mk m) _ _ _ _
      refine am_Go.cut (S := (27, [some (.inr (.inr (some (8, x0)))), some (.inl x1), some (.inl x2), some (.inl x3)], [.inl (if r2 ≤ 0 then (0 : Int32) else (1 : Int32)), .inl x2], am_mk m)) ?_ (fun key => ?_)
      · refine am_Go.n htb 4 (S' := (4, [some (.inr (.inr (some (8, x0)))), some (.inl x1), some (.inl (x2 + (if r2 ≤ 0 then (0 : Int32) else (1 : Int32)))), some (.inl (x3 + 1))], [], am_mk m)) rfl ?_
        first | exact ih h | exact ih h hk
      · by_cases hc4 : r2 ≤ 0
        · refine am_Go.c1 htb (S' := (26, [some (.inr (.inr (some (8, x0)))), some (.inl x1), some (.inl x2), some (.inl x3)], [.inl x2], am_mk m)) (if_pos hc4) ?_
          refine am_Go.n htb 1 (S' := (27, [some (.inr (.inr (some (8, x0)))), some (.inl x1), some (.inl x2), some (.inl x3)], [.inl 0, .inl x2], am_mk m)) rfl ?_
          simp only [if_pos hc4] at key
          exact am_Go.fg (by exact ⟨rfl, ⟨rfl, ⟨rfl, ⟨rfl, trivial⟩⟩⟩⟩) key
        · refine am_Go.c1 htb (S' := (22, [some (.inr (.inr (some (8, x0)))), some (.inl x1), some (.inl x2), some (.inl x3)], [.inl x2], am_mk m)) (if_neg hc4) ?_
          refine am_Go.n htb 2 (S' := (27, [some (.inr (.inr (some (8, x0)))), some (.inl x1), some (.inl x2), some (.inl x3)], [.inl 1, .inl x2], am_mk m)) rfl ?_
          simp only [if_neg hc4] at key
          exact am_Go.fg (by exact ⟨rfl, ⟨rfl, ⟨rfl, ⟨rfl, trivial⟩⟩⟩⟩) key
set_option maxRecDepth 100000 in
theorem ex_X8_harmsBy (d : Nat) (hd : 3 ≤ d) (a0 : Nat) (a1 : Int32) (m : am_m) (t : Int32) (h : fn_X8_harmsBy a0 a1 m = some t) : am_Ex am_cod d 107 [.inr (.inr (some (8, a0))), .inl a1] (am_mk m) (some (.inl t)) (am_mk m) 0 0 := by
  obtain ⟨d, rfl⟩ : ∃ e, d = e + 1 := ⟨d - 1, by omega⟩
  have htb : am_tab 107 = at_107 := rfl
  refine ⟨Nat.le_of_ble_eq_true rfl, ?_⟩
  unfold fn_X8_harmsBy at h
  show am_Go d 107 (0, [some (.inr (.inr (some (8, a0)))), some (.inl a1), none, none], [], am_mk m) _ _ 0 0
  refine am_Go.n htb 4 (S' := (4, [some (.inr (.inr (some (8, a0)))), some (.inl a1), some (.inl 0), some (.inl 0)], [], am_mk m)) rfl ?_
  obtain ⟨q5, h6, h⟩ := am_bd h
  refine lt_X8_harmsBy_4 _ hd (h := h6) (hk := ?_)
  refine am_Go.n htb 1 (S' := (36, [some (.inr (.inr (some (8, a0)))), some (.inl a1), some (.inl q5), none], [.inl q5], am_mk m)) rfl ?_
  cases h
  exact am_Go.rt htb rfl
-- X8_harmsTo
set_option maxRecDepth 100000 in
theorem lt_X8_harmsTo_4 (d : Nat) (hd : 3 ≤ d + 1) {r : Option am_V} {M' : am_M} {kc ks : Nat} {n : Nat} {x0 : Nat} {x1 : Int32} {x2 : Int32} {x3 : Int32} {m : am_m} {t : Int32} (h : lp_X8_harmsTo_4 n x0 x1 x2 x3 m = some t) (hk : am_Go d 108 (35, [some (.inr (.inr (some (8, x0)))), some (.inl x1), some (.inl t), none], [], am_mk m) r M' kc ks) : am_Go d 108 (4, [some (.inr (.inr (some (8, x0)))), some (.inl x1), some (.inl x2), some (.inl x3)], [], am_mk m) r M' kc ks := by
  have htb : am_tab 108 = at_108 := rfl
  induction n generalizing x2 x3 with
  | zero => cases h
  | succ n ih =>
    unfold lp_X8_harmsTo_4 at h
    refine am_Go.n htb 3 (S' := (9, [some (.inr (.inr (some (8, x0)))), some (.inl x1), some (.inl x2), some (.inl x3)], [.inl (m.1 8 x0 0), .inl x3], am_mk m)) rfl ?_
    by_cases hc1 : (m.1 8 x0 0) ≤ x3
    · rw [if_pos hc1] at h
      refine am_Go.c1 htb (S' := (35, [some (.inr (.inr (some (8, x0)))), some (.inl x1), some (.inl x2), some (.inl x3)], [], am_mk m)) (if_pos hc1) ?_
      cases h
      exact am_Go.fg (by exact ⟨rfl, ⟨rfl, ⟨rfl, trivial⟩⟩⟩) hk
    · rw [if_neg hc1] at h
      refine am_Go.c1 htb (S' := (12, [some (.inr (.inr (some (8, x0)))), some (.inl x1), some (.inl x2), some (.inl x3)], [], am_mk m)) (if_neg hc1) ?_
      refine am_Go.n htb 4 (S' := (16, [some (.inr (.inr (some (8, x0)))), some (.inl x1), some (.inl x2), some (.inl x3)], [.inl x1, .inl x3, .inr (.inr (some (8, x0))), .inl x2], am_mk m)) rfl ?_
      obtain ⟨r2, h3, h⟩ := am_bd h
      refine am_Go.cl htb rfl (ex_X8_weightOf d (by omega) x0 x3 x1 m r2 h3) ?_
      show am_Go d 108 (19, [some (.inr (.inr (some (8, x0)))), some (.inl x1), some (.inl x2), some (.inl x3)], [.inl r2, .inl x2], am_mk m) _ _ _ _
      refine am_Go.cut (S := (27, [some (.inr (.inr (some (8, x0)))), some (.inl x1), some (.inl x2), some (.inl x3)], [.inl (if r2 ≤ 0 then (0 : Int32) else (1 : Int32)), .inl x2], am_mk m)) ?_ (fun key => ?_)
      · refine am_Go.n htb 4 (S' := (4, [some (.inr (.inr (some (8, x0)))), some (.inl x1), some (.inl (x2 + (if r2 ≤ 0 then (0 : Int32) else (1 : Int32)))), some (.inl (x3 + 1))], [], am_mk m)) rfl ?_
        first | exact ih h | exact ih h hk
      · by_cases hc4 : r2 ≤ 0
        · refine am_Go.c1 htb (S' := (26, [some (.inr (.inr (some (8, x0)))), some (.inl x1), some (.inl x2), some (.inl x3)], [.inl x2], am_mk m)) (if_pos hc4) ?_
          refine am_Go.n htb 1 (S' := (27, [some (.inr (.inr (some (8, x0)))), some (.inl x1), some (.inl x2), some (.inl x3)], [.inl 0, .inl x2], am_mk m)) rfl ?_
          simp only [if_pos hc4] at key
          exact am_Go.fg (by exact ⟨rfl, ⟨rfl, ⟨rfl, ⟨rfl, trivial⟩⟩⟩⟩) key
        · refine am_Go.c1 htb (S' := (22, [some (.inr (.inr (some (8, x0)))), some (.inl x1), some (.inl x2), some (.inl x3)], [.inl x2], am_mk m)) (if_neg hc4) ?_
          refine am_Go.n htb 2 (S' := (27, [some (.inr (.inr (some (8, x0)))), some (.inl x1), some (.inl x2), some (.inl x3)], [.inl 1, .inl x2], am_mk m)) rfl ?_
          simp only [if_neg hc4] at key
          exact am_Go.fg (by exact ⟨rfl, ⟨rfl, ⟨rfl, ⟨rfl, trivial⟩⟩⟩⟩) key
set_option maxRecDepth 100000 in
theorem ex_X8_harmsTo (d : Nat) (hd : 3 ≤ d) (a0 : Nat) (a1 : Int32) (m : am_m) (t : Int32) (h : fn_X8_harmsTo a0 a1 m = some t) : am_Ex am_cod d 108 [.inr (.inr (some (8, a0))), .inl a1] (am_mk m) (some (.inl t)) (am_mk m) 0 0 := by
  obtain ⟨d, rfl⟩ : ∃ e, d = e + 1 := ⟨d - 1, by omega⟩
  have htb : am_tab 108 = at_108 := rfl
  refine ⟨Nat.le_of_ble_eq_true rfl, ?_⟩
  unfold fn_X8_harmsTo at h
  show am_Go d 108 (0, [some (.inr (.inr (some (8, a0)))), some (.inl a1), none, none], [], am_mk m) _ _ 0 0
  refine am_Go.n htb 4 (S' := (4, [some (.inr (.inr (some (8, a0)))), some (.inl a1), some (.inl 0), some (.inl 0)], [], am_mk m)) rfl ?_
  obtain ⟨q5, h6, h⟩ := am_bd h
  refine lt_X8_harmsTo_4 _ hd (h := h6) (hk := ?_)
  refine am_Go.n htb 1 (S' := (36, [some (.inr (.inr (some (8, a0)))), some (.inl a1), some (.inl q5), none], [.inl q5], am_mk m)) rfl ?_
  cases h
  exact am_Go.rt htb rfl
-- X8_harmCount
set_option maxRecDepth 100000 in
theorem lt_X8_harmCount_4 (d : Nat) (hd : 4 ≤ d + 1) {r : Option am_V} {M' : am_M} {kc ks : Nat} {n : Nat} {x0 : Nat} {x1 : Int32} {x2 : Int32} {m : am_m} {t : Int32} (h : lp_X8_harmCount_4 n x0 x1 x2 m = some t) (hk : am_Go d 109 (26, [some (.inr (.inr (some (8, x0)))), some (.inl t), none], [], am_mk m) r M' kc ks) : am_Go d 109 (4, [some (.inr (.inr (some (8, x0)))), some (.inl x1), some (.inl x2)], [], am_mk m) r M' kc ks := by
  have htb : am_tab 109 = at_109 := rfl
  induction n generalizing x1 x2 with
  | zero => cases h
  | succ n ih =>
    unfold lp_X8_harmCount_4 at h
    refine am_Go.n htb 3 (S' := (9, [some (.inr (.inr (some (8, x0)))), some (.inl x1), some (.inl x2)], [.inl (m.1 8 x0 0), .inl x2], am_mk m)) rfl ?_
    by_cases hc1 : (m.1 8 x0 0) ≤ x2
    · rw [if_pos hc1] at h
      refine am_Go.c1 htb (S' := (26, [some (.inr (.inr (some (8, x0)))), some (.inl x1), some (.inl x2)], [], am_mk m)) (if_pos hc1) ?_
      cases h
      exact am_Go.fg (by exact ⟨rfl, ⟨rfl, trivial⟩⟩) hk
    · rw [if_neg hc1] at h
      refine am_Go.c1 htb (S' := (12, [some (.inr (.inr (some (8, x0)))), some (.inl x1), some (.inl x2)], [], am_mk m)) (if_neg hc1) ?_
      refine am_Go.n htb 3 (S' := (15, [some (.inr (.inr (some (8, x0)))), some (.inl x1), some (.inl x2)], [.inl x2, .inr (.inr (some (8, x0))), .inl x1], am_mk m)) rfl ?_
      obtain ⟨r2, h3, h⟩ := am_bd h
      refine am_Go.cl htb rfl (ex_X8_harmsBy d (by omega) x0 x2 m r2 h3) ?_
      show am_Go d 109 (18, [some (.inr (.inr (some (8, x0)))), some (.inl x1), some (.inl x2)], [.inl r2, .inl x1], am_mk m) _ _ _ _
      refine am_Go.n htb 4 (S' := (4, [some (.inr (.inr (some (8, x0)))), some (.inl (x1 + r2)), some (.inl (x2 + 1))], [], am_mk m)) rfl ?_
      first | exact ih h | exact ih h hk
set_option maxRecDepth 100000 in
theorem ex_X8_harmCount (d : Nat) (hd : 4 ≤ d) (a0 : Nat) (m : am_m) (t : Int32) (h : fn_X8_harmCount a0 m = some t) : am_Ex am_cod d 109 [.inr (.inr (some (8, a0)))] (am_mk m) (some (.inl t)) (am_mk m) 0 0 := by
  obtain ⟨d, rfl⟩ : ∃ e, d = e + 1 := ⟨d - 1, by omega⟩
  have htb : am_tab 109 = at_109 := rfl
  refine ⟨Nat.le_of_ble_eq_true rfl, ?_⟩
  unfold fn_X8_harmCount at h
  show am_Go d 109 (0, [some (.inr (.inr (some (8, a0)))), none, none], [], am_mk m) _ _ 0 0
  refine am_Go.n htb 4 (S' := (4, [some (.inr (.inr (some (8, a0)))), some (.inl 0), some (.inl 0)], [], am_mk m)) rfl ?_
  obtain ⟨q4, h5, h⟩ := am_bd h
  refine lt_X8_harmCount_4 _ hd (h := h5) (hk := ?_)
  refine am_Go.n htb 1 (S' := (27, [some (.inr (.inr (some (8, a0)))), some (.inl q4), none], [.inl q4], am_mk m)) rfl ?_
  cases h
  exact am_Go.rt htb rfl
-- X8_fedBelow
set_option maxRecDepth 100000 in
theorem lt_X8_fedBelow_4 (d : Nat) (hd : 1 ≤ d + 1) {r : Option am_V} {M' : am_M} {kc ks : Nat} {n : Nat} {x0 : Nat} {x1 : Int32} {x2 : Int32} {x3 : Int32} {m : am_m} {t : Int32} (h : lp_X8_fedBelow_4 n x0 x1 x2 x3 m = some t) (hk : am_Go d 110 (34, [some (.inr (.inr (some (8, x0)))), some (.inl x1), some (.inl t), none], [], am_mk m) r M' kc ks) : am_Go d 110 (4, [some (.inr (.inr (some (8, x0)))), some (.inl x1), some (.inl x2), some (.inl x3)], [], am_mk m) r M' kc ks := by
  have htb : am_tab 110 = at_110 := rfl
  induction n generalizing x2 x3 with
  | zero => cases h
  | succ n ih =>
    unfold lp_X8_fedBelow_4 at h
    refine am_Go.n htb 3 (S' := (9, [some (.inr (.inr (some (8, x0)))), some (.inl x1), some (.inl x2), some (.inl x3)], [.inl (m.1 8 x0 0), .inl x3], am_mk m)) rfl ?_
    by_cases hc1 : (m.1 8 x0 0) ≤ x3
    · rw [if_pos hc1] at h
      refine am_Go.c1 htb (S' := (34, [some (.inr (.inr (some (8, x0)))), some (.inl x1), some (.inl x2), some (.inl x3)], [], am_mk m)) (if_pos hc1) ?_
      cases h
      exact am_Go.fg (by exact ⟨rfl, ⟨rfl, ⟨rfl, trivial⟩⟩⟩) hk
    · rw [if_neg hc1] at h
      refine am_Go.c1 htb (S' := (12, [some (.inr (.inr (some (8, x0)))), some (.inl x1), some (.inl x2), some (.inl x3)], [], am_mk m)) (if_neg hc1) ?_
      refine am_Go.n htb 3 (S' := (17, [some (.inr (.inr (some (8, x0)))), some (.inl x1), some (.inl x2), some (.inl x3)], [.inl x3, .inr (.inr (some (36, x0)))], am_mk m)) rfl ?_
      obtain ⟨hg2, h⟩ := am_ck_some h
      refine am_Go.c1 htb (S' := (18, [some (.inr (.inr (some (8, x0)))), some (.inl x1), some (.inl x2), some (.inl x3)], [.inl (m.1 36 x0 x3.toNatClampNeg)], am_mk m)) (if_neg hg2) ?_
      refine am_Go.n htb 1 (S' := (19, [some (.inr (.inr (some (8, x0)))), some (.inl x1), some (.inl x2), some (.inl x3)], [.inl x1, .inl (m.1 36 x0 x3.toNatClampNeg)], am_mk m)) rfl ?_
      refine am_Go.cut (S := (28, [some (.inr (.inr (some (8, x0)))), some (.inl x1), some (.inl (if x1 ≤ (m.1 36 x0 x3.toNatClampNeg) then x2 else (x2 ||| ((1 : Int32) <<< (x3 &&& 31))))), some (.inl x3)], [], am_mk m)) ?_ (fun key => ?_)
      · refine am_Go.n htb 2 (S' := (4, [some (.inr (.inr (some (8, x0)))), some (.inl x1), some (.inl (if x1 ≤ (m.1 36 x0 x3.toNatClampNeg) then x2 else (x2 ||| ((1 : Int32) <<< (x3 &&& 31))))), some (.inl (x3 + 1))], [], am_mk m)) rfl ?_
        first | exact ih h | exact ih h hk
      · by_cases hc3 : x1 ≤ (m.1 36 x0 x3.toNatClampNeg)
        · refine am_Go.c1 htb (S' := (28, [some (.inr (.inr (some (8, x0)))), some (.inl x1), some (.inl x2), some (.inl x3)], [], am_mk m)) (if_pos hc3) ?_
          simp only [if_pos hc3] at key
          exact am_Go.fg (by exact ⟨rfl, ⟨rfl, ⟨rfl, ⟨rfl, trivial⟩⟩⟩⟩) key
        · refine am_Go.c1 htb (S' := (22, [some (.inr (.inr (some (8, x0)))), some (.inl x1), some (.inl x2), some (.inl x3)], [], am_mk m)) (if_neg hc3) ?_
          refine am_Go.n htb 6 (S' := (28, [some (.inr (.inr (some (8, x0)))), some (.inl x1), some (.inl (x2 ||| ((1 : Int32) <<< (x3 &&& 31)))), some (.inl x3)], [], am_mk m)) rfl ?_
          simp only [if_neg hc3] at key
          exact am_Go.fg (by exact ⟨rfl, ⟨rfl, ⟨rfl, ⟨rfl, trivial⟩⟩⟩⟩) key
set_option maxRecDepth 100000 in
theorem ex_X8_fedBelow (d : Nat) (hd : 1 ≤ d) (a0 : Nat) (a1 : Int32) (m : am_m) (t : Int32) (h : fn_X8_fedBelow a0 a1 m = some t) : am_Ex am_cod d 110 [.inr (.inr (some (8, a0))), .inl a1] (am_mk m) (some (.inl t)) (am_mk m) 0 0 := by
  obtain ⟨d, rfl⟩ : ∃ e, d = e + 1 := ⟨d - 1, by omega⟩
  have htb : am_tab 110 = at_110 := rfl
  refine ⟨Nat.le_of_ble_eq_true rfl, ?_⟩
  unfold fn_X8_fedBelow at h
  show am_Go d 110 (0, [some (.inr (.inr (some (8, a0)))), some (.inl a1), none, none], [], am_mk m) _ _ 0 0
  refine am_Go.n htb 4 (S' := (4, [some (.inr (.inr (some (8, a0)))), some (.inl a1), some (.inl 0), some (.inl 0)], [], am_mk m)) rfl ?_
  obtain ⟨q4, h5, h⟩ := am_bd h
  refine lt_X8_fedBelow_4 _ hd (h := h5) (hk := ?_)
  refine am_Go.n htb 1 (S' := (35, [some (.inr (.inr (some (8, a0)))), some (.inl a1), some (.inl q4), none], [.inl q4], am_mk m)) rfl ?_
  cases h
  exact am_Go.rt htb rfl
-- X8_starving
set_option maxRecDepth 100000 in
theorem ex_X8_starving (d : Nat) (hd : 2 ≤ d) (a0 : Nat) (m : am_m) (t : Int32) (h : fn_X8_starving a0 m = some t) : am_Ex am_cod d 111 [.inr (.inr (some (8, a0)))] (am_mk m) (some (.inl t)) (am_mk m) 0 0 := by
  obtain ⟨d, rfl⟩ : ∃ e, d = e + 1 := ⟨d - 1, by omega⟩
  have htb : am_tab 111 = at_111 := rfl
  refine ⟨Nat.le_of_ble_eq_true rfl, ?_⟩
  unfold fn_X8_starving at h
  show am_Go d 111 (0, [some (.inr (.inr (some (8, a0))))], [], am_mk m) _ _ 0 0
  refine am_Go.n htb 2 (S' := (2, [some (.inr (.inr (some (8, a0))))], [.inl 1, .inr (.inr (some (8, a0)))], am_mk m)) rfl ?_
  obtain ⟨r1, h2, h⟩ := am_bd h
  refine am_Go.cl htb rfl (ex_X8_fedBelow d (by omega) a0 1 m r1 h2) ?_
  show am_Go d 111 (5, [some (.inr (.inr (some (8, a0))))], [.inl r1], am_mk m) _ _ _ _
  obtain ⟨r3, h4, h⟩ := am_bd h
  refine am_Go.cl htb rfl (ex_J6_bitCount_0f7a4 d (by omega) r1 m r3 h4) ?_
  show am_Go d 111 (8, [some (.inr (.inr (some (8, a0))))], [.inl r3], am_mk m) _ _ _ _
  cases h
  exact am_Go.rt htb rfl
-- X9_told
set_option maxRecDepth 100000 in
theorem ex_X9_told (d : Nat) (hd : 2 ≤ d) (a1 : Int32) (m : am_m) (t : Int32 × am_m) (h : fn_X9_told a1 m = some t) : am_Ex am_cod d 154 [.inr (.inr (some (9, 0))), .inl a1] (am_mk m) (some (.inl t.1)) (am_mk t.2) 0 0 := by
  obtain ⟨d, rfl⟩ : ∃ e, d = e + 1 := ⟨d - 1, by omega⟩
  have htb : am_tab 154 = at_154 := rfl
  refine ⟨Nat.le_of_ble_eq_true rfl, ?_⟩
  unfold fn_X9_told at h
  show am_Go d 154 (0, [some (.inr (.inr (some (9, 0)))), some (.inl a1)], [], am_mk m) _ _ 0 0
  refine am_Go.n htb 3 (S' := (3, [some (.inr (.inr (some (9, 0)))), some (.inl a1)], [.inl 0, .inl a1, .inr (.inr (some (9, 0)))], am_mk m)) rfl ?_
  obtain ⟨r1, h2, h⟩ := am_bd h
  refine am_Go.cl htb rfl (ex_J9_min_7cf53 d (by omega) a1 0 m r1 h2) ?_
  show am_Go d 154 (6, [some (.inr (.inr (some (9, 0)))), some (.inl a1)], [.inl r1, .inr (.inr (some (9, 0)))], am_mk m) _ _ _ _
  refine am_Go.n htb 2 (S' := (10, [some (.inr (.inr (some (9, 0)))), some (.inl a1)], [.inl a1], am_mk (am_si m 9 0 17 r1))) rfl ?_
  by_cases hc3 : 0 ≤ a1
  · rw [if_pos hc3] at h
    refine am_Go.c1 htb (S' := (30, [some (.inr (.inr (some (9, 0)))), some (.inl a1)], [], am_mk (am_si m 9 0 17 r1))) (if_pos hc3) ?_
    refine am_Go.n htb 1 (S' := (31, [some (.inr (.inr (some (9, 0)))), some (.inl a1)], [.inl a1], am_mk (am_si m 9 0 17 r1))) rfl ?_
    cases h
    exact am_Go.rt htb rfl
  · rw [if_neg hc3] at h
    refine am_Go.c1 htb (S' := (13, [some (.inr (.inr (some (9, 0)))), some (.inl a1)], [], am_mk (am_si m 9 0 17 r1))) (if_neg hc3) ?_
    refine am_Go.n htb 2 (S' := (16, [some (.inr (.inr (some (9, 0)))), some (.inl a1)], [.inl (-7), .inl a1], am_mk (am_si m 9 0 17 r1))) rfl ?_
    by_cases hc4 : a1 ≤ (-7 : Int32)
    · rw [if_pos hc4] at h
      refine am_Go.c1 htb (S' := (30, [some (.inr (.inr (some (9, 0)))), some (.inl a1)], [], am_mk (am_si m 9 0 17 r1))) (if_pos hc4) ?_
      refine am_Go.n htb 1 (S' := (31, [some (.inr (.inr (some (9, 0)))), some (.inl a1)], [.inl a1], am_mk (am_si m 9 0 17 r1))) rfl ?_
      cases h
      exact am_Go.rt htb rfl
    · rw [if_neg hc4] at h
      refine am_Go.c1 htb (S' := (19, [some (.inr (.inr (some (9, 0)))), some (.inl a1)], [], am_mk (am_si m 9 0 17 r1))) (if_neg hc4) ?_
      refine am_Go.n htb 5 (S' := (26, [some (.inr (.inr (some (9, 0)))), some (.inl a1)], [.inl (-a1), .inr (.inr (some (42, 0))), .inl (-a1), .inr (.inr (some (42, 0)))], am_mk (am_si m 9 0 17 r1))) rfl ?_
      obtain ⟨hg5, h⟩ := am_ck_some h
      refine am_Go.c1 htb (S' := (27, [some (.inr (.inr (some (9, 0)))), some (.inl a1)], [.inl (m.1 42 0 (-a1).toNatClampNeg), .inl (-a1), .inr (.inr (some (42, 0)))], am_mk (am_si m 9 0 17 r1))) (if_neg hg5) ?_
      refine am_Go.n htb 2 (S' := (29, [some (.inr (.inr (some (9, 0)))), some (.inl a1)], [.inl ((m.1 42 0 (-a1).toNatClampNeg) + (1 : Int32)), .inl (-a1), .inr (.inr (some (42, 0)))], am_mk (am_si m 9 0 17 r1))) rfl ?_
      obtain ⟨hg6, h⟩ := am_ck_some h
      refine am_Go.c1 htb (S' := (30, [some (.inr (.inr (some (9, 0)))), some (.inl a1)], [], am_mk (am_si (am_si m 9 0 17 r1) 42 0 (-a1).toNatClampNeg ((m.1 42 0 (-a1).toNatClampNeg) + (1 : Int32))))) (if_neg hg6) ?_
      refine am_Go.n htb 1 (S' := (31, [some (.inr (.inr (some (9, 0)))), some (.inl a1)], [.inl a1], am_mk (am_si (am_si m 9 0 17 r1) 42 0 (-a1).toNatClampNeg ((m.1 42 0 (-a1).toNatClampNeg) + (1 : Int32))))) rfl ?_
      cases h
      exact am_Go.rt htb rfl
-- X9_folk
set_option maxRecDepth 100000 in
theorem ex_X9_folk (d : Nat) (hd : 3 ≤ d) (a1 : Int32) (m : am_m) (t : Int32 × am_m) (h : fn_X9_folk a1 m = some t) : am_Ex am_cod d 113 [.inr (.inr (some (9, 0))), .inl a1] (am_mk m) (some (.inl t.1)) (am_mk t.2) 0 0 := by
  obtain ⟨d, rfl⟩ : ∃ e, d = e + 1 := ⟨d - 1, by omega⟩
  have htb : am_tab 113 = at_113 := rfl
  refine ⟨Nat.le_of_ble_eq_true rfl, ?_⟩
  unfold fn_X9_folk at h
  show am_Go d 113 (0, [some (.inr (.inr (some (9, 0)))), some (.inl a1), none], [], am_mk m) _ _ 0 0
  refine am_Go.n htb 1 (S' := (1, [some (.inr (.inr (some (9, 0)))), some (.inl a1), none], [.inl a1], am_mk m)) rfl ?_
  by_cases hc1 : a1 < 0
  · rw [if_pos hc1] at h
    refine am_Go.c1 htb (S' := (10, [some (.inr (.inr (some (9, 0)))), some (.inl a1), none], [], am_mk m)) (if_pos hc1) ?_
    refine am_Go.n htb 2 (S' := (12, [some (.inr (.inr (some (9, 0)))), some (.inl a1), none], [.inl (-1), .inr (.inr (some (9, 0)))], am_mk m)) rfl ?_
    obtain ⟨r2, h3, h⟩ := am_bd h
    refine am_Go.cl htb rfl (ex_X9_told d (by omega) (-1) m r2 h3) ?_
    show am_Go d 113 (15, [some (.inr (.inr (some (9, 0)))), some (.inl a1), none], [.inl r2.1], am_mk r2.2) _ _ _ _
    cases h
    exact am_Go.rt htb rfl
  · rw [if_neg hc1] at h
    refine am_Go.c1 htb (S' := (4, [some (.inr (.inr (some (9, 0)))), some (.inl a1), none], [], am_mk m)) (if_neg hc1) ?_
    refine am_Go.n htb 2 (S' := (7, [some (.inr (.inr (some (9, 0)))), some (.inl a1), none], [.inl 9, .inl a1], am_mk m)) rfl ?_
    by_cases hc4 : a1 ≤ (9 : Int32)
    · rw [if_pos hc4] at h
      refine am_Go.c1 htb (S' := (16, [some (.inr (.inr (some (9, 0)))), some (.inl a1), none], [], am_mk m)) (if_pos hc4) ?_
      refine am_Go.n htb 4 (S' := (25, [some (.inr (.inr (some (9, 0)))), some (.inl a1), none], [.inl 7, .inl (m.1 8 0 0)], am_mk m)) rfl ?_
      by_cases hc5 : (m.1 8 0 0) < (7 : Int32)
      · rw [if_pos hc5] at h
        refine am_Go.c1 htb (S' := (35, [some (.inr (.inr (some (9, 0)))), some (.inl a1), none], [], am_mk m)) (if_pos hc5) ?_
        refine am_Go.n htb 9 (S' := (52, [some (.inr (.inr (some (9, 0)))), some (.inl a1), some (.inl (m.1 8 0 0))], [.inl a1, .inl (m.1 8 0 0), .inr (.inr (some (36, 0)))], am_mk m)) rfl ?_
        obtain ⟨hg6, h⟩ := am_ck_some h
        refine am_Go.c1 htb (S' := (53, [some (.inr (.inr (some (9, 0)))), some (.inl a1), some (.inl (m.1 8 0 0))], [], am_mk (am_si m 36 0 (m.1 8 0 0).toNatClampNeg a1))) (if_neg hg6) ?_
        refine am_Go.n htb 8 (S' := (67, [some (.inr (.inr (some (9, 0)))), some (.inl a1), some (.inl (m.1 8 0 0))], [.inr (.inr (some (3, 0)))], am_mk (am_si (am_si m 36 0 (m.1 8 0 0).toNatClampNeg a1) 8 0 0 ((m.1 8 0 0) + (1 : Int32))))) rfl ?_
        obtain ⟨r7, h8, h⟩ := am_bd h
        refine am_Go.cl htb rfl (ex_X3_clear d (by omega) 0 (am_si (am_si m 36 0 (m.1 8 0 0).toNatClampNeg a1) 8 0 0 ((m.1 8 0 0) + (1 : Int32))) r7 h8) ?_
        show am_Go d 113 (70, [some (.inr (.inr (some (9, 0)))), some (.inl a1), some (.inl (m.1 8 0 0))], [], am_mk r7) _ _ _ _
        refine am_Go.n htb 2 (S' := (72, [some (.inr (.inr (some (9, 0)))), some (.inl a1), some (.inl (m.1 8 0 0))], [.inl (m.1 8 0 0), .inr (.inr (some (9, 0)))], am_mk r7)) rfl ?_
        obtain ⟨r9, h10, h⟩ := am_bd h
        refine am_Go.cl htb rfl (ex_X9_told d (by omega) (m.1 8 0 0) r7 r9 h10) ?_
        show am_Go d 113 (75, [some (.inr (.inr (some (9, 0)))), some (.inl a1), some (.inl (m.1 8 0 0))], [.inl r9.1], am_mk r9.2) _ _ _ _
        cases h
        exact am_Go.rt htb rfl
      · rw [if_neg hc5] at h
        refine am_Go.c1 htb (S' := (28, [some (.inr (.inr (some (9, 0)))), some (.inl a1), none], [], am_mk m)) (if_neg hc5) ?_
        refine am_Go.n htb 2 (S' := (31, [some (.inr (.inr (some (9, 0)))), some (.inl a1), none], [.inl (-5), .inr (.inr (some (9, 0)))], am_mk m)) rfl ?_
        obtain ⟨r11, h12, h⟩ := am_bd h
        refine am_Go.cl htb rfl (ex_X9_told d (by omega) (-5) m r11 h12) ?_
        show am_Go d 113 (34, [some (.inr (.inr (some (9, 0)))), some (.inl a1), none], [.inl r11.1], am_mk r11.2) _ _ _ _
        cases h
        exact am_Go.rt htb rfl
    · rw [if_neg hc4] at h
      refine am_Go.c1 htb (S' := (10, [some (.inr (.inr (some (9, 0)))), some (.inl a1), none], [], am_mk m)) (if_neg hc4) ?_
      refine am_Go.n htb 2 (S' := (12, [some (.inr (.inr (some (9, 0)))), some (.inl a1), none], [.inl (-1), .inr (.inr (some (9, 0)))], am_mk m)) rfl ?_
      obtain ⟨r13, h14, h⟩ := am_bd h
      refine am_Go.cl htb rfl (ex_X9_told d (by omega) (-1) m r13 h14) ?_
      show am_Go d 113 (15, [some (.inr (.inr (some (9, 0)))), some (.inl a1), none], [.inl r13.1], am_mk r13.2) _ _ _ _
      cases h
      exact am_Go.rt htb rfl
-- X9_askLive
set_option maxRecDepth 100000 in
theorem ex_X9_askLive (d : Nat) (hd : 2 ≤ d)  (m : am_m) (t : am_m) (h : fn_X9_askLive  m = some t) : am_Ex am_cod d 155 [.inr (.inr (some (9, 0)))] (am_mk m) (none) (am_mk t) 0 0 := by
  obtain ⟨d, rfl⟩ : ∃ e, d = e + 1 := ⟨d - 1, by omega⟩
  have htb : am_tab 155 = at_155 := rfl
  refine ⟨Nat.le_of_ble_eq_true rfl, ?_⟩
  unfold fn_X9_askLive at h
  show am_Go d 155 (0, [some (.inr (.inr (some (9, 0))))], [], am_mk m) _ _ 0 0
  refine am_Go.n htb 9 (S' := (19, [some (.inr (.inr (some (9, 0))))], [.inl (m.1 8 0 3), .inr (.inr (some (8, 0))), .inr (.inr (some (8, 0))), .inr (.inr (some (1, 0)))], am_mk m)) rfl ?_
  obtain ⟨r1, h2, h⟩ := am_bd h
  refine am_Go.cl htb rfl (ex_X8_lawOf d (by omega) 0 (m.1 8 0 3) m r1 h2) ?_
  show am_Go d 155 (22, [some (.inr (.inr (some (9, 0))))], [.inr (.inr (Option.map (fun j => (5, j)) r1)), .inr (.inr (some (8, 0))), .inr (.inr (some (1, 0)))], am_mk m) _ _ _ _
  obtain ⟨r3, h4, h⟩ := am_bd h
  refine am_Go.cl htb rfl (ex_X1_look d (by omega) 0 r1 m r3 h4) ?_
  show am_Go d 155 (25, [some (.inr (.inr (some (9, 0))))], [], am_mk r3) _ _ _ _
  cases h
  exact am_Go.rt htb rfl
-- X9_of
set_option maxRecDepth 100000 in
theorem ex_X9_of (d : Nat) (hd : 6 ≤ d) (a1 : Int32) (a2 : Int32) (m : am_m) (t : Int32 × am_m) (h : fn_X9_of a1 a2 m = some t) : am_Ex am_cod d 114 [.inr (.inr (some (9, 0))), .inl a1, .inl a2] (am_mk m) (some (.inl t.1)) (am_mk t.2) 0 0 := by
  obtain ⟨d, rfl⟩ : ∃ e, d = e + 1 := ⟨d - 1, by omega⟩
  have htb : am_tab 114 = at_114 := rfl
  refine ⟨Nat.le_of_ble_eq_true rfl, ?_⟩
  unfold fn_X9_of at h
  show am_Go d 114 (0, [some (.inr (.inr (some (9, 0)))), some (.inl a1), some (.inl a2)], [], am_mk m) _ _ 0 0
  refine am_Go.n htb 3 (S' := (5, [some (.inr (.inr (some (9, 0)))), some (.inl a1), some (.inl a2)], [.inl a1, .inr (.inr (some (8, 0)))], am_mk m)) rfl ?_
  obtain ⟨r1, h2, h⟩ := am_bd h
  refine am_Go.cl htb rfl (ex_X8_has d (by omega) 0 a1 m r1 h2) ?_
  show am_Go d 114 (8, [some (.inr (.inr (some (9, 0)))), some (.inl a1), some (.inl a2)], [.inl r1], am_mk m) _ _ _ _
  by_cases hc3 : r1 ≠ 0
  · rw [if_pos hc3] at h
    refine am_Go.c1 htb (S' := (13, [some (.inr (.inr (some (9, 0)))), some (.inl a1), some (.inl a2)], [], am_mk m)) (if_pos hc3) ?_
    refine am_Go.n htb 1 (S' := (14, [some (.inr (.inr (some (9, 0)))), some (.inl a1), some (.inl a2)], [.inr (.inr (some (9, 0)))], am_mk m)) rfl ?_
    obtain ⟨r4, h5, h⟩ := am_bd h
    refine am_Go.cl htb rfl (ex_X9_askLive d (by omega)  m r4 h5) ?_
    show am_Go d 114 (17, [some (.inr (.inr (some (9, 0)))), some (.inl a1), some (.inl a2)], [], am_mk r4) _ _ _ _
    refine am_Go.n htb 1 (S' := (18, [some (.inr (.inr (some (9, 0)))), some (.inl a1), some (.inl a2)], [.inl a2], am_mk r4)) rfl ?_
    by_cases hs6 : a2 = 0
    · rw [if_pos hs6] at h
      refine am_Go.o htb (am_o_sw [(0, 52), (1, 61), (2, 70), (3, 96), (4, 105)] 114) rfl (S' := (52, [some (.inr (.inr (some (9, 0)))), some (.inl a1), some (.inl a2)], [], am_mk r4)) (am_sw_eq (by simp only [am_sw, if_pos hs6])) ?_
      refine am_Go.n htb 3 (S' := (57, [some (.inr (.inr (some (9, 0)))), some (.inl a1), some (.inl a2)], [.inl a1, .inr (.inr (some (8, 0)))], am_mk r4)) rfl ?_
      obtain ⟨r7, h8, h⟩ := am_bd h
      refine am_Go.cl htb rfl (ex_X8_fedOf d (by omega) 0 a1 r4 r7 h8) ?_
      show am_Go d 114 (60, [some (.inr (.inr (some (9, 0)))), some (.inl a1), some (.inl a2)], [.inl r7], am_mk r4) _ _ _ _
      cases h
      exact am_Go.rt htb rfl
    · rw [if_neg hs6] at h
      by_cases hs9 : a2 = 1
      · rw [if_pos hs9] at h
        refine am_Go.o htb (am_o_sw [(0, 52), (1, 61), (2, 70), (3, 96), (4, 105)] 114) rfl (S' := (61, [some (.inr (.inr (some (9, 0)))), some (.inl a1), some (.inl a2)], [], am_mk r4)) (am_sw_eq (by simp only [am_sw, if_neg hs6, if_pos hs9])) ?_
        refine am_Go.n htb 3 (S' := (66, [some (.inr (.inr (some (9, 0)))), some (.inl a1), some (.inl a2)], [.inl a1, .inr (.inr (some (1, 0)))], am_mk r4)) rfl ?_
        obtain ⟨r10, h11, h⟩ := am_bd h
        refine am_Go.cl htb rfl (ex_X1_companions d (by omega) a1 r4 r10 h11) ?_
        show am_Go d 114 (69, [some (.inr (.inr (some (9, 0)))), some (.inl a1), some (.inl a2)], [.inl r10.1], am_mk r10.2) _ _ _ _
        cases h
        exact am_Go.rt htb rfl
      · rw [if_neg hs9] at h
        by_cases hs12 : a2 = 2
        · rw [if_pos hs12] at h
          refine am_Go.o htb (am_o_sw [(0, 52), (1, 61), (2, 70), (3, 96), (4, 105)] 114) rfl (S' := (70, [some (.inr (.inr (some (9, 0)))), some (.inl a1), some (.inl a2)], [], am_mk r4)) (am_sw_eq (by simp only [am_sw, if_neg hs6, if_neg hs9, if_pos hs12])) ?_
          refine am_Go.n htb 6 (S' := (80, [some (.inr (.inr (some (9, 0)))), some (.inl a1), some (.inl a2)], [.inl a1, .inr (.inr (some (8, 0))), .inl a1, .inr (.inr (some (1, 0)))], am_mk r4)) rfl ?_
          obtain ⟨r13, h14, h⟩ := am_bd h
          refine am_Go.cl htb rfl (ex_X8_fedOf d (by omega) 0 a1 r4 r13 h14) ?_
          show am_Go d 114 (83, [some (.inr (.inr (some (9, 0)))), some (.inl a1), some (.inl a2)], [.inl r13, .inl a1, .inr (.inr (some (1, 0)))], am_mk r4) _ _ _ _
          refine am_Go.n htb 5 (S' := (92, [some (.inr (.inr (some (9, 0)))), some (.inl a1), some (.inl a2)], [.inl (r4.1 39 0 0), .inl r13, .inl a1, .inr (.inr (some (1, 0)))], am_mk r4)) rfl ?_
          obtain ⟨r15, h16, h⟩ := am_bd h
          refine am_Go.cl htb rfl (ex_X1_hungerOf d (by omega) a1 r13 (r4.1 39 0 0) r4 r15 h16) ?_
          show am_Go d 114 (95, [some (.inr (.inr (some (9, 0)))), some (.inl a1), some (.inl a2)], [.inl r15.1], am_mk r15.2) _ _ _ _
          cases h
          exact am_Go.rt htb rfl
        · rw [if_neg hs12] at h
          by_cases hs17 : a2 = 3
          · rw [if_pos hs17] at h
            refine am_Go.o htb (am_o_sw [(0, 52), (1, 61), (2, 70), (3, 96), (4, 105)] 114) rfl (S' := (96, [some (.inr (.inr (some (9, 0)))), some (.inl a1), some (.inl a2)], [], am_mk r4)) (am_sw_eq (by simp only [am_sw, if_neg hs6, if_neg hs9, if_neg hs12, if_pos hs17])) ?_
            refine am_Go.n htb 3 (S' := (101, [some (.inr (.inr (some (9, 0)))), some (.inl a1), some (.inl a2)], [.inl a1, .inr (.inr (some (8, 0)))], am_mk r4)) rfl ?_
            obtain ⟨r18, h19, h⟩ := am_bd h
            refine am_Go.cl htb rfl (ex_X8_harmsBy d (by omega) 0 a1 r4 r18 h19) ?_
            show am_Go d 114 (104, [some (.inr (.inr (some (9, 0)))), some (.inl a1), some (.inl a2)], [.inl r18], am_mk r4) _ _ _ _
            cases h
            exact am_Go.rt htb rfl
          · rw [if_neg hs17] at h
            by_cases hs20 : a2 = 4
            · rw [if_pos hs20] at h
              refine am_Go.o htb (am_o_sw [(0, 52), (1, 61), (2, 70), (3, 96), (4, 105)] 114) rfl (S' := (105, [some (.inr (.inr (some (9, 0)))), some (.inl a1), some (.inl a2)], [], am_mk r4)) (am_sw_eq (by simp only [am_sw, if_neg hs6, if_neg hs9, if_neg hs12, if_neg hs17, if_pos hs20])) ?_
              refine am_Go.n htb 3 (S' := (110, [some (.inr (.inr (some (9, 0)))), some (.inl a1), some (.inl a2)], [.inl a1, .inr (.inr (some (8, 0)))], am_mk r4)) rfl ?_
              obtain ⟨r21, h22, h⟩ := am_bd h
              refine am_Go.cl htb rfl (ex_X8_harmsTo d (by omega) 0 a1 r4 r21 h22) ?_
              show am_Go d 114 (113, [some (.inr (.inr (some (9, 0)))), some (.inl a1), some (.inl a2)], [.inl r21], am_mk r4) _ _ _ _
              cases h
              exact am_Go.rt htb rfl
            · rw [if_neg hs20] at h
              refine am_Go.o htb (am_o_sw [(0, 52), (1, 61), (2, 70), (3, 96), (4, 105)] 114) rfl (S' := (114, [some (.inr (.inr (some (9, 0)))), some (.inl a1), some (.inl a2)], [], am_mk r4)) (am_sw_eq (by simp only [am_sw, if_neg hs6, if_neg hs9, if_neg hs12, if_neg hs17, if_neg hs20, if_false])) ?_
              refine am_Go.n htb 1 (S' := (115, [some (.inr (.inr (some (9, 0)))), some (.inl a1), some (.inl a2)], [.inl (-1)], am_mk r4)) rfl ?_
              cases h
              exact am_Go.rt htb rfl
  · rw [if_neg hc3] at h
    refine am_Go.c1 htb (S' := (11, [some (.inr (.inr (some (9, 0)))), some (.inl a1), some (.inl a2)], [], am_mk m)) (if_neg hc3) ?_
    refine am_Go.n htb 1 (S' := (12, [some (.inr (.inr (some (9, 0)))), some (.inl a1), some (.inl a2)], [.inl (-1)], am_mk m)) rfl ?_
    cases h
    exact am_Go.rt htb rfl
-- X9_asks
set_option maxRecDepth 100000 in
theorem ex_X9_asks (d : Nat) (hd : 5 ≤ d) (a1 : Int32) (a2 : Int32) (a3 : Int32) (m : am_m) (t : Int32 × am_m) (h : fn_X9_asks a1 a2 a3 m = some t) : am_Ex am_cod d 115 [.inr (.inr (some (9, 0))), .inl a1, .inl a2, .inl a3] (am_mk m) (some (.inl t.1)) (am_mk t.2) 0 0 := by
  obtain ⟨d, rfl⟩ : ∃ e, d = e + 1 := ⟨d - 1, by omega⟩
  have htb : am_tab 115 = at_115 := rfl
  refine ⟨Nat.le_of_ble_eq_true rfl, ?_⟩
  unfold fn_X9_asks at h
  show am_Go d 115 (0, [some (.inr (.inr (some (9, 0)))), some (.inl a1), some (.inl a2), some (.inl a3)], [], am_mk m) _ _ 0 0
  refine am_Go.n htb 4 (S' := (6, [some (.inr (.inr (some (9, 0)))), some (.inl a1), some (.inl a2), some (.inl a3)], [.inl a2, .inl a1, .inr (.inr (some (8, 0)))], am_mk m)) rfl ?_
  obtain ⟨r1, h2, h⟩ := am_bd h
  refine am_Go.cl htb rfl (ex_X8_hasTwo d (by omega) 0 a1 a2 m r1 h2) ?_
  show am_Go d 115 (9, [some (.inr (.inr (some (9, 0)))), some (.inl a1), some (.inl a2), some (.inl a3)], [.inl r1], am_mk m) _ _ _ _
  by_cases hc3 : r1 ≠ 0
  · rw [if_pos hc3] at h
    refine am_Go.c1 htb (S' := (14, [some (.inr (.inr (some (9, 0)))), some (.inl a1), some (.inl a2), some (.inl a3)], [], am_mk m)) (if_pos hc3) ?_
    refine am_Go.n htb 1 (S' := (15, [some (.inr (.inr (some (9, 0)))), some (.inl a1), some (.inl a2), some (.inl a3)], [.inr (.inr (some (9, 0)))], am_mk m)) rfl ?_
    obtain ⟨r4, h5, h⟩ := am_bd h
    refine am_Go.cl htb rfl (ex_X9_askLive d (by omega)  m r4 h5) ?_
    show am_Go d 115 (18, [some (.inr (.inr (some (9, 0)))), some (.inl a1), some (.inl a2), some (.inl a3)], [], am_mk r4) _ _ _ _
    refine am_Go.n htb 1 (S' := (19, [some (.inr (.inr (some (9, 0)))), some (.inl a1), some (.inl a2), some (.inl a3)], [.inl a3], am_mk r4)) rfl ?_
    by_cases hs6 : a3 = 0
    · rw [if_pos hs6] at h
      refine am_Go.o htb (am_o_sw [(0, 52), (1, 62), (2, 88), (3, 98), (4, 116)] 134) rfl (S' := (52, [some (.inr (.inr (some (9, 0)))), some (.inl a1), some (.inl a2), some (.inl a3)], [], am_mk r4)) (am_sw_eq (by simp only [am_sw, if_pos hs6])) ?_
      refine am_Go.n htb 4 (S' := (58, [some (.inr (.inr (some (9, 0)))), some (.inl a1), some (.inl a2), some (.inl a3)], [.inl a2, .inl a1, .inr (.inr (some (8, 0)))], am_mk r4)) rfl ?_
      obtain ⟨r7, h8, h⟩ := am_bd h
      refine am_Go.cl htb rfl (ex_X8_weightOf d (by omega) 0 a1 a2 r4 r7 h8) ?_
      show am_Go d 115 (61, [some (.inr (.inr (some (9, 0)))), some (.inl a1), some (.inl a2), some (.inl a3)], [.inl r7], am_mk r4) _ _ _ _
      cases h
      exact am_Go.rt htb rfl
    · rw [if_neg hs6] at h
      by_cases hs9 : a3 = 1
      · rw [if_pos hs9] at h
        refine am_Go.o htb (am_o_sw [(0, 52), (1, 62), (2, 88), (3, 98), (4, 116)] 134) rfl (S' := (62, [some (.inr (.inr (some (9, 0)))), some (.inl a1), some (.inl a2), some (.inl a3)], [], am_mk r4)) (am_sw_eq (by simp only [am_sw, if_neg hs6, if_pos hs9])) ?_
        refine am_Go.n htb 4 (S' := (68, [some (.inr (.inr (some (9, 0)))), some (.inl a1), some (.inl a2), some (.inl a3)], [.inl a2, .inl a1, .inr (.inr (some (8, 0)))], am_mk r4)) rfl ?_
        obtain ⟨r10, h11, h⟩ := am_bd h
        refine am_Go.cl htb rfl (ex_X8_weightOf d (by omega) 0 a1 a2 r4 r10 h11) ?_
        show am_Go d 115 (71, [some (.inr (.inr (some (9, 0)))), some (.inl a1), some (.inl a2), some (.inl a3)], [.inl r10], am_mk r4) _ _ _ _
        by_cases hc12 : r10 ≤ 0
        · rw [if_pos hc12] at h
          refine am_Go.c1 htb (S' := (86, [some (.inr (.inr (some (9, 0)))), some (.inl a1), some (.inl a2), some (.inl a3)], [], am_mk r4)) (if_pos hc12) ?_
          refine am_Go.n htb 1 (S' := (87, [some (.inr (.inr (some (9, 0)))), some (.inl a1), some (.inl a2), some (.inl a3)], [.inl (-1)], am_mk r4)) rfl ?_
          cases h
          exact am_Go.rt htb rfl
        · rw [if_neg hc12] at h
          refine am_Go.c1 htb (S' := (74, [some (.inr (.inr (some (9, 0)))), some (.inl a1), some (.inl a2), some (.inl a3)], [], am_mk r4)) (if_neg hc12) ?_
          refine am_Go.n htb 4 (S' := (80, [some (.inr (.inr (some (9, 0)))), some (.inl a1), some (.inl a2), some (.inl a3)], [.inl a2, .inl a1, .inr (.inr (some (8, 0)))], am_mk r4)) rfl ?_
          obtain ⟨r13, h14, h⟩ := am_bd h
          refine am_Go.cl htb rfl (ex_X8_sinceOf d (by omega) 0 a1 a2 r4 r13 h14) ?_
          show am_Go d 115 (83, [some (.inr (.inr (some (9, 0)))), some (.inl a1), some (.inl a2), some (.inl a3)], [.inl r13], am_mk r4) _ _ _ _
          refine am_Go.n htb 1 (S' := (87, [some (.inr (.inr (some (9, 0)))), some (.inl a1), some (.inl a2), some (.inl a3)], [.inl r13], am_mk r4)) rfl ?_
          cases h
          exact am_Go.rt htb rfl
      · rw [if_neg hs9] at h
        by_cases hs15 : a3 = 2
        · rw [if_pos hs15] at h
          refine am_Go.o htb (am_o_sw [(0, 52), (1, 62), (2, 88), (3, 98), (4, 116)] 134) rfl (S' := (88, [some (.inr (.inr (some (9, 0)))), some (.inl a1), some (.inl a2), some (.inl a3)], [], am_mk r4)) (am_sw_eq (by simp only [am_sw, if_neg hs6, if_neg hs9, if_pos hs15])) ?_
          refine am_Go.n htb 4 (S' := (94, [some (.inr (.inr (some (9, 0)))), some (.inl a1), some (.inl a2), some (.inl a3)], [.inl a2, .inl a1, .inr (.inr (some (1, 0)))], am_mk r4)) rfl ?_
          obtain ⟨r16, h17, h⟩ := am_bd h
          refine am_Go.cl htb rfl (ex_X1_countsOf d (by omega) a1 a2 r4 r16 h17) ?_
          show am_Go d 115 (97, [some (.inr (.inr (some (9, 0)))), some (.inl a1), some (.inl a2), some (.inl a3)], [.inl r16.1], am_mk r16.2) _ _ _ _
          cases h
          exact am_Go.rt htb rfl
        · rw [if_neg hs15] at h
          by_cases hs18 : a3 = 3
          · rw [if_pos hs18] at h
            refine am_Go.o htb (am_o_sw [(0, 52), (1, 62), (2, 88), (3, 98), (4, 116)] 134) rfl (S' := (98, [some (.inr (.inr (some (9, 0)))), some (.inl a1), some (.inl a2), some (.inl a3)], [], am_mk r4)) (am_sw_eq (by simp only [am_sw, if_neg hs6, if_neg hs9, if_neg hs15, if_pos hs18])) ?_
            refine am_Go.n htb 4 (S' := (104, [some (.inr (.inr (some (9, 0)))), some (.inl a1), some (.inl a2), some (.inl a3)], [.inl a2, .inl a1, .inr (.inr (some (1, 0)))], am_mk r4)) rfl ?_
            obtain ⟨r19, h20, h⟩ := am_bd h
            refine am_Go.cl htb rfl (ex_X1_isBarred d (by omega) a1 a2 r4 r19 h20) ?_
            show am_Go d 115 (107, [some (.inr (.inr (some (9, 0)))), some (.inl a1), some (.inl a2), some (.inl a3)], [.inl r19.1], am_mk r19.2) _ _ _ _
            by_cases hc21 : r19.1 = 0
            · rw [if_pos hc21] at h
              refine am_Go.c1 htb (S' := (114, [some (.inr (.inr (some (9, 0)))), some (.inl a1), some (.inl a2), some (.inl a3)], [], am_mk r19.2)) (if_pos hc21) ?_
              refine am_Go.n htb 1 (S' := (115, [some (.inr (.inr (some (9, 0)))), some (.inl a1), some (.inl a2), some (.inl a3)], [.inl 0], am_mk r19.2)) rfl ?_
              cases h
              exact am_Go.rt htb rfl
            · rw [if_neg hc21] at h
              refine am_Go.c1 htb (S' := (110, [some (.inr (.inr (some (9, 0)))), some (.inl a1), some (.inl a2), some (.inl a3)], [], am_mk r19.2)) (if_neg hc21) ?_
              refine am_Go.n htb 2 (S' := (115, [some (.inr (.inr (some (9, 0)))), some (.inl a1), some (.inl a2), some (.inl a3)], [.inl 1], am_mk r19.2)) rfl ?_
              cases h
              exact am_Go.rt htb rfl
          · rw [if_neg hs18] at h
            by_cases hs22 : a3 = 4
            · rw [if_pos hs22] at h
              refine am_Go.o htb (am_o_sw [(0, 52), (1, 62), (2, 88), (3, 98), (4, 116)] 134) rfl (S' := (116, [some (.inr (.inr (some (9, 0)))), some (.inl a1), some (.inl a2), some (.inl a3)], [], am_mk r4)) (am_sw_eq (by simp only [am_sw, if_neg hs6, if_neg hs9, if_neg hs15, if_neg hs18, if_pos hs22])) ?_
              refine am_Go.n htb 4 (S' := (122, [some (.inr (.inr (some (9, 0)))), some (.inl a1), some (.inl a2), some (.inl a3)], [.inl a2, .inl a1, .inr (.inr (some (1, 0)))], am_mk r4)) rfl ?_
              obtain ⟨r23, h24, h⟩ := am_bd h
              refine am_Go.cl htb rfl (ex_X1_maySit d (by omega) a1 a2 r4 r23 h24) ?_
              show am_Go d 115 (125, [some (.inr (.inr (some (9, 0)))), some (.inl a1), some (.inl a2), some (.inl a3)], [.inl r23.1], am_mk r23.2) _ _ _ _
              by_cases hc25 : r23.1 = 0
              · rw [if_pos hc25] at h
                refine am_Go.c1 htb (S' := (132, [some (.inr (.inr (some (9, 0)))), some (.inl a1), some (.inl a2), some (.inl a3)], [], am_mk r23.2)) (if_pos hc25) ?_
                refine am_Go.n htb 1 (S' := (133, [some (.inr (.inr (some (9, 0)))), some (.inl a1), some (.inl a2), some (.inl a3)], [.inl 0], am_mk r23.2)) rfl ?_
                cases h
                exact am_Go.rt htb rfl
              · rw [if_neg hc25] at h
                refine am_Go.c1 htb (S' := (128, [some (.inr (.inr (some (9, 0)))), some (.inl a1), some (.inl a2), some (.inl a3)], [], am_mk r23.2)) (if_neg hc25) ?_
                refine am_Go.n htb 2 (S' := (133, [some (.inr (.inr (some (9, 0)))), some (.inl a1), some (.inl a2), some (.inl a3)], [.inl 1], am_mk r23.2)) rfl ?_
                cases h
                exact am_Go.rt htb rfl
            · rw [if_neg hs22] at h
              refine am_Go.o htb (am_o_sw [(0, 52), (1, 62), (2, 88), (3, 98), (4, 116)] 134) rfl (S' := (134, [some (.inr (.inr (some (9, 0)))), some (.inl a1), some (.inl a2), some (.inl a3)], [], am_mk r4)) (am_sw_eq (by simp only [am_sw, if_neg hs6, if_neg hs9, if_neg hs15, if_neg hs18, if_neg hs22, if_false])) ?_
              refine am_Go.n htb 1 (S' := (135, [some (.inr (.inr (some (9, 0)))), some (.inl a1), some (.inl a2), some (.inl a3)], [.inl (-1)], am_mk r4)) rfl ?_
              cases h
              exact am_Go.rt htb rfl
  · rw [if_neg hc3] at h
    refine am_Go.c1 htb (S' := (12, [some (.inr (.inr (some (9, 0)))), some (.inl a1), some (.inl a2), some (.inl a3)], [], am_mk m)) (if_neg hc3) ?_
    refine am_Go.n htb 1 (S' := (13, [some (.inr (.inr (some (9, 0)))), some (.inl a1), some (.inl a2), some (.inl a3)], [.inl (-1)], am_mk m)) rfl ?_
    cases h
    exact am_Go.rt htb rfl
-- X9_mostOfTerm
set_option maxRecDepth 100000 in
theorem ex_X9_mostOfTerm (d : Nat) (hd : 1 ≤ d) (a1 : Int32) (m : am_m) (t : Int32) (h : fn_X9_mostOfTerm a1 m = some t) : am_Ex am_cod d 157 [.inl a1] (am_mk m) (some (.inl t)) (am_mk m) 0 0 := by
  obtain ⟨d, rfl⟩ : ∃ e, d = e + 1 := ⟨d - 1, by omega⟩
  have htb : am_tab 157 = at_157 := rfl
  refine ⟨Nat.le_of_ble_eq_true rfl, ?_⟩
  unfold fn_X9_mostOfTerm at h
  show am_Go d 157 (0, [some (.inl a1)], [], am_mk m) _ _ 0 0
  refine am_Go.n htb 1 (S' := (1, [some (.inl a1)], [.inl a1], am_mk m)) rfl ?_
  by_cases hs1 : a1 = 0
  · rw [if_pos hs1] at h
    refine am_Go.o htb (am_o_sw [(0, 28), (1, 32)] 35) rfl (S' := (28, [some (.inl a1)], [], am_mk m)) (am_sw_eq (by simp only [am_sw, if_pos hs1])) ?_
    refine am_Go.n htb 1 (S' := (31, [some (.inl a1)], [.inl 999], am_mk m)) rfl ?_
    cases h
    exact am_Go.rt htb rfl
  · rw [if_neg hs1] at h
    by_cases hs2 : a1 = 1
    · rw [if_pos hs2] at h
      refine am_Go.o htb (am_o_sw [(0, 28), (1, 32)] 35) rfl (S' := (32, [some (.inl a1)], [], am_mk m)) (am_sw_eq (by simp only [am_sw, if_neg hs1, if_pos hs2])) ?_
      refine am_Go.n htb 1 (S' := (34, [some (.inl a1)], [.inl 10], am_mk m)) rfl ?_
      cases h
      exact am_Go.rt htb rfl
    · rw [if_neg hs2] at h
      refine am_Go.o htb (am_o_sw [(0, 28), (1, 32)] 35) rfl (S' := (35, [some (.inl a1)], [], am_mk m)) (am_sw_eq (by simp only [am_sw, if_neg hs1, if_neg hs2, if_false])) ?_
      refine am_Go.n htb 1 (S' := (37, [some (.inl a1)], [.inl 9], am_mk m)) rfl ?_
      cases h
      exact am_Go.rt htb rfl
-- X9_terms
set_option maxRecDepth 100000 in
theorem ex_X9_terms (d : Nat) (hd : 3 ≤ d) (a1 : Int32) (a2 : Int32) (m : am_m) (t : Int32 × am_m) (h : fn_X9_terms a1 a2 m = some t) : am_Ex am_cod d 116 [.inr (.inr (some (9, 0))), .inl a1, .inl a2] (am_mk m) (some (.inl t.1)) (am_mk t.2) 0 0 := by
  obtain ⟨d, rfl⟩ : ∃ e, d = e + 1 := ⟨d - 1, by omega⟩
  have htb : am_tab 116 = at_116 := rfl
  refine ⟨Nat.le_of_ble_eq_true rfl, ?_⟩
  unfold fn_X9_terms at h
  show am_Go d 116 (0, [some (.inr (.inr (some (9, 0)))), some (.inl a1), some (.inl a2), none], [], am_mk m) _ _ 0 0
  refine am_Go.n htb 1 (S' := (1, [some (.inr (.inr (some (9, 0)))), some (.inl a1), some (.inl a2), none], [.inl a1], am_mk m)) rfl ?_
  by_cases hc1 : a1 < 0
  · rw [if_pos hc1] at h
    refine am_Go.c1 htb (S' := (21, [some (.inr (.inr (some (9, 0)))), some (.inl a1), some (.inl a2), none], [], am_mk m)) (if_pos hc1) ?_
    refine am_Go.n htb 2 (S' := (23, [some (.inr (.inr (some (9, 0)))), some (.inl a1), some (.inl a2), none], [.inl (-1), .inr (.inr (some (9, 0)))], am_mk m)) rfl ?_
    obtain ⟨r2, h3, h⟩ := am_bd h
    refine am_Go.cl htb rfl (ex_X9_told d (by omega) (-1) m r2 h3) ?_
    show am_Go d 116 (26, [some (.inr (.inr (some (9, 0)))), some (.inl a1), some (.inl a2), none], [.inl r2.1], am_mk r2.2) _ _ _ _
    cases h
    exact am_Go.rt htb rfl
  · rw [if_neg hc1] at h
    refine am_Go.c1 htb (S' := (4, [some (.inr (.inr (some (9, 0)))), some (.inl a1), some (.inl a2), none], [], am_mk m)) (if_neg hc1) ?_
    refine am_Go.n htb 2 (S' := (6, [some (.inr (.inr (some (9, 0)))), some (.inl a1), some (.inl a2), none], [.inl 3, .inl a1], am_mk m)) rfl ?_
    by_cases hc4 : (3 : Int32) ≤ a1
    · rw [if_pos hc4] at h
      refine am_Go.c1 htb (S' := (21, [some (.inr (.inr (some (9, 0)))), some (.inl a1), some (.inl a2), none], [], am_mk m)) (if_pos hc4) ?_
      refine am_Go.n htb 2 (S' := (23, [some (.inr (.inr (some (9, 0)))), some (.inl a1), some (.inl a2), none], [.inl (-1), .inr (.inr (some (9, 0)))], am_mk m)) rfl ?_
      obtain ⟨r5, h6, h⟩ := am_bd h
      refine am_Go.cl htb rfl (ex_X9_told d (by omega) (-1) m r5 h6) ?_
      show am_Go d 116 (26, [some (.inr (.inr (some (9, 0)))), some (.inl a1), some (.inl a2), none], [.inl r5.1], am_mk r5.2) _ _ _ _
      cases h
      exact am_Go.rt htb rfl
    · rw [if_neg hc4] at h
      refine am_Go.c1 htb (S' := (9, [some (.inr (.inr (some (9, 0)))), some (.inl a1), some (.inl a2), none], [], am_mk m)) (if_neg hc4) ?_
      refine am_Go.n htb 1 (S' := (10, [some (.inr (.inr (some (9, 0)))), some (.inl a1), some (.inl a2), none], [.inl a2], am_mk m)) rfl ?_
      by_cases hc7 : a2 < 0
      · rw [if_pos hc7] at h
        refine am_Go.c1 htb (S' := (21, [some (.inr (.inr (some (9, 0)))), some (.inl a1), some (.inl a2), none], [], am_mk m)) (if_pos hc7) ?_
        refine am_Go.n htb 2 (S' := (23, [some (.inr (.inr (some (9, 0)))), some (.inl a1), some (.inl a2), none], [.inl (-1), .inr (.inr (some (9, 0)))], am_mk m)) rfl ?_
        obtain ⟨r8, h9, h⟩ := am_bd h
        refine am_Go.cl htb rfl (ex_X9_told d (by omega) (-1) m r8 h9) ?_
        show am_Go d 116 (26, [some (.inr (.inr (some (9, 0)))), some (.inl a1), some (.inl a2), none], [.inl r8.1], am_mk r8.2) _ _ _ _
        cases h
        exact am_Go.rt htb rfl
      · rw [if_neg hc7] at h
        refine am_Go.c1 htb (S' := (13, [some (.inr (.inr (some (9, 0)))), some (.inl a1), some (.inl a2), none], [], am_mk m)) (if_neg hc7) ?_
        refine am_Go.n htb 2 (S' := (15, [some (.inr (.inr (some (9, 0)))), some (.inl a1), some (.inl a2), none], [.inl a1, .inl a2], am_mk m)) rfl ?_
        obtain ⟨r10, h11, h⟩ := am_bd h
        refine am_Go.cl htb rfl (ex_X9_mostOfTerm d (by omega) a1 m r10 h11) ?_
        show am_Go d 116 (18, [some (.inr (.inr (some (9, 0)))), some (.inl a1), some (.inl a2), none], [.inl r10, .inl a2], am_mk m) _ _ _ _
        by_cases hc12 : a2 ≤ r10
        · rw [if_pos hc12] at h
          refine am_Go.c1 htb (S' := (27, [some (.inr (.inr (some (9, 0)))), some (.inl a1), some (.inl a2), none], [], am_mk m)) (if_pos hc12) ?_
          refine am_Go.n htb 4 (S' := (35, [some (.inr (.inr (some (9, 0)))), some (.inl a1), some (.inl a2), none], [.inl a1, .inr (.inr (some (39, 0)))], am_mk m)) rfl ?_
          obtain ⟨hg13, h⟩ := am_ck_some h
          refine am_Go.c1 htb (S' := (36, [some (.inr (.inr (some (9, 0)))), some (.inl a1), some (.inl a2), none], [.inl (m.1 39 0 a1.toNatClampNeg)], am_mk m)) (if_neg hg13) ?_
          refine am_Go.n htb 6 (S' := (46, [some (.inr (.inr (some (9, 0)))), some (.inl a1), some (.inl a2), some (.inl (m.1 39 0 a1.toNatClampNeg))], [.inl a2, .inl a1, .inr (.inr (some (39, 0)))], am_mk m)) rfl ?_
          obtain ⟨hg14, h⟩ := am_ck_some h
          refine am_Go.c1 htb (S' := (47, [some (.inr (.inr (some (9, 0)))), some (.inl a1), some (.inl a2), some (.inl (m.1 39 0 a1.toNatClampNeg))], [], am_mk (am_si m 39 0 a1.toNatClampNeg a2))) (if_neg hg14) ?_
          refine am_Go.n htb 2 (S' := (51, [some (.inr (.inr (some (9, 0)))), some (.inl a1), some (.inl a2), some (.inl (m.1 39 0 a1.toNatClampNeg))], [.inr (.inr (some (3, 0)))], am_mk (am_si m 39 0 a1.toNatClampNeg a2))) rfl ?_
          obtain ⟨r15, h16, h⟩ := am_bd h
          refine am_Go.cl htb rfl (ex_X3_clear d (by omega) 0 (am_si m 39 0 a1.toNatClampNeg a2) r15 h16) ?_
          show am_Go d 116 (54, [some (.inr (.inr (some (9, 0)))), some (.inl a1), some (.inl a2), some (.inl (m.1 39 0 a1.toNatClampNeg))], [], am_mk r15) _ _ _ _
          refine am_Go.n htb 2 (S' := (56, [some (.inr (.inr (some (9, 0)))), some (.inl a1), some (.inl a2), some (.inl (m.1 39 0 a1.toNatClampNeg))], [.inl (m.1 39 0 a1.toNatClampNeg), .inr (.inr (some (9, 0)))], am_mk r15)) rfl ?_
          obtain ⟨r17, h18, h⟩ := am_bd h
          refine am_Go.cl htb rfl (ex_X9_told d (by omega) (m.1 39 0 a1.toNatClampNeg) r15 r17 h18) ?_
          show am_Go d 116 (59, [some (.inr (.inr (some (9, 0)))), some (.inl a1), some (.inl a2), some (.inl (m.1 39 0 a1.toNatClampNeg))], [.inl r17.1], am_mk r17.2) _ _ _ _
          cases h
          exact am_Go.rt htb rfl
        · rw [if_neg hc12] at h
          refine am_Go.c1 htb (S' := (21, [some (.inr (.inr (some (9, 0)))), some (.inl a1), some (.inl a2), none], [], am_mk m)) (if_neg hc12) ?_
          refine am_Go.n htb 2 (S' := (23, [some (.inr (.inr (some (9, 0)))), some (.inl a1), some (.inl a2), none], [.inl (-1), .inr (.inr (some (9, 0)))], am_mk m)) rfl ?_
          obtain ⟨r19, h20, h⟩ := am_bd h
          refine am_Go.cl htb rfl (ex_X9_told d (by omega) (-1) m r19 h20) ?_
          show am_Go d 116 (26, [some (.inr (.inr (some (9, 0)))), some (.inl a1), some (.inl a2), none], [.inl r19.1], am_mk r19.2) _ _ _ _
          cases h
          exact am_Go.rt htb rfl
-- X9_feed
set_option maxRecDepth 100000 in
theorem ex_X9_feed (d : Nat) (hd : 2 ≤ d) (a1 : Int32) (a2 : Int32) (a3 : Int32) (a4 : Int32) (a5 : Int32) (m : am_m) (t : Int32 × am_m) (h : fn_X9_feed a1 a2 a3 a4 a5 m = some t) : am_Ex am_cod d 117 [.inr (.inr (some (9, 0))), .inl a1, .inl a2, .inl a3, .inl a4, .inl a5] (am_mk m) (some (.inl t.1)) (am_mk t.2) 0 0 := by
  obtain ⟨d, rfl⟩ : ∃ e, d = e + 1 := ⟨d - 1, by omega⟩
  have htb : am_tab 117 = at_117 := rfl
  refine ⟨Nat.le_of_ble_eq_true rfl, ?_⟩
  unfold fn_X9_feed at h
  show am_Go d 117 (0, [some (.inr (.inr (some (9, 0)))), some (.inl a1), some (.inl a2), some (.inl a3), some (.inl a4), some (.inl a5)], [], am_mk m) _ _ 0 0
  refine am_Go.n htb 4 (S' := (10, [some (.inr (.inr (some (9, 0)))), some (.inl a1), some (.inl a2), some (.inl a3), some (.inl a4), some (.inl a5)], [.inl 380, .inl (m.1 7 0 1)], am_mk m)) rfl ?_
  by_cases hc1 : (m.1 7 0 1) ≤ (380 : Int32)
  · rw [if_pos hc1] at h
    refine am_Go.c1 htb (S' := (15, [some (.inr (.inr (some (9, 0)))), some (.inl a1), some (.inl a2), some (.inl a3), some (.inl a4), some (.inl a5)], [], am_mk m)) (if_pos hc1) ?_
    refine am_Go.n htb 3 (S' := (20, [some (.inr (.inr (some (9, 0)))), some (.inl a1), some (.inl a2), some (.inl a3), some (.inl a4), some (.inl a5)], [.inl a1, .inr (.inr (some (7, 0)))], am_mk m)) rfl ?_
    obtain ⟨r2, h3, h⟩ := am_bd h
    refine am_Go.cl htb rfl (ex_X7_take d (by omega) a1 m r2 h3) ?_
    show am_Go d 117 (23, [some (.inr (.inr (some (9, 0)))), some (.inl a1), some (.inl a2), some (.inl a3), some (.inl a4), some (.inl a5)], [], am_mk r2) _ _ _ _
    refine am_Go.n htb 3 (S' := (28, [some (.inr (.inr (some (9, 0)))), some (.inl a1), some (.inl a2), some (.inl a3), some (.inl a4), some (.inl a5)], [.inl a2, .inr (.inr (some (7, 0)))], am_mk r2)) rfl ?_
    obtain ⟨r4, h5, h⟩ := am_bd h
    refine am_Go.cl htb rfl (ex_X7_take d (by omega) a2 r2 r4 h5) ?_
    show am_Go d 117 (31, [some (.inr (.inr (some (9, 0)))), some (.inl a1), some (.inl a2), some (.inl a3), some (.inl a4), some (.inl a5)], [], am_mk r4) _ _ _ _
    refine am_Go.n htb 3 (S' := (36, [some (.inr (.inr (some (9, 0)))), some (.inl a1), some (.inl a2), some (.inl a3), some (.inl a4), some (.inl a5)], [.inl a3, .inr (.inr (some (7, 0)))], am_mk r4)) rfl ?_
    obtain ⟨r6, h7, h⟩ := am_bd h
    refine am_Go.cl htb rfl (ex_X7_take d (by omega) a3 r4 r6 h7) ?_
    show am_Go d 117 (39, [some (.inr (.inr (some (9, 0)))), some (.inl a1), some (.inl a2), some (.inl a3), some (.inl a4), some (.inl a5)], [], am_mk r6) _ _ _ _
    refine am_Go.n htb 3 (S' := (45, [some (.inr (.inr (some (9, 0)))), some (.inl a1), some (.inl a2), some (.inl a3), some (.inl a4), some (.inl a5)], [.inl a4, .inr (.inr (some (7, 0)))], am_mk r6)) rfl ?_
    obtain ⟨r8, h9, h⟩ := am_bd h
    refine am_Go.cl htb rfl (ex_X7_take d (by omega) a4 r6 r8 h9) ?_
    show am_Go d 117 (48, [some (.inr (.inr (some (9, 0)))), some (.inl a1), some (.inl a2), some (.inl a3), some (.inl a4), some (.inl a5)], [], am_mk r8) _ _ _ _
    refine am_Go.n htb 3 (S' := (54, [some (.inr (.inr (some (9, 0)))), some (.inl a1), some (.inl a2), some (.inl a3), some (.inl a4), some (.inl a5)], [.inl a5, .inr (.inr (some (7, 0)))], am_mk r8)) rfl ?_
    obtain ⟨r10, h11, h⟩ := am_bd h
    refine am_Go.cl htb rfl (ex_X7_take d (by omega) a5 r8 r10 h11) ?_
    show am_Go d 117 (57, [some (.inr (.inr (some (9, 0)))), some (.inl a1), some (.inl a2), some (.inl a3), some (.inl a4), some (.inl a5)], [], am_mk r10) _ _ _ _
    refine am_Go.n htb 3 (S' := (64, [some (.inr (.inr (some (9, 0)))), some (.inl a1), some (.inl a2), some (.inl a3), some (.inl a4), some (.inl a5)], [.inl (r10.1 7 0 1)], am_mk r10)) rfl ?_
    cases h
    exact am_Go.rt htb rfl
  · rw [if_neg hc1] at h
    refine am_Go.c1 htb (S' := (13, [some (.inr (.inr (some (9, 0)))), some (.inl a1), some (.inl a2), some (.inl a3), some (.inl a4), some (.inl a5)], [], am_mk m)) (if_neg hc1) ?_
    refine am_Go.n htb 1 (S' := (14, [some (.inr (.inr (some (9, 0)))), some (.inl a1), some (.inl a2), some (.inl a3), some (.inl a4), some (.inl a5)], [.inl (-1)], am_mk m)) rfl ?_
    cases h
    exact am_Go.rt htb rfl
-- X9_end
set_option maxRecDepth 100000 in
theorem ex_X9_end (d : Nat) (hd : 1 ≤ d) (a1 : Int32) (m : am_m) (t : Int32 × am_m) (h : fn_X9_end a1 m = some t) : am_Ex am_cod d 118 [.inr (.inr (some (9, 0))), .inl a1] (am_mk m) (some (.inl t.1)) (am_mk t.2) 0 0 := by
  obtain ⟨d, rfl⟩ : ∃ e, d = e + 1 := ⟨d - 1, by omega⟩
  have htb : am_tab 118 = at_118 := rfl
  refine ⟨Nat.le_of_ble_eq_true rfl, ?_⟩
  unfold fn_X9_end at h
  show am_Go d 118 (0, [some (.inr (.inr (some (9, 0)))), some (.inl a1)], [], am_mk m) _ _ 0 0
  refine am_Go.n htb 1 (S' := (1, [some (.inr (.inr (some (9, 0)))), some (.inl a1)], [.inl a1], am_mk m)) rfl ?_
  by_cases hc1 : a1 < 0
  · rw [if_pos hc1] at h
    refine am_Go.c1 htb (S' := (15, [some (.inr (.inr (some (9, 0)))), some (.inl a1)], [], am_mk m)) (if_pos hc1) ?_
    refine am_Go.n htb 1 (S' := (16, [some (.inr (.inr (some (9, 0)))), some (.inl a1)], [.inl (-1)], am_mk m)) rfl ?_
    cases h
    exact am_Go.rt htb rfl
  · rw [if_neg hc1] at h
    refine am_Go.c1 htb (S' := (4, [some (.inr (.inr (some (9, 0)))), some (.inl a1)], [], am_mk m)) (if_neg hc1) ?_
    refine am_Go.n htb 4 (S' := (12, [some (.inr (.inr (some (9, 0)))), some (.inl a1)], [.inl (m.1 7 0 1), .inl a1], am_mk m)) rfl ?_
    by_cases hc2 : a1 ≤ (m.1 7 0 1)
    · rw [if_pos hc2] at h
      refine am_Go.c1 htb (S' := (17, [some (.inr (.inr (some (9, 0)))), some (.inl a1)], [], am_mk m)) (if_pos hc2) ?_
      refine am_Go.n htb 5 (S' := (26, [some (.inr (.inr (some (9, 0)))), some (.inl a1)], [.inl a1], am_mk (am_si m 7 0 1 a1))) rfl ?_
      cases h
      exact am_Go.rt htb rfl
    · rw [if_neg hc2] at h
      refine am_Go.c1 htb (S' := (15, [some (.inr (.inr (some (9, 0)))), some (.inl a1)], [], am_mk m)) (if_neg hc2) ?_
      refine am_Go.n htb 1 (S' := (16, [some (.inr (.inr (some (9, 0)))), some (.inl a1)], [.inl (-1)], am_mk m)) rfl ?_
      cases h
      exact am_Go.rt htb rfl
-- X9_rowHarm
set_option maxRecDepth 100000 in
theorem ex_X9_rowHarm (d : Nat) (hd : 3 ≤ d) (a1 : Int32) (m : am_m) (t : Int32 × am_m) (h : fn_X9_rowHarm a1 m = some t) : am_Ex am_cod d 159 [.inr (.inr (some (9, 0))), .inl a1] (am_mk m) (some (.inl t.1)) (am_mk t.2) 0 0 := by
  obtain ⟨d, rfl⟩ : ∃ e, d = e + 1 := ⟨d - 1, by omega⟩
  have htb : am_tab 159 = at_159 := rfl
  refine ⟨Nat.le_of_ble_eq_true rfl, ?_⟩
  unfold fn_X9_rowHarm at h
  show am_Go d 159 (0, [some (.inr (.inr (some (9, 0)))), some (.inl a1), none, none, none], [], am_mk m) _ _ 0 0
  refine am_Go.n htb 6 (S' := (10, [some (.inr (.inr (some (9, 0)))), some (.inl a1), none, none, none], [.inl ((m.1 7 0 1) - (3 : Int32)), .inl a1], am_mk m)) rfl ?_
  by_cases hc1 : a1 ≤ ((m.1 7 0 1) - (3 : Int32))
  · rw [if_pos hc1] at h
    refine am_Go.c1 htb (S' := (15, [some (.inr (.inr (some (9, 0)))), some (.inl a1), none, none, none], [], am_mk m)) (if_pos hc1) ?_
    refine am_Go.n htb 3 (S' := (20, [some (.inr (.inr (some (9, 0)))), some (.inl a1), none, none, none], [.inl a1, .inr (.inr (some (7, 0)))], am_mk m)) rfl ?_
    obtain ⟨r2, h3, h⟩ := am_bd h
    refine am_Go.cl htb rfl (ex_X7_byteAt d (by omega) a1 m r2 h3) ?_
    show am_Go d 159 (23, [some (.inr (.inr (some (9, 0)))), some (.inl a1), none, none, none], [.inl r2], am_mk m) _ _ _ _
    refine am_Go.n htb 6 (S' := (31, [some (.inr (.inr (some (9, 0)))), some (.inl a1), some (.inl r2), none, none], [.inl (a1 + (1 : Int32)), .inr (.inr (some (7, 0)))], am_mk m)) rfl ?_
    obtain ⟨r4, h5, h⟩ := am_bd h
    refine am_Go.cl htb rfl (ex_X7_byteAt d (by omega) (a1 + (1 : Int32)) m r4 h5) ?_
    show am_Go d 159 (34, [some (.inr (.inr (some (9, 0)))), some (.inl a1), some (.inl r2), none, none], [.inl r4], am_mk m) _ _ _ _
    refine am_Go.n htb 6 (S' := (42, [some (.inr (.inr (some (9, 0)))), some (.inl a1), some (.inl r2), some (.inl r4), none], [.inl (a1 + (2 : Int32)), .inr (.inr (some (7, 0)))], am_mk m)) rfl ?_
    obtain ⟨r6, h7, h⟩ := am_bd h
    refine am_Go.cl htb rfl (ex_X7_byteAt d (by omega) (a1 + (2 : Int32)) m r6 h7) ?_
    show am_Go d 159 (45, [some (.inr (.inr (some (9, 0)))), some (.inl a1), some (.inl r2), some (.inl r4), none], [.inl r6], am_mk m) _ _ _ _
    refine am_Go.n htb 5 (S' := (53, [some (.inr (.inr (some (9, 0)))), some (.inl a1), some (.inl r2), some (.inl r4), some (.inl r6)], [.inl r4, .inl r2, .inr (.inr (some (8, 0)))], am_mk m)) rfl ?_
    obtain ⟨r8, h9, h⟩ := am_bd h
    refine am_Go.cl htb rfl (ex_X8_hasTwo d (by omega) 0 r2 r4 m r8 h9) ?_
    show am_Go d 159 (56, [some (.inr (.inr (some (9, 0)))), some (.inl a1), some (.inl r2), some (.inl r4), some (.inl r6)], [.inl r8], am_mk m) _ _ _ _
    by_cases hc10 : r8 = 0
    · rw [if_pos hc10] at h
      refine am_Go.c1 htb (S' := (72, [some (.inr (.inr (some (9, 0)))), some (.inl a1), some (.inl r2), some (.inl r4), some (.inl r6)], [], am_mk m)) (if_pos hc10) ?_
      refine am_Go.n htb 1 (S' := (73, [some (.inr (.inr (some (9, 0)))), some (.inl a1), some (.inl r2), some (.inl r4), some (.inl r6)], [.inl 0], am_mk m)) rfl ?_
      cases h
      exact am_Go.rt htb rfl
    · rw [if_neg hc10] at h
      refine am_Go.c1 htb (S' := (59, [some (.inr (.inr (some (9, 0)))), some (.inl a1), some (.inl r2), some (.inl r4), some (.inl r6)], [], am_mk m)) (if_neg hc10) ?_
      refine am_Go.n htb 2 (S' := (62, [some (.inr (.inr (some (9, 0)))), some (.inl a1), some (.inl r2), some (.inl r4), some (.inl r6)], [.inl 1, .inl r6], am_mk m)) rfl ?_
      by_cases hc11 : r6 < (1 : Int32)
      · rw [if_pos hc11] at h
        refine am_Go.c1 htb (S' := (72, [some (.inr (.inr (some (9, 0)))), some (.inl a1), some (.inl r2), some (.inl r4), some (.inl r6)], [], am_mk m)) (if_pos hc11) ?_
        refine am_Go.n htb 1 (S' := (73, [some (.inr (.inr (some (9, 0)))), some (.inl a1), some (.inl r2), some (.inl r4), some (.inl r6)], [.inl 0], am_mk m)) rfl ?_
        cases h
        exact am_Go.rt htb rfl
      · rw [if_neg hc11] at h
        refine am_Go.c1 htb (S' := (65, [some (.inr (.inr (some (9, 0)))), some (.inl a1), some (.inl r2), some (.inl r4), some (.inl r6)], [], am_mk m)) (if_neg hc11) ?_
        refine am_Go.n htb 2 (S' := (69, [some (.inr (.inr (some (9, 0)))), some (.inl a1), some (.inl r2), some (.inl r4), some (.inl r6)], [.inl 9, .inl r6], am_mk m)) rfl ?_
        by_cases hc12 : r6 ≤ (9 : Int32)
        · rw [if_pos hc12] at h
          refine am_Go.c1 htb (S' := (74, [some (.inr (.inr (some (9, 0)))), some (.inl a1), some (.inl r2), some (.inl r4), some (.inl r6)], [], am_mk m)) (if_pos hc12) ?_
          refine am_Go.n htb 10 (S' := (91, [some (.inr (.inr (some (9, 0)))), some (.inl a1), some (.inl r2), some (.inl r4), some (.inl r6)], [.inl (m.1 39 0 0), .inl r6, .inl r4, .inl r2, .inr (.inr (some (8, 0)))], am_mk m)) rfl ?_
          obtain ⟨r13, h14, h⟩ := am_bd h
          refine am_Go.cl htb rfl (ex_X8_setHarm d (by omega) 0 r2 r4 r6 (m.1 39 0 0) m r13 h14) ?_
          show am_Go d 159 (94, [some (.inr (.inr (some (9, 0)))), some (.inl a1), some (.inl r2), some (.inl r4), some (.inl r6)], [], am_mk r13) _ _ _ _
          refine am_Go.n htb 1 (S' := (95, [some (.inr (.inr (some (9, 0)))), some (.inl a1), some (.inl r2), some (.inl r4), some (.inl r6)], [.inl 1], am_mk r13)) rfl ?_
          cases h
          exact am_Go.rt htb rfl
        · rw [if_neg hc12] at h
          refine am_Go.c1 htb (S' := (72, [some (.inr (.inr (some (9, 0)))), some (.inl a1), some (.inl r2), some (.inl r4), some (.inl r6)], [], am_mk m)) (if_neg hc12) ?_
          refine am_Go.n htb 1 (S' := (73, [some (.inr (.inr (some (9, 0)))), some (.inl a1), some (.inl r2), some (.inl r4), some (.inl r6)], [.inl 0], am_mk m)) rfl ?_
          cases h
          exact am_Go.rt htb rfl
  · rw [if_neg hc1] at h
    refine am_Go.c1 htb (S' := (13, [some (.inr (.inr (some (9, 0)))), some (.inl a1), none, none, none], [], am_mk m)) (if_neg hc1) ?_
    refine am_Go.n htb 1 (S' := (14, [some (.inr (.inr (some (9, 0)))), some (.inl a1), none, none, none], [.inl 0], am_mk m)) rfl ?_
    cases h
    exact am_Go.rt htb rfl
-- X9_row
set_option maxRecDepth 100000 in
theorem lt_X9_row_23 (d : Nat) (hd : 4 ≤ d + 1) {r : Option am_V} {M' : am_M} {kc ks : Nat} {n : Nat} {x1 : Int32} {x2 : Int32} {x3 : Int32} {m : am_m} {t : Int32 × Int32 × am_m} (h : lp_X9_row_23 n x1 x2 x3 m = some t) (hk : am_Go d 119 (57, [some (.inr (.inr (some (9, 0)))), some (.inl t.1), some (.inl t.2.1), none], [], am_mk t.2.2) r M' kc ks) : am_Go d 119 (23, [some (.inr (.inr (some (9, 0)))), some (.inl x1), some (.inl x2), some (.inl x3)], [], am_mk m) r M' kc ks := by
  have htb : am_tab 119 = at_119 := rfl
  induction n generalizing x1 x2 x3 m with
  | zero => cases h
  | succ n ih =>
    unfold lp_X9_row_23 at h
    refine am_Go.n htb 4 (S' := (31, [some (.inr (.inr (some (9, 0)))), some (.inl x1), some (.inl x2), some (.inl x3)], [.inl (m.1 7 0 1), .inl x3], am_mk m)) rfl ?_
    by_cases hc2 : (m.1 7 0 1) ≤ x3
    · rw [if_pos hc2] at h
      refine am_Go.c1 htb (S' := (57, [some (.inr (.inr (some (9, 0)))), some (.inl x1), some (.inl x2), some (.inl x3)], [], am_mk m)) (if_pos hc2) ?_
      cases h
      exact am_Go.fg (by exact ⟨rfl, ⟨rfl, ⟨rfl, trivial⟩⟩⟩) hk
    · rw [if_neg hc2] at h
      refine am_Go.c1 htb (S' := (34, [some (.inr (.inr (some (9, 0)))), some (.inl x1), some (.inl x2), some (.inl x3)], [], am_mk m)) (if_neg hc2) ?_
      refine am_Go.n htb 2 (S' := (36, [some (.inr (.inr (some (9, 0)))), some (.inl x1), some (.inl x2), some (.inl x3)], [.inl x3, .inr (.inr (some (9, 0)))], am_mk m)) rfl ?_
      obtain ⟨r3, h4, h⟩ := am_bd h
      refine am_Go.cl htb rfl (ex_X9_rowHarm d (by omega) x3 m r3 h4) ?_
      show am_Go d 119 (39, [some (.inr (.inr (some (9, 0)))), some (.inl x1), some (.inl x2), some (.inl x3)], [.inl r3.1], am_mk r3.2) _ _ _ _
      refine am_Go.cut (S := (51, [some (.inr (.inr (some (9, 0)))), some (.inl (if r3.1 = 0 then x1 else (x1 + 1))), some (.inl (if r3.1 = 0 then (x2 + 1) else x2)), some (.inl x3)], [], am_mk r3.2)) ?_ (fun key => ?_)
      · refine am_Go.n htb 2 (S' := (23, [some (.inr (.inr (some (9, 0)))), some (.inl (if r3.1 = 0 then x1 else (x1 + 1))), some (.inl (if r3.1 = 0 then (x2 + 1) else x2)), some (.inl (x3 + 3))], [], am_mk r3.2)) rfl ?_
        first | exact ih h | exact ih h hk
      · by_cases hc5 : r3.1 = 0
        · refine am_Go.c1 htb (S' := (48, [some (.inr (.inr (some (9, 0)))), some (.inl x1), some (.inl x2), some (.inl x3)], [], am_mk r3.2)) (if_pos hc5) ?_
          refine am_Go.n htb 1 (S' := (51, [some (.inr (.inr (some (9, 0)))), some (.inl x1), some (.inl (x2 + 1)), some (.inl x3)], [], am_mk r3.2)) rfl ?_
          simp only [if_pos hc5] at key
          exact am_Go.fg (by exact ⟨rfl, ⟨rfl, ⟨rfl, ⟨rfl, trivial⟩⟩⟩⟩) key
        · refine am_Go.c1 htb (S' := (42, [some (.inr (.inr (some (9, 0)))), some (.inl x1), some (.inl x2), some (.inl x3)], [], am_mk r3.2)) (if_neg hc5) ?_
          refine am_Go.n htb 2 (S' := (51, [some (.inr (.inr (some (9, 0)))), some (.inl (x1 + 1)), some (.inl x2), some (.inl x3)], [], am_mk r3.2)) rfl ?_
          simp only [if_neg hc5] at key
          exact am_Go.fg (by exact ⟨rfl, ⟨rfl, ⟨rfl, ⟨rfl, trivial⟩⟩⟩⟩) key
set_option maxRecDepth 100000 in
theorem ex_X9_row (d : Nat) (hd : 4 ≤ d)  (m : am_m) (t : Int32 × am_m) (h : fn_X9_row  m = some t) : am_Ex am_cod d 119 [.inr (.inr (some (9, 0)))] (am_mk m) (some (.inl t.1)) (am_mk t.2) 0 0 := by
  obtain ⟨d, rfl⟩ : ∃ e, d = e + 1 := ⟨d - 1, by omega⟩
  have htb : am_tab 119 = at_119 := rfl
  refine ⟨Nat.le_of_ble_eq_true rfl, ?_⟩
  unfold fn_X9_row at h
  show am_Go d 119 (0, [some (.inr (.inr (some (9, 0)))), none, none, none], [], am_mk m) _ _ 0 0
  refine am_Go.n htb 3 (S' := (7, [some (.inr (.inr (some (9, 0)))), none, none, none], [.inl (m.1 7 0 1)], am_mk m)) rfl ?_
  by_cases hc1 : (m.1 7 0 1) ≠ 0
  · rw [if_pos hc1] at h
    refine am_Go.c1 htb (S' := (17, [some (.inr (.inr (some (9, 0)))), none, none, none], [], am_mk m)) (if_pos hc1) ?_
    refine am_Go.n htb 6 (S' := (23, [some (.inr (.inr (some (9, 0)))), some (.inl 0), some (.inl 0), some (.inl 0)], [], am_mk m)) rfl ?_
    obtain ⟨q6, h7, h⟩ := am_bd h
    refine lt_X9_row_23 _ hd (h := h7) (hk := ?_)
    refine am_Go.n htb 9 (S' := (74, [some (.inr (.inr (some (9, 0)))), some (.inl q6.1), some (.inl q6.2.1), none], [.inr (.inr (some (3, 0)))], am_mk (am_si (am_si q6.2.2 9 0 15 q6.2.1) 7 0 1 0))) rfl ?_
    obtain ⟨r8, h9, h⟩ := am_bd h
    refine am_Go.cl htb rfl (ex_X3_clear d (by omega) 0 (am_si (am_si q6.2.2 9 0 15 q6.2.1) 7 0 1 0) r8 h9) ?_
    show am_Go d 119 (77, [some (.inr (.inr (some (9, 0)))), some (.inl q6.1), some (.inl q6.2.1), none], [], am_mk r8) _ _ _ _
    refine am_Go.n htb 2 (S' := (79, [some (.inr (.inr (some (9, 0)))), some (.inl q6.1), some (.inl q6.2.1), none], [.inl q6.1, .inr (.inr (some (9, 0)))], am_mk r8)) rfl ?_
    obtain ⟨r10, h11, h⟩ := am_bd h
    refine am_Go.cl htb rfl (ex_X9_told d (by omega) q6.1 r8 r10 h11) ?_
    show am_Go d 119 (82, [some (.inr (.inr (some (9, 0)))), some (.inl q6.1), some (.inl q6.2.1), none], [.inl r10.1], am_mk r10.2) _ _ _ _
    cases h
    exact am_Go.rt htb rfl
  · rw [if_neg hc1] at h
    refine am_Go.c1 htb (S' := (10, [some (.inr (.inr (some (9, 0)))), none, none, none], [], am_mk m)) (if_neg hc1) ?_
    refine am_Go.n htb 2 (S' := (13, [some (.inr (.inr (some (9, 0)))), none, none, none], [.inl (-6), .inr (.inr (some (9, 0)))], am_mk m)) rfl ?_
    obtain ⟨r12, h13, h⟩ := am_bd h
    refine am_Go.cl htb rfl (ex_X9_told d (by omega) (-6) m r12 h13) ?_
    show am_Go d 119 (16, [some (.inr (.inr (some (9, 0)))), none, none, none], [.inl r12.1], am_mk r12.2) _ _ _ _
    cases h
    exact am_Go.rt htb rfl
-- X9_crumbs
set_option maxRecDepth 100000 in
theorem ex_X9_crumbs (d : Nat) (hd : 1 ≤ d)  (m : am_m) (t : Int32) (h : fn_X9_crumbs  m = some t) : am_Ex am_cod d 120 [.inr (.inr (some (9, 0)))] (am_mk m) (some (.inl t)) (am_mk m) 0 0 := by
  obtain ⟨d, rfl⟩ : ∃ e, d = e + 1 := ⟨d - 1, by omega⟩
  have htb : am_tab 120 = at_120 := rfl
  refine ⟨Nat.le_of_ble_eq_true rfl, ?_⟩
  unfold fn_X9_crumbs at h
  show am_Go d 120 (0, [some (.inr (.inr (some (9, 0))))], [], am_mk m) _ _ 0 0
  refine am_Go.n htb 2 (S' := (4, [some (.inr (.inr (some (9, 0))))], [.inl (m.1 9 0 15)], am_mk m)) rfl ?_
  cases h
  exact am_Go.rt htb rfl
-- X9_doHarm
set_option maxRecDepth 100000 in
theorem ex_X9_doHarm (d : Nat) (hd : 4 ≤ d) (a1 : Int32) (a2 : Int32) (a3 : Int32) (m : am_m) (t : Int32 × am_m) (h : fn_X9_doHarm a1 a2 a3 m = some t) : am_Ex am_cod d 160 [.inr (.inr (some (9, 0))), .inl a1, .inl a2, .inl a3] (am_mk m) (some (.inl t.1)) (am_mk t.2) 0 0 := by
  obtain ⟨d, rfl⟩ : ∃ e, d = e + 1 := ⟨d - 1, by omega⟩
  have htb : am_tab 160 = at_160 := rfl
  refine ⟨Nat.le_of_ble_eq_true rfl, ?_⟩
  unfold fn_X9_doHarm at h
  show am_Go d 160 (0, [some (.inr (.inr (some (9, 0)))), some (.inl a1), some (.inl a2), some (.inl a3), none], [], am_mk m) _ _ 0 0
  refine am_Go.n htb 2 (S' := (2, [some (.inr (.inr (some (9, 0)))), some (.inl a1), some (.inl a2), some (.inl a3), none], [.inl 1, .inl a3], am_mk m)) rfl ?_
  by_cases hc1 : a3 < (1 : Int32)
  · rw [if_pos hc1] at h
    refine am_Go.c1 htb (S' := (16, [some (.inr (.inr (some (9, 0)))), some (.inl a1), some (.inl a2), some (.inl a3), none], [], am_mk m)) (if_pos hc1) ?_
    refine am_Go.n htb 1 (S' := (17, [some (.inr (.inr (some (9, 0)))), some (.inl a1), some (.inl a2), some (.inl a3), none], [.inl (-1)], am_mk m)) rfl ?_
    cases h
    exact am_Go.rt htb rfl
  · rw [if_neg hc1] at h
    refine am_Go.c1 htb (S' := (5, [some (.inr (.inr (some (9, 0)))), some (.inl a1), some (.inl a2), some (.inl a3), none], [], am_mk m)) (if_neg hc1) ?_
    refine am_Go.n htb 2 (S' := (8, [some (.inr (.inr (some (9, 0)))), some (.inl a1), some (.inl a2), some (.inl a3), none], [.inl 9, .inl a3], am_mk m)) rfl ?_
    by_cases hc2 : (9 : Int32) < a3
    · rw [if_pos hc2] at h
      refine am_Go.c1 htb (S' := (16, [some (.inr (.inr (some (9, 0)))), some (.inl a1), some (.inl a2), some (.inl a3), none], [], am_mk m)) (if_pos hc2) ?_
      refine am_Go.n htb 1 (S' := (17, [some (.inr (.inr (some (9, 0)))), some (.inl a1), some (.inl a2), some (.inl a3), none], [.inl (-1)], am_mk m)) rfl ?_
      cases h
      exact am_Go.rt htb rfl
    · rw [if_neg hc2] at h
      refine am_Go.c1 htb (S' := (11, [some (.inr (.inr (some (9, 0)))), some (.inl a1), some (.inl a2), some (.inl a3), none], [], am_mk m)) (if_neg hc2) ?_
      refine am_Go.n htb 2 (S' := (13, [some (.inr (.inr (some (9, 0)))), some (.inl a1), some (.inl a2), some (.inl a3), none], [.inl a2, .inl a1], am_mk m)) rfl ?_
      by_cases hc3 : a1 ≠ a2
      · rw [if_pos hc3] at h
        refine am_Go.c1 htb (S' := (18, [some (.inr (.inr (some (9, 0)))), some (.inl a1), some (.inl a2), some (.inl a3), none], [], am_mk m)) (if_pos hc3) ?_
        refine am_Go.n htb 4 (S' := (24, [some (.inr (.inr (some (9, 0)))), some (.inl a1), some (.inl a2), some (.inl a3), none], [.inl a2, .inl a1, .inr (.inr (some (8, 0)))], am_mk m)) rfl ?_
        obtain ⟨r4, h5, h⟩ := am_bd h
        refine am_Go.cl htb rfl (ex_X8_hasTwo d (by omega) 0 a1 a2 m r4 h5) ?_
        show am_Go d 160 (27, [some (.inr (.inr (some (9, 0)))), some (.inl a1), some (.inl a2), some (.inl a3), none], [.inl r4], am_mk m) _ _ _ _
        by_cases hc6 : r4 ≠ 0
        · rw [if_pos hc6] at h
          refine am_Go.c1 htb (S' := (33, [some (.inr (.inr (some (9, 0)))), some (.inl a1), some (.inl a2), some (.inl a3), none], [], am_mk m)) (if_pos hc6) ?_
          refine am_Go.n htb 4 (S' := (39, [some (.inr (.inr (some (9, 0)))), some (.inl a1), some (.inl a2), some (.inl a3), none], [.inl a2, .inl a1, .inr (.inr (some (8, 0)))], am_mk m)) rfl ?_
          obtain ⟨r7, h8, h⟩ := am_bd h
          refine am_Go.cl htb rfl (ex_X8_weightOf d (by omega) 0 a1 a2 m r7 h8) ?_
          show am_Go d 160 (42, [some (.inr (.inr (some (9, 0)))), some (.inl a1), some (.inl a2), some (.inl a3), none], [.inl r7], am_mk m) _ _ _ _
          refine am_Go.n htb 3 (S' := (47, [some (.inr (.inr (some (9, 0)))), some (.inl a1), some (.inl a2), some (.inl a3), some (.inl r7)], [.inl a3, .inl r7], am_mk m)) rfl ?_
          by_cases hc9 : r7 ≠ a3
          · rw [if_pos hc9] at h
            refine am_Go.c1 htb (S' := (53, [some (.inr (.inr (some (9, 0)))), some (.inl a1), some (.inl a2), some (.inl a3), some (.inl r7)], [], am_mk m)) (if_pos hc9) ?_
            refine am_Go.n htb 7 (S' := (64, [some (.inr (.inr (some (9, 0)))), some (.inl a1), some (.inl a2), some (.inl a3), some (.inl r7)], [.inr (.inr (some (8, 0))), .inl a2, .inl a1, .inl 0, .inr (.inr (some (3, 0)))], am_mk m)) rfl ?_
            obtain ⟨r10, h11, h⟩ := am_bd h
            refine am_Go.cl htb rfl (ex_X3_keep d (by omega) 0 0 a1 a2 0 m r10 h11) ?_
            show am_Go d 160 (67, [some (.inr (.inr (some (9, 0)))), some (.inl a1), some (.inl a2), some (.inl a3), some (.inl r7)], [], am_mk r10) _ _ _ _
            refine am_Go.n htb 10 (S' := (83, [some (.inr (.inr (some (9, 0)))), some (.inl a1), some (.inl a2), some (.inl a3), some (.inl r7)], [.inl (r10.1 39 0 0), .inl a3, .inl a2, .inl a1, .inr (.inr (some (8, 0)))], am_mk r10)) rfl ?_
            obtain ⟨r12, h13, h⟩ := am_bd h
            refine am_Go.cl htb rfl (ex_X8_setHarm d (by omega) 0 a1 a2 a3 (r10.1 39 0 0) r10 r12 h13) ?_
            show am_Go d 160 (86, [some (.inr (.inr (some (9, 0)))), some (.inl a1), some (.inl a2), some (.inl a3), some (.inl r7)], [], am_mk r12) _ _ _ _
            refine am_Go.n htb 1 (S' := (88, [some (.inr (.inr (some (9, 0)))), some (.inl a1), some (.inl a2), some (.inl a3), some (.inl r7)], [.inl r7], am_mk r12)) rfl ?_
            cases h
            exact am_Go.rt htb rfl
          · rw [if_neg hc9] at h
            refine am_Go.c1 htb (S' := (50, [some (.inr (.inr (some (9, 0)))), some (.inl a1), some (.inl a2), some (.inl a3), some (.inl r7)], [], am_mk m)) (if_neg hc9) ?_
            refine am_Go.n htb 1 (S' := (52, [some (.inr (.inr (some (9, 0)))), some (.inl a1), some (.inl a2), some (.inl a3), some (.inl r7)], [.inl (-3)], am_mk m)) rfl ?_
            cases h
            exact am_Go.rt htb rfl
        · rw [if_neg hc6] at h
          refine am_Go.c1 htb (S' := (30, [some (.inr (.inr (some (9, 0)))), some (.inl a1), some (.inl a2), some (.inl a3), none], [], am_mk m)) (if_neg hc6) ?_
          refine am_Go.n htb 1 (S' := (32, [some (.inr (.inr (some (9, 0)))), some (.inl a1), some (.inl a2), some (.inl a3), none], [.inl (-2)], am_mk m)) rfl ?_
          cases h
          exact am_Go.rt htb rfl
      · rw [if_neg hc3] at h
        refine am_Go.c1 htb (S' := (16, [some (.inr (.inr (some (9, 0)))), some (.inl a1), some (.inl a2), some (.inl a3), none], [], am_mk m)) (if_neg hc3) ?_
        refine am_Go.n htb 1 (S' := (17, [some (.inr (.inr (some (9, 0)))), some (.inl a1), some (.inl a2), some (.inl a3), none], [.inl (-1)], am_mk m)) rfl ?_
        cases h
        exact am_Go.rt htb rfl
-- X9_doFeast
set_option maxRecDepth 100000 in
theorem ex_X9_doFeast (d : Nat) (hd : 6 ≤ d) (a1 : Int32) (m : am_m) (t : Int32 × am_m) (h : fn_X9_doFeast a1 m = some t) : am_Ex am_cod d 161 [.inr (.inr (some (9, 0))), .inl a1] (am_mk m) (some (.inl t.1)) (am_mk t.2) 0 0 := by
  obtain ⟨d, rfl⟩ : ∃ e, d = e + 1 := ⟨d - 1, by omega⟩
  have htb : am_tab 161 = at_161 := rfl
  refine ⟨Nat.le_of_ble_eq_true rfl, ?_⟩
  unfold fn_X9_doFeast at h
  show am_Go d 161 (0, [some (.inr (.inr (some (9, 0)))), some (.inl a1)], [], am_mk m) _ _ 0 0
  refine am_Go.n htb 1 (S' := (1, [some (.inr (.inr (some (9, 0)))), some (.inl a1)], [.inl a1], am_mk m)) rfl ?_
  by_cases hc1 : a1 < 0
  · rw [if_pos hc1] at h
    refine am_Go.c1 htb (S' := (10, [some (.inr (.inr (some (9, 0)))), some (.inl a1)], [], am_mk m)) (if_pos hc1) ?_
    refine am_Go.n htb 1 (S' := (11, [some (.inr (.inr (some (9, 0)))), some (.inl a1)], [.inl (-1)], am_mk m)) rfl ?_
    cases h
    exact am_Go.rt htb rfl
  · rw [if_neg hc1] at h
    refine am_Go.c1 htb (S' := (4, [some (.inr (.inr (some (9, 0)))), some (.inl a1)], [], am_mk m)) (if_neg hc1) ?_
    refine am_Go.n htb 2 (S' := (7, [some (.inr (.inr (some (9, 0)))), some (.inl a1)], [.inl 127, .inl a1], am_mk m)) rfl ?_
    by_cases hc2 : a1 ≤ (127 : Int32)
    · rw [if_pos hc2] at h
      refine am_Go.c1 htb (S' := (12, [some (.inr (.inr (some (9, 0)))), some (.inl a1)], [], am_mk m)) (if_pos hc2) ?_
      refine am_Go.n htb 3 (S' := (17, [some (.inr (.inr (some (9, 0)))), some (.inl a1)], [.inl a1, .inr (.inr (some (8, 0)))], am_mk m)) rfl ?_
      obtain ⟨r3, h4, h⟩ := am_bd h
      refine am_Go.cl htb rfl (ex_X8_hasSet d (by omega) 0 a1 m r3 h4) ?_
      show am_Go d 161 (20, [some (.inr (.inr (some (9, 0)))), some (.inl a1)], [.inl r3], am_mk m) _ _ _ _
      by_cases hc5 : r3 ≠ 0
      · rw [if_pos hc5] at h
        refine am_Go.c1 htb (S' := (26, [some (.inr (.inr (some (9, 0)))), some (.inl a1)], [], am_mk m)) (if_pos hc5) ?_
        refine am_Go.n htb 3 (S' := (31, [some (.inr (.inr (some (9, 0)))), some (.inl a1)], [.inl a1, .inr (.inr (some (1, 0)))], am_mk m)) rfl ?_
        obtain ⟨r6, h7, h⟩ := am_bd h
        refine am_Go.cl htb rfl (ex_X1_isTable d (by omega) a1 m r6 h7) ?_
        show am_Go d 161 (34, [some (.inr (.inr (some (9, 0)))), some (.inl a1)], [.inl r6.1], am_mk r6.2) _ _ _ _
        by_cases hc8 : r6.1 ≠ 0
        · rw [if_pos hc8] at h
          refine am_Go.c1 htb (S' := (40, [some (.inr (.inr (some (9, 0)))), some (.inl a1)], [], am_mk r6.2)) (if_pos hc8) ?_
          refine am_Go.n htb 7 (S' := (51, [some (.inr (.inr (some (9, 0)))), some (.inl a1)], [.inr (.inr (some (8, 0))), .inl 0, .inl 0, .inl 1, .inr (.inr (some (3, 0)))], am_mk r6.2)) rfl ?_
          obtain ⟨r9, h10, h⟩ := am_bd h
          refine am_Go.cl htb rfl (ex_X3_keep d (by omega) 0 1 0 0 0 r6.2 r9 h10) ?_
          show am_Go d 161 (54, [some (.inr (.inr (some (9, 0)))), some (.inl a1)], [], am_mk r9) _ _ _ _
          refine am_Go.n htb 3 (S' := (59, [some (.inr (.inr (some (9, 0)))), some (.inl a1)], [.inl a1, .inr (.inr (some (1, 0)))], am_mk r9)) rfl ?_
          obtain ⟨r11, h12, h⟩ := am_bd h
          refine am_Go.cl htb rfl (ex_X1_feedTable d (by omega) a1 r9 r11 h12) ?_
          show am_Go d 161 (62, [some (.inr (.inr (some (9, 0)))), some (.inl a1)], [], am_mk r11) _ _ _ _
          refine am_Go.n htb 1 (S' := (63, [some (.inr (.inr (some (9, 0)))), some (.inl a1)], [.inl a1], am_mk r11)) rfl ?_
          obtain ⟨r13, h14, h⟩ := am_bd h
          refine am_Go.cl htb rfl (ex_J6_bitCount_0f7a4 d (by omega) a1 r11 r13 h14) ?_
          show am_Go d 161 (66, [some (.inr (.inr (some (9, 0)))), some (.inl a1)], [.inl r13], am_mk r11) _ _ _ _
          cases h
          exact am_Go.rt htb rfl
        · rw [if_neg hc8] at h
          refine am_Go.c1 htb (S' := (37, [some (.inr (.inr (some (9, 0)))), some (.inl a1)], [], am_mk r6.2)) (if_neg hc8) ?_
          refine am_Go.n htb 1 (S' := (39, [some (.inr (.inr (some (9, 0)))), some (.inl a1)], [.inl (-3)], am_mk r6.2)) rfl ?_
          cases h
          exact am_Go.rt htb rfl
      · rw [if_neg hc5] at h
        refine am_Go.c1 htb (S' := (23, [some (.inr (.inr (some (9, 0)))), some (.inl a1)], [], am_mk m)) (if_neg hc5) ?_
        refine am_Go.n htb 1 (S' := (25, [some (.inr (.inr (some (9, 0)))), some (.inl a1)], [.inl (-2)], am_mk m)) rfl ?_
        cases h
        exact am_Go.rt htb rfl
    · rw [if_neg hc2] at h
      refine am_Go.c1 htb (S' := (10, [some (.inr (.inr (some (9, 0)))), some (.inl a1)], [], am_mk m)) (if_neg hc2) ?_
      refine am_Go.n htb 1 (S' := (11, [some (.inr (.inr (some (9, 0)))), some (.inl a1)], [.inl (-1)], am_mk m)) rfl ?_
      cases h
      exact am_Go.rt htb rfl
-- X9_doPardon
set_option maxRecDepth 100000 in
theorem ex_X9_doPardon (d : Nat) (hd : 4 ≤ d) (a1 : Int32) (a2 : Int32) (m : am_m) (t : Int32 × am_m) (h : fn_X9_doPardon a1 a2 m = some t) : am_Ex am_cod d 162 [.inr (.inr (some (9, 0))), .inl a1, .inl a2] (am_mk m) (some (.inl t.1)) (am_mk t.2) 0 0 := by
  obtain ⟨d, rfl⟩ : ∃ e, d = e + 1 := ⟨d - 1, by omega⟩
  have htb : am_tab 162 = at_162 := rfl
  refine ⟨Nat.le_of_ble_eq_true rfl, ?_⟩
  unfold fn_X9_doPardon at h
  show am_Go d 162 (0, [some (.inr (.inr (some (9, 0)))), some (.inl a1), some (.inl a2), none], [], am_mk m) _ _ 0 0
  refine am_Go.n htb 2 (S' := (2, [some (.inr (.inr (some (9, 0)))), some (.inl a1), some (.inl a2), none], [.inl a2, .inl a1], am_mk m)) rfl ?_
  by_cases hc1 : a1 ≠ a2
  · rw [if_pos hc1] at h
    refine am_Go.c1 htb (S' := (7, [some (.inr (.inr (some (9, 0)))), some (.inl a1), some (.inl a2), none], [], am_mk m)) (if_pos hc1) ?_
    refine am_Go.n htb 4 (S' := (13, [some (.inr (.inr (some (9, 0)))), some (.inl a1), some (.inl a2), none], [.inl a2, .inl a1, .inr (.inr (some (8, 0)))], am_mk m)) rfl ?_
    obtain ⟨r2, h3, h⟩ := am_bd h
    refine am_Go.cl htb rfl (ex_X8_hasTwo d (by omega) 0 a1 a2 m r2 h3) ?_
    show am_Go d 162 (16, [some (.inr (.inr (some (9, 0)))), some (.inl a1), some (.inl a2), none], [.inl r2], am_mk m) _ _ _ _
    by_cases hc4 : r2 ≠ 0
    · rw [if_pos hc4] at h
      refine am_Go.c1 htb (S' := (22, [some (.inr (.inr (some (9, 0)))), some (.inl a1), some (.inl a2), none], [], am_mk m)) (if_pos hc4) ?_
      refine am_Go.n htb 4 (S' := (28, [some (.inr (.inr (some (9, 0)))), some (.inl a1), some (.inl a2), none], [.inl a2, .inl a1, .inr (.inr (some (8, 0)))], am_mk m)) rfl ?_
      obtain ⟨r5, h6, h⟩ := am_bd h
      refine am_Go.cl htb rfl (ex_X8_weightOf d (by omega) 0 a1 a2 m r5 h6) ?_
      show am_Go d 162 (31, [some (.inr (.inr (some (9, 0)))), some (.inl a1), some (.inl a2), none], [.inl r5], am_mk m) _ _ _ _
      refine am_Go.n htb 2 (S' := (33, [some (.inr (.inr (some (9, 0)))), some (.inl a1), some (.inl a2), some (.inl r5)], [.inl r5], am_mk m)) rfl ?_
      by_cases hc7 : r5 ≠ 0
      · rw [if_pos hc7] at h
        refine am_Go.c1 htb (S' := (39, [some (.inr (.inr (some (9, 0)))), some (.inl a1), some (.inl a2), some (.inl r5)], [], am_mk m)) (if_pos hc7) ?_
        refine am_Go.n htb 7 (S' := (50, [some (.inr (.inr (some (9, 0)))), some (.inl a1), some (.inl a2), some (.inl r5)], [.inr (.inr (some (8, 0))), .inl a2, .inl a1, .inl 2, .inr (.inr (some (3, 0)))], am_mk m)) rfl ?_
        obtain ⟨r8, h9, h⟩ := am_bd h
        refine am_Go.cl htb rfl (ex_X3_keep d (by omega) 0 2 a1 a2 0 m r8 h9) ?_
        show am_Go d 162 (53, [some (.inr (.inr (some (9, 0)))), some (.inl a1), some (.inl a2), some (.inl r5)], [], am_mk r8) _ _ _ _
        refine am_Go.n htb 6 (S' := (61, [some (.inr (.inr (some (9, 0)))), some (.inl a1), some (.inl a2), some (.inl r5)], [.inl 0, .inl 0, .inl a2, .inl a1, .inr (.inr (some (8, 0)))], am_mk r8)) rfl ?_
        obtain ⟨r10, h11, h⟩ := am_bd h
        refine am_Go.cl htb rfl (ex_X8_setHarm d (by omega) 0 a1 a2 0 0 r8 r10 h11) ?_
        show am_Go d 162 (64, [some (.inr (.inr (some (9, 0)))), some (.inl a1), some (.inl a2), some (.inl r5)], [], am_mk r10) _ _ _ _
        refine am_Go.n htb 1 (S' := (65, [some (.inr (.inr (some (9, 0)))), some (.inl a1), some (.inl a2), some (.inl r5)], [.inl r5], am_mk r10)) rfl ?_
        cases h
        exact am_Go.rt htb rfl
      · rw [if_neg hc7] at h
        refine am_Go.c1 htb (S' := (36, [some (.inr (.inr (some (9, 0)))), some (.inl a1), some (.inl a2), some (.inl r5)], [], am_mk m)) (if_neg hc7) ?_
        refine am_Go.n htb 1 (S' := (38, [some (.inr (.inr (some (9, 0)))), some (.inl a1), some (.inl a2), some (.inl r5)], [.inl (-3)], am_mk m)) rfl ?_
        cases h
        exact am_Go.rt htb rfl
    · rw [if_neg hc4] at h
      refine am_Go.c1 htb (S' := (19, [some (.inr (.inr (some (9, 0)))), some (.inl a1), some (.inl a2), none], [], am_mk m)) (if_neg hc4) ?_
      refine am_Go.n htb 1 (S' := (21, [some (.inr (.inr (some (9, 0)))), some (.inl a1), some (.inl a2), none], [.inl (-2)], am_mk m)) rfl ?_
      cases h
      exact am_Go.rt htb rfl
  · rw [if_neg hc1] at h
    refine am_Go.c1 htb (S' := (5, [some (.inr (.inr (some (9, 0)))), some (.inl a1), some (.inl a2), none], [], am_mk m)) (if_neg hc1) ?_
    refine am_Go.n htb 1 (S' := (6, [some (.inr (.inr (some (9, 0)))), some (.inl a1), some (.inl a2), none], [.inl (-1)], am_mk m)) rfl ?_
    cases h
    exact am_Go.rt htb rfl
-- X9_doPass
set_option maxRecDepth 100000 in
theorem ex_X9_doPass (d : Nat) (hd : 6 ≤ d)  (m : am_m) (t : Int32 × am_m) (h : fn_X9_doPass  m = some t) : am_Ex am_cod d 163 [.inr (.inr (some (9, 0)))] (am_mk m) (some (.inl t.1)) (am_mk t.2) 0 0 := by
  obtain ⟨d, rfl⟩ : ∃ e, d = e + 1 := ⟨d - 1, by omega⟩
  have htb : am_tab 163 = at_163 := rfl
  refine ⟨Nat.le_of_ble_eq_true rfl, ?_⟩
  unfold fn_X9_doPass at h
  show am_Go d 163 (0, [some (.inr (.inr (some (9, 0))))], [], am_mk m) _ _ 0 0
  refine am_Go.n htb 6 (S' := (12, [some (.inr (.inr (some (9, 0))))], [.inl 999, .inl (m.1 39 0 0)], am_mk m)) rfl ?_
  by_cases hc1 : (m.1 39 0 0) < (999 : Int32)
  · rw [if_pos hc1] at h
    refine am_Go.c1 htb (S' := (18, [some (.inr (.inr (some (9, 0))))], [], am_mk m)) (if_pos hc1) ?_
    refine am_Go.n htb 7 (S' := (29, [some (.inr (.inr (some (9, 0))))], [.inr (.inr (some (8, 0))), .inl 0, .inl 0, .inl 3, .inr (.inr (some (3, 0)))], am_mk m)) rfl ?_
    obtain ⟨r2, h3, h⟩ := am_bd h
    refine am_Go.cl htb rfl (ex_X3_keep d (by omega) 0 3 0 0 0 m r2 h3) ?_
    show am_Go d 163 (32, [some (.inr (.inr (some (9, 0))))], [], am_mk r2) _ _ _ _
    refine am_Go.n htb 2 (S' := (36, [some (.inr (.inr (some (9, 0))))], [.inr (.inr (some (1, 0)))], am_mk r2)) rfl ?_
    obtain ⟨r4, h5, h⟩ := am_bd h
    refine am_Go.cl htb rfl (ex_X1_passDay d (by omega)  r2 r4 h5) ?_
    show am_Go d 163 (39, [some (.inr (.inr (some (9, 0))))], [], am_mk r4) _ _ _ _
    refine am_Go.n htb 2 (S' := (43, [some (.inr (.inr (some (9, 0))))], [.inr (.inr (some (8, 0)))], am_mk r4)) rfl ?_
    obtain ⟨r6, h7, h⟩ := am_bd h
    refine am_Go.cl htb rfl (ex_X8_starving d (by omega) 0 r4 r6 h7) ?_
    show am_Go d 163 (46, [some (.inr (.inr (some (9, 0))))], [.inl r6], am_mk r4) _ _ _ _
    cases h
    exact am_Go.rt htb rfl
  · rw [if_neg hc1] at h
    refine am_Go.c1 htb (S' := (15, [some (.inr (.inr (some (9, 0))))], [], am_mk m)) (if_neg hc1) ?_
    refine am_Go.n htb 1 (S' := (17, [some (.inr (.inr (some (9, 0))))], [.inl (-3)], am_mk m)) rfl ?_
    cases h
    exact am_Go.rt htb rfl
-- X9_fillOrderWords
set_option maxRecDepth 100000 in
theorem lt_X9_fillOrderWords_43 (d : Nat) (hd : 5 ≤ d + 1) {r : Option am_V} {M' : am_M} {kc ks : Nat} {n : Nat} {x1 : Int32} {x2 : Int32} {m : am_m} {t : am_m} (h : lp_X9_fillOrderWords_43 n x1 x2 m = some t) (hk : am_Go d 165 (96, [some (.inr (.inr (some (9, 0)))), some (.inl x1), none, none], [], am_mk t) r M' kc ks) : am_Go d 165 (43, [some (.inr (.inr (some (9, 0)))), some (.inl x1), some (.inl x2), none], [], am_mk m) r M' kc ks := by
  have htb : am_tab 165 = at_165 := rfl
  induction n generalizing x2 m with
  | zero => cases h
  | succ n ih =>
    unfold lp_X9_fillOrderWords_43 at h
    refine am_Go.n htb 2 (S' := (46, [some (.inr (.inr (some (9, 0)))), some (.inl x1), some (.inl x2), none], [.inl 7, .inl x2], am_mk m)) rfl ?_
    by_cases hc5 : (7 : Int32) ≤ x2
    · rw [if_pos hc5] at h
      refine am_Go.c1 htb (S' := (96, [some (.inr (.inr (some (9, 0)))), some (.inl x1), some (.inl x2), none], [], am_mk m)) (if_pos hc5) ?_
      cases h
      exact am_Go.fg (by exact ⟨rfl, ⟨rfl, trivial⟩⟩) hk
    · rw [if_neg hc5] at h
      refine am_Go.c1 htb (S' := (49, [some (.inr (.inr (some (9, 0)))), some (.inl x1), some (.inl x2), none], [], am_mk m)) (if_neg hc5) ?_
      refine am_Go.n htb 8 (S' := (61, [some (.inr (.inr (some (9, 0)))), some (.inl x1), some (.inl x2), none], [.inl x2, .inr (.inr (some (8, 0))), .inl ((5 : Int32) + x2), .inr (.inr (some (41, 0)))], am_mk m)) rfl ?_
      obtain ⟨r6, h7, h⟩ := am_bd h
      refine am_Go.cl htb rfl (ex_X8_fedOf d (by omega) 0 x2 m r6 h7) ?_
      show am_Go d 165 (64, [some (.inr (.inr (some (9, 0)))), some (.inl x1), some (.inl x2), none], [.inl r6, .inl ((5 : Int32) + x2), .inr (.inr (some (41, 0)))], am_mk m) _ _ _ _
      obtain ⟨hg8, h⟩ := am_ck_some h
      refine am_Go.c1 htb (S' := (65, [some (.inr (.inr (some (9, 0)))), some (.inl x1), some (.inl x2), none], [], am_mk (am_si m 41 0 ((5 : Int32) + x2).toNatClampNeg r6))) (if_neg hg8) ?_
      refine am_Go.n htb 8 (S' := (78, [some (.inr (.inr (some (9, 0)))), some (.inl x1), some (.inl x2), none], [.inl x2, .inr (.inr (some (8, 0))), .inl ((12 : Int32) + x2), .inr (.inr (some (41, 0)))], am_mk (am_si m 41 0 ((5 : Int32) + x2).toNatClampNeg r6))) rfl ?_
      obtain ⟨r9, h10, h⟩ := am_bd h
      refine am_Go.cl htb rfl (ex_X8_has d (by omega) 0 x2 (am_si m 41 0 ((5 : Int32) + x2).toNatClampNeg r6) r9 h10) ?_
      show am_Go d 165 (81, [some (.inr (.inr (some (9, 0)))), some (.inl x1), some (.inl x2), none], [.inl r9, .inl ((12 : Int32) + x2), .inr (.inr (some (41, 0)))], am_mk (am_si m 41 0 ((5 : Int32) + x2).toNatClampNeg r6)) _ _ _ _
      refine am_Go.cut (S := (89, [some (.inr (.inr (some (9, 0)))), some (.inl x1), some (.inl x2), none], [.inl (if r9 = 0 then (-1 : Int32) else (0 : Int32)), .inl ((12 : Int32) + x2), .inr (.inr (some (41, 0)))], am_mk (am_si m 41 0 ((5 : Int32) + x2).toNatClampNeg r6))) ?_ (fun key => ?_)
      · obtain ⟨hg12, h⟩ := am_ck_some h
        refine am_Go.c1 htb (S' := (90, [some (.inr (.inr (some (9, 0)))), some (.inl x1), some (.inl x2), none], [], am_mk (am_si (am_si m 41 0 ((5 : Int32) + x2).toNatClampNeg r6) 41 0 ((12 : Int32) + x2).toNatClampNeg (if r9 = 0 then (-1 : Int32) else (0 : Int32))))) (if_neg hg12) ?_
        refine am_Go.n htb 2 (S' := (43, [some (.inr (.inr (some (9, 0)))), some (.inl x1), some (.inl (x2 + 1)), none], [], am_mk (am_si (am_si m 41 0 ((5 : Int32) + x2).toNatClampNeg r6) 41 0 ((12 : Int32) + x2).toNatClampNeg (if r9 = 0 then (-1 : Int32) else (0 : Int32))))) rfl ?_
        first | exact ih h | exact ih h hk
      · by_cases hc11 : r9 = 0
        · refine am_Go.c1 htb (S' := (88, [some (.inr (.inr (some (9, 0)))), some (.inl x1), some (.inl x2), none], [.inl ((12 : Int32) + x2), .inr (.inr (some (41, 0)))], am_mk (am_si m 41 0 ((5 : Int32) + x2).toNatClampNeg r6))) (if_pos hc11) ?_
          refine am_Go.n htb 1 (S' := (89, [some (.inr (.inr (some (9, 0)))), some (.inl x1), some (.inl x2), none], [.inl (-1), .inl ((12 : Int32) + x2), .inr (.inr (some (41, 0)))], am_mk (am_si m 41 0 ((5 : Int32) + x2).toNatClampNeg r6))) rfl ?_
          simp only [if_pos hc11] at key
          exact am_Go.fg (by exact ⟨rfl, ⟨rfl, ⟨rfl, trivial⟩⟩⟩) key
        · refine am_Go.c1 htb (S' := (84, [some (.inr (.inr (some (9, 0)))), some (.inl x1), some (.inl x2), none], [.inl ((12 : Int32) + x2), .inr (.inr (some (41, 0)))], am_mk (am_si m 41 0 ((5 : Int32) + x2).toNatClampNeg r6))) (if_neg hc11) ?_
          refine am_Go.n htb 2 (S' := (89, [some (.inr (.inr (some (9, 0)))), some (.inl x1), some (.inl x2), none], [.inl 0, .inl ((12 : Int32) + x2), .inr (.inr (some (41, 0)))], am_mk (am_si m 41 0 ((5 : Int32) + x2).toNatClampNeg r6))) rfl ?_
          simp only [if_neg hc11] at key
          exact am_Go.fg (by exact ⟨rfl, ⟨rfl, ⟨rfl, trivial⟩⟩⟩) key
set_option maxRecDepth 100000 in
theorem lt_X9_fillOrderWords_108 (d : Nat) (hd : 5 ≤ d + 1) {r : Option am_V} {M' : am_M} {kc ks : Nat} {n : Nat} {x1 : Int32} {x2 : Int32} {x3 : Int32} {m : am_m} {t : am_m} (h : lp_X9_fillOrderWords_108 n x1 x2 x3 m = some t) (hk : am_Go d 165 (182, [some (.inr (.inr (some (9, 0)))), some (.inl x1), some (.inl x2), none], [], am_mk t) r M' kc ks) : am_Go d 165 (108, [some (.inr (.inr (some (9, 0)))), some (.inl x1), some (.inl x2), some (.inl x3)], [], am_mk m) r M' kc ks := by
  have htb : am_tab 165 = at_165 := rfl
  induction n generalizing x3 m with
  | zero => cases h
  | succ n ih =>
    unfold lp_X9_fillOrderWords_108 at h
    refine am_Go.n htb 4 (S' := (116, [some (.inr (.inr (some (9, 0)))), some (.inl x1), some (.inl x2), some (.inl x3)], [.inl (m.1 8 0 0), .inl x3], am_mk m)) rfl ?_
    by_cases hc16 : (m.1 8 0 0) ≤ x3
    · rw [if_pos hc16] at h
      refine am_Go.c1 htb (S' := (182, [some (.inr (.inr (some (9, 0)))), some (.inl x1), some (.inl x2), some (.inl x3)], [], am_mk m)) (if_pos hc16) ?_
      cases h
      exact am_Go.fg (by exact ⟨rfl, ⟨rfl, ⟨rfl, trivial⟩⟩⟩) hk
    · rw [if_neg hc16] at h
      refine am_Go.c1 htb (S' := (119, [some (.inr (.inr (some (9, 0)))), some (.inl x1), some (.inl x2), some (.inl x3)], [], am_mk m)) (if_neg hc16) ?_
      refine am_Go.n htb 12 (S' := (131, [some (.inr (.inr (some (9, 0)))), some (.inl x1), some (.inl x2), some (.inl x3)], [.inl 1, .inl (((x1 >>> (x2 &&& 31)) &&& (1 : Int32)) ||| ((x1 >>> (x3 &&& 31)) &&& (1 : Int32)))], am_mk m)) rfl ?_
      obtain ⟨q25, h26, h⟩ := am_bd h
      refine am_Go.cut (S := (176, [some (.inr (.inr (some (9, 0)))), some (.inl x1), some (.inl x2), some (.inl x3)], [], am_mk q25)) ?_ (fun key => ?_)
      · refine am_Go.n htb 2 (S' := (108, [some (.inr (.inr (some (9, 0)))), some (.inl x1), some (.inl x2), some (.inl (x3 + 1))], [], am_mk q25)) rfl ?_
        first | exact ih h | exact ih h hk
      · have h := h26
        by_cases hc17 : (((x1 >>> (x2 &&& 31)) &&& (1 : Int32)) ||| ((x1 >>> (x3 &&& 31)) &&& (1 : Int32))) ≠ (1 : Int32)
        · rw [if_pos hc17] at h
          refine am_Go.c1 htb (S' := (176, [some (.inr (.inr (some (9, 0)))), some (.inl x1), some (.inl x2), some (.inl x3)], [], am_mk m)) (if_pos hc17) ?_
          cases h
          exact am_Go.fg (by exact ⟨rfl, ⟨rfl, ⟨rfl, ⟨rfl, trivial⟩⟩⟩⟩) key
        · rw [if_neg hc17] at h
          refine am_Go.c1 htb (S' := (134, [some (.inr (.inr (some (9, 0)))), some (.inl x1), some (.inl x2), some (.inl x3)], [], am_mk m)) (if_neg hc17) ?_
          refine am_Go.n htb 4 (S' := (140, [some (.inr (.inr (some (9, 0)))), some (.inl x1), some (.inl x2), some (.inl x3)], [.inl x3, .inl x2, .inr (.inr (some (1, 0)))], am_mk m)) rfl ?_
          obtain ⟨r18, h19, h⟩ := am_bd h
          refine am_Go.cl htb rfl (ex_X1_maySit d (by omega) x2 x3 m r18 h19) ?_
          show am_Go d 165 (143, [some (.inr (.inr (some (9, 0)))), some (.inl x1), some (.inl x2), some (.inl x3)], [.inl r18.1], am_mk r18.2) _ _ _ _
          by_cases hc20 : r18.1 = 0
          · rw [if_pos hc20] at h
            refine am_Go.c1 htb (S' := (176, [some (.inr (.inr (some (9, 0)))), some (.inl x1), some (.inl x2), some (.inl x3)], [], am_mk r18.2)) (if_pos hc20) ?_
            cases h
            exact am_Go.fg (by exact ⟨rfl, ⟨rfl, ⟨rfl, ⟨rfl, trivial⟩⟩⟩⟩) key
          · rw [if_neg hc20] at h
            refine am_Go.c1 htb (S' := (146, [some (.inr (.inr (some (9, 0)))), some (.inl x1), some (.inl x2), some (.inl x3)], [], am_mk r18.2)) (if_neg hc20) ?_
            refine am_Go.n htb 6 (S' := (155, [some (.inr (.inr (some (9, 0)))), some (.inl x1), some (.inl x2), some (.inl x3)], [.inl ((12 : Int32) + x2), .inr (.inr (some (41, 0))), .inl ((12 : Int32) + x2), .inr (.inr (some (41, 0)))], am_mk r18.2)) rfl ?_
            obtain ⟨hg21, h⟩ := am_ck_some h
            refine am_Go.c1 htb (S' := (156, [some (.inr (.inr (some (9, 0)))), some (.inl x1), some (.inl x2), some (.inl x3)], [.inl (r18.2.1 41 0 ((12 : Int32) + x2).toNatClampNeg), .inl ((12 : Int32) + x2), .inr (.inr (some (41, 0)))], am_mk r18.2)) (if_neg hg21) ?_
            refine am_Go.n htb 4 (S' := (160, [some (.inr (.inr (some (9, 0)))), some (.inl x1), some (.inl x2), some (.inl x3)], [.inl ((r18.2.1 41 0 ((12 : Int32) + x2).toNatClampNeg) ||| ((1 : Int32) <<< (x3 &&& 31))), .inl ((12 : Int32) + x2), .inr (.inr (some (41, 0)))], am_mk r18.2)) rfl ?_
            obtain ⟨hg22, h⟩ := am_ck_some h
            refine am_Go.c1 htb (S' := (161, [some (.inr (.inr (some (9, 0)))), some (.inl x1), some (.inl x2), some (.inl x3)], [], am_mk (am_si r18.2 41 0 ((12 : Int32) + x2).toNatClampNeg ((r18.2.1 41 0 ((12 : Int32) + x2).toNatClampNeg) ||| ((1 : Int32) <<< (x3 &&& 31)))))) (if_neg hg22) ?_
            refine am_Go.n htb 6 (S' := (170, [some (.inr (.inr (some (9, 0)))), some (.inl x1), some (.inl x2), some (.inl x3)], [.inl ((12 : Int32) + x3), .inr (.inr (some (41, 0))), .inl ((12 : Int32) + x3), .inr (.inr (some (41, 0)))], am_mk (am_si r18.2 41 0 ((12 : Int32) + x2).toNatClampNeg ((r18.2.1 41 0 ((12 : Int32) + x2).toNatClampNeg) ||| ((1 : Int32) <<< (x3 &&& 31)))))) rfl ?_
            obtain ⟨hg23, h⟩ := am_ck_some h
            refine am_Go.c1 htb (S' := (171, [some (.inr (.inr (some (9, 0)))), some (.inl x1), some (.inl x2), some (.inl x3)], [.inl ((am_si r18.2 41 0 ((12 : Int32) + x2).toNatClampNeg ((r18.2.1 41 0 ((12 : Int32) + x2).toNatClampNeg) ||| ((1 : Int32) <<< (x3 &&& 31)))).1 41 0 ((12 : Int32) + x3).toNatClampNeg), .inl ((12 : Int32) + x3), .inr (.inr (some (41, 0)))], am_mk (am_si r18.2 41 0 ((12 : Int32) + x2).toNatClampNeg ((r18.2.1 41 0 ((12 : Int32) + x2).toNatClampNeg) ||| ((1 : Int32) <<< (x3 &&& 31)))))) (if_neg hg23) ?_
            refine am_Go.n htb 4 (S' := (175, [some (.inr (.inr (some (9, 0)))), some (.inl x1), some (.inl x2), some (.inl x3)], [.inl (((am_si r18.2 41 0 ((12 : Int32) + x2).toNatClampNeg ((r18.2.1 41 0 ((12 : Int32) + x2).toNatClampNeg) ||| ((1 : Int32) <<< (x3 &&& 31)))).1 41 0 ((12 : Int32) + x3).toNatClampNeg) ||| ((1 : Int32) <<< (x2 &&& 31))), .inl ((12 : Int32) + x3), .inr (.inr (some (41, 0)))], am_mk (am_si r18.2 41 0 ((12 : Int32) + x2).toNatClampNeg ((r18.2.1 41 0 ((12 : Int32) + x2).toNatClampNeg) ||| ((1 : Int32) <<< (x3 &&& 31)))))) rfl ?_
            obtain ⟨hg24, h⟩ := am_ck_some h
            refine am_Go.c1 htb (S' := (176, [some (.inr (.inr (some (9, 0)))), some (.inl x1), some (.inl x2), some (.inl x3)], [], am_mk (am_si (am_si r18.2 41 0 ((12 : Int32) + x2).toNatClampNeg ((r18.2.1 41 0 ((12 : Int32) + x2).toNatClampNeg) ||| ((1 : Int32) <<< (x3 &&& 31)))) 41 0 ((12 : Int32) + x3).toNatClampNeg (((am_si r18.2 41 0 ((12 : Int32) + x2).toNatClampNeg ((r18.2.1 41 0 ((12 : Int32) + x2).toNatClampNeg) ||| ((1 : Int32) <<< (x3 &&& 31)))).1 41 0 ((12 : Int32) + x3).toNatClampNeg) ||| ((1 : Int32) <<< (x2 &&& 31)))))) (if_neg hg24) ?_
            cases h
            exact am_Go.fg (by exact ⟨rfl, ⟨rfl, ⟨rfl, ⟨rfl, trivial⟩⟩⟩⟩) key
set_option maxRecDepth 100000 in
theorem lt_X9_fillOrderWords_98 (d : Nat) (hd : 5 ≤ d + 1) {r : Option am_V} {M' : am_M} {kc ks : Nat} {n : Nat} {x1 : Int32} {x2 : Int32} {m : am_m} {t : am_m} (h : lp_X9_fillOrderWords_98 n x1 x2 m = some t) (hk : am_Go d 165 (188, [some (.inr (.inr (some (9, 0)))), some (.inl x1), none, none], [], am_mk t) r M' kc ks) : am_Go d 165 (98, [some (.inr (.inr (some (9, 0)))), some (.inl x1), some (.inl x2), none], [], am_mk m) r M' kc ks := by
  have htb : am_tab 165 = at_165 := rfl
  induction n generalizing x2 m with
  | zero => cases h
  | succ n ih =>
    unfold lp_X9_fillOrderWords_98 at h
    refine am_Go.n htb 2 (S' := (101, [some (.inr (.inr (some (9, 0)))), some (.inl x1), some (.inl x2), none], [.inl 7, .inl x2], am_mk m)) rfl ?_
    by_cases hc15 : (7 : Int32) ≤ x2
    · rw [if_pos hc15] at h
      refine am_Go.c1 htb (S' := (188, [some (.inr (.inr (some (9, 0)))), some (.inl x1), some (.inl x2), none], [], am_mk m)) (if_pos hc15) ?_
      cases h
      exact am_Go.fg (by exact ⟨rfl, ⟨rfl, trivial⟩⟩) hk
    · rw [if_neg hc15] at h
      refine am_Go.c1 htb (S' := (104, [some (.inr (.inr (some (9, 0)))), some (.inl x1), some (.inl x2), none], [], am_mk m)) (if_neg hc15) ?_
      refine am_Go.n htb 4 (S' := (108, [some (.inr (.inr (some (9, 0)))), some (.inl x1), some (.inl x2), some (.inl (x2 + (1 : Int32)))], [], am_mk m)) rfl ?_
      obtain ⟨q27, h28, h⟩ := am_bd h
      refine lt_X9_fillOrderWords_108 _ hd (h := h28) (hk := ?_)
      refine am_Go.n htb 2 (S' := (98, [some (.inr (.inr (some (9, 0)))), some (.inl x1), some (.inl (x2 + 1)), none], [], am_mk q27)) rfl ?_
      first | exact ih h | exact ih h hk
set_option maxRecDepth 100000 in
theorem ex_X9_fillOrderWords (d : Nat) (hd : 5 ≤ d) (a1 : Int32) (m : am_m) (t : am_m) (h : fn_X9_fillOrderWords a1 m = some t) : am_Ex am_cod d 165 [.inr (.inr (some (9, 0))), .inl a1] (am_mk m) (none) (am_mk t) 0 0 := by
  obtain ⟨d, rfl⟩ : ∃ e, d = e + 1 := ⟨d - 1, by omega⟩
  have htb : am_tab 165 = at_165 := rfl
  refine ⟨Nat.le_of_ble_eq_true rfl, ?_⟩
  unfold fn_X9_fillOrderWords at h
  show am_Go d 165 (0, [some (.inr (.inr (some (9, 0)))), some (.inl a1), none, none], [], am_mk m) _ _ 0 0
  refine am_Go.n htb 14 (S' := (24, [some (.inr (.inr (some (9, 0)))), some (.inl a1), none, none], [.inr (.inr (some (8, 0))), .inl 3, .inr (.inr (some (41, 0)))], am_mk (am_si m 41 0 0 (m.1 39 0 0)))) rfl ?_
  obtain ⟨r1, h2, h⟩ := am_bd h
  refine am_Go.cl htb rfl (ex_X8_harmCount d (by omega) 0 (am_si m 41 0 0 (m.1 39 0 0)) r1 h2) ?_
  show am_Go d 165 (27, [some (.inr (.inr (some (9, 0)))), some (.inl a1), none, none], [.inl r1, .inl 3, .inr (.inr (some (41, 0)))], am_mk (am_si m 41 0 0 (m.1 39 0 0))) _ _ _ _
  refine am_Go.n htb 6 (S' := (37, [some (.inr (.inr (some (9, 0)))), some (.inl a1), none, none], [.inr (.inr (some (8, 0))), .inl 4, .inr (.inr (some (41, 0)))], am_mk (am_si (am_si m 41 0 0 (m.1 39 0 0)) 41 0 3 r1))) rfl ?_
  obtain ⟨r3, h4, h⟩ := am_bd h
  refine am_Go.cl htb rfl (ex_X8_starving d (by omega) 0 (am_si (am_si m 41 0 0 (m.1 39 0 0)) 41 0 3 r1) r3 h4) ?_
  show am_Go d 165 (40, [some (.inr (.inr (some (9, 0)))), some (.inl a1), none, none], [.inl r3, .inl 4, .inr (.inr (some (41, 0)))], am_mk (am_si (am_si m 41 0 0 (m.1 39 0 0)) 41 0 3 r1)) _ _ _ _
  refine am_Go.n htb 3 (S' := (43, [some (.inr (.inr (some (9, 0)))), some (.inl a1), some (.inl 0), none], [], am_mk (am_si (am_si (am_si m 41 0 0 (m.1 39 0 0)) 41 0 3 r1) 41 0 4 r3))) rfl ?_
  obtain ⟨q13, h14, h⟩ := am_bd h
  refine lt_X9_fillOrderWords_43 _ hd (h := h14) (hk := ?_)
  refine am_Go.n htb 2 (S' := (98, [some (.inr (.inr (some (9, 0)))), some (.inl a1), some (.inl 0), none], [], am_mk q13)) rfl ?_
  obtain ⟨q29, h30, h⟩ := am_bd h
  refine lt_X9_fillOrderWords_98 _ hd (h := h30) (hk := ?_)
  cases h
  exact am_Go.rt htb rfl
