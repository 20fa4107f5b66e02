-- X10_findParts
set_option maxRecDepth 100000 in
theorem lt_X10_findParts_111 (d : Nat) (hd : 4 ≤ d + 1) {r : Option am_V} {M' : am_M} {kc ks : Nat} {n : Nat} {x1 : Int32} {x2 : Int32} {x3 : Int32} {x4 : Int32} {m : am_m} {t : am_m} (h : lp_X10_findParts_111 n x1 x2 x3 x4 m = some t) (hk : am_Go d 259 (145, [some (.inr (.inr (some (10, 0)))), some (.inl x1), some (.inl x2), some (.inl x3), none], [], am_mk t) r M' kc ks) : am_Go d 259 (111, [some (.inr (.inr (some (10, 0)))), some (.inl x1), some (.inl x2), some (.inl x3), some (.inl x4)], [], am_mk m) r M' kc ks := by
  have htb : am_tab 259 = at_259 := rfl
  induction n generalizing x4 m with
  | zero => cases h
  | succ n ih =>
    unfold lp_X10_findParts_111 at h
    refine am_Go.n htb 2 (S' := (114, [some (.inr (.inr (some (10, 0)))), some (.inl x1), some (.inl x2), some (.inl x3), some (.inl x4)], [.inl x2, .inl x4], am_mk m)) rfl ?_
    by_cases hc16 : x2 ≤ x4
    · rw [if_pos hc16] at h
      refine am_Go.c1 htb (S' := (145, [some (.inr (.inr (some (10, 0)))), some (.inl x1), some (.inl x2), some (.inl x3), some (.inl x4)], [], am_mk m)) (if_pos hc16) ?_
      cases h
      exact am_Go.fg (by exact ⟨rfl, ⟨rfl, ⟨rfl, ⟨rfl, trivial⟩⟩⟩⟩) hk
    · rw [if_neg hc16] at h
      refine am_Go.c1 htb (S' := (117, [some (.inr (.inr (some (10, 0)))), some (.inl x1), some (.inl x2), some (.inl x3), some (.inl x4)], [], am_mk m)) (if_neg hc16) ?_
      refine am_Go.n htb 3 (S' := (122, [some (.inr (.inr (some (10, 0)))), some (.inl x1), some (.inl x2), some (.inl x3), some (.inl x4)], [.inl (m.1 10 0 46), .inl x3], am_mk m)) rfl ?_
      by_cases hc17 : (m.1 10 0 46) ≤ x3
      · rw [if_pos hc17] at h
        refine am_Go.c1 htb (S' := (145, [some (.inr (.inr (some (10, 0)))), some (.inl x1), some (.inl x2), some (.inl x3), some (.inl x4)], [], am_mk m)) (if_pos hc17) ?_
        cases h
        exact am_Go.fg (by exact ⟨rfl, ⟨rfl, ⟨rfl, ⟨rfl, trivial⟩⟩⟩⟩) hk
      · rw [if_neg hc17] at h
        refine am_Go.c1 htb (S' := (125, [some (.inr (.inr (some (10, 0)))), some (.inl x1), some (.inl x2), some (.inl x3), some (.inl x4)], [], am_mk m)) (if_neg hc17) ?_
        refine am_Go.n htb 6 (S' := (137, [some (.inr (.inr (some (10, 0)))), some (.inl x1), some (.inl x2), some (.inl x3), some (.inl x4)], [.inl x4, .inr (.inr (some (57, 0))), .inl x4, .inr (.inr (some (58, 0)))], am_mk m)) rfl ?_
        obtain ⟨hg18, h⟩ := am_ck_some h
        refine am_Go.c1 htb (S' := (138, [some (.inr (.inr (some (10, 0)))), some (.inl x1), some (.inl x2), some (.inl x3), some (.inl x4)], [.inl (m.1 57 0 x4.toNatClampNeg), .inl x4, .inr (.inr (some (58, 0)))], am_mk m)) (if_neg hg18) ?_
        obtain ⟨hg19, h⟩ := am_ck_some h
        refine am_Go.c1 htb (S' := (139, [some (.inr (.inr (some (10, 0)))), some (.inl x1), some (.inl x2), some (.inl x3), some (.inl x4)], [], am_mk (am_si m 58 0 x4.toNatClampNeg (m.1 57 0 x4.toNatClampNeg)))) (if_neg hg19) ?_
        refine am_Go.n htb 2 (S' := (111, [some (.inr (.inr (some (10, 0)))), some (.inl x1), some (.inl x2), some (.inl x3), some (.inl (x4 + 1))], [], am_mk (am_si m 58 0 x4.toNatClampNeg (m.1 57 0 x4.toNatClampNeg)))) rfl ?_
        first | exact ih h | exact ih h hk
set_option maxRecDepth 100000 in
theorem lt_X10_findParts_32 (d : Nat) (hd : 4 ≤ d + 1) {r : Option am_V} {M' : am_M} {kc ks : Nat} {n : Nat} {x1 : Int32} {x2 : Int32} {m : am_m} {t : am_m} (h : lp_X10_findParts_32 n x1 x2 m = some t) (hk : am_Go d 259 (168, [some (.inr (.inr (some (10, 0)))), some (.inl x1), none, none, none], [], am_mk t) r M' kc ks) : am_Go d 259 (32, [some (.inr (.inr (some (10, 0)))), some (.inl x1), some (.inl x2), none, none], [], am_mk m) r M' kc ks := by
  have htb : am_tab 259 = at_259 := rfl
  induction n generalizing x2 m with
  | zero => cases h
  | succ n ih =>
    unfold lp_X10_findParts_32 at h
    refine am_Go.n htb 1 (S' := (33, [some (.inr (.inr (some (10, 0)))), some (.inl x1), some (.inl x2), none, none], [.inl x2], am_mk m)) rfl ?_
    by_cases hc3 : x2 < 0
    · rw [if_pos hc3] at h
      refine am_Go.c1 htb (S' := (168, [some (.inr (.inr (some (10, 0)))), some (.inl x1), some (.inl x2), none, none], [], am_mk m)) (if_pos hc3) ?_
      cases h
      exact am_Go.fg (by exact ⟨rfl, ⟨rfl, trivial⟩⟩) hk
    · rw [if_neg hc3] at h
      refine am_Go.c1 htb (S' := (36, [some (.inr (.inr (some (10, 0)))), some (.inl x1), some (.inl x2), none, none], [], am_mk m)) (if_neg hc3) ?_
      refine am_Go.n htb 4 (S' := (42, [some (.inr (.inr (some (10, 0)))), some (.inl x1), some (.inl x2), none, none], [.inl x2, .inr (.inr (some (57, 0))), .inl x2, .inr (.inr (some (57, 0)))], am_mk m)) rfl ?_
      obtain ⟨hg4, h⟩ := am_ck_some h
      refine am_Go.c1 htb (S' := (43, [some (.inr (.inr (some (10, 0)))), some (.inl x1), some (.inl x2), none, none], [.inl (m.1 57 0 x2.toNatClampNeg), .inl x2, .inr (.inr (some (57, 0)))], am_mk m)) (if_neg hg4) ?_
      refine am_Go.n htb 2 (S' := (45, [some (.inr (.inr (some (10, 0)))), some (.inl x1), some (.inl x2), none, none], [.inl ((m.1 57 0 x2.toNatClampNeg) + (1 : Int32)), .inl x2, .inr (.inr (some (57, 0)))], am_mk m)) rfl ?_
      obtain ⟨hg5, h⟩ := am_ck_some h
      refine am_Go.c1 htb (S' := (46, [some (.inr (.inr (some (10, 0)))), some (.inl x1), some (.inl x2), none, none], [], am_mk (am_si m 57 0 x2.toNatClampNeg ((m.1 57 0 x2.toNatClampNeg) + (1 : Int32))))) (if_neg hg5) ?_
      refine am_Go.n htb 5 (S' := (53, [some (.inr (.inr (some (10, 0)))), some (.inl x1), some (.inl x2), none, none], [.inl (m.1 44 0 0), .inl x2], am_mk (am_si m 57 0 x2.toNatClampNeg ((m.1 57 0 x2.toNatClampNeg) + (1 : Int32))))) rfl ?_
      by_cases hc6 : x2 = (m.1 44 0 0)
      · rw [if_pos hc6] at h
        refine am_Go.c1 htb (S' := (70, [some (.inr (.inr (some (10, 0)))), some (.inl x1), some (.inl x2), none, none], [], am_mk (am_si m 57 0 x2.toNatClampNeg ((m.1 57 0 x2.toNatClampNeg) + (1 : Int32))))) (if_pos hc6) ?_
        refine am_Go.o htb (am_o_inc 2 (-1)) rfl (S' := (73, [some (.inr (.inr (some (10, 0)))), some (.inl x1), some (.inl (x2 - 1)), none, none], [], am_mk (am_si m 57 0 x2.toNatClampNeg ((m.1 57 0 x2.toNatClampNeg) + (1 : Int32))))) (am_incn rfl rfl) ?_
        refine am_Go.n htb 1 (S' := (32, [some (.inr (.inr (some (10, 0)))), some (.inl x1), some (.inl (x2 - 1)), none, none], [], am_mk (am_si m 57 0 x2.toNatClampNeg ((m.1 57 0 x2.toNatClampNeg) + (1 : Int32))))) rfl ?_
        first | exact ih h | exact ih h hk
      · rw [if_neg hc6] at h
        refine am_Go.c1 htb (S' := (56, [some (.inr (.inr (some (10, 0)))), some (.inl x1), some (.inl x2), none, none], [], am_mk (am_si m 57 0 x2.toNatClampNeg ((m.1 57 0 x2.toNatClampNeg) + (1 : Int32))))) (if_neg hc6) ?_
        refine am_Go.n htb 3 (S' := (61, [some (.inr (.inr (some (10, 0)))), some (.inl x1), some (.inl x2), none, none], [.inl x2, .inr (.inr (some (57, 0)))], am_mk (am_si m 57 0 x2.toNatClampNeg ((m.1 57 0 x2.toNatClampNeg) + (1 : Int32))))) rfl ?_
        obtain ⟨hg7, h⟩ := am_ck_some h
        refine am_Go.c1 htb (S' := (62, [some (.inr (.inr (some (10, 0)))), some (.inl x1), some (.inl x2), none, none], [.inl ((am_si m 57 0 x2.toNatClampNeg ((m.1 57 0 x2.toNatClampNeg) + (1 : Int32))).1 57 0 x2.toNatClampNeg)], am_mk (am_si m 57 0 x2.toNatClampNeg ((m.1 57 0 x2.toNatClampNeg) + (1 : Int32))))) (if_neg hg7) ?_
        refine am_Go.n htb 2 (S' := (64, [some (.inr (.inr (some (10, 0)))), some (.inl x1), some (.inl x2), none, none], [.inl x2, .inr (.inr (some (10, 0))), .inl ((am_si m 57 0 x2.toNatClampNeg ((m.1 57 0 x2.toNatClampNeg) + (1 : Int32))).1 57 0 x2.toNatClampNeg)], am_mk (am_si m 57 0 x2.toNatClampNeg ((m.1 57 0 x2.toNatClampNeg) + (1 : Int32))))) rfl ?_
        obtain ⟨r8, h9, h⟩ := am_bd h
        refine am_Go.cl htb rfl (ex_X10_setsAhead d (by omega) x2 (am_si m 57 0 x2.toNatClampNeg ((m.1 57 0 x2.toNatClampNeg) + (1 : Int32))) r8 h9) ?_
        show am_Go d 259 (67, [some (.inr (.inr (some (10, 0)))), some (.inl x1), some (.inl x2), none, none], [.inl r8, .inl ((am_si m 57 0 x2.toNatClampNeg ((m.1 57 0 x2.toNatClampNeg) + (1 : Int32))).1 57 0 x2.toNatClampNeg)], am_mk (am_si m 57 0 x2.toNatClampNeg ((m.1 57 0 x2.toNatClampNeg) + (1 : Int32)))) _ _ _ _
        by_cases hc10 : ((am_si m 57 0 x2.toNatClampNeg ((m.1 57 0 x2.toNatClampNeg) + (1 : Int32))).1 57 0 x2.toNatClampNeg) ≤ r8
        · rw [if_pos hc10] at h
          refine am_Go.c1 htb (S' := (76, [some (.inr (.inr (some (10, 0)))), some (.inl x1), some (.inl x2), none, none], [], am_mk (am_si m 57 0 x2.toNatClampNeg ((m.1 57 0 x2.toNatClampNeg) + (1 : Int32))))) (if_pos hc10) ?_
          refine am_Go.n htb 5 (S' := (85, [some (.inr (.inr (some (10, 0)))), some (.inl x1), some (.inl (x2 + 1)), none, none], [.inl (-1), .inl (x2 + 1), .inr (.inr (some (57, 0)))], am_mk (am_si m 57 0 x2.toNatClampNeg ((m.1 57 0 x2.toNatClampNeg) + (1 : Int32))))) rfl ?_
          obtain ⟨hg11, h⟩ := am_ck_some h
          refine am_Go.c1 htb (S' := (86, [some (.inr (.inr (some (10, 0)))), some (.inl x1), some (.inl (x2 + 1)), none, none], [], am_mk (am_si (am_si m 57 0 x2.toNatClampNeg ((m.1 57 0 x2.toNatClampNeg) + (1 : Int32))) 57 0 (x2 + 1).toNatClampNeg (-1)))) (if_neg hg11) ?_
          refine am_Go.n htb 5 (S' := (93, [some (.inr (.inr (some (10, 0)))), some (.inl x1), some (.inl (x2 + 1)), none, none], [.inl (m.1 44 0 0), .inl (x2 + 1)], am_mk (am_si (am_si m 57 0 x2.toNatClampNeg ((m.1 57 0 x2.toNatClampNeg) + (1 : Int32))) 57 0 (x2 + 1).toNatClampNeg (-1)))) rfl ?_
          obtain ⟨q15, h23, h⟩ := am_bd h
          refine am_Go.cut (S := (107, [some (.inr (.inr (some (10, 0)))), some (.inl x1), some (.inl (x2 + 1)), none, none], [.inl q15], am_mk (am_si (am_si m 57 0 x2.toNatClampNeg ((m.1 57 0 x2.toNatClampNeg) + (1 : Int32))) 57 0 (x2 + 1).toNatClampNeg (-1)))) ?_ (fun key => ?_)
          · refine am_Go.n htb 3 (S' := (111, [some (.inr (.inr (some (10, 0)))), some (.inl x1), some (.inl (x2 + 1)), some (.inl q15), some (.inl 0)], [], am_mk (am_si (am_si m 57 0 x2.toNatClampNeg ((m.1 57 0 x2.toNatClampNeg) + (1 : Int32))) 57 0 (x2 + 1).toNatClampNeg (-1)))) rfl ?_
            obtain ⟨q20, h21, h⟩ := am_bd h
            refine lt_X10_findParts_111 _ hd (h := h21) (hk := ?_)
            refine am_Go.n htb 4 (S' := (151, [some (.inr (.inr (some (10, 0)))), some (.inl x1), some (.inl (x2 + 1)), some (.inl q15), none], [.inl (q20.1 10 0 46), .inl q15, .inr (.inr (some (10, 0)))], am_mk q20)) rfl ?_
            refine am_Go.cut (S := (162, [some (.inr (.inr (some (10, 0)))), some (.inl x1), some (.inl (x2 + 1)), some (.inl q15), none], [.inl (if (q20.1 10 0 46) ≤ q15 then (q20.1 10 0 46) else q15), .inr (.inr (some (10, 0)))], am_mk q20)) ?_ (fun key => ?_)
            · refine am_Go.n htb 2 (S' := (32, [some (.inr (.inr (some (10, 0)))), some (.inl x1), some (.inl (x2 + 1)), some (.inl q15), none], [], am_mk (am_si q20 10 0 46 (if (q20.1 10 0 46) ≤ q15 then (q20.1 10 0 46) else q15)))) rfl ?_
              refine am_Go.fg (L0 := [some (.inr (.inr (some (10, 0)))), some (.inl x1), some (.inl (x2 + 1)), none, none]) (by exact ⟨rfl, ⟨rfl, ⟨rfl, trivial⟩⟩⟩) ?_
              first | exact ih h | exact ih h hk
            · by_cases hc22 : (q20.1 10 0 46) ≤ q15
              · refine am_Go.c1 htb (S' := (158, [some (.inr (.inr (some (10, 0)))), some (.inl x1), some (.inl (x2 + 1)), some (.inl q15), none], [.inr (.inr (some (10, 0)))], am_mk q20)) (if_pos hc22) ?_
                refine am_Go.n htb 2 (S' := (162, [some (.inr (.inr (some (10, 0)))), some (.inl x1), some (.inl (x2 + 1)), some (.inl q15), none], [.inl (q20.1 10 0 46), .inr (.inr (some (10, 0)))], am_mk q20)) rfl ?_
                simp only [if_pos hc22] at key
                exact am_Go.fg (by exact ⟨rfl, ⟨rfl, ⟨rfl, ⟨rfl, trivial⟩⟩⟩⟩) key
              · refine am_Go.c1 htb (S' := (154, [some (.inr (.inr (some (10, 0)))), some (.inl x1), some (.inl (x2 + 1)), some (.inl q15), none], [.inr (.inr (some (10, 0)))], am_mk q20)) (if_neg hc22) ?_
                refine am_Go.n htb 2 (S' := (162, [some (.inr (.inr (some (10, 0)))), some (.inl x1), some (.inl (x2 + 1)), some (.inl q15), none], [.inl q15, .inr (.inr (some (10, 0)))], am_mk q20)) rfl ?_
                simp only [if_neg hc22] at key
                exact am_Go.fg (by exact ⟨rfl, ⟨rfl, ⟨rfl, ⟨rfl, trivial⟩⟩⟩⟩) key
          · have h := h23
            by_cases hc12 : (x2 + 1) ≠ (m.1 44 0 0)
            · rw [if_pos hc12] at h
              refine am_Go.c1 htb (S' := (104, [some (.inr (.inr (some (10, 0)))), some (.inl x1), some (.inl (x2 + 1)), none, none], [], am_mk (am_si (am_si m 57 0 x2.toNatClampNeg ((m.1 57 0 x2.toNatClampNeg) + (1 : Int32))) 57 0 (x2 + 1).toNatClampNeg (-1)))) (if_pos hc12) ?_
              refine am_Go.n htb 1 (S' := (107, [some (.inr (.inr (some (10, 0)))), some (.inl x1), some (.inl (x2 + 1)), none, none], [.inl 100000000], am_mk (am_si (am_si m 57 0 x2.toNatClampNeg ((m.1 57 0 x2.toNatClampNeg) + (1 : Int32))) 57 0 (x2 + 1).toNatClampNeg (-1)))) rfl ?_
              cases h
              exact am_Go.fg (by exact ⟨rfl, ⟨rfl, ⟨rfl, trivial⟩⟩⟩) key
            · rw [if_neg hc12] at h
              refine am_Go.c1 htb (S' := (96, [some (.inr (.inr (some (10, 0)))), some (.inl x1), some (.inl (x2 + 1)), none, none], [], am_mk (am_si (am_si m 57 0 x2.toNatClampNeg ((m.1 57 0 x2.toNatClampNeg) + (1 : Int32))) 57 0 (x2 + 1).toNatClampNeg (-1)))) (if_neg hc12) ?_
              refine am_Go.n htb 2 (S' := (98, [some (.inr (.inr (some (10, 0)))), some (.inl x1), some (.inl (x2 + 1)), none, none], [.inl x1, .inr (.inr (some (10, 0)))], am_mk (am_si (am_si m 57 0 x2.toNatClampNeg ((m.1 57 0 x2.toNatClampNeg) + (1 : Int32))) 57 0 (x2 + 1).toNatClampNeg (-1)))) rfl ?_
              obtain ⟨r13, h14, h⟩ := am_bd h
              refine am_Go.cl htb rfl (ex_X10_worthOf d (by omega) x1 (am_si (am_si m 57 0 x2.toNatClampNeg ((m.1 57 0 x2.toNatClampNeg) + (1 : Int32))) 57 0 (x2 + 1).toNatClampNeg (-1)) r13 h14) ?_
              show am_Go d 259 (101, [some (.inr (.inr (some (10, 0)))), some (.inl x1), some (.inl (x2 + 1)), none, none], [.inl r13], am_mk (am_si (am_si m 57 0 x2.toNatClampNeg ((m.1 57 0 x2.toNatClampNeg) + (1 : Int32))) 57 0 (x2 + 1).toNatClampNeg (-1))) _ _ _ _
              refine am_Go.n htb 1 (S' := (107, [some (.inr (.inr (some (10, 0)))), some (.inl x1), some (.inl (x2 + 1)), none, none], [.inl r13], am_mk (am_si (am_si m 57 0 x2.toNatClampNeg ((m.1 57 0 x2.toNatClampNeg) + (1 : Int32))) 57 0 (x2 + 1).toNatClampNeg (-1)))) rfl ?_
              cases h
              exact am_Go.fg (by exact ⟨rfl, ⟨rfl, ⟨rfl, trivial⟩⟩⟩) key
        · rw [if_neg hc10] at h
          refine am_Go.c1 htb (S' := (70, [some (.inr (.inr (some (10, 0)))), some (.inl x1), some (.inl x2), none, none], [], am_mk (am_si m 57 0 x2.toNatClampNeg ((m.1 57 0 x2.toNatClampNeg) + (1 : Int32))))) (if_neg hc10) ?_
          refine am_Go.o htb (am_o_inc 2 (-1)) rfl (S' := (73, [some (.inr (.inr (some (10, 0)))), some (.inl x1), some (.inl (x2 - 1)), none, none], [], am_mk (am_si m 57 0 x2.toNatClampNeg ((m.1 57 0 x2.toNatClampNeg) + (1 : Int32))))) (am_incn rfl rfl) ?_
          refine am_Go.n htb 1 (S' := (32, [some (.inr (.inr (some (10, 0)))), some (.inl x1), some (.inl (x2 - 1)), none, none], [], am_mk (am_si m 57 0 x2.toNatClampNeg ((m.1 57 0 x2.toNatClampNeg) + (1 : Int32))))) rfl ?_
          first | exact ih h | exact ih h hk
set_option maxRecDepth 100000 in
theorem ex_X10_findParts (d : Nat) (hd : 4 ≤ d) (a1 : Int32) (m : am_m) (t : am_m) (h : fn_X10_findParts a1 m = some t) : am_Ex am_cod d 259 [.inr (.inr (some (10, 0))), .inl a1] (am_mk m) (none) (am_mk t) 0 0 := by
  obtain ⟨d, rfl⟩ : ∃ e, d = e + 1 := ⟨d - 1, by omega⟩
  have htb : am_tab 259 = at_259 := rfl
  refine ⟨Nat.le_of_ble_eq_true rfl, ?_⟩
  unfold fn_X10_findParts at h
  show am_Go d 259 (0, [some (.inr (.inr (some (10, 0)))), some (.inl a1), none, none, none], [], am_mk m) _ _ 0 0
  refine am_Go.n htb 14 (S' := (22, [some (.inr (.inr (some (10, 0)))), some (.inl a1), some (.inl 0), none, none], [.inl (m.1 44 0 0)], am_mk (am_si (am_si m 10 0 46 100000000) 57 0 0 (-1)))) rfl ?_
  obtain ⟨q2, h26, h⟩ := am_bd h
  refine am_Go.cut (S := (32, [some (.inr (.inr (some (10, 0)))), some (.inl a1), some (.inl q2.1), none, none], [], am_mk q2.2)) ?_ (fun key => ?_)
  · obtain ⟨q24, h25, h⟩ := am_bd h
    refine lt_X10_findParts_32 _ hd (h := h25) (hk := ?_)
    cases h
    exact am_Go.rt htb rfl
  · have h := h26
    by_cases hc1 : (m.1 44 0 0) ≠ 0
    · rw [if_pos hc1] at h
      refine am_Go.c1 htb (S' := (32, [some (.inr (.inr (some (10, 0)))), some (.inl a1), some (.inl 0), none, none], [], am_mk (am_si (am_si m 10 0 46 100000000) 57 0 0 (-1)))) (if_pos hc1) ?_
      cases h
      exact am_Go.fg (by exact ⟨rfl, ⟨rfl, ⟨rfl, trivial⟩⟩⟩) key
    · rw [if_neg hc1] at h
      refine am_Go.c1 htb (S' := (25, [some (.inr (.inr (some (10, 0)))), some (.inl a1), some (.inl 0), none, none], [], am_mk (am_si (am_si m 10 0 46 100000000) 57 0 0 (-1)))) (if_neg hc1) ?_
      refine am_Go.n htb 5 (S' := (32, [some (.inr (.inr (some (10, 0)))), some (.inl a1), some (.inl (-1)), none, none], [], am_mk (am_si (am_si (am_si m 10 0 46 100000000) 57 0 0 (-1)) 10 0 46 0))) rfl ?_
      cases h
      exact am_Go.fg (by exact ⟨rfl, ⟨rfl, ⟨rfl, trivial⟩⟩⟩) key
-- X10_tables
set_option maxRecDepth 100000 in
theorem ex_X10_tables (d : Nat) (hd : 9 ≤ d) (a1 : Int32) (m : am_m) (t : Int32 × am_m) (h : fn_X10_tables a1 m = some t) : am_Ex am_cod d 260 [.inr (.inr (some (10, 0))), .inl a1] (am_mk m) (some (.inl t.1)) (am_mk t.2) 0 0 := by
  obtain ⟨d, rfl⟩ : ∃ e, d = e + 1 := ⟨d - 1, by omega⟩
  have htb : am_tab 260 = at_260 := rfl
  refine ⟨Nat.le_of_ble_eq_true rfl, ?_⟩
  unfold fn_X10_tables at h
  show am_Go d 260 (0, [some (.inr (.inr (some (10, 0)))), some (.inl a1)], [], am_mk m) _ _ 0 0
  refine am_Go.n htb 11 (S' := (15, [some (.inr (.inr (some (10, 0)))), some (.inl a1)], [.inr (.inl ((m.1 44 0 0).toInt64)), .inr (.inl 0), .inr (.inl a1.toInt64)], am_mk (am_si m 10 0 0 0))) rfl ?_
  obtain ⟨r1, h2, h⟩ := am_bd h
  refine am_Go.cl htb rfl (ex_X10_in d (by omega) a1.toInt64 0 ((m.1 44 0 0).toInt64) (am_si m 10 0 0 0) r1 h2) ?_
  show am_Go d 260 (18, [some (.inr (.inr (some (10, 0)))), some (.inl a1)], [.inl r1], am_mk (am_si m 10 0 0 0)) _ _ _ _
  by_cases hc3 : r1 ≠ 0
  · rw [if_pos hc3] at h
    refine am_Go.c1 htb (S' := (23, [some (.inr (.inr (some (10, 0)))), some (.inl a1)], [], am_mk (am_si m 10 0 0 0))) (if_pos hc3) ?_
    refine am_Go.n htb 1 (S' := (24, [some (.inr (.inr (some (10, 0)))), some (.inl a1)], [.inr (.inr (some (10, 0)))], am_mk (am_si m 10 0 0 0))) rfl ?_
    obtain ⟨r4, h5, h⟩ := am_bd h
    refine am_Go.cl htb rfl (ex_X10_layMay d (by omega)  (am_si m 10 0 0 0) r4 h5) ?_
    show am_Go d 260 (27, [some (.inr (.inr (some (10, 0)))), some (.inl a1)], [], am_mk r4) _ _ _ _
    refine am_Go.n htb 2 (S' := (29, [some (.inr (.inr (some (10, 0)))), some (.inl a1)], [.inl 1, .inr (.inr (some (10, 0)))], am_mk r4)) rfl ?_
    obtain ⟨r6, h7, h⟩ := am_bd h
    refine am_Go.cl htb rfl (ex_X10_findParts d (by omega) 1 r4 r6 h7) ?_
    show am_Go d 260 (32, [some (.inr (.inr (some (10, 0)))), some (.inl a1)], [], am_mk r6) _ _ _ _
    refine am_Go.n htb 3 (S' := (39, [some (.inr (.inr (some (10, 0)))), some (.inl a1)], [.inl 100000000, .inl (r6.1 10 0 46)], am_mk r6)) rfl ?_
    by_cases hc8 : (r6.1 10 0 46) ≠ (100000000 : Int32)
    · rw [if_pos hc8] at h
      refine am_Go.c1 htb (S' := (46, [some (.inr (.inr (some (10, 0)))), some (.inl a1)], [], am_mk r6)) (if_pos hc8) ?_
      refine am_Go.n htb 1 (S' := (47, [some (.inr (.inr (some (10, 0)))), some (.inl a1)], [.inl a1], am_mk r6)) rfl ?_
      by_cases hc9 : a1 ≠ 0
      · rw [if_pos hc9] at h
        refine am_Go.c1 htb (S' := (57, [some (.inr (.inr (some (10, 0)))), some (.inl a1)], [], am_mk r6)) (if_pos hc9) ?_
        refine am_Go.n htb 5 (S' := (64, [some (.inr (.inr (some (10, 0)))), some (.inl a1)], [.inl (a1 - (1 : Int32)), .inr (.inr (some (58, 0)))], am_mk r6)) rfl ?_
        obtain ⟨hg10, h⟩ := am_ck_some h
        refine am_Go.c1 htb (S' := (65, [some (.inr (.inr (some (10, 0)))), some (.inl a1)], [.inl (r6.1 58 0 (a1 - (1 : Int32)).toNatClampNeg)], am_mk r6)) (if_neg hg10) ?_
        cases h
        exact am_Go.rt htb rfl
      · rw [if_neg hc9] at h
        refine am_Go.c1 htb (S' := (50, [some (.inr (.inr (some (10, 0)))), some (.inl a1)], [], am_mk r6)) (if_neg hc9) ?_
        refine am_Go.n htb 3 (S' := (65, [some (.inr (.inr (some (10, 0)))), some (.inl a1)], [.inl (r6.1 10 0 46)], am_mk r6)) rfl ?_
        cases h
        exact am_Go.rt htb rfl
    · rw [if_neg hc8] at h
      refine am_Go.c1 htb (S' := (42, [some (.inr (.inr (some (10, 0)))), some (.inl a1)], [], am_mk r6)) (if_neg hc8) ?_
      refine am_Go.n htb 2 (S' := (65, [some (.inr (.inr (some (10, 0)))), some (.inl a1)], [.inl (-1)], am_mk r6)) rfl ?_
      cases h
      exact am_Go.rt htb rfl
  · rw [if_neg hc3] at h
    refine am_Go.c1 htb (S' := (21, [some (.inr (.inr (some (10, 0)))), some (.inl a1)], [], am_mk (am_si m 10 0 0 0))) (if_neg hc3) ?_
    refine am_Go.n htb 1 (S' := (22, [some (.inr (.inr (some (10, 0)))), some (.inl a1)], [.inl (-1)], am_mk (am_si m 10 0 0 0))) rfl ?_
    cases h
    exact am_Go.rt htb rfl
-- X10_newHarms
set_option maxRecDepth 100000 in
theorem ex_X10_newHarms (d : Nat) (hd : 9 ≤ d) (a1 : Int32) (m : am_m) (t : Int32 × am_m) (h : fn_X10_newHarms a1 m = some t) : am_Ex am_cod d 261 [.inr (.inr (some (10, 0))), .inl a1] (am_mk m) (some (.inl t.1)) (am_mk t.2) 0 0 := by
  obtain ⟨d, rfl⟩ : ∃ e, d = e + 1 := ⟨d - 1, by omega⟩
  have htb : am_tab 261 = at_261 := rfl
  refine ⟨Nat.le_of_ble_eq_true rfl, ?_⟩
  unfold fn_X10_newHarms at h
  show am_Go d 261 (0, [some (.inr (.inr (some (10, 0)))), some (.inl a1)], [], am_mk m) _ _ 0 0
  refine am_Go.n htb 11 (S' := (15, [some (.inr (.inr (some (10, 0)))), some (.inl a1)], [.inr (.inl ((m.1 44 0 0).toInt64)), .inr (.inl 0), .inr (.inl a1.toInt64)], am_mk (am_si m 10 0 0 0))) rfl ?_
  obtain ⟨r1, h2, h⟩ := am_bd h
  refine am_Go.cl htb rfl (ex_X10_in d (by omega) a1.toInt64 0 ((m.1 44 0 0).toInt64) (am_si m 10 0 0 0) r1 h2) ?_
  show am_Go d 261 (18, [some (.inr (.inr (some (10, 0)))), some (.inl a1)], [.inl r1], am_mk (am_si m 10 0 0 0)) _ _ _ _
  by_cases hc3 : r1 ≠ 0
  · rw [if_pos hc3] at h
    refine am_Go.c1 htb (S' := (23, [some (.inr (.inr (some (10, 0)))), some (.inl a1)], [], am_mk (am_si m 10 0 0 0))) (if_pos hc3) ?_
    refine am_Go.n htb 1 (S' := (24, [some (.inr (.inr (some (10, 0)))), some (.inl a1)], [.inr (.inr (some (10, 0)))], am_mk (am_si m 10 0 0 0))) rfl ?_
    obtain ⟨r4, h5, h⟩ := am_bd h
    refine am_Go.cl htb rfl (ex_X10_layMay d (by omega)  (am_si m 10 0 0 0) r4 h5) ?_
    show am_Go d 261 (27, [some (.inr (.inr (some (10, 0)))), some (.inl a1)], [], am_mk r4) _ _ _ _
    refine am_Go.n htb 2 (S' := (29, [some (.inr (.inr (some (10, 0)))), some (.inl a1)], [.inl 0, .inr (.inr (some (10, 0)))], am_mk r4)) rfl ?_
    obtain ⟨r6, h7, h⟩ := am_bd h
    refine am_Go.cl htb rfl (ex_X10_findParts d (by omega) 0 r4 r6 h7) ?_
    show am_Go d 261 (32, [some (.inr (.inr (some (10, 0)))), some (.inl a1)], [], am_mk r6) _ _ _ _
    refine am_Go.n htb 3 (S' := (39, [some (.inr (.inr (some (10, 0)))), some (.inl a1)], [.inl 100000000, .inl (r6.1 10 0 46)], am_mk r6)) rfl ?_
    by_cases hc8 : (r6.1 10 0 46) ≠ (100000000 : Int32)
    · rw [if_pos hc8] at h
      refine am_Go.c1 htb (S' := (46, [some (.inr (.inr (some (10, 0)))), some (.inl a1)], [], am_mk r6)) (if_pos hc8) ?_
      refine am_Go.n htb 1 (S' := (47, [some (.inr (.inr (some (10, 0)))), some (.inl a1)], [.inl a1], am_mk r6)) rfl ?_
      by_cases hc9 : a1 ≠ 0
      · rw [if_pos hc9] at h
        refine am_Go.c1 htb (S' := (57, [some (.inr (.inr (some (10, 0)))), some (.inl a1)], [], am_mk r6)) (if_pos hc9) ?_
        refine am_Go.n htb 5 (S' := (64, [some (.inr (.inr (some (10, 0)))), some (.inl a1)], [.inl (a1 - (1 : Int32)), .inr (.inr (some (58, 0)))], am_mk r6)) rfl ?_
        obtain ⟨hg10, h⟩ := am_ck_some h
        refine am_Go.c1 htb (S' := (65, [some (.inr (.inr (some (10, 0)))), some (.inl a1)], [.inl (r6.1 58 0 (a1 - (1 : Int32)).toNatClampNeg)], am_mk r6)) (if_neg hg10) ?_
        cases h
        exact am_Go.rt htb rfl
      · rw [if_neg hc9] at h
        refine am_Go.c1 htb (S' := (50, [some (.inr (.inr (some (10, 0)))), some (.inl a1)], [], am_mk r6)) (if_neg hc9) ?_
        refine am_Go.n htb 3 (S' := (65, [some (.inr (.inr (some (10, 0)))), some (.inl a1)], [.inl (r6.1 10 0 46)], am_mk r6)) rfl ?_
        cases h
        exact am_Go.rt htb rfl
    · rw [if_neg hc8] at h
      refine am_Go.c1 htb (S' := (42, [some (.inr (.inr (some (10, 0)))), some (.inl a1)], [], am_mk r6)) (if_neg hc8) ?_
      refine am_Go.n htb 2 (S' := (65, [some (.inr (.inr (some (10, 0)))), some (.inl a1)], [.inl (-1)], am_mk r6)) rfl ?_
      cases h
      exact am_Go.rt htb rfl
  · rw [if_neg hc3] at h
    refine am_Go.c1 htb (S' := (21, [some (.inr (.inr (some (10, 0)))), some (.inl a1)], [], am_mk (am_si m 10 0 0 0))) (if_neg hc3) ?_
    refine am_Go.n htb 1 (S' := (22, [some (.inr (.inr (some (10, 0)))), some (.inl a1)], [.inl (-1)], am_mk (am_si m 10 0 0 0))) rfl ?_
    cases h
    exact am_Go.rt htb rfl
-- X10_layParts
set_option maxRecDepth 100000 in
theorem lt_X10_layParts_38 (d : Nat) (hd : 3 ≤ d + 1) {r : Option am_V} {M' : am_M} {kc ks : Nat} {n : Nat} {x1 : Int32} {x2 : Int32} {m : am_m} {t : am_m} (h : lp_X10_layParts_38 n x1 x2 m = some t) (hk : am_Go d 262 (99, [some (.inr (.inr (some (10, 0)))), some (.inl x1), none], [], am_mk t) r M' kc ks) : am_Go d 262 (38, [some (.inr (.inr (some (10, 0)))), some (.inl x1), some (.inl x2)], [], am_mk m) r M' kc ks := by
  have htb : am_tab 262 = at_262 := rfl
  induction n generalizing x2 m with
  | zero => cases h
  | succ n ih =>
    unfold lp_X10_layParts_38 at h
    refine am_Go.n htb 2 (S' := (40, [some (.inr (.inr (some (10, 0)))), some (.inl x1), some (.inl x2)], [.inl x1, .inl x2], am_mk m)) rfl ?_
    by_cases hc11 : x1 < x2
    · rw [if_pos hc11] at h
      refine am_Go.c1 htb (S' := (99, [some (.inr (.inr (some (10, 0)))), some (.inl x1), some (.inl x2)], [], am_mk m)) (if_pos hc11) ?_
      cases h
      exact am_Go.fg (by exact ⟨rfl, ⟨rfl, trivial⟩⟩) hk
    · rw [if_neg hc11] at h
      refine am_Go.c1 htb (S' := (43, [some (.inr (.inr (some (10, 0)))), some (.inl x1), some (.inl x2)], [], am_mk m)) (if_neg hc11) ?_
      refine am_Go.n htb 6 (S' := (53, [some (.inr (.inr (some (10, 0)))), some (.inl x1), some (.inl x2)], [.inl x1, .inr (.inr (some (94, 0))), .inl x1, .inr (.inr (some (94, 0)))], am_mk m)) rfl ?_
      obtain ⟨hg12, h⟩ := am_ck_some h
      refine am_Go.c1 htb (S' := (54, [some (.inr (.inr (some (10, 0)))), some (.inl x1), some (.inl x2)], [.inl (m.1 94 0 x1.toNatClampNeg), .inl x1, .inr (.inr (some (94, 0)))], am_mk m)) (if_neg hg12) ?_
      obtain ⟨q19, h22, h⟩ := am_bd h
      refine am_Go.cut (S := (92, [some (.inr (.inr (some (10, 0)))), some (.inl x1), some (.inl x2)], [.inl q19, .inl x1, .inr (.inr (some (94, 0)))], am_mk m)) ?_ (fun key => ?_)
      · obtain ⟨hz21, h⟩ := am_gd_some h
        obtain ⟨hg20, h⟩ := am_ck_some h
        refine am_Go.o htb (am_o_zast) rfl (S' := (93, [some (.inr (.inr (some (10, 0)))), some (.inl x1), some (.inl x2)], [], am_mk (am_si m 94 0 x1.toNatClampNeg q19))) (am_zs (by decide) hz21 hg20) ?_
        refine am_Go.n htb 2 (S' := (38, [some (.inr (.inr (some (10, 0)))), some (.inl x1), some (.inl (x2 + 1))], [], am_mk (am_si m 94 0 x1.toNatClampNeg q19))) rfl ?_
        first | exact ih h | exact ih h hk
      · have h := h22
        by_cases hc13 : (m.1 94 0 x1.toNatClampNeg) ≠ 0
        · rw [if_pos hc13] at h
          refine am_Go.c1 htb (S' := (87, [some (.inr (.inr (some (10, 0)))), some (.inl x1), some (.inl x2)], [.inl x1, .inr (.inr (some (94, 0)))], am_mk m)) (if_pos hc13) ?_
          refine am_Go.n htb 2 (S' := (92, [some (.inr (.inr (some (10, 0)))), some (.inl x1), some (.inl x2)], [.inl 1, .inl x1, .inr (.inr (some (94, 0)))], am_mk m)) rfl ?_
          cases h
          exact am_Go.fg (by exact ⟨rfl, ⟨rfl, ⟨rfl, trivial⟩⟩⟩) key
        · rw [if_neg hc13] at h
          refine am_Go.c1 htb (S' := (57, [some (.inr (.inr (some (10, 0)))), some (.inl x1), some (.inl x2)], [.inl x1, .inr (.inr (some (94, 0)))], am_mk m)) (if_neg hc13) ?_
          refine am_Go.n htb 5 (S' := (62, [some (.inr (.inr (some (10, 0)))), some (.inl x1), some (.inl x2)], [.inl (x2 &&& (x1 ^^^ (-1 : Int32))), .inl x1, .inr (.inr (some (94, 0)))], am_mk m)) rfl ?_
          by_cases hc14 : (x2 &&& (x1 ^^^ (-1 : Int32))) ≠ 0
          · rw [if_pos hc14] at h
            refine am_Go.c1 htb (S' := (91, [some (.inr (.inr (some (10, 0)))), some (.inl x1), some (.inl x2)], [.inl x1, .inr (.inr (some (94, 0)))], am_mk m)) (if_pos hc14) ?_
            refine am_Go.n htb 1 (S' := (92, [some (.inr (.inr (some (10, 0)))), some (.inl x1), some (.inl x2)], [.inl 0, .inl x1, .inr (.inr (some (94, 0)))], am_mk m)) rfl ?_
            cases h
            exact am_Go.fg (by exact ⟨rfl, ⟨rfl, ⟨rfl, trivial⟩⟩⟩) key
          · rw [if_neg hc14] at h
            refine am_Go.c1 htb (S' := (65, [some (.inr (.inr (some (10, 0)))), some (.inl x1), some (.inl x2)], [.inl x1, .inr (.inr (some (94, 0)))], am_mk m)) (if_neg hc14) ?_
            refine am_Go.n htb 3 (S' := (70, [some (.inr (.inr (some (10, 0)))), some (.inl x1), some (.inl x2)], [.inl x2, .inr (.inr (some (95, 0))), .inl x1, .inr (.inr (some (94, 0)))], am_mk m)) rfl ?_
            obtain ⟨hg15, h⟩ := am_ck_some h
            refine am_Go.c1 htb (S' := (71, [some (.inr (.inr (some (10, 0)))), some (.inl x1), some (.inl x2)], [.inl (m.1 95 0 x2.toNatClampNeg), .inl x1, .inr (.inr (some (94, 0)))], am_mk m)) (if_neg hg15) ?_
            by_cases hc16 : (m.1 95 0 x2.toNatClampNeg) = 0
            · rw [if_pos hc16] at h
              refine am_Go.c1 htb (S' := (91, [some (.inr (.inr (some (10, 0)))), some (.inl x1), some (.inl x2)], [.inl x1, .inr (.inr (some (94, 0)))], am_mk m)) (if_pos hc16) ?_
              refine am_Go.n htb 1 (S' := (92, [some (.inr (.inr (some (10, 0)))), some (.inl x1), some (.inl x2)], [.inl 0, .inl x1, .inr (.inr (some (94, 0)))], am_mk m)) rfl ?_
              cases h
              exact am_Go.fg (by exact ⟨rfl, ⟨rfl, ⟨rfl, trivial⟩⟩⟩) key
            · rw [if_neg hc16] at h
              refine am_Go.c1 htb (S' := (74, [some (.inr (.inr (some (10, 0)))), some (.inl x1), some (.inl x2)], [.inl x1, .inr (.inr (some (94, 0)))], am_mk m)) (if_neg hc16) ?_
              refine am_Go.n htb 7 (S' := (83, [some (.inr (.inr (some (10, 0)))), some (.inl x1), some (.inl x2)], [.inl (x1 &&& (x2 ^^^ (-1 : Int32))), .inr (.inr (some (94, 0))), .inl x1, .inr (.inr (some (94, 0)))], am_mk m)) rfl ?_
              obtain ⟨hg17, h⟩ := am_ck_some h
              refine am_Go.c1 htb (S' := (84, [some (.inr (.inr (some (10, 0)))), some (.inl x1), some (.inl x2)], [.inl (m.1 94 0 (x1 &&& (x2 ^^^ (-1 : Int32))).toNatClampNeg), .inl x1, .inr (.inr (some (94, 0)))], am_mk m)) (if_neg hg17) ?_
              by_cases hc18 : (m.1 94 0 (x1 &&& (x2 ^^^ (-1 : Int32))).toNatClampNeg) = 0
              · rw [if_pos hc18] at h
                refine am_Go.c1 htb (S' := (91, [some (.inr (.inr (some (10, 0)))), some (.inl x1), some (.inl x2)], [.inl x1, .inr (.inr (some (94, 0)))], am_mk m)) (if_pos hc18) ?_
                refine am_Go.n htb 1 (S' := (92, [some (.inr (.inr (some (10, 0)))), some (.inl x1), some (.inl x2)], [.inl 0, .inl x1, .inr (.inr (some (94, 0)))], am_mk m)) rfl ?_
                cases h
                exact am_Go.fg (by exact ⟨rfl, ⟨rfl, ⟨rfl, trivial⟩⟩⟩) key
              · rw [if_neg hc18] at h
                refine am_Go.c1 htb (S' := (87, [some (.inr (.inr (some (10, 0)))), some (.inl x1), some (.inl x2)], [.inl x1, .inr (.inr (some (94, 0)))], am_mk m)) (if_neg hc18) ?_
                refine am_Go.n htb 2 (S' := (92, [some (.inr (.inr (some (10, 0)))), some (.inl x1), some (.inl x2)], [.inl 1, .inl x1, .inr (.inr (some (94, 0)))], am_mk m)) rfl ?_
                cases h
                exact am_Go.fg (by exact ⟨rfl, ⟨rfl, ⟨rfl, trivial⟩⟩⟩) key
set_option maxRecDepth 100000 in
theorem lt_X10_layParts_2 (d : Nat) (hd : 3 ≤ d + 1) {r : Option am_V} {M' : am_M} {kc ks : Nat} {n : Nat} {x1 : Int32} {m : am_m} {t : am_m} (h : lp_X10_layParts_2 n x1 m = some t) (hk : am_Go d 262 (105, [some (.inr (.inr (some (10, 0)))), none, none], [], am_mk t) r M' kc ks) : am_Go d 262 (2, [some (.inr (.inr (some (10, 0)))), some (.inl x1), none], [], am_mk m) r M' kc ks := by
  have htb : am_tab 262 = at_262 := rfl
  induction n generalizing x1 m with
  | zero => cases h
  | succ n ih =>
    unfold lp_X10_layParts_2 at h
    refine am_Go.n htb 2 (S' := (4, [some (.inr (.inr (some (10, 0)))), some (.inl x1), none], [.inr (.inr (some (10, 0))), .inl x1], am_mk m)) rfl ?_
    obtain ⟨r1, h2, h⟩ := am_bd h
    refine am_Go.cl htb rfl (ex_X10_all d (by omega)  m r1 h2) ?_
    show am_Go d 262 (7, [some (.inr (.inr (some (10, 0)))), some (.inl x1), none], [.inl r1, .inl x1], am_mk m) _ _ _ _
    by_cases hc3 : r1 < x1
    · rw [if_pos hc3] at h
      refine am_Go.c1 htb (S' := (105, [some (.inr (.inr (some (10, 0)))), some (.inl x1), none], [], am_mk m)) (if_pos hc3) ?_
      cases h
      exact am_Go.fg (by exact ⟨rfl, trivial⟩) hk
    · rw [if_neg hc3] at h
      refine am_Go.c1 htb (S' := (10, [some (.inr (.inr (some (10, 0)))), some (.inl x1), none], [], am_mk m)) (if_neg hc3) ?_
      refine am_Go.n htb 5 (S' := (17, [some (.inr (.inr (some (10, 0)))), some (.inl x1), none], [.inl x1, .inr (.inr (some (10, 0))), .inl x1, .inr (.inr (some (95, 0)))], am_mk m)) rfl ?_
      obtain ⟨r4, h5, h⟩ := am_bd h
      refine am_Go.cl htb rfl (ex_X10_isTable d (by omega) x1 m r4 h5) ?_
      show am_Go d 262 (20, [some (.inr (.inr (some (10, 0)))), some (.inl x1), none], [.inl r4, .inl x1, .inr (.inr (some (95, 0)))], am_mk m) _ _ _ _
      obtain ⟨hz7, h⟩ := am_gd_some h
      obtain ⟨hg6, h⟩ := am_ck_some h
      refine am_Go.o htb (am_o_zast) rfl (S' := (21, [some (.inr (.inr (some (10, 0)))), some (.inl x1), none], [], am_mk (am_si m 95 0 x1.toNatClampNeg r4))) (am_zs (by decide) hz7 hg6) ?_
      refine am_Go.n htb 4 (S' := (27, [some (.inr (.inr (some (10, 0)))), some (.inl x1), none], [.inl x1, .inl x1, .inr (.inr (some (94, 0)))], am_mk (am_si m 95 0 x1.toNatClampNeg r4))) rfl ?_
      refine am_Go.cut (S := (35, [some (.inr (.inr (some (10, 0)))), some (.inl x1), none], [.inl (if x1 ≠ 0 then (0 : Int32) else (1 : Int32)), .inl x1, .inr (.inr (some (94, 0)))], am_mk (am_si m 95 0 x1.toNatClampNeg r4))) ?_ (fun key => ?_)
      · obtain ⟨hz10, h⟩ := am_gd_some h
        obtain ⟨hg9, h⟩ := am_ck_some h
        refine am_Go.o htb (am_o_zast) rfl (S' := (36, [some (.inr (.inr (some (10, 0)))), some (.inl x1), none], [], am_mk (am_si (am_si m 95 0 x1.toNatClampNeg r4) 94 0 x1.toNatClampNeg (if x1 ≠ 0 then (0 : Int32) else (1 : Int32))))) (am_zs (by decide) hz10 hg9) ?_
        refine am_Go.n htb 2 (S' := (38, [some (.inr (.inr (some (10, 0)))), some (.inl x1), some (.inl 1)], [], am_mk (am_si (am_si m 95 0 x1.toNatClampNeg r4) 94 0 x1.toNatClampNeg (if x1 ≠ 0 then (0 : Int32) else (1 : Int32))))) rfl ?_
        obtain ⟨q23, h24, h⟩ := am_bd h
        refine lt_X10_layParts_38 _ hd (h := h24) (hk := ?_)
        refine am_Go.n htb 2 (S' := (2, [some (.inr (.inr (some (10, 0)))), some (.inl (x1 + 1)), none], [], am_mk q23)) rfl ?_
        first | exact ih h | exact ih h hk
      · by_cases hc8 : x1 ≠ 0
        · refine am_Go.c1 htb (S' := (34, [some (.inr (.inr (some (10, 0)))), some (.inl x1), none], [.inl x1, .inr (.inr (some (94, 0)))], am_mk (am_si m 95 0 x1.toNatClampNeg r4))) (if_pos hc8) ?_
          refine am_Go.n htb 1 (S' := (35, [some (.inr (.inr (some (10, 0)))), some (.inl x1), none], [.inl 0, .inl x1, .inr (.inr (some (94, 0)))], am_mk (am_si m 95 0 x1.toNatClampNeg r4))) rfl ?_
          simp only [if_pos hc8] at key
          exact am_Go.fg (by exact ⟨rfl, ⟨rfl, trivial⟩⟩) key
        · refine am_Go.c1 htb (S' := (30, [some (.inr (.inr (some (10, 0)))), some (.inl x1), none], [.inl x1, .inr (.inr (some (94, 0)))], am_mk (am_si m 95 0 x1.toNatClampNeg r4))) (if_neg hc8) ?_
          refine am_Go.n htb 2 (S' := (35, [some (.inr (.inr (some (10, 0)))), some (.inl x1), none], [.inl 1, .inl x1, .inr (.inr (some (94, 0)))], am_mk (am_si m 95 0 x1.toNatClampNeg r4))) rfl ?_
          simp only [if_neg hc8] at key
          exact am_Go.fg (by exact ⟨rfl, ⟨rfl, trivial⟩⟩) key
set_option maxRecDepth 100000 in
theorem ex_X10_layParts (d : Nat) (hd : 3 ≤ d)  (m : am_m) (t : am_m) (h : fn_X10_layParts  m = some t) : am_Ex am_cod d 262 [.inr (.inr (some (10, 0)))] (am_mk m) (none) (am_mk t) 0 0 := by
  obtain ⟨d, rfl⟩ : ∃ e, d = e + 1 := ⟨d - 1, by omega⟩
  have htb : am_tab 262 = at_262 := rfl
  refine ⟨Nat.le_of_ble_eq_true rfl, ?_⟩
  unfold fn_X10_layParts at h
  show am_Go d 262 (0, [some (.inr (.inr (some (10, 0)))), none, none], [], am_mk m) _ _ 0 0
  refine am_Go.n htb 2 (S' := (2, [some (.inr (.inr (some (10, 0)))), some (.inl 0), none], [], am_mk m)) rfl ?_
  obtain ⟨q25, h26, h⟩ := am_bd h
  refine lt_X10_layParts_2 _ hd (h := h26) (hk := ?_)
  cases h
  exact am_Go.rt htb rfl
-- X10_leftOut
set_option maxRecDepth 100000 in
theorem lt_X10_leftOut_34 (d : Nat) (hd : 9 ≤ d + 1) {r : Option am_V} {M' : am_M} {kc ks : Nat} {n : Nat} {x1 : Int32} {x2 : Int32} {x3 : Int32} {x4 : Int32} {m : am_m} {t : Int32 × Int32} (h : lp_X10_leftOut_34 n x1 x2 x3 x4 m = some t) (hk : am_Go d 263 (84, [some (.inr (.inr (some (10, 0)))), some (.inl x1), some (.inl t.1), some (.inl t.2), none], [], am_mk m) r M' kc ks) : am_Go d 263 (34, [some (.inr (.inr (some (10, 0)))), some (.inl x1), some (.inl x2), some (.inl x3), some (.inl x4)], [], am_mk m) r M' kc ks := by
  have htb : am_tab 263 = at_263 := rfl
  induction n generalizing x2 x3 x4 with
  | zero => cases h
  | succ n ih =>
    unfold lp_X10_leftOut_34 at h
    refine am_Go.n htb 2 (S' := (37, [some (.inr (.inr (some (10, 0)))), some (.inl x1), some (.inl x2), some (.inl x3), some (.inl x4)], [.inr (.inr (some (10, 0))), .inl x4], am_mk m)) rfl ?_
    obtain ⟨r8, h9, h⟩ := am_bd h
    refine am_Go.cl htb rfl (ex_X10_all d (by omega)  m r8 h9) ?_
    show am_Go d 263 (40, [some (.inr (.inr (some (10, 0)))), some (.inl x1), some (.inl x2), some (.inl x3), some (.inl x4)], [.inl r8, .inl x4], am_mk m) _ _ _ _
    by_cases hc10 : r8 < x4
    · rw [if_pos hc10] at h
      refine am_Go.c1 htb (S' := (84, [some (.inr (.inr (some (10, 0)))), some (.inl x1), some (.inl x2), some (.inl x3), some (.inl x4)], [], am_mk m)) (if_pos hc10) ?_
      cases h
      exact am_Go.fg (by exact ⟨rfl, ⟨rfl, ⟨rfl, ⟨rfl, trivial⟩⟩⟩⟩) hk
    · rw [if_neg hc10] at h
      refine am_Go.c1 htb (S' := (43, [some (.inr (.inr (some (10, 0)))), some (.inl x1), some (.inl x2), some (.inl x3), some (.inl x4)], [], am_mk m)) (if_neg hc10) ?_
      refine am_Go.n htb 1 (S' := (45, [some (.inr (.inr (some (10, 0)))), some (.inl x1), some (.inl x2), some (.inl x3), some (.inl x4)], [.inl x4], am_mk m)) rfl ?_
      obtain ⟨r11, h12, h⟩ := am_bd h
      refine am_Go.cl htb rfl (ex_X10_ones d (by omega) x4 m r11 h12) ?_
      show am_Go d 263 (48, [some (.inr (.inr (some (10, 0)))), some (.inl x1), some (.inl x2), some (.inl x3), some (.inl x4)], [.inl r11], am_mk m) _ _ _ _
      refine am_Go.n htb 1 (S' := (49, [some (.inr (.inr (some (10, 0)))), some (.inl x1), some (.inl x2), some (.inl x3), some (.inl x4)], [.inl x2, .inl r11], am_mk m)) rfl ?_
      obtain ⟨q20, h21, h⟩ := am_bd h
      refine am_Go.cut (S := (78, [some (.inr (.inr (some (10, 0)))), some (.inl x1), some (.inl q20.1), some (.inl q20.2), some (.inl x4)], [], am_mk m)) ?_ (fun key => ?_)
      · refine am_Go.n htb 2 (S' := (34, [some (.inr (.inr (some (10, 0)))), some (.inl x1), some (.inl q20.1), some (.inl q20.2), some (.inl (x4 + 1))], [], am_mk m)) rfl ?_
        first | exact ih h | exact ih h hk
      · have h := h21
        by_cases hc13 : x2 ≤ r11
        · rw [if_pos hc13] at h
          refine am_Go.c1 htb (S' := (78, [some (.inr (.inr (some (10, 0)))), some (.inl x1), some (.inl x2), some (.inl x3), some (.inl x4)], [], am_mk m)) (if_pos hc13) ?_
          cases h
          exact am_Go.fg (by exact ⟨rfl, ⟨rfl, ⟨rfl, ⟨rfl, ⟨rfl, trivial⟩⟩⟩⟩⟩) key
        · rw [if_neg hc13] at h
          refine am_Go.c1 htb (S' := (52, [some (.inr (.inr (some (10, 0)))), some (.inl x1), some (.inl x2), some (.inl x3), some (.inl x4)], [], am_mk m)) (if_neg hc13) ?_
          refine am_Go.n htb 3 (S' := (57, [some (.inr (.inr (some (10, 0)))), some (.inl x1), some (.inl x2), some (.inl x3), some (.inl x4)], [.inr (.inr (some (10, 0))), .inr (.inr (some (94, 0)))], am_mk m)) rfl ?_
          obtain ⟨r14, h15, h⟩ := am_bd h
          refine am_Go.cl htb rfl (ex_X10_all d (by omega)  m r14 h15) ?_
          show am_Go d 263 (60, [some (.inr (.inr (some (10, 0)))), some (.inl x1), some (.inl x2), some (.inl x3), some (.inl x4)], [.inl r14, .inr (.inr (some (94, 0)))], am_mk m) _ _ _ _
          refine am_Go.n htb 4 (S' := (65, [some (.inr (.inr (some (10, 0)))), some (.inl x1), some (.inl x2), some (.inl x3), some (.inl x4)], [.inl (r14 &&& (x4 ^^^ (-1 : Int32))), .inr (.inr (some (94, 0)))], am_mk m)) rfl ?_
          obtain ⟨hg16, h⟩ := am_ck_some h
          refine am_Go.c1 htb (S' := (66, [some (.inr (.inr (some (10, 0)))), some (.inl x1), some (.inl x2), some (.inl x3), some (.inl x4)], [.inl (m.1 94 0 (r14 &&& (x4 ^^^ (-1 : Int32))).toNatClampNeg)], am_mk m)) (if_neg hg16) ?_
          by_cases hc17 : (m.1 94 0 (r14 &&& (x4 ^^^ (-1 : Int32))).toNatClampNeg) = 0
          · rw [if_pos hc17] at h
            refine am_Go.c1 htb (S' := (78, [some (.inr (.inr (some (10, 0)))), some (.inl x1), some (.inl x2), some (.inl x3), some (.inl x4)], [], am_mk m)) (if_pos hc17) ?_
            cases h
            exact am_Go.fg (by exact ⟨rfl, ⟨rfl, ⟨rfl, ⟨rfl, ⟨rfl, trivial⟩⟩⟩⟩⟩) key
          · rw [if_neg hc17] at h
            refine am_Go.c1 htb (S' := (69, [some (.inr (.inr (some (10, 0)))), some (.inl x1), some (.inl x2), some (.inl x3), some (.inl x4)], [], am_mk m)) (if_neg hc17) ?_
            refine am_Go.n htb 1 (S' := (71, [some (.inr (.inr (some (10, 0)))), some (.inl x1), some (.inl x2), some (.inl x3), some (.inl x4)], [.inl x4], am_mk m)) rfl ?_
            obtain ⟨r18, h19, h⟩ := am_bd h
            refine am_Go.cl htb rfl (ex_X10_ones d (by omega) x4 m r18 h19) ?_
            show am_Go d 263 (74, [some (.inr (.inr (some (10, 0)))), some (.inl x1), some (.inl x2), some (.inl x3), some (.inl x4)], [.inl r18], am_mk m) _ _ _ _
            refine am_Go.n htb 3 (S' := (78, [some (.inr (.inr (some (10, 0)))), some (.inl x1), some (.inl r18), some (.inl x4), some (.inl x4)], [], am_mk m)) rfl ?_
            cases h
            exact am_Go.fg (by exact ⟨rfl, ⟨rfl, ⟨rfl, ⟨rfl, ⟨rfl, trivial⟩⟩⟩⟩⟩) key
set_option maxRecDepth 100000 in
theorem ex_X10_leftOut (d : Nat) (hd : 9 ≤ d) (a1 : Int32) (m : am_m) (t : Int32 × am_m) (h : fn_X10_leftOut a1 m = some t) : am_Ex am_cod d 263 [.inr (.inr (some (10, 0))), .inl a1] (am_mk m) (some (.inl t.1)) (am_mk t.2) 0 0 := by
  obtain ⟨d, rfl⟩ : ∃ e, d = e + 1 := ⟨d - 1, by omega⟩
  have htb : am_tab 263 = at_263 := rfl
  refine ⟨Nat.le_of_ble_eq_true rfl, ?_⟩
  unfold fn_X10_leftOut at h
  show am_Go d 263 (0, [some (.inr (.inr (some (10, 0)))), some (.inl a1), none, none, none], [], am_mk m) _ _ 0 0
  refine am_Go.n htb 7 (S' := (9, [some (.inr (.inr (some (10, 0)))), some (.inl a1), none, none, none], [.inr (.inl 1), .inr (.inl 0), .inr (.inl a1.toInt64)], am_mk (am_si m 10 0 0 0))) rfl ?_
  obtain ⟨r1, h2, h⟩ := am_bd h
  refine am_Go.cl htb rfl (ex_X10_in d (by omega) a1.toInt64 0 1 (am_si m 10 0 0 0) r1 h2) ?_
  show am_Go d 263 (12, [some (.inr (.inr (some (10, 0)))), some (.inl a1), none, none, none], [.inl r1], am_mk (am_si m 10 0 0 0)) _ _ _ _
  by_cases hc3 : r1 ≠ 0
  · rw [if_pos hc3] at h
    refine am_Go.c1 htb (S' := (17, [some (.inr (.inr (some (10, 0)))), some (.inl a1), none, none, none], [], am_mk (am_si m 10 0 0 0))) (if_pos hc3) ?_
    refine am_Go.n htb 1 (S' := (18, [some (.inr (.inr (some (10, 0)))), some (.inl a1), none, none, none], [.inr (.inr (some (10, 0)))], am_mk (am_si m 10 0 0 0))) rfl ?_
    obtain ⟨r4, h5, h⟩ := am_bd h
    refine am_Go.cl htb rfl (ex_X10_layMay d (by omega)  (am_si m 10 0 0 0) r4 h5) ?_
    show am_Go d 263 (21, [some (.inr (.inr (some (10, 0)))), some (.inl a1), none, none, none], [], am_mk r4) _ _ _ _
    refine am_Go.n htb 1 (S' := (22, [some (.inr (.inr (some (10, 0)))), some (.inl a1), none, none, none], [.inr (.inr (some (10, 0)))], am_mk r4)) rfl ?_
    obtain ⟨r6, h7, h⟩ := am_bd h
    refine am_Go.cl htb rfl (ex_X10_layParts d (by omega)  r4 r6 h7) ?_
    show am_Go d 263 (25, [some (.inr (.inr (some (10, 0)))), some (.inl a1), none, none, none], [], am_mk r6) _ _ _ _
    refine am_Go.n htb 6 (S' := (34, [some (.inr (.inr (some (10, 0)))), some (.inl a1), some (.inl 100000000), some (.inl 0), some (.inl 0)], [], am_mk r6)) rfl ?_
    obtain ⟨q22, h23, h⟩ := am_bd h
    refine lt_X10_leftOut_34 _ hd (h := h23) (hk := ?_)
    refine am_Go.n htb 1 (S' := (85, [some (.inr (.inr (some (10, 0)))), some (.inl a1), some (.inl q22.1), some (.inl q22.2), none], [.inl a1], am_mk r6)) rfl ?_
    by_cases hc24 : a1 ≠ 0
    · rw [if_pos hc24] at h
      refine am_Go.c1 htb (S' := (92, [some (.inr (.inr (some (10, 0)))), some (.inl a1), some (.inl q22.1), some (.inl q22.2), none], [], am_mk r6)) (if_pos hc24) ?_
      refine am_Go.n htb 1 (S' := (93, [some (.inr (.inr (some (10, 0)))), some (.inl a1), some (.inl q22.1), some (.inl q22.2), none], [.inl q22.2], am_mk r6)) rfl ?_
      cases h
      exact am_Go.rt htb rfl
    · rw [if_neg hc24] at h
      refine am_Go.c1 htb (S' := (88, [some (.inr (.inr (some (10, 0)))), some (.inl a1), some (.inl q22.1), some (.inl q22.2), none], [], am_mk r6)) (if_neg hc24) ?_
      refine am_Go.n htb 2 (S' := (93, [some (.inr (.inr (some (10, 0)))), some (.inl a1), some (.inl q22.1), some (.inl q22.2), none], [.inl q22.1], am_mk r6)) rfl ?_
      cases h
      exact am_Go.rt htb rfl
  · rw [if_neg hc3] at h
    refine am_Go.c1 htb (S' := (15, [some (.inr (.inr (some (10, 0)))), some (.inl a1), none, none, none], [], am_mk (am_si m 10 0 0 0))) (if_neg hc3) ?_
    refine am_Go.n htb 1 (S' := (16, [some (.inr (.inr (some (10, 0)))), some (.inl a1), none, none, none], [.inl (-1)], am_mk (am_si m 10 0 0 0))) rfl ?_
    cases h
    exact am_Go.rt htb rfl
-- X10_suffered
set_option maxRecDepth 100000 in
theorem lt_X10_suffered_5 (d : Nat) (hd : 7 ≤ d + 1) {r : Option am_V} {M' : am_M} {kc ks : Nat} {n : Nat} {x1 : Int32} {x2 : Int32} {x3 : Int32} {x4 : Int32} {m : am_m} {t : Int32 × am_m} (h : lp_X10_suffered_5 n x1 x2 x3 x4 m = some t) (hk : am_Go d 264 (51, [some (.inr (.inr (some (10, 0)))), some (.inl x1), some (.inl x2), some (.inl t.1), none], [], am_mk t.2) r M' kc ks) : am_Go d 264 (5, [some (.inr (.inr (some (10, 0)))), some (.inl x1), some (.inl x2), some (.inl x3), some (.inl x4)], [], am_mk m) r M' kc ks := by
  have htb : am_tab 264 = at_264 := rfl
  induction n generalizing x3 x4 m with
  | zero => cases h
  | succ n ih =>
    unfold lp_X10_suffered_5 at h
    refine am_Go.n htb 5 (S' := (13, [some (.inr (.inr (some (10, 0)))), some (.inl x1), some (.inl x2), some (.inl x3), some (.inl x4)], [.inl (m.1 44 0 0), .inl x4], am_mk m)) rfl ?_
    by_cases hc1 : (m.1 44 0 0) ≤ x4
    · rw [if_pos hc1] at h
      refine am_Go.c1 htb (S' := (51, [some (.inr (.inr (some (10, 0)))), some (.inl x1), some (.inl x2), some (.inl x3), some (.inl x4)], [], am_mk m)) (if_pos hc1) ?_
      cases h
      exact am_Go.fg (by exact ⟨rfl, ⟨rfl, ⟨rfl, ⟨rfl, trivial⟩⟩⟩⟩) hk
    · rw [if_neg hc1] at h
      refine am_Go.c1 htb (S' := (16, [some (.inr (.inr (some (10, 0)))), some (.inl x1), some (.inl x2), some (.inl x3), some (.inl x4)], [], am_mk m)) (if_neg hc1) ?_
      refine am_Go.n htb 3 (S' := (20, [some (.inr (.inr (some (10, 0)))), some (.inl x1), some (.inl x2), some (.inl x3), some (.inl x4)], [.inl x1, .inl x4, .inl x3], am_mk m)) rfl ?_
      obtain ⟨q8, h9, h⟩ := am_bd h
      refine am_Go.cut (S := (43, [some (.inr (.inr (some (10, 0)))), some (.inl x1), some (.inl x2), some (.inl x3), some (.inl x4)], [.inl q8.1, .inl x3], am_mk q8.2)) ?_ (fun key => ?_)
      · refine am_Go.n htb 4 (S' := (5, [some (.inr (.inr (some (10, 0)))), some (.inl x1), some (.inl x2), some (.inl (x3 + q8.1)), some (.inl (x4 + 1))], [], am_mk q8.2)) rfl ?_
        first | exact ih h | exact ih h hk
      · have h := h9
        by_cases hc2 : x4 = x1
        · rw [if_pos hc2] at h
          refine am_Go.c1 htb (S' := (42, [some (.inr (.inr (some (10, 0)))), some (.inl x1), some (.inl x2), some (.inl x3), some (.inl x4)], [.inl x3], am_mk m)) (if_pos hc2) ?_
          refine am_Go.n htb 1 (S' := (43, [some (.inr (.inr (some (10, 0)))), some (.inl x1), some (.inl x2), some (.inl x3), some (.inl x4)], [.inl 0, .inl x3], am_mk m)) rfl ?_
          cases h
          exact am_Go.fg (by exact ⟨rfl, ⟨rfl, ⟨rfl, ⟨rfl, ⟨rfl, trivial⟩⟩⟩⟩⟩) key
        · rw [if_neg hc2] at h
          refine am_Go.c1 htb (S' := (23, [some (.inr (.inr (some (10, 0)))), some (.inl x1), some (.inl x2), some (.inl x3), some (.inl x4)], [.inl x3], am_mk m)) (if_neg hc2) ?_
          refine am_Go.n htb 2 (S' := (26, [some (.inr (.inr (some (10, 0)))), some (.inl x1), some (.inl x2), some (.inl x3), some (.inl x4)], [.inl x4, .inl x2, .inl x3], am_mk m)) rfl ?_
          obtain ⟨r3, h4, h⟩ := am_bd h
          refine am_Go.cl htb rfl (ex_X10_is d (by omega) x2 x4 m r3 h4) ?_
          show am_Go d 264 (29, [some (.inr (.inr (some (10, 0)))), some (.inl x1), some (.inl x2), some (.inl x3), some (.inl x4)], [.inl r3, .inl x3], am_mk m) _ _ _ _
          by_cases hc5 : r3 = 0
          · rw [if_pos hc5] at h
            refine am_Go.c1 htb (S' := (42, [some (.inr (.inr (some (10, 0)))), some (.inl x1), some (.inl x2), some (.inl x3), some (.inl x4)], [.inl x3], am_mk m)) (if_pos hc5) ?_
            refine am_Go.n htb 1 (S' := (43, [some (.inr (.inr (some (10, 0)))), some (.inl x1), some (.inl x2), some (.inl x3), some (.inl x4)], [.inl 0, .inl x3], am_mk m)) rfl ?_
            cases h
            exact am_Go.fg (by exact ⟨rfl, ⟨rfl, ⟨rfl, ⟨rfl, ⟨rfl, trivial⟩⟩⟩⟩⟩) key
          · rw [if_neg hc5] at h
            refine am_Go.c1 htb (S' := (32, [some (.inr (.inr (some (10, 0)))), some (.inl x1), some (.inl x2), some (.inl x3), some (.inl x4)], [.inl x3], am_mk m)) (if_neg hc5) ?_
            refine am_Go.n htb 3 (S' := (36, [some (.inr (.inr (some (10, 0)))), some (.inl x1), some (.inl x2), some (.inl x3), some (.inl x4)], [.inl x1, .inl x4, .inr (.inr (some (10, 0))), .inl x3], am_mk m)) rfl ?_
            obtain ⟨r6, h7, h⟩ := am_bd h
            refine am_Go.cl htb rfl (ex_X10_countsAs d (by omega) x4 x1 m r6 h7) ?_
            show am_Go d 264 (39, [some (.inr (.inr (some (10, 0)))), some (.inl x1), some (.inl x2), some (.inl x3), some (.inl x4)], [.inl r6.1, .inl x3], am_mk r6.2) _ _ _ _
            refine am_Go.n htb 1 (S' := (43, [some (.inr (.inr (some (10, 0)))), some (.inl x1), some (.inl x2), some (.inl x3), some (.inl x4)], [.inl r6.1, .inl x3], am_mk r6.2)) rfl ?_
            cases h
            exact am_Go.fg (by exact ⟨rfl, ⟨rfl, ⟨rfl, ⟨rfl, ⟨rfl, trivial⟩⟩⟩⟩⟩) key
set_option maxRecDepth 100000 in
theorem ex_X10_suffered (d : Nat) (hd : 7 ≤ d) (a1 : Int32) (a2 : Int32) (m : am_m) (t : Int32 × am_m) (h : fn_X10_suffered a1 a2 m = some t) : am_Ex am_cod d 264 [.inr (.inr (some (10, 0))), .inl a1, .inl a2] (am_mk m) (some (.inl t.1)) (am_mk t.2) 0 0 := by
  obtain ⟨d, rfl⟩ : ∃ e, d = e + 1 := ⟨d - 1, by omega⟩
  have htb : am_tab 264 = at_264 := rfl
  refine ⟨Nat.le_of_ble_eq_true rfl, ?_⟩
  unfold fn_X10_suffered at h
  show am_Go d 264 (0, [some (.inr (.inr (some (10, 0)))), some (.inl a1), some (.inl a2), none, none], [], am_mk m) _ _ 0 0
  refine am_Go.n htb 4 (S' := (5, [some (.inr (.inr (some (10, 0)))), some (.inl a1), some (.inl a2), some (.inl 0), some (.inl 0)], [], am_mk m)) rfl ?_
  obtain ⟨q10, h11, h⟩ := am_bd h
  refine lt_X10_suffered_5 _ hd (h := h11) (hk := ?_)
  refine am_Go.n htb 1 (S' := (52, [some (.inr (.inr (some (10, 0)))), some (.inl a1), some (.inl a2), some (.inl q10.1), none], [.inl q10.1], am_mk q10.2)) rfl ?_
  cases h
  exact am_Go.rt htb rfl
-- X10_seat
set_option maxRecDepth 100000 in
theorem lt_X10_seat_60 (d : Nat) (hd : 8 ≤ d + 1) {r : Option am_V} {M' : am_M} {kc ks : Nat} {n : Nat} {x1 : Int32} {x2 : Int32} {x3 : Int32} {x4 : Int32} {x5 : Int32} {x6 : Int32} {m : am_m} {t : Int32 × am_m} (h : lp_X10_seat_60 n x1 x2 x3 x4 x5 x6 m = some t) (hk : am_Go d 265 (146, [some (.inr (.inr (some (10, 0)))), some (.inl x1), some (.inl x2), some (.inl x3), some (.inl x4), some (.inl t.1), none, none], [], am_mk t.2) r M' kc ks) : am_Go d 265 (60, [some (.inr (.inr (some (10, 0)))), some (.inl x1), some (.inl x2), some (.inl x3), some (.inl x4), some (.inl x5), some (.inl x6), none], [], am_mk m) r M' kc ks := by
  have htb : am_tab 265 = at_265 := rfl
  induction n generalizing x5 x6 m with
  | zero => cases h
  | succ n ih =>
    unfold lp_X10_seat_60 at h
    refine am_Go.n htb 5 (S' := (68, [some (.inr (.inr (some (10, 0)))), some (.inl x1), some (.inl x2), some (.inl x3), some (.inl x4), some (.inl x5), some (.inl x6), none], [.inl (m.1 44 0 0), .inl x6], am_mk m)) rfl ?_
    by_cases hc13 : (m.1 44 0 0) ≤ x6
    · rw [if_pos hc13] at h
      refine am_Go.c1 htb (S' := (146, [some (.inr (.inr (some (10, 0)))), some (.inl x1), some (.inl x2), some (.inl x3), some (.inl x4), some (.inl x5), some (.inl x6), none], [], am_mk m)) (if_pos hc13) ?_
      cases h
      exact am_Go.fg (by exact ⟨rfl, ⟨rfl, ⟨rfl, ⟨rfl, ⟨rfl, ⟨rfl, trivial⟩⟩⟩⟩⟩⟩) hk
    · rw [if_neg hc13] at h
      refine am_Go.c1 htb (S' := (71, [some (.inr (.inr (some (10, 0)))), some (.inl x1), some (.inl x2), some (.inl x3), some (.inl x4), some (.inl x5), some (.inl x6), none], [], am_mk m)) (if_neg hc13) ?_
      refine am_Go.n htb 2 (S' := (74, [some (.inr (.inr (some (10, 0)))), some (.inl x1), some (.inl x2), some (.inl x3), some (.inl x4), some (.inl x5), some (.inl x6), none], [.inl x4, .inl x1], am_mk m)) rfl ?_
      obtain ⟨r14, h15, h⟩ := am_bd h
      refine am_Go.cl htb rfl (ex_X10_is d (by omega) x1 x4 m r14 h15) ?_
      show am_Go d 265 (77, [some (.inr (.inr (some (10, 0)))), some (.inl x1), some (.inl x2), some (.inl x3), some (.inl x4), some (.inl x5), some (.inl x6), none], [.inl r14], am_mk m) _ _ _ _
      by_cases hc16 : r14 = 0
      · rw [if_pos hc16] at h
        refine am_Go.c1 htb (S' := (146, [some (.inr (.inr (some (10, 0)))), some (.inl x1), some (.inl x2), some (.inl x3), some (.inl x4), some (.inl x5), some (.inl x6), none], [], am_mk m)) (if_pos hc16) ?_
        cases h
        exact am_Go.fg (by exact ⟨rfl, ⟨rfl, ⟨rfl, ⟨rfl, ⟨rfl, ⟨rfl, trivial⟩⟩⟩⟩⟩⟩) hk
      · rw [if_neg hc16] at h
        refine am_Go.c1 htb (S' := (80, [some (.inr (.inr (some (10, 0)))), some (.inl x1), some (.inl x2), some (.inl x3), some (.inl x4), some (.inl x5), some (.inl x6), none], [], am_mk m)) (if_neg hc16) ?_
        refine am_Go.n htb 3 (S' := (84, [some (.inr (.inr (some (10, 0)))), some (.inl x1), some (.inl x2), some (.inl x3), some (.inl x4), some (.inl x5), some (.inl x6), none], [.inl x1, .inl x6, .inr (.inr (some (10, 0)))], am_mk m)) rfl ?_
        obtain ⟨r17, h18, h⟩ := am_bd h
        refine am_Go.cl htb rfl (ex_X10_suffered d (by omega) x6 x1 m r17 h18) ?_
        show am_Go d 265 (87, [some (.inr (.inr (some (10, 0)))), some (.inl x1), some (.inl x2), some (.inl x3), some (.inl x4), some (.inl x5), some (.inl x6), none], [.inl r17.1], am_mk r17.2) _ _ _ _
        refine am_Go.n htb 3 (S' := (91, [some (.inr (.inr (some (10, 0)))), some (.inl x1), some (.inl x2), some (.inl x3), some (.inl x4), some (.inl x5), some (.inl x6), none], [.inl x1, .inl x4, .inr (.inr (some (10, 0))), .inl r17.1], am_mk r17.2)) rfl ?_
        obtain ⟨r19, h20, h⟩ := am_bd h
        refine am_Go.cl htb rfl (ex_X10_suffered d (by omega) x4 x1 r17.2 r19 h20) ?_
        show am_Go d 265 (94, [some (.inr (.inr (some (10, 0)))), some (.inl x1), some (.inl x2), some (.inl x3), some (.inl x4), some (.inl x5), some (.inl x6), none], [.inl r19.1, .inl r17.1], am_mk r19.2) _ _ _ _
        refine am_Go.n htb 5 (S' := (103, [some (.inr (.inr (some (10, 0)))), some (.inl x1), some (.inl x2), some (.inl x3), some (.inl x4), some (.inl x5), some (.inl x6), some (.inl (r17.1 - r19.1))], [.inl x4, .inl x6, .inl x5], am_mk r19.2)) rfl ?_
        obtain ⟨q28, h29, h⟩ := am_bd h
        refine am_Go.cut (S := (137, [some (.inr (.inr (some (10, 0)))), some (.inl x1), some (.inl x2), some (.inl x3), some (.inl x4), some (.inl x5), some (.inl x6), some (.inl (r17.1 - r19.1))], [.inl q28, .inl x5], am_mk r19.2)) ?_ (fun key => ?_)
        · refine am_Go.n htb 4 (S' := (60, [some (.inr (.inr (some (10, 0)))), some (.inl x1), some (.inl x2), some (.inl x3), some (.inl x4), some (.inl (x5 + q28)), some (.inl (x6 + 1)), some (.inl (r17.1 - r19.1))], [], am_mk r19.2)) rfl ?_
          refine am_Go.fg (L0 := [some (.inr (.inr (some (10, 0)))), some (.inl x1), some (.inl x2), some (.inl x3), some (.inl x4), some (.inl (x5 + q28)), some (.inl (x6 + 1)), none]) (by exact ⟨rfl, ⟨rfl, ⟨rfl, ⟨rfl, ⟨rfl, ⟨rfl, ⟨rfl, trivial⟩⟩⟩⟩⟩⟩⟩) ?_
          first | exact ih h | exact ih h hk
        · have h := h29
          by_cases hc21 : x6 = x4
          · rw [if_pos hc21] at h
            refine am_Go.c1 htb (S' := (136, [some (.inr (.inr (some (10, 0)))), some (.inl x1), some (.inl x2), some (.inl x3), some (.inl x4), some (.inl x5), some (.inl x6), some (.inl (r17.1 - r19.1))], [.inl x5], am_mk r19.2)) (if_pos hc21) ?_
            refine am_Go.n htb 1 (S' := (137, [some (.inr (.inr (some (10, 0)))), some (.inl x1), some (.inl x2), some (.inl x3), some (.inl x4), some (.inl x5), some (.inl x6), some (.inl (r17.1 - r19.1))], [.inl 0, .inl x5], am_mk r19.2)) rfl ?_
            cases h
            exact am_Go.fg (by exact ⟨rfl, ⟨rfl, ⟨rfl, ⟨rfl, ⟨rfl, ⟨rfl, ⟨rfl, ⟨rfl, trivial⟩⟩⟩⟩⟩⟩⟩⟩) key
          · rw [if_neg hc21] at h
            refine am_Go.c1 htb (S' := (106, [some (.inr (.inr (some (10, 0)))), some (.inl x1), some (.inl x2), some (.inl x3), some (.inl x4), some (.inl x5), some (.inl x6), some (.inl (r17.1 - r19.1))], [.inl x5], am_mk r19.2)) (if_neg hc21) ?_
            refine am_Go.n htb 2 (S' := (109, [some (.inr (.inr (some (10, 0)))), some (.inl x1), some (.inl x2), some (.inl x3), some (.inl x4), some (.inl x5), some (.inl x6), some (.inl (r17.1 - r19.1))], [.inl x6, .inl x1, .inl x5], am_mk r19.2)) rfl ?_
            obtain ⟨r22, h23, h⟩ := am_bd h
            refine am_Go.cl htb rfl (ex_X10_is d (by omega) x1 x6 r19.2 r22 h23) ?_
            show am_Go d 265 (112, [some (.inr (.inr (some (10, 0)))), some (.inl x1), some (.inl x2), some (.inl x3), some (.inl x4), some (.inl x5), some (.inl x6), some (.inl (r17.1 - r19.1))], [.inl r22, .inl x5], am_mk r19.2) _ _ _ _
            by_cases hc24 : r22 = 0
            · rw [if_pos hc24] at h
              refine am_Go.c1 htb (S' := (136, [some (.inr (.inr (some (10, 0)))), some (.inl x1), some (.inl x2), some (.inl x3), some (.inl x4), some (.inl x5), some (.inl x6), some (.inl (r17.1 - r19.1))], [.inl x5], am_mk r19.2)) (if_pos hc24) ?_
              refine am_Go.n htb 1 (S' := (137, [some (.inr (.inr (some (10, 0)))), some (.inl x1), some (.inl x2), some (.inl x3), some (.inl x4), some (.inl x5), some (.inl x6), some (.inl (r17.1 - r19.1))], [.inl 0, .inl x5], am_mk r19.2)) rfl ?_
              cases h
              exact am_Go.fg (by exact ⟨rfl, ⟨rfl, ⟨rfl, ⟨rfl, ⟨rfl, ⟨rfl, ⟨rfl, ⟨rfl, trivial⟩⟩⟩⟩⟩⟩⟩⟩) key
            · rw [if_neg hc24] at h
              refine am_Go.c1 htb (S' := (115, [some (.inr (.inr (some (10, 0)))), some (.inl x1), some (.inl x2), some (.inl x3), some (.inl x4), some (.inl x5), some (.inl x6), some (.inl (r17.1 - r19.1))], [.inl x5], am_mk r19.2)) (if_neg hc24) ?_
              refine am_Go.n htb 1 (S' := (117, [some (.inr (.inr (some (10, 0)))), some (.inl x1), some (.inl x2), some (.inl x3), some (.inl x4), some (.inl x5), some (.inl x6), some (.inl (r17.1 - r19.1))], [.inl (r17.1 - r19.1), .inl x5], am_mk r19.2)) rfl ?_
              by_cases hc25 : 0 < (r17.1 - r19.1)
              · rw [if_pos hc25] at h
                refine am_Go.c1 htb (S' := (132, [some (.inr (.inr (some (10, 0)))), some (.inl x1), some (.inl x2), some (.inl x3), some (.inl x4), some (.inl x5), some (.inl x6), some (.inl (r17.1 - r19.1))], [.inl x5], am_mk r19.2)) (if_pos hc25) ?_
                refine am_Go.n htb 2 (S' := (137, [some (.inr (.inr (some (10, 0)))), some (.inl x1), some (.inl x2), some (.inl x3), some (.inl x4), some (.inl x5), some (.inl x6), some (.inl (r17.1 - r19.1))], [.inl 1, .inl x5], am_mk r19.2)) rfl ?_
                cases h
                exact am_Go.fg (by exact ⟨rfl, ⟨rfl, ⟨rfl, ⟨rfl, ⟨rfl, ⟨rfl, ⟨rfl, ⟨rfl, trivial⟩⟩⟩⟩⟩⟩⟩⟩) key
              · rw [if_neg hc25] at h
                refine am_Go.c1 htb (S' := (120, [some (.inr (.inr (some (10, 0)))), some (.inl x1), some (.inl x2), some (.inl x3), some (.inl x4), some (.inl x5), some (.inl x6), some (.inl (r17.1 - r19.1))], [.inl x5], am_mk r19.2)) (if_neg hc25) ?_
                refine am_Go.n htb 1 (S' := (122, [some (.inr (.inr (some (10, 0)))), some (.inl x1), some (.inl x2), some (.inl x3), some (.inl x4), some (.inl x5), some (.inl x6), some (.inl (r17.1 - r19.1))], [.inl (r17.1 - r19.1), .inl x5], am_mk r19.2)) rfl ?_
                by_cases hc26 : (r17.1 - r19.1) ≠ 0
                · rw [if_pos hc26] at h
                  refine am_Go.c1 htb (S' := (136, [some (.inr (.inr (some (10, 0)))), some (.inl x1), some (.inl x2), some (.inl x3), some (.inl x4), some (.inl x5), some (.inl x6), some (.inl (r17.1 - r19.1))], [.inl x5], am_mk r19.2)) (if_pos hc26) ?_
                  refine am_Go.n htb 1 (S' := (137, [some (.inr (.inr (some (10, 0)))), some (.inl x1), some (.inl x2), some (.inl x3), some (.inl x4), some (.inl x5), some (.inl x6), some (.inl (r17.1 - r19.1))], [.inl 0, .inl x5], am_mk r19.2)) rfl ?_
                  cases h
                  exact am_Go.fg (by exact ⟨rfl, ⟨rfl, ⟨rfl, ⟨rfl, ⟨rfl, ⟨rfl, ⟨rfl, ⟨rfl, trivial⟩⟩⟩⟩⟩⟩⟩⟩) key
                · rw [if_neg hc26] at h
                  refine am_Go.c1 htb (S' := (125, [some (.inr (.inr (some (10, 0)))), some (.inl x1), some (.inl x2), some (.inl x3), some (.inl x4), some (.inl x5), some (.inl x6), some (.inl (r17.1 - r19.1))], [.inl x5], am_mk r19.2)) (if_neg hc26) ?_
                  refine am_Go.n htb 2 (S' := (129, [some (.inr (.inr (some (10, 0)))), some (.inl x1), some (.inl x2), some (.inl x3), some (.inl x4), some (.inl x5), some (.inl x6), some (.inl (r17.1 - r19.1))], [.inl x4, .inl x6, .inl x5], am_mk r19.2)) rfl ?_
                  by_cases hc27 : x4 ≤ x6
                  · rw [if_pos hc27] at h
                    refine am_Go.c1 htb (S' := (136, [some (.inr (.inr (some (10, 0)))), some (.inl x1), some (.inl x2), some (.inl x3), some (.inl x4), some (.inl x5), some (.inl x6), some (.inl (r17.1 - r19.1))], [.inl x5], am_mk r19.2)) (if_pos hc27) ?_
                    refine am_Go.n htb 1 (S' := (137, [some (.inr (.inr (some (10, 0)))), some (.inl x1), some (.inl x2), some (.inl x3), some (.inl x4), some (.inl x5), some (.inl x6), some (.inl (r17.1 - r19.1))], [.inl 0, .inl x5], am_mk r19.2)) rfl ?_
                    cases h
                    exact am_Go.fg (by exact ⟨rfl, ⟨rfl, ⟨rfl, ⟨rfl, ⟨rfl, ⟨rfl, ⟨rfl, ⟨rfl, trivial⟩⟩⟩⟩⟩⟩⟩⟩) key
                  · rw [if_neg hc27] at h
                    refine am_Go.c1 htb (S' := (132, [some (.inr (.inr (some (10, 0)))), some (.inl x1), some (.inl x2), some (.inl x3), some (.inl x4), some (.inl x5), some (.inl x6), some (.inl (r17.1 - r19.1))], [.inl x5], am_mk r19.2)) (if_neg hc27) ?_
                    refine am_Go.n htb 2 (S' := (137, [some (.inr (.inr (some (10, 0)))), some (.inl x1), some (.inl x2), some (.inl x3), some (.inl x4), some (.inl x5), some (.inl x6), some (.inl (r17.1 - r19.1))], [.inl 1, .inl x5], am_mk r19.2)) rfl ?_
                    cases h
                    exact am_Go.fg (by exact ⟨rfl, ⟨rfl, ⟨rfl, ⟨rfl, ⟨rfl, ⟨rfl, ⟨rfl, ⟨rfl, trivial⟩⟩⟩⟩⟩⟩⟩⟩) key
set_option maxRecDepth 100000 in
theorem lt_X10_seat_43 (d : Nat) (hd : 8 ≤ d + 1) {r : Option am_V} {M' : am_M} {kc ks : Nat} {n : Nat} {x1 : Int32} {x2 : Int32} {x3 : Int32} {x4 : Int32} {m : am_m} {t : Int32 × am_m} (h : lp_X10_seat_43 n x1 x2 x3 x4 m = some t) (hk : am_Go d 265 (174, [some (.inr (.inr (some (10, 0)))), some (.inl x1), some (.inl x2), some (.inl t.1), none, none, none, none], [], am_mk t.2) r M' kc ks) : am_Go d 265 (43, [some (.inr (.inr (some (10, 0)))), some (.inl x1), some (.inl x2), some (.inl x3), some (.inl x4), none, none, none], [], am_mk m) r M' kc ks := by
  have htb : am_tab 265 = at_265 := rfl
  induction n generalizing x3 x4 m with
  | zero => cases h
  | succ n ih =>
    unfold lp_X10_seat_43 at h
    refine am_Go.n htb 5 (S' := (51, [some (.inr (.inr (some (10, 0)))), some (.inl x1), some (.inl x2), some (.inl x3), some (.inl x4), none, none, none], [.inl (m.1 44 0 0), .inl x4], am_mk m)) rfl ?_
    by_cases hc12 : (m.1 44 0 0) ≤ x4
    · rw [if_pos hc12] at h
      refine am_Go.c1 htb (S' := (174, [some (.inr (.inr (some (10, 0)))), some (.inl x1), some (.inl x2), some (.inl x3), some (.inl x4), none, none, none], [], am_mk m)) (if_pos hc12) ?_
      cases h
      exact am_Go.fg (by exact ⟨rfl, ⟨rfl, ⟨rfl, ⟨rfl, trivial⟩⟩⟩⟩) hk
    · rw [if_neg hc12] at h
      refine am_Go.c1 htb (S' := (54, [some (.inr (.inr (some (10, 0)))), some (.inl x1), some (.inl x2), some (.inl x3), some (.inl x4), none, none, none], [], am_mk m)) (if_neg hc12) ?_
      refine am_Go.n htb 4 (S' := (60, [some (.inr (.inr (some (10, 0)))), some (.inl x1), some (.inl x2), some (.inl x3), some (.inl x4), some (.inl 0), some (.inl 0), none], [], am_mk m)) rfl ?_
      obtain ⟨q30, h31, h⟩ := am_bd h
      refine lt_X10_seat_60 _ hd (h := h31) (hk := ?_)
      refine am_Go.n htb 2 (S' := (149, [some (.inr (.inr (some (10, 0)))), some (.inl x1), some (.inl x2), some (.inl x3), some (.inl x4), some (.inl q30.1), none, none], [.inl x4, .inl x1], am_mk q30.2)) rfl ?_
      obtain ⟨r32, h33, h⟩ := am_bd h
      refine am_Go.cl htb rfl (ex_X10_is d (by omega) x1 x4 q30.2 r32 h33) ?_
      show am_Go d 265 (152, [some (.inr (.inr (some (10, 0)))), some (.inl x1), some (.inl x2), some (.inl x3), some (.inl x4), some (.inl q30.1), none, none], [.inl r32], am_mk q30.2) _ _ _ _
      obtain ⟨q36, h37, h⟩ := am_bd h
      refine am_Go.cut (S := (167, [some (.inr (.inr (some (10, 0)))), some (.inl x1), some (.inl x2), some (.inl x3), some (.inl x4), some (.inl q30.1), none, none], [.inl q36], am_mk q30.2)) ?_ (fun key => ?_)
      · refine am_Go.n htb 3 (S' := (43, [some (.inr (.inr (some (10, 0)))), some (.inl x1), some (.inl x2), some (.inl q36), some (.inl (x4 + 1)), some (.inl q30.1), none, none], [], am_mk q30.2)) rfl ?_
        refine am_Go.fg (L0 := [some (.inr (.inr (some (10, 0)))), some (.inl x1), some (.inl x2), some (.inl q36), some (.inl (x4 + 1)), none, none, none]) (by exact ⟨rfl, ⟨rfl, ⟨rfl, ⟨rfl, ⟨rfl, trivial⟩⟩⟩⟩⟩) ?_
        first | exact ih h | exact ih h hk
      · have h := h37
        by_cases hc34 : r32 = 0
        · rw [if_pos hc34] at h
          refine am_Go.c1 htb (S' := (166, [some (.inr (.inr (some (10, 0)))), some (.inl x1), some (.inl x2), some (.inl x3), some (.inl x4), some (.inl q30.1), none, none], [], am_mk q30.2)) (if_pos hc34) ?_
          refine am_Go.n htb 1 (S' := (167, [some (.inr (.inr (some (10, 0)))), some (.inl x1), some (.inl x2), some (.inl x3), some (.inl x4), some (.inl q30.1), none, none], [.inl x3], am_mk q30.2)) rfl ?_
          cases h
          exact am_Go.fg (by exact ⟨rfl, ⟨rfl, ⟨rfl, ⟨rfl, ⟨rfl, ⟨rfl, trivial⟩⟩⟩⟩⟩⟩) key
        · rw [if_neg hc34] at h
          refine am_Go.c1 htb (S' := (155, [some (.inr (.inr (some (10, 0)))), some (.inl x1), some (.inl x2), some (.inl x3), some (.inl x4), some (.inl q30.1), none, none], [], am_mk q30.2)) (if_neg hc34) ?_
          refine am_Go.n htb 2 (S' := (158, [some (.inr (.inr (some (10, 0)))), some (.inl x1), some (.inl x2), some (.inl x3), some (.inl x4), some (.inl q30.1), none, none], [.inl x2, .inl q30.1], am_mk q30.2)) rfl ?_
          by_cases hc35 : q30.1 ≠ x2
          · rw [if_pos hc35] at h
            refine am_Go.c1 htb (S' := (166, [some (.inr (.inr (some (10, 0)))), some (.inl x1), some (.inl x2), some (.inl x3), some (.inl x4), some (.inl q30.1), none, none], [], am_mk q30.2)) (if_pos hc35) ?_
            refine am_Go.n htb 1 (S' := (167, [some (.inr (.inr (some (10, 0)))), some (.inl x1), some (.inl x2), some (.inl x3), some (.inl x4), some (.inl q30.1), none, none], [.inl x3], am_mk q30.2)) rfl ?_
            cases h
            exact am_Go.fg (by exact ⟨rfl, ⟨rfl, ⟨rfl, ⟨rfl, ⟨rfl, ⟨rfl, trivial⟩⟩⟩⟩⟩⟩) key
          · rw [if_neg hc35] at h
            refine am_Go.c1 htb (S' := (161, [some (.inr (.inr (some (10, 0)))), some (.inl x1), some (.inl x2), some (.inl x3), some (.inl x4), some (.inl q30.1), none, none], [], am_mk q30.2)) (if_neg hc35) ?_
            refine am_Go.n htb 2 (S' := (167, [some (.inr (.inr (some (10, 0)))), some (.inl x1), some (.inl x2), some (.inl x3), some (.inl x4), some (.inl q30.1), none, none], [.inl x4], am_mk q30.2)) rfl ?_
            cases h
            exact am_Go.fg (by exact ⟨rfl, ⟨rfl, ⟨rfl, ⟨rfl, ⟨rfl, ⟨rfl, trivial⟩⟩⟩⟩⟩⟩) key
set_option maxRecDepth 100000 in
theorem ex_X10_seat (d : Nat) (hd : 8 ≤ d) (a1 : Int32) (a2 : Int32) (m : am_m) (t : Int32 × am_m) (h : fn_X10_seat a1 a2 m = some t) : am_Ex am_cod d 265 [.inr (.inr (some (10, 0))), .inl a1, .inl a2] (am_mk m) (some (.inl t.1)) (am_mk t.2) 0 0 := by
  obtain ⟨d, rfl⟩ : ∃ e, d = e + 1 := ⟨d - 1, by omega⟩
  have htb : am_tab 265 = at_265 := rfl
  refine ⟨Nat.le_of_ble_eq_true rfl, ?_⟩
  unfold fn_X10_seat at h
  show am_Go d 265 (0, [some (.inr (.inr (some (10, 0)))), some (.inl a1), some (.inl a2), none, none, none, none, none], [], am_mk m) _ _ 0 0
  refine am_Go.n htb 4 (S' := (6, [some (.inr (.inr (some (10, 0)))), some (.inl a1), some (.inl a2), none, none, none, none, none], [.inl a1], am_mk (am_si m 10 0 0 0))) rfl ?_
  obtain ⟨r1, h2, h⟩ := am_bd h
  refine am_Go.cl htb rfl (ex_X10_isSet d (by omega) a1 (am_si m 10 0 0 0) r1 h2) ?_
  show am_Go d 265 (9, [some (.inr (.inr (some (10, 0)))), some (.inl a1), some (.inl a2), none, none, none, none, none], [.inl r1], am_mk (am_si m 10 0 0 0)) _ _ _ _
  by_cases hc3 : r1 = 0
  · rw [if_pos hc3] at h
    refine am_Go.c1 htb (S' := (36, [some (.inr (.inr (some (10, 0)))), some (.inl a1), some (.inl a2), none, none, none, none, none], [], am_mk (am_si m 10 0 0 0))) (if_pos hc3) ?_
    refine am_Go.n htb 1 (S' := (37, [some (.inr (.inr (some (10, 0)))), some (.inl a1), some (.inl a2), none, none, none, none, none], [.inl (-1)], am_mk (am_si m 10 0 0 0))) rfl ?_
    cases h
    exact am_Go.rt htb rfl
  · rw [if_neg hc3] at h
    refine am_Go.c1 htb (S' := (12, [some (.inr (.inr (some (10, 0)))), some (.inl a1), some (.inl a2), none, none, none, none, none], [], am_mk (am_si m 10 0 0 0))) (if_neg hc3) ?_
    refine am_Go.n htb 2 (S' := (14, [some (.inr (.inr (some (10, 0)))), some (.inl a1), some (.inl a2), none, none, none, none, none], [.inl a1, .inr (.inr (some (10, 0)))], am_mk (am_si m 10 0 0 0))) rfl ?_
    obtain ⟨r4, h5, h⟩ := am_bd h
    refine am_Go.cl htb rfl (ex_X10_areThere d (by omega) a1 (am_si m 10 0 0 0) r4 h5) ?_
    show am_Go d 265 (17, [some (.inr (.inr (some (10, 0)))), some (.inl a1), some (.inl a2), none, none, none, none, none], [.inl r4], am_mk (am_si m 10 0 0 0)) _ _ _ _
    by_cases hc6 : r4 = 0
    · rw [if_pos hc6] at h
      refine am_Go.c1 htb (S' := (36, [some (.inr (.inr (some (10, 0)))), some (.inl a1), some (.inl a2), none, none, none, none, none], [], am_mk (am_si m 10 0 0 0))) (if_pos hc6) ?_
      refine am_Go.n htb 1 (S' := (37, [some (.inr (.inr (some (10, 0)))), some (.inl a1), some (.inl a2), none, none, none, none, none], [.inl (-1)], am_mk (am_si m 10 0 0 0))) rfl ?_
      cases h
      exact am_Go.rt htb rfl
    · rw [if_neg hc6] at h
      refine am_Go.c1 htb (S' := (20, [some (.inr (.inr (some (10, 0)))), some (.inl a1), some (.inl a2), none, none, none, none, none], [], am_mk (am_si m 10 0 0 0))) (if_neg hc6) ?_
      refine am_Go.n htb 4 (S' := (24, [some (.inr (.inr (some (10, 0)))), some (.inl a1), some (.inl a2), none, none, none, none, none], [.inl a1, .inr (.inl 0), .inr (.inl a2.toInt64)], am_mk (am_si m 10 0 0 0))) rfl ?_
      obtain ⟨r7, h8, h⟩ := am_bd h
      refine am_Go.cl htb rfl (ex_X10_ones d (by omega) a1 (am_si m 10 0 0 0) r7 h8) ?_
      show am_Go d 265 (27, [some (.inr (.inr (some (10, 0)))), some (.inl a1), some (.inl a2), none, none, none, none, none], [.inl r7, .inr (.inl 0), .inr (.inl a2.toInt64)], am_mk (am_si m 10 0 0 0)) _ _ _ _
      refine am_Go.n htb 3 (S' := (30, [some (.inr (.inr (some (10, 0)))), some (.inl a1), some (.inl a2), none, none, none, none, none], [.inr (.inl (r7.toInt64 - (1 : Int64))), .inr (.inl 0), .inr (.inl a2.toInt64)], am_mk (am_si m 10 0 0 0))) rfl ?_
      obtain ⟨r9, h10, h⟩ := am_bd h
      refine am_Go.cl htb rfl (ex_X10_in d (by omega) a2.toInt64 0 (r7.toInt64 - (1 : Int64)) (am_si m 10 0 0 0) r9 h10) ?_
      show am_Go d 265 (33, [some (.inr (.inr (some (10, 0)))), some (.inl a1), some (.inl a2), none, none, none, none, none], [.inl r9], am_mk (am_si m 10 0 0 0)) _ _ _ _
      by_cases hc11 : r9 ≠ 0
      · rw [if_pos hc11] at h
        refine am_Go.c1 htb (S' := (38, [some (.inr (.inr (some (10, 0)))), some (.inl a1), some (.inl a2), none, none, none, none, none], [], am_mk (am_si m 10 0 0 0))) (if_pos hc11) ?_
        refine am_Go.n htb 4 (S' := (43, [some (.inr (.inr (some (10, 0)))), some (.inl a1), some (.inl a2), some (.inl (-1)), some (.inl 0), none, none, none], [], am_mk (am_si m 10 0 0 0))) rfl ?_
        obtain ⟨q38, h39, h⟩ := am_bd h
        refine lt_X10_seat_43 _ hd (h := h39) (hk := ?_)
        refine am_Go.n htb 1 (S' := (175, [some (.inr (.inr (some (10, 0)))), some (.inl a1), some (.inl a2), some (.inl q38.1), none, none, none, none], [.inl q38.1], am_mk q38.2)) rfl ?_
        cases h
        exact am_Go.rt htb rfl
      · rw [if_neg hc11] at h
        refine am_Go.c1 htb (S' := (36, [some (.inr (.inr (some (10, 0)))), some (.inl a1), some (.inl a2), none, none, none, none, none], [], am_mk (am_si m 10 0 0 0))) (if_neg hc11) ?_
        refine am_Go.n htb 1 (S' := (37, [some (.inr (.inr (some (10, 0)))), some (.inl a1), some (.inl a2), none, none, none, none, none], [.inl (-1)], am_mk (am_si m 10 0 0 0))) rfl ?_
        cases h
        exact am_Go.rt htb rfl
-- X10_layFar
set_option maxRecDepth 100000 in
theorem lt_X10_layFar_2 (d : Nat) (hd : 1 ≤ d + 1) {r : Option am_V} {M' : am_M} {kc ks : Nat} {n : Nat} {x1 : Int32} {x2 : Int32} {m : am_m} {t : am_m} (h : lp_X10_layFar_2 n x1 x2 m = some t) (hk : am_Go d 266 (36, [some (.inr (.inr (some (10, 0)))), some (.inl x1), none, none, none], [], am_mk t) r M' kc ks) : am_Go d 266 (2, [some (.inr (.inr (some (10, 0)))), some (.inl x1), some (.inl x2), none, none], [], am_mk m) r M' kc ks := by
  have htb : am_tab 266 = at_266 := rfl
  induction n generalizing x2 m with
  | zero => cases h
  | succ n ih =>
    unfold lp_X10_layFar_2 at h
    refine am_Go.n htb 5 (S' := (9, [some (.inr (.inr (some (10, 0)))), some (.inl x1), some (.inl x2), none, none], [.inl (m.1 44 0 0), .inl x2], am_mk m)) rfl ?_
    by_cases hc1 : (m.1 44 0 0) ≤ x2
    · rw [if_pos hc1] at h
      refine am_Go.c1 htb (S' := (36, [some (.inr (.inr (some (10, 0)))), some (.inl x1), some (.inl x2), none, none], [], am_mk m)) (if_pos hc1) ?_
      cases h
      exact am_Go.fg (by exact ⟨rfl, ⟨rfl, trivial⟩⟩) hk
    · rw [if_neg hc1] at h
      refine am_Go.c1 htb (S' := (12, [some (.inr (.inr (some (10, 0)))), some (.inl x1), some (.inl x2), none, none], [], am_mk m)) (if_neg hc1) ?_
      refine am_Go.n htb 5 (S' := (19, [some (.inr (.inr (some (10, 0)))), some (.inl x1), some (.inl x2), none, none], [.inl x1, .inl x2, .inl x2, .inr (.inr (some (59, 0)))], am_mk m)) rfl ?_
      refine am_Go.cut (S := (29, [some (.inr (.inr (some (10, 0)))), some (.inl x1), some (.inl x2), none, none], [.inl (if x2 ≠ x1 then (100000000 : Int32) else (0 : Int32)), .inl x2, .inr (.inr (some (59, 0)))], am_mk m)) ?_ (fun key => ?_)
      · obtain ⟨hg3, h⟩ := am_ck_some h
        refine am_Go.c1 htb (S' := (30, [some (.inr (.inr (some (10, 0)))), some (.inl x1), some (.inl x2), none, none], [], am_mk (am_si m 59 0 x2.toNatClampNeg (if x2 ≠ x1 then (100000000 : Int32) else (0 : Int32))))) (if_neg hg3) ?_
        refine am_Go.n htb 2 (S' := (2, [some (.inr (.inr (some (10, 0)))), some (.inl x1), some (.inl (x2 + 1)), none, none], [], am_mk (am_si m 59 0 x2.toNatClampNeg (if x2 ≠ x1 then (100000000 : Int32) else (0 : Int32))))) rfl ?_
        first | exact ih h | exact ih h hk
      · by_cases hc2 : x2 ≠ x1
        · refine am_Go.c1 htb (S' := (26, [some (.inr (.inr (some (10, 0)))), some (.inl x1), some (.inl x2), none, none], [.inl x2, .inr (.inr (some (59, 0)))], am_mk m)) (if_pos hc2) ?_
          refine am_Go.n htb 1 (S' := (29, [some (.inr (.inr (some (10, 0)))), some (.inl x1), some (.inl x2), none, none], [.inl 100000000, .inl x2, .inr (.inr (some (59, 0)))], am_mk m)) rfl ?_
          simp only [if_pos hc2] at key
          exact am_Go.fg (by exact ⟨rfl, ⟨rfl, ⟨rfl, trivial⟩⟩⟩) key
        · refine am_Go.c1 htb (S' := (22, [some (.inr (.inr (some (10, 0)))), some (.inl x1), some (.inl x2), none, none], [.inl x2, .inr (.inr (some (59, 0)))], am_mk m)) (if_neg hc2) ?_
          refine am_Go.n htb 2 (S' := (29, [some (.inr (.inr (some (10, 0)))), some (.inl x1), some (.inl x2), none, none], [.inl 0, .inl x2, .inr (.inr (some (59, 0)))], am_mk m)) rfl ?_
          simp only [if_neg hc2] at key
          exact am_Go.fg (by exact ⟨rfl, ⟨rfl, ⟨rfl, trivial⟩⟩⟩) key
set_option maxRecDepth 100000 in
theorem lt_X10_layFar_59 (d : Nat) (hd : 1 ≤ d + 1) {r : Option am_V} {M' : am_M} {kc ks : Nat} {n : Nat} {x2 : Int32} {x3 : Int32} {x4 : Int32} {m : am_m} {t : am_m} (h : lp_X10_layFar_59 n x2 x3 x4 m = some t) (hk : am_Go d 266 (133, [some (.inr (.inr (some (10, 0)))), none, some (.inl x2), some (.inl x3), none], [], am_mk t) r M' kc ks) : am_Go d 266 (59, [some (.inr (.inr (some (10, 0)))), none, some (.inl x2), some (.inl x3), some (.inl x4)], [], am_mk m) r M' kc ks := by
  have htb : am_tab 266 = at_266 := rfl
  induction n generalizing x4 m with
  | zero => cases h
  | succ n ih =>
    unfold lp_X10_layFar_59 at h
    refine am_Go.n htb 5 (S' := (67, [some (.inr (.inr (some (10, 0)))), none, some (.inl x2), some (.inl x3), some (.inl x4)], [.inl (m.1 44 0 0), .inl x4], am_mk m)) rfl ?_
    by_cases hc8 : (m.1 44 0 0) ≤ x4
    · rw [if_pos hc8] at h
      refine am_Go.c1 htb (S' := (133, [some (.inr (.inr (some (10, 0)))), none, some (.inl x2), some (.inl x3), some (.inl x4)], [], am_mk m)) (if_pos hc8) ?_
      cases h
      exact am_Go.fg (by exact ⟨rfl, ⟨rfl, ⟨rfl, trivial⟩⟩⟩) hk
    · rw [if_neg hc8] at h
      refine am_Go.c1 htb (S' := (70, [some (.inr (.inr (some (10, 0)))), none, some (.inl x2), some (.inl x3), some (.inl x4)], [], am_mk m)) (if_neg hc8) ?_
      refine am_Go.n htb 10 (S' := (86, [some (.inr (.inr (some (10, 0)))), none, some (.inl x2), some (.inl x3), some (.inl x4)], [.inl (((7 : Int32) * x3) + x4), .inr (.inr (some (92, 0))), .inl x3, .inr (.inr (some (59, 0)))], am_mk m)) rfl ?_
      obtain ⟨hg9, h⟩ := am_ck_some h
      refine am_Go.c1 htb (S' := (87, [some (.inr (.inr (some (10, 0)))), none, some (.inl x2), some (.inl x3), some (.inl x4)], [.inl (m.1 92 0 (((7 : Int32) * x3) + x4).toNatClampNeg), .inl x3, .inr (.inr (some (59, 0)))], am_mk m)) (if_neg hg9) ?_
      obtain ⟨q17, h19, h⟩ := am_bd h
      refine am_Go.cut (S := (126, [some (.inr (.inr (some (10, 0)))), none, some (.inl x2), some (.inl x3), some (.inl x4)], [.inl q17, .inl x3, .inr (.inr (some (59, 0)))], am_mk m)) ?_ (fun key => ?_)
      · obtain ⟨hg18, h⟩ := am_ck_some h
        refine am_Go.c1 htb (S' := (127, [some (.inr (.inr (some (10, 0)))), none, some (.inl x2), some (.inl x3), some (.inl x4)], [], am_mk (am_si m 59 0 x3.toNatClampNeg q17))) (if_neg hg18) ?_
        refine am_Go.n htb 2 (S' := (59, [some (.inr (.inr (some (10, 0)))), none, some (.inl x2), some (.inl x3), some (.inl (x4 + 1))], [], am_mk (am_si m 59 0 x3.toNatClampNeg q17))) rfl ?_
        first | exact ih h | exact ih h hk
      · have h := h19
        by_cases hc10 : (m.1 92 0 (((7 : Int32) * x3) + x4).toNatClampNeg) = 0
        · rw [if_pos hc10] at h
          refine am_Go.c1 htb (S' := (120, [some (.inr (.inr (some (10, 0)))), none, some (.inl x2), some (.inl x3), some (.inl x4)], [.inl x3, .inr (.inr (some (59, 0)))], am_mk m)) (if_pos hc10) ?_
          refine am_Go.n htb 3 (S' := (125, [some (.inr (.inr (some (10, 0)))), none, some (.inl x2), some (.inl x3), some (.inl x4)], [.inl x3, .inr (.inr (some (59, 0))), .inl x3, .inr (.inr (some (59, 0)))], am_mk m)) rfl ?_
          obtain ⟨hg11, h⟩ := am_ck_some h
          refine am_Go.c1 htb (S' := (126, [some (.inr (.inr (some (10, 0)))), none, some (.inl x2), some (.inl x3), some (.inl x4)], [.inl (m.1 59 0 x3.toNatClampNeg), .inl x3, .inr (.inr (some (59, 0)))], am_mk m)) (if_neg hg11) ?_
          cases h
          exact am_Go.fg (by exact ⟨rfl, ⟨rfl, ⟨rfl, ⟨rfl, trivial⟩⟩⟩⟩) key
        · rw [if_neg hc10] at h
          refine am_Go.c1 htb (S' := (90, [some (.inr (.inr (some (10, 0)))), none, some (.inl x2), some (.inl x3), some (.inl x4)], [.inl x3, .inr (.inr (some (59, 0)))], am_mk m)) (if_neg hc10) ?_
          refine am_Go.n htb 3 (S' := (96, [some (.inr (.inr (some (10, 0)))), none, some (.inl x2), some (.inl x3), some (.inl x4)], [.inl x4, .inr (.inr (some (59, 0))), .inl x3, .inr (.inr (some (59, 0)))], am_mk m)) rfl ?_
          obtain ⟨hg12, h⟩ := am_ck_some h
          refine am_Go.c1 htb (S' := (97, [some (.inr (.inr (some (10, 0)))), none, some (.inl x2), some (.inl x3), some (.inl x4)], [.inl (m.1 59 0 x4.toNatClampNeg), .inl x3, .inr (.inr (some (59, 0)))], am_mk m)) (if_neg hg12) ?_
          refine am_Go.n htb 5 (S' := (104, [some (.inr (.inr (some (10, 0)))), none, some (.inl x2), some (.inl x3), some (.inl x4)], [.inl x3, .inr (.inr (some (59, 0))), .inl ((m.1 59 0 x4.toNatClampNeg) + (1 : Int32)), .inl x3, .inr (.inr (some (59, 0)))], am_mk m)) rfl ?_
          obtain ⟨hg13, h⟩ := am_ck_some h
          refine am_Go.c1 htb (S' := (105, [some (.inr (.inr (some (10, 0)))), none, some (.inl x2), some (.inl x3), some (.inl x4)], [.inl (m.1 59 0 x3.toNatClampNeg), .inl ((m.1 59 0 x4.toNatClampNeg) + (1 : Int32)), .inl x3, .inr (.inr (some (59, 0)))], am_mk m)) (if_neg hg13) ?_
          by_cases hc14 : (m.1 59 0 x3.toNatClampNeg) ≤ ((m.1 59 0 x4.toNatClampNeg) + (1 : Int32))
          · rw [if_pos hc14] at h
            refine am_Go.c1 htb (S' := (120, [some (.inr (.inr (some (10, 0)))), none, some (.inl x2), some (.inl x3), some (.inl x4)], [.inl x3, .inr (.inr (some (59, 0)))], am_mk m)) (if_pos hc14) ?_
            refine am_Go.n htb 3 (S' := (125, [some (.inr (.inr (some (10, 0)))), none, some (.inl x2), some (.inl x3), some (.inl x4)], [.inl x3, .inr (.inr (some (59, 0))), .inl x3, .inr (.inr (some (59, 0)))], am_mk m)) rfl ?_
            obtain ⟨hg15, h⟩ := am_ck_some h
            refine am_Go.c1 htb (S' := (126, [some (.inr (.inr (some (10, 0)))), none, some (.inl x2), some (.inl x3), some (.inl x4)], [.inl (m.1 59 0 x3.toNatClampNeg), .inl x3, .inr (.inr (some (59, 0)))], am_mk m)) (if_neg hg15) ?_
            cases h
            exact am_Go.fg (by exact ⟨rfl, ⟨rfl, ⟨rfl, ⟨rfl, trivial⟩⟩⟩⟩) key
          · rw [if_neg hc14] at h
            refine am_Go.c1 htb (S' := (108, [some (.inr (.inr (some (10, 0)))), none, some (.inl x2), some (.inl x3), some (.inl x4)], [.inl x3, .inr (.inr (some (59, 0)))], am_mk m)) (if_neg hc14) ?_
            refine am_Go.n htb 3 (S' := (114, [some (.inr (.inr (some (10, 0)))), none, some (.inl x2), some (.inl x3), some (.inl x4)], [.inl x4, .inr (.inr (some (59, 0))), .inl x3, .inr (.inr (some (59, 0)))], am_mk m)) rfl ?_
            obtain ⟨hg16, h⟩ := am_ck_some h
            refine am_Go.c1 htb (S' := (115, [some (.inr (.inr (some (10, 0)))), none, some (.inl x2), some (.inl x3), some (.inl x4)], [.inl (m.1 59 0 x4.toNatClampNeg), .inl x3, .inr (.inr (some (59, 0)))], am_mk m)) (if_neg hg16) ?_
            refine am_Go.n htb 3 (S' := (126, [some (.inr (.inr (some (10, 0)))), none, some (.inl x2), some (.inl x3), some (.inl x4)], [.inl ((m.1 59 0 x4.toNatClampNeg) + (1 : Int32)), .inl x3, .inr (.inr (some (59, 0)))], am_mk m)) rfl ?_
            cases h
            exact am_Go.fg (by exact ⟨rfl, ⟨rfl, ⟨rfl, ⟨rfl, trivial⟩⟩⟩⟩) key
set_option maxRecDepth 100000 in
theorem lt_X10_layFar_46 (d : Nat) (hd : 1 ≤ d + 1) {r : Option am_V} {M' : am_M} {kc ks : Nat} {n : Nat} {x2 : Int32} {x3 : Int32} {m : am_m} {t : am_m} (h : lp_X10_layFar_46 n x2 x3 m = some t) (hk : am_Go d 266 (139, [some (.inr (.inr (some (10, 0)))), none, some (.inl x2), none, none], [], am_mk t) r M' kc ks) : am_Go d 266 (46, [some (.inr (.inr (some (10, 0)))), none, some (.inl x2), some (.inl x3), none], [], am_mk m) r M' kc ks := by
  have htb : am_tab 266 = at_266 := rfl
  induction n generalizing x3 m with
  | zero => cases h
  | succ n ih =>
    unfold lp_X10_layFar_46 at h
    refine am_Go.n htb 5 (S' := (53, [some (.inr (.inr (some (10, 0)))), none, some (.inl x2), some (.inl x3), none], [.inl (m.1 44 0 0), .inl x3], am_mk m)) rfl ?_
    by_cases hc7 : (m.1 44 0 0) ≤ x3
    · rw [if_pos hc7] at h
      refine am_Go.c1 htb (S' := (139, [some (.inr (.inr (some (10, 0)))), none, some (.inl x2), some (.inl x3), none], [], am_mk m)) (if_pos hc7) ?_
      cases h
      exact am_Go.fg (by exact ⟨rfl, ⟨rfl, trivial⟩⟩) hk
    · rw [if_neg hc7] at h
      refine am_Go.c1 htb (S' := (56, [some (.inr (.inr (some (10, 0)))), none, some (.inl x2), some (.inl x3), none], [], am_mk m)) (if_neg hc7) ?_
      refine am_Go.n htb 2 (S' := (59, [some (.inr (.inr (some (10, 0)))), none, some (.inl x2), some (.inl x3), some (.inl 0)], [], am_mk m)) rfl ?_
      obtain ⟨q20, h21, h⟩ := am_bd h
      refine lt_X10_layFar_59 _ hd (h := h21) (hk := ?_)
      refine am_Go.n htb 2 (S' := (46, [some (.inr (.inr (some (10, 0)))), none, some (.inl x2), some (.inl (x3 + 1)), none], [], am_mk q20)) rfl ?_
      first | exact ih h | exact ih h hk
set_option maxRecDepth 100000 in
theorem lt_X10_layFar_38 (d : Nat) (hd : 1 ≤ d + 1) {r : Option am_V} {M' : am_M} {kc ks : Nat} {n : Nat} {x2 : Int32} {m : am_m} {t : am_m} (h : lp_X10_layFar_38 n x2 m = some t) (hk : am_Go d 266 (145, [some (.inr (.inr (some (10, 0)))), none, none, none, none], [], am_mk t) r M' kc ks) : am_Go d 266 (38, [some (.inr (.inr (some (10, 0)))), none, some (.inl x2), none, none], [], am_mk m) r M' kc ks := by
  have htb : am_tab 266 = at_266 := rfl
  induction n generalizing x2 m with
  | zero => cases h
  | succ n ih =>
    unfold lp_X10_layFar_38 at h
    refine am_Go.n htb 2 (S' := (41, [some (.inr (.inr (some (10, 0)))), none, some (.inl x2), none, none], [.inl 7, .inl x2], am_mk m)) rfl ?_
    by_cases hc6 : (7 : Int32) ≤ x2
    · rw [if_pos hc6] at h
      refine am_Go.c1 htb (S' := (145, [some (.inr (.inr (some (10, 0)))), none, some (.inl x2), none, none], [], am_mk m)) (if_pos hc6) ?_
      cases h
      exact am_Go.fg (by exact ⟨rfl, trivial⟩) hk
    · rw [if_neg hc6] at h
      refine am_Go.c1 htb (S' := (44, [some (.inr (.inr (some (10, 0)))), none, some (.inl x2), none, none], [], am_mk m)) (if_neg hc6) ?_
      refine am_Go.n htb 2 (S' := (46, [some (.inr (.inr (some (10, 0)))), none, some (.inl x2), some (.inl 0), none], [], am_mk m)) rfl ?_
      obtain ⟨q22, h23, h⟩ := am_bd h
      refine lt_X10_layFar_46 _ hd (h := h23) (hk := ?_)
      refine am_Go.n htb 2 (S' := (38, [some (.inr (.inr (some (10, 0)))), none, some (.inl (x2 + 1)), none, none], [], am_mk q22)) rfl ?_
      first | exact ih h | exact ih h hk
set_option maxRecDepth 100000 in
theorem ex_X10_layFar (d : Nat) (hd : 1 ≤ d) (a1 : Int32) (m : am_m) (t : am_m) (h : fn_X10_layFar a1 m = some t) : am_Ex am_cod d 266 [.inr (.inr (some (10, 0))), .inl a1] (am_mk m) (none) (am_mk t) 0 0 := by
  obtain ⟨d, rfl⟩ : ∃ e, d = e + 1 := ⟨d - 1, by omega⟩
  have htb : am_tab 266 = at_266 := rfl
  refine ⟨Nat.le_of_ble_eq_true rfl, ?_⟩
  unfold fn_X10_layFar at h
  show am_Go d 266 (0, [some (.inr (.inr (some (10, 0)))), some (.inl a1), none, none, none], [], am_mk m) _ _ 0 0
  refine am_Go.n htb 2 (S' := (2, [some (.inr (.inr (some (10, 0)))), some (.inl a1), some (.inl 0), none, none], [], am_mk m)) rfl ?_
  obtain ⟨q4, h5, h⟩ := am_bd h
  refine lt_X10_layFar_2 _ hd (h := h5) (hk := ?_)
  refine am_Go.n htb 2 (S' := (38, [some (.inr (.inr (some (10, 0)))), some (.inl a1), some (.inl 0), none, none], [], am_mk q4)) rfl ?_
  refine am_Go.fg (L0 := [some (.inr (.inr (some (10, 0)))), none, some (.inl 0), none, none]) (by exact ⟨rfl, ⟨rfl, trivial⟩⟩) ?_
  obtain ⟨q24, h25, h⟩ := am_bd h
  refine lt_X10_layFar_38 _ hd (h := h25) (hk := ?_)
  cases h
  exact am_Go.rt htb rfl
-- X10_chain
set_option maxRecDepth 100000 in
theorem lt_X10_chain_104 (d : Nat) (hd : 9 ≤ d + 1) {r : Option am_V} {M' : am_M} {kc ks : Nat} {n : Nat} {x3 : Int32} {x4 : Int32} {x5 : Int32} {x6 : Int32} {m : am_m} {t : Int32} (h : lp_X10_chain_104 n x3 x4 x5 x6 m = some t) (hk : am_Go d 267 (145, [some (.inr (.inr (some (10, 0)))), none, none, some (.inl x3), some (.inl x4), some (.inl x5), some (.inl t)], [], am_mk m) r M' kc ks) : am_Go d 267 (104, [some (.inr (.inr (some (10, 0)))), none, none, some (.inl x3), some (.inl x4), some (.inl x5), some (.inl x6)], [], am_mk m) r M' kc ks := by
  have htb : am_tab 267 = at_267 := rfl
  induction n generalizing x6 with
  | zero => cases h
  | succ n ih =>
    unfold lp_X10_chain_104 at h
    refine am_Go.n htb 7 (S' := (116, [some (.inr (.inr (some (10, 0)))), none, none, some (.inl x3), some (.inl x4), some (.inl x5), some (.inl x6)], [.inl (((7 : Int32) * x4) + x6), .inr (.inr (some (92, 0)))], am_mk m)) rfl ?_
    obtain ⟨hg21, h⟩ := am_ck_some h
    refine am_Go.c1 htb (S' := (117, [some (.inr (.inr (some (10, 0)))), none, none, some (.inl x3), some (.inl x4), some (.inl x5), some (.inl x6)], [.inl (m.1 92 0 (((7 : Int32) * x4) + x6).toNatClampNeg)], am_mk m)) (if_neg hg21) ?_
    by_cases hc22 : (m.1 92 0 (((7 : Int32) * x4) + x6).toNatClampNeg) = 0
    · rw [if_pos hc22] at h
      refine am_Go.c1 htb (S' := (139, [some (.inr (.inr (some (10, 0)))), none, none, some (.inl x3), some (.inl x4), some (.inl x5), some (.inl x6)], [], am_mk m)) (if_pos hc22) ?_
      refine am_Go.n htb 2 (S' := (104, [some (.inr (.inr (some (10, 0)))), none, none, some (.inl x3), some (.inl x4), some (.inl x5), some (.inl (x6 + 1))], [], am_mk m)) rfl ?_
      first | exact ih h | exact ih h hk
    · rw [if_neg hc22] at h
      refine am_Go.c1 htb (S' := (120, [some (.inr (.inr (some (10, 0)))), none, none, some (.inl x3), some (.inl x4), some (.inl x5), some (.inl x6)], [], am_mk m)) (if_neg hc22) ?_
      refine am_Go.n htb 3 (S' := (126, [some (.inr (.inr (some (10, 0)))), none, none, some (.inl x3), some (.inl x4), some (.inl x5), some (.inl x6)], [.inl x6, .inr (.inr (some (59, 0)))], am_mk m)) rfl ?_
      obtain ⟨hg23, h⟩ := am_ck_some h
      refine am_Go.c1 htb (S' := (127, [some (.inr (.inr (some (10, 0)))), none, none, some (.inl x3), some (.inl x4), some (.inl x5), some (.inl x6)], [.inl (m.1 59 0 x6.toNatClampNeg)], am_mk m)) (if_neg hg23) ?_
      refine am_Go.n htb 3 (S' := (133, [some (.inr (.inr (some (10, 0)))), none, none, some (.inl x3), some (.inl x4), some (.inl x5), some (.inl x6)], [.inl x4, .inr (.inr (some (59, 0))), .inl (m.1 59 0 x6.toNatClampNeg)], am_mk m)) rfl ?_
      obtain ⟨hg24, h⟩ := am_ck_some h
      refine am_Go.c1 htb (S' := (134, [some (.inr (.inr (some (10, 0)))), none, none, some (.inl x3), some (.inl x4), some (.inl x5), some (.inl x6)], [.inl (m.1 59 0 x4.toNatClampNeg), .inl (m.1 59 0 x6.toNatClampNeg)], am_mk m)) (if_neg hg24) ?_
      refine am_Go.n htb 2 (S' := (136, [some (.inr (.inr (some (10, 0)))), none, none, some (.inl x3), some (.inl x4), some (.inl x5), some (.inl x6)], [.inl ((m.1 59 0 x4.toNatClampNeg) - (1 : Int32)), .inl (m.1 59 0 x6.toNatClampNeg)], am_mk m)) rfl ?_
      by_cases hc25 : (m.1 59 0 x6.toNatClampNeg) = ((m.1 59 0 x4.toNatClampNeg) - (1 : Int32))
      · rw [if_pos hc25] at h
        refine am_Go.c1 htb (S' := (145, [some (.inr (.inr (some (10, 0)))), none, none, some (.inl x3), some (.inl x4), some (.inl x5), some (.inl x6)], [], am_mk m)) (if_pos hc25) ?_
        cases h
        exact am_Go.fg (by exact ⟨rfl, ⟨rfl, ⟨rfl, ⟨rfl, ⟨rfl, trivial⟩⟩⟩⟩⟩) hk
      · rw [if_neg hc25] at h
        refine am_Go.c1 htb (S' := (139, [some (.inr (.inr (some (10, 0)))), none, none, some (.inl x3), some (.inl x4), some (.inl x5), some (.inl x6)], [], am_mk m)) (if_neg hc25) ?_
        refine am_Go.n htb 2 (S' := (104, [some (.inr (.inr (some (10, 0)))), none, none, some (.inl x3), some (.inl x4), some (.inl x5), some (.inl (x6 + 1))], [], am_mk m)) rfl ?_
        first | exact ih h | exact ih h hk
set_option maxRecDepth 100000 in
theorem lt_X10_chain_95 (d : Nat) (hd : 9 ≤ d + 1) {r : Option am_V} {M' : am_M} {kc ks : Nat} {n : Nat} {x3 : Int32} {x4 : Int32} {x5 : Int32} {m : am_m} {t : Int32} (h : lp_X10_chain_95 n x3 x4 x5 m = some t) (hk : am_Go d 267 (155, [some (.inr (.inr (some (10, 0)))), none, none, some (.inl x3), some (.inl t), none, none], [], am_mk m) r M' kc ks) : am_Go d 267 (95, [some (.inr (.inr (some (10, 0)))), none, none, some (.inl x3), some (.inl x4), some (.inl x5), none], [], am_mk m) r M' kc ks := by
  have htb : am_tab 267 = at_267 := rfl
  induction n generalizing x4 x5 with
  | zero => cases h
  | succ n ih =>
    unfold lp_X10_chain_95 at h
    refine am_Go.n htb 2 (S' := (98, [some (.inr (.inr (some (10, 0)))), none, none, some (.inl x3), some (.inl x4), some (.inl x5), none], [.inl x3, .inl x5], am_mk m)) rfl ?_
    by_cases hc20 : x3 < x5
    · rw [if_pos hc20] at h
      refine am_Go.c1 htb (S' := (155, [some (.inr (.inr (some (10, 0)))), none, none, some (.inl x3), some (.inl x4), some (.inl x5), none], [], am_mk m)) (if_pos hc20) ?_
      cases h
      exact am_Go.fg (by exact ⟨rfl, ⟨rfl, ⟨rfl, trivial⟩⟩⟩) hk
    · rw [if_neg hc20] at h
      refine am_Go.c1 htb (S' := (101, [some (.inr (.inr (some (10, 0)))), none, none, some (.inl x3), some (.inl x4), some (.inl x5), none], [], am_mk m)) (if_neg hc20) ?_
      refine am_Go.n htb 2 (S' := (104, [some (.inr (.inr (some (10, 0)))), none, none, some (.inl x3), some (.inl x4), some (.inl x5), some (.inl 0)], [], am_mk m)) rfl ?_
      obtain ⟨q26, h27, h⟩ := am_bd h
      refine lt_X10_chain_104 _ hd (h := h27) (hk := ?_)
      refine am_Go.n htb 4 (S' := (95, [some (.inr (.inr (some (10, 0)))), none, none, some (.inl x3), some (.inl q26), some (.inl (x5 + 1)), some (.inl q26)], [], am_mk m)) rfl ?_
      refine am_Go.fg (L0 := [some (.inr (.inr (some (10, 0)))), none, none, some (.inl x3), some (.inl q26), some (.inl (x5 + 1)), none]) (by exact ⟨rfl, ⟨rfl, ⟨rfl, ⟨rfl, trivial⟩⟩⟩⟩) ?_
      first | exact ih h | exact ih h hk
set_option maxRecDepth 100000 in
theorem ex_X10_chain (d : Nat) (hd : 9 ≤ d) (a1 : Int32) (a2 : Int32) (a3 : Int32) (m : am_m) (t : Int32 × am_m) (h : fn_X10_chain a1 a2 a3 m = some t) : am_Ex am_cod d 267 [.inr (.inr (some (10, 0))), .inl a1, .inl a2, .inl a3] (am_mk m) (some (.inl t.1)) (am_mk t.2) 0 0 := by
  obtain ⟨d, rfl⟩ : ∃ e, d = e + 1 := ⟨d - 1, by omega⟩
  have htb : am_tab 267 = at_267 := rfl
  refine ⟨Nat.le_of_ble_eq_true rfl, ?_⟩
  unfold fn_X10_chain at h
  show am_Go d 267 (0, [some (.inr (.inr (some (10, 0)))), some (.inl a1), some (.inl a2), some (.inl a3), none, none, none], [], am_mk m) _ _ 0 0
  refine am_Go.n htb 5 (S' := (7, [some (.inr (.inr (some (10, 0)))), some (.inl a1), some (.inl a2), some (.inl a3), none, none, none], [.inl a1, .inr (.inr (some (10, 0)))], am_mk (am_si m 10 0 0 0))) rfl ?_
  obtain ⟨r1, h2, h⟩ := am_bd h
  refine am_Go.cl htb rfl (ex_X10_isFolk d (by omega) a1 (am_si m 10 0 0 0) r1 h2) ?_
  show am_Go d 267 (10, [some (.inr (.inr (some (10, 0)))), some (.inl a1), some (.inl a2), some (.inl a3), none, none, none], [.inl r1], am_mk (am_si m 10 0 0 0)) _ _ _ _
  by_cases hc3 : r1 = 0
  · rw [if_pos hc3] at h
    refine am_Go.c1 htb (S' := (26, [some (.inr (.inr (some (10, 0)))), some (.inl a1), some (.inl a2), some (.inl a3), none, none, none], [], am_mk (am_si m 10 0 0 0))) (if_pos hc3) ?_
    refine am_Go.n htb 1 (S' := (27, [some (.inr (.inr (some (10, 0)))), some (.inl a1), some (.inl a2), some (.inl a3), none, none, none], [.inl (-1)], am_mk (am_si m 10 0 0 0))) rfl ?_
    cases h
    exact am_Go.rt htb rfl
  · rw [if_neg hc3] at h
    refine am_Go.c1 htb (S' := (13, [some (.inr (.inr (some (10, 0)))), some (.inl a1), some (.inl a2), some (.inl a3), none, none, none], [], am_mk (am_si m 10 0 0 0))) (if_neg hc3) ?_
    refine am_Go.n htb 2 (S' := (15, [some (.inr (.inr (some (10, 0)))), some (.inl a1), some (.inl a2), some (.inl a3), none, none, none], [.inl a2, .inr (.inr (some (10, 0)))], am_mk (am_si m 10 0 0 0))) rfl ?_
    obtain ⟨r4, h5, h⟩ := am_bd h
    refine am_Go.cl htb rfl (ex_X10_isFolk d (by omega) a2 (am_si m 10 0 0 0) r4 h5) ?_
    show am_Go d 267 (18, [some (.inr (.inr (some (10, 0)))), some (.inl a1), some (.inl a2), some (.inl a3), none, none, none], [.inl r4], am_mk (am_si m 10 0 0 0)) _ _ _ _
    by_cases hc6 : r4 = 0
    · rw [if_pos hc6] at h
      refine am_Go.c1 htb (S' := (26, [some (.inr (.inr (some (10, 0)))), some (.inl a1), some (.inl a2), some (.inl a3), none, none, none], [], am_mk (am_si m 10 0 0 0))) (if_pos hc6) ?_
      refine am_Go.n htb 1 (S' := (27, [some (.inr (.inr (some (10, 0)))), some (.inl a1), some (.inl a2), some (.inl a3), none, none, none], [.inl (-1)], am_mk (am_si m 10 0 0 0))) rfl ?_
      cases h
      exact am_Go.rt htb rfl
    · rw [if_neg hc6] at h
      refine am_Go.c1 htb (S' := (21, [some (.inr (.inr (some (10, 0)))), some (.inl a1), some (.inl a2), some (.inl a3), none, none, none], [], am_mk (am_si m 10 0 0 0))) (if_neg hc6) ?_
      refine am_Go.n htb 2 (S' := (23, [some (.inr (.inr (some (10, 0)))), some (.inl a1), some (.inl a2), some (.inl a3), none, none, none], [.inl (-1), .inl a3], am_mk (am_si m 10 0 0 0))) rfl ?_
      by_cases hc7 : (-1 : Int32) ≤ a3
      · rw [if_pos hc7] at h
        refine am_Go.c1 htb (S' := (28, [some (.inr (.inr (some (10, 0)))), some (.inl a1), some (.inl a2), some (.inl a3), none, none, none], [], am_mk (am_si m 10 0 0 0))) (if_pos hc7) ?_
        refine am_Go.n htb 1 (S' := (29, [some (.inr (.inr (some (10, 0)))), some (.inl a1), some (.inl a2), some (.inl a3), none, none, none], [.inr (.inr (some (10, 0)))], am_mk (am_si m 10 0 0 0))) rfl ?_
        obtain ⟨r8, h9, h⟩ := am_bd h
        refine am_Go.cl htb rfl (ex_X10_layMay d (by omega)  (am_si m 10 0 0 0) r8 h9) ?_
        show am_Go d 267 (32, [some (.inr (.inr (some (10, 0)))), some (.inl a1), some (.inl a2), some (.inl a3), none, none, none], [], am_mk r8) _ _ _ _
        refine am_Go.n htb 2 (S' := (34, [some (.inr (.inr (some (10, 0)))), some (.inl a1), some (.inl a2), some (.inl a3), none, none, none], [.inl a2, .inr (.inr (some (10, 0)))], am_mk r8)) rfl ?_
        obtain ⟨r10, h11, h⟩ := am_bd h
        refine am_Go.cl htb rfl (ex_X10_layFar d (by omega) a2 r8 r10 h11) ?_
        show am_Go d 267 (37, [some (.inr (.inr (some (10, 0)))), some (.inl a1), some (.inl a2), some (.inl a3), none, none, none], [], am_mk r10) _ _ _ _
        refine am_Go.n htb 3 (S' := (42, [some (.inr (.inr (some (10, 0)))), some (.inl a1), some (.inl a2), some (.inl a3), none, none, none], [.inl a1, .inr (.inr (some (59, 0)))], am_mk r10)) rfl ?_
        obtain ⟨hg12, h⟩ := am_ck_some h
        refine am_Go.c1 htb (S' := (43, [some (.inr (.inr (some (10, 0)))), some (.inl a1), some (.inl a2), some (.inl a3), none, none, none], [.inl (r10.1 59 0 a1.toNatClampNeg)], am_mk r10)) (if_neg hg12) ?_
        refine am_Go.n htb 1 (S' := (46, [some (.inr (.inr (some (10, 0)))), some (.inl a1), some (.inl a2), some (.inl a3), none, none, none], [.inl 100000000, .inl (r10.1 59 0 a1.toNatClampNeg)], am_mk r10)) rfl ?_
        by_cases hc13 : (r10.1 59 0 a1.toNatClampNeg) = (100000000 : Int32)
        · rw [if_pos hc13] at h
          refine am_Go.c1 htb (S' := (54, [some (.inr (.inr (some (10, 0)))), some (.inl a1), some (.inl a2), some (.inl a3), none, none, none], [], am_mk r10)) (if_pos hc13) ?_
          refine am_Go.n htb 3 (S' := (59, [some (.inr (.inr (some (10, 0)))), some (.inl a1), some (.inl a2), some (.inl a3), none, none, none], [.inl a1, .inr (.inr (some (59, 0)))], am_mk r10)) rfl ?_
          obtain ⟨hg14, h⟩ := am_ck_some h
          refine am_Go.c1 htb (S' := (60, [some (.inr (.inr (some (10, 0)))), some (.inl a1), some (.inl a2), some (.inl a3), none, none, none], [.inl (r10.1 59 0 a1.toNatClampNeg)], am_mk r10)) (if_neg hg14) ?_
          refine am_Go.n htb 1 (S' := (63, [some (.inr (.inr (some (10, 0)))), some (.inl a1), some (.inl a2), some (.inl a3), none, none, none], [.inl 100000000, .inl (r10.1 59 0 a1.toNatClampNeg)], am_mk r10)) rfl ?_
          by_cases hc15 : (r10.1 59 0 a1.toNatClampNeg) ≠ (100000000 : Int32)
          · rw [if_pos hc15] at h
            refine am_Go.c1 htb (S' := (70, [some (.inr (.inr (some (10, 0)))), some (.inl a1), some (.inl a2), some (.inl a3), none, none, none], [], am_mk r10)) (if_pos hc15) ?_
            refine am_Go.n htb 3 (S' := (75, [some (.inr (.inr (some (10, 0)))), some (.inl a1), some (.inl a2), some (.inl a3), none, none, none], [.inl a1, .inr (.inr (some (59, 0)))], am_mk r10)) rfl ?_
            obtain ⟨hg16, h⟩ := am_ck_some h
            refine am_Go.c1 htb (S' := (76, [some (.inr (.inr (some (10, 0)))), some (.inl a1), some (.inl a2), some (.inl a3), none, none, none], [.inl (r10.1 59 0 a1.toNatClampNeg)], am_mk r10)) (if_neg hg16) ?_
            cases h
            exact am_Go.rt htb rfl
          · rw [if_neg hc15] at h
            refine am_Go.c1 htb (S' := (66, [some (.inr (.inr (some (10, 0)))), some (.inl a1), some (.inl a2), some (.inl a3), none, none, none], [], am_mk r10)) (if_neg hc15) ?_
            refine am_Go.n htb 2 (S' := (76, [some (.inr (.inr (some (10, 0)))), some (.inl a1), some (.inl a2), some (.inl a3), none, none, none], [.inl (-1)], am_mk r10)) rfl ?_
            cases h
            exact am_Go.rt htb rfl
        · rw [if_neg hc13] at h
          refine am_Go.c1 htb (S' := (49, [some (.inr (.inr (some (10, 0)))), some (.inl a1), some (.inl a2), some (.inl a3), none, none, none], [], am_mk r10)) (if_neg hc13) ?_
          refine am_Go.n htb 2 (S' := (51, [some (.inr (.inr (some (10, 0)))), some (.inl a1), some (.inl a2), some (.inl a3), none, none, none], [.inl (-1), .inl a3], am_mk r10)) rfl ?_
          by_cases hc17 : a3 ≠ (-1 : Int32)
          · rw [if_pos hc17] at h
            refine am_Go.c1 htb (S' := (77, [some (.inr (.inr (some (10, 0)))), some (.inl a1), some (.inl a2), some (.inl a3), none, none, none], [], am_mk r10)) (if_pos hc17) ?_
            refine am_Go.n htb 4 (S' := (83, [some (.inr (.inr (some (10, 0)))), some (.inl a1), some (.inl a2), some (.inl a3), none, none, none], [.inl a1, .inr (.inr (some (59, 0))), .inl a3], am_mk r10)) rfl ?_
            obtain ⟨hg18, h⟩ := am_ck_some h
            refine am_Go.c1 htb (S' := (84, [some (.inr (.inr (some (10, 0)))), some (.inl a1), some (.inl a2), some (.inl a3), none, none, none], [.inl (r10.1 59 0 a1.toNatClampNeg), .inl a3], am_mk r10)) (if_neg hg18) ?_
            by_cases hc19 : a3 < (r10.1 59 0 a1.toNatClampNeg)
            · rw [if_pos hc19] at h
              refine am_Go.c1 htb (S' := (89, [some (.inr (.inr (some (10, 0)))), some (.inl a1), some (.inl a2), some (.inl a3), none, none, none], [], am_mk r10)) (if_pos hc19) ?_
              refine am_Go.n htb 4 (S' := (95, [some (.inr (.inr (some (10, 0)))), some (.inl a1), some (.inl a2), some (.inl a3), some (.inl a1), some (.inl 0), none], [], am_mk r10)) rfl ?_
              refine am_Go.fg (L0 := [some (.inr (.inr (some (10, 0)))), none, none, some (.inl a3), some (.inl a1), some (.inl 0), none]) (by exact ⟨rfl, ⟨rfl, ⟨rfl, ⟨rfl, trivial⟩⟩⟩⟩) ?_
              obtain ⟨q28, h29, h⟩ := am_bd h
              refine lt_X10_chain_95 _ hd (h := h29) (hk := ?_)
              refine am_Go.n htb 1 (S' := (157, [some (.inr (.inr (some (10, 0)))), none, none, some (.inl a3), some (.inl q28), none, none], [.inl q28], am_mk r10)) rfl ?_
              cases h
              exact am_Go.rt htb rfl
            · rw [if_neg hc19] at h
              refine am_Go.c1 htb (S' := (87, [some (.inr (.inr (some (10, 0)))), some (.inl a1), some (.inl a2), some (.inl a3), none, none, none], [], am_mk r10)) (if_neg hc19) ?_
              refine am_Go.n htb 1 (S' := (88, [some (.inr (.inr (some (10, 0)))), some (.inl a1), some (.inl a2), some (.inl a3), none, none, none], [.inl (-1)], am_mk r10)) rfl ?_
              cases h
              exact am_Go.rt htb rfl
          · rw [if_neg hc17] at h
            refine am_Go.c1 htb (S' := (54, [some (.inr (.inr (some (10, 0)))), some (.inl a1), some (.inl a2), some (.inl a3), none, none, none], [], am_mk r10)) (if_neg hc17) ?_
            refine am_Go.n htb 3 (S' := (59, [some (.inr (.inr (some (10, 0)))), some (.inl a1), some (.inl a2), some (.inl a3), none, none, none], [.inl a1, .inr (.inr (some (59, 0)))], am_mk r10)) rfl ?_
            obtain ⟨hg30, h⟩ := am_ck_some h
            refine am_Go.c1 htb (S' := (60, [some (.inr (.inr (some (10, 0)))), some (.inl a1), some (.inl a2), some (.inl a3), none, none, none], [.inl (r10.1 59 0 a1.toNatClampNeg)], am_mk r10)) (if_neg hg30) ?_
            refine am_Go.n htb 1 (S' := (63, [some (.inr (.inr (some (10, 0)))), some (.inl a1), some (.inl a2), some (.inl a3), none, none, none], [.inl 100000000, .inl (r10.1 59 0 a1.toNatClampNeg)], am_mk r10)) rfl ?_
            by_cases hc31 : (r10.1 59 0 a1.toNatClampNeg) ≠ (100000000 : Int32)
            · rw [if_pos hc31] at h
              refine am_Go.c1 htb (S' := (70, [some (.inr (.inr (some (10, 0)))), some (.inl a1), some (.inl a2), some (.inl a3), none, none, none], [], am_mk r10)) (if_pos hc31) ?_
              refine am_Go.n htb 3 (S' := (75, [some (.inr (.inr (some (10, 0)))), some (.inl a1), some (.inl a2), some (.inl a3), none, none, none], [.inl a1, .inr (.inr (some (59, 0)))], am_mk r10)) rfl ?_
              obtain ⟨hg32, h⟩ := am_ck_some h
              refine am_Go.c1 htb (S' := (76, [some (.inr (.inr (some (10, 0)))), some (.inl a1), some (.inl a2), some (.inl a3), none, none, none], [.inl (r10.1 59 0 a1.toNatClampNeg)], am_mk r10)) (if_neg hg32) ?_
              cases h
              exact am_Go.rt htb rfl
            · rw [if_neg hc31] at h
              refine am_Go.c1 htb (S' := (66, [some (.inr (.inr (some (10, 0)))), some (.inl a1), some (.inl a2), some (.inl a3), none, none, none], [], am_mk r10)) (if_neg hc31) ?_
              refine am_Go.n htb 2 (S' := (76, [some (.inr (.inr (some (10, 0)))), some (.inl a1), some (.inl a2), some (.inl a3), none, none, none], [.inl (-1)], am_mk r10)) rfl ?_
              cases h
              exact am_Go.rt htb rfl
      · rw [if_neg hc7] at h
        refine am_Go.c1 htb (S' := (26, [some (.inr (.inr (some (10, 0)))), some (.inl a1), some (.inl a2), some (.inl a3), none, none, none], [], am_mk (am_si m 10 0 0 0))) (if_neg hc7) ?_
        refine am_Go.n htb 1 (S' := (27, [some (.inr (.inr (some (10, 0)))), some (.inl a1), some (.inl a2), some (.inl a3), none, none, none], [.inl (-1)], am_mk (am_si m 10 0 0 0))) rfl ?_
        cases h
        exact am_Go.rt htb rfl
-- X10_circlesNow
set_option maxRecDepth 100000 in
theorem lt_X10_circlesNow_45 (d : Nat) (hd : 2 ≤ d + 1) {r : Option am_V} {M' : am_M} {kc ks : Nat} {n : Nat} {x1 : Int32} {x2 : Int32} {x3 : Int32} {x4 : Int32} {x5 : Int32} {x6 : Int32} {m : am_m} {t : Int32} (h : lp_X10_circlesNow_45 n x1 x2 x3 x4 x5 x6 m = some t) (hk : am_Go d 268 (87, [some (.inr (.inr (some (10, 0)))), some (.inl x1), some (.inl x2), some (.inl x3), some (.inl t), some (.inl x5), none], [], am_mk m) r M' kc ks) : am_Go d 268 (45, [some (.inr (.inr (some (10, 0)))), some (.inl x1), some (.inl x2), some (.inl x3), some (.inl x4), some (.inl x5), some (.inl x6)], [], am_mk m) r M' kc ks := by
  have htb : am_tab 268 = at_268 := rfl
  induction n generalizing x4 x6 with
  | zero => cases h
  | succ n ih =>
    unfold lp_X10_circlesNow_45 at h
    refine am_Go.n htb 5 (S' := (53, [some (.inr (.inr (some (10, 0)))), some (.inl x1), some (.inl x2), some (.inl x3), some (.inl x4), some (.inl x5), some (.inl x6)], [.inl (m.1 44 0 0), .inl x6], am_mk m)) rfl ?_
    by_cases hc6 : (m.1 44 0 0) ≤ x6
    · rw [if_pos hc6] at h
      refine am_Go.c1 htb (S' := (87, [some (.inr (.inr (some (10, 0)))), some (.inl x1), some (.inl x2), some (.inl x3), some (.inl x4), some (.inl x5), some (.inl x6)], [], am_mk m)) (if_pos hc6) ?_
      cases h
      exact am_Go.fg (by exact ⟨rfl, ⟨rfl, ⟨rfl, ⟨rfl, ⟨rfl, ⟨rfl, trivial⟩⟩⟩⟩⟩⟩) hk
    · rw [if_neg hc6] at h
      refine am_Go.c1 htb (S' := (56, [some (.inr (.inr (some (10, 0)))), some (.inl x1), some (.inl x2), some (.inl x3), some (.inl x4), some (.inl x5), some (.inl x6)], [], am_mk m)) (if_neg hc6) ?_
      refine am_Go.n htb 3 (S' := (62, [some (.inr (.inr (some (10, 0)))), some (.inl x1), some (.inl x2), some (.inl x3), some (.inl x4), some (.inl x5), some (.inl x6)], [.inl x6, .inl x4, .inl x4], am_mk m)) rfl ?_
      obtain ⟨r7, h8, h⟩ := am_bd h
      refine am_Go.cl htb rfl (ex_X10_is d (by omega) x4 x6 m r7 h8) ?_
      show am_Go d 268 (65, [some (.inr (.inr (some (10, 0)))), some (.inl x1), some (.inl x2), some (.inl x3), some (.inl x4), some (.inl x5), some (.inl x6)], [.inl r7, .inl x4], am_mk m) _ _ _ _
      obtain ⟨q12, h13, h⟩ := am_bd h
      refine am_Go.cut (S := (78, [some (.inr (.inr (some (10, 0)))), some (.inl x1), some (.inl x2), some (.inl x3), some (.inl x4), some (.inl x5), some (.inl x6)], [.inl q12, .inl x4], am_mk m)) ?_ (fun key => ?_)
      · refine am_Go.n htb 4 (S' := (45, [some (.inr (.inr (some (10, 0)))), some (.inl x1), some (.inl x2), some (.inl x3), some (.inl (x4 ||| q12)), some (.inl x5), some (.inl (x6 + 1))], [], am_mk m)) rfl ?_
        first | exact ih h | exact ih h hk
      · have h := h13
        by_cases hc9 : r7 = 0
        · rw [if_pos hc9] at h
          refine am_Go.c1 htb (S' := (77, [some (.inr (.inr (some (10, 0)))), some (.inl x1), some (.inl x2), some (.inl x3), some (.inl x4), some (.inl x5), some (.inl x6)], [.inl x4], am_mk m)) (if_pos hc9) ?_
          refine am_Go.n htb 1 (S' := (78, [some (.inr (.inr (some (10, 0)))), some (.inl x1), some (.inl x2), some (.inl x3), some (.inl x4), some (.inl x5), some (.inl x6)], [.inl 0, .inl x4], am_mk m)) rfl ?_
          cases h
          exact am_Go.fg (by exact ⟨rfl, ⟨rfl, ⟨rfl, ⟨rfl, ⟨rfl, ⟨rfl, ⟨rfl, trivial⟩⟩⟩⟩⟩⟩⟩) key
        · rw [if_neg hc9] at h
          refine am_Go.c1 htb (S' := (68, [some (.inr (.inr (some (10, 0)))), some (.inl x1), some (.inl x2), some (.inl x3), some (.inl x4), some (.inl x5), some (.inl x6)], [.inl x4], am_mk m)) (if_neg hc9) ?_
          refine am_Go.n htb 2 (S' := (71, [some (.inr (.inr (some (10, 0)))), some (.inl x1), some (.inl x2), some (.inl x3), some (.inl x4), some (.inl x5), some (.inl x6)], [.inl x6, .inr (.inr (some (10, 0))), .inl x4], am_mk m)) rfl ?_
          obtain ⟨r10, h11, h⟩ := am_bd h
          refine am_Go.cl htb rfl (ex_X10_sitsWith d (by omega) x6 m r10 h11) ?_
          show am_Go d 268 (74, [some (.inr (.inr (some (10, 0)))), some (.inl x1), some (.inl x2), some (.inl x3), some (.inl x4), some (.inl x5), some (.inl x6)], [.inl r10, .inl x4], am_mk m) _ _ _ _
          refine am_Go.n htb 1 (S' := (78, [some (.inr (.inr (some (10, 0)))), some (.inl x1), some (.inl x2), some (.inl x3), some (.inl x4), some (.inl x5), some (.inl x6)], [.inl r10, .inl x4], am_mk m)) rfl ?_
          cases h
          exact am_Go.fg (by exact ⟨rfl, ⟨rfl, ⟨rfl, ⟨rfl, ⟨rfl, ⟨rfl, ⟨rfl, trivial⟩⟩⟩⟩⟩⟩⟩) key
set_option maxRecDepth 100000 in
theorem lt_X10_circlesNow_35 (d : Nat) (hd : 2 ≤ d + 1) {r : Option am_V} {M' : am_M} {kc ks : Nat} {n : Nat} {x1 : Int32} {x2 : Int32} {x3 : Int32} {x4 : Int32} {x5 : Int32} {m : am_m} {t : Int32} (h : lp_X10_circlesNow_35 n x1 x2 x3 x4 x5 m = some t) (hk : am_Go d 268 (93, [some (.inr (.inr (some (10, 0)))), some (.inl x1), some (.inl x2), some (.inl x3), some (.inl t), none, none], [], am_mk m) r M' kc ks) : am_Go d 268 (35, [some (.inr (.inr (some (10, 0)))), some (.inl x1), some (.inl x2), some (.inl x3), some (.inl x4), some (.inl x5), none], [], am_mk m) r M' kc ks := by
  have htb : am_tab 268 = at_268 := rfl
  induction n generalizing x4 x5 with
  | zero => cases h
  | succ n ih =>
    unfold lp_X10_circlesNow_35 at h
    refine am_Go.n htb 2 (S' := (39, [some (.inr (.inr (some (10, 0)))), some (.inl x1), some (.inl x2), some (.inl x3), some (.inl x4), some (.inl x5), none], [.inl 7, .inl x5], am_mk m)) rfl ?_
    by_cases hc5 : (7 : Int32) ≤ x5
    · rw [if_pos hc5] at h
      refine am_Go.c1 htb (S' := (93, [some (.inr (.inr (some (10, 0)))), some (.inl x1), some (.inl x2), some (.inl x3), some (.inl x4), some (.inl x5), none], [], am_mk m)) (if_pos hc5) ?_
      cases h
      exact am_Go.fg (by exact ⟨rfl, ⟨rfl, ⟨rfl, ⟨rfl, ⟨rfl, trivial⟩⟩⟩⟩⟩) hk
    · rw [if_neg hc5] at h
      refine am_Go.c1 htb (S' := (42, [some (.inr (.inr (some (10, 0)))), some (.inl x1), some (.inl x2), some (.inl x3), some (.inl x4), some (.inl x5), none], [], am_mk m)) (if_neg hc5) ?_
      refine am_Go.n htb 2 (S' := (45, [some (.inr (.inr (some (10, 0)))), some (.inl x1), some (.inl x2), some (.inl x3), some (.inl x4), some (.inl x5), some (.inl 0)], [], am_mk m)) rfl ?_
      obtain ⟨q14, h15, h⟩ := am_bd h
      refine lt_X10_circlesNow_45 _ hd (h := h15) (hk := ?_)
      refine am_Go.n htb 2 (S' := (35, [some (.inr (.inr (some (10, 0)))), some (.inl x1), some (.inl x2), some (.inl x3), some (.inl q14), some (.inl (x5 + 1)), none], [], am_mk m)) rfl ?_
      first | exact ih h | exact ih h hk
set_option maxRecDepth 100000 in
theorem lt_X10_circlesNow_6 (d : Nat) (hd : 2 ≤ d + 1) {r : Option am_V} {M' : am_M} {kc ks : Nat} {n : Nat} {x1 : Int32} {x2 : Int32} {x3 : Int32} {m : am_m} {t : Int32} (h : lp_X10_circlesNow_6 n x1 x2 x3 m = some t) (hk : am_Go d 268 (104, [some (.inr (.inr (some (10, 0)))), none, some (.inl t), none, none, none, none], [], am_mk m) r M' kc ks) : am_Go d 268 (6, [some (.inr (.inr (some (10, 0)))), some (.inl x1), some (.inl x2), some (.inl x3), none, none, none], [], am_mk m) r M' kc ks := by
  have htb : am_tab 268 = at_268 := rfl
  induction n generalizing x1 x2 x3 with
  | zero => cases h
  | succ n ih =>
    unfold lp_X10_circlesNow_6 at h
    refine am_Go.n htb 5 (S' := (13, [some (.inr (.inr (some (10, 0)))), some (.inl x1), some (.inl x2), some (.inl x3), none, none, none], [.inl (m.1 44 0 0), .inl x3], am_mk m)) rfl ?_
    by_cases hc1 : (m.1 44 0 0) ≤ x3
    · rw [if_pos hc1] at h
      refine am_Go.c1 htb (S' := (104, [some (.inr (.inr (some (10, 0)))), some (.inl x1), some (.inl x2), some (.inl x3), none, none, none], [], am_mk m)) (if_pos hc1) ?_
      cases h
      exact am_Go.fg (by exact ⟨rfl, ⟨rfl, trivial⟩⟩) hk
    · rw [if_neg hc1] at h
      refine am_Go.c1 htb (S' := (16, [some (.inr (.inr (some (10, 0)))), some (.inl x1), some (.inl x2), some (.inl x3), none, none, none], [], am_mk m)) (if_neg hc1) ?_
      refine am_Go.n htb 2 (S' := (18, [some (.inr (.inr (some (10, 0)))), some (.inl x1), some (.inl x2), some (.inl x3), none, none, none], [.inl x3, .inl x1], am_mk m)) rfl ?_
      obtain ⟨r2, h3, h⟩ := am_bd h
      refine am_Go.cl htb rfl (ex_X10_is d (by omega) x1 x3 m r2 h3) ?_
      show am_Go d 268 (21, [some (.inr (.inr (some (10, 0)))), some (.inl x1), some (.inl x2), some (.inl x3), none, none, none], [.inl r2], am_mk m) _ _ _ _
      obtain ⟨q18, h19, h⟩ := am_bd h
      refine am_Go.cut (S := (98, [some (.inr (.inr (some (10, 0)))), some (.inl q18.1), some (.inl q18.2), some (.inl x3), none, none, none], [], am_mk m)) ?_ (fun key => ?_)
      · refine am_Go.n htb 2 (S' := (6, [some (.inr (.inr (some (10, 0)))), some (.inl q18.1), some (.inl q18.2), some (.inl (x3 + 1)), none, none, none], [], am_mk m)) rfl ?_
        first | exact ih h | exact ih h hk
      · have h := h19
        by_cases hc4 : r2 ≠ 0
        · rw [if_pos hc4] at h
          refine am_Go.c1 htb (S' := (98, [some (.inr (.inr (some (10, 0)))), some (.inl x1), some (.inl x2), some (.inl x3), none, none, none], [], am_mk m)) (if_pos hc4) ?_
          cases h
          exact am_Go.fg (by exact ⟨rfl, ⟨rfl, ⟨rfl, ⟨rfl, trivial⟩⟩⟩⟩) key
        · rw [if_neg hc4] at h
          refine am_Go.c1 htb (S' := (24, [some (.inr (.inr (some (10, 0)))), some (.inl x1), some (.inl x2), some (.inl x3), none, none, none], [], am_mk m)) (if_neg hc4) ?_
          refine am_Go.n htb 7 (S' := (35, [some (.inr (.inr (some (10, 0)))), some (.inl x1), some (.inl (x2 + 1)), some (.inl x3), some (.inl ((1 : Int32) <<< (x3 &&& 31))), some (.inl 0), none], [], am_mk m)) rfl ?_
          obtain ⟨q16, h17, h⟩ := am_bd h
          refine lt_X10_circlesNow_35 _ hd (h := h17) (hk := ?_)
          refine am_Go.n htb 4 (S' := (98, [some (.inr (.inr (some (10, 0)))), some (.inl (x1 ||| q16)), some (.inl (x2 + 1)), some (.inl x3), some (.inl q16), none, none], [], am_mk m)) rfl ?_
          cases h
          exact am_Go.fg (by exact ⟨rfl, ⟨rfl, ⟨rfl, ⟨rfl, trivial⟩⟩⟩⟩) key
set_option maxRecDepth 100000 in
theorem ex_X10_circlesNow (d : Nat) (hd : 2 ≤ d)  (m : am_m) (t : Int32) (h : fn_X10_circlesNow  m = some t) : am_Ex am_cod d 268 [.inr (.inr (some (10, 0)))] (am_mk m) (some (.inl t)) (am_mk m) 0 0 := by
  obtain ⟨d, rfl⟩ : ∃ e, d = e + 1 := ⟨d - 1, by omega⟩
  have htb : am_tab 268 = at_268 := rfl
  refine ⟨Nat.le_of_ble_eq_true rfl, ?_⟩
  unfold fn_X10_circlesNow at h
  show am_Go d 268 (0, [some (.inr (.inr (some (10, 0)))), none, none, none, none, none, none], [], am_mk m) _ _ 0 0
  refine am_Go.n htb 6 (S' := (6, [some (.inr (.inr (some (10, 0)))), some (.inl 0), some (.inl 0), some (.inl 0), none, none, none], [], am_mk m)) rfl ?_
  obtain ⟨q20, h21, h⟩ := am_bd h
  refine lt_X10_circlesNow_6 _ hd (h := h21) (hk := ?_)
  refine am_Go.n htb 1 (S' := (105, [some (.inr (.inr (some (10, 0)))), none, some (.inl q20), none, none, none, none], [.inl q20], am_mk m)) rfl ?_
  cases h
  exact am_Go.rt htb rfl
-- X10_circles
set_option maxRecDepth 100000 in
theorem ex_X10_circles (d : Nat) (hd : 9 ≤ d)  (m : am_m) (t : Int32 × am_m) (h : fn_X10_circles  m = some t) : am_Ex am_cod d 269 [.inr (.inr (some (10, 0)))] (am_mk m) (some (.inl t.1)) (am_mk t.2) 0 0 := by
  obtain ⟨d, rfl⟩ : ∃ e, d = e + 1 := ⟨d - 1, by omega⟩
  have htb : am_tab 269 = at_269 := rfl
  refine ⟨Nat.le_of_ble_eq_true rfl, ?_⟩
  unfold fn_X10_circles at h
  show am_Go d 269 (0, [some (.inr (.inr (some (10, 0))))], [], am_mk m) _ _ 0 0
  refine am_Go.n htb 4 (S' := (6, [some (.inr (.inr (some (10, 0))))], [.inr (.inr (some (10, 0)))], am_mk (am_si m 10 0 0 0))) rfl ?_
  obtain ⟨r1, h2, h⟩ := am_bd h
  refine am_Go.cl htb rfl (ex_X10_layMay d (by omega)  (am_si m 10 0 0 0) r1 h2) ?_
  show am_Go d 269 (9, [some (.inr (.inr (some (10, 0))))], [], am_mk r1) _ _ _ _
  refine am_Go.n htb 1 (S' := (10, [some (.inr (.inr (some (10, 0))))], [.inr (.inr (some (10, 0)))], am_mk r1)) rfl ?_
  obtain ⟨r3, h4, h⟩ := am_bd h
  refine am_Go.cl htb rfl (ex_X10_circlesNow d (by omega)  r1 r3 h4) ?_
  show am_Go d 269 (13, [some (.inr (.inr (some (10, 0))))], [.inl r3], am_mk r1) _ _ _ _
  cases h
  exact am_Go.rt htb rfl
