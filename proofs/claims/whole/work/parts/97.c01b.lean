set_option maxHeartbeats 10000000 in
set_option maxRecDepth 100000 in
theorem lt_X1_tell_o_16 (d : Nat) (hd : 2 ≤ d + 1) {r : Option am_V} {M' : am_M} {kc ks : Nat} {n : Nat} {x1 : Nat} {x4 : Int32} {x5 : Int32} {x6 : Int32} {m : am_m} {t : Sum (am_m) (Int32 × am_m)} (h : lp_X1_tell_o_16 n x1 x4 x5 x6 m = some t) (hk : ∀ t', t = .inl t' → am_Go d 18 (364, [some (.inr (.inr (some (1, 0)))), some (.inr (.inr (some (5, x1)))), none, some (.inr (.inr (some (41, 0)))), none, none, none, none, none, none], [], am_mk t') r M' kc ks) (hr : ∀ t', t = .inr t' → r = some (.inl t'.1) ∧ M' = am_mk t'.2 ∧ kc = 0 ∧ ks = 0) : am_Go d 18 (16, [some (.inr (.inr (some (1, 0)))), some (.inr (.inr (some (5, x1)))), none, some (.inr (.inr (some (41, 0)))), some (.inl x4), some (.inl x5), some (.inl x6), none, none, none], [], am_mk m) r M' kc ks := by
  have htb : am_tab 18 = at_18 := rfl
  induction n generalizing x4 x5 x6 m with
  | zero => cases h
  | succ n ih =>
    unfold lp_X1_tell_o_16 at h
    refine am_Go.n htb 3 (S' := (22, [some (.inr (.inr (some (1, 0)))), some (.inr (.inr (some (5, x1)))), none, some (.inr (.inr (some (41, 0)))), some (.inl x4), some (.inl x5), some (.inl x6), none, none, none], [.inl (m.1 5 x1 3), .inl x6], am_mk m)) rfl ?_
    by_cases hc2 : (m.1 5 x1 3) ≤ x6
    · rw [if_pos hc2] at h
      refine am_Go.c1 htb (S' := (364, [some (.inr (.inr (some (1, 0)))), some (.inr (.inr (some (5, x1)))), none, some (.inr (.inr (some (41, 0)))), some (.inl x4), some (.inl x5), some (.inl x6), none, none, none], [], am_mk m)) (if_pos hc2) ?_
      cases h
      exact am_Go.fg (by exact ⟨rfl, ⟨rfl, ⟨rfl, trivial⟩⟩⟩) (hk _ rfl)
    · rw [if_neg hc2] at h
      refine am_Go.c1 htb (S' := (25, [some (.inr (.inr (some (1, 0)))), some (.inr (.inr (some (5, x1)))), none, some (.inr (.inr (some (41, 0)))), some (.inl x4), some (.inl x5), some (.inl x6), none, none, none], [], am_mk m)) (if_neg hc2) ?_
      refine am_Go.n htb 1 (S' := (27, [some (.inr (.inr (some (1, 0)))), some (.inr (.inr (some (5, x1)))), none, some (.inr (.inr (some (41, 0)))), some (.inl x4), some (.inl x5), some (.inl x6), none, none, none], [.inl x5], am_mk m)) rfl ?_
      by_cases hc3 : x5 < 0
      · rw [if_pos hc3] at h
        refine am_Go.c1 htb (S' := (364, [some (.inr (.inr (some (1, 0)))), some (.inr (.inr (some (5, x1)))), none, some (.inr (.inr (some (41, 0)))), some (.inl x4), some (.inl x5), some (.inl x6), none, none, none], [], am_mk m)) (if_pos hc3) ?_
        cases h
        exact am_Go.fg (by exact ⟨rfl, ⟨rfl, ⟨rfl, trivial⟩⟩⟩) (hk _ rfl)
      · rw [if_neg hc3] at h
        refine am_Go.c1 htb (S' := (30, [some (.inr (.inr (some (1, 0)))), some (.inr (.inr (some (5, x1)))), none, some (.inr (.inr (some (41, 0)))), some (.inl x4), some (.inl x5), some (.inl x6), none, none, none], [], am_mk m)) (if_neg hc3) ?_
        refine am_Go.n htb 3 (S' := (36, [some (.inr (.inr (some (1, 0)))), some (.inr (.inr (some (5, x1)))), none, some (.inr (.inr (some (41, 0)))), some (.inl x4), some (.inl x5), some (.inl x6), none, none, none], [.inl (m.1 5 x1 3), .inl x5], am_mk m)) rfl ?_
        by_cases hc4 : (m.1 5 x1 3) ≤ x5
        · rw [if_pos hc4] at h
          refine am_Go.c1 htb (S' := (364, [some (.inr (.inr (some (1, 0)))), some (.inr (.inr (some (5, x1)))), none, some (.inr (.inr (some (41, 0)))), some (.inl x4), some (.inl x5), some (.inl x6), none, none, none], [], am_mk m)) (if_pos hc4) ?_
          cases h
          exact am_Go.fg (by exact ⟨rfl, ⟨rfl, ⟨rfl, trivial⟩⟩⟩) (hk _ rfl)
        · rw [if_neg hc4] at h
          refine am_Go.c1 htb (S' := (39, [some (.inr (.inr (some (1, 0)))), some (.inr (.inr (some (5, x1)))), none, some (.inr (.inr (some (41, 0)))), some (.inl x4), some (.inl x5), some (.inl x6), none, none, none], [], am_mk m)) (if_neg hc4) ?_
          refine am_Go.n htb 3 (S' := (45, [some (.inr (.inr (some (1, 0)))), some (.inr (.inr (some (5, x1)))), none, some (.inr (.inr (some (41, 0)))), some (.inl x4), some (.inl x5), some (.inl x6), none, none, none], [.inl x5, .inr (.inr (some (29, x1)))], am_mk m)) rfl ?_
          obtain ⟨hg5, h⟩ := am_ck_some h
          refine am_Go.c1 htb (S' := (46, [some (.inr (.inr (some (1, 0)))), some (.inr (.inr (some (5, x1)))), none, some (.inr (.inr (some (41, 0)))), some (.inl x4), some (.inl x5), some (.inl x6), none, none, none], [.inl (m.1 29 x1 x5.toNatClampNeg)], am_mk m)) (if_neg hg5) ?_
          refine am_Go.n htb 2 (S' := (50, [some (.inr (.inr (some (1, 0)))), some (.inr (.inr (some (5, x1)))), none, some (.inr (.inr (some (41, 0)))), some (.inl x4), some (.inl x5), some (.inl x6), none, none, none], [.inl ((m.1 29 x1 x5.toNatClampNeg) &&& (511 : Int32))], am_mk m)) rfl ?_
          obtain ⟨v6, h7, h⟩ := am_bd h
          replace h7 : ((m.1 29 x1 x5.toNatClampNeg) &&& (511 : Int32)) = v6 := Option.some.inj h7
          rw [h7]
          refine am_Go.n htb 4 (S' := (58, [some (.inr (.inr (some (1, 0)))), some (.inr (.inr (some (5, x1)))), none, some (.inr (.inr (some (41, 0)))), some (.inl x4), some (.inl x5), some (.inl x6), some (.inl v6), none, none], [.inl x5, .inr (.inr (some (29, x1)))], am_mk m)) rfl ?_
          obtain ⟨hg8, h⟩ := am_ck_some h
          refine am_Go.c1 htb (S' := (59, [some (.inr (.inr (some (1, 0)))), some (.inr (.inr (some (5, x1)))), none, some (.inr (.inr (some (41, 0)))), some (.inl x4), some (.inl x5), some (.inl x6), some (.inl v6), none, none], [.inl (m.1 29 x1 x5.toNatClampNeg)], am_mk m)) (if_neg hg8) ?_
          refine am_Go.n htb 2 (S' := (62, [some (.inr (.inr (some (1, 0)))), some (.inr (.inr (some (5, x1)))), none, some (.inr (.inr (some (41, 0)))), some (.inl x4), some (.inl x5), some (.inl x6), some (.inl v6), none, none], [.inl ((m.1 29 x1 x5.toNatClampNeg) >>> ((9 : Int32) &&& 31))], am_mk m)) rfl ?_
          obtain ⟨v9, h10, h⟩ := am_bd h
          replace h10 : ((m.1 29 x1 x5.toNatClampNeg) >>> ((9 : Int32) &&& 31)) = v9 := Option.some.inj h10
          rw [h10]
          refine am_Go.n htb 4 (S' := (72, [some (.inr (.inr (some (1, 0)))), some (.inr (.inr (some (5, x1)))), none, some (.inr (.inr (some (41, 0)))), some (.inl x4), some (.inl (x5 + 1)), some (.inl x6), some (.inl v6), some (.inl v9), none], [.inl 257, .inl v6], am_mk m)) rfl ?_
          by_cases hc11 : v6 ≠ (257 : Int32)
          · rw [if_pos hc11] at h
            refine am_Go.c1 htb (S' := (94, [some (.inr (.inr (some (1, 0)))), some (.inr (.inr (some (5, x1)))), none, some (.inr (.inr (some (41, 0)))), some (.inl x4), some (.inl (x5 + 1)), some (.inl x6), some (.inl v6), some (.inl v9), none], [], am_mk m)) (if_pos hc11) ?_
            refine am_Go.n htb 2 (S' := (99, [some (.inr (.inr (some (1, 0)))), some (.inr (.inr (some (5, x1)))), none, some (.inr (.inr (some (41, 0)))), some (.inl x4), some (.inl (x5 + 1)), some (.inl x6), some (.inl v6), some (.inl v9), none], [.inl 256, .inl v6], am_mk m)) rfl ?_
            by_cases hc12 : v6 = (256 : Int32)
            · rw [if_pos hc12] at h
              refine am_Go.c1 htb (S' := (110, [some (.inr (.inr (some (1, 0)))), some (.inr (.inr (some (5, x1)))), none, some (.inr (.inr (some (41, 0)))), some (.inl x4), some (.inl (x5 + 1)), some (.inl x6), some (.inl v6), some (.inl v9), none], [], am_mk m)) (if_pos hc12) ?_
              refine am_Go.n htb 4 (S' := (117, [some (.inr (.inr (some (1, 0)))), some (.inr (.inr (some (5, x1)))), none, some (.inr (.inr (some (41, 0)))), some (.inl x4), some (.inl (x5 + 1)), some (.inl x6), some (.inl v6), some (.inl v9), none], [.inl (Int32.ofNat 51), .inl x4], am_mk m)) rfl ?_
              by_cases hc13 : (Int32.ofNat 51) ≤ x4
              · rw [if_pos hc13] at h
                refine am_Go.c1 htb (S' := (140, [some (.inr (.inr (some (1, 0)))), some (.inr (.inr (some (5, x1)))), none, some (.inr (.inr (some (41, 0)))), some (.inl x4), some (.inl (x5 + 1)), some (.inl x6), some (.inl v6), some (.inl v9), none], [], am_mk m)) (if_pos hc13) ?_
                refine am_Go.n htb 1 (S' := (142, [some (.inr (.inr (some (1, 0)))), some (.inr (.inr (some (5, x1)))), none, some (.inr (.inr (some (41, 0)))), some (.inl x4), some (.inl (x5 + 1)), some (.inl x6), some (.inl v6), some (.inl v9), none], [.inl 2000000000], am_mk m)) rfl ?_
                cases h
                obtain ⟨rfl, rfl, rfl, rfl⟩ := hr _ rfl
                exact am_Go.rt htb rfl
              · rw [if_neg hc13] at h
                refine am_Go.c1 htb (S' := (120, [some (.inr (.inr (some (1, 0)))), some (.inr (.inr (some (5, x1)))), none, some (.inr (.inr (some (41, 0)))), some (.inl x4), some (.inl (x5 + 1)), some (.inl x6), some (.inl v6), some (.inl v9), none], [], am_mk m)) (if_neg hc13) ?_
                refine am_Go.n htb 1 (S' := (122, [some (.inr (.inr (some (1, 0)))), some (.inr (.inr (some (5, x1)))), none, some (.inr (.inr (some (41, 0)))), some (.inl x4), some (.inl (x5 + 1)), some (.inl x6), some (.inl v6), some (.inl v9), none], [.inl v9], am_mk m)) rfl ?_
                by_cases hc14 : v9 < 0
                · rw [if_pos hc14] at h
                  refine am_Go.c1 htb (S' := (140, [some (.inr (.inr (some (1, 0)))), some (.inr (.inr (some (5, x1)))), none, some (.inr (.inr (some (41, 0)))), some (.inl x4), some (.inl (x5 + 1)), some (.inl x6), some (.inl v6), some (.inl v9), none], [], am_mk m)) (if_pos hc14) ?_
                  refine am_Go.n htb 1 (S' := (142, [some (.inr (.inr (some (1, 0)))), some (.inr (.inr (some (5, x1)))), none, some (.inr (.inr (some (41, 0)))), some (.inl x4), some (.inl (x5 + 1)), some (.inl x6), some (.inl v6), some (.inl v9), none], [.inl 2000000000], am_mk m)) rfl ?_
                  cases h
                  obtain ⟨rfl, rfl, rfl, rfl⟩ := hr _ rfl
                  exact am_Go.rt htb rfl
                · rw [if_neg hc14] at h
                  refine am_Go.c1 htb (S' := (125, [some (.inr (.inr (some (1, 0)))), some (.inr (.inr (some (5, x1)))), none, some (.inr (.inr (some (41, 0)))), some (.inl x4), some (.inl (x5 + 1)), some (.inl x6), some (.inl v6), some (.inl v9), none], [], am_mk m)) (if_neg hc14) ?_
                  refine am_Go.n htb 2 (S' := (130, [some (.inr (.inr (some (1, 0)))), some (.inr (.inr (some (5, x1)))), none, some (.inr (.inr (some (41, 0)))), some (.inl x4), some (.inl (x5 + 1)), some (.inl x6), some (.inl v6), some (.inl v9), none], [.inl 258, .inl v6], am_mk m)) rfl ?_
                  by_cases hc15 : v6 ≠ (258 : Int32)
                  · rw [if_pos hc15] at h
                    refine am_Go.c1 htb (S' := (143, [some (.inr (.inr (some (1, 0)))), some (.inr (.inr (some (5, x1)))), none, some (.inr (.inr (some (41, 0)))), some (.inl x4), some (.inl (x5 + 1)), some (.inl x6), some (.inl v6), some (.inl v9), none], [], am_mk m)) (if_pos hc15) ?_
                    refine am_Go.n htb 5 (S' := (154, [some (.inr (.inr (some (1, 0)))), some (.inr (.inr (some (5, x1)))), none, some (.inr (.inr (some (41, 0)))), some (.inl x4), some (.inl (x5 + 1)), some (.inl x6), some (.inl v6), some (.inl v9), none], [.inl 256, .inl v6, .inl x4, .inr (.inr (some (80, 0)))], am_mk m)) rfl ?_
                    obtain ⟨q18, h20, h⟩ := am_bd h
                    refine am_Go.cut (S := (168, [some (.inr (.inr (some (1, 0)))), some (.inr (.inr (some (5, x1)))), none, some (.inr (.inr (some (41, 0)))), some (.inl x4), some (.inl (x5 + 1)), some (.inl x6), some (.inl v6), some (.inl v9), none], [.inr (.inl q18), .inl x4, .inr (.inr (some (80, 0)))], am_mk m)) ?_ (fun key => ?_)
                    · obtain ⟨hg19, h⟩ := am_ck_some h
                      refine am_Go.c1 htb (S' := (169, [some (.inr (.inr (some (1, 0)))), some (.inr (.inr (some (5, x1)))), none, some (.inr (.inr (some (41, 0)))), some (.inl x4), some (.inl (x5 + 1)), some (.inl x6), some (.inl v6), some (.inl v9), none], [], am_mk (am_sg m 80 0 x4.toNatClampNeg q18))) (if_neg hg19) ?_
                      refine am_Go.n htb 4 (S' := (16, [some (.inr (.inr (some (1, 0)))), some (.inr (.inr (some (5, x1)))), none, some (.inr (.inr (some (41, 0)))), some (.inl (x4 + 1)), some (.inl (x5 + 1)), some (.inl (x6 + 1)), some (.inl v6), some (.inl v9), none], [], am_mk (am_sg m 80 0 x4.toNatClampNeg q18))) rfl ?_
                      refine am_Go.fg (L0 := [some (.inr (.inr (some (1, 0)))), some (.inr (.inr (some (5, x1)))), none, some (.inr (.inr (some (41, 0)))), some (.inl (x4 + 1)), some (.inl (x5 + 1)), some (.inl (x6 + 1)), none, none, none]) (by exact ⟨rfl, ⟨rfl, ⟨rfl, ⟨rfl, ⟨rfl, ⟨rfl, trivial⟩⟩⟩⟩⟩⟩) ?_
                      first | exact ih h | exact ih h hk | exact ih h hr | exact ih h hk hr
                    · have h := h20
                      by_cases hc16 : v6 ≠ (256 : Int32)
                      · rw [if_pos hc16] at h
                        refine am_Go.c1 htb (S' := (163, [some (.inr (.inr (some (1, 0)))), some (.inr (.inr (some (5, x1)))), none, some (.inr (.inr (some (41, 0)))), some (.inl x4), some (.inl (x5 + 1)), some (.inl x6), some (.inl v6), some (.inl v9), none], [.inl x4, .inr (.inr (some (80, 0)))], am_mk m)) (if_pos hc16) ?_
                        refine am_Go.n htb 2 (S' := (166, [some (.inr (.inr (some (1, 0)))), some (.inr (.inr (some (5, x1)))), none, some (.inr (.inr (some (41, 0)))), some (.inl x4), some (.inl (x5 + 1)), some (.inl x6), some (.inl v6), some (.inl v9), none], [.inl v9, .inr (.inr (some (41, 0))), .inl x4, .inr (.inr (some (80, 0)))], am_mk m)) rfl ?_
                        obtain ⟨hg17, h⟩ := am_ck_some h
                        refine am_Go.c1 htb (S' := (167, [some (.inr (.inr (some (1, 0)))), some (.inr (.inr (some (5, x1)))), none, some (.inr (.inr (some (41, 0)))), some (.inl x4), some (.inl (x5 + 1)), some (.inl x6), some (.inl v6), some (.inl v9), none], [.inl (m.1 41 0 v9.toNatClampNeg), .inl x4, .inr (.inr (some (80, 0)))], am_mk m)) (if_neg hg17) ?_
                        refine am_Go.n htb 1 (S' := (168, [some (.inr (.inr (some (1, 0)))), some (.inr (.inr (some (5, x1)))), none, some (.inr (.inr (some (41, 0)))), some (.inl x4), some (.inl (x5 + 1)), some (.inl x6), some (.inl v6), some (.inl v9), none], [.inr (.inl ((m.1 41 0 v9.toNatClampNeg).toInt64)), .inl x4, .inr (.inr (some (80, 0)))], am_mk m)) rfl ?_
                        cases h
                        exact am_Go.fg (by exact ⟨rfl, ⟨rfl, ⟨rfl, ⟨rfl, ⟨rfl, ⟨rfl, ⟨rfl, ⟨rfl, trivial⟩⟩⟩⟩⟩⟩⟩⟩) key
                      · rw [if_neg hc16] at h
                        refine am_Go.c1 htb (S' := (157, [some (.inr (.inr (some (1, 0)))), some (.inr (.inr (some (5, x1)))), none, some (.inr (.inr (some (41, 0)))), some (.inl x4), some (.inl (x5 + 1)), some (.inl x6), some (.inl v6), some (.inl v9), none], [.inl x4, .inr (.inr (some (80, 0)))], am_mk m)) (if_neg hc16) ?_
                        refine am_Go.n htb 3 (S' := (168, [some (.inr (.inr (some (1, 0)))), some (.inr (.inr (some (5, x1)))), none, some (.inr (.inr (some (41, 0)))), some (.inl x4), some (.inl (x5 + 1)), some (.inl x6), some (.inl v6), some (.inl v9), none], [.inr (.inl v9.toInt64), .inl x4, .inr (.inr (some (80, 0)))], am_mk m)) rfl ?_
                        cases h
                        exact am_Go.fg (by exact ⟨rfl, ⟨rfl, ⟨rfl, ⟨rfl, ⟨rfl, ⟨rfl, ⟨rfl, ⟨rfl, trivial⟩⟩⟩⟩⟩⟩⟩⟩) key
                  · rw [if_neg hc15] at h
                    refine am_Go.c1 htb (S' := (133, [some (.inr (.inr (some (1, 0)))), some (.inr (.inr (some (5, x1)))), none, some (.inr (.inr (some (41, 0)))), some (.inl x4), some (.inl (x5 + 1)), some (.inl x6), some (.inl v6), some (.inl v9), none], [], am_mk m)) (if_neg hc15) ?_
                    refine am_Go.n htb 3 (S' := (137, [some (.inr (.inr (some (1, 0)))), some (.inr (.inr (some (5, x1)))), none, some (.inr (.inr (some (41, 0)))), some (.inl x4), some (.inl (x5 + 1)), some (.inl x6), some (.inl v6), some (.inl v9), none], [.inl (Int32.ofNat 19), .inl v9], am_mk m)) rfl ?_
                    by_cases hc21 : v9 < (Int32.ofNat 19)
                    · rw [if_pos hc21] at h
                      refine am_Go.c1 htb (S' := (143, [some (.inr (.inr (some (1, 0)))), some (.inr (.inr (some (5, x1)))), none, some (.inr (.inr (some (41, 0)))), some (.inl x4), some (.inl (x5 + 1)), some (.inl x6), some (.inl v6), some (.inl v9), none], [], am_mk m)) (if_pos hc21) ?_
                      refine am_Go.n htb 5 (S' := (154, [some (.inr (.inr (some (1, 0)))), some (.inr (.inr (some (5, x1)))), none, some (.inr (.inr (some (41, 0)))), some (.inl x4), some (.inl (x5 + 1)), some (.inl x6), some (.inl v6), some (.inl v9), none], [.inl 256, .inl v6, .inl x4, .inr (.inr (some (80, 0)))], am_mk m)) rfl ?_
                      obtain ⟨q24, h26, h⟩ := am_bd h
                      refine am_Go.cut (S := (168, [some (.inr (.inr (some (1, 0)))), some (.inr (.inr (some (5, x1)))), none, some (.inr (.inr (some (41, 0)))), some (.inl x4), some (.inl (x5 + 1)), some (.inl x6), some (.inl v6), some (.inl v9), none], [.inr (.inl q24), .inl x4, .inr (.inr (some (80, 0)))], am_mk m)) ?_ (fun key => ?_)
                      · obtain ⟨hg25, h⟩ := am_ck_some h
                        refine am_Go.c1 htb (S' := (169, [some (.inr (.inr (some (1, 0)))), some (.inr (.inr (some (5, x1)))), none, some (.inr (.inr (some (41, 0)))), some (.inl x4), some (.inl (x5 + 1)), some (.inl x6), some (.inl v6), some (.inl v9), none], [], am_mk (am_sg m 80 0 x4.toNatClampNeg q24))) (if_neg hg25) ?_
                        refine am_Go.n htb 4 (S' := (16, [some (.inr (.inr (some (1, 0)))), some (.inr (.inr (some (5, x1)))), none, some (.inr (.inr (some (41, 0)))), some (.inl (x4 + 1)), some (.inl (x5 + 1)), some (.inl (x6 + 1)), some (.inl v6), some (.inl v9), none], [], am_mk (am_sg m 80 0 x4.toNatClampNeg q24))) rfl ?_
                        refine am_Go.fg (L0 := [some (.inr (.inr (some (1, 0)))), some (.inr (.inr (some (5, x1)))), none, some (.inr (.inr (some (41, 0)))), some (.inl (x4 + 1)), some (.inl (x5 + 1)), some (.inl (x6 + 1)), none, none, none]) (by exact ⟨rfl, ⟨rfl, ⟨rfl, ⟨rfl, ⟨rfl, ⟨rfl, trivial⟩⟩⟩⟩⟩⟩) ?_
                        first | exact ih h | exact ih h hk | exact ih h hr | exact ih h hk hr
                      · have h := h26
                        by_cases hc22 : v6 ≠ (256 : Int32)
                        · rw [if_pos hc22] at h
                          refine am_Go.c1 htb (S' := (163, [some (.inr (.inr (some (1, 0)))), some (.inr (.inr (some (5, x1)))), none, some (.inr (.inr (some (41, 0)))), some (.inl x4), some (.inl (x5 + 1)), some (.inl x6), some (.inl v6), some (.inl v9), none], [.inl x4, .inr (.inr (some (80, 0)))], am_mk m)) (if_pos hc22) ?_
                          refine am_Go.n htb 2 (S' := (166, [some (.inr (.inr (some (1, 0)))), some (.inr (.inr (some (5, x1)))), none, some (.inr (.inr (some (41, 0)))), some (.inl x4), some (.inl (x5 + 1)), some (.inl x6), some (.inl v6), some (.inl v9), none], [.inl v9, .inr (.inr (some (41, 0))), .inl x4, .inr (.inr (some (80, 0)))], am_mk m)) rfl ?_
                          obtain ⟨hg23, h⟩ := am_ck_some h
                          refine am_Go.c1 htb (S' := (167, [some (.inr (.inr (some (1, 0)))), some (.inr (.inr (some (5, x1)))), none, some (.inr (.inr (some (41, 0)))), some (.inl x4), some (.inl (x5 + 1)), some (.inl x6), some (.inl v6), some (.inl v9), none], [.inl (m.1 41 0 v9.toNatClampNeg), .inl x4, .inr (.inr (some (80, 0)))], am_mk m)) (if_neg hg23) ?_
                          refine am_Go.n htb 1 (S' := (168, [some (.inr (.inr (some (1, 0)))), some (.inr (.inr (some (5, x1)))), none, some (.inr (.inr (some (41, 0)))), some (.inl x4), some (.inl (x5 + 1)), some (.inl x6), some (.inl v6), some (.inl v9), none], [.inr (.inl ((m.1 41 0 v9.toNatClampNeg).toInt64)), .inl x4, .inr (.inr (some (80, 0)))], am_mk m)) rfl ?_
                          cases h
                          exact am_Go.fg (by exact ⟨rfl, ⟨rfl, ⟨rfl, ⟨rfl, ⟨rfl, ⟨rfl, ⟨rfl, ⟨rfl, trivial⟩⟩⟩⟩⟩⟩⟩⟩) key
                        · rw [if_neg hc22] at h
                          refine am_Go.c1 htb (S' := (157, [some (.inr (.inr (some (1, 0)))), some (.inr (.inr (some (5, x1)))), none, some (.inr (.inr (some (41, 0)))), some (.inl x4), some (.inl (x5 + 1)), some (.inl x6), some (.inl v6), some (.inl v9), none], [.inl x4, .inr (.inr (some (80, 0)))], am_mk m)) (if_neg hc22) ?_
                          refine am_Go.n htb 3 (S' := (168, [some (.inr (.inr (some (1, 0)))), some (.inr (.inr (some (5, x1)))), none, some (.inr (.inr (some (41, 0)))), some (.inl x4), some (.inl (x5 + 1)), some (.inl x6), some (.inl v6), some (.inl v9), none], [.inr (.inl v9.toInt64), .inl x4, .inr (.inr (some (80, 0)))], am_mk m)) rfl ?_
                          cases h
                          exact am_Go.fg (by exact ⟨rfl, ⟨rfl, ⟨rfl, ⟨rfl, ⟨rfl, ⟨rfl, ⟨rfl, ⟨rfl, trivial⟩⟩⟩⟩⟩⟩⟩⟩) key
                    · rw [if_neg hc21] at h
                      refine am_Go.c1 htb (S' := (140, [some (.inr (.inr (some (1, 0)))), some (.inr (.inr (some (5, x1)))), none, some (.inr (.inr (some (41, 0)))), some (.inl x4), some (.inl (x5 + 1)), some (.inl x6), some (.inl v6), some (.inl v9), none], [], am_mk m)) (if_neg hc21) ?_
                      refine am_Go.n htb 1 (S' := (142, [some (.inr (.inr (some (1, 0)))), some (.inr (.inr (some (5, x1)))), none, some (.inr (.inr (some (41, 0)))), some (.inl x4), some (.inl (x5 + 1)), some (.inl x6), some (.inl v6), some (.inl v9), none], [.inl 2000000000], am_mk m)) rfl ?_
                      cases h
                      obtain ⟨rfl, rfl, rfl, rfl⟩ := hr _ rfl
                      exact am_Go.rt htb rfl
            · rw [if_neg hc12] at h
              refine am_Go.c1 htb (S' := (102, [some (.inr (.inr (some (1, 0)))), some (.inr (.inr (some (5, x1)))), none, some (.inr (.inr (some (41, 0)))), some (.inl x4), some (.inl (x5 + 1)), some (.inl x6), some (.inl v6), some (.inl v9), none], [], am_mk m)) (if_neg hc12) ?_
              refine am_Go.n htb 2 (S' := (107, [some (.inr (.inr (some (1, 0)))), some (.inr (.inr (some (5, x1)))), none, some (.inr (.inr (some (41, 0)))), some (.inl x4), some (.inl (x5 + 1)), some (.inl x6), some (.inl v6), some (.inl v9), none], [.inl 258, .inl v6], am_mk m)) rfl ?_
              by_cases hc27 : v6 ≠ (258 : Int32)
              · rw [if_pos hc27] at h
                refine am_Go.c1 htb (S' := (175, [some (.inr (.inr (some (1, 0)))), some (.inr (.inr (some (5, x1)))), none, some (.inr (.inr (some (41, 0)))), some (.inl x4), some (.inl (x5 + 1)), some (.inl x6), some (.inl v6), some (.inl v9), none], [], am_mk m)) (if_pos hc27) ?_
                refine am_Go.n htb 2 (S' := (178, [some (.inr (.inr (some (1, 0)))), some (.inr (.inr (some (5, x1)))), none, some (.inr (.inr (some (41, 0)))), some (.inl x4), some (.inl (x5 + 1)), some (.inl x6), some (.inl v6), some (.inl v9), none], [.inl 1, .inl x4], am_mk m)) rfl ?_
                by_cases hc28 : (1 : Int32) ≤ x4
                · rw [if_pos hc28] at h
                  refine am_Go.c1 htb (S' := (184, [some (.inr (.inr (some (1, 0)))), some (.inr (.inr (some (5, x1)))), none, some (.inr (.inr (some (41, 0)))), some (.inl x4), some (.inl (x5 + 1)), some (.inl x6), some (.inl v6), some (.inl v9), none], [], am_mk m)) (if_pos hc28) ?_
                  refine am_Go.n htb 2 (S' := (189, [some (.inr (.inr (some (1, 0)))), some (.inr (.inr (some (5, x1)))), none, some (.inr (.inr (some (41, 0)))), some (.inl x4), some (.inl (x5 + 1)), some (.inl x6), some (.inl v6), some (.inl v9), none], [.inl 261, .inl v6], am_mk m)) rfl ?_
                  by_cases hc29 : v6 ≠ (261 : Int32)
                  · rw [if_pos hc29] at h
                    refine am_Go.c1 htb (S' := (215, [some (.inr (.inr (some (1, 0)))), some (.inr (.inr (some (5, x1)))), none, some (.inr (.inr (some (41, 0)))), some (.inl x4), some (.inl (x5 + 1)), some (.inl x6), some (.inl v6), some (.inl v9), none], [], am_mk m)) (if_pos hc29) ?_
                    refine am_Go.n htb 2 (S' := (220, [some (.inr (.inr (some (1, 0)))), some (.inr (.inr (some (5, x1)))), none, some (.inr (.inr (some (41, 0)))), some (.inl x4), some (.inl (x5 + 1)), some (.inl x6), some (.inl v6), some (.inl v9), none], [.inl 259, .inl v6], am_mk m)) rfl ?_
                    by_cases hc30 : v6 = (259 : Int32)
                    · rw [if_pos hc30] at h
                      refine am_Go.c1 htb (S' := (231, [some (.inr (.inr (some (1, 0)))), some (.inr (.inr (some (5, x1)))), none, some (.inr (.inr (some (41, 0)))), some (.inl x4), some (.inl (x5 + 1)), some (.inl x6), some (.inl v6), some (.inl v9), none], [], am_mk m)) (if_pos hc30) ?_
                      refine am_Go.n htb 5 (S' := (239, [some (.inr (.inr (some (1, 0)))), some (.inr (.inr (some (5, x1)))), none, some (.inr (.inr (some (41, 0)))), some (.inl x4), some (.inl (x5 + 1)), some (.inl x6), some (.inl v6), some (.inl v9), none], [.inl (x4 - (1 : Int32)), .inr (.inr (some (80, 0)))], am_mk m)) rfl ?_
                      obtain ⟨hg31, h⟩ := am_ck_some h
                      refine am_Go.c1 htb (S' := (240, [some (.inr (.inr (some (1, 0)))), some (.inr (.inr (some (5, x1)))), none, some (.inr (.inr (some (41, 0)))), some (.inl x4), some (.inl (x5 + 1)), some (.inl x6), some (.inl v6), some (.inl v9), none], [.inr (.inl (m.2.1 80 0 (x4 - (1 : Int32)).toNatClampNeg))], am_mk m)) (if_neg hg31) ?_
                      refine am_Go.n htb 2 (S' := (245, [some (.inr (.inr (some (1, 0)))), some (.inr (.inr (some (5, x1)))), none, some (.inr (.inr (some (41, 0)))), some (.inl x4), some (.inl (x5 + 1)), some (.inl x6), some (.inl v6), some (.inl v9), none], [.inl 259, .inl v6, .inr (.inl (m.2.1 80 0 (x4 - (1 : Int32)).toNatClampNeg))], am_mk m)) rfl ?_
                      obtain ⟨q33, h43, h⟩ := am_bd h
                      refine am_Go.cut (S := (253, [some (.inr (.inr (some (1, 0)))), some (.inr (.inr (some (5, x1)))), none, some (.inr (.inr (some (41, 0)))), some (.inl x4), some (.inl (x5 + 1)), some (.inl x6), some (.inl v6), some (.inl v9), none], [.inr (.inl q33), .inr (.inl (m.2.1 80 0 (x4 - (1 : Int32)).toNatClampNeg))], am_mk m)) ?_ (fun key => ?_)
                      · refine am_Go.n htb 1 (S' := (254, [some (.inr (.inr (some (1, 0)))), some (.inr (.inr (some (5, x1)))), none, some (.inr (.inr (some (41, 0)))), some (.inl x4), some (.inl (x5 + 1)), some (.inl x6), some (.inl v6), some (.inl v9), none], [.inl (lg_cmp (m.2.1 80 0 (x4 - (1 : Int32)).toNatClampNeg) q33)], am_mk m)) rfl ?_
                        obtain ⟨q35, h42, h⟩ := am_bd h
                        refine am_Go.cut (S := (262, [some (.inr (.inr (some (1, 0)))), some (.inr (.inr (some (5, x1)))), none, some (.inr (.inr (some (41, 0)))), some (.inl x4), some (.inl (x5 + 1)), some (.inl x6), some (.inl v6), some (.inl v9), none], [.inl q35], am_mk m)) ?_ (fun key => ?_)
                        · refine am_Go.n htb 2 (S' := (266, [some (.inr (.inr (some (1, 0)))), some (.inr (.inr (some (5, x1)))), none, some (.inr (.inr (some (41, 0)))), some (.inl x4), some (.inl (x5 + 1)), some (.inl x6), some (.inl v6), some (.inl v9), some (.inl q35)], [.inl q35], am_mk m)) rfl ?_
                          obtain ⟨q37, h41, h⟩ := am_bd h
                          refine am_Go.cut (S := (276, [some (.inr (.inr (some (1, 0)))), some (.inr (.inr (some (5, x1)))), none, some (.inr (.inr (some (41, 0)))), some (.inl x4), some (.inl (x5 + 1)), some (.inl x6), some (.inl v6), some (.inl v9), some (.inl q35)], [.inl q37], am_mk m)) ?_ (fun key => ?_)
                          · refine am_Go.n htb 2 (S' := (280, [some (.inr (.inr (some (1, 0)))), some (.inr (.inr (some (5, x1)))), none, some (.inr (.inr (some (41, 0)))), some (.inl x4), some (.inl q37), some (.inl x6), some (.inl v6), some (.inl v9), some (.inl q35)], [.inl q35], am_mk m)) rfl ?_
                            obtain ⟨q39, h40, h⟩ := am_bd h
                            refine am_Go.cut (S := (292, [some (.inr (.inr (some (1, 0)))), some (.inr (.inr (some (5, x1)))), none, some (.inr (.inr (some (41, 0)))), some (.inl x4), some (.inl q37), some (.inl x6), some (.inl v6), some (.inl v9), some (.inl q35)], [.inl q39], am_mk m)) ?_ (fun key => ?_)
                            · refine am_Go.n htb 4 (S' := (16, [some (.inr (.inr (some (1, 0)))), some (.inr (.inr (some (5, x1)))), none, some (.inr (.inr (some (41, 0)))), some (.inl q39), some (.inl q37), some (.inl (x6 + 1)), some (.inl v6), some (.inl v9), some (.inl q35)], [], am_mk m)) rfl ?_
                              refine am_Go.fg (L0 := [some (.inr (.inr (some (1, 0)))), some (.inr (.inr (some (5, x1)))), none, some (.inr (.inr (some (41, 0)))), some (.inl q39), some (.inl q37), some (.inl (x6 + 1)), none, none, none]) (by exact ⟨rfl, ⟨rfl, ⟨rfl, ⟨rfl, ⟨rfl, ⟨rfl, trivial⟩⟩⟩⟩⟩⟩) ?_
                              first | exact ih h | exact ih h hk | exact ih h hr | exact ih h hk hr
                            · have h := h40
                              by_cases hc38 : q35 = 0
                              · rw [if_pos hc38] at h
                                refine am_Go.c1 htb (S' := (288, [some (.inr (.inr (some (1, 0)))), some (.inr (.inr (some (5, x1)))), none, some (.inr (.inr (some (41, 0)))), some (.inl x4), some (.inl q37), some (.inl x6), some (.inl v6), some (.inl v9), some (.inl q35)], [], am_mk m)) (if_pos hc38) ?_
                                refine am_Go.n htb 3 (S' := (292, [some (.inr (.inr (some (1, 0)))), some (.inr (.inr (some (5, x1)))), none, some (.inr (.inr (some (41, 0)))), some (.inl x4), some (.inl q37), some (.inl x6), some (.inl v6), some (.inl v9), some (.inl q35)], [.inl (x4 - (1 : Int32))], am_mk m)) rfl ?_
                                cases h
                                exact am_Go.fg (by exact ⟨rfl, ⟨rfl, ⟨rfl, ⟨rfl, ⟨rfl, ⟨rfl, ⟨rfl, ⟨rfl, ⟨rfl, trivial⟩⟩⟩⟩⟩⟩⟩⟩⟩) key
                              · rw [if_neg hc38] at h
                                refine am_Go.c1 htb (S' := (283, [some (.inr (.inr (some (1, 0)))), some (.inr (.inr (some (5, x1)))), none, some (.inr (.inr (some (41, 0)))), some (.inl x4), some (.inl q37), some (.inl x6), some (.inl v6), some (.inl v9), some (.inl q35)], [], am_mk m)) (if_neg hc38) ?_
                                refine am_Go.n htb 2 (S' := (292, [some (.inr (.inr (some (1, 0)))), some (.inr (.inr (some (5, x1)))), none, some (.inr (.inr (some (41, 0)))), some (.inl x4), some (.inl q37), some (.inl x6), some (.inl v6), some (.inl v9), some (.inl q35)], [.inl x4], am_mk m)) rfl ?_
                                cases h
                                exact am_Go.fg (by exact ⟨rfl, ⟨rfl, ⟨rfl, ⟨rfl, ⟨rfl, ⟨rfl, ⟨rfl, ⟨rfl, ⟨rfl, trivial⟩⟩⟩⟩⟩⟩⟩⟩⟩) key
                          · have h := h41
                            by_cases hc36 : q35 = 0
                            · rw [if_pos hc36] at h
                              refine am_Go.c1 htb (S' := (274, [some (.inr (.inr (some (1, 0)))), some (.inr (.inr (some (5, x1)))), none, some (.inr (.inr (some (41, 0)))), some (.inl x4), some (.inl (x5 + 1)), some (.inl x6), some (.inl v6), some (.inl v9), some (.inl q35)], [], am_mk m)) (if_pos hc36) ?_
                              refine am_Go.n htb 1 (S' := (276, [some (.inr (.inr (some (1, 0)))), some (.inr (.inr (some (5, x1)))), none, some (.inr (.inr (some (41, 0)))), some (.inl x4), some (.inl (x5 + 1)), some (.inl x6), some (.inl v6), some (.inl v9), some (.inl q35)], [.inl (x5 + 1)], am_mk m)) rfl ?_
                              cases h
                              exact am_Go.fg (by exact ⟨rfl, ⟨rfl, ⟨rfl, ⟨rfl, ⟨rfl, ⟨rfl, ⟨rfl, ⟨rfl, ⟨rfl, trivial⟩⟩⟩⟩⟩⟩⟩⟩⟩) key
                            · rw [if_neg hc36] at h
                              refine am_Go.c1 htb (S' := (269, [some (.inr (.inr (some (1, 0)))), some (.inr (.inr (some (5, x1)))), none, some (.inr (.inr (some (41, 0)))), some (.inl x4), some (.inl (x5 + 1)), some (.inl x6), some (.inl v6), some (.inl v9), some (.inl q35)], [], am_mk m)) (if_neg hc36) ?_
                              refine am_Go.n htb 2 (S' := (276, [some (.inr (.inr (some (1, 0)))), some (.inr (.inr (some (5, x1)))), none, some (.inr (.inr (some (41, 0)))), some (.inl x4), some (.inl (x5 + 1)), some (.inl x6), some (.inl v6), some (.inl v9), some (.inl q35)], [.inl v9], am_mk m)) rfl ?_
                              cases h
                              exact am_Go.fg (by exact ⟨rfl, ⟨rfl, ⟨rfl, ⟨rfl, ⟨rfl, ⟨rfl, ⟨rfl, ⟨rfl, ⟨rfl, trivial⟩⟩⟩⟩⟩⟩⟩⟩⟩) key
                        · have h := h42
                          by_cases hc34 : (lg_cmp (m.2.1 80 0 (x4 - (1 : Int32)).toNatClampNeg) q33) ≠ 0
                          · rw [if_pos hc34] at h
                            refine am_Go.c1 htb (S' := (261, [some (.inr (.inr (some (1, 0)))), some (.inr (.inr (some (5, x1)))), none, some (.inr (.inr (some (41, 0)))), some (.inl x4), some (.inl (x5 + 1)), some (.inl x6), some (.inl v6), some (.inl v9), none], [], am_mk m)) (if_pos hc34) ?_
                            refine am_Go.n htb 1 (S' := (262, [some (.inr (.inr (some (1, 0)))), some (.inr (.inr (some (5, x1)))), none, some (.inr (.inr (some (41, 0)))), some (.inl x4), some (.inl (x5 + 1)), some (.inl x6), some (.inl v6), some (.inl v9), none], [.inl 0], am_mk m)) rfl ?_
                            cases h
                            exact am_Go.fg (by exact ⟨rfl, ⟨rfl, ⟨rfl, ⟨rfl, ⟨rfl, ⟨rfl, ⟨rfl, ⟨rfl, trivial⟩⟩⟩⟩⟩⟩⟩⟩) key
                          · rw [if_neg hc34] at h
                            refine am_Go.c1 htb (S' := (257, [some (.inr (.inr (some (1, 0)))), some (.inr (.inr (some (5, x1)))), none, some (.inr (.inr (some (41, 0)))), some (.inl x4), some (.inl (x5 + 1)), some (.inl x6), some (.inl v6), some (.inl v9), none], [], am_mk m)) (if_neg hc34) ?_
                            refine am_Go.n htb 2 (S' := (262, [some (.inr (.inr (some (1, 0)))), some (.inr (.inr (some (5, x1)))), none, some (.inr (.inr (some (41, 0)))), some (.inl x4), some (.inl (x5 + 1)), some (.inl x6), some (.inl v6), some (.inl v9), none], [.inl 1], am_mk m)) rfl ?_
                            cases h
                            exact am_Go.fg (by exact ⟨rfl, ⟨rfl, ⟨rfl, ⟨rfl, ⟨rfl, ⟨rfl, ⟨rfl, ⟨rfl, trivial⟩⟩⟩⟩⟩⟩⟩⟩) key
                      · have h := h43
                        by_cases hc32 : v6 ≠ (259 : Int32)
                        · rw [if_pos hc32] at h
                          refine am_Go.c1 htb (S' := (252, [some (.inr (.inr (some (1, 0)))), some (.inr (.inr (some (5, x1)))), none, some (.inr (.inr (some (41, 0)))), some (.inl x4), some (.inl (x5 + 1)), some (.inl x6), some (.inl v6), some (.inl v9), none], [.inr (.inl (m.2.1 80 0 (x4 - (1 : Int32)).toNatClampNeg))], am_mk m)) (if_pos hc32) ?_
                          refine am_Go.n htb 1 (S' := (253, [some (.inr (.inr (some (1, 0)))), some (.inr (.inr (some (5, x1)))), none, some (.inr (.inr (some (41, 0)))), some (.inl x4), some (.inl (x5 + 1)), some (.inl x6), some (.inl v6), some (.inl v9), none], [.inr (.inl 0), .inr (.inl (m.2.1 80 0 (x4 - (1 : Int32)).toNatClampNeg))], am_mk m)) rfl ?_
                          cases h
                          exact am_Go.fg (by exact ⟨rfl, ⟨rfl, ⟨rfl, ⟨rfl, ⟨rfl, ⟨rfl, ⟨rfl, ⟨rfl, trivial⟩⟩⟩⟩⟩⟩⟩⟩) key
                        · rw [if_neg hc32] at h
                          refine am_Go.c1 htb (S' := (248, [some (.inr (.inr (some (1, 0)))), some (.inr (.inr (some (5, x1)))), none, some (.inr (.inr (some (41, 0)))), some (.inl x4), some (.inl (x5 + 1)), some (.inl x6), some (.inl v6), some (.inl v9), none], [.inr (.inl (m.2.1 80 0 (x4 - (1 : Int32)).toNatClampNeg))], am_mk m)) (if_neg hc32) ?_
                          refine am_Go.n htb 2 (S' := (253, [some (.inr (.inr (some (1, 0)))), some (.inr (.inr (some (5, x1)))), none, some (.inr (.inr (some (41, 0)))), some (.inl x4), some (.inl (x5 + 1)), some (.inl x6), some (.inl v6), some (.inl v9), none], [.inr (.inl 1), .inr (.inl (m.2.1 80 0 (x4 - (1 : Int32)).toNatClampNeg))], am_mk m)) rfl ?_
                          cases h
                          exact am_Go.fg (by exact ⟨rfl, ⟨rfl, ⟨rfl, ⟨rfl, ⟨rfl, ⟨rfl, ⟨rfl, ⟨rfl, trivial⟩⟩⟩⟩⟩⟩⟩⟩) key
                    · rw [if_neg hc30] at h
                      refine am_Go.c1 htb (S' := (223, [some (.inr (.inr (some (1, 0)))), some (.inr (.inr (some (5, x1)))), none, some (.inr (.inr (some (41, 0)))), some (.inl x4), some (.inl (x5 + 1)), some (.inl x6), some (.inl v6), some (.inl v9), none], [], am_mk m)) (if_neg hc30) ?_
                      refine am_Go.n htb 2 (S' := (228, [some (.inr (.inr (some (1, 0)))), some (.inr (.inr (some (5, x1)))), none, some (.inr (.inr (some (41, 0)))), some (.inl x4), some (.inl (x5 + 1)), some (.inl x6), some (.inl v6), some (.inl v9), none], [.inl 260, .inl v6], am_mk m)) rfl ?_
                      by_cases hc44 : v6 ≠ (260 : Int32)
                      · rw [if_pos hc44] at h
                        refine am_Go.c1 htb (S' := (297, [some (.inr (.inr (some (1, 0)))), some (.inr (.inr (some (5, x1)))), none, some (.inr (.inr (some (41, 0)))), some (.inl x4), some (.inl (x5 + 1)), some (.inl x6), some (.inl v6), some (.inl v9), none], [], am_mk m)) (if_pos hc44) ?_
                        refine am_Go.n htb 2 (S' := (300, [some (.inr (.inr (some (1, 0)))), some (.inr (.inr (some (5, x1)))), none, some (.inr (.inr (some (41, 0)))), some (.inl x4), some (.inl (x5 + 1)), some (.inl x6), some (.inl v6), some (.inl v9), none], [.inl 2, .inl x4], am_mk m)) rfl ?_
                        by_cases hc45 : (2 : Int32) ≤ x4
                        · rw [if_pos hc45] at h
                          refine am_Go.c1 htb (S' := (306, [some (.inr (.inr (some (1, 0)))), some (.inr (.inr (some (5, x1)))), none, some (.inr (.inr (some (41, 0)))), some (.inl x4), some (.inl (x5 + 1)), some (.inl x6), some (.inl v6), some (.inl v9), none], [], am_mk m)) (if_pos hc45) ?_
                          refine am_Go.o htb (am_o_inc 4 (-1)) rfl (S' := (309, [some (.inr (.inr (some (1, 0)))), some (.inr (.inr (some (5, x1)))), none, some (.inr (.inr (some (41, 0)))), some (.inl (x4 - 1)), some (.inl (x5 + 1)), some (.inl x6), some (.inl v6), some (.inl v9), none], [], am_mk m)) (am_incn rfl rfl) ?_
                          refine am_Go.n htb 11 (S' := (327, [some (.inr (.inr (some (1, 0)))), some (.inr (.inr (some (5, x1)))), none, some (.inr (.inr (some (41, 0)))), some (.inl (x4 - 1)), some (.inl (x5 + 1)), some (.inl x6), some (.inl v6), some (.inl v9), none], [.inl ((x4 - 1) - (1 : Int32)), .inr (.inr (some (80, 0))), .inl v6, .inl ((x4 - 1) - (1 : Int32)), .inr (.inr (some (80, 0)))], am_mk m)) rfl ?_
                          obtain ⟨hg46, h⟩ := am_ck_some h
                          refine am_Go.c1 htb (S' := (328, [some (.inr (.inr (some (1, 0)))), some (.inr (.inr (some (5, x1)))), none, some (.inr (.inr (some (41, 0)))), some (.inl (x4 - 1)), some (.inl (x5 + 1)), some (.inl x6), some (.inl v6), some (.inl v9), none], [.inr (.inl (m.2.1 80 0 ((x4 - 1) - (1 : Int32)).toNatClampNeg)), .inl v6, .inl ((x4 - 1) - (1 : Int32)), .inr (.inr (some (80, 0)))], am_mk m)) (if_neg hg46) ?_
                          refine am_Go.n htb 3 (S' := (334, [some (.inr (.inr (some (1, 0)))), some (.inr (.inr (some (5, x1)))), none, some (.inr (.inr (some (41, 0)))), some (.inl (x4 - 1)), some (.inl (x5 + 1)), some (.inl x6), some (.inl v6), some (.inl v9), none], [.inl (x4 - 1), .inr (.inr (some (80, 0))), .inr (.inl (m.2.1 80 0 ((x4 - 1) - (1 : Int32)).toNatClampNeg)), .inl v6, .inl ((x4 - 1) - (1 : Int32)), .inr (.inr (some (80, 0)))], am_mk m)) rfl ?_
                          obtain ⟨hg47, h⟩ := am_ck_some h
                          refine am_Go.c1 htb (S' := (335, [some (.inr (.inr (some (1, 0)))), some (.inr (.inr (some (5, x1)))), none, some (.inr (.inr (some (41, 0)))), some (.inl (x4 - 1)), some (.inl (x5 + 1)), some (.inl x6), some (.inl v6), some (.inl v9), none], [.inr (.inl (m.2.1 80 0 (x4 - 1).toNatClampNeg)), .inr (.inl (m.2.1 80 0 ((x4 - 1) - (1 : Int32)).toNatClampNeg)), .inl v6, .inl ((x4 - 1) - (1 : Int32)), .inr (.inr (some (80, 0)))], am_mk m)) (if_neg hg47) ?_
                          obtain ⟨r48, h49, h⟩ := am_bd h
                          refine am_Go.cl htb rfl (ex_X1_joined d (by omega) v6 (m.2.1 80 0 ((x4 - 1) - (1 : Int32)).toNatClampNeg) (m.2.1 80 0 (x4 - 1).toNatClampNeg) m r48 h49) ?_
                          show am_Go d 18 (338, [some (.inr (.inr (some (1, 0)))), some (.inr (.inr (some (5, x1)))), none, some (.inr (.inr (some (41, 0)))), some (.inl (x4 - 1)), some (.inl (x5 + 1)), some (.inl x6), some (.inl v6), some (.inl v9), none], [.inr (.inl r48), .inl ((x4 - 1) - (1 : Int32)), .inr (.inr (some (80, 0)))], am_mk m) _ _ _ _
                          obtain ⟨hg50, h⟩ := am_ck_some h
                          refine am_Go.c1 htb (S' := (339, [some (.inr (.inr (some (1, 0)))), some (.inr (.inr (some (5, x1)))), none, some (.inr (.inr (some (41, 0)))), some (.inl (x4 - 1)), some (.inl (x5 + 1)), some (.inl x6), some (.inl v6), some (.inl v9), none], [], am_mk (am_sg m 80 0 ((x4 - 1) - (1 : Int32)).toNatClampNeg r48))) (if_neg hg50) ?_
                          refine am_Go.n htb 5 (S' := (347, [some (.inr (.inr (some (1, 0)))), some (.inr (.inr (some (5, x1)))), none, some (.inr (.inr (some (41, 0)))), some (.inl (x4 - 1)), some (.inl (x5 + 1)), some (.inl x6), some (.inl v6), some (.inl v9), none], [.inl ((x4 - 1) - (1 : Int32)), .inr (.inr (some (80, 0)))], am_mk (am_sg m 80 0 ((x4 - 1) - (1 : Int32)).toNatClampNeg r48))) rfl ?_
                          obtain ⟨hg51, h⟩ := am_ck_some h
                          refine am_Go.c1 htb (S' := (348, [some (.inr (.inr (some (1, 0)))), some (.inr (.inr (some (5, x1)))), none, some (.inr (.inr (some (41, 0)))), some (.inl (x4 - 1)), some (.inl (x5 + 1)), some (.inl x6), some (.inl v6), some (.inl v9), none], [.inr (.inl ((am_sg m 80 0 ((x4 - 1) - (1 : Int32)).toNatClampNeg r48).2.1 80 0 ((x4 - 1) - (1 : Int32)).toNatClampNeg))], am_mk (am_sg m 80 0 ((x4 - 1) - (1 : Int32)).toNatClampNeg r48))) (if_neg hg51) ?_
                          refine am_Go.n htb 2 (S' := (352, [some (.inr (.inr (some (1, 0)))), some (.inr (.inr (some (5, x1)))), none, some (.inr (.inr (some (41, 0)))), some (.inl (x4 - 1)), some (.inl (x5 + 1)), some (.inl x6), some (.inl v6), some (.inl v9), none], [.inl (lg_cmp ((am_sg m 80 0 ((x4 - 1) - (1 : Int32)).toNatClampNeg r48).2.1 80 0 ((x4 - 1) - (1 : Int32)).toNatClampNeg) (2000000000 : Int64))], am_mk (am_sg m 80 0 ((x4 - 1) - (1 : Int32)).toNatClampNeg r48))) rfl ?_
                          by_cases hc52 : (lg_cmp ((am_sg m 80 0 ((x4 - 1) - (1 : Int32)).toNatClampNeg r48).2.1 80 0 ((x4 - 1) - (1 : Int32)).toNatClampNeg) (2000000000 : Int64)) ≠ 0
                          · rw [if_pos hc52] at h
                            refine am_Go.c1 htb (S' := (358, [some (.inr (.inr (some (1, 0)))), some (.inr (.inr (some (5, x1)))), none, some (.inr (.inr (some (41, 0)))), some (.inl (x4 - 1)), some (.inl (x5 + 1)), some (.inl x6), some (.inl v6), some (.inl v9), none], [], am_mk (am_sg m 80 0 ((x4 - 1) - (1 : Int32)).toNatClampNeg r48))) (if_pos hc52) ?_
                            refine am_Go.n htb 2 (S' := (16, [some (.inr (.inr (some (1, 0)))), some (.inr (.inr (some (5, x1)))), none, some (.inr (.inr (some (41, 0)))), some (.inl (x4 - 1)), some (.inl (x5 + 1)), some (.inl (x6 + 1)), some (.inl v6), some (.inl v9), none], [], am_mk (am_sg m 80 0 ((x4 - 1) - (1 : Int32)).toNatClampNeg r48))) rfl ?_
                            refine am_Go.fg (L0 := [some (.inr (.inr (some (1, 0)))), some (.inr (.inr (some (5, x1)))), none, some (.inr (.inr (some (41, 0)))), some (.inl (x4 - 1)), some (.inl (x5 + 1)), some (.inl (x6 + 1)), none, none, none]) (by exact ⟨rfl, ⟨rfl, ⟨rfl, ⟨rfl, ⟨rfl, ⟨rfl, trivial⟩⟩⟩⟩⟩⟩) ?_
                            first | exact ih h | exact ih h hk | exact ih h hr | exact ih h hk hr
                          · rw [if_neg hc52] at h
                            refine am_Go.c1 htb (S' := (355, [some (.inr (.inr (some (1, 0)))), some (.inr (.inr (some (5, x1)))), none, some (.inr (.inr (some (41, 0)))), some (.inl (x4 - 1)), some (.inl (x5 + 1)), some (.inl x6), some (.inl v6), some (.inl v9), none], [], am_mk (am_sg m 80 0 ((x4 - 1) - (1 : Int32)).toNatClampNeg r48))) (if_neg hc52) ?_
                            refine am_Go.n htb 1 (S' := (357, [some (.inr (.inr (some (1, 0)))), some (.inr (.inr (some (5, x1)))), none, some (.inr (.inr (some (41, 0)))), some (.inl (x4 - 1)), some (.inl (x5 + 1)), some (.inl x6), some (.inl v6), some (.inl v9), none], [.inl 2000000000], am_mk (am_sg m 80 0 ((x4 - 1) - (1 : Int32)).toNatClampNeg r48))) rfl ?_
                            cases h
                            obtain ⟨rfl, rfl, rfl, rfl⟩ := hr _ rfl
                            exact am_Go.rt htb rfl
                        · rw [if_neg hc45] at h
                          refine am_Go.c1 htb (S' := (303, [some (.inr (.inr (some (1, 0)))), some (.inr (.inr (some (5, x1)))), none, some (.inr (.inr (some (41, 0)))), some (.inl x4), some (.inl (x5 + 1)), some (.inl x6), some (.inl v6), some (.inl v9), none], [], am_mk m)) (if_neg hc45) ?_
                          refine am_Go.n htb 1 (S' := (305, [some (.inr (.inr (some (1, 0)))), some (.inr (.inr (some (5, x1)))), none, some (.inr (.inr (some (41, 0)))), some (.inl x4), some (.inl (x5 + 1)), some (.inl x6), some (.inl v6), some (.inl v9), none], [.inl 2000000000], am_mk m)) rfl ?_
                          cases h
                          obtain ⟨rfl, rfl, rfl, rfl⟩ := hr _ rfl
                          exact am_Go.rt htb rfl
                      · rw [if_neg hc44] at h
                        refine am_Go.c1 htb (S' := (231, [some (.inr (.inr (some (1, 0)))), some (.inr (.inr (some (5, x1)))), none, some (.inr (.inr (some (41, 0)))), some (.inl x4), some (.inl (x5 + 1)), some (.inl x6), some (.inl v6), some (.inl v9), none], [], am_mk m)) (if_neg hc44) ?_
                        refine am_Go.n htb 5 (S' := (239, [some (.inr (.inr (some (1, 0)))), some (.inr (.inr (some (5, x1)))), none, some (.inr (.inr (some (41, 0)))), some (.inl x4), some (.inl (x5 + 1)), some (.inl x6), some (.inl v6), some (.inl v9), none], [.inl (x4 - (1 : Int32)), .inr (.inr (some (80, 0)))], am_mk m)) rfl ?_
                        obtain ⟨hg53, h⟩ := am_ck_some h
                        refine am_Go.c1 htb (S' := (240, [some (.inr (.inr (some (1, 0)))), some (.inr (.inr (some (5, x1)))), none, some (.inr (.inr (some (41, 0)))), some (.inl x4), some (.inl (x5 + 1)), some (.inl x6), some (.inl v6), some (.inl v9), none], [.inr (.inl (m.2.1 80 0 (x4 - (1 : Int32)).toNatClampNeg))], am_mk m)) (if_neg hg53) ?_
                        refine am_Go.n htb 2 (S' := (245, [some (.inr (.inr (some (1, 0)))), some (.inr (.inr (some (5, x1)))), none, some (.inr (.inr (some (41, 0)))), some (.inl x4), some (.inl (x5 + 1)), some (.inl x6), some (.inl v6), some (.inl v9), none], [.inl 259, .inl v6, .inr (.inl (m.2.1 80 0 (x4 - (1 : Int32)).toNatClampNeg))], am_mk m)) rfl ?_
                        obtain ⟨q55, h65, h⟩ := am_bd h
                        refine am_Go.cut (S := (253, [some (.inr (.inr (some (1, 0)))), some (.inr (.inr (some (5, x1)))), none, some (.inr (.inr (some (41, 0)))), some (.inl x4), some (.inl (x5 + 1)), some (.inl x6), some (.inl v6), some (.inl v9), none], [.inr (.inl q55), .inr (.inl (m.2.1 80 0 (x4 - (1 : Int32)).toNatClampNeg))], am_mk m)) ?_ (fun key => ?_)
                        · refine am_Go.n htb 1 (S' := (254, [some (.inr (.inr (some (1, 0)))), some (.inr (.inr (some (5, x1)))), none, some (.inr (.inr (some (41, 0)))), some (.inl x4), some (.inl (x5 + 1)), some (.inl x6), some (.inl v6), some (.inl v9), none], [.inl (lg_cmp (m.2.1 80 0 (x4 - (1 : Int32)).toNatClampNeg) q55)], am_mk m)) rfl ?_
                          obtain ⟨q57, h64, h⟩ := am_bd h
                          refine am_Go.cut (S := (262, [some (.inr (.inr (some (1, 0)))), some (.inr (.inr (some (5, x1)))), none, some (.inr (.inr (some (41, 0)))), some (.inl x4), some (.inl (x5 + 1)), some (.inl x6), some (.inl v6), some (.inl v9), none], [.inl q57], am_mk m)) ?_ (fun key => ?_)
                          · refine am_Go.n htb 2 (S' := (266, [some (.inr (.inr (some (1, 0)))), some (.inr (.inr (some (5, x1)))), none, some (.inr (.inr (some (41, 0)))), some (.inl x4), some (.inl (x5 + 1)), some (.inl x6), some (.inl v6), some (.inl v9), some (.inl q57)], [.inl q57], am_mk m)) rfl ?_
                            obtain ⟨q59, h63, h⟩ := am_bd h
                            refine am_Go.cut (S := (276, [some (.inr (.inr (some (1, 0)))), some (.inr (.inr (some (5, x1)))), none, some (.inr (.inr (some (41, 0)))), some (.inl x4), some (.inl (x5 + 1)), some (.inl x6), some (.inl v6), some (.inl v9), some (.inl q57)], [.inl q59], am_mk m)) ?_ (fun key => ?_)
                            · refine am_Go.n htb 2 (S' := (280, [some (.inr (.inr (some (1, 0)))), some (.inr (.inr (some (5, x1)))), none, some (.inr (.inr (some (41, 0)))), some (.inl x4), some (.inl q59), some (.inl x6), some (.inl v6), some (.inl v9), some (.inl q57)], [.inl q57], am_mk m)) rfl ?_
                              obtain ⟨q61, h62, h⟩ := am_bd h
                              refine am_Go.cut (S := (292, [some (.inr (.inr (some (1, 0)))), some (.inr (.inr (some (5, x1)))), none, some (.inr (.inr (some (41, 0)))), some (.inl x4), some (.inl q59), some (.inl x6), some (.inl v6), some (.inl v9), some (.inl q57)], [.inl q61], am_mk m)) ?_ (fun key => ?_)
                              · refine am_Go.n htb 4 (S' := (16, [some (.inr (.inr (some (1, 0)))), some (.inr (.inr (some (5, x1)))), none, some (.inr (.inr (some (41, 0)))), some (.inl q61), some (.inl q59), some (.inl (x6 + 1)), some (.inl v6), some (.inl v9), some (.inl q57)], [], am_mk m)) rfl ?_
                                refine am_Go.fg (L0 := [some (.inr (.inr (some (1, 0)))), some (.inr (.inr (some (5, x1)))), none, some (.inr (.inr (some (41, 0)))), some (.inl q61), some (.inl q59), some (.inl (x6 + 1)), none, none, none]) (by exact ⟨rfl, ⟨rfl, ⟨rfl, ⟨rfl, ⟨rfl, ⟨rfl, trivial⟩⟩⟩⟩⟩⟩) ?_
                                first | exact ih h | exact ih h hk | exact ih h hr | exact ih h hk hr
                              · have h := h62
                                by_cases hc60 : q57 = 0
                                · rw [if_pos hc60] at h
                                  refine am_Go.c1 htb (S' := (288, [some (.inr (.inr (some (1, 0)))), some (.inr (.inr (some (5, x1)))), none, some (.inr (.inr (some (41, 0)))), some (.inl x4), some (.inl q59), some (.inl x6), some (.inl v6), some (.inl v9), some (.inl q57)], [], am_mk m)) (if_pos hc60) ?_
                                  refine am_Go.n htb 3 (S' := (292, [some (.inr (.inr (some (1, 0)))), some (.inr (.inr (some (5, x1)))), none, some (.inr (.inr (some (41, 0)))), some (.inl x4), some (.inl q59), some (.inl x6), some (.inl v6), some (.inl v9), some (.inl q57)], [.inl (x4 - (1 : Int32))], am_mk m)) rfl ?_
                                  cases h
                                  exact am_Go.fg (by exact ⟨rfl, ⟨rfl, ⟨rfl, ⟨rfl, ⟨rfl, ⟨rfl, ⟨rfl, ⟨rfl, ⟨rfl, trivial⟩⟩⟩⟩⟩⟩⟩⟩⟩) key
                                · rw [if_neg hc60] at h
                                  refine am_Go.c1 htb (S' := (283, [some (.inr (.inr (some (1, 0)))), some (.inr (.inr (some (5, x1)))), none, some (.inr (.inr (some (41, 0)))), some (.inl x4), some (.inl q59), some (.inl x6), some (.inl v6), some (.inl v9), some (.inl q57)], [], am_mk m)) (if_neg hc60) ?_
                                  refine am_Go.n htb 2 (S' := (292, [some (.inr (.inr (some (1, 0)))), some (.inr (.inr (some (5, x1)))), none, some (.inr (.inr (some (41, 0)))), some (.inl x4), some (.inl q59), some (.inl x6), some (.inl v6), some (.inl v9), some (.inl q57)], [.inl x4], am_mk m)) rfl ?_
                                  cases h
                                  exact am_Go.fg (by exact ⟨rfl, ⟨rfl, ⟨rfl, ⟨rfl, ⟨rfl, ⟨rfl, ⟨rfl, ⟨rfl, ⟨rfl, trivial⟩⟩⟩⟩⟩⟩⟩⟩⟩) key
                            · have h := h63
                              by_cases hc58 : q57 = 0
                              · rw [if_pos hc58] at h
                                refine am_Go.c1 htb (S' := (274, [some (.inr (.inr (some (1, 0)))), some (.inr (.inr (some (5, x1)))), none, some (.inr (.inr (some (41, 0)))), some (.inl x4), some (.inl (x5 + 1)), some (.inl x6), some (.inl v6), some (.inl v9), some (.inl q57)], [], am_mk m)) (if_pos hc58) ?_
                                refine am_Go.n htb 1 (S' := (276, [some (.inr (.inr (some (1, 0)))), some (.inr (.inr (some (5, x1)))), none, some (.inr (.inr (some (41, 0)))), some (.inl x4), some (.inl (x5 + 1)), some (.inl x6), some (.inl v6), some (.inl v9), some (.inl q57)], [.inl (x5 + 1)], am_mk m)) rfl ?_
                                cases h
                                exact am_Go.fg (by exact ⟨rfl, ⟨rfl, ⟨rfl, ⟨rfl, ⟨rfl, ⟨rfl, ⟨rfl, ⟨rfl, ⟨rfl, trivial⟩⟩⟩⟩⟩⟩⟩⟩⟩) key
                              · rw [if_neg hc58] at h
                                refine am_Go.c1 htb (S' := (269, [some (.inr (.inr (some (1, 0)))), some (.inr (.inr (some (5, x1)))), none, some (.inr (.inr (some (41, 0)))), some (.inl x4), some (.inl (x5 + 1)), some (.inl x6), some (.inl v6), some (.inl v9), some (.inl q57)], [], am_mk m)) (if_neg hc58) ?_
                                refine am_Go.n htb 2 (S' := (276, [some (.inr (.inr (some (1, 0)))), some (.inr (.inr (some (5, x1)))), none, some (.inr (.inr (some (41, 0)))), some (.inl x4), some (.inl (x5 + 1)), some (.inl x6), some (.inl v6), some (.inl v9), some (.inl q57)], [.inl v9], am_mk m)) rfl ?_
                                cases h
                                exact am_Go.fg (by exact ⟨rfl, ⟨rfl, ⟨rfl, ⟨rfl, ⟨rfl, ⟨rfl, ⟨rfl, ⟨rfl, ⟨rfl, trivial⟩⟩⟩⟩⟩⟩⟩⟩⟩) key
                          · have h := h64
                            by_cases hc56 : (lg_cmp (m.2.1 80 0 (x4 - (1 : Int32)).toNatClampNeg) q55) ≠ 0
                            · rw [if_pos hc56] at h
                              refine am_Go.c1 htb (S' := (261, [some (.inr (.inr (some (1, 0)))), some (.inr (.inr (some (5, x1)))), none, some (.inr (.inr (some (41, 0)))), some (.inl x4), some (.inl (x5 + 1)), some (.inl x6), some (.inl v6), some (.inl v9), none], [], am_mk m)) (if_pos hc56) ?_
                              refine am_Go.n htb 1 (S' := (262, [some (.inr (.inr (some (1, 0)))), some (.inr (.inr (some (5, x1)))), none, some (.inr (.inr (some (41, 0)))), some (.inl x4), some (.inl (x5 + 1)), some (.inl x6), some (.inl v6), some (.inl v9), none], [.inl 0], am_mk m)) rfl ?_
                              cases h
                              exact am_Go.fg (by exact ⟨rfl, ⟨rfl, ⟨rfl, ⟨rfl, ⟨rfl, ⟨rfl, ⟨rfl, ⟨rfl, trivial⟩⟩⟩⟩⟩⟩⟩⟩) key
                            · rw [if_neg hc56] at h
                              refine am_Go.c1 htb (S' := (257, [some (.inr (.inr (some (1, 0)))), some (.inr (.inr (some (5, x1)))), none, some (.inr (.inr (some (41, 0)))), some (.inl x4), some (.inl (x5 + 1)), some (.inl x6), some (.inl v6), some (.inl v9), none], [], am_mk m)) (if_neg hc56) ?_
                              refine am_Go.n htb 2 (S' := (262, [some (.inr (.inr (some (1, 0)))), some (.inr (.inr (some (5, x1)))), none, some (.inr (.inr (some (41, 0)))), some (.inl x4), some (.inl (x5 + 1)), some (.inl x6), some (.inl v6), some (.inl v9), none], [.inl 1], am_mk m)) rfl ?_
                              cases h
                              exact am_Go.fg (by exact ⟨rfl, ⟨rfl, ⟨rfl, ⟨rfl, ⟨rfl, ⟨rfl, ⟨rfl, ⟨rfl, trivial⟩⟩⟩⟩⟩⟩⟩⟩) key
                        · have h := h65
                          by_cases hc54 : v6 ≠ (259 : Int32)
                          · rw [if_pos hc54] at h
                            refine am_Go.c1 htb (S' := (252, [some (.inr (.inr (some (1, 0)))), some (.inr (.inr (some (5, x1)))), none, some (.inr (.inr (some (41, 0)))), some (.inl x4), some (.inl (x5 + 1)), some (.inl x6), some (.inl v6), some (.inl v9), none], [.inr (.inl (m.2.1 80 0 (x4 - (1 : Int32)).toNatClampNeg))], am_mk m)) (if_pos hc54) ?_
                            refine am_Go.n htb 1 (S' := (253, [some (.inr (.inr (some (1, 0)))), some (.inr (.inr (some (5, x1)))), none, some (.inr (.inr (some (41, 0)))), some (.inl x4), some (.inl (x5 + 1)), some (.inl x6), some (.inl v6), some (.inl v9), none], [.inr (.inl 0), .inr (.inl (m.2.1 80 0 (x4 - (1 : Int32)).toNatClampNeg))], am_mk m)) rfl ?_
                            cases h
                            exact am_Go.fg (by exact ⟨rfl, ⟨rfl, ⟨rfl, ⟨rfl, ⟨rfl, ⟨rfl, ⟨rfl, ⟨rfl, trivial⟩⟩⟩⟩⟩⟩⟩⟩) key
                          · rw [if_neg hc54] at h
                            refine am_Go.c1 htb (S' := (248, [some (.inr (.inr (some (1, 0)))), some (.inr (.inr (some (5, x1)))), none, some (.inr (.inr (some (41, 0)))), some (.inl x4), some (.inl (x5 + 1)), some (.inl x6), some (.inl v6), some (.inl v9), none], [.inr (.inl (m.2.1 80 0 (x4 - (1 : Int32)).toNatClampNeg))], am_mk m)) (if_neg hc54) ?_
                            refine am_Go.n htb 2 (S' := (253, [some (.inr (.inr (some (1, 0)))), some (.inr (.inr (some (5, x1)))), none, some (.inr (.inr (some (41, 0)))), some (.inl x4), some (.inl (x5 + 1)), some (.inl x6), some (.inl v6), some (.inl v9), none], [.inr (.inl 1), .inr (.inl (m.2.1 80 0 (x4 - (1 : Int32)).toNatClampNeg))], am_mk m)) rfl ?_
                            cases h
                            exact am_Go.fg (by exact ⟨rfl, ⟨rfl, ⟨rfl, ⟨rfl, ⟨rfl, ⟨rfl, ⟨rfl, ⟨rfl, trivial⟩⟩⟩⟩⟩⟩⟩⟩) key
                  · rw [if_neg hc29] at h
                    refine am_Go.c1 htb (S' := (192, [some (.inr (.inr (some (1, 0)))), some (.inr (.inr (some (5, x1)))), none, some (.inr (.inr (some (41, 0)))), some (.inl x4), some (.inl (x5 + 1)), some (.inl x6), some (.inl v6), some (.inl v9), none], [], am_mk m)) (if_neg hc29) ?_
                    refine am_Go.n htb 11 (S' := (209, [some (.inr (.inr (some (1, 0)))), some (.inr (.inr (some (5, x1)))), none, some (.inr (.inr (some (41, 0)))), some (.inl x4), some (.inl (x5 + 1)), some (.inl x6), some (.inl v6), some (.inl v9), none], [.inl (x4 - (1 : Int32)), .inr (.inr (some (80, 0))), .inr (.inl 1), .inl (x4 - (1 : Int32)), .inr (.inr (some (80, 0)))], am_mk m)) rfl ?_
                    obtain ⟨hg66, h⟩ := am_ck_some h
                    refine am_Go.c1 htb (S' := (210, [some (.inr (.inr (some (1, 0)))), some (.inr (.inr (some (5, x1)))), none, some (.inr (.inr (some (41, 0)))), some (.inl x4), some (.inl (x5 + 1)), some (.inl x6), some (.inl v6), some (.inl v9), none], [.inr (.inl (m.2.1 80 0 (x4 - (1 : Int32)).toNatClampNeg)), .inr (.inl 1), .inl (x4 - (1 : Int32)), .inr (.inr (some (80, 0)))], am_mk m)) (if_neg hg66) ?_
                    refine am_Go.n htb 1 (S' := (211, [some (.inr (.inr (some (1, 0)))), some (.inr (.inr (some (5, x1)))), none, some (.inr (.inr (some (41, 0)))), some (.inl x4), some (.inl (x5 + 1)), some (.inl x6), some (.inl v6), some (.inl v9), none], [.inr (.inl ((1 : Int64) - (m.2.1 80 0 (x4 - (1 : Int32)).toNatClampNeg))), .inl (x4 - (1 : Int32)), .inr (.inr (some (80, 0)))], am_mk m)) rfl ?_
                    obtain ⟨hg67, h⟩ := am_ck_some h
                    refine am_Go.c1 htb (S' := (212, [some (.inr (.inr (some (1, 0)))), some (.inr (.inr (some (5, x1)))), none, some (.inr (.inr (some (41, 0)))), some (.inl x4), some (.inl (x5 + 1)), some (.inl x6), some (.inl v6), some (.inl v9), none], [], am_mk (am_sg m 80 0 (x4 - (1 : Int32)).toNatClampNeg ((1 : Int64) - (m.2.1 80 0 (x4 - (1 : Int32)).toNatClampNeg))))) (if_neg hg67) ?_
                    refine am_Go.n htb 3 (S' := (16, [some (.inr (.inr (some (1, 0)))), some (.inr (.inr (some (5, x1)))), none, some (.inr (.inr (some (41, 0)))), some (.inl x4), some (.inl (x5 + 1)), some (.inl (x6 + 1)), some (.inl v6), some (.inl v9), none], [], am_mk (am_sg m 80 0 (x4 - (1 : Int32)).toNatClampNeg ((1 : Int64) - (m.2.1 80 0 (x4 - (1 : Int32)).toNatClampNeg))))) rfl ?_
                    refine am_Go.fg (L0 := [some (.inr (.inr (some (1, 0)))), some (.inr (.inr (some (5, x1)))), none, some (.inr (.inr (some (41, 0)))), some (.inl x4), some (.inl (x5 + 1)), some (.inl (x6 + 1)), none, none, none]) (by exact ⟨rfl, ⟨rfl, ⟨rfl, ⟨rfl, ⟨rfl, ⟨rfl, trivial⟩⟩⟩⟩⟩⟩) ?_
                    first | exact ih h | exact ih h hk | exact ih h hr | exact ih h hk hr
                · rw [if_neg hc28] at h
                  refine am_Go.c1 htb (S' := (181, [some (.inr (.inr (some (1, 0)))), some (.inr (.inr (some (5, x1)))), none, some (.inr (.inr (some (41, 0)))), some (.inl x4), some (.inl (x5 + 1)), some (.inl x6), some (.inl v6), some (.inl v9), none], [], am_mk m)) (if_neg hc28) ?_
                  refine am_Go.n htb 1 (S' := (183, [some (.inr (.inr (some (1, 0)))), some (.inr (.inr (some (5, x1)))), none, some (.inr (.inr (some (41, 0)))), some (.inl x4), some (.inl (x5 + 1)), some (.inl x6), some (.inl v6), some (.inl v9), none], [.inl 2000000000], am_mk m)) rfl ?_
                  cases h
                  obtain ⟨rfl, rfl, rfl, rfl⟩ := hr _ rfl
                  exact am_Go.rt htb rfl
              · rw [if_neg hc27] at h
                refine am_Go.c1 htb (S' := (110, [some (.inr (.inr (some (1, 0)))), some (.inr (.inr (some (5, x1)))), none, some (.inr (.inr (some (41, 0)))), some (.inl x4), some (.inl (x5 + 1)), some (.inl x6), some (.inl v6), some (.inl v9), none], [], am_mk m)) (if_neg hc27) ?_
                refine am_Go.n htb 4 (S' := (117, [some (.inr (.inr (some (1, 0)))), some (.inr (.inr (some (5, x1)))), none, some (.inr (.inr (some (41, 0)))), some (.inl x4), some (.inl (x5 + 1)), some (.inl x6), some (.inl v6), some (.inl v9), none], [.inl (Int32.ofNat 51), .inl x4], am_mk m)) rfl ?_
                by_cases hc68 : (Int32.ofNat 51) ≤ x4
                · rw [if_pos hc68] at h
                  refine am_Go.c1 htb (S' := (140, [some (.inr (.inr (some (1, 0)))), some (.inr (.inr (some (5, x1)))), none, some (.inr (.inr (some (41, 0)))), some (.inl x4), some (.inl (x5 + 1)), some (.inl x6), some (.inl v6), some (.inl v9), none], [], am_mk m)) (if_pos hc68) ?_
                  refine am_Go.n htb 1 (S' := (142, [some (.inr (.inr (some (1, 0)))), some (.inr (.inr (some (5, x1)))), none, some (.inr (.inr (some (41, 0)))), some (.inl x4), some (.inl (x5 + 1)), some (.inl x6), some (.inl v6), some (.inl v9), none], [.inl 2000000000], am_mk m)) rfl ?_
                  cases h
                  obtain ⟨rfl, rfl, rfl, rfl⟩ := hr _ rfl
                  exact am_Go.rt htb rfl
                · rw [if_neg hc68] at h
                  refine am_Go.c1 htb (S' := (120, [some (.inr (.inr (some (1, 0)))), some (.inr (.inr (some (5, x1)))), none, some (.inr (.inr (some (41, 0)))), some (.inl x4), some (.inl (x5 + 1)), some (.inl x6), some (.inl v6), some (.inl v9), none], [], am_mk m)) (if_neg hc68) ?_
                  refine am_Go.n htb 1 (S' := (122, [some (.inr (.inr (some (1, 0)))), some (.inr (.inr (some (5, x1)))), none, some (.inr (.inr (some (41, 0)))), some (.inl x4), some (.inl (x5 + 1)), some (.inl x6), some (.inl v6), some (.inl v9), none], [.inl v9], am_mk m)) rfl ?_
                  by_cases hc69 : v9 < 0
                  · rw [if_pos hc69] at h
                    refine am_Go.c1 htb (S' := (140, [some (.inr (.inr (some (1, 0)))), some (.inr (.inr (some (5, x1)))), none, some (.inr (.inr (some (41, 0)))), some (.inl x4), some (.inl (x5 + 1)), some (.inl x6), some (.inl v6), some (.inl v9), none], [], am_mk m)) (if_pos hc69) ?_
                    refine am_Go.n htb 1 (S' := (142, [some (.inr (.inr (some (1, 0)))), some (.inr (.inr (some (5, x1)))), none, some (.inr (.inr (some (41, 0)))), some (.inl x4), some (.inl (x5 + 1)), some (.inl x6), some (.inl v6), some (.inl v9), none], [.inl 2000000000], am_mk m)) rfl ?_
                    cases h
                    obtain ⟨rfl, rfl, rfl, rfl⟩ := hr _ rfl
                    exact am_Go.rt htb rfl
                  · rw [if_neg hc69] at h
                    refine am_Go.c1 htb (S' := (125, [some (.inr (.inr (some (1, 0)))), some (.inr (.inr (some (5, x1)))), none, some (.inr (.inr (some (41, 0)))), some (.inl x4), some (.inl (x5 + 1)), some (.inl x6), some (.inl v6), some (.inl v9), none], [], am_mk m)) (if_neg hc69) ?_
                    refine am_Go.n htb 2 (S' := (130, [some (.inr (.inr (some (1, 0)))), some (.inr (.inr (some (5, x1)))), none, some (.inr (.inr (some (41, 0)))), some (.inl x4), some (.inl (x5 + 1)), some (.inl x6), some (.inl v6), some (.inl v9), none], [.inl 258, .inl v6], am_mk m)) rfl ?_
                    by_cases hc70 : v6 ≠ (258 : Int32)
                    · rw [if_pos hc70] at h
                      refine am_Go.c1 htb (S' := (143, [some (.inr (.inr (some (1, 0)))), some (.inr (.inr (some (5, x1)))), none, some (.inr (.inr (some (41, 0)))), some (.inl x4), some (.inl (x5 + 1)), some (.inl x6), some (.inl v6), some (.inl v9), none], [], am_mk m)) (if_pos hc70) ?_
                      refine am_Go.n htb 5 (S' := (154, [some (.inr (.inr (some (1, 0)))), some (.inr (.inr (some (5, x1)))), none, some (.inr (.inr (some (41, 0)))), some (.inl x4), some (.inl (x5 + 1)), some (.inl x6), some (.inl v6), some (.inl v9), none], [.inl 256, .inl v6, .inl x4, .inr (.inr (some (80, 0)))], am_mk m)) rfl ?_
                      obtain ⟨q73, h75, h⟩ := am_bd h
                      refine am_Go.cut (S := (168, [some (.inr (.inr (some (1, 0)))), some (.inr (.inr (some (5, x1)))), none, some (.inr (.inr (some (41, 0)))), some (.inl x4), some (.inl (x5 + 1)), some (.inl x6), some (.inl v6), some (.inl v9), none], [.inr (.inl q73), .inl x4, .inr (.inr (some (80, 0)))], am_mk m)) ?_ (fun key => ?_)
                      · obtain ⟨hg74, h⟩ := am_ck_some h
                        refine am_Go.c1 htb (S' := (169, [some (.inr (.inr (some (1, 0)))), some (.inr (.inr (some (5, x1)))), none, some (.inr (.inr (some (41, 0)))), some (.inl x4), some (.inl (x5 + 1)), some (.inl x6), some (.inl v6), some (.inl v9), none], [], am_mk (am_sg m 80 0 x4.toNatClampNeg q73))) (if_neg hg74) ?_
                        refine am_Go.n htb 4 (S' := (16, [some (.inr (.inr (some (1, 0)))), some (.inr (.inr (some (5, x1)))), none, some (.inr (.inr (some (41, 0)))), some (.inl (x4 + 1)), some (.inl (x5 + 1)), some (.inl (x6 + 1)), some (.inl v6), some (.inl v9), none], [], am_mk (am_sg m 80 0 x4.toNatClampNeg q73))) rfl ?_
                        refine am_Go.fg (L0 := [some (.inr (.inr (some (1, 0)))), some (.inr (.inr (some (5, x1)))), none, some (.inr (.inr (some (41, 0)))), some (.inl (x4 + 1)), some (.inl (x5 + 1)), some (.inl (x6 + 1)), none, none, none]) (by exact ⟨rfl, ⟨rfl, ⟨rfl, ⟨rfl, ⟨rfl, ⟨rfl, trivial⟩⟩⟩⟩⟩⟩) ?_
                        first | exact ih h | exact ih h hk | exact ih h hr | exact ih h hk hr
                      · have h := h75
                        by_cases hc71 : v6 ≠ (256 : Int32)
                        · rw [if_pos hc71] at h
                          refine am_Go.c1 htb (S' := (163, [some (.inr (.inr (some (1, 0)))), some (.inr (.inr (some (5, x1)))), none, some (.inr (.inr (some (41, 0)))), some (.inl x4), some (.inl (x5 + 1)), some (.inl x6), some (.inl v6), some (.inl v9), none], [.inl x4, .inr (.inr (some (80, 0)))], am_mk m)) (if_pos hc71) ?_
                          refine am_Go.n htb 2 (S' := (166, [some (.inr (.inr (some (1, 0)))), some (.inr (.inr (some (5, x1)))), none, some (.inr (.inr (some (41, 0)))), some (.inl x4), some (.inl (x5 + 1)), some (.inl x6), some (.inl v6), some (.inl v9), none], [.inl v9, .inr (.inr (some (41, 0))), .inl x4, .inr (.inr (some (80, 0)))], am_mk m)) rfl ?_
                          obtain ⟨hg72, h⟩ := am_ck_some h
                          refine am_Go.c1 htb (S' := (167, [some (.inr (.inr (some (1, 0)))), some (.inr (.inr (some (5, x1)))), none, some (.inr (.inr (some (41, 0)))), some (.inl x4), some (.inl (x5 + 1)), some (.inl x6), some (.inl v6), some (.inl v9), none], [.inl (m.1 41 0 v9.toNatClampNeg), .inl x4, .inr (.inr (some (80, 0)))], am_mk m)) (if_neg hg72) ?_
                          refine am_Go.n htb 1 (S' := (168, [some (.inr (.inr (some (1, 0)))), some (.inr (.inr (some (5, x1)))), none, some (.inr (.inr (some (41, 0)))), some (.inl x4), some (.inl (x5 + 1)), some (.inl x6), some (.inl v6), some (.inl v9), none], [.inr (.inl ((m.1 41 0 v9.toNatClampNeg).toInt64)), .inl x4, .inr (.inr (some (80, 0)))], am_mk m)) rfl ?_
                          cases h
                          exact am_Go.fg (by exact ⟨rfl, ⟨rfl, ⟨rfl, ⟨rfl, ⟨rfl, ⟨rfl, ⟨rfl, ⟨rfl, trivial⟩⟩⟩⟩⟩⟩⟩⟩) key
                        · rw [if_neg hc71] at h
                          refine am_Go.c1 htb (S' := (157, [some (.inr (.inr (some (1, 0)))), some (.inr (.inr (some (5, x1)))), none, some (.inr (.inr (some (41, 0)))), some (.inl x4), some (.inl (x5 + 1)), some (.inl x6), some (.inl v6), some (.inl v9), none], [.inl x4, .inr (.inr (some (80, 0)))], am_mk m)) (if_neg hc71) ?_
                          refine am_Go.n htb 3 (S' := (168, [some (.inr (.inr (some (1, 0)))), some (.inr (.inr (some (5, x1)))), none, some (.inr (.inr (some (41, 0)))), some (.inl x4), some (.inl (x5 + 1)), some (.inl x6), some (.inl v6), some (.inl v9), none], [.inr (.inl v9.toInt64), .inl x4, .inr (.inr (some (80, 0)))], am_mk m)) rfl ?_
                          cases h
                          exact am_Go.fg (by exact ⟨rfl, ⟨rfl, ⟨rfl, ⟨rfl, ⟨rfl, ⟨rfl, ⟨rfl, ⟨rfl, trivial⟩⟩⟩⟩⟩⟩⟩⟩) key
                    · rw [if_neg hc70] at h
                      refine am_Go.c1 htb (S' := (133, [some (.inr (.inr (some (1, 0)))), some (.inr (.inr (some (5, x1)))), none, some (.inr (.inr (some (41, 0)))), some (.inl x4), some (.inl (x5 + 1)), some (.inl x6), some (.inl v6), some (.inl v9), none], [], am_mk m)) (if_neg hc70) ?_
                      refine am_Go.n htb 3 (S' := (137, [some (.inr (.inr (some (1, 0)))), some (.inr (.inr (some (5, x1)))), none, some (.inr (.inr (some (41, 0)))), some (.inl x4), some (.inl (x5 + 1)), some (.inl x6), some (.inl v6), some (.inl v9), none], [.inl (Int32.ofNat 19), .inl v9], am_mk m)) rfl ?_
                      by_cases hc76 : v9 < (Int32.ofNat 19)
                      · rw [if_pos hc76] at h
                        refine am_Go.c1 htb (S' := (143, [some (.inr (.inr (some (1, 0)))), some (.inr (.inr (some (5, x1)))), none, some (.inr (.inr (some (41, 0)))), some (.inl x4), some (.inl (x5 + 1)), some (.inl x6), some (.inl v6), some (.inl v9), none], [], am_mk m)) (if_pos hc76) ?_
                        refine am_Go.n htb 5 (S' := (154, [some (.inr (.inr (some (1, 0)))), some (.inr (.inr (some (5, x1)))), none, some (.inr (.inr (some (41, 0)))), some (.inl x4), some (.inl (x5 + 1)), some (.inl x6), some (.inl v6), some (.inl v9), none], [.inl 256, .inl v6, .inl x4, .inr (.inr (some (80, 0)))], am_mk m)) rfl ?_
                        obtain ⟨q79, h81, h⟩ := am_bd h
                        refine am_Go.cut (S := (168, [some (.inr (.inr (some (1, 0)))), some (.inr (.inr (some (5, x1)))), none, some (.inr (.inr (some (41, 0)))), some (.inl x4), some (.inl (x5 + 1)), some (.inl x6), some (.inl v6), some (.inl v9), none], [.inr (.inl q79), .inl x4, .inr (.inr (some (80, 0)))], am_mk m)) ?_ (fun key => ?_)
                        · obtain ⟨hg80, h⟩ := am_ck_some h
                          refine am_Go.c1 htb (S' := (169, [some (.inr (.inr (some (1, 0)))), some (.inr (.inr (some (5, x1)))), none, some (.inr (.inr (some (41, 0)))), some (.inl x4), some (.inl (x5 + 1)), some (.inl x6), some (.inl v6), some (.inl v9), none], [], am_mk (am_sg m 80 0 x4.toNatClampNeg q79))) (if_neg hg80) ?_
                          refine am_Go.n htb 4 (S' := (16, [some (.inr (.inr (some (1, 0)))), some (.inr (.inr (some (5, x1)))), none, some (.inr (.inr (some (41, 0)))), some (.inl (x4 + 1)), some (.inl (x5 + 1)), some (.inl (x6 + 1)), some (.inl v6), some (.inl v9), none], [], am_mk (am_sg m 80 0 x4.toNatClampNeg q79))) rfl ?_
                          refine am_Go.fg (L0 := [some (.inr (.inr (some (1, 0)))), some (.inr (.inr (some (5, x1)))), none, some (.inr (.inr (some (41, 0)))), some (.inl (x4 + 1)), some (.inl (x5 + 1)), some (.inl (x6 + 1)), none, none, none]) (by exact ⟨rfl, ⟨rfl, ⟨rfl, ⟨rfl, ⟨rfl, ⟨rfl, trivial⟩⟩⟩⟩⟩⟩) ?_
                          first | exact ih h | exact ih h hk | exact ih h hr | exact ih h hk hr
                        · have h := h81
                          by_cases hc77 : v6 ≠ (256 : Int32)
                          · rw [if_pos hc77] at h
                            refine am_Go.c1 htb (S' := (163, [some (.inr (.inr (some (1, 0)))), some (.inr (.inr (some (5, x1)))), none, some (.inr (.inr (some (41, 0)))), some (.inl x4), some (.inl (x5 + 1)), some (.inl x6), some (.inl v6), some (.inl v9), none], [.inl x4, .inr (.inr (some (80, 0)))], am_mk m)) (if_pos hc77) ?_
                            refine am_Go.n htb 2 (S' := (166, [some (.inr (.inr (some (1, 0)))), some (.inr (.inr (some (5, x1)))), none, some (.inr (.inr (some (41, 0)))), some (.inl x4), some (.inl (x5 + 1)), some (.inl x6), some (.inl v6), some (.inl v9), none], [.inl v9, .inr (.inr (some (41, 0))), .inl x4, .inr (.inr (some (80, 0)))], am_mk m)) rfl ?_
                            obtain ⟨hg78, h⟩ := am_ck_some h
                            refine am_Go.c1 htb (S' := (167, [some (.inr (.inr (some (1, 0)))), some (.inr (.inr (some (5, x1)))), none, some (.inr (.inr (some (41, 0)))), some (.inl x4), some (.inl (x5 + 1)), some (.inl x6), some (.inl v6), some (.inl v9), none], [.inl (m.1 41 0 v9.toNatClampNeg), .inl x4, .inr (.inr (some (80, 0)))], am_mk m)) (if_neg hg78) ?_
                            refine am_Go.n htb 1 (S' := (168, [some (.inr (.inr (some (1, 0)))), some (.inr (.inr (some (5, x1)))), none, some (.inr (.inr (some (41, 0)))), some (.inl x4), some (.inl (x5 + 1)), some (.inl x6), some (.inl v6), some (.inl v9), none], [.inr (.inl ((m.1 41 0 v9.toNatClampNeg).toInt64)), .inl x4, .inr (.inr (some (80, 0)))], am_mk m)) rfl ?_
                            cases h
                            exact am_Go.fg (by exact ⟨rfl, ⟨rfl, ⟨rfl, ⟨rfl, ⟨rfl, ⟨rfl, ⟨rfl, ⟨rfl, trivial⟩⟩⟩⟩⟩⟩⟩⟩) key
                          · rw [if_neg hc77] at h
                            refine am_Go.c1 htb (S' := (157, [some (.inr (.inr (some (1, 0)))), some (.inr (.inr (some (5, x1)))), none, some (.inr (.inr (some (41, 0)))), some (.inl x4), some (.inl (x5 + 1)), some (.inl x6), some (.inl v6), some (.inl v9), none], [.inl x4, .inr (.inr (some (80, 0)))], am_mk m)) (if_neg hc77) ?_
                            refine am_Go.n htb 3 (S' := (168, [some (.inr (.inr (some (1, 0)))), some (.inr (.inr (some (5, x1)))), none, some (.inr (.inr (some (41, 0)))), some (.inl x4), some (.inl (x5 + 1)), some (.inl x6), some (.inl v6), some (.inl v9), none], [.inr (.inl v9.toInt64), .inl x4, .inr (.inr (some (80, 0)))], am_mk m)) rfl ?_
                            cases h
                            exact am_Go.fg (by exact ⟨rfl, ⟨rfl, ⟨rfl, ⟨rfl, ⟨rfl, ⟨rfl, ⟨rfl, ⟨rfl, trivial⟩⟩⟩⟩⟩⟩⟩⟩) key
                      · rw [if_neg hc76] at h
                        refine am_Go.c1 htb (S' := (140, [some (.inr (.inr (some (1, 0)))), some (.inr (.inr (some (5, x1)))), none, some (.inr (.inr (some (41, 0)))), some (.inl x4), some (.inl (x5 + 1)), some (.inl x6), some (.inl v6), some (.inl v9), none], [], am_mk m)) (if_neg hc76) ?_
                        refine am_Go.n htb 1 (S' := (142, [some (.inr (.inr (some (1, 0)))), some (.inr (.inr (some (5, x1)))), none, some (.inr (.inr (some (41, 0)))), some (.inl x4), some (.inl (x5 + 1)), some (.inl x6), some (.inl v6), some (.inl v9), none], [.inl 2000000000], am_mk m)) rfl ?_
                        cases h
                        obtain ⟨rfl, rfl, rfl, rfl⟩ := hr _ rfl
                        exact am_Go.rt htb rfl
          · rw [if_neg hc11] at h
            refine am_Go.c1 htb (S' := (75, [some (.inr (.inr (some (1, 0)))), some (.inr (.inr (some (5, x1)))), none, some (.inr (.inr (some (41, 0)))), some (.inl x4), some (.inl (x5 + 1)), some (.inl x6), some (.inl v6), some (.inl v9), none], [], am_mk m)) (if_neg hc11) ?_
            refine am_Go.n htb 2 (S' := (78, [some (.inr (.inr (some (1, 0)))), some (.inr (.inr (some (5, x1)))), none, some (.inr (.inr (some (41, 0)))), some (.inl x4), some (.inl (x5 + 1)), some (.inl x6), some (.inl v6), some (.inl v9), none], [.inl 1, .inl x4], am_mk m)) rfl ?_
            by_cases hc82 : x4 ≠ (1 : Int32)
            · rw [if_pos hc82] at h
              refine am_Go.c1 htb (S' := (91, [some (.inr (.inr (some (1, 0)))), some (.inr (.inr (some (5, x1)))), none, some (.inr (.inr (some (41, 0)))), some (.inl x4), some (.inl (x5 + 1)), some (.inl x6), some (.inl v6), some (.inl v9), none], [], am_mk m)) (if_pos hc82) ?_
              refine am_Go.n htb 1 (S' := (93, [some (.inr (.inr (some (1, 0)))), some (.inr (.inr (some (5, x1)))), none, some (.inr (.inr (some (41, 0)))), some (.inl x4), some (.inl (x5 + 1)), some (.inl x6), some (.inl v6), some (.inl v9), none], [.inl 2000000000], am_mk m)) rfl ?_
              cases h
              obtain ⟨rfl, rfl, rfl, rfl⟩ := hr _ rfl
              exact am_Go.rt htb rfl
            · rw [if_neg hc82] at h
              refine am_Go.c1 htb (S' := (81, [some (.inr (.inr (some (1, 0)))), some (.inr (.inr (some (5, x1)))), none, some (.inr (.inr (some (41, 0)))), some (.inl x4), some (.inl (x5 + 1)), some (.inl x6), some (.inl v6), some (.inl v9), none], [], am_mk m)) (if_neg hc82) ?_
              refine am_Go.n htb 6 (S' := (93, [some (.inr (.inr (some (1, 0)))), some (.inr (.inr (some (5, x1)))), none, some (.inr (.inr (some (41, 0)))), some (.inl x4), some (.inl (x5 + 1)), some (.inl x6), some (.inl v6), some (.inl v9), none], [.inl ((m.2.1 80 0 0).toInt32)], am_mk m)) rfl ?_
              cases h
              obtain ⟨rfl, rfl, rfl, rfl⟩ := hr _ rfl
              exact am_Go.rt htb rfl
set_option maxRecDepth 100000 in
theorem ex_X1_tell_o (d : Nat) (hd : 2 ≤ d) (a1 : Nat) (a2 : Int32) (m : am_m) (t : Int32 × am_m) (h : fn_X1_tell_o a1 a2 m = some t) : am_Ex am_cod d 18 [.inr (.inr (some (1, 0))), .inr (.inr (some (5, a1))), .inl a2, .inr (.inr (some (41, 0)))] (am_mk m) (some (.inl t.1)) (am_mk t.2) 0 0 := by
  obtain ⟨d, rfl⟩ : ∃ e, d = e + 1 := ⟨d - 1, by omega⟩
  have htb : am_tab 18 = at_18 := rfl
  refine ⟨Nat.le_of_ble_eq_true rfl, ?_⟩
  unfold fn_X1_tell_o at h
  show am_Go d 18 (0, [some (.inr (.inr (some (1, 0)))), some (.inr (.inr (some (5, a1)))), some (.inl a2), some (.inr (.inr (some (41, 0)))), none, none, none, none, none, none], [], am_mk m) _ _ 0 0
  refine am_Go.n htb 2 (S' := (2, [some (.inr (.inr (some (1, 0)))), some (.inr (.inr (some (5, a1)))), some (.inl a2), some (.inr (.inr (some (41, 0)))), none, none, none, none, none, none], [.inl (-1), .inl a2], am_mk m)) rfl ?_
  by_cases hc1 : a2 ≠ (-1 : Int32)
  · rw [if_pos hc1] at h
    refine am_Go.c1 htb (S' := (7, [some (.inr (.inr (some (1, 0)))), some (.inr (.inr (some (5, a1)))), some (.inl a2), some (.inr (.inr (some (41, 0)))), none, none, none, none, none, none], [], am_mk m)) (if_pos hc1) ?_
    refine am_Go.n htb 6 (S' := (16, [some (.inr (.inr (some (1, 0)))), some (.inr (.inr (some (5, a1)))), some (.inl a2), some (.inr (.inr (some (41, 0)))), some (.inl 0), some (.inl a2), some (.inl 0), none, none, none], [], am_mk m)) rfl ?_
    refine am_Go.fg (L0 := [some (.inr (.inr (some (1, 0)))), some (.inr (.inr (some (5, a1)))), none, some (.inr (.inr (some (41, 0)))), some (.inl 0), some (.inl a2), some (.inl 0), none, none, none]) (by exact ⟨rfl, ⟨rfl, ⟨rfl, ⟨rfl, ⟨rfl, ⟨rfl, trivial⟩⟩⟩⟩⟩⟩) ?_
    obtain ⟨w86, h84, h⟩ := am_bd h
    refine lt_X1_tell_o_16 _ hd (h := h84) (hk := ?_) (hr := ?_)
    · intro q83 he
      subst he
      dsimp only at h
      refine am_Go.n htb 1 (S' := (366, [some (.inr (.inr (some (1, 0)))), some (.inr (.inr (some (5, a1)))), none, some (.inr (.inr (some (41, 0)))), none, none, none, none, none, none], [.inl 2000000000], am_mk q83)) rfl ?_
      cases h
      exact am_Go.rt htb rfl
    · intro rr85 he
      subst he
      cases h
      exact ⟨rfl, rfl, rfl, rfl⟩
  · rw [if_neg hc1] at h
    refine am_Go.c1 htb (S' := (5, [some (.inr (.inr (some (1, 0)))), some (.inr (.inr (some (5, a1)))), some (.inl a2), some (.inr (.inr (some (41, 0)))), none, none, none, none, none, none], [], am_mk m)) (if_neg hc1) ?_
    refine am_Go.n htb 1 (S' := (6, [some (.inr (.inr (some (1, 0)))), some (.inr (.inr (some (5, a1)))), some (.inl a2), some (.inr (.inr (some (41, 0)))), none, none, none, none, none, none], [.inl 1], am_mk m)) rfl ?_
    cases h
    exact am_Go.rt htb rfl
