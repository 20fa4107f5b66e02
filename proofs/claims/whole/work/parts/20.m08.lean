-- X10_seasons
def lp_X10_seasons_65 : Nat → Int32 → Int32 → am_m → Option (am_m)
  | 0, _, _, _ => none
  | n + 1, x2, x3, m =>
  (if x2 ≤ x3 then some m else am_ck 4 5518 ((if (999 : Int32) ≤ (m.1 44 0 (4 : Int32).toNatClampNeg) then some m else am_ck 0 5518 ((fn_X10_draw (m.1 44 0 (0 : Int32).toNatClampNeg) m).bind fun r17 => am_ck 0 5518 ((fn_X10_draw (r17.2.1 44 0 (0 : Int32).toNatClampNeg) r17.2).bind fun r20 => (fn_X10_draw 9 r20.2).bind fun r22 => (fn_X10_draw 4 r22.2).bind fun r24 => (if r17.1 = r20.1 then some r24.2 else (if (2 : Int32) ≤ r24.1 then some r24.2 else (fn_X10_weightOf r17.1 r20.1 r24.2).bind fun r28 => (if r28 = (r22.1 + (1 : Int32)) then some r24.2 else (fn_X10_setHarm r17.1 r20.1 (r22.1 + (1 : Int32)) r24.2).bind fun r31 => some r31)).bind fun q33 => (if r24.1 ≠ (2 : Int32) then some q33 else (fn_X10_maySit r17.1 r20.1 q33).bind fun r35 => (if r35.1 = 0 then some r35.2 else (fn_X10_feastIt (((1 : Int32) <<< (r17.1 &&& 31)) ||| ((1 : Int32) <<< (r20.1 &&& 31))) r35.2).bind fun r38 => some r38)).bind fun q40 => (if r24.1 ≠ (3 : Int32) then some q40 else am_ck (((14 : Int32) + ((7 : Int32) * r17.1)) + r20.1) 5518 (some (am_si q40 44 0 (((14 : Int32) + ((7 : Int32) * r17.1)) + r20.1).toNatClampNeg 0)))).bind fun q45 => (fn_X10_passIt  q45).bind fun r46 => lp_X10_seasons_65 n x2 (x3 + 1) r46)))))
set_option maxRecDepth 100000 in
theorem lt_X10_seasons_65 (d : Nat) (hd : 8 ≤ d + 1) {r : Option am_V} {M' : am_M} {kc ks : Nat} {n : Nat} {x2 : Int32} {x3 : Int32} {m : am_m} {t : am_m} (h : lp_X10_seasons_65 n x2 x3 m = some t) (hk : am_Go d 293 (222, [some (.inr (.inr (some (10, 0)))), none, some (.inl x2), none, none, none, none, none], [], am_mk t) r M' kc ks) : am_Go d 293 (65, [some (.inr (.inr (some (10, 0)))), none, some (.inl x2), some (.inl x3), none, none, none, none], [], am_mk m) r M' kc ks := by
  have htb : am_tab 293 = at_293 := rfl
  induction n generalizing x3 m with
  | zero => cases h
  | succ n ih =>
    unfold lp_X10_seasons_65 at h
    refine am_Go.n htb 2 (S' := (67, [some (.inr (.inr (some (10, 0)))), none, some (.inl x2), some (.inl x3), none, none, none, none], [.inl x2, .inl x3], am_mk m)) rfl ?_
    by_cases hc13 : x2 ≤ x3
    · rw [if_pos hc13] at h
      refine am_Go.c1 htb (S' := (222, [some (.inr (.inr (some (10, 0)))), none, some (.inl x2), some (.inl x3), none, none, none, none], [], am_mk m)) (if_pos hc13) ?_
      cases h
      exact am_Go.fg (by exact ⟨rfl, ⟨rfl, trivial⟩⟩) hk
    · rw [if_neg hc13] at h
      refine am_Go.c1 htb (S' := (70, [some (.inr (.inr (some (10, 0)))), none, some (.inl x2), some (.inl x3), none, none, none, none], [], am_mk m)) (if_neg hc13) ?_
      refine am_Go.n htb 3 (S' := (75, [some (.inr (.inr (some (10, 0)))), none, some (.inl x2), some (.inl x3), none, none, none, none], [.inl 4, .inr (.inr (some (44, 0)))], am_mk m)) rfl ?_
      obtain ⟨hg14, h⟩ := am_ck_some h
      refine am_Go.c1 htb (S' := (76, [some (.inr (.inr (some (10, 0)))), none, some (.inl x2), some (.inl x3), none, none, none, none], [.inl (m.1 44 0 (4 : Int32).toNatClampNeg)], am_mk m)) (if_neg hg14) ?_
      refine am_Go.n htb 1 (S' := (79, [some (.inr (.inr (some (10, 0)))), none, some (.inl x2), some (.inl x3), none, none, none, none], [.inl 999, .inl (m.1 44 0 (4 : Int32).toNatClampNeg)], am_mk m)) rfl ?_
      by_cases hc15 : (999 : Int32) ≤ (m.1 44 0 (4 : Int32).toNatClampNeg)
      · rw [if_pos hc15] at h
        refine am_Go.c1 htb (S' := (222, [some (.inr (.inr (some (10, 0)))), none, some (.inl x2), some (.inl x3), none, none, none, none], [], am_mk m)) (if_pos hc15) ?_
        cases h
        exact am_Go.fg (by exact ⟨rfl, ⟨rfl, trivial⟩⟩) hk
      · rw [if_neg hc15] at h
        refine am_Go.c1 htb (S' := (82, [some (.inr (.inr (some (10, 0)))), none, some (.inl x2), some (.inl x3), none, none, none, none], [], am_mk m)) (if_neg hc15) ?_
        refine am_Go.n htb 4 (S' := (88, [some (.inr (.inr (some (10, 0)))), none, some (.inl x2), some (.inl x3), none, none, none, none], [.inl 0, .inr (.inr (some (44, 0))), .inr (.inr (some (10, 0)))], am_mk m)) rfl ?_
        obtain ⟨hg16, h⟩ := am_ck_some h
        refine am_Go.c1 htb (S' := (89, [some (.inr (.inr (some (10, 0)))), none, some (.inl x2), some (.inl x3), none, none, none, none], [.inl (m.1 44 0 (0 : Int32).toNatClampNeg), .inr (.inr (some (10, 0)))], am_mk m)) (if_neg hg16) ?_
        obtain ⟨r17, h18, h⟩ := am_bd h
        refine am_Go.cl htb rfl (ex_X10_draw d (by omega) (m.1 44 0 (0 : Int32).toNatClampNeg) m r17 h18) ?_
        show am_Go d 293 (92, [some (.inr (.inr (some (10, 0)))), none, some (.inl x2), some (.inl x3), none, none, none, none], [.inl r17.1], am_mk r17.2) _ _ _ _
        refine am_Go.n htb 5 (S' := (100, [some (.inr (.inr (some (10, 0)))), none, some (.inl x2), some (.inl x3), some (.inl r17.1), none, none, none], [.inl 0, .inr (.inr (some (44, 0))), .inr (.inr (some (10, 0)))], am_mk r17.2)) rfl ?_
        obtain ⟨hg19, h⟩ := am_ck_some h
        refine am_Go.c1 htb (S' := (101, [some (.inr (.inr (some (10, 0)))), none, some (.inl x2), some (.inl x3), some (.inl r17.1), none, none, none], [.inl (r17.2.1 44 0 (0 : Int32).toNatClampNeg), .inr (.inr (some (10, 0)))], am_mk r17.2)) (if_neg hg19) ?_
        obtain ⟨r20, h21, h⟩ := am_bd h
        refine am_Go.cl htb rfl (ex_X10_draw d (by omega) (r17.2.1 44 0 (0 : Int32).toNatClampNeg) r17.2 r20 h21) ?_
        show am_Go d 293 (104, [some (.inr (.inr (some (10, 0)))), none, some (.inl x2), some (.inl x3), some (.inl r17.1), none, none, none], [.inl r20.1], am_mk r20.2) _ _ _ _
        refine am_Go.n htb 3 (S' := (109, [some (.inr (.inr (some (10, 0)))), none, some (.inl x2), some (.inl x3), some (.inl r17.1), some (.inl r20.1), none, none], [.inl 9, .inr (.inr (some (10, 0)))], am_mk r20.2)) rfl ?_
        obtain ⟨r22, h23, h⟩ := am_bd h
        refine am_Go.cl htb rfl (ex_X10_draw d (by omega) 9 r20.2 r22 h23) ?_
        show am_Go d 293 (112, [some (.inr (.inr (some (10, 0)))), none, some (.inl x2), some (.inl x3), some (.inl r17.1), some (.inl r20.1), none, none], [.inl r22.1], am_mk r22.2) _ _ _ _
        refine am_Go.n htb 5 (S' := (118, [some (.inr (.inr (some (10, 0)))), none, some (.inl x2), some (.inl x3), some (.inl r17.1), some (.inl r20.1), some (.inl (r22.1 + (1 : Int32))), none], [.inl 4, .inr (.inr (some (10, 0)))], am_mk r22.2)) rfl ?_
        obtain ⟨r24, h25, h⟩ := am_bd h
        refine am_Go.cl htb rfl (ex_X10_draw d (by omega) 4 r22.2 r24 h25) ?_
        show am_Go d 293 (121, [some (.inr (.inr (some (10, 0)))), none, some (.inl x2), some (.inl x3), some (.inl r17.1), some (.inl r20.1), some (.inl (r22.1 + (1 : Int32))), none], [.inl r24.1], am_mk r24.2) _ _ _ _
        refine am_Go.n htb 3 (S' := (127, [some (.inr (.inr (some (10, 0)))), none, some (.inl x2), some (.inl x3), some (.inl r17.1), some (.inl r20.1), some (.inl (r22.1 + (1 : Int32))), some (.inl r24.1)], [.inl r20.1, .inl r17.1], am_mk r24.2)) rfl ?_
        obtain ⟨q45, h48, h⟩ := am_bd h
        refine am_Go.cut (S := (212, [some (.inr (.inr (some (10, 0)))), none, some (.inl x2), some (.inl x3), some (.inl r17.1), some (.inl r20.1), some (.inl (r22.1 + (1 : Int32))), some (.inl r24.1)], [], am_mk q45)) ?_ (fun key => ?_)
        · refine am_Go.n htb 1 (S' := (213, [some (.inr (.inr (some (10, 0)))), none, some (.inl x2), some (.inl x3), some (.inl r17.1), some (.inl r20.1), some (.inl (r22.1 + (1 : Int32))), some (.inl r24.1)], [.inr (.inr (some (10, 0)))], am_mk q45)) rfl ?_
          obtain ⟨r46, h47, h⟩ := am_bd h
          refine am_Go.cl htb rfl (ex_X10_passIt d (by omega)  q45 r46 h47) ?_
          show am_Go d 293 (216, [some (.inr (.inr (some (10, 0)))), none, some (.inl x2), some (.inl x3), some (.inl r17.1), some (.inl r20.1), some (.inl (r22.1 + (1 : Int32))), some (.inl r24.1)], [], am_mk r46) _ _ _ _
          refine am_Go.n htb 2 (S' := (65, [some (.inr (.inr (some (10, 0)))), none, some (.inl x2), some (.inl (x3 + 1)), some (.inl r17.1), some (.inl r20.1), some (.inl (r22.1 + (1 : Int32))), some (.inl r24.1)], [], am_mk r46)) rfl ?_
          refine am_Go.fg (L0 := [some (.inr (.inr (some (10, 0)))), none, some (.inl x2), some (.inl (x3 + 1)), none, none, none, none]) (by exact ⟨rfl, ⟨rfl, ⟨rfl, trivial⟩⟩⟩) ?_
          exact ih h hk
        · have h := h48
          by_cases hc26 : r17.1 = r20.1
          · rw [if_pos hc26] at h
            refine am_Go.c1 htb (S' := (212, [some (.inr (.inr (some (10, 0)))), none, some (.inl x2), some (.inl x3), some (.inl r17.1), some (.inl r20.1), some (.inl (r22.1 + (1 : Int32))), some (.inl r24.1)], [], am_mk r24.2)) (if_pos hc26) ?_
            cases h
            exact am_Go.fg (by exact ⟨rfl, ⟨rfl, ⟨rfl, ⟨rfl, ⟨rfl, ⟨rfl, ⟨rfl, trivial⟩⟩⟩⟩⟩⟩⟩) key
          · rw [if_neg hc26] at h
            refine am_Go.c1 htb (S' := (130, [some (.inr (.inr (some (10, 0)))), none, some (.inl x2), some (.inl x3), some (.inl r17.1), some (.inl r20.1), some (.inl (r22.1 + (1 : Int32))), some (.inl r24.1)], [], am_mk r24.2)) (if_neg hc26) ?_
            refine am_Go.n htb 2 (S' := (133, [some (.inr (.inr (some (10, 0)))), none, some (.inl x2), some (.inl x3), some (.inl r17.1), some (.inl r20.1), some (.inl (r22.1 + (1 : Int32))), some (.inl r24.1)], [.inl 2, .inl r24.1], am_mk r24.2)) rfl ?_
            obtain ⟨q33, h44, h⟩ := am_bd h
            refine am_Go.cut (S := (159, [some (.inr (.inr (some (10, 0)))), none, some (.inl x2), some (.inl x3), some (.inl r17.1), some (.inl r20.1), some (.inl (r22.1 + (1 : Int32))), some (.inl r24.1)], [], am_mk q33)) ?_ (fun key => ?_)
            · refine am_Go.n htb 2 (S' := (162, [some (.inr (.inr (some (10, 0)))), none, some (.inl x2), some (.inl x3), some (.inl r17.1), some (.inl r20.1), some (.inl (r22.1 + (1 : Int32))), some (.inl r24.1)], [.inl 2, .inl r24.1], am_mk q33)) rfl ?_
              obtain ⟨q40, h43, h⟩ := am_bd h
              refine am_Go.cut (S := (189, [some (.inr (.inr (some (10, 0)))), none, some (.inl x2), some (.inl x3), some (.inl r17.1), some (.inl r20.1), some (.inl (r22.1 + (1 : Int32))), some (.inl r24.1)], [], am_mk q40)) ?_ (fun key => ?_)
              · refine am_Go.n htb 2 (S' := (192, [some (.inr (.inr (some (10, 0)))), none, some (.inl x2), some (.inl x3), some (.inl r17.1), some (.inl r20.1), some (.inl (r22.1 + (1 : Int32))), some (.inl r24.1)], [.inl 3, .inl r24.1], am_mk q40)) rfl ?_
                by_cases hc41 : r24.1 ≠ (3 : Int32)
                · rw [if_pos hc41] at h
                  refine am_Go.c1 htb (S' := (212, [some (.inr (.inr (some (10, 0)))), none, some (.inl x2), some (.inl x3), some (.inl r17.1), some (.inl r20.1), some (.inl (r22.1 + (1 : Int32))), some (.inl r24.1)], [], am_mk q40)) (if_pos hc41) ?_
                  cases h
                  exact am_Go.fg (by exact ⟨rfl, ⟨rfl, ⟨rfl, ⟨rfl, ⟨rfl, ⟨rfl, ⟨rfl, trivial⟩⟩⟩⟩⟩⟩⟩) key
                · rw [if_neg hc41] at h
                  refine am_Go.c1 htb (S' := (195, [some (.inr (.inr (some (10, 0)))), none, some (.inl x2), some (.inl x3), some (.inl r17.1), some (.inl r20.1), some (.inl (r22.1 + (1 : Int32))), some (.inl r24.1)], [], am_mk q40)) (if_neg hc41) ?_
                  refine am_Go.n htb 10 (S' := (211, [some (.inr (.inr (some (10, 0)))), none, some (.inl x2), some (.inl x3), some (.inl r17.1), some (.inl r20.1), some (.inl (r22.1 + (1 : Int32))), some (.inl r24.1)], [.inl 0, .inl (((14 : Int32) + ((7 : Int32) * r17.1)) + r20.1), .inr (.inr (some (44, 0)))], am_mk q40)) rfl ?_
                  obtain ⟨hg42, h⟩ := am_ck_some h
                  refine am_Go.c1 htb (S' := (212, [some (.inr (.inr (some (10, 0)))), none, some (.inl x2), some (.inl x3), some (.inl r17.1), some (.inl r20.1), some (.inl (r22.1 + (1 : Int32))), some (.inl r24.1)], [], am_mk (am_si q40 44 0 (((14 : Int32) + ((7 : Int32) * r17.1)) + r20.1).toNatClampNeg 0))) (if_neg hg42) ?_
                  cases h
                  exact am_Go.fg (by exact ⟨rfl, ⟨rfl, ⟨rfl, ⟨rfl, ⟨rfl, ⟨rfl, ⟨rfl, trivial⟩⟩⟩⟩⟩⟩⟩) key
              · have h := h43
                by_cases hc34 : r24.1 ≠ (2 : Int32)
                · rw [if_pos hc34] at h
                  refine am_Go.c1 htb (S' := (189, [some (.inr (.inr (some (10, 0)))), none, some (.inl x2), some (.inl x3), some (.inl r17.1), some (.inl r20.1), some (.inl (r22.1 + (1 : Int32))), some (.inl r24.1)], [], am_mk q33)) (if_pos hc34) ?_
                  cases h
                  exact am_Go.fg (by exact ⟨rfl, ⟨rfl, ⟨rfl, ⟨rfl, ⟨rfl, ⟨rfl, ⟨rfl, trivial⟩⟩⟩⟩⟩⟩⟩) key
                · rw [if_neg hc34] at h
                  refine am_Go.c1 htb (S' := (165, [some (.inr (.inr (some (10, 0)))), none, some (.inl x2), some (.inl x3), some (.inl r17.1), some (.inl r20.1), some (.inl (r22.1 + (1 : Int32))), some (.inl r24.1)], [], am_mk q33)) (if_neg hc34) ?_
                  refine am_Go.n htb 3 (S' := (170, [some (.inr (.inr (some (10, 0)))), none, some (.inl x2), some (.inl x3), some (.inl r17.1), some (.inl r20.1), some (.inl (r22.1 + (1 : Int32))), some (.inl r24.1)], [.inl r20.1, .inl r17.1, .inr (.inr (some (10, 0)))], am_mk q33)) rfl ?_
                  obtain ⟨r35, h36, h⟩ := am_bd h
                  refine am_Go.cl htb rfl (ex_X10_maySit d (by omega) r17.1 r20.1 q33 r35 h36) ?_
                  show am_Go d 293 (173, [some (.inr (.inr (some (10, 0)))), none, some (.inl x2), some (.inl x3), some (.inl r17.1), some (.inl r20.1), some (.inl (r22.1 + (1 : Int32))), some (.inl r24.1)], [.inl r35.1], am_mk r35.2) _ _ _ _
                  by_cases hc37 : r35.1 = 0
                  · rw [if_pos hc37] at h
                    refine am_Go.c1 htb (S' := (189, [some (.inr (.inr (some (10, 0)))), none, some (.inl x2), some (.inl x3), some (.inl r17.1), some (.inl r20.1), some (.inl (r22.1 + (1 : Int32))), some (.inl r24.1)], [], am_mk r35.2)) (if_pos hc37) ?_
                    cases h
                    exact am_Go.fg (by exact ⟨rfl, ⟨rfl, ⟨rfl, ⟨rfl, ⟨rfl, ⟨rfl, ⟨rfl, trivial⟩⟩⟩⟩⟩⟩⟩) key
                  · rw [if_neg hc37] at h
                    refine am_Go.c1 htb (S' := (176, [some (.inr (.inr (some (10, 0)))), none, some (.inl x2), some (.inl x3), some (.inl r17.1), some (.inl r20.1), some (.inl (r22.1 + (1 : Int32))), some (.inl r24.1)], [], am_mk r35.2)) (if_neg hc37) ?_
                    refine am_Go.n htb 8 (S' := (186, [some (.inr (.inr (some (10, 0)))), none, some (.inl x2), some (.inl x3), some (.inl r17.1), some (.inl r20.1), some (.inl (r22.1 + (1 : Int32))), some (.inl r24.1)], [.inl (((1 : Int32) <<< (r17.1 &&& 31)) ||| ((1 : Int32) <<< (r20.1 &&& 31))), .inr (.inr (some (10, 0)))], am_mk r35.2)) rfl ?_
                    obtain ⟨r38, h39, h⟩ := am_bd h
                    refine am_Go.cl htb rfl (ex_X10_feastIt d (by omega) (((1 : Int32) <<< (r17.1 &&& 31)) ||| ((1 : Int32) <<< (r20.1 &&& 31))) r35.2 r38 h39) ?_
                    show am_Go d 293 (189, [some (.inr (.inr (some (10, 0)))), none, some (.inl x2), some (.inl x3), some (.inl r17.1), some (.inl r20.1), some (.inl (r22.1 + (1 : Int32))), some (.inl r24.1)], [], am_mk r38) _ _ _ _
                    cases h
                    exact am_Go.fg (by exact ⟨rfl, ⟨rfl, ⟨rfl, ⟨rfl, ⟨rfl, ⟨rfl, ⟨rfl, trivial⟩⟩⟩⟩⟩⟩⟩) key
            · have h := h44
              by_cases hc27 : (2 : Int32) ≤ r24.1
              · rw [if_pos hc27] at h
                refine am_Go.c1 htb (S' := (159, [some (.inr (.inr (some (10, 0)))), none, some (.inl x2), some (.inl x3), some (.inl r17.1), some (.inl r20.1), some (.inl (r22.1 + (1 : Int32))), some (.inl r24.1)], [], am_mk r24.2)) (if_pos hc27) ?_
                cases h
                exact am_Go.fg (by exact ⟨rfl, ⟨rfl, ⟨rfl, ⟨rfl, ⟨rfl, ⟨rfl, ⟨rfl, trivial⟩⟩⟩⟩⟩⟩⟩) key
              · rw [if_neg hc27] at h
                refine am_Go.c1 htb (S' := (136, [some (.inr (.inr (some (10, 0)))), none, some (.inl x2), some (.inl x3), some (.inl r17.1), some (.inl r20.1), some (.inl (r22.1 + (1 : Int32))), some (.inl r24.1)], [], am_mk r24.2)) (if_neg hc27) ?_
                refine am_Go.n htb 3 (S' := (141, [some (.inr (.inr (some (10, 0)))), none, some (.inl x2), some (.inl x3), some (.inl r17.1), some (.inl r20.1), some (.inl (r22.1 + (1 : Int32))), some (.inl r24.1)], [.inl r20.1, .inl r17.1, .inr (.inr (some (10, 0)))], am_mk r24.2)) rfl ?_
                obtain ⟨r28, h29, h⟩ := am_bd h
                refine am_Go.cl htb rfl (ex_X10_weightOf d (by omega) r17.1 r20.1 r24.2 r28 h29) ?_
                show am_Go d 293 (144, [some (.inr (.inr (some (10, 0)))), none, some (.inl x2), some (.inl x3), some (.inl r17.1), some (.inl r20.1), some (.inl (r22.1 + (1 : Int32))), some (.inl r24.1)], [.inl r28], am_mk r24.2) _ _ _ _
                refine am_Go.n htb 1 (S' := (146, [some (.inr (.inr (some (10, 0)))), none, some (.inl x2), some (.inl x3), some (.inl r17.1), some (.inl r20.1), some (.inl (r22.1 + (1 : Int32))), some (.inl r24.1)], [.inl (r22.1 + (1 : Int32)), .inl r28], am_mk r24.2)) rfl ?_
                by_cases hc30 : r28 = (r22.1 + (1 : Int32))
                · rw [if_pos hc30] at h
                  refine am_Go.c1 htb (S' := (159, [some (.inr (.inr (some (10, 0)))), none, some (.inl x2), some (.inl x3), some (.inl r17.1), some (.inl r20.1), some (.inl (r22.1 + (1 : Int32))), some (.inl r24.1)], [], am_mk r24.2)) (if_pos hc30) ?_
                  cases h
                  exact am_Go.fg (by exact ⟨rfl, ⟨rfl, ⟨rfl, ⟨rfl, ⟨rfl, ⟨rfl, ⟨rfl, trivial⟩⟩⟩⟩⟩⟩⟩) key
                · rw [if_neg hc30] at h
                  refine am_Go.c1 htb (S' := (149, [some (.inr (.inr (some (10, 0)))), none, some (.inl x2), some (.inl x3), some (.inl r17.1), some (.inl r20.1), some (.inl (r22.1 + (1 : Int32))), some (.inl r24.1)], [], am_mk r24.2)) (if_neg hc30) ?_
                  refine am_Go.n htb 4 (S' := (156, [some (.inr (.inr (some (10, 0)))), none, some (.inl x2), some (.inl x3), some (.inl r17.1), some (.inl r20.1), some (.inl (r22.1 + (1 : Int32))), some (.inl r24.1)], [.inl (r22.1 + (1 : Int32)), .inl r20.1, .inl r17.1, .inr (.inr (some (10, 0)))], am_mk r24.2)) rfl ?_
                  obtain ⟨r31, h32, h⟩ := am_bd h
                  refine am_Go.cl htb rfl (ex_X10_setHarm d (by omega) r17.1 r20.1 (r22.1 + (1 : Int32)) r24.2 r31 h32) ?_
                  show am_Go d 293 (159, [some (.inr (.inr (some (10, 0)))), none, some (.inl x2), some (.inl x3), some (.inl r17.1), some (.inl r20.1), some (.inl (r22.1 + (1 : Int32))), some (.inl r24.1)], [], am_mk r31) _ _ _ _
                  cases h
                  exact am_Go.fg (by exact ⟨rfl, ⟨rfl, ⟨rfl, ⟨rfl, ⟨rfl, ⟨rfl, ⟨rfl, trivial⟩⟩⟩⟩⟩⟩⟩) key
def lp_X10_seasons_224 : Nat → Int32 → am_m → Option (am_m)
  | 0, _, _ => none
  | n + 1, x3, m =>
  (if (108 : Int32) ≤ x3 then some m else am_ck ((4 : Int32) + x3) 5518 (am_ck x3 108 (lp_X10_seasons_224 n (x3 + 1) (am_si m 63 0 x3.toNatClampNeg (m.1 44 0 ((4 : Int32) + x3).toNatClampNeg)))))
set_option maxRecDepth 100000 in
theorem lt_X10_seasons_224 (d : Nat) (hd : 8 ≤ d + 1) {r : Option am_V} {M' : am_M} {kc ks : Nat} {n : Nat} {x3 : Int32} {m : am_m} {t : am_m} (h : lp_X10_seasons_224 n x3 m = some t) (hk : am_Go d 293 (250, [some (.inr (.inr (some (10, 0)))), none, none, none, none, none, none, none], [], am_mk t) r M' kc ks) : am_Go d 293 (224, [some (.inr (.inr (some (10, 0)))), none, none, some (.inl x3), none, none, none, none], [], am_mk m) r M' kc ks := by
  have htb : am_tab 293 = at_293 := rfl
  induction n generalizing x3 m with
  | zero => cases h
  | succ n ih =>
    unfold lp_X10_seasons_224 at h
    refine am_Go.n htb 2 (S' := (227, [some (.inr (.inr (some (10, 0)))), none, none, some (.inl x3), none, none, none, none], [.inl 108, .inl x3], am_mk m)) rfl ?_
    by_cases hc51 : (108 : Int32) ≤ x3
    · rw [if_pos hc51] at h
      refine am_Go.c1 htb (S' := (250, [some (.inr (.inr (some (10, 0)))), none, none, some (.inl x3), none, none, none, none], [], am_mk m)) (if_pos hc51) ?_
      cases h
      exact am_Go.fg (by exact ⟨rfl, trivial⟩) hk
    · rw [if_neg hc51] at h
      refine am_Go.c1 htb (S' := (230, [some (.inr (.inr (some (10, 0)))), none, none, some (.inl x3), none, none, none, none], [], am_mk m)) (if_neg hc51) ?_
      refine am_Go.n htb 8 (S' := (242, [some (.inr (.inr (some (10, 0)))), none, none, some (.inl x3), none, none, none, none], [.inl ((4 : Int32) + x3), .inr (.inr (some (44, 0))), .inl x3, .inr (.inr (some (63, 0)))], am_mk m)) rfl ?_
      obtain ⟨hg52, h⟩ := am_ck_some h
      refine am_Go.c1 htb (S' := (243, [some (.inr (.inr (some (10, 0)))), none, none, some (.inl x3), none, none, none, none], [.inl (m.1 44 0 ((4 : Int32) + x3).toNatClampNeg), .inl x3, .inr (.inr (some (63, 0)))], am_mk m)) (if_neg hg52) ?_
      obtain ⟨hg53, h⟩ := am_ck_some h
      refine am_Go.c1 htb (S' := (244, [some (.inr (.inr (some (10, 0)))), none, none, some (.inl x3), none, none, none, none], [], am_mk (am_si m 63 0 x3.toNatClampNeg (m.1 44 0 ((4 : Int32) + x3).toNatClampNeg)))) (if_neg hg53) ?_
      refine am_Go.n htb 2 (S' := (224, [some (.inr (.inr (some (10, 0)))), none, none, some (.inl (x3 + 1)), none, none, none, none], [], am_mk (am_si m 63 0 x3.toNatClampNeg (m.1 44 0 ((4 : Int32) + x3).toNatClampNeg)))) rfl ?_
      exact ih h hk
def fn_X10_seasons (a1 : Int32) (a2 : Int32) (m : am_m) : Option (Int32 × am_m) :=
  (fn_X10_in a1.toInt64 0 1000000 (am_si m 10 0 0 0)).bind fun r1 => (if r1 = 0 then (fn_X10_tell (-1) (am_si m 10 0 0 0)).bind fun r4 => some (r4.1, r4.2) else (fn_X10_in a2.toInt64 1 60 (am_si m 10 0 0 0)).bind fun r6 => (if r6 ≠ 0 then am_ck 0 5518 ((if ((am_si m 10 0 0 0).1 44 0 (0 : Int32).toNatClampNeg) ≠ 0 then (fn_X10_keepAll 16 (am_si m 10 0 0 0)).bind fun r11 => (lp_X10_seasons_65 1000000 a2 0 (am_sg r11 10 0 59 a1.toInt64)).bind fun q49 => (lp_X10_seasons_224 1000000 0 q49).bind fun q54 => am_ck 0 5518 ((fn_X10_starving  (am_si q54 10 0 61 (q54.1 44 0 (0 : Int32).toNatClampNeg))).bind fun r57 => (fn_X10_putBack 16 (am_si q54 10 0 61 (q54.1 44 0 (0 : Int32).toNatClampNeg))).bind fun r59 => (fn_X10_tell r57 r59).bind fun r61 => some (r61.1, r61.2)) else (fn_X10_tell (-3) (am_si m 10 0 0 0)).bind fun r63 => some (r63.1, r63.2))) else (fn_X10_tell (-1) (am_si m 10 0 0 0)).bind fun r65 => some (r65.1, r65.2)))
set_option maxRecDepth 100000 in
theorem ex_X10_seasons (d : Nat) (hd : 8 ≤ d) (a1 : Int32) (a2 : Int32) (m : am_m) (t : Int32 × am_m) (h : fn_X10_seasons a1 a2 m = some t) : am_Ex am_cod d 293 [.inr (.inr (some (10, 0))), .inl a1, .inl a2] (am_mk m) (some (.inl t.1)) (am_mk t.2) 0 0 := by
  obtain ⟨d, rfl⟩ : ∃ e, d = e + 1 := ⟨d - 1, by omega⟩
  have htb : am_tab 293 = at_293 := rfl
  refine ⟨Nat.le_of_ble_eq_true rfl, ?_⟩
  unfold fn_X10_seasons at h
  show am_Go d 293 (0, [some (.inr (.inr (some (10, 0)))), some (.inl a1), some (.inl a2), none, none, none, none, none], [], am_mk m) _ _ 0 0
  refine am_Go.n htb 7 (S' := (11, [some (.inr (.inr (some (10, 0)))), some (.inl a1), some (.inl a2), none, none, none, none, none], [.inr (.inl 1000000), .inr (.inl 0), .inr (.inl a1.toInt64)], am_mk (am_si m 10 0 0 0))) rfl ?_
  obtain ⟨r1, h2, h⟩ := am_bd h
  refine am_Go.cl htb rfl (ex_X10_in d (by omega) a1.toInt64 0 1000000 (am_si m 10 0 0 0) r1 h2) ?_
  show am_Go d 293 (14, [some (.inr (.inr (some (10, 0)))), some (.inl a1), some (.inl a2), none, none, none, none, none], [.inl r1], am_mk (am_si m 10 0 0 0)) _ _ _ _
  by_cases hc3 : r1 = 0
  · rw [if_pos hc3] at h
    refine am_Go.c1 htb (S' := (29, [some (.inr (.inr (some (10, 0)))), some (.inl a1), some (.inl a2), none, none, none, none, none], [], am_mk (am_si m 10 0 0 0))) (if_pos hc3) ?_
    refine am_Go.n htb 2 (S' := (31, [some (.inr (.inr (some (10, 0)))), some (.inl a1), some (.inl a2), none, none, none, none, none], [.inl (-1), .inr (.inr (some (10, 0)))], am_mk (am_si m 10 0 0 0))) rfl ?_
    obtain ⟨r4, h5, h⟩ := am_bd h
    refine am_Go.cl htb rfl (ex_X10_tell d (by omega) (-1) (am_si m 10 0 0 0) r4 h5) ?_
    show am_Go d 293 (34, [some (.inr (.inr (some (10, 0)))), some (.inl a1), some (.inl a2), none, none, none, none, none], [.inl r4.1], am_mk r4.2) _ _ _ _
    cases h
    exact am_Go.r htb rfl
  · rw [if_neg hc3] at h
    refine am_Go.c1 htb (S' := (17, [some (.inr (.inr (some (10, 0)))), some (.inl a1), some (.inl a2), none, none, none, none, none], [], am_mk (am_si m 10 0 0 0))) (if_neg hc3) ?_
    refine am_Go.n htb 4 (S' := (23, [some (.inr (.inr (some (10, 0)))), some (.inl a1), some (.inl a2), none, none, none, none, none], [.inr (.inl 60), .inr (.inl 1), .inr (.inl a2.toInt64)], am_mk (am_si m 10 0 0 0))) rfl ?_
    obtain ⟨r6, h7, h⟩ := am_bd h
    refine am_Go.cl htb rfl (ex_X10_in d (by omega) a2.toInt64 1 60 (am_si m 10 0 0 0) r6 h7) ?_
    show am_Go d 293 (26, [some (.inr (.inr (some (10, 0)))), some (.inl a1), some (.inl a2), none, none, none, none, none], [.inl r6], am_mk (am_si m 10 0 0 0)) _ _ _ _
    by_cases hc8 : r6 ≠ 0
    · rw [if_pos hc8] at h
      refine am_Go.c1 htb (S' := (35, [some (.inr (.inr (some (10, 0)))), some (.inl a1), some (.inl a2), none, none, none, none, none], [], am_mk (am_si m 10 0 0 0))) (if_pos hc8) ?_
      refine am_Go.n htb 3 (S' := (40, [some (.inr (.inr (some (10, 0)))), some (.inl a1), some (.inl a2), none, none, none, none, none], [.inl 0, .inr (.inr (some (44, 0)))], am_mk (am_si m 10 0 0 0))) rfl ?_
      obtain ⟨hg9, h⟩ := am_ck_some h
      refine am_Go.c1 htb (S' := (41, [some (.inr (.inr (some (10, 0)))), some (.inl a1), some (.inl a2), none, none, none, none, none], [.inl ((am_si m 10 0 0 0).1 44 0 (0 : Int32).toNatClampNeg)], am_mk (am_si m 10 0 0 0))) (if_neg hg9) ?_
      by_cases hc10 : ((am_si m 10 0 0 0).1 44 0 (0 : Int32).toNatClampNeg) ≠ 0
      · rw [if_pos hc10] at h
        refine am_Go.c1 htb (S' := (51, [some (.inr (.inr (some (10, 0)))), some (.inl a1), some (.inl a2), none, none, none, none, none], [], am_mk (am_si m 10 0 0 0))) (if_pos hc10) ?_
        refine am_Go.n htb 2 (S' := (54, [some (.inr (.inr (some (10, 0)))), some (.inl a1), some (.inl a2), none, none, none, none, none], [.inl 16, .inr (.inr (some (10, 0)))], am_mk (am_si m 10 0 0 0))) rfl ?_
        obtain ⟨r11, h12, h⟩ := am_bd h
        refine am_Go.cl htb rfl (ex_X10_keepAll d (by omega) 16 (am_si m 10 0 0 0) r11 h12) ?_
        show am_Go d 293 (57, [some (.inr (.inr (some (10, 0)))), some (.inl a1), some (.inl a2), none, none, none, none, none], [], am_mk r11) _ _ _ _
        refine am_Go.n htb 6 (S' := (65, [some (.inr (.inr (some (10, 0)))), some (.inl a1), some (.inl a2), some (.inl 0), none, none, none, none], [], am_mk (am_sg r11 10 0 59 a1.toInt64))) rfl ?_
        refine am_Go.fg (L0 := [some (.inr (.inr (some (10, 0)))), none, some (.inl a2), some (.inl 0), none, none, none, none]) (by exact ⟨rfl, ⟨rfl, ⟨rfl, trivial⟩⟩⟩) ?_
        obtain ⟨q49, h50, h⟩ := am_bd h
        refine lt_X10_seasons_65 _ hd (h := h50) (hk := ?_)
        refine am_Go.n htb 2 (S' := (224, [some (.inr (.inr (some (10, 0)))), none, some (.inl a2), some (.inl 0), none, none, none, none], [], am_mk q49)) rfl ?_
        refine am_Go.fg (L0 := [some (.inr (.inr (some (10, 0)))), none, none, some (.inl 0), none, none, none, none]) (by exact ⟨rfl, ⟨rfl, trivial⟩⟩) ?_
        obtain ⟨q54, h55, h⟩ := am_bd h
        refine lt_X10_seasons_224 _ hd (h := h55) (hk := ?_)
        refine am_Go.n htb 4 (S' := (256, [some (.inr (.inr (some (10, 0)))), none, none, none, none, none, none, none], [.inl 0, .inr (.inr (some (44, 0))), .inr (.inr (some (10, 0)))], am_mk q54)) rfl ?_
        obtain ⟨hg56, h⟩ := am_ck_some h
        refine am_Go.c1 htb (S' := (257, [some (.inr (.inr (some (10, 0)))), none, none, none, none, none, none, none], [.inl (q54.1 44 0 (0 : Int32).toNatClampNeg), .inr (.inr (some (10, 0)))], am_mk q54)) (if_neg hg56) ?_
        refine am_Go.n htb 2 (S' := (261, [some (.inr (.inr (some (10, 0)))), none, none, none, none, none, none, none], [.inr (.inr (some (10, 0)))], am_mk (am_si q54 10 0 61 (q54.1 44 0 (0 : Int32).toNatClampNeg)))) rfl ?_
        obtain ⟨r57, h58, h⟩ := am_bd h
        refine am_Go.cl htb rfl (ex_X10_starving d (by omega)  (am_si q54 10 0 61 (q54.1 44 0 (0 : Int32).toNatClampNeg)) r57 h58) ?_
        show am_Go d 293 (264, [some (.inr (.inr (some (10, 0)))), none, none, none, none, none, none, none], [.inl r57], am_mk (am_si q54 10 0 61 (q54.1 44 0 (0 : Int32).toNatClampNeg))) _ _ _ _
        refine am_Go.n htb 3 (S' := (268, [some (.inr (.inr (some (10, 0)))), none, none, some (.inl r57), none, none, none, none], [.inl 16, .inr (.inr (some (10, 0)))], am_mk (am_si q54 10 0 61 (q54.1 44 0 (0 : Int32).toNatClampNeg)))) rfl ?_
        obtain ⟨r59, h60, h⟩ := am_bd h
        refine am_Go.cl htb rfl (ex_X10_putBack d (by omega) 16 (am_si q54 10 0 61 (q54.1 44 0 (0 : Int32).toNatClampNeg)) r59 h60) ?_
        show am_Go d 293 (271, [some (.inr (.inr (some (10, 0)))), none, none, some (.inl r57), none, none, none, none], [], am_mk r59) _ _ _ _
        refine am_Go.n htb 2 (S' := (273, [some (.inr (.inr (some (10, 0)))), none, none, some (.inl r57), none, none, none, none], [.inl r57, .inr (.inr (some (10, 0)))], am_mk r59)) rfl ?_
        obtain ⟨r61, h62, h⟩ := am_bd h
        refine am_Go.cl htb rfl (ex_X10_tell d (by omega) r57 r59 r61 h62) ?_
        show am_Go d 293 (276, [some (.inr (.inr (some (10, 0)))), none, none, some (.inl r57), none, none, none, none], [.inl r61.1], am_mk r61.2) _ _ _ _
        cases h
        exact am_Go.r htb rfl
      · rw [if_neg hc10] at h
        refine am_Go.c1 htb (S' := (44, [some (.inr (.inr (some (10, 0)))), some (.inl a1), some (.inl a2), none, none, none, none, none], [], am_mk (am_si m 10 0 0 0))) (if_neg hc10) ?_
        refine am_Go.n htb 2 (S' := (47, [some (.inr (.inr (some (10, 0)))), some (.inl a1), some (.inl a2), none, none, none, none, none], [.inl (-3), .inr (.inr (some (10, 0)))], am_mk (am_si m 10 0 0 0))) rfl ?_
        obtain ⟨r63, h64, h⟩ := am_bd h
        refine am_Go.cl htb rfl (ex_X10_tell d (by omega) (-3) (am_si m 10 0 0 0) r63 h64) ?_
        show am_Go d 293 (50, [some (.inr (.inr (some (10, 0)))), some (.inl a1), some (.inl a2), none, none, none, none, none], [.inl r63.1], am_mk r63.2) _ _ _ _
        cases h
        exact am_Go.r htb rfl
    · rw [if_neg hc8] at h
      refine am_Go.c1 htb (S' := (29, [some (.inr (.inr (some (10, 0)))), some (.inl a1), some (.inl a2), none, none, none, none, none], [], am_mk (am_si m 10 0 0 0))) (if_neg hc8) ?_
      refine am_Go.n htb 2 (S' := (31, [some (.inr (.inr (some (10, 0)))), some (.inl a1), some (.inl a2), none, none, none, none, none], [.inl (-1), .inr (.inr (some (10, 0)))], am_mk (am_si m 10 0 0 0))) rfl ?_
      obtain ⟨r65, h66, h⟩ := am_bd h
      refine am_Go.cl htb rfl (ex_X10_tell d (by omega) (-1) (am_si m 10 0 0 0) r65 h66) ?_
      show am_Go d 293 (34, [some (.inr (.inr (some (10, 0)))), some (.inl a1), some (.inl a2), none, none, none, none, none], [.inl r65.1], am_mk r65.2) _ _ _ _
      cases h
      exact am_Go.r htb rfl
-- X10_drawn
def fn_X10_drawn (a1 : Int32) (a2 : Int32) (m : am_m) : Option (Int32 × am_m) :=
  (fn_X10_in a1.toInt64 0 ((((am_si m 10 0 0 0).1 10 0 61).toInt64) - (1 : Int64)) (am_si m 10 0 0 0)).bind fun r1 => (if r1 = 0 then some ((-1), am_si m 10 0 0 0) else (if a2 = (-1 : Int32) then (if a1 ≠ a2 then (if a2 ≠ (-1 : Int32) then am_ck (((10 : Int32) + ((7 : Int32) * a1)) + a2) 108 (some (((am_si m 10 0 0 0).1 63 0 (((10 : Int32) + ((7 : Int32) * a1)) + a2).toNatClampNeg), am_si m 10 0 0 0)) else am_ck ((3 : Int32) + a1) 108 (some (((am_si m 10 0 0 0).1 63 0 ((3 : Int32) + a1).toNatClampNeg), am_si m 10 0 0 0))) else some ((-1), am_si m 10 0 0 0)) else (fn_X10_in a2.toInt64 0 ((((am_si m 10 0 0 0).1 10 0 61).toInt64) - (1 : Int64)) (am_si m 10 0 0 0)).bind fun r9 => (if r9 = 0 then some ((-1), am_si m 10 0 0 0) else (if a1 ≠ a2 then (if a2 ≠ (-1 : Int32) then am_ck (((10 : Int32) + ((7 : Int32) * a1)) + a2) 108 (some (((am_si m 10 0 0 0).1 63 0 (((10 : Int32) + ((7 : Int32) * a1)) + a2).toNatClampNeg), am_si m 10 0 0 0)) else am_ck ((3 : Int32) + a1) 108 (some (((am_si m 10 0 0 0).1 63 0 ((3 : Int32) + a1).toNatClampNeg), am_si m 10 0 0 0))) else some ((-1), am_si m 10 0 0 0)))))
set_option maxRecDepth 100000 in
theorem ex_X10_drawn (d : Nat) (hd : 2 ≤ d) (a1 : Int32) (a2 : Int32) (m : am_m) (t : Int32 × am_m) (h : fn_X10_drawn a1 a2 m = some t) : am_Ex am_cod d 294 [.inr (.inr (some (10, 0))), .inl a1, .inl a2] (am_mk m) (some (.inl t.1)) (am_mk t.2) 0 0 := by
  obtain ⟨d, rfl⟩ : ∃ e, d = e + 1 := ⟨d - 1, by omega⟩
  have htb : am_tab 294 = at_294 := rfl
  refine ⟨Nat.le_of_ble_eq_true rfl, ?_⟩
  unfold fn_X10_drawn at h
  show am_Go d 294 (0, [some (.inr (.inr (some (10, 0)))), some (.inl a1), some (.inl a2)], [], am_mk m) _ _ 0 0
  refine am_Go.n htb 11 (S' := (15, [some (.inr (.inr (some (10, 0)))), some (.inl a1), some (.inl a2)], [.inr (.inl ((((am_si m 10 0 0 0).1 10 0 61).toInt64) - (1 : Int64))), .inr (.inl 0), .inr (.inl a1.toInt64)], am_mk (am_si m 10 0 0 0))) rfl ?_
  obtain ⟨r1, h2, h⟩ := am_bd h
  refine am_Go.cl htb rfl (ex_X10_in d (by omega) a1.toInt64 0 ((((am_si m 10 0 0 0).1 10 0 61).toInt64) - (1 : Int64)) (am_si m 10 0 0 0) r1 h2) ?_
  show am_Go d 294 (18, [some (.inr (.inr (some (10, 0)))), some (.inl a1), some (.inl a2)], [.inl r1], am_mk (am_si m 10 0 0 0)) _ _ _ _
  by_cases hc3 : r1 = 0
  · rw [if_pos hc3] at h
    refine am_Go.c1 htb (S' := (47, [some (.inr (.inr (some (10, 0)))), some (.inl a1), some (.inl a2)], [], am_mk (am_si m 10 0 0 0))) (if_pos hc3) ?_
    refine am_Go.n htb 1 (S' := (48, [some (.inr (.inr (some (10, 0)))), some (.inl a1), some (.inl a2)], [.inl (-1)], am_mk (am_si m 10 0 0 0))) rfl ?_
    cases h
    exact am_Go.r htb rfl
  · rw [if_neg hc3] at h
    refine am_Go.c1 htb (S' := (21, [some (.inr (.inr (some (10, 0)))), some (.inl a1), some (.inl a2)], [], am_mk (am_si m 10 0 0 0))) (if_neg hc3) ?_
    refine am_Go.n htb 2 (S' := (23, [some (.inr (.inr (some (10, 0)))), some (.inl a1), some (.inl a2)], [.inl (-1), .inl a2], am_mk (am_si m 10 0 0 0))) rfl ?_
    by_cases hc4 : a2 = (-1 : Int32)
    · rw [if_pos hc4] at h
      refine am_Go.c1 htb (S' := (42, [some (.inr (.inr (some (10, 0)))), some (.inl a1), some (.inl a2)], [], am_mk (am_si m 10 0 0 0))) (if_pos hc4) ?_
      refine am_Go.n htb 2 (S' := (44, [some (.inr (.inr (some (10, 0)))), some (.inl a1), some (.inl a2)], [.inl a2, .inl a1], am_mk (am_si m 10 0 0 0))) rfl ?_
      by_cases hc5 : a1 ≠ a2
      · rw [if_pos hc5] at h
        refine am_Go.c1 htb (S' := (49, [some (.inr (.inr (some (10, 0)))), some (.inl a1), some (.inl a2)], [], am_mk (am_si m 10 0 0 0))) (if_pos hc5) ?_
        refine am_Go.n htb 2 (S' := (51, [some (.inr (.inr (some (10, 0)))), some (.inl a1), some (.inl a2)], [.inl (-1), .inl a2], am_mk (am_si m 10 0 0 0))) rfl ?_
        by_cases hc6 : a2 ≠ (-1 : Int32)
        · rw [if_pos hc6] at h
          refine am_Go.c1 htb (S' := (65, [some (.inr (.inr (some (10, 0)))), some (.inl a1), some (.inl a2)], [], am_mk (am_si m 10 0 0 0))) (if_pos hc6) ?_
          refine am_Go.n htb 9 (S' := (78, [some (.inr (.inr (some (10, 0)))), some (.inl a1), some (.inl a2)], [.inl (((10 : Int32) + ((7 : Int32) * a1)) + a2), .inr (.inr (some (63, 0)))], am_mk (am_si m 10 0 0 0))) rfl ?_
          obtain ⟨hg7, h⟩ := am_ck_some h
          refine am_Go.c1 htb (S' := (79, [some (.inr (.inr (some (10, 0)))), some (.inl a1), some (.inl a2)], [.inl ((am_si m 10 0 0 0).1 63 0 (((10 : Int32) + ((7 : Int32) * a1)) + a2).toNatClampNeg)], am_mk (am_si m 10 0 0 0))) (if_neg hg7) ?_
          cases h
          exact am_Go.r htb rfl
        · rw [if_neg hc6] at h
          refine am_Go.c1 htb (S' := (54, [some (.inr (.inr (some (10, 0)))), some (.inl a1), some (.inl a2)], [], am_mk (am_si m 10 0 0 0))) (if_neg hc6) ?_
          refine am_Go.n htb 5 (S' := (61, [some (.inr (.inr (some (10, 0)))), some (.inl a1), some (.inl a2)], [.inl ((3 : Int32) + a1), .inr (.inr (some (63, 0)))], am_mk (am_si m 10 0 0 0))) rfl ?_
          obtain ⟨hg8, h⟩ := am_ck_some h
          refine am_Go.c1 htb (S' := (62, [some (.inr (.inr (some (10, 0)))), some (.inl a1), some (.inl a2)], [.inl ((am_si m 10 0 0 0).1 63 0 ((3 : Int32) + a1).toNatClampNeg)], am_mk (am_si m 10 0 0 0))) (if_neg hg8) ?_
          refine am_Go.n htb 1 (S' := (79, [some (.inr (.inr (some (10, 0)))), some (.inl a1), some (.inl a2)], [.inl ((am_si m 10 0 0 0).1 63 0 ((3 : Int32) + a1).toNatClampNeg)], am_mk (am_si m 10 0 0 0))) rfl ?_
          cases h
          exact am_Go.r htb rfl
      · rw [if_neg hc5] at h
        refine am_Go.c1 htb (S' := (47, [some (.inr (.inr (some (10, 0)))), some (.inl a1), some (.inl a2)], [], am_mk (am_si m 10 0 0 0))) (if_neg hc5) ?_
        refine am_Go.n htb 1 (S' := (48, [some (.inr (.inr (some (10, 0)))), some (.inl a1), some (.inl a2)], [.inl (-1)], am_mk (am_si m 10 0 0 0))) rfl ?_
        cases h
        exact am_Go.r htb rfl
    · rw [if_neg hc4] at h
      refine am_Go.c1 htb (S' := (26, [some (.inr (.inr (some (10, 0)))), some (.inl a1), some (.inl a2)], [], am_mk (am_si m 10 0 0 0))) (if_neg hc4) ?_
      refine am_Go.n htb 8 (S' := (36, [some (.inr (.inr (some (10, 0)))), some (.inl a1), some (.inl a2)], [.inr (.inl ((((am_si m 10 0 0 0).1 10 0 61).toInt64) - (1 : Int64))), .inr (.inl 0), .inr (.inl a2.toInt64)], am_mk (am_si m 10 0 0 0))) rfl ?_
      obtain ⟨r9, h10, h⟩ := am_bd h
      refine am_Go.cl htb rfl (ex_X10_in d (by omega) a2.toInt64 0 ((((am_si m 10 0 0 0).1 10 0 61).toInt64) - (1 : Int64)) (am_si m 10 0 0 0) r9 h10) ?_
      show am_Go d 294 (39, [some (.inr (.inr (some (10, 0)))), some (.inl a1), some (.inl a2)], [.inl r9], am_mk (am_si m 10 0 0 0)) _ _ _ _
      by_cases hc11 : r9 = 0
      · rw [if_pos hc11] at h
        refine am_Go.c1 htb (S' := (47, [some (.inr (.inr (some (10, 0)))), some (.inl a1), some (.inl a2)], [], am_mk (am_si m 10 0 0 0))) (if_pos hc11) ?_
        refine am_Go.n htb 1 (S' := (48, [some (.inr (.inr (some (10, 0)))), some (.inl a1), some (.inl a2)], [.inl (-1)], am_mk (am_si m 10 0 0 0))) rfl ?_
        cases h
        exact am_Go.r htb rfl
      · rw [if_neg hc11] at h
        refine am_Go.c1 htb (S' := (42, [some (.inr (.inr (some (10, 0)))), some (.inl a1), some (.inl a2)], [], am_mk (am_si m 10 0 0 0))) (if_neg hc11) ?_
        refine am_Go.n htb 2 (S' := (44, [some (.inr (.inr (some (10, 0)))), some (.inl a1), some (.inl a2)], [.inl a2, .inl a1], am_mk (am_si m 10 0 0 0))) rfl ?_
        by_cases hc12 : a1 ≠ a2
        · rw [if_pos hc12] at h
          refine am_Go.c1 htb (S' := (49, [some (.inr (.inr (some (10, 0)))), some (.inl a1), some (.inl a2)], [], am_mk (am_si m 10 0 0 0))) (if_pos hc12) ?_
          refine am_Go.n htb 2 (S' := (51, [some (.inr (.inr (some (10, 0)))), some (.inl a1), some (.inl a2)], [.inl (-1), .inl a2], am_mk (am_si m 10 0 0 0))) rfl ?_
          by_cases hc13 : a2 ≠ (-1 : Int32)
          · rw [if_pos hc13] at h
            refine am_Go.c1 htb (S' := (65, [some (.inr (.inr (some (10, 0)))), some (.inl a1), some (.inl a2)], [], am_mk (am_si m 10 0 0 0))) (if_pos hc13) ?_
            refine am_Go.n htb 9 (S' := (78, [some (.inr (.inr (some (10, 0)))), some (.inl a1), some (.inl a2)], [.inl (((10 : Int32) + ((7 : Int32) * a1)) + a2), .inr (.inr (some (63, 0)))], am_mk (am_si m 10 0 0 0))) rfl ?_
            obtain ⟨hg14, h⟩ := am_ck_some h
            refine am_Go.c1 htb (S' := (79, [some (.inr (.inr (some (10, 0)))), some (.inl a1), some (.inl a2)], [.inl ((am_si m 10 0 0 0).1 63 0 (((10 : Int32) + ((7 : Int32) * a1)) + a2).toNatClampNeg)], am_mk (am_si m 10 0 0 0))) (if_neg hg14) ?_
            cases h
            exact am_Go.r htb rfl
          · rw [if_neg hc13] at h
            refine am_Go.c1 htb (S' := (54, [some (.inr (.inr (some (10, 0)))), some (.inl a1), some (.inl a2)], [], am_mk (am_si m 10 0 0 0))) (if_neg hc13) ?_
            refine am_Go.n htb 5 (S' := (61, [some (.inr (.inr (some (10, 0)))), some (.inl a1), some (.inl a2)], [.inl ((3 : Int32) + a1), .inr (.inr (some (63, 0)))], am_mk (am_si m 10 0 0 0))) rfl ?_
            obtain ⟨hg15, h⟩ := am_ck_some h
            refine am_Go.c1 htb (S' := (62, [some (.inr (.inr (some (10, 0)))), some (.inl a1), some (.inl a2)], [.inl ((am_si m 10 0 0 0).1 63 0 ((3 : Int32) + a1).toNatClampNeg)], am_mk (am_si m 10 0 0 0))) (if_neg hg15) ?_
            refine am_Go.n htb 1 (S' := (79, [some (.inr (.inr (some (10, 0)))), some (.inl a1), some (.inl a2)], [.inl ((am_si m 10 0 0 0).1 63 0 ((3 : Int32) + a1).toNatClampNeg)], am_mk (am_si m 10 0 0 0))) rfl ?_
            cases h
            exact am_Go.r htb rfl
        · rw [if_neg hc12] at h
          refine am_Go.c1 htb (S' := (47, [some (.inr (.inr (some (10, 0)))), some (.inl a1), some (.inl a2)], [], am_mk (am_si m 10 0 0 0))) (if_neg hc12) ?_
          refine am_Go.n htb 1 (S' := (48, [some (.inr (.inr (some (10, 0)))), some (.inl a1), some (.inl a2)], [.inl (-1)], am_mk (am_si m 10 0 0 0))) rfl ?_
          cases h
          exact am_Go.r htb rfl
-- X10_count
def fn_X10_count (a1 : Int32) (m : am_m) : Option (Int32 × am_m) :=
  (if a1 = 0 then am_ck 0 5518 (some (((am_si m 10 0 0 0).1 44 0 (0 : Int32).toNatClampNeg), am_si m 10 0 0 0)) else (if a1 = 1 then (fn_X10_harmsOf  (am_si m 10 0 0 0)).bind fun r4 => some (r4, am_si m 10 0 0 0) else (if a1 = 2 then (fn_X10_starving  (am_si m 10 0 0 0)).bind fun r7 => some (r7, am_si m 10 0 0 0) else (if a1 = 3 then am_ck 1 5518 (some (((am_si m 10 0 0 0).1 44 0 (1 : Int32).toNatClampNeg), am_si m 10 0 0 0)) else (if a1 = 4 then am_ck 2 5518 (some (((am_si m 10 0 0 0).1 44 0 (2 : Int32).toNatClampNeg), am_si m 10 0 0 0)) else (if a1 = 5 then some (((am_si m 10 0 0 0).1 10 0 8), am_si m 10 0 0 0) else (if a1 = 6 then some (((am_si m 10 0 0 0).1 10 0 13), am_si m 10 0 0 0) else (if a1 = 7 then am_ck 1 7 (some (((am_si m 10 0 0 0).1 43 0 (1 : Int32).toNatClampNeg), am_si m 10 0 0 0)) else (if a1 = 8 then am_ck 2 7 (some (((am_si m 10 0 0 0).1 43 0 (2 : Int32).toNatClampNeg), am_si m 10 0 0 0)) else (if a1 = 9 then am_ck 3 7 (some (((am_si m 10 0 0 0).1 43 0 (3 : Int32).toNatClampNeg), am_si m 10 0 0 0)) else (if a1 = 10 then am_ck 5 7 (some (((am_si m 10 0 0 0).1 43 0 (5 : Int32).toNatClampNeg), am_si m 10 0 0 0)) else (if a1 = 11 then am_ck 6 7 (some (((am_si m 10 0 0 0).1 43 0 (6 : Int32).toNatClampNeg), am_si m 10 0 0 0)) else (if a1 = 12 then am_ck 3 5518 (some (((am_si m 10 0 0 0).1 44 0 (3 : Int32).toNatClampNeg), am_si m 10 0 0 0)) else (fn_X10_in a1.toInt64 13 15 (am_si m 10 0 0 0)).bind fun r27 => (if r27 = 0 then some ((-1), am_si m 10 0 0 0) else am_ck (((4 : Int32) + a1) - (13 : Int32)) 5518 (some (((am_si m 10 0 0 0).1 44 0 (((4 : Int32) + a1) - (13 : Int32)).toNatClampNeg), am_si m 10 0 0 0))))))))))))))))
set_option maxRecDepth 100000 in
theorem ex_X10_count (d : Nat) (hd : 2 ≤ d) (a1 : Int32) (m : am_m) (t : Int32 × am_m) (h : fn_X10_count a1 m = some t) : am_Ex am_cod d 295 [.inr (.inr (some (10, 0))), .inl a1] (am_mk m) (some (.inl t.1)) (am_mk t.2) 0 0 := by
  obtain ⟨d, rfl⟩ : ∃ e, d = e + 1 := ⟨d - 1, by omega⟩
  have htb : am_tab 295 = at_295 := rfl
  refine ⟨Nat.le_of_ble_eq_true rfl, ?_⟩
  unfold fn_X10_count at h
  show am_Go d 295 (0, [some (.inr (.inr (some (10, 0)))), some (.inl a1)], [], am_mk m) _ _ 0 0
  refine am_Go.n htb 4 (S' := (6, [some (.inr (.inr (some (10, 0)))), some (.inl a1)], [.inl a1], am_mk (am_si m 10 0 0 0))) rfl ?_
  by_cases hs1 : a1 = 0
  · rw [if_pos hs1] at h
    refine am_Go.c1 htb (S' := (72, [some (.inr (.inr (some (10, 0)))), some (.inl a1)], [], am_mk (am_si m 10 0 0 0))) (am_sw_eq (by simp only [am_sw, if_pos hs1])) ?_
    refine am_Go.n htb 3 (S' := (77, [some (.inr (.inr (some (10, 0)))), some (.inl a1)], [.inl 0, .inr (.inr (some (44, 0)))], am_mk (am_si m 10 0 0 0))) rfl ?_
    obtain ⟨hg2, h⟩ := am_ck_some h
    refine am_Go.c1 htb (S' := (78, [some (.inr (.inr (some (10, 0)))), some (.inl a1)], [.inl ((am_si m 10 0 0 0).1 44 0 (0 : Int32).toNatClampNeg)], am_mk (am_si m 10 0 0 0))) (if_neg hg2) ?_
    cases h
    exact am_Go.r htb rfl
  · rw [if_neg hs1] at h
    by_cases hs3 : a1 = 1
    · rw [if_pos hs3] at h
      refine am_Go.c1 htb (S' := (79, [some (.inr (.inr (some (10, 0)))), some (.inl a1)], [], am_mk (am_si m 10 0 0 0))) (am_sw_eq (by simp only [am_sw, if_neg hs1, if_pos hs3])) ?_
      refine am_Go.n htb 1 (S' := (80, [some (.inr (.inr (some (10, 0)))), some (.inl a1)], [.inr (.inr (some (10, 0)))], am_mk (am_si m 10 0 0 0))) rfl ?_
      obtain ⟨r4, h5, h⟩ := am_bd h
      refine am_Go.cl htb rfl (ex_X10_harmsOf d (by omega)  (am_si m 10 0 0 0) r4 h5) ?_
      show am_Go d 295 (83, [some (.inr (.inr (some (10, 0)))), some (.inl a1)], [.inl r4], am_mk (am_si m 10 0 0 0)) _ _ _ _
      cases h
      exact am_Go.r htb rfl
    · rw [if_neg hs3] at h
      by_cases hs6 : a1 = 2
      · rw [if_pos hs6] at h
        refine am_Go.c1 htb (S' := (84, [some (.inr (.inr (some (10, 0)))), some (.inl a1)], [], am_mk (am_si m 10 0 0 0))) (am_sw_eq (by simp only [am_sw, if_neg hs1, if_neg hs3, if_pos hs6])) ?_
        refine am_Go.n htb 1 (S' := (85, [some (.inr (.inr (some (10, 0)))), some (.inl a1)], [.inr (.inr (some (10, 0)))], am_mk (am_si m 10 0 0 0))) rfl ?_
        obtain ⟨r7, h8, h⟩ := am_bd h
        refine am_Go.cl htb rfl (ex_X10_starving d (by omega)  (am_si m 10 0 0 0) r7 h8) ?_
        show am_Go d 295 (88, [some (.inr (.inr (some (10, 0)))), some (.inl a1)], [.inl r7], am_mk (am_si m 10 0 0 0)) _ _ _ _
        cases h
        exact am_Go.r htb rfl
      · rw [if_neg hs6] at h
        by_cases hs9 : a1 = 3
        · rw [if_pos hs9] at h
          refine am_Go.c1 htb (S' := (89, [some (.inr (.inr (some (10, 0)))), some (.inl a1)], [], am_mk (am_si m 10 0 0 0))) (am_sw_eq (by simp only [am_sw, if_neg hs1, if_neg hs3, if_neg hs6, if_pos hs9])) ?_
          refine am_Go.n htb 3 (S' := (94, [some (.inr (.inr (some (10, 0)))), some (.inl a1)], [.inl 1, .inr (.inr (some (44, 0)))], am_mk (am_si m 10 0 0 0))) rfl ?_
          obtain ⟨hg10, h⟩ := am_ck_some h
          refine am_Go.c1 htb (S' := (95, [some (.inr (.inr (some (10, 0)))), some (.inl a1)], [.inl ((am_si m 10 0 0 0).1 44 0 (1 : Int32).toNatClampNeg)], am_mk (am_si m 10 0 0 0))) (if_neg hg10) ?_
          cases h
          exact am_Go.r htb rfl
        · rw [if_neg hs9] at h
          by_cases hs11 : a1 = 4
          · rw [if_pos hs11] at h
            refine am_Go.c1 htb (S' := (96, [some (.inr (.inr (some (10, 0)))), some (.inl a1)], [], am_mk (am_si m 10 0 0 0))) (am_sw_eq (by simp only [am_sw, if_neg hs1, if_neg hs3, if_neg hs6, if_neg hs9, if_pos hs11])) ?_
            refine am_Go.n htb 3 (S' := (101, [some (.inr (.inr (some (10, 0)))), some (.inl a1)], [.inl 2, .inr (.inr (some (44, 0)))], am_mk (am_si m 10 0 0 0))) rfl ?_
            obtain ⟨hg12, h⟩ := am_ck_some h
            refine am_Go.c1 htb (S' := (102, [some (.inr (.inr (some (10, 0)))), some (.inl a1)], [.inl ((am_si m 10 0 0 0).1 44 0 (2 : Int32).toNatClampNeg)], am_mk (am_si m 10 0 0 0))) (if_neg hg12) ?_
            cases h
            exact am_Go.r htb rfl
          · rw [if_neg hs11] at h
            by_cases hs13 : a1 = 5
            · rw [if_pos hs13] at h
              refine am_Go.c1 htb (S' := (103, [some (.inr (.inr (some (10, 0)))), some (.inl a1)], [], am_mk (am_si m 10 0 0 0))) (am_sw_eq (by simp only [am_sw, if_neg hs1, if_neg hs3, if_neg hs6, if_neg hs9, if_neg hs11, if_pos hs13])) ?_
              refine am_Go.n htb 2 (S' := (107, [some (.inr (.inr (some (10, 0)))), some (.inl a1)], [.inl ((am_si m 10 0 0 0).1 10 0 8)], am_mk (am_si m 10 0 0 0))) rfl ?_
              cases h
              exact am_Go.r htb rfl
            · rw [if_neg hs13] at h
              by_cases hs14 : a1 = 6
              · rw [if_pos hs14] at h
                refine am_Go.c1 htb (S' := (108, [some (.inr (.inr (some (10, 0)))), some (.inl a1)], [], am_mk (am_si m 10 0 0 0))) (am_sw_eq (by simp only [am_sw, if_neg hs1, if_neg hs3, if_neg hs6, if_neg hs9, if_neg hs11, if_neg hs13, if_pos hs14])) ?_
                refine am_Go.n htb 2 (S' := (112, [some (.inr (.inr (some (10, 0)))), some (.inl a1)], [.inl ((am_si m 10 0 0 0).1 10 0 13)], am_mk (am_si m 10 0 0 0))) rfl ?_
                cases h
                exact am_Go.r htb rfl
              · rw [if_neg hs14] at h
                by_cases hs15 : a1 = 7
                · rw [if_pos hs15] at h
                  refine am_Go.c1 htb (S' := (113, [some (.inr (.inr (some (10, 0)))), some (.inl a1)], [], am_mk (am_si m 10 0 0 0))) (am_sw_eq (by simp only [am_sw, if_neg hs1, if_neg hs3, if_neg hs6, if_neg hs9, if_neg hs11, if_neg hs13, if_neg hs14, if_pos hs15])) ?_
                  refine am_Go.n htb 3 (S' := (118, [some (.inr (.inr (some (10, 0)))), some (.inl a1)], [.inl 1, .inr (.inr (some (43, 0)))], am_mk (am_si m 10 0 0 0))) rfl ?_
                  obtain ⟨hg16, h⟩ := am_ck_some h
                  refine am_Go.c1 htb (S' := (119, [some (.inr (.inr (some (10, 0)))), some (.inl a1)], [.inl ((am_si m 10 0 0 0).1 43 0 (1 : Int32).toNatClampNeg)], am_mk (am_si m 10 0 0 0))) (if_neg hg16) ?_
                  cases h
                  exact am_Go.r htb rfl
                · rw [if_neg hs15] at h
                  by_cases hs17 : a1 = 8
                  · rw [if_pos hs17] at h
                    refine am_Go.c1 htb (S' := (120, [some (.inr (.inr (some (10, 0)))), some (.inl a1)], [], am_mk (am_si m 10 0 0 0))) (am_sw_eq (by simp only [am_sw, if_neg hs1, if_neg hs3, if_neg hs6, if_neg hs9, if_neg hs11, if_neg hs13, if_neg hs14, if_neg hs15, if_pos hs17])) ?_
                    refine am_Go.n htb 3 (S' := (125, [some (.inr (.inr (some (10, 0)))), some (.inl a1)], [.inl 2, .inr (.inr (some (43, 0)))], am_mk (am_si m 10 0 0 0))) rfl ?_
                    obtain ⟨hg18, h⟩ := am_ck_some h
                    refine am_Go.c1 htb (S' := (126, [some (.inr (.inr (some (10, 0)))), some (.inl a1)], [.inl ((am_si m 10 0 0 0).1 43 0 (2 : Int32).toNatClampNeg)], am_mk (am_si m 10 0 0 0))) (if_neg hg18) ?_
                    cases h
                    exact am_Go.r htb rfl
                  · rw [if_neg hs17] at h
                    by_cases hs19 : a1 = 9
                    · rw [if_pos hs19] at h
                      refine am_Go.c1 htb (S' := (127, [some (.inr (.inr (some (10, 0)))), some (.inl a1)], [], am_mk (am_si m 10 0 0 0))) (am_sw_eq (by simp only [am_sw, if_neg hs1, if_neg hs3, if_neg hs6, if_neg hs9, if_neg hs11, if_neg hs13, if_neg hs14, if_neg hs15, if_neg hs17, if_pos hs19])) ?_
                      refine am_Go.n htb 3 (S' := (132, [some (.inr (.inr (some (10, 0)))), some (.inl a1)], [.inl 3, .inr (.inr (some (43, 0)))], am_mk (am_si m 10 0 0 0))) rfl ?_
                      obtain ⟨hg20, h⟩ := am_ck_some h
                      refine am_Go.c1 htb (S' := (133, [some (.inr (.inr (some (10, 0)))), some (.inl a1)], [.inl ((am_si m 10 0 0 0).1 43 0 (3 : Int32).toNatClampNeg)], am_mk (am_si m 10 0 0 0))) (if_neg hg20) ?_
                      cases h
                      exact am_Go.r htb rfl
                    · rw [if_neg hs19] at h
                      by_cases hs21 : a1 = 10
                      · rw [if_pos hs21] at h
                        refine am_Go.c1 htb (S' := (134, [some (.inr (.inr (some (10, 0)))), some (.inl a1)], [], am_mk (am_si m 10 0 0 0))) (am_sw_eq (by simp only [am_sw, if_neg hs1, if_neg hs3, if_neg hs6, if_neg hs9, if_neg hs11, if_neg hs13, if_neg hs14, if_neg hs15, if_neg hs17, if_neg hs19, if_pos hs21])) ?_
                        refine am_Go.n htb 3 (S' := (139, [some (.inr (.inr (some (10, 0)))), some (.inl a1)], [.inl 5, .inr (.inr (some (43, 0)))], am_mk (am_si m 10 0 0 0))) rfl ?_
                        obtain ⟨hg22, h⟩ := am_ck_some h
                        refine am_Go.c1 htb (S' := (140, [some (.inr (.inr (some (10, 0)))), some (.inl a1)], [.inl ((am_si m 10 0 0 0).1 43 0 (5 : Int32).toNatClampNeg)], am_mk (am_si m 10 0 0 0))) (if_neg hg22) ?_
                        cases h
                        exact am_Go.r htb rfl
                      · rw [if_neg hs21] at h
                        by_cases hs23 : a1 = 11
                        · rw [if_pos hs23] at h
                          refine am_Go.c1 htb (S' := (141, [some (.inr (.inr (some (10, 0)))), some (.inl a1)], [], am_mk (am_si m 10 0 0 0))) (am_sw_eq (by simp only [am_sw, if_neg hs1, if_neg hs3, if_neg hs6, if_neg hs9, if_neg hs11, if_neg hs13, if_neg hs14, if_neg hs15, if_neg hs17, if_neg hs19, if_neg hs21, if_pos hs23])) ?_
                          refine am_Go.n htb 3 (S' := (147, [some (.inr (.inr (some (10, 0)))), some (.inl a1)], [.inl 6, .inr (.inr (some (43, 0)))], am_mk (am_si m 10 0 0 0))) rfl ?_
                          obtain ⟨hg24, h⟩ := am_ck_some h
                          refine am_Go.c1 htb (S' := (148, [some (.inr (.inr (some (10, 0)))), some (.inl a1)], [.inl ((am_si m 10 0 0 0).1 43 0 (6 : Int32).toNatClampNeg)], am_mk (am_si m 10 0 0 0))) (if_neg hg24) ?_
                          cases h
                          exact am_Go.r htb rfl
                        · rw [if_neg hs23] at h
                          by_cases hs25 : a1 = 12
                          · rw [if_pos hs25] at h
                            refine am_Go.c1 htb (S' := (149, [some (.inr (.inr (some (10, 0)))), some (.inl a1)], [], am_mk (am_si m 10 0 0 0))) (am_sw_eq (by simp only [am_sw, if_neg hs1, if_neg hs3, if_neg hs6, if_neg hs9, if_neg hs11, if_neg hs13, if_neg hs14, if_neg hs15, if_neg hs17, if_neg hs19, if_neg hs21, if_neg hs23, if_pos hs25])) ?_
                            refine am_Go.n htb 3 (S' := (154, [some (.inr (.inr (some (10, 0)))), some (.inl a1)], [.inl 3, .inr (.inr (some (44, 0)))], am_mk (am_si m 10 0 0 0))) rfl ?_
                            obtain ⟨hg26, h⟩ := am_ck_some h
                            refine am_Go.c1 htb (S' := (155, [some (.inr (.inr (some (10, 0)))), some (.inl a1)], [.inl ((am_si m 10 0 0 0).1 44 0 (3 : Int32).toNatClampNeg)], am_mk (am_si m 10 0 0 0))) (if_neg hg26) ?_
                            cases h
                            exact am_Go.r htb rfl
                          · rw [if_neg hs25] at h
                            refine am_Go.c1 htb (S' := (156, [some (.inr (.inr (some (10, 0)))), some (.inl a1)], [], am_mk (am_si m 10 0 0 0))) (am_sw_eq (by simp only [am_sw, if_neg hs1, if_neg hs3, if_neg hs6, if_neg hs9, if_neg hs11, if_neg hs13, if_neg hs14, if_neg hs15, if_neg hs17, if_neg hs19, if_neg hs21, if_neg hs23, if_neg hs25])) ?_
                            refine am_Go.n htb 4 (S' := (164, [some (.inr (.inr (some (10, 0)))), some (.inl a1)], [.inr (.inl 15), .inr (.inl 13), .inr (.inl a1.toInt64)], am_mk (am_si m 10 0 0 0))) rfl ?_
                            obtain ⟨r27, h28, h⟩ := am_bd h
                            refine am_Go.cl htb rfl (ex_X10_in d (by omega) a1.toInt64 13 15 (am_si m 10 0 0 0) r27 h28) ?_
                            show am_Go d 295 (167, [some (.inr (.inr (some (10, 0)))), some (.inl a1)], [.inl r27], am_mk (am_si m 10 0 0 0)) _ _ _ _
                            by_cases hc29 : r27 = 0
                            · rw [if_pos hc29] at h
                              refine am_Go.c1 htb (S' := (184, [some (.inr (.inr (some (10, 0)))), some (.inl a1)], [], am_mk (am_si m 10 0 0 0))) (if_pos hc29) ?_
                              refine am_Go.n htb 1 (S' := (185, [some (.inr (.inr (some (10, 0)))), some (.inl a1)], [.inl (-1)], am_mk (am_si m 10 0 0 0))) rfl ?_
                              cases h
                              exact am_Go.r htb rfl
                            · rw [if_neg hc29] at h
                              refine am_Go.c1 htb (S' := (170, [some (.inr (.inr (some (10, 0)))), some (.inl a1)], [], am_mk (am_si m 10 0 0 0))) (if_neg hc29) ?_
                              refine am_Go.n htb 7 (S' := (180, [some (.inr (.inr (some (10, 0)))), some (.inl a1)], [.inl (((4 : Int32) + a1) - (13 : Int32)), .inr (.inr (some (44, 0)))], am_mk (am_si m 10 0 0 0))) rfl ?_
                              obtain ⟨hg30, h⟩ := am_ck_some h
                              refine am_Go.c1 htb (S' := (181, [some (.inr (.inr (some (10, 0)))), some (.inl a1)], [.inl ((am_si m 10 0 0 0).1 44 0 (((4 : Int32) + a1) - (13 : Int32)).toNatClampNeg)], am_mk (am_si m 10 0 0 0))) (if_neg hg30) ?_
                              refine am_Go.n htb 1 (S' := (185, [some (.inr (.inr (some (10, 0)))), some (.inl a1)], [.inl ((am_si m 10 0 0 0).1 44 0 (((4 : Int32) + a1) - (13 : Int32)).toNatClampNeg)], am_mk (am_si m 10 0 0 0))) rfl ?_
                              cases h
                              exact am_Go.r htb rfl
-- X10_status
def fn_X10_status  (m : am_m) : Option (Int32 × am_m) :=
  some (((am_si m 10 0 0 0).1 10 0 1), am_si m 10 0 0 0)
set_option maxRecDepth 100000 in
theorem ex_X10_status (d : Nat) (hd : 1 ≤ d)  (m : am_m) (t : Int32 × am_m) (h : fn_X10_status  m = some t) : am_Ex am_cod d 296 [.inr (.inr (some (10, 0)))] (am_mk m) (some (.inl t.1)) (am_mk t.2) 0 0 := by
  obtain ⟨d, rfl⟩ : ∃ e, d = e + 1 := ⟨d - 1, by omega⟩
  have htb : am_tab 296 = at_296 := rfl
  refine ⟨Nat.le_of_ble_eq_true rfl, ?_⟩
  unfold fn_X10_status at h
  show am_Go d 296 (0, [some (.inr (.inr (some (10, 0))))], [], am_mk m) _ _ 0 0
  refine am_Go.n htb 5 (S' := (9, [some (.inr (.inr (some (10, 0))))], [.inl ((am_si m 10 0 0 0).1 10 0 1)], am_mk (am_si m 10 0 0 0))) rfl ?_
  cases h
  exact am_Go.r htb rfl
