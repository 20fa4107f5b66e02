-- X10_isBridge
set_option maxRecDepth 100000 in
theorem ex_X10_isBridge (d : Nat) (hd : 3 ≤ d) (a1 : Int32) (a2 : Int32) (m : am_m) (t : Int32 × am_m) (h : fn_X10_isBridge a1 a2 m = some t) : am_Ex am_cod d 270 [.inr (.inr (some (10, 0))), .inl a1, .inl a2] (am_mk m) (some (.inl t.1)) (am_mk t.2) 0 0 := by
  obtain ⟨d, rfl⟩ : ∃ e, d = e + 1 := ⟨d - 1, by omega⟩
  have htb : am_tab 270 = at_270 := rfl
  refine ⟨Nat.le_of_ble_eq_true rfl, ?_⟩
  unfold fn_X10_isBridge at h
  show am_Go d 270 (0, [some (.inr (.inr (some (10, 0)))), some (.inl a1), some (.inl a2), none, none], [], am_mk m) _ _ 0 0
  refine am_Go.n htb 1 (S' := (1, [some (.inr (.inr (some (10, 0)))), some (.inl a1), some (.inl a2), none, none], [.inr (.inr (some (10, 0)))], am_mk m)) rfl ?_
  obtain ⟨r1, h2, h⟩ := am_bd h
  refine am_Go.cl htb rfl (ex_X10_circlesNow d (by omega)  m r1 h2) ?_
  show am_Go d 270 (4, [some (.inr (.inr (some (10, 0)))), some (.inl a1), some (.inl a2), none, none], [.inl r1], am_mk m) _ _ _ _
  refine am_Go.n htb 9 (S' := (16, [some (.inr (.inr (some (10, 0)))), some (.inl a1), some (.inl a2), some (.inl r1), none], [.inl 0, .inl (((7 : Int32) * a1) + a2), .inr (.inr (some (92, 0)))], am_mk m)) rfl ?_
  obtain ⟨hg3, h⟩ := am_ck_some h
  refine am_Go.o htb (am_o_zast) rfl (S' := (17, [some (.inr (.inr (some (10, 0)))), some (.inl a1), some (.inl a2), some (.inl r1), none], [], am_mk (am_si m 92 0 (((7 : Int32) * a1) + a2).toNatClampNeg 0))) (am_zs (by decide) (by decide) hg3) ?_
  refine am_Go.n htb 8 (S' := (28, [some (.inr (.inr (some (10, 0)))), some (.inl a1), some (.inl a2), some (.inl r1), none], [.inl 0, .inl (((7 : Int32) * a2) + a1), .inr (.inr (some (92, 0)))], am_mk (am_si m 92 0 (((7 : Int32) * a1) + a2).toNatClampNeg 0))) rfl ?_
  obtain ⟨hg5, h⟩ := am_ck_some h
  refine am_Go.o htb (am_o_zast) rfl (S' := (29, [some (.inr (.inr (some (10, 0)))), some (.inl a1), some (.inl a2), some (.inl r1), none], [], am_mk (am_si (am_si m 92 0 (((7 : Int32) * a1) + a2).toNatClampNeg 0) 92 0 (((7 : Int32) * a2) + a1).toNatClampNeg 0))) (am_zs (by decide) (by decide) hg5) ?_
  refine am_Go.n htb 1 (S' := (30, [some (.inr (.inr (some (10, 0)))), some (.inl a1), some (.inl a2), some (.inl r1), none], [.inr (.inr (some (10, 0)))], am_mk (am_si (am_si m 92 0 (((7 : Int32) * a1) + a2).toNatClampNeg 0) 92 0 (((7 : Int32) * a2) + a1).toNatClampNeg 0))) rfl ?_
  obtain ⟨r7, h8, h⟩ := am_bd h
  refine am_Go.cl htb rfl (ex_X10_circlesNow d (by omega)  (am_si (am_si m 92 0 (((7 : Int32) * a1) + a2).toNatClampNeg 0) 92 0 (((7 : Int32) * a2) + a1).toNatClampNeg 0) r7 h8) ?_
  show am_Go d 270 (33, [some (.inr (.inr (some (10, 0)))), some (.inl a1), some (.inl a2), some (.inl r1), none], [.inl r7], am_mk (am_si (am_si m 92 0 (((7 : Int32) * a1) + a2).toNatClampNeg 0) 92 0 (((7 : Int32) * a2) + a1).toNatClampNeg 0)) _ _ _ _
  refine am_Go.n htb 1 (S' := (34, [some (.inr (.inr (some (10, 0)))), some (.inl a1), some (.inl a2), some (.inl r1), none], [.inl r1, .inl r7], am_mk (am_si (am_si m 92 0 (((7 : Int32) * a1) + a2).toNatClampNeg 0) 92 0 (((7 : Int32) * a2) + a1).toNatClampNeg 0))) rfl ?_
  refine am_Go.cut (S := (42, [some (.inr (.inr (some (10, 0)))), some (.inl a1), some (.inl a2), some (.inl r1), none], [.inl (if r7 ≤ r1 then (0 : Int32) else (1 : Int32))], am_mk (am_si (am_si m 92 0 (((7 : Int32) * a1) + a2).toNatClampNeg 0) 92 0 (((7 : Int32) * a2) + a1).toNatClampNeg 0))) ?_ (fun key => ?_)
  · refine am_Go.n htb 9 (S' := (55, [some (.inr (.inr (some (10, 0)))), some (.inl a1), some (.inl a2), some (.inl r1), some (.inl (if r7 ≤ r1 then (0 : Int32) else (1 : Int32)))], [.inl 1, .inl (((7 : Int32) * a1) + a2), .inr (.inr (some (92, 0)))], am_mk (am_si (am_si m 92 0 (((7 : Int32) * a1) + a2).toNatClampNeg 0) 92 0 (((7 : Int32) * a2) + a1).toNatClampNeg 0))) rfl ?_
    obtain ⟨hg10, h⟩ := am_ck_some h
    refine am_Go.o htb (am_o_zast) rfl (S' := (56, [some (.inr (.inr (some (10, 0)))), some (.inl a1), some (.inl a2), some (.inl r1), some (.inl (if r7 ≤ r1 then (0 : Int32) else (1 : Int32)))], [], am_mk (am_si (am_si (am_si m 92 0 (((7 : Int32) * a1) + a2).toNatClampNeg 0) 92 0 (((7 : Int32) * a2) + a1).toNatClampNeg 0) 92 0 (((7 : Int32) * a1) + a2).toNatClampNeg 1))) (am_zs (by decide) (by decide) hg10) ?_
    refine am_Go.n htb 8 (S' := (67, [some (.inr (.inr (some (10, 0)))), some (.inl a1), some (.inl a2), some (.inl r1), some (.inl (if r7 ≤ r1 then (0 : Int32) else (1 : Int32)))], [.inl 1, .inl (((7 : Int32) * a2) + a1), .inr (.inr (some (92, 0)))], am_mk (am_si (am_si (am_si m 92 0 (((7 : Int32) * a1) + a2).toNatClampNeg 0) 92 0 (((7 : Int32) * a2) + a1).toNatClampNeg 0) 92 0 (((7 : Int32) * a1) + a2).toNatClampNeg 1))) rfl ?_
    obtain ⟨hg12, h⟩ := am_ck_some h
    refine am_Go.o htb (am_o_zast) rfl (S' := (68, [some (.inr (.inr (some (10, 0)))), some (.inl a1), some (.inl a2), some (.inl r1), some (.inl (if r7 ≤ r1 then (0 : Int32) else (1 : Int32)))], [], am_mk (am_si (am_si (am_si (am_si m 92 0 (((7 : Int32) * a1) + a2).toNatClampNeg 0) 92 0 (((7 : Int32) * a2) + a1).toNatClampNeg 0) 92 0 (((7 : Int32) * a1) + a2).toNatClampNeg 1) 92 0 (((7 : Int32) * a2) + a1).toNatClampNeg 1))) (am_zs (by decide) (by decide) hg12) ?_
    refine am_Go.n htb 1 (S' := (70, [some (.inr (.inr (some (10, 0)))), some (.inl a1), some (.inl a2), some (.inl r1), some (.inl (if r7 ≤ r1 then (0 : Int32) else (1 : Int32)))], [.inl (if r7 ≤ r1 then (0 : Int32) else (1 : Int32))], am_mk (am_si (am_si (am_si (am_si m 92 0 (((7 : Int32) * a1) + a2).toNatClampNeg 0) 92 0 (((7 : Int32) * a2) + a1).toNatClampNeg 0) 92 0 (((7 : Int32) * a1) + a2).toNatClampNeg 1) 92 0 (((7 : Int32) * a2) + a1).toNatClampNeg 1))) rfl ?_
    obtain ⟨hz14, h⟩ := am_gd_some h
    cases h
    exact am_Go.rt htb (if_pos hz14)
  · by_cases hc9 : r7 ≤ r1
    · refine am_Go.c1 htb (S' := (41, [some (.inr (.inr (some (10, 0)))), some (.inl a1), some (.inl a2), some (.inl r1), none], [], am_mk (am_si (am_si m 92 0 (((7 : Int32) * a1) + a2).toNatClampNeg 0) 92 0 (((7 : Int32) * a2) + a1).toNatClampNeg 0))) (if_pos hc9) ?_
      refine am_Go.n htb 1 (S' := (42, [some (.inr (.inr (some (10, 0)))), some (.inl a1), some (.inl a2), some (.inl r1), none], [.inl 0], am_mk (am_si (am_si m 92 0 (((7 : Int32) * a1) + a2).toNatClampNeg 0) 92 0 (((7 : Int32) * a2) + a1).toNatClampNeg 0))) rfl ?_
      simp only [if_pos hc9] at key
      exact am_Go.fg (by exact ⟨rfl, ⟨rfl, ⟨rfl, ⟨rfl, trivial⟩⟩⟩⟩) key
    · refine am_Go.c1 htb (S' := (37, [some (.inr (.inr (some (10, 0)))), some (.inl a1), some (.inl a2), some (.inl r1), none], [], am_mk (am_si (am_si m 92 0 (((7 : Int32) * a1) + a2).toNatClampNeg 0) 92 0 (((7 : Int32) * a2) + a1).toNatClampNeg 0))) (if_neg hc9) ?_
      refine am_Go.n htb 2 (S' := (42, [some (.inr (.inr (some (10, 0)))), some (.inl a1), some (.inl a2), some (.inl r1), none], [.inl 1], am_mk (am_si (am_si m 92 0 (((7 : Int32) * a1) + a2).toNatClampNeg 0) 92 0 (((7 : Int32) * a2) + a1).toNatClampNeg 0))) rfl ?_
      simp only [if_neg hc9] at key
      exact am_Go.fg (by exact ⟨rfl, ⟨rfl, ⟨rfl, ⟨rfl, trivial⟩⟩⟩⟩) key
-- X10_bridges
set_option maxRecDepth 100000 in
theorem lt_X10_bridges_33 (d : Nat) (hd : 9 ≤ d + 1) {r : Option am_V} {M' : am_M} {kc ks : Nat} {n : Nat} {x1 : Int32} {x2 : Int32} {x3 : Int32} {x4 : Int32} {x5 : Int32} {m : am_m} {t : Int32 × Int32 × am_m} (h : lp_X10_bridges_33 n x1 x2 x3 x4 x5 m = some t) (hk : am_Go d 271 (98, [some (.inr (.inr (some (10, 0)))), some (.inl x1), some (.inl t.1), some (.inl t.2.1), some (.inl x4), none], [], am_mk t.2.2) r M' kc ks) : am_Go d 271 (33, [some (.inr (.inr (some (10, 0)))), some (.inl x1), some (.inl x2), some (.inl x3), some (.inl x4), some (.inl x5)], [], am_mk m) r M' kc ks := by
  have htb : am_tab 271 = at_271 := rfl
  induction n generalizing x2 x3 x5 m with
  | zero => cases h
  | succ n ih =>
    unfold lp_X10_bridges_33 at h
    refine am_Go.n htb 5 (S' := (41, [some (.inr (.inr (some (10, 0)))), some (.inl x1), some (.inl x2), some (.inl x3), some (.inl x4), some (.inl x5)], [.inl (m.1 44 0 0), .inl x5], am_mk m)) rfl ?_
    by_cases hc4 : (m.1 44 0 0) ≤ x5
    · rw [if_pos hc4] at h
      refine am_Go.c1 htb (S' := (98, [some (.inr (.inr (some (10, 0)))), some (.inl x1), some (.inl x2), some (.inl x3), some (.inl x4), some (.inl x5)], [], am_mk m)) (if_pos hc4) ?_
      cases h
      exact am_Go.fg (by exact ⟨rfl, ⟨rfl, ⟨rfl, ⟨rfl, ⟨rfl, trivial⟩⟩⟩⟩⟩) hk
    · rw [if_neg hc4] at h
      refine am_Go.c1 htb (S' := (44, [some (.inr (.inr (some (10, 0)))), some (.inl x1), some (.inl x2), some (.inl x3), some (.inl x4), some (.inl x5)], [], am_mk m)) (if_neg hc4) ?_
      refine am_Go.n htb 7 (S' := (56, [some (.inr (.inr (some (10, 0)))), some (.inl x1), some (.inl x2), some (.inl x3), some (.inl x4), some (.inl x5)], [.inl (((7 : Int32) * x4) + x5), .inr (.inr (some (92, 0)))], am_mk m)) rfl ?_
      obtain ⟨hg5, h⟩ := am_ck_some h
      refine am_Go.c1 htb (S' := (57, [some (.inr (.inr (some (10, 0)))), some (.inl x1), some (.inl x2), some (.inl x3), some (.inl x4), some (.inl x5)], [.inl (m.1 92 0 (((7 : Int32) * x4) + x5).toNatClampNeg)], am_mk m)) (if_neg hg5) ?_
      obtain ⟨q11, h12, h⟩ := am_bd h
      refine am_Go.cut (S := (92, [some (.inr (.inr (some (10, 0)))), some (.inl x1), some (.inl q11.1), some (.inl q11.2.1), some (.inl x4), some (.inl x5)], [], am_mk q11.2.2)) ?_ (fun key => ?_)
      · refine am_Go.n htb 2 (S' := (33, [some (.inr (.inr (some (10, 0)))), some (.inl x1), some (.inl q11.1), some (.inl q11.2.1), some (.inl x4), some (.inl (x5 + 1))], [], am_mk q11.2.2)) rfl ?_
        first | exact ih h | exact ih h hk
      · have h := h12
        by_cases hc6 : (m.1 92 0 (((7 : Int32) * x4) + x5).toNatClampNeg) = 0
        · rw [if_pos hc6] at h
          refine am_Go.c1 htb (S' := (92, [some (.inr (.inr (some (10, 0)))), some (.inl x1), some (.inl x2), some (.inl x3), some (.inl x4), some (.inl x5)], [], am_mk m)) (if_pos hc6) ?_
          cases h
          exact am_Go.fg (by exact ⟨rfl, ⟨rfl, ⟨rfl, ⟨rfl, ⟨rfl, ⟨rfl, trivial⟩⟩⟩⟩⟩⟩) key
        · rw [if_neg hc6] at h
          refine am_Go.c1 htb (S' := (60, [some (.inr (.inr (some (10, 0)))), some (.inl x1), some (.inl x2), some (.inl x3), some (.inl x4), some (.inl x5)], [], am_mk m)) (if_neg hc6) ?_
          refine am_Go.n htb 3 (S' := (65, [some (.inr (.inr (some (10, 0)))), some (.inl x1), some (.inl x2), some (.inl x3), some (.inl x4), some (.inl x5)], [.inl x5, .inl x4, .inr (.inr (some (10, 0)))], am_mk m)) rfl ?_
          obtain ⟨r7, h8, h⟩ := am_bd h
          refine am_Go.cl htb rfl (ex_X10_isBridge d (by omega) x4 x5 m r7 h8) ?_
          show am_Go d 271 (68, [some (.inr (.inr (some (10, 0)))), some (.inl x1), some (.inl x2), some (.inl x3), some (.inl x4), some (.inl x5)], [.inl r7.1], am_mk r7.2) _ _ _ _
          by_cases hc9 : r7.1 = 0
          · rw [if_pos hc9] at h
            refine am_Go.c1 htb (S' := (92, [some (.inr (.inr (some (10, 0)))), some (.inl x1), some (.inl x2), some (.inl x3), some (.inl x4), some (.inl x5)], [], am_mk r7.2)) (if_pos hc9) ?_
            cases h
            exact am_Go.fg (by exact ⟨rfl, ⟨rfl, ⟨rfl, ⟨rfl, ⟨rfl, ⟨rfl, trivial⟩⟩⟩⟩⟩⟩) key
          · rw [if_neg hc9] at h
            refine am_Go.c1 htb (S' := (71, [some (.inr (.inr (some (10, 0)))), some (.inl x1), some (.inl x2), some (.inl x3), some (.inl x4), some (.inl x5)], [], am_mk r7.2)) (if_neg hc9) ?_
            refine am_Go.n htb 2 (S' := (73, [some (.inr (.inr (some (10, 0)))), some (.inl x1), some (.inl x2), some (.inl x3), some (.inl x4), some (.inl x5)], [.inl x1, .inl x2], am_mk r7.2)) rfl ?_
            refine am_Go.cut (S := (88, [some (.inr (.inr (some (10, 0)))), some (.inl x1), some (.inl x2), some (.inl x3), some (.inl x4), some (.inl x5)], [.inl (if x2 ≠ x1 then x3 else (((10 : Int32) * x4) + x5))], am_mk r7.2)) ?_ (fun key => ?_)
            · refine am_Go.n htb 2 (S' := (92, [some (.inr (.inr (some (10, 0)))), some (.inl x1), some (.inl (x2 + 1)), some (.inl (if x2 ≠ x1 then x3 else (((10 : Int32) * x4) + x5))), some (.inl x4), some (.inl x5)], [], am_mk r7.2)) rfl ?_
              cases h
              exact am_Go.fg (by exact ⟨rfl, ⟨rfl, ⟨rfl, ⟨rfl, ⟨rfl, ⟨rfl, trivial⟩⟩⟩⟩⟩⟩) key
            · by_cases hc10 : x2 ≠ x1
              · refine am_Go.c1 htb (S' := (87, [some (.inr (.inr (some (10, 0)))), some (.inl x1), some (.inl x2), some (.inl x3), some (.inl x4), some (.inl x5)], [], am_mk r7.2)) (if_pos hc10) ?_
                refine am_Go.n htb 1 (S' := (88, [some (.inr (.inr (some (10, 0)))), some (.inl x1), some (.inl x2), some (.inl x3), some (.inl x4), some (.inl x5)], [.inl x3], am_mk r7.2)) rfl ?_
                simp only [if_pos hc10] at key
                exact am_Go.fg (by exact ⟨rfl, ⟨rfl, ⟨rfl, ⟨rfl, ⟨rfl, ⟨rfl, trivial⟩⟩⟩⟩⟩⟩) key
              · refine am_Go.c1 htb (S' := (76, [some (.inr (.inr (some (10, 0)))), some (.inl x1), some (.inl x2), some (.inl x3), some (.inl x4), some (.inl x5)], [], am_mk r7.2)) (if_neg hc10) ?_
                refine am_Go.n htb 6 (S' := (88, [some (.inr (.inr (some (10, 0)))), some (.inl x1), some (.inl x2), some (.inl x3), some (.inl x4), some (.inl x5)], [.inl (((10 : Int32) * x4) + x5)], am_mk r7.2)) rfl ?_
                simp only [if_neg hc10] at key
                exact am_Go.fg (by exact ⟨rfl, ⟨rfl, ⟨rfl, ⟨rfl, ⟨rfl, ⟨rfl, trivial⟩⟩⟩⟩⟩⟩) key
set_option maxRecDepth 100000 in
theorem lt_X10_bridges_16 (d : Nat) (hd : 9 ≤ d + 1) {r : Option am_V} {M' : am_M} {kc ks : Nat} {n : Nat} {x1 : Int32} {x2 : Int32} {x3 : Int32} {x4 : Int32} {m : am_m} {t : Int32 × Int32 × am_m} (h : lp_X10_bridges_16 n x1 x2 x3 x4 m = some t) (hk : am_Go d 271 (104, [some (.inr (.inr (some (10, 0)))), some (.inl x1), some (.inl t.1), some (.inl t.2.1), none, none], [], am_mk t.2.2) r M' kc ks) : am_Go d 271 (16, [some (.inr (.inr (some (10, 0)))), some (.inl x1), some (.inl x2), some (.inl x3), some (.inl x4), none], [], am_mk m) r M' kc ks := by
  have htb : am_tab 271 = at_271 := rfl
  induction n generalizing x2 x3 x4 m with
  | zero => cases h
  | succ n ih =>
    unfold lp_X10_bridges_16 at h
    refine am_Go.n htb 5 (S' := (24, [some (.inr (.inr (some (10, 0)))), some (.inl x1), some (.inl x2), some (.inl x3), some (.inl x4), none], [.inl (m.1 44 0 0), .inl x4], am_mk m)) rfl ?_
    by_cases hc3 : (m.1 44 0 0) ≤ x4
    · rw [if_pos hc3] at h
      refine am_Go.c1 htb (S' := (104, [some (.inr (.inr (some (10, 0)))), some (.inl x1), some (.inl x2), some (.inl x3), some (.inl x4), none], [], am_mk m)) (if_pos hc3) ?_
      cases h
      exact am_Go.fg (by exact ⟨rfl, ⟨rfl, ⟨rfl, ⟨rfl, trivial⟩⟩⟩⟩) hk
    · rw [if_neg hc3] at h
      refine am_Go.c1 htb (S' := (27, [some (.inr (.inr (some (10, 0)))), some (.inl x1), some (.inl x2), some (.inl x3), some (.inl x4), none], [], am_mk m)) (if_neg hc3) ?_
      refine am_Go.n htb 4 (S' := (33, [some (.inr (.inr (some (10, 0)))), some (.inl x1), some (.inl x2), some (.inl x3), some (.inl x4), some (.inl (x4 + (1 : Int32)))], [], am_mk m)) rfl ?_
      obtain ⟨q13, h14, h⟩ := am_bd h
      refine lt_X10_bridges_33 _ hd (h := h14) (hk := ?_)
      refine am_Go.n htb 2 (S' := (16, [some (.inr (.inr (some (10, 0)))), some (.inl x1), some (.inl q13.1), some (.inl q13.2.1), some (.inl (x4 + 1)), none], [], am_mk q13.2.2)) rfl ?_
      first | exact ih h | exact ih h hk
set_option maxRecDepth 100000 in
theorem ex_X10_bridges (d : Nat) (hd : 9 ≤ d) (a1 : Int32) (m : am_m) (t : Int32 × am_m) (h : fn_X10_bridges a1 m = some t) : am_Ex am_cod d 271 [.inr (.inr (some (10, 0))), .inl a1] (am_mk m) (some (.inl t.1)) (am_mk t.2) 0 0 := by
  obtain ⟨d, rfl⟩ : ∃ e, d = e + 1 := ⟨d - 1, by omega⟩
  have htb : am_tab 271 = at_271 := rfl
  refine ⟨Nat.le_of_ble_eq_true rfl, ?_⟩
  unfold fn_X10_bridges at h
  show am_Go d 271 (0, [some (.inr (.inr (some (10, 0)))), some (.inl a1), none, none, none, none], [], am_mk m) _ _ 0 0
  refine am_Go.n htb 4 (S' := (6, [some (.inr (.inr (some (10, 0)))), some (.inl a1), none, none, none, none], [.inr (.inr (some (10, 0)))], am_mk (am_si m 10 0 0 0))) rfl ?_
  obtain ⟨r1, h2, h⟩ := am_bd h
  refine am_Go.cl htb rfl (ex_X10_layMay d (by omega)  (am_si m 10 0 0 0) r1 h2) ?_
  show am_Go d 271 (9, [some (.inr (.inr (some (10, 0)))), some (.inl a1), none, none, none, none], [], am_mk r1) _ _ _ _
  refine am_Go.n htb 6 (S' := (16, [some (.inr (.inr (some (10, 0)))), some (.inl a1), some (.inl 0), some (.inl (-1)), some (.inl 0), none], [], am_mk r1)) rfl ?_
  obtain ⟨q15, h16, h⟩ := am_bd h
  refine lt_X10_bridges_16 _ hd (h := h16) (hk := ?_)
  refine am_Go.n htb 2 (S' := (106, [some (.inr (.inr (some (10, 0)))), some (.inl a1), some (.inl q15.1), some (.inl q15.2.1), none, none], [.inl (-1), .inl a1], am_mk q15.2.2)) rfl ?_
  by_cases hc17 : a1 ≠ (-1 : Int32)
  · rw [if_pos hc17] at h
    refine am_Go.c1 htb (S' := (113, [some (.inr (.inr (some (10, 0)))), some (.inl a1), some (.inl q15.1), some (.inl q15.2.1), none, none], [], am_mk q15.2.2)) (if_pos hc17) ?_
    refine am_Go.n htb 1 (S' := (114, [some (.inr (.inr (some (10, 0)))), some (.inl a1), some (.inl q15.1), some (.inl q15.2.1), none, none], [.inl q15.2.1], am_mk q15.2.2)) rfl ?_
    cases h
    exact am_Go.rt htb rfl
  · rw [if_neg hc17] at h
    refine am_Go.c1 htb (S' := (109, [some (.inr (.inr (some (10, 0)))), some (.inl a1), some (.inl q15.1), some (.inl q15.2.1), none, none], [], am_mk q15.2.2)) (if_neg hc17) ?_
    refine am_Go.n htb 2 (S' := (114, [some (.inr (.inr (some (10, 0)))), some (.inl a1), some (.inl q15.1), some (.inl q15.2.1), none, none], [.inl q15.1], am_mk q15.2.2)) rfl ?_
    cases h
    exact am_Go.rt htb rfl
-- X10_sat
set_option maxRecDepth 100000 in
theorem ex_X10_sat (d : Nat) (hd : 3 ≤ d) (a1 : Int32) (m : am_m) (t : Int32 × am_m) (h : fn_X10_sat a1 m = some t) : am_Ex am_cod d 272 [.inr (.inr (some (10, 0))), .inl a1] (am_mk m) (some (.inl t.1)) (am_mk t.2) 0 0 := by
  obtain ⟨d, rfl⟩ : ∃ e, d = e + 1 := ⟨d - 1, by omega⟩
  have htb : am_tab 272 = at_272 := rfl
  refine ⟨Nat.le_of_ble_eq_true rfl, ?_⟩
  unfold fn_X10_sat at h
  show am_Go d 272 (0, [some (.inr (.inr (some (10, 0)))), some (.inl a1), none], [], am_mk m) _ _ 0 0
  refine am_Go.n htb 4 (S' := (6, [some (.inr (.inr (some (10, 0)))), some (.inl a1), none], [.inl a1], am_mk (am_si m 10 0 0 0))) rfl ?_
  obtain ⟨r1, h2, h⟩ := am_bd h
  refine am_Go.cl htb rfl (ex_X10_isSet d (by omega) a1 (am_si m 10 0 0 0) r1 h2) ?_
  show am_Go d 272 (9, [some (.inr (.inr (some (10, 0)))), some (.inl a1), none], [.inl r1], am_mk (am_si m 10 0 0 0)) _ _ _ _
  by_cases hc3 : r1 = 0
  · rw [if_pos hc3] at h
    refine am_Go.c1 htb (S' := (20, [some (.inr (.inr (some (10, 0)))), some (.inl a1), none], [], am_mk (am_si m 10 0 0 0))) (if_pos hc3) ?_
    refine am_Go.n htb 2 (S' := (22, [some (.inr (.inr (some (10, 0)))), some (.inl a1), none], [.inl (-1), .inr (.inr (some (10, 0)))], am_mk (am_si m 10 0 0 0))) rfl ?_
    obtain ⟨r4, h5, h⟩ := am_bd h
    refine am_Go.cl htb rfl (ex_X10_tell d (by omega) (-1) (am_si m 10 0 0 0) r4 h5) ?_
    show am_Go d 272 (25, [some (.inr (.inr (some (10, 0)))), some (.inl a1), none], [.inl r4.1], am_mk r4.2) _ _ _ _
    cases h
    exact am_Go.rt htb rfl
  · rw [if_neg hc3] at h
    refine am_Go.c1 htb (S' := (12, [some (.inr (.inr (some (10, 0)))), some (.inl a1), none], [], am_mk (am_si m 10 0 0 0))) (if_neg hc3) ?_
    refine am_Go.n htb 1 (S' := (13, [some (.inr (.inr (some (10, 0)))), some (.inl a1), none], [.inl a1], am_mk (am_si m 10 0 0 0))) rfl ?_
    obtain ⟨r6, h7, h⟩ := am_bd h
    refine am_Go.cl htb rfl (ex_X10_ones d (by omega) a1 (am_si m 10 0 0 0) r6 h7) ?_
    show am_Go d 272 (16, [some (.inr (.inr (some (10, 0)))), some (.inl a1), none], [.inl r6], am_mk (am_si m 10 0 0 0)) _ _ _ _
    refine am_Go.n htb 1 (S' := (17, [some (.inr (.inr (some (10, 0)))), some (.inl a1), none], [.inl 2, .inl r6], am_mk (am_si m 10 0 0 0))) rfl ?_
    by_cases hc8 : (2 : Int32) ≤ r6
    · rw [if_pos hc8] at h
      refine am_Go.c1 htb (S' := (26, [some (.inr (.inr (some (10, 0)))), some (.inl a1), none], [], am_mk (am_si m 10 0 0 0))) (if_pos hc8) ?_
      refine am_Go.n htb 2 (S' := (28, [some (.inr (.inr (some (10, 0)))), some (.inl a1), none], [.inl a1, .inr (.inr (some (10, 0)))], am_mk (am_si m 10 0 0 0))) rfl ?_
      obtain ⟨r9, h10, h⟩ := am_bd h
      refine am_Go.cl htb rfl (ex_X10_areThere d (by omega) a1 (am_si m 10 0 0 0) r9 h10) ?_
      show am_Go d 272 (31, [some (.inr (.inr (some (10, 0)))), some (.inl a1), none], [.inl r9], am_mk (am_si m 10 0 0 0)) _ _ _ _
      by_cases hc11 : r9 ≠ 0
      · rw [if_pos hc11] at h
        refine am_Go.c1 htb (S' := (41, [some (.inr (.inr (some (10, 0)))), some (.inl a1), none], [], am_mk (am_si m 10 0 0 0))) (if_pos hc11) ?_
        refine am_Go.n htb 7 (S' := (51, [some (.inr (.inr (some (10, 0)))), some (.inl a1), some (.inl (m.1 44 0 1))], [.inl 6, .inl (m.1 44 0 1)], am_mk (am_si m 10 0 0 0))) rfl ?_
        by_cases hc12 : (m.1 44 0 1) ≠ (6 : Int32)
        · rw [if_pos hc12] at h
          refine am_Go.c1 htb (S' := (61, [some (.inr (.inr (some (10, 0)))), some (.inl a1), some (.inl (m.1 44 0 1))], [], am_mk (am_si m 10 0 0 0))) (if_pos hc12) ?_
          refine am_Go.n htb 6 (S' := (70, [some (.inr (.inr (some (10, 0)))), some (.inl a1), some (.inl (m.1 44 0 1))], [.inl a1, .inl ((112 : Int32) + (m.1 44 0 1)), .inr (.inr (some (44, 0)))], am_mk (am_si m 10 0 0 0))) rfl ?_
          obtain ⟨hg13, h⟩ := am_ck_some h
          refine am_Go.c1 htb (S' := (71, [some (.inr (.inr (some (10, 0)))), some (.inl a1), some (.inl (m.1 44 0 1))], [], am_mk (am_si (am_si m 10 0 0 0) 44 0 ((112 : Int32) + (m.1 44 0 1)).toNatClampNeg a1))) (if_neg hg13) ?_
          refine am_Go.n htb 12 (S' := (85, [some (.inr (.inr (some (10, 0)))), some (.inl a1), some (.inl (m.1 44 0 1))], [.inl ((m.1 44 0 1) + (1 : Int32)), .inr (.inr (some (10, 0)))], am_mk (am_si (am_si (am_si m 10 0 0 0) 44 0 ((112 : Int32) + (m.1 44 0 1)).toNatClampNeg a1) 44 0 1 (((am_si (am_si m 10 0 0 0) 44 0 ((112 : Int32) + (m.1 44 0 1)).toNatClampNeg a1).1 44 0 1) + (1 : Int32))))) rfl ?_
          obtain ⟨r14, h15, h⟩ := am_bd h
          refine am_Go.cl htb rfl (ex_X10_tell d (by omega) ((m.1 44 0 1) + (1 : Int32)) (am_si (am_si (am_si m 10 0 0 0) 44 0 ((112 : Int32) + (m.1 44 0 1)).toNatClampNeg a1) 44 0 1 (((am_si (am_si m 10 0 0 0) 44 0 ((112 : Int32) + (m.1 44 0 1)).toNatClampNeg a1).1 44 0 1) + (1 : Int32))) r14 h15) ?_
          show am_Go d 272 (88, [some (.inr (.inr (some (10, 0)))), some (.inl a1), some (.inl (m.1 44 0 1))], [.inl r14.1], am_mk r14.2) _ _ _ _
          cases h
          exact am_Go.rt htb rfl
        · rw [if_neg hc12] at h
          refine am_Go.c1 htb (S' := (54, [some (.inr (.inr (some (10, 0)))), some (.inl a1), some (.inl (m.1 44 0 1))], [], am_mk (am_si m 10 0 0 0))) (if_neg hc12) ?_
          refine am_Go.n htb 2 (S' := (57, [some (.inr (.inr (some (10, 0)))), some (.inl a1), some (.inl (m.1 44 0 1))], [.inl (-5), .inr (.inr (some (10, 0)))], am_mk (am_si m 10 0 0 0))) rfl ?_
          obtain ⟨r16, h17, h⟩ := am_bd h
          refine am_Go.cl htb rfl (ex_X10_tell d (by omega) (-5) (am_si m 10 0 0 0) r16 h17) ?_
          show am_Go d 272 (60, [some (.inr (.inr (some (10, 0)))), some (.inl a1), some (.inl (m.1 44 0 1))], [.inl r16.1], am_mk r16.2) _ _ _ _
          cases h
          exact am_Go.rt htb rfl
      · rw [if_neg hc11] at h
        refine am_Go.c1 htb (S' := (34, [some (.inr (.inr (some (10, 0)))), some (.inl a1), none], [], am_mk (am_si m 10 0 0 0))) (if_neg hc11) ?_
        refine am_Go.n htb 2 (S' := (37, [some (.inr (.inr (some (10, 0)))), some (.inl a1), none], [.inl (-2), .inr (.inr (some (10, 0)))], am_mk (am_si m 10 0 0 0))) rfl ?_
        obtain ⟨r18, h19, h⟩ := am_bd h
        refine am_Go.cl htb rfl (ex_X10_tell d (by omega) (-2) (am_si m 10 0 0 0) r18 h19) ?_
        show am_Go d 272 (40, [some (.inr (.inr (some (10, 0)))), some (.inl a1), none], [.inl r18.1], am_mk r18.2) _ _ _ _
        cases h
        exact am_Go.rt htb rfl
    · rw [if_neg hc8] at h
      refine am_Go.c1 htb (S' := (20, [some (.inr (.inr (some (10, 0)))), some (.inl a1), none], [], am_mk (am_si m 10 0 0 0))) (if_neg hc8) ?_
      refine am_Go.n htb 2 (S' := (22, [some (.inr (.inr (some (10, 0)))), some (.inl a1), none], [.inl (-1), .inr (.inr (some (10, 0)))], am_mk (am_si m 10 0 0 0))) rfl ?_
      obtain ⟨r20, h21, h⟩ := am_bd h
      refine am_Go.cl htb rfl (ex_X10_tell d (by omega) (-1) (am_si m 10 0 0 0) r20 h21) ?_
      show am_Go d 272 (25, [some (.inr (.inr (some (10, 0)))), some (.inl a1), none], [.inl r20.1], am_mk r20.2) _ _ _ _
      cases h
      exact am_Go.rt htb rfl
-- X10_forget
set_option maxRecDepth 100000 in
theorem ex_X10_forget (d : Nat) (hd : 1 ≤ d)  (m : am_m) (t : Int32 × am_m) (h : fn_X10_forget  m = some t) : am_Ex am_cod d 273 [.inr (.inr (some (10, 0)))] (am_mk m) (some (.inl t.1)) (am_mk t.2) 0 0 := by
  obtain ⟨d, rfl⟩ : ∃ e, d = e + 1 := ⟨d - 1, by omega⟩
  have htb : am_tab 273 = at_273 := rfl
  refine ⟨Nat.le_of_ble_eq_true rfl, ?_⟩
  unfold fn_X10_forget at h
  show am_Go d 273 (0, [some (.inr (.inr (some (10, 0)))), none], [], am_mk m) _ _ 0 0
  refine am_Go.n htb 14 (S' := (20, [some (.inr (.inr (some (10, 0)))), some (.inl (m.1 44 0 1))], [.inl (m.1 44 0 1)], am_mk (am_si (am_si m 10 0 0 0) 44 0 1 0))) rfl ?_
  cases h
  exact am_Go.rt htb rfl
-- X10_satBoth
set_option maxRecDepth 100000 in
theorem lt_X10_satBoth_5 (d : Nat) (hd : 2 ≤ d + 1) {r : Option am_V} {M' : am_M} {kc ks : Nat} {n : Nat} {x1 : Int32} {x2 : Int32} {x3 : Int32} {x4 : Int32} {m : am_m} {t : Int32} (h : lp_X10_satBoth_5 n x1 x2 x3 x4 m = some t) (hk : am_Go d 274 (66, [some (.inr (.inr (some (10, 0)))), some (.inl x1), some (.inl x2), some (.inl t), none], [], am_mk m) r M' kc ks) : am_Go d 274 (5, [some (.inr (.inr (some (10, 0)))), some (.inl x1), some (.inl x2), some (.inl x3), some (.inl x4)], [], am_mk m) r M' kc ks := by
  have htb : am_tab 274 = at_274 := rfl
  induction n generalizing x3 x4 with
  | zero => cases h
  | succ n ih =>
    unfold lp_X10_satBoth_5 at h
    refine am_Go.n htb 5 (S' := (13, [some (.inr (.inr (some (10, 0)))), some (.inl x1), some (.inl x2), some (.inl x3), some (.inl x4)], [.inl (m.1 44 0 1), .inl x4], am_mk m)) rfl ?_
    by_cases hc1 : (m.1 44 0 1) ≤ x4
    · rw [if_pos hc1] at h
      refine am_Go.c1 htb (S' := (66, [some (.inr (.inr (some (10, 0)))), some (.inl x1), some (.inl x2), some (.inl x3), some (.inl x4)], [], am_mk m)) (if_pos hc1) ?_
      cases h
      exact am_Go.fg (by exact ⟨rfl, ⟨rfl, ⟨rfl, ⟨rfl, trivial⟩⟩⟩⟩) hk
    · rw [if_neg hc1] at h
      refine am_Go.c1 htb (S' := (16, [some (.inr (.inr (some (10, 0)))), some (.inl x1), some (.inl x2), some (.inl x3), some (.inl x4)], [], am_mk m)) (if_neg hc1) ?_
      refine am_Go.n htb 1 (S' := (17, [some (.inr (.inr (some (10, 0)))), some (.inl x1), some (.inl x2), some (.inl x3), some (.inl x4)], [.inl x3], am_mk m)) rfl ?_
      obtain ⟨q11, h12, h⟩ := am_bd h
      refine am_Go.cut (S := (59, [some (.inr (.inr (some (10, 0)))), some (.inl x1), some (.inl x2), some (.inl x3), some (.inl x4)], [.inl q11], am_mk m)) ?_ (fun key => ?_)
      · refine am_Go.n htb 3 (S' := (5, [some (.inr (.inr (some (10, 0)))), some (.inl x1), some (.inl x2), some (.inl q11), some (.inl (x4 + 1))], [], am_mk m)) rfl ?_
        first | exact ih h | exact ih h hk
      · have h := h12
        by_cases hc2 : x3 ≠ 0
        · rw [if_pos hc2] at h
          refine am_Go.c1 htb (S' := (54, [some (.inr (.inr (some (10, 0)))), some (.inl x1), some (.inl x2), some (.inl x3), some (.inl x4)], [], am_mk m)) (if_pos hc2) ?_
          refine am_Go.n htb 2 (S' := (59, [some (.inr (.inr (some (10, 0)))), some (.inl x1), some (.inl x2), some (.inl x3), some (.inl x4)], [.inl 1], am_mk m)) rfl ?_
          cases h
          exact am_Go.fg (by exact ⟨rfl, ⟨rfl, ⟨rfl, ⟨rfl, ⟨rfl, trivial⟩⟩⟩⟩⟩) key
        · rw [if_neg hc2] at h
          refine am_Go.c1 htb (S' := (20, [some (.inr (.inr (some (10, 0)))), some (.inl x1), some (.inl x2), some (.inl x3), some (.inl x4)], [], am_mk m)) (if_neg hc2) ?_
          refine am_Go.n htb 5 (S' := (29, [some (.inr (.inr (some (10, 0)))), some (.inl x1), some (.inl x2), some (.inl x3), some (.inl x4)], [.inl ((112 : Int32) + x4), .inr (.inr (some (44, 0)))], am_mk m)) rfl ?_
          obtain ⟨hg3, h⟩ := am_ck_some h
          refine am_Go.c1 htb (S' := (30, [some (.inr (.inr (some (10, 0)))), some (.inl x1), some (.inl x2), some (.inl x3), some (.inl x4)], [.inl (m.1 44 0 ((112 : Int32) + x4).toNatClampNeg)], am_mk m)) (if_neg hg3) ?_
          refine am_Go.n htb 1 (S' := (31, [some (.inr (.inr (some (10, 0)))), some (.inl x1), some (.inl x2), some (.inl x3), some (.inl x4)], [.inl x1, .inl (m.1 44 0 ((112 : Int32) + x4).toNatClampNeg)], am_mk m)) rfl ?_
          obtain ⟨r4, h5, h⟩ := am_bd h
          refine am_Go.cl htb rfl (ex_X10_is d (by omega) (m.1 44 0 ((112 : Int32) + x4).toNatClampNeg) x1 m r4 h5) ?_
          show am_Go d 274 (34, [some (.inr (.inr (some (10, 0)))), some (.inl x1), some (.inl x2), some (.inl x3), some (.inl x4)], [.inl r4], am_mk m) _ _ _ _
          by_cases hc6 : r4 = 0
          · rw [if_pos hc6] at h
            refine am_Go.c1 htb (S' := (58, [some (.inr (.inr (some (10, 0)))), some (.inl x1), some (.inl x2), some (.inl x3), some (.inl x4)], [], am_mk m)) (if_pos hc6) ?_
            refine am_Go.n htb 1 (S' := (59, [some (.inr (.inr (some (10, 0)))), some (.inl x1), some (.inl x2), some (.inl x3), some (.inl x4)], [.inl 0], am_mk m)) rfl ?_
            cases h
            exact am_Go.fg (by exact ⟨rfl, ⟨rfl, ⟨rfl, ⟨rfl, ⟨rfl, trivial⟩⟩⟩⟩⟩) key
          · rw [if_neg hc6] at h
            refine am_Go.c1 htb (S' := (37, [some (.inr (.inr (some (10, 0)))), some (.inl x1), some (.inl x2), some (.inl x3), some (.inl x4)], [], am_mk m)) (if_neg hc6) ?_
            refine am_Go.n htb 5 (S' := (46, [some (.inr (.inr (some (10, 0)))), some (.inl x1), some (.inl x2), some (.inl x3), some (.inl x4)], [.inl ((112 : Int32) + x4), .inr (.inr (some (44, 0)))], am_mk m)) rfl ?_
            obtain ⟨hg7, h⟩ := am_ck_some h
            refine am_Go.c1 htb (S' := (47, [some (.inr (.inr (some (10, 0)))), some (.inl x1), some (.inl x2), some (.inl x3), some (.inl x4)], [.inl (m.1 44 0 ((112 : Int32) + x4).toNatClampNeg)], am_mk m)) (if_neg hg7) ?_
            refine am_Go.n htb 1 (S' := (48, [some (.inr (.inr (some (10, 0)))), some (.inl x1), some (.inl x2), some (.inl x3), some (.inl x4)], [.inl x2, .inl (m.1 44 0 ((112 : Int32) + x4).toNatClampNeg)], am_mk m)) rfl ?_
            obtain ⟨r8, h9, h⟩ := am_bd h
            refine am_Go.cl htb rfl (ex_X10_is d (by omega) (m.1 44 0 ((112 : Int32) + x4).toNatClampNeg) x2 m r8 h9) ?_
            show am_Go d 274 (51, [some (.inr (.inr (some (10, 0)))), some (.inl x1), some (.inl x2), some (.inl x3), some (.inl x4)], [.inl r8], am_mk m) _ _ _ _
            by_cases hc10 : r8 = 0
            · rw [if_pos hc10] at h
              refine am_Go.c1 htb (S' := (58, [some (.inr (.inr (some (10, 0)))), some (.inl x1), some (.inl x2), some (.inl x3), some (.inl x4)], [], am_mk m)) (if_pos hc10) ?_
              refine am_Go.n htb 1 (S' := (59, [some (.inr (.inr (some (10, 0)))), some (.inl x1), some (.inl x2), some (.inl x3), some (.inl x4)], [.inl 0], am_mk m)) rfl ?_
              cases h
              exact am_Go.fg (by exact ⟨rfl, ⟨rfl, ⟨rfl, ⟨rfl, ⟨rfl, trivial⟩⟩⟩⟩⟩) key
            · rw [if_neg hc10] at h
              refine am_Go.c1 htb (S' := (54, [some (.inr (.inr (some (10, 0)))), some (.inl x1), some (.inl x2), some (.inl x3), some (.inl x4)], [], am_mk m)) (if_neg hc10) ?_
              refine am_Go.n htb 2 (S' := (59, [some (.inr (.inr (some (10, 0)))), some (.inl x1), some (.inl x2), some (.inl x3), some (.inl x4)], [.inl 1], am_mk m)) rfl ?_
              cases h
              exact am_Go.fg (by exact ⟨rfl, ⟨rfl, ⟨rfl, ⟨rfl, ⟨rfl, trivial⟩⟩⟩⟩⟩) key
set_option maxRecDepth 100000 in
theorem ex_X10_satBoth (d : Nat) (hd : 2 ≤ d) (a1 : Int32) (a2 : Int32) (m : am_m) (t : Int32) (h : fn_X10_satBoth a1 a2 m = some t) : am_Ex am_cod d 274 [.inr (.inr (some (10, 0))), .inl a1, .inl a2] (am_mk m) (some (.inl t)) (am_mk m) 0 0 := by
  obtain ⟨d, rfl⟩ : ∃ e, d = e + 1 := ⟨d - 1, by omega⟩
  have htb : am_tab 274 = at_274 := rfl
  refine ⟨Nat.le_of_ble_eq_true rfl, ?_⟩
  unfold fn_X10_satBoth at h
  show am_Go d 274 (0, [some (.inr (.inr (some (10, 0)))), some (.inl a1), some (.inl a2), none, none], [], am_mk m) _ _ 0 0
  refine am_Go.n htb 4 (S' := (5, [some (.inr (.inr (some (10, 0)))), some (.inl a1), some (.inl a2), some (.inl 0), some (.inl 0)], [], am_mk m)) rfl ?_
  obtain ⟨q13, h14, h⟩ := am_bd h
  refine lt_X10_satBoth_5 _ hd (h := h14) (hk := ?_)
  refine am_Go.n htb 1 (S' := (67, [some (.inr (.inr (some (10, 0)))), some (.inl a1), some (.inl a2), some (.inl q13), none], [.inl q13], am_mk m)) rfl ?_
  obtain ⟨hz15, h⟩ := am_gd_some h
  cases h
  exact am_Go.rt htb (if_pos hz15)
-- X10_doubted
set_option maxRecDepth 100000 in
theorem lt_X10_doubted_33 (d : Nat) (hd : 9 ≤ d + 1) {r : Option am_V} {M' : am_M} {kc ks : Nat} {n : Nat} {x1 : Int32} {x2 : Int32} {x3 : Int32} {x4 : Int32} {x5 : Int32} {m : am_m} {t : Int32 × Int32} (h : lp_X10_doubted_33 n x1 x2 x3 x4 x5 m = some t) (hk : am_Go d 275 (98, [some (.inr (.inr (some (10, 0)))), some (.inl x1), some (.inl t.1), some (.inl t.2), some (.inl x4), none], [], am_mk m) r M' kc ks) : am_Go d 275 (33, [some (.inr (.inr (some (10, 0)))), some (.inl x1), some (.inl x2), some (.inl x3), some (.inl x4), some (.inl x5)], [], am_mk m) r M' kc ks := by
  have htb : am_tab 275 = at_275 := rfl
  induction n generalizing x2 x3 x5 with
  | zero => cases h
  | succ n ih =>
    unfold lp_X10_doubted_33 at h
    refine am_Go.n htb 5 (S' := (41, [some (.inr (.inr (some (10, 0)))), some (.inl x1), some (.inl x2), some (.inl x3), some (.inl x4), some (.inl x5)], [.inl (m.1 44 0 0), .inl x5], am_mk m)) rfl ?_
    by_cases hc4 : (m.1 44 0 0) ≤ x5
    · rw [if_pos hc4] at h
      refine am_Go.c1 htb (S' := (98, [some (.inr (.inr (some (10, 0)))), some (.inl x1), some (.inl x2), some (.inl x3), some (.inl x4), some (.inl x5)], [], am_mk m)) (if_pos hc4) ?_
      cases h
      exact am_Go.fg (by exact ⟨rfl, ⟨rfl, ⟨rfl, ⟨rfl, ⟨rfl, trivial⟩⟩⟩⟩⟩) hk
    · rw [if_neg hc4] at h
      refine am_Go.c1 htb (S' := (44, [some (.inr (.inr (some (10, 0)))), some (.inl x1), some (.inl x2), some (.inl x3), some (.inl x4), some (.inl x5)], [], am_mk m)) (if_neg hc4) ?_
      refine am_Go.n htb 3 (S' := (49, [some (.inr (.inr (some (10, 0)))), some (.inl x1), some (.inl x2), some (.inl x3), some (.inl x4), some (.inl x5)], [.inl x5, .inl x4, .inr (.inr (some (10, 0)))], am_mk m)) rfl ?_
      obtain ⟨r5, h6, h⟩ := am_bd h
      refine am_Go.cl htb rfl (ex_X10_satBoth d (by omega) x4 x5 m r5 h6) ?_
      show am_Go d 275 (52, [some (.inr (.inr (some (10, 0)))), some (.inl x1), some (.inl x2), some (.inl x3), some (.inl x4), some (.inl x5)], [.inl r5], am_mk m) _ _ _ _
      obtain ⟨q11, h12, h⟩ := am_bd h
      refine am_Go.cut (S := (92, [some (.inr (.inr (some (10, 0)))), some (.inl x1), some (.inl q11.1), some (.inl q11.2), some (.inl x4), some (.inl x5)], [], am_mk m)) ?_ (fun key => ?_)
      · refine am_Go.n htb 2 (S' := (33, [some (.inr (.inr (some (10, 0)))), some (.inl x1), some (.inl q11.1), some (.inl q11.2), some (.inl x4), some (.inl (x5 + 1))], [], am_mk m)) rfl ?_
        first | exact ih h | exact ih h hk
      · have h := h12
        by_cases hc7 : r5 = 0
        · rw [if_pos hc7] at h
          refine am_Go.c1 htb (S' := (92, [some (.inr (.inr (some (10, 0)))), some (.inl x1), some (.inl x2), some (.inl x3), some (.inl x4), some (.inl x5)], [], am_mk m)) (if_pos hc7) ?_
          cases h
          exact am_Go.fg (by exact ⟨rfl, ⟨rfl, ⟨rfl, ⟨rfl, ⟨rfl, ⟨rfl, trivial⟩⟩⟩⟩⟩⟩) key
        · rw [if_neg hc7] at h
          refine am_Go.c1 htb (S' := (55, [some (.inr (.inr (some (10, 0)))), some (.inl x1), some (.inl x2), some (.inl x3), some (.inl x4), some (.inl x5)], [], am_mk m)) (if_neg hc7) ?_
          refine am_Go.n htb 7 (S' := (67, [some (.inr (.inr (some (10, 0)))), some (.inl x1), some (.inl x2), some (.inl x3), some (.inl x4), some (.inl x5)], [.inl (((7 : Int32) * x4) + x5), .inr (.inr (some (92, 0)))], am_mk m)) rfl ?_
          obtain ⟨hg8, h⟩ := am_ck_some h
          refine am_Go.c1 htb (S' := (68, [some (.inr (.inr (some (10, 0)))), some (.inl x1), some (.inl x2), some (.inl x3), some (.inl x4), some (.inl x5)], [.inl (m.1 92 0 (((7 : Int32) * x4) + x5).toNatClampNeg)], am_mk m)) (if_neg hg8) ?_
          by_cases hc9 : (m.1 92 0 (((7 : Int32) * x4) + x5).toNatClampNeg) ≠ 0
          · rw [if_pos hc9] at h
            refine am_Go.c1 htb (S' := (92, [some (.inr (.inr (some (10, 0)))), some (.inl x1), some (.inl x2), some (.inl x3), some (.inl x4), some (.inl x5)], [], am_mk m)) (if_pos hc9) ?_
            cases h
            exact am_Go.fg (by exact ⟨rfl, ⟨rfl, ⟨rfl, ⟨rfl, ⟨rfl, ⟨rfl, trivial⟩⟩⟩⟩⟩⟩) key
          · rw [if_neg hc9] at h
            refine am_Go.c1 htb (S' := (71, [some (.inr (.inr (some (10, 0)))), some (.inl x1), some (.inl x2), some (.inl x3), some (.inl x4), some (.inl x5)], [], am_mk m)) (if_neg hc9) ?_
            refine am_Go.n htb 2 (S' := (73, [some (.inr (.inr (some (10, 0)))), some (.inl x1), some (.inl x2), some (.inl x3), some (.inl x4), some (.inl x5)], [.inl x1, .inl x2], am_mk m)) rfl ?_
            refine am_Go.cut (S := (88, [some (.inr (.inr (some (10, 0)))), some (.inl x1), some (.inl x2), some (.inl x3), some (.inl x4), some (.inl x5)], [.inl (if x2 ≠ x1 then x3 else (((10 : Int32) * x4) + x5))], am_mk m)) ?_ (fun key => ?_)
            · refine am_Go.n htb 2 (S' := (92, [some (.inr (.inr (some (10, 0)))), some (.inl x1), some (.inl (x2 + 1)), some (.inl (if x2 ≠ x1 then x3 else (((10 : Int32) * x4) + x5))), some (.inl x4), some (.inl x5)], [], am_mk m)) rfl ?_
              cases h
              exact am_Go.fg (by exact ⟨rfl, ⟨rfl, ⟨rfl, ⟨rfl, ⟨rfl, ⟨rfl, trivial⟩⟩⟩⟩⟩⟩) key
            · by_cases hc10 : x2 ≠ x1
              · refine am_Go.c1 htb (S' := (87, [some (.inr (.inr (some (10, 0)))), some (.inl x1), some (.inl x2), some (.inl x3), some (.inl x4), some (.inl x5)], [], am_mk m)) (if_pos hc10) ?_
                refine am_Go.n htb 1 (S' := (88, [some (.inr (.inr (some (10, 0)))), some (.inl x1), some (.inl x2), some (.inl x3), some (.inl x4), some (.inl x5)], [.inl x3], am_mk m)) rfl ?_
                simp only [if_pos hc10] at key
                exact am_Go.fg (by exact ⟨rfl, ⟨rfl, ⟨rfl, ⟨rfl, ⟨rfl, ⟨rfl, trivial⟩⟩⟩⟩⟩⟩) key
              · refine am_Go.c1 htb (S' := (76, [some (.inr (.inr (some (10, 0)))), some (.inl x1), some (.inl x2), some (.inl x3), some (.inl x4), some (.inl x5)], [], am_mk m)) (if_neg hc10) ?_
                refine am_Go.n htb 6 (S' := (88, [some (.inr (.inr (some (10, 0)))), some (.inl x1), some (.inl x2), some (.inl x3), some (.inl x4), some (.inl x5)], [.inl (((10 : Int32) * x4) + x5)], am_mk m)) rfl ?_
                simp only [if_neg hc10] at key
                exact am_Go.fg (by exact ⟨rfl, ⟨rfl, ⟨rfl, ⟨rfl, ⟨rfl, ⟨rfl, trivial⟩⟩⟩⟩⟩⟩) key
set_option maxRecDepth 100000 in
theorem lt_X10_doubted_16 (d : Nat) (hd : 9 ≤ d + 1) {r : Option am_V} {M' : am_M} {kc ks : Nat} {n : Nat} {x1 : Int32} {x2 : Int32} {x3 : Int32} {x4 : Int32} {m : am_m} {t : Int32 × Int32} (h : lp_X10_doubted_16 n x1 x2 x3 x4 m = some t) (hk : am_Go d 275 (104, [some (.inr (.inr (some (10, 0)))), some (.inl x1), some (.inl t.1), some (.inl t.2), none, none], [], am_mk m) r M' kc ks) : am_Go d 275 (16, [some (.inr (.inr (some (10, 0)))), some (.inl x1), some (.inl x2), some (.inl x3), some (.inl x4), none], [], am_mk m) r M' kc ks := by
  have htb : am_tab 275 = at_275 := rfl
  induction n generalizing x2 x3 x4 with
  | zero => cases h
  | succ n ih =>
    unfold lp_X10_doubted_16 at h
    refine am_Go.n htb 5 (S' := (24, [some (.inr (.inr (some (10, 0)))), some (.inl x1), some (.inl x2), some (.inl x3), some (.inl x4), none], [.inl (m.1 44 0 0), .inl x4], am_mk m)) rfl ?_
    by_cases hc3 : (m.1 44 0 0) ≤ x4
    · rw [if_pos hc3] at h
      refine am_Go.c1 htb (S' := (104, [some (.inr (.inr (some (10, 0)))), some (.inl x1), some (.inl x2), some (.inl x3), some (.inl x4), none], [], am_mk m)) (if_pos hc3) ?_
      cases h
      exact am_Go.fg (by exact ⟨rfl, ⟨rfl, ⟨rfl, ⟨rfl, trivial⟩⟩⟩⟩) hk
    · rw [if_neg hc3] at h
      refine am_Go.c1 htb (S' := (27, [some (.inr (.inr (some (10, 0)))), some (.inl x1), some (.inl x2), some (.inl x3), some (.inl x4), none], [], am_mk m)) (if_neg hc3) ?_
      refine am_Go.n htb 4 (S' := (33, [some (.inr (.inr (some (10, 0)))), some (.inl x1), some (.inl x2), some (.inl x3), some (.inl x4), some (.inl (x4 + (1 : Int32)))], [], am_mk m)) rfl ?_
      obtain ⟨q13, h14, h⟩ := am_bd h
      refine lt_X10_doubted_33 _ hd (h := h14) (hk := ?_)
      refine am_Go.n htb 2 (S' := (16, [some (.inr (.inr (some (10, 0)))), some (.inl x1), some (.inl q13.1), some (.inl q13.2), some (.inl (x4 + 1)), none], [], am_mk m)) rfl ?_
      first | exact ih h | exact ih h hk
set_option maxRecDepth 100000 in
theorem ex_X10_doubted (d : Nat) (hd : 9 ≤ d) (a1 : Int32) (m : am_m) (t : Int32 × am_m) (h : fn_X10_doubted a1 m = some t) : am_Ex am_cod d 275 [.inr (.inr (some (10, 0))), .inl a1] (am_mk m) (some (.inl t.1)) (am_mk t.2) 0 0 := by
  obtain ⟨d, rfl⟩ : ∃ e, d = e + 1 := ⟨d - 1, by omega⟩
  have htb : am_tab 275 = at_275 := rfl
  refine ⟨Nat.le_of_ble_eq_true rfl, ?_⟩
  unfold fn_X10_doubted at h
  show am_Go d 275 (0, [some (.inr (.inr (some (10, 0)))), some (.inl a1), none, none, none, none], [], am_mk m) _ _ 0 0
  refine am_Go.n htb 4 (S' := (6, [some (.inr (.inr (some (10, 0)))), some (.inl a1), none, none, none, none], [.inr (.inr (some (10, 0)))], am_mk (am_si m 10 0 0 0))) rfl ?_
  obtain ⟨r1, h2, h⟩ := am_bd h
  refine am_Go.cl htb rfl (ex_X10_layMay d (by omega)  (am_si m 10 0 0 0) r1 h2) ?_
  show am_Go d 275 (9, [some (.inr (.inr (some (10, 0)))), some (.inl a1), none, none, none, none], [], am_mk r1) _ _ _ _
  refine am_Go.n htb 6 (S' := (16, [some (.inr (.inr (some (10, 0)))), some (.inl a1), some (.inl 0), some (.inl (-1)), some (.inl 0), none], [], am_mk r1)) rfl ?_
  obtain ⟨q15, h16, h⟩ := am_bd h
  refine lt_X10_doubted_16 _ hd (h := h16) (hk := ?_)
  refine am_Go.n htb 2 (S' := (106, [some (.inr (.inr (some (10, 0)))), some (.inl a1), some (.inl q15.1), some (.inl q15.2), none, none], [.inl (-1), .inl a1], am_mk r1)) rfl ?_
  by_cases hc17 : a1 ≠ (-1 : Int32)
  · rw [if_pos hc17] at h
    refine am_Go.c1 htb (S' := (113, [some (.inr (.inr (some (10, 0)))), some (.inl a1), some (.inl q15.1), some (.inl q15.2), none, none], [], am_mk r1)) (if_pos hc17) ?_
    refine am_Go.n htb 1 (S' := (114, [some (.inr (.inr (some (10, 0)))), some (.inl a1), some (.inl q15.1), some (.inl q15.2), none, none], [.inl q15.2], am_mk r1)) rfl ?_
    cases h
    exact am_Go.rt htb rfl
  · rw [if_neg hc17] at h
    refine am_Go.c1 htb (S' := (109, [some (.inr (.inr (some (10, 0)))), some (.inl a1), some (.inl q15.1), some (.inl q15.2), none, none], [], am_mk r1)) (if_neg hc17) ?_
    refine am_Go.n htb 2 (S' := (114, [some (.inr (.inr (some (10, 0)))), some (.inl a1), some (.inl q15.1), some (.inl q15.2), none, none], [.inl q15.1], am_mk r1)) rfl ?_
    cases h
    exact am_Go.rt htb rfl
-- X10_fittingFor
set_option maxRecDepth 100000 in
theorem lt_X10_fittingFor_4 (d : Nat) (hd : 2 ≤ d + 1) {r : Option am_V} {M' : am_M} {kc ks : Nat} {n : Nat} {x1 : Int32} {x2 : Int32} {x3 : Int32} {m : am_m} {t : Int32} (h : lp_X10_fittingFor_4 n x1 x2 x3 m = some t) (hk : am_Go d 276 (50, [some (.inr (.inr (some (10, 0)))), some (.inl x1), some (.inl t), none], [], am_mk m) r M' kc ks) : am_Go d 276 (4, [some (.inr (.inr (some (10, 0)))), some (.inl x1), some (.inl x2), some (.inl x3)], [], am_mk m) r M' kc ks := by
  have htb : am_tab 276 = at_276 := rfl
  induction n generalizing x2 x3 with
  | zero => cases h
  | succ n ih =>
    unfold lp_X10_fittingFor_4 at h
    refine am_Go.n htb 5 (S' := (11, [some (.inr (.inr (some (10, 0)))), some (.inl x1), some (.inl x2), some (.inl x3)], [.inl (m.1 44 0 0), .inl x3], am_mk m)) rfl ?_
    by_cases hc1 : (m.1 44 0 0) ≤ x3
    · rw [if_pos hc1] at h
      refine am_Go.c1 htb (S' := (50, [some (.inr (.inr (some (10, 0)))), some (.inl x1), some (.inl x2), some (.inl x3)], [], am_mk m)) (if_pos hc1) ?_
      cases h
      exact am_Go.fg (by exact ⟨rfl, ⟨rfl, ⟨rfl, trivial⟩⟩⟩) hk
    · rw [if_neg hc1] at h
      refine am_Go.c1 htb (S' := (14, [some (.inr (.inr (some (10, 0)))), some (.inl x1), some (.inl x2), some (.inl x3)], [], am_mk m)) (if_neg hc1) ?_
      refine am_Go.n htb 3 (S' := (17, [some (.inr (.inr (some (10, 0)))), some (.inl x1), some (.inl x2), some (.inl x3)], [.inl x3, .inl x1, .inl x2], am_mk m)) rfl ?_
      obtain ⟨r2, h3, h⟩ := am_bd h
      refine am_Go.cl htb rfl (ex_X10_is d (by omega) x1 x3 m r2 h3) ?_
      show am_Go d 276 (20, [some (.inr (.inr (some (10, 0)))), some (.inl x1), some (.inl x2), some (.inl x3)], [.inl r2, .inl x2], am_mk m) _ _ _ _
      obtain ⟨q8, h9, h⟩ := am_bd h
      refine am_Go.cut (S := (42, [some (.inr (.inr (some (10, 0)))), some (.inl x1), some (.inl x2), some (.inl x3)], [.inl q8, .inl x2], am_mk m)) ?_ (fun key => ?_)
      · refine am_Go.n htb 4 (S' := (4, [some (.inr (.inr (some (10, 0)))), some (.inl x1), some (.inl (x2 ||| q8)), some (.inl (x3 + 1))], [], am_mk m)) rfl ?_
        first | exact ih h | exact ih h hk
      · have h := h9
        by_cases hc4 : r2 ≠ 0
        · rw [if_pos hc4] at h
          refine am_Go.c1 htb (S' := (41, [some (.inr (.inr (some (10, 0)))), some (.inl x1), some (.inl x2), some (.inl x3)], [.inl x2], am_mk m)) (if_pos hc4) ?_
          refine am_Go.n htb 1 (S' := (42, [some (.inr (.inr (some (10, 0)))), some (.inl x1), some (.inl x2), some (.inl x3)], [.inl 0, .inl x2], am_mk m)) rfl ?_
          cases h
          exact am_Go.fg (by exact ⟨rfl, ⟨rfl, ⟨rfl, ⟨rfl, trivial⟩⟩⟩⟩) key
        · rw [if_neg hc4] at h
          refine am_Go.c1 htb (S' := (23, [some (.inr (.inr (some (10, 0)))), some (.inl x1), some (.inl x2), some (.inl x3)], [.inl x2], am_mk m)) (if_neg hc4) ?_
          refine am_Go.n htb 3 (S' := (26, [some (.inr (.inr (some (10, 0)))), some (.inl x1), some (.inl x2), some (.inl x3)], [.inl x3, .inr (.inr (some (10, 0))), .inl x1, .inl x2], am_mk m)) rfl ?_
          obtain ⟨r5, h6, h⟩ := am_bd h
          refine am_Go.cl htb rfl (ex_X10_sitsWith d (by omega) x3 m r5 h6) ?_
          show am_Go d 276 (29, [some (.inr (.inr (some (10, 0)))), some (.inl x1), some (.inl x2), some (.inl x3)], [.inl r5, .inl x1, .inl x2], am_mk m) _ _ _ _
          refine am_Go.n htb 3 (S' := (32, [some (.inr (.inr (some (10, 0)))), some (.inl x1), some (.inl x2), some (.inl x3)], [.inl (x1 &&& (r5 ^^^ (-1 : Int32))), .inl x2], am_mk m)) rfl ?_
          by_cases hc7 : (x1 &&& (r5 ^^^ (-1 : Int32))) ≠ 0
          · rw [if_pos hc7] at h
            refine am_Go.c1 htb (S' := (41, [some (.inr (.inr (some (10, 0)))), some (.inl x1), some (.inl x2), some (.inl x3)], [.inl x2], am_mk m)) (if_pos hc7) ?_
            refine am_Go.n htb 1 (S' := (42, [some (.inr (.inr (some (10, 0)))), some (.inl x1), some (.inl x2), some (.inl x3)], [.inl 0, .inl x2], am_mk m)) rfl ?_
            cases h
            exact am_Go.fg (by exact ⟨rfl, ⟨rfl, ⟨rfl, ⟨rfl, trivial⟩⟩⟩⟩) key
          · rw [if_neg hc7] at h
            refine am_Go.c1 htb (S' := (35, [some (.inr (.inr (some (10, 0)))), some (.inl x1), some (.inl x2), some (.inl x3)], [.inl x2], am_mk m)) (if_neg hc7) ?_
            refine am_Go.n htb 4 (S' := (42, [some (.inr (.inr (some (10, 0)))), some (.inl x1), some (.inl x2), some (.inl x3)], [.inl ((1 : Int32) <<< (x3 &&& 31)), .inl x2], am_mk m)) rfl ?_
            cases h
            exact am_Go.fg (by exact ⟨rfl, ⟨rfl, ⟨rfl, ⟨rfl, trivial⟩⟩⟩⟩) key
set_option maxRecDepth 100000 in
theorem ex_X10_fittingFor (d : Nat) (hd : 2 ≤ d) (a1 : Int32) (m : am_m) (t : Int32) (h : fn_X10_fittingFor a1 m = some t) : am_Ex am_cod d 276 [.inr (.inr (some (10, 0))), .inl a1] (am_mk m) (some (.inl t)) (am_mk m) 0 0 := by
  obtain ⟨d, rfl⟩ : ∃ e, d = e + 1 := ⟨d - 1, by omega⟩
  have htb : am_tab 276 = at_276 := rfl
  refine ⟨Nat.le_of_ble_eq_true rfl, ?_⟩
  unfold fn_X10_fittingFor at h
  show am_Go d 276 (0, [some (.inr (.inr (some (10, 0)))), some (.inl a1), none, none], [], am_mk m) _ _ 0 0
  refine am_Go.n htb 4 (S' := (4, [some (.inr (.inr (some (10, 0)))), some (.inl a1), some (.inl 0), some (.inl 0)], [], am_mk m)) rfl ?_
  obtain ⟨q10, h11, h⟩ := am_bd h
  refine lt_X10_fittingFor_4 _ hd (h := h11) (hk := ?_)
  refine am_Go.n htb 1 (S' := (51, [some (.inr (.inr (some (10, 0)))), some (.inl a1), some (.inl q10), none], [.inl q10], am_mk m)) rfl ?_
  cases h
  exact am_Go.rt htb rfl
-- X10_fitting
set_option maxRecDepth 100000 in
theorem ex_X10_fitting (d : Nat) (hd : 9 ≤ d) (a1 : Int32) (m : am_m) (t : Int32 × am_m) (h : fn_X10_fitting a1 m = some t) : am_Ex am_cod d 277 [.inr (.inr (some (10, 0))), .inl a1] (am_mk m) (some (.inl t.1)) (am_mk t.2) 0 0 := by
  obtain ⟨d, rfl⟩ : ∃ e, d = e + 1 := ⟨d - 1, by omega⟩
  have htb : am_tab 277 = at_277 := rfl
  refine ⟨Nat.le_of_ble_eq_true rfl, ?_⟩
  unfold fn_X10_fitting at h
  show am_Go d 277 (0, [some (.inr (.inr (some (10, 0)))), some (.inl a1)], [], am_mk m) _ _ 0 0
  refine am_Go.n htb 4 (S' := (6, [some (.inr (.inr (some (10, 0)))), some (.inl a1)], [.inl a1], am_mk (am_si m 10 0 0 0))) rfl ?_
  obtain ⟨r1, h2, h⟩ := am_bd h
  refine am_Go.cl htb rfl (ex_X10_isSet d (by omega) a1 (am_si m 10 0 0 0) r1 h2) ?_
  show am_Go d 277 (9, [some (.inr (.inr (some (10, 0)))), some (.inl a1)], [.inl r1], am_mk (am_si m 10 0 0 0)) _ _ _ _
  by_cases hc3 : r1 = 0
  · rw [if_pos hc3] at h
    refine am_Go.c1 htb (S' := (20, [some (.inr (.inr (some (10, 0)))), some (.inl a1)], [], am_mk (am_si m 10 0 0 0))) (if_pos hc3) ?_
    refine am_Go.n htb 1 (S' := (21, [some (.inr (.inr (some (10, 0)))), some (.inl a1)], [.inl (-1)], am_mk (am_si m 10 0 0 0))) rfl ?_
    cases h
    exact am_Go.rt htb rfl
  · rw [if_neg hc3] at h
    refine am_Go.c1 htb (S' := (12, [some (.inr (.inr (some (10, 0)))), some (.inl a1)], [], am_mk (am_si m 10 0 0 0))) (if_neg hc3) ?_
    refine am_Go.n htb 2 (S' := (14, [some (.inr (.inr (some (10, 0)))), some (.inl a1)], [.inl a1, .inr (.inr (some (10, 0)))], am_mk (am_si m 10 0 0 0))) rfl ?_
    obtain ⟨r4, h5, h⟩ := am_bd h
    refine am_Go.cl htb rfl (ex_X10_areThere d (by omega) a1 (am_si m 10 0 0 0) r4 h5) ?_
    show am_Go d 277 (17, [some (.inr (.inr (some (10, 0)))), some (.inl a1)], [.inl r4], am_mk (am_si m 10 0 0 0)) _ _ _ _
    by_cases hc6 : r4 ≠ 0
    · rw [if_pos hc6] at h
      refine am_Go.c1 htb (S' := (22, [some (.inr (.inr (some (10, 0)))), some (.inl a1)], [], am_mk (am_si m 10 0 0 0))) (if_pos hc6) ?_
      refine am_Go.n htb 1 (S' := (23, [some (.inr (.inr (some (10, 0)))), some (.inl a1)], [.inr (.inr (some (10, 0)))], am_mk (am_si m 10 0 0 0))) rfl ?_
      obtain ⟨r7, h8, h⟩ := am_bd h
      refine am_Go.cl htb rfl (ex_X10_layMay d (by omega)  (am_si m 10 0 0 0) r7 h8) ?_
      show am_Go d 277 (26, [some (.inr (.inr (some (10, 0)))), some (.inl a1)], [], am_mk r7) _ _ _ _
      refine am_Go.n htb 2 (S' := (28, [some (.inr (.inr (some (10, 0)))), some (.inl a1)], [.inl a1, .inr (.inr (some (10, 0)))], am_mk r7)) rfl ?_
      obtain ⟨r9, h10, h⟩ := am_bd h
      refine am_Go.cl htb rfl (ex_X10_fittingFor d (by omega) a1 r7 r9 h10) ?_
      show am_Go d 277 (31, [some (.inr (.inr (some (10, 0)))), some (.inl a1)], [.inl r9], am_mk r7) _ _ _ _
      cases h
      exact am_Go.rt htb rfl
    · rw [if_neg hc6] at h
      refine am_Go.c1 htb (S' := (20, [some (.inr (.inr (some (10, 0)))), some (.inl a1)], [], am_mk (am_si m 10 0 0 0))) (if_neg hc6) ?_
      refine am_Go.n htb 1 (S' := (21, [some (.inr (.inr (some (10, 0)))), some (.inl a1)], [.inl (-1)], am_mk (am_si m 10 0 0 0))) rfl ?_
      cases h
      exact am_Go.rt htb rfl
-- X10_ask
set_option maxRecDepth 100000 in
theorem lt_X10_ask_53 (d : Nat) (hd : 9 ≤ d + 1) {r : Option am_V} {M' : am_M} {kc ks : Nat} {n : Nat} {x2 : Int32} {x3 : Int32} {x4 : Int32} {x5 : Int32} {x6 : Int32} {m : am_m} {t : Int32} (h : lp_X10_ask_53 n x2 x3 x4 x5 x6 m = some t) (hk : am_Go d 278 (141, [some (.inr (.inr (some (10, 0)))), none, some (.inl x2), some (.inl x3), none, some (.inl t), none, none], [], am_mk m) r M' kc ks) : am_Go d 278 (53, [some (.inr (.inr (some (10, 0)))), none, some (.inl x2), some (.inl x3), some (.inl x4), some (.inl x5), some (.inl x6), none], [], am_mk m) r M' kc ks := by
  have htb : am_tab 278 = at_278 := rfl
  induction n generalizing x4 x5 x6 with
  | zero => cases h
  | succ n ih =>
    unfold lp_X10_ask_53 at h
    refine am_Go.n htb 5 (S' := (61, [some (.inr (.inr (some (10, 0)))), none, some (.inl x2), some (.inl x3), some (.inl x4), some (.inl x5), some (.inl x6), none], [.inl (m.1 44 0 0), .inl x6], am_mk m)) rfl ?_
    by_cases hc14 : (m.1 44 0 0) ≤ x6
    · rw [if_pos hc14] at h
      refine am_Go.c1 htb (S' := (141, [some (.inr (.inr (some (10, 0)))), none, some (.inl x2), some (.inl x3), some (.inl x4), some (.inl x5), some (.inl x6), none], [], am_mk m)) (if_pos hc14) ?_
      cases h
      exact am_Go.fg (by exact ⟨rfl, ⟨rfl, ⟨rfl, ⟨rfl, trivial⟩⟩⟩⟩) hk
    · rw [if_neg hc14] at h
      refine am_Go.c1 htb (S' := (64, [some (.inr (.inr (some (10, 0)))), none, some (.inl x2), some (.inl x3), some (.inl x4), some (.inl x5), some (.inl x6), none], [], am_mk m)) (if_neg hc14) ?_
      refine am_Go.n htb 1 (S' := (65, [some (.inr (.inr (some (10, 0)))), none, some (.inl x2), some (.inl x3), some (.inl x4), some (.inl x5), some (.inl x6), none], [.inl x3], am_mk m)) rfl ?_
      by_cases hc15 : x3 = 0
      · rw [if_pos hc15] at h
        refine am_Go.c1 htb (S' := (141, [some (.inr (.inr (some (10, 0)))), none, some (.inl x2), some (.inl x3), some (.inl x4), some (.inl x5), some (.inl x6), none], [], am_mk m)) (if_pos hc15) ?_
        cases h
        exact am_Go.fg (by exact ⟨rfl, ⟨rfl, ⟨rfl, ⟨rfl, trivial⟩⟩⟩⟩) hk
      · rw [if_neg hc15] at h
        refine am_Go.c1 htb (S' := (68, [some (.inr (.inr (some (10, 0)))), none, some (.inl x2), some (.inl x3), some (.inl x4), some (.inl x5), some (.inl x6), none], [], am_mk m)) (if_neg hc15) ?_
        refine am_Go.n htb 4 (S' := (73, [some (.inr (.inr (some (10, 0)))), none, some (.inl x2), some (.inl x3), some (.inl x4), some (.inl x5), some (.inl x6), none], [.inl x6, .inr (.inr (some (10, 0))), .inl x3, .inl 2], am_mk m)) rfl ?_
        obtain ⟨r16, h17, h⟩ := am_bd h
        refine am_Go.cl htb rfl (ex_X10_sitsWith d (by omega) x6 m r16 h17) ?_
        show am_Go d 278 (76, [some (.inr (.inr (some (10, 0)))), none, some (.inl x2), some (.inl x3), some (.inl x4), some (.inl x5), some (.inl x6), none], [.inl r16, .inl x3, .inl 2], am_mk m) _ _ _ _
        refine am_Go.n htb 1 (S' := (77, [some (.inr (.inr (some (10, 0)))), none, some (.inl x2), some (.inl x3), some (.inl x4), some (.inl x5), some (.inl x6), none], [.inl (x3 &&& r16), .inl 2], am_mk m)) rfl ?_
        obtain ⟨r18, h19, h⟩ := am_bd h
        refine am_Go.cl htb rfl (ex_X10_ones d (by omega) (x3 &&& r16) m r18 h19) ?_
        show am_Go d 278 (80, [some (.inr (.inr (some (10, 0)))), none, some (.inl x2), some (.inl x3), some (.inl x4), some (.inl x5), some (.inl x6), none], [.inl r18, .inl 2], am_mk m) _ _ _ _
        refine am_Go.n htb 2 (S' := (82, [some (.inr (.inr (some (10, 0)))), none, some (.inl x2), some (.inl x3), some (.inl x4), some (.inl x5), some (.inl x6), none], [.inl x3, .inl ((2 : Int32) * r18)], am_mk m)) rfl ?_
        obtain ⟨r20, h21, h⟩ := am_bd h
        refine am_Go.cl htb rfl (ex_X10_ones d (by omega) x3 m r20 h21) ?_
        show am_Go d 278 (85, [some (.inr (.inr (some (10, 0)))), none, some (.inl x2), some (.inl x3), some (.inl x4), some (.inl x5), some (.inl x6), none], [.inl r20, .inl ((2 : Int32) * r18)], am_mk m) _ _ _ _
        refine am_Go.n htb 3 (S' := (90, [some (.inr (.inr (some (10, 0)))), none, some (.inl x2), some (.inl x3), some (.inl x4), some (.inl x5), some (.inl x6), some (.inl (((2 : Int32) * r18) - r20))], [.inl (((2 : Int32) * r18) - r20)], am_mk m)) rfl ?_
        refine am_Go.cut (S := (101, [some (.inr (.inr (some (10, 0)))), none, some (.inl x2), some (.inl x3), some (.inl x4), some (.inl x5), some (.inl x6), some (.inl (((2 : Int32) * r18) - r20))], [.inl (if 0 ≤ (((2 : Int32) * r18) - r20) then (((2 : Int32) * r18) - r20) else (-(((2 : Int32) * r18) - r20)))], am_mk m)) ?_ (fun key => ?_)
        · refine am_Go.n htb 3 (S' := (107, [some (.inr (.inr (some (10, 0)))), none, some (.inl x2), some (.inl x3), some (.inl x4), some (.inl x5), some (.inl x6), some (.inl (if 0 ≤ (((2 : Int32) * r18) - r20) then (((2 : Int32) * r18) - r20) else (-(((2 : Int32) * r18) - r20))))], [.inl x4, .inl (if 0 ≤ (((2 : Int32) * r18) - r20) then (((2 : Int32) * r18) - r20) else (-(((2 : Int32) * r18) - r20)))], am_mk m)) rfl ?_
          refine am_Go.cut (S := (117, [some (.inr (.inr (some (10, 0)))), none, some (.inl x2), some (.inl x3), some (.inl x4), some (.inl x5), some (.inl x6), some (.inl (if 0 ≤ (((2 : Int32) * r18) - r20) then (((2 : Int32) * r18) - r20) else (-(((2 : Int32) * r18) - r20))))], [.inl (if x4 ≤ (if 0 ≤ (((2 : Int32) * r18) - r20) then (((2 : Int32) * r18) - r20) else (-(((2 : Int32) * r18) - r20))) then x5 else x6)], am_mk m)) ?_ (fun key => ?_)
          · refine am_Go.n htb 3 (S' := (123, [some (.inr (.inr (some (10, 0)))), none, some (.inl x2), some (.inl x3), some (.inl x4), some (.inl (if x4 ≤ (if 0 ≤ (((2 : Int32) * r18) - r20) then (((2 : Int32) * r18) - r20) else (-(((2 : Int32) * r18) - r20))) then x5 else x6)), some (.inl x6), some (.inl (if 0 ≤ (((2 : Int32) * r18) - r20) then (((2 : Int32) * r18) - r20) else (-(((2 : Int32) * r18) - r20))))], [.inl x4, .inl (if 0 ≤ (((2 : Int32) * r18) - r20) then (((2 : Int32) * r18) - r20) else (-(((2 : Int32) * r18) - r20)))], am_mk m)) rfl ?_
            refine am_Go.cut (S := (133, [some (.inr (.inr (some (10, 0)))), none, some (.inl x2), some (.inl x3), some (.inl x4), some (.inl (if x4 ≤ (if 0 ≤ (((2 : Int32) * r18) - r20) then (((2 : Int32) * r18) - r20) else (-(((2 : Int32) * r18) - r20))) then x5 else x6)), some (.inl x6), some (.inl (if 0 ≤ (((2 : Int32) * r18) - r20) then (((2 : Int32) * r18) - r20) else (-(((2 : Int32) * r18) - r20))))], [.inl (if x4 ≤ (if 0 ≤ (((2 : Int32) * r18) - r20) then (((2 : Int32) * r18) - r20) else (-(((2 : Int32) * r18) - r20))) then x4 else (if 0 ≤ (((2 : Int32) * r18) - r20) then (((2 : Int32) * r18) - r20) else (-(((2 : Int32) * r18) - r20))))], am_mk m)) ?_ (fun key => ?_)
            · refine am_Go.n htb 3 (S' := (53, [some (.inr (.inr (some (10, 0)))), none, some (.inl x2), some (.inl x3), some (.inl (if x4 ≤ (if 0 ≤ (((2 : Int32) * r18) - r20) then (((2 : Int32) * r18) - r20) else (-(((2 : Int32) * r18) - r20))) then x4 else (if 0 ≤ (((2 : Int32) * r18) - r20) then (((2 : Int32) * r18) - r20) else (-(((2 : Int32) * r18) - r20))))), some (.inl (if x4 ≤ (if 0 ≤ (((2 : Int32) * r18) - r20) then (((2 : Int32) * r18) - r20) else (-(((2 : Int32) * r18) - r20))) then x5 else x6)), some (.inl (x6 + 1)), some (.inl (if 0 ≤ (((2 : Int32) * r18) - r20) then (((2 : Int32) * r18) - r20) else (-(((2 : Int32) * r18) - r20))))], [], am_mk m)) rfl ?_
              refine am_Go.fg (L0 := [some (.inr (.inr (some (10, 0)))), none, some (.inl x2), some (.inl x3), some (.inl (if x4 ≤ (if 0 ≤ (((2 : Int32) * r18) - r20) then (((2 : Int32) * r18) - r20) else (-(((2 : Int32) * r18) - r20))) then x4 else (if 0 ≤ (((2 : Int32) * r18) - r20) then (((2 : Int32) * r18) - r20) else (-(((2 : Int32) * r18) - r20))))), some (.inl (if x4 ≤ (if 0 ≤ (((2 : Int32) * r18) - r20) then (((2 : Int32) * r18) - r20) else (-(((2 : Int32) * r18) - r20))) then x5 else x6)), some (.inl (x6 + 1)), none]) (by exact ⟨rfl, ⟨rfl, ⟨rfl, ⟨rfl, ⟨rfl, ⟨rfl, trivial⟩⟩⟩⟩⟩⟩) ?_
              first | exact ih h | exact ih h hk
            · by_cases hc24 : x4 ≤ (if 0 ≤ (((2 : Int32) * r18) - r20) then (((2 : Int32) * r18) - r20) else (-(((2 : Int32) * r18) - r20)))
              · refine am_Go.c1 htb (S' := (131, [some (.inr (.inr (some (10, 0)))), none, some (.inl x2), some (.inl x3), some (.inl x4), some (.inl (if x4 ≤ (if 0 ≤ (((2 : Int32) * r18) - r20) then (((2 : Int32) * r18) - r20) else (-(((2 : Int32) * r18) - r20))) then x5 else x6)), some (.inl x6), some (.inl (if 0 ≤ (((2 : Int32) * r18) - r20) then (((2 : Int32) * r18) - r20) else (-(((2 : Int32) * r18) - r20))))], [], am_mk m)) (if_pos hc24) ?_
                refine am_Go.n htb 1 (S' := (133, [some (.inr (.inr (some (10, 0)))), none, some (.inl x2), some (.inl x3), some (.inl x4), some (.inl (if x4 ≤ (if 0 ≤ (((2 : Int32) * r18) - r20) then (((2 : Int32) * r18) - r20) else (-(((2 : Int32) * r18) - r20))) then x5 else x6)), some (.inl x6), some (.inl (if 0 ≤ (((2 : Int32) * r18) - r20) then (((2 : Int32) * r18) - r20) else (-(((2 : Int32) * r18) - r20))))], [.inl x4], am_mk m)) rfl ?_
                simp only [if_pos hc24] at key ⊢
                exact am_Go.fg (by exact ⟨rfl, ⟨rfl, ⟨rfl, ⟨rfl, ⟨rfl, ⟨rfl, ⟨rfl, trivial⟩⟩⟩⟩⟩⟩⟩) key
              · refine am_Go.c1 htb (S' := (126, [some (.inr (.inr (some (10, 0)))), none, some (.inl x2), some (.inl x3), some (.inl x4), some (.inl (if x4 ≤ (if 0 ≤ (((2 : Int32) * r18) - r20) then (((2 : Int32) * r18) - r20) else (-(((2 : Int32) * r18) - r20))) then x5 else x6)), some (.inl x6), some (.inl (if 0 ≤ (((2 : Int32) * r18) - r20) then (((2 : Int32) * r18) - r20) else (-(((2 : Int32) * r18) - r20))))], [], am_mk m)) (if_neg hc24) ?_
                refine am_Go.n htb 2 (S' := (133, [some (.inr (.inr (some (10, 0)))), none, some (.inl x2), some (.inl x3), some (.inl x4), some (.inl (if x4 ≤ (if 0 ≤ (((2 : Int32) * r18) - r20) then (((2 : Int32) * r18) - r20) else (-(((2 : Int32) * r18) - r20))) then x5 else x6)), some (.inl x6), some (.inl (if 0 ≤ (((2 : Int32) * r18) - r20) then (((2 : Int32) * r18) - r20) else (-(((2 : Int32) * r18) - r20))))], [.inl (if 0 ≤ (((2 : Int32) * r18) - r20) then (((2 : Int32) * r18) - r20) else (-(((2 : Int32) * r18) - r20)))], am_mk m)) rfl ?_
                simp only [if_neg hc24] at key ⊢
                exact am_Go.fg (by exact ⟨rfl, ⟨rfl, ⟨rfl, ⟨rfl, ⟨rfl, ⟨rfl, ⟨rfl, trivial⟩⟩⟩⟩⟩⟩⟩) key
          · by_cases hc23 : x4 ≤ (if 0 ≤ (((2 : Int32) * r18) - r20) then (((2 : Int32) * r18) - r20) else (-(((2 : Int32) * r18) - r20)))
            · refine am_Go.c1 htb (S' := (115, [some (.inr (.inr (some (10, 0)))), none, some (.inl x2), some (.inl x3), some (.inl x4), some (.inl x5), some (.inl x6), some (.inl (if 0 ≤ (((2 : Int32) * r18) - r20) then (((2 : Int32) * r18) - r20) else (-(((2 : Int32) * r18) - r20))))], [], am_mk m)) (if_pos hc23) ?_
              refine am_Go.n htb 1 (S' := (117, [some (.inr (.inr (some (10, 0)))), none, some (.inl x2), some (.inl x3), some (.inl x4), some (.inl x5), some (.inl x6), some (.inl (if 0 ≤ (((2 : Int32) * r18) - r20) then (((2 : Int32) * r18) - r20) else (-(((2 : Int32) * r18) - r20))))], [.inl x5], am_mk m)) rfl ?_
              simp only [if_pos hc23] at key
              exact am_Go.fg (by exact ⟨rfl, ⟨rfl, ⟨rfl, ⟨rfl, ⟨rfl, ⟨rfl, ⟨rfl, trivial⟩⟩⟩⟩⟩⟩⟩) key
            · refine am_Go.c1 htb (S' := (110, [some (.inr (.inr (some (10, 0)))), none, some (.inl x2), some (.inl x3), some (.inl x4), some (.inl x5), some (.inl x6), some (.inl (if 0 ≤ (((2 : Int32) * r18) - r20) then (((2 : Int32) * r18) - r20) else (-(((2 : Int32) * r18) - r20))))], [], am_mk m)) (if_neg hc23) ?_
              refine am_Go.n htb 2 (S' := (117, [some (.inr (.inr (some (10, 0)))), none, some (.inl x2), some (.inl x3), some (.inl x4), some (.inl x5), some (.inl x6), some (.inl (if 0 ≤ (((2 : Int32) * r18) - r20) then (((2 : Int32) * r18) - r20) else (-(((2 : Int32) * r18) - r20))))], [.inl x6], am_mk m)) rfl ?_
              simp only [if_neg hc23] at key
              exact am_Go.fg (by exact ⟨rfl, ⟨rfl, ⟨rfl, ⟨rfl, ⟨rfl, ⟨rfl, ⟨rfl, trivial⟩⟩⟩⟩⟩⟩⟩) key
        · by_cases hc22 : 0 ≤ (((2 : Int32) * r18) - r20)
          · refine am_Go.c1 htb (S' := (99, [some (.inr (.inr (some (10, 0)))), none, some (.inl x2), some (.inl x3), some (.inl x4), some (.inl x5), some (.inl x6), some (.inl (((2 : Int32) * r18) - r20))], [], am_mk m)) (if_pos hc22) ?_
            refine am_Go.n htb 1 (S' := (101, [some (.inr (.inr (some (10, 0)))), none, some (.inl x2), some (.inl x3), some (.inl x4), some (.inl x5), some (.inl x6), some (.inl (((2 : Int32) * r18) - r20))], [.inl (((2 : Int32) * r18) - r20)], am_mk m)) rfl ?_
            simp only [if_pos hc22] at key
            exact am_Go.fg (by exact ⟨rfl, ⟨rfl, ⟨rfl, ⟨rfl, ⟨rfl, ⟨rfl, ⟨rfl, trivial⟩⟩⟩⟩⟩⟩⟩) key
          · refine am_Go.c1 htb (S' := (93, [some (.inr (.inr (some (10, 0)))), none, some (.inl x2), some (.inl x3), some (.inl x4), some (.inl x5), some (.inl x6), some (.inl (((2 : Int32) * r18) - r20))], [], am_mk m)) (if_neg hc22) ?_
            refine am_Go.n htb 3 (S' := (101, [some (.inr (.inr (some (10, 0)))), none, some (.inl x2), some (.inl x3), some (.inl x4), some (.inl x5), some (.inl x6), some (.inl (((2 : Int32) * r18) - r20))], [.inl (-(((2 : Int32) * r18) - r20))], am_mk m)) rfl ?_
            simp only [if_neg hc22] at key
            exact am_Go.fg (by exact ⟨rfl, ⟨rfl, ⟨rfl, ⟨rfl, ⟨rfl, ⟨rfl, ⟨rfl, trivial⟩⟩⟩⟩⟩⟩⟩) key
set_option maxRecDepth 100000 in
theorem ex_X10_ask (d : Nat) (hd : 9 ≤ d) (a1 : Int32) (a2 : Int32) (m : am_m) (t : Int32 × am_m) (h : fn_X10_ask a1 a2 m = some t) : am_Ex am_cod d 278 [.inr (.inr (some (10, 0))), .inl a1, .inl a2] (am_mk m) (some (.inl t.1)) (am_mk t.2) 0 0 := by
  obtain ⟨d, rfl⟩ : ∃ e, d = e + 1 := ⟨d - 1, by omega⟩
  have htb : am_tab 278 = at_278 := rfl
  refine ⟨Nat.le_of_ble_eq_true rfl, ?_⟩
  unfold fn_X10_ask at h
  show am_Go d 278 (0, [some (.inr (.inr (some (10, 0)))), some (.inl a1), some (.inl a2), none, none, none, none, none], [], am_mk m) _ _ 0 0
  refine am_Go.n htb 4 (S' := (6, [some (.inr (.inr (some (10, 0)))), some (.inl a1), some (.inl a2), none, none, none, none, none], [.inl a1], am_mk (am_si m 10 0 0 0))) rfl ?_
  obtain ⟨r1, h2, h⟩ := am_bd h
  refine am_Go.cl htb rfl (ex_X10_isSet d (by omega) a1 (am_si m 10 0 0 0) r1 h2) ?_
  show am_Go d 278 (9, [some (.inr (.inr (some (10, 0)))), some (.inl a1), some (.inl a2), none, none, none, none, none], [.inl r1], am_mk (am_si m 10 0 0 0)) _ _ _ _
  by_cases hc3 : r1 = 0
  · rw [if_pos hc3] at h
    refine am_Go.c1 htb (S' := (30, [some (.inr (.inr (some (10, 0)))), some (.inl a1), some (.inl a2), none, none, none, none, none], [], am_mk (am_si m 10 0 0 0))) (if_pos hc3) ?_
    refine am_Go.n htb 1 (S' := (31, [some (.inr (.inr (some (10, 0)))), some (.inl a1), some (.inl a2), none, none, none, none, none], [.inl (-1)], am_mk (am_si m 10 0 0 0))) rfl ?_
    cases h
    exact am_Go.rt htb rfl
  · rw [if_neg hc3] at h
    refine am_Go.c1 htb (S' := (12, [some (.inr (.inr (some (10, 0)))), some (.inl a1), some (.inl a2), none, none, none, none, none], [], am_mk (am_si m 10 0 0 0))) (if_neg hc3) ?_
    refine am_Go.n htb 2 (S' := (14, [some (.inr (.inr (some (10, 0)))), some (.inl a1), some (.inl a2), none, none, none, none, none], [.inl a1, .inr (.inr (some (10, 0)))], am_mk (am_si m 10 0 0 0))) rfl ?_
    obtain ⟨r4, h5, h⟩ := am_bd h
    refine am_Go.cl htb rfl (ex_X10_areThere d (by omega) a1 (am_si m 10 0 0 0) r4 h5) ?_
    show am_Go d 278 (17, [some (.inr (.inr (some (10, 0)))), some (.inl a1), some (.inl a2), none, none, none, none, none], [.inl r4], am_mk (am_si m 10 0 0 0)) _ _ _ _
    by_cases hc6 : r4 = 0
    · rw [if_pos hc6] at h
      refine am_Go.c1 htb (S' := (30, [some (.inr (.inr (some (10, 0)))), some (.inl a1), some (.inl a2), none, none, none, none, none], [], am_mk (am_si m 10 0 0 0))) (if_pos hc6) ?_
      refine am_Go.n htb 1 (S' := (31, [some (.inr (.inr (some (10, 0)))), some (.inl a1), some (.inl a2), none, none, none, none, none], [.inl (-1)], am_mk (am_si m 10 0 0 0))) rfl ?_
      cases h
      exact am_Go.rt htb rfl
    · rw [if_neg hc6] at h
      refine am_Go.c1 htb (S' := (20, [some (.inr (.inr (some (10, 0)))), some (.inl a1), some (.inl a2), none, none, none, none, none], [], am_mk (am_si m 10 0 0 0))) (if_neg hc6) ?_
      refine am_Go.n htb 4 (S' := (24, [some (.inr (.inr (some (10, 0)))), some (.inl a1), some (.inl a2), none, none, none, none, none], [.inr (.inl 1), .inr (.inl 0), .inr (.inl a2.toInt64)], am_mk (am_si m 10 0 0 0))) rfl ?_
      obtain ⟨r7, h8, h⟩ := am_bd h
      refine am_Go.cl htb rfl (ex_X10_in d (by omega) a2.toInt64 0 1 (am_si m 10 0 0 0) r7 h8) ?_
      show am_Go d 278 (27, [some (.inr (.inr (some (10, 0)))), some (.inl a1), some (.inl a2), none, none, none, none, none], [.inl r7], am_mk (am_si m 10 0 0 0)) _ _ _ _
      by_cases hc9 : r7 ≠ 0
      · rw [if_pos hc9] at h
        refine am_Go.c1 htb (S' := (32, [some (.inr (.inr (some (10, 0)))), some (.inl a1), some (.inl a2), none, none, none, none, none], [], am_mk (am_si m 10 0 0 0))) (if_pos hc9) ?_
        refine am_Go.n htb 1 (S' := (33, [some (.inr (.inr (some (10, 0)))), some (.inl a1), some (.inl a2), none, none, none, none, none], [.inr (.inr (some (10, 0)))], am_mk (am_si m 10 0 0 0))) rfl ?_
        obtain ⟨r10, h11, h⟩ := am_bd h
        refine am_Go.cl htb rfl (ex_X10_layMay d (by omega)  (am_si m 10 0 0 0) r10 h11) ?_
        show am_Go d 278 (36, [some (.inr (.inr (some (10, 0)))), some (.inl a1), some (.inl a2), none, none, none, none, none], [], am_mk r10) _ _ _ _
        refine am_Go.n htb 2 (S' := (38, [some (.inr (.inr (some (10, 0)))), some (.inl a1), some (.inl a2), none, none, none, none, none], [.inl a1, .inr (.inr (some (10, 0)))], am_mk r10)) rfl ?_
        obtain ⟨r12, h13, h⟩ := am_bd h
        refine am_Go.cl htb rfl (ex_X10_fittingFor d (by omega) a1 r10 r12 h13) ?_
        show am_Go d 278 (41, [some (.inr (.inr (some (10, 0)))), some (.inl a1), some (.inl a2), none, none, none, none, none], [.inl r12], am_mk r10) _ _ _ _
        refine am_Go.n htb 7 (S' := (53, [some (.inr (.inr (some (10, 0)))), some (.inl a1), some (.inl a2), some (.inl r12), some (.inl 100000000), some (.inl (-1)), some (.inl 0), none], [], am_mk r10)) rfl ?_
        refine am_Go.fg (L0 := [some (.inr (.inr (some (10, 0)))), none, some (.inl a2), some (.inl r12), some (.inl 100000000), some (.inl (-1)), some (.inl 0), none]) (by exact ⟨rfl, ⟨rfl, ⟨rfl, ⟨rfl, ⟨rfl, ⟨rfl, trivial⟩⟩⟩⟩⟩⟩) ?_
        obtain ⟨q25, h26, h⟩ := am_bd h
        refine lt_X10_ask_53 _ hd (h := h26) (hk := ?_)
        refine am_Go.n htb 2 (S' := (144, [some (.inr (.inr (some (10, 0)))), none, some (.inl a2), some (.inl r12), none, some (.inl q25), none, none], [.inl (-1), .inl q25], am_mk r10)) rfl ?_
        by_cases hc27 : q25 = (-1 : Int32)
        · rw [if_pos hc27] at h
          refine am_Go.c1 htb (S' := (151, [some (.inr (.inr (some (10, 0)))), none, some (.inl a2), some (.inl r12), none, some (.inl q25), none, none], [], am_mk r10)) (if_pos hc27) ?_
          refine am_Go.n htb 2 (S' := (167, [some (.inr (.inr (some (10, 0)))), none, some (.inl a2), some (.inl r12), none, some (.inl q25), none, none], [.inl q25], am_mk r10)) rfl ?_
          cases h
          exact am_Go.rt htb rfl
        · rw [if_neg hc27] at h
          refine am_Go.c1 htb (S' := (147, [some (.inr (.inr (some (10, 0)))), none, some (.inl a2), some (.inl r12), none, some (.inl q25), none, none], [], am_mk r10)) (if_neg hc27) ?_
          refine am_Go.n htb 1 (S' := (148, [some (.inr (.inr (some (10, 0)))), none, some (.inl a2), some (.inl r12), none, some (.inl q25), none, none], [.inl a2], am_mk r10)) rfl ?_
          by_cases hc28 : a2 ≠ 0
          · rw [if_pos hc28] at h
            refine am_Go.c1 htb (S' := (156, [some (.inr (.inr (some (10, 0)))), none, some (.inl a2), some (.inl r12), none, some (.inl q25), none, none], [], am_mk r10)) (if_pos hc28) ?_
            refine am_Go.n htb 3 (S' := (160, [some (.inr (.inr (some (10, 0)))), none, some (.inl a2), some (.inl r12), none, some (.inl q25), none, none], [.inl q25, .inr (.inr (some (10, 0))), .inl r12], am_mk r10)) rfl ?_
            obtain ⟨r29, h30, h⟩ := am_bd h
            refine am_Go.cl htb rfl (ex_X10_sitsWith d (by omega) q25 r10 r29 h30) ?_
            show am_Go d 278 (163, [some (.inr (.inr (some (10, 0)))), none, some (.inl a2), some (.inl r12), none, some (.inl q25), none, none], [.inl r29, .inl r12], am_mk r10) _ _ _ _
            refine am_Go.n htb 1 (S' := (164, [some (.inr (.inr (some (10, 0)))), none, some (.inl a2), some (.inl r12), none, some (.inl q25), none, none], [.inl (r12 &&& r29)], am_mk r10)) rfl ?_
            obtain ⟨r31, h32, h⟩ := am_bd h
            refine am_Go.cl htb rfl (ex_X10_ones d (by omega) (r12 &&& r29) r10 r31 h32) ?_
            show am_Go d 278 (167, [some (.inr (.inr (some (10, 0)))), none, some (.inl a2), some (.inl r12), none, some (.inl q25), none, none], [.inl r31], am_mk r10) _ _ _ _
            cases h
            exact am_Go.rt htb rfl
          · rw [if_neg hc28] at h
            refine am_Go.c1 htb (S' := (151, [some (.inr (.inr (some (10, 0)))), none, some (.inl a2), some (.inl r12), none, some (.inl q25), none, none], [], am_mk r10)) (if_neg hc28) ?_
            refine am_Go.n htb 2 (S' := (167, [some (.inr (.inr (some (10, 0)))), none, some (.inl a2), some (.inl r12), none, some (.inl q25), none, none], [.inl q25], am_mk r10)) rfl ?_
            cases h
            exact am_Go.rt htb rfl
      · rw [if_neg hc9] at h
        refine am_Go.c1 htb (S' := (30, [some (.inr (.inr (some (10, 0)))), some (.inl a1), some (.inl a2), none, none, none, none, none], [], am_mk (am_si m 10 0 0 0))) (if_neg hc9) ?_
        refine am_Go.n htb 1 (S' := (31, [some (.inr (.inr (some (10, 0)))), some (.inl a1), some (.inl a2), none, none, none, none, none], [.inl (-1)], am_mk (am_si m 10 0 0 0))) rfl ?_
        cases h
        exact am_Go.rt htb rfl
-- X10_lasts
set_option maxRecDepth 100000 in
theorem lt_X10_lasts_23 (d : Nat) (hd : 8 ≤ d + 1) {r : Option am_V} {M' : am_M} {kc ks : Nat} {n : Nat} {x1 : Int32} {x2 : Int32} {m : am_m} {t : Int32 × am_m} (h : lp_X10_lasts_23 n x1 x2 m = some t) (hk : am_Go d 279 (51, [some (.inr (.inr (some (10, 0)))), some (.inl x1), some (.inl t.1)], [], am_mk t.2) r M' kc ks) : am_Go d 279 (23, [some (.inr (.inr (some (10, 0)))), some (.inl x1), some (.inl x2)], [], am_mk m) r M' kc ks := by
  have htb : am_tab 279 = at_279 := rfl
  induction n generalizing x2 m with
  | zero => cases h
  | succ n ih =>
    unfold lp_X10_lasts_23 at h
    refine am_Go.n htb 2 (S' := (26, [some (.inr (.inr (some (10, 0)))), some (.inl x1), some (.inl x2)], [.inl 100, .inl x2], am_mk m)) rfl ?_
    by_cases hc6 : (100 : Int32) < x2
    · rw [if_pos hc6] at h
      refine am_Go.c1 htb (S' := (51, [some (.inr (.inr (some (10, 0)))), some (.inl x1), some (.inl x2)], [], am_mk m)) (if_pos hc6) ?_
      cases h
      exact am_Go.fg (by exact ⟨rfl, ⟨rfl, ⟨rfl, trivial⟩⟩⟩) hk
    · rw [if_neg hc6] at h
      refine am_Go.c1 htb (S' := (29, [some (.inr (.inr (some (10, 0)))), some (.inl x1), some (.inl x2)], [], am_mk m)) (if_neg hc6) ?_
      refine am_Go.n htb 5 (S' := (37, [some (.inr (.inr (some (10, 0)))), some (.inl x1), some (.inl x2)], [.inl ((7 : Int32) + x1), .inr (.inr (some (44, 0)))], am_mk m)) rfl ?_
      obtain ⟨hg7, h⟩ := am_ck_some h
      refine am_Go.c1 htb (S' := (38, [some (.inr (.inr (some (10, 0)))), some (.inl x1), some (.inl x2)], [.inl (m.1 44 0 ((7 : Int32) + x1).toNatClampNeg)], am_mk m)) (if_neg hg7) ?_
      by_cases hc8 : (m.1 44 0 ((7 : Int32) + x1).toNatClampNeg) ≤ 0
      · rw [if_pos hc8] at h
        refine am_Go.c1 htb (S' := (51, [some (.inr (.inr (some (10, 0)))), some (.inl x1), some (.inl x2)], [], am_mk m)) (if_pos hc8) ?_
        cases h
        exact am_Go.fg (by exact ⟨rfl, ⟨rfl, ⟨rfl, trivial⟩⟩⟩) hk
      · rw [if_neg hc8] at h
        refine am_Go.c1 htb (S' := (41, [some (.inr (.inr (some (10, 0)))), some (.inl x1), some (.inl x2)], [], am_mk m)) (if_neg hc8) ?_
        refine am_Go.n htb 1 (S' := (42, [some (.inr (.inr (some (10, 0)))), some (.inl x1), some (.inl x2)], [.inr (.inr (some (10, 0)))], am_mk m)) rfl ?_
        obtain ⟨r9, h10, h⟩ := am_bd h
        refine am_Go.cl htb rfl (ex_X10_passIt d (by omega)  m r9 h10) ?_
        show am_Go d 279 (45, [some (.inr (.inr (some (10, 0)))), some (.inl x1), some (.inl x2)], [], am_mk r9) _ _ _ _
        refine am_Go.n htb 2 (S' := (23, [some (.inr (.inr (some (10, 0)))), some (.inl x1), some (.inl (x2 + 1))], [], am_mk r9)) rfl ?_
        first | exact ih h | exact ih h hk
set_option maxRecDepth 100000 in
theorem ex_X10_lasts (d : Nat) (hd : 8 ≤ d) (a1 : Int32) (m : am_m) (t : Int32 × am_m) (h : fn_X10_lasts a1 m = some t) : am_Ex am_cod d 279 [.inr (.inr (some (10, 0))), .inl a1] (am_mk m) (some (.inl t.1)) (am_mk t.2) 0 0 := by
  obtain ⟨d, rfl⟩ : ∃ e, d = e + 1 := ⟨d - 1, by omega⟩
  have htb : am_tab 279 = at_279 := rfl
  refine ⟨Nat.le_of_ble_eq_true rfl, ?_⟩
  unfold fn_X10_lasts at h
  show am_Go d 279 (0, [some (.inr (.inr (some (10, 0)))), some (.inl a1), none], [], am_mk m) _ _ 0 0
  refine am_Go.n htb 5 (S' := (7, [some (.inr (.inr (some (10, 0)))), some (.inl a1), none], [.inl a1, .inr (.inr (some (10, 0)))], am_mk (am_si m 10 0 0 0))) rfl ?_
  obtain ⟨r1, h2, h⟩ := am_bd h
  refine am_Go.cl htb rfl (ex_X10_isFolk d (by omega) a1 (am_si m 10 0 0 0) r1 h2) ?_
  show am_Go d 279 (10, [some (.inr (.inr (some (10, 0)))), some (.inl a1), none], [.inl r1], am_mk (am_si m 10 0 0 0)) _ _ _ _
  by_cases hc3 : r1 ≠ 0
  · rw [if_pos hc3] at h
    refine am_Go.c1 htb (S' := (15, [some (.inr (.inr (some (10, 0)))), some (.inl a1), none], [], am_mk (am_si m 10 0 0 0))) (if_pos hc3) ?_
    refine am_Go.n htb 2 (S' := (18, [some (.inr (.inr (some (10, 0)))), some (.inl a1), none], [.inl 16, .inr (.inr (some (10, 0)))], am_mk (am_si m 10 0 0 0))) rfl ?_
    obtain ⟨r4, h5, h⟩ := am_bd h
    refine am_Go.cl htb rfl (ex_X10_keepAll d (by omega) 16 (am_si m 10 0 0 0) r4 h5) ?_
    show am_Go d 279 (21, [some (.inr (.inr (some (10, 0)))), some (.inl a1), none], [], am_mk r4) _ _ _ _
    refine am_Go.n htb 2 (S' := (23, [some (.inr (.inr (some (10, 0)))), some (.inl a1), some (.inl 0)], [], am_mk r4)) rfl ?_
    obtain ⟨q11, h12, h⟩ := am_bd h
    refine lt_X10_lasts_23 _ hd (h := h12) (hk := ?_)
    refine am_Go.n htb 2 (S' := (54, [some (.inr (.inr (some (10, 0)))), some (.inl a1), some (.inl q11.1)], [.inl 16, .inr (.inr (some (10, 0)))], am_mk q11.2)) rfl ?_
    obtain ⟨r13, h14, h⟩ := am_bd h
    refine am_Go.cl htb rfl (ex_X10_putBack d (by omega) 16 q11.2 r13 h14) ?_
    show am_Go d 279 (57, [some (.inr (.inr (some (10, 0)))), some (.inl a1), some (.inl q11.1)], [], am_mk r13) _ _ _ _
    refine am_Go.n htb 2 (S' := (60, [some (.inr (.inr (some (10, 0)))), some (.inl a1), some (.inl q11.1)], [.inl 100, .inl q11.1], am_mk r13)) rfl ?_
    by_cases hc15 : q11.1 ≤ (100 : Int32)
    · rw [if_pos hc15] at h
      refine am_Go.c1 htb (S' := (67, [some (.inr (.inr (some (10, 0)))), some (.inl a1), some (.inl q11.1)], [], am_mk r13)) (if_pos hc15) ?_
      refine am_Go.n htb 1 (S' := (68, [some (.inr (.inr (some (10, 0)))), some (.inl a1), some (.inl q11.1)], [.inl q11.1], am_mk r13)) rfl ?_
      cases h
      exact am_Go.rt htb rfl
    · rw [if_neg hc15] at h
      refine am_Go.c1 htb (S' := (63, [some (.inr (.inr (some (10, 0)))), some (.inl a1), some (.inl q11.1)], [], am_mk r13)) (if_neg hc15) ?_
      refine am_Go.n htb 2 (S' := (68, [some (.inr (.inr (some (10, 0)))), some (.inl a1), some (.inl q11.1)], [.inl (-1)], am_mk r13)) rfl ?_
      cases h
      exact am_Go.rt htb rfl
  · rw [if_neg hc3] at h
    refine am_Go.c1 htb (S' := (13, [some (.inr (.inr (some (10, 0)))), some (.inl a1), none], [], am_mk (am_si m 10 0 0 0))) (if_neg hc3) ?_
    refine am_Go.n htb 1 (S' := (14, [some (.inr (.inr (some (10, 0)))), some (.inl a1), none], [.inl (-1)], am_mk (am_si m 10 0 0 0))) rfl ?_
    cases h
    exact am_Go.rt htb rfl
-- X10_fedBy
set_option maxRecDepth 100000 in
theorem lt_X10_fedBy_27 (d : Nat) (hd : 9 ≤ d + 1) {r : Option am_V} {M' : am_M} {kc ks : Nat} {n : Nat} {x1 : Int32} {x2 : Int32} {x3 : Int32} {m : am_m} {t : Int32} (h : lp_X10_fedBy_27 n x1 x2 x3 m = some t) (hk : am_Go d 280 (66, [some (.inr (.inr (some (10, 0)))), some (.inl x1), some (.inl t), none, none, none], [], am_mk m) r M' kc ks) : am_Go d 280 (27, [some (.inr (.inr (some (10, 0)))), some (.inl x1), some (.inl x2), some (.inl x3), none, none], [], am_mk m) r M' kc ks := by
  have htb : am_tab 280 = at_280 := rfl
  induction n generalizing x2 x3 with
  | zero => cases h
  | succ n ih =>
    unfold lp_X10_fedBy_27 at h
    refine am_Go.n htb 5 (S' := (34, [some (.inr (.inr (some (10, 0)))), some (.inl x1), some (.inl x2), some (.inl x3), none, none], [.inl (m.1 44 0 0), .inl x3], am_mk m)) rfl ?_
    by_cases hc6 : (m.1 44 0 0) ≤ x3
    · rw [if_pos hc6] at h
      refine am_Go.c1 htb (S' := (66, [some (.inr (.inr (some (10, 0)))), some (.inl x1), some (.inl x2), some (.inl x3), none, none], [], am_mk m)) (if_pos hc6) ?_
      cases h
      exact am_Go.fg (by exact ⟨rfl, ⟨rfl, ⟨rfl, trivial⟩⟩⟩) hk
    · rw [if_neg hc6] at h
      refine am_Go.c1 htb (S' := (37, [some (.inr (.inr (some (10, 0)))), some (.inl x1), some (.inl x2), some (.inl x3), none, none], [], am_mk m)) (if_neg hc6) ?_
      refine am_Go.n htb 6 (S' := (46, [some (.inr (.inr (some (10, 0)))), some (.inl x1), some (.inl x2), some (.inl x3), none, none], [.inl ((7 : Int32) + x3), .inr (.inr (some (44, 0))), .inl x2], am_mk m)) rfl ?_
      obtain ⟨hg7, h⟩ := am_ck_some h
      refine am_Go.c1 htb (S' := (47, [some (.inr (.inr (some (10, 0)))), some (.inl x1), some (.inl x2), some (.inl x3), none, none], [.inl (m.1 44 0 ((7 : Int32) + x3).toNatClampNeg), .inl x2], am_mk m)) (if_neg hg7) ?_
      refine am_Go.n htb 1 (S' := (48, [some (.inr (.inr (some (10, 0)))), some (.inl x1), some (.inl x2), some (.inl x3), none, none], [.inl x1, .inl (m.1 44 0 ((7 : Int32) + x3).toNatClampNeg), .inl x2], am_mk m)) rfl ?_
      refine am_Go.cut (S := (58, [some (.inr (.inr (some (10, 0)))), some (.inl x1), some (.inl x2), some (.inl x3), none, none], [.inl (if x1 ≤ (m.1 44 0 ((7 : Int32) + x3).toNatClampNeg) then (0 : Int32) else ((1 : Int32) <<< (x3 &&& 31))), .inl x2], am_mk m)) ?_ (fun key => ?_)
      · refine am_Go.n htb 4 (S' := (27, [some (.inr (.inr (some (10, 0)))), some (.inl x1), some (.inl (x2 ||| (if x1 ≤ (m.1 44 0 ((7 : Int32) + x3).toNatClampNeg) then (0 : Int32) else ((1 : Int32) <<< (x3 &&& 31))))), some (.inl (x3 + 1)), none, none], [], am_mk m)) rfl ?_
        first | exact ih h | exact ih h hk
      · by_cases hc8 : x1 ≤ (m.1 44 0 ((7 : Int32) + x3).toNatClampNeg)
        · refine am_Go.c1 htb (S' := (57, [some (.inr (.inr (some (10, 0)))), some (.inl x1), some (.inl x2), some (.inl x3), none, none], [.inl x2], am_mk m)) (if_pos hc8) ?_
          refine am_Go.n htb 1 (S' := (58, [some (.inr (.inr (some (10, 0)))), some (.inl x1), some (.inl x2), some (.inl x3), none, none], [.inl 0, .inl x2], am_mk m)) rfl ?_
          simp only [if_pos hc8] at key
          exact am_Go.fg (by exact ⟨rfl, ⟨rfl, ⟨rfl, ⟨rfl, trivial⟩⟩⟩⟩) key
        · refine am_Go.c1 htb (S' := (51, [some (.inr (.inr (some (10, 0)))), some (.inl x1), some (.inl x2), some (.inl x3), none, none], [.inl x2], am_mk m)) (if_neg hc8) ?_
          refine am_Go.n htb 4 (S' := (58, [some (.inr (.inr (some (10, 0)))), some (.inl x1), some (.inl x2), some (.inl x3), none, none], [.inl ((1 : Int32) <<< (x3 &&& 31)), .inl x2], am_mk m)) rfl ?_
          simp only [if_neg hc8] at key
          exact am_Go.fg (by exact ⟨rfl, ⟨rfl, ⟨rfl, ⟨rfl, trivial⟩⟩⟩⟩) key
set_option maxRecDepth 100000 in
theorem lt_X10_fedBy_68 (d : Nat) (hd : 9 ≤ d + 1) {r : Option am_V} {M' : am_M} {kc ks : Nat} {n : Nat} {x2 : Int32} {x3 : Int32} {m : am_m} {t : am_m} (h : lp_X10_fedBy_68 n x2 x3 m = some t) (hk : am_Go d 280 (99, [some (.inr (.inr (some (10, 0)))), none, some (.inl x2), none, none, none], [], am_mk t) r M' kc ks) : am_Go d 280 (68, [some (.inr (.inr (some (10, 0)))), none, some (.inl x2), some (.inl x3), none, none], [], am_mk m) r M' kc ks := by
  have htb : am_tab 280 = at_280 := rfl
  induction n generalizing x3 m with
  | zero => cases h
  | succ n ih =>
    unfold lp_X10_fedBy_68 at h
    refine am_Go.n htb 2 (S' := (70, [some (.inr (.inr (some (10, 0)))), none, some (.inl x2), some (.inl x3), none, none], [.inr (.inr (some (10, 0))), .inl x3], am_mk m)) rfl ?_
    obtain ⟨r11, h12, h⟩ := am_bd h
    refine am_Go.cl htb rfl (ex_X10_all d (by omega)  m r11 h12) ?_
    show am_Go d 280 (73, [some (.inr (.inr (some (10, 0)))), none, some (.inl x2), some (.inl x3), none, none], [.inl r11, .inl x3], am_mk m) _ _ _ _
    by_cases hc13 : r11 < x3
    · rw [if_pos hc13] at h
      refine am_Go.c1 htb (S' := (99, [some (.inr (.inr (some (10, 0)))), none, some (.inl x2), some (.inl x3), none, none], [], am_mk m)) (if_pos hc13) ?_
      cases h
      exact am_Go.fg (by exact ⟨rfl, ⟨rfl, trivial⟩⟩) hk
    · rw [if_neg hc13] at h
      refine am_Go.c1 htb (S' := (76, [some (.inr (.inr (some (10, 0)))), none, some (.inl x2), some (.inl x3), none, none], [], am_mk m)) (if_neg hc13) ?_
      refine am_Go.n htb 4 (S' := (82, [some (.inr (.inr (some (10, 0)))), none, some (.inl x2), some (.inl x3), none, none], [.inl x3, .inl x3, .inr (.inr (some (60, 0)))], am_mk m)) rfl ?_
      refine am_Go.cut (S := (92, [some (.inr (.inr (some (10, 0)))), none, some (.inl x2), some (.inl x3), none, none], [.inl (if x3 ≠ 0 then (100000000 : Int32) else (0 : Int32)), .inl x3, .inr (.inr (some (60, 0)))], am_mk m)) ?_ (fun key => ?_)
      · obtain ⟨hg15, h⟩ := am_ck_some h
        refine am_Go.c1 htb (S' := (93, [some (.inr (.inr (some (10, 0)))), none, some (.inl x2), some (.inl x3), none, none], [], am_mk (am_si m 60 0 x3.toNatClampNeg (if x3 ≠ 0 then (100000000 : Int32) else (0 : Int32))))) (if_neg hg15) ?_
        refine am_Go.n htb 2 (S' := (68, [some (.inr (.inr (some (10, 0)))), none, some (.inl x2), some (.inl (x3 + 1)), none, none], [], am_mk (am_si m 60 0 x3.toNatClampNeg (if x3 ≠ 0 then (100000000 : Int32) else (0 : Int32))))) rfl ?_
        first | exact ih h | exact ih h hk
      · by_cases hc14 : x3 ≠ 0
        · refine am_Go.c1 htb (S' := (89, [some (.inr (.inr (some (10, 0)))), none, some (.inl x2), some (.inl x3), none, none], [.inl x3, .inr (.inr (some (60, 0)))], am_mk m)) (if_pos hc14) ?_
          refine am_Go.n htb 1 (S' := (92, [some (.inr (.inr (some (10, 0)))), none, some (.inl x2), some (.inl x3), none, none], [.inl 100000000, .inl x3, .inr (.inr (some (60, 0)))], am_mk m)) rfl ?_
          simp only [if_pos hc14] at key
          exact am_Go.fg (by exact ⟨rfl, ⟨rfl, ⟨rfl, trivial⟩⟩⟩) key
        · refine am_Go.c1 htb (S' := (85, [some (.inr (.inr (some (10, 0)))), none, some (.inl x2), some (.inl x3), none, none], [.inl x3, .inr (.inr (some (60, 0)))], am_mk m)) (if_neg hc14) ?_
          refine am_Go.n htb 2 (S' := (92, [some (.inr (.inr (some (10, 0)))), none, some (.inl x2), some (.inl x3), none, none], [.inl 0, .inl x3, .inr (.inr (some (60, 0)))], am_mk m)) rfl ?_
          simp only [if_neg hc14] at key
          exact am_Go.fg (by exact ⟨rfl, ⟨rfl, ⟨rfl, trivial⟩⟩⟩) key
set_option maxRecDepth 100000 in
theorem lt_X10_fedBy_112 (d : Nat) (hd : 9 ≤ d + 1) {r : Option am_V} {M' : am_M} {kc ks : Nat} {n : Nat} {x2 : Int32} {x3 : Int32} {x4 : Int32} {m : am_m} {t : am_m} (h : lp_X10_fedBy_112 n x2 x3 x4 m = some t) (hk : am_Go d 280 (197, [some (.inr (.inr (some (10, 0)))), none, some (.inl x2), some (.inl x3), none, none], [], am_mk t) r M' kc ks) : am_Go d 280 (112, [some (.inr (.inr (some (10, 0)))), none, some (.inl x2), some (.inl x3), some (.inl x4), none], [], am_mk m) r M' kc ks := by
  have htb : am_tab 280 = at_280 := rfl
  induction n generalizing x4 m with
  | zero => cases h
  | succ n ih =>
    unfold lp_X10_fedBy_112 at h
    refine am_Go.n htb 2 (S' := (115, [some (.inr (.inr (some (10, 0)))), none, some (.inl x2), some (.inl x3), some (.inl x4), none], [.inr (.inr (some (10, 0))), .inl x4], am_mk m)) rfl ?_
    obtain ⟨r21, h22, h⟩ := am_bd h
    refine am_Go.cl htb rfl (ex_X10_all d (by omega)  m r21 h22) ?_
    show am_Go d 280 (118, [some (.inr (.inr (some (10, 0)))), none, some (.inl x2), some (.inl x3), some (.inl x4), none], [.inl r21, .inl x4], am_mk m) _ _ _ _
    by_cases hc23 : r21 < x4
    · rw [if_pos hc23] at h
      refine am_Go.c1 htb (S' := (197, [some (.inr (.inr (some (10, 0)))), none, some (.inl x2), some (.inl x3), some (.inl x4), none], [], am_mk m)) (if_pos hc23) ?_
      cases h
      exact am_Go.fg (by exact ⟨rfl, ⟨rfl, ⟨rfl, trivial⟩⟩⟩) hk
    · rw [if_neg hc23] at h
      refine am_Go.c1 htb (S' := (121, [some (.inr (.inr (some (10, 0)))), none, some (.inl x2), some (.inl x3), some (.inl x4), none], [], am_mk m)) (if_neg hc23) ?_
      refine am_Go.n htb 3 (S' := (126, [some (.inr (.inr (some (10, 0)))), none, some (.inl x2), some (.inl x3), some (.inl x4), none], [.inl x3, .inr (.inr (some (60, 0)))], am_mk m)) rfl ?_
      obtain ⟨hg24, h⟩ := am_ck_some h
      refine am_Go.c1 htb (S' := (127, [some (.inr (.inr (some (10, 0)))), none, some (.inl x2), some (.inl x3), some (.inl x4), none], [.inl (m.1 60 0 x3.toNatClampNeg)], am_mk m)) (if_neg hg24) ?_
      refine am_Go.n htb 1 (S' := (130, [some (.inr (.inr (some (10, 0)))), none, some (.inl x2), some (.inl x3), some (.inl x4), none], [.inl 100000000, .inl (m.1 60 0 x3.toNatClampNeg)], am_mk m)) rfl ?_
      by_cases hc25 : (100000000 : Int32) ≤ (m.1 60 0 x3.toNatClampNeg)
      · rw [if_pos hc25] at h
        refine am_Go.c1 htb (S' := (197, [some (.inr (.inr (some (10, 0)))), none, some (.inl x2), some (.inl x3), some (.inl x4), none], [], am_mk m)) (if_pos hc25) ?_
        cases h
        exact am_Go.fg (by exact ⟨rfl, ⟨rfl, ⟨rfl, trivial⟩⟩⟩) hk
      · rw [if_neg hc25] at h
        refine am_Go.c1 htb (S' := (133, [some (.inr (.inr (some (10, 0)))), none, some (.inl x2), some (.inl x3), some (.inl x4), none], [], am_mk m)) (if_neg hc25) ?_
        refine am_Go.n htb 2 (S' := (136, [some (.inr (.inr (some (10, 0)))), none, some (.inl x2), some (.inl x3), some (.inl x4), none], [.inl x4, .inr (.inr (some (10, 0)))], am_mk m)) rfl ?_
        obtain ⟨r26, h27, h⟩ := am_bd h
        refine am_Go.cl htb rfl (ex_X10_isTable d (by omega) x4 m r26 h27) ?_
        show am_Go d 280 (139, [some (.inr (.inr (some (10, 0)))), none, some (.inl x2), some (.inl x3), some (.inl x4), none], [.inl r26], am_mk m) _ _ _ _
        obtain ⟨q37, h38, h⟩ := am_bd h
        refine am_Go.cut (S := (191, [some (.inr (.inr (some (10, 0)))), none, some (.inl x2), some (.inl x3), some (.inl x4), none], [], am_mk q37)) ?_ (fun key => ?_)
        · refine am_Go.n htb 2 (S' := (112, [some (.inr (.inr (some (10, 0)))), none, some (.inl x2), some (.inl x3), some (.inl (x4 + 1)), none], [], am_mk q37)) rfl ?_
          first | exact ih h | exact ih h hk
        · have h := h38
          by_cases hc28 : r26 = 0
          · rw [if_pos hc28] at h
            refine am_Go.c1 htb (S' := (191, [some (.inr (.inr (some (10, 0)))), none, some (.inl x2), some (.inl x3), some (.inl x4), none], [], am_mk m)) (if_pos hc28) ?_
            cases h
            exact am_Go.fg (by exact ⟨rfl, ⟨rfl, ⟨rfl, ⟨rfl, trivial⟩⟩⟩⟩) key
          · rw [if_neg hc28] at h
            refine am_Go.c1 htb (S' := (142, [some (.inr (.inr (some (10, 0)))), none, some (.inl x2), some (.inl x3), some (.inl x4), none], [], am_mk m)) (if_neg hc28) ?_
            refine am_Go.n htb 10 (S' := (159, [some (.inr (.inr (some (10, 0)))), none, some (.inl x2), some (.inl x3), some (.inl x4), some (.inl (x3 ||| x4))], [.inl x3, .inr (.inr (some (60, 0))), .inl (x3 ||| x4), .inr (.inr (some (60, 0)))], am_mk m)) rfl ?_
            obtain ⟨hg29, h⟩ := am_ck_some h
            refine am_Go.c1 htb (S' := (160, [some (.inr (.inr (some (10, 0)))), none, some (.inl x2), some (.inl x3), some (.inl x4), some (.inl (x3 ||| x4))], [.inl (m.1 60 0 x3.toNatClampNeg), .inl (x3 ||| x4), .inr (.inr (some (60, 0)))], am_mk m)) (if_neg hg29) ?_
            refine am_Go.n htb 5 (S' := (168, [some (.inr (.inr (some (10, 0)))), none, some (.inl x2), some (.inl x3), some (.inl x4), some (.inl (x3 ||| x4))], [.inl (x3 ||| x4), .inr (.inr (some (60, 0))), .inl ((m.1 60 0 x3.toNatClampNeg) + (1 : Int32)), .inl (x3 ||| x4), .inr (.inr (some (60, 0)))], am_mk m)) rfl ?_
            obtain ⟨hg30, h⟩ := am_ck_some h
            refine am_Go.c1 htb (S' := (169, [some (.inr (.inr (some (10, 0)))), none, some (.inl x2), some (.inl x3), some (.inl x4), some (.inl (x3 ||| x4))], [.inl (m.1 60 0 (x3 ||| x4).toNatClampNeg), .inl ((m.1 60 0 x3.toNatClampNeg) + (1 : Int32)), .inl (x3 ||| x4), .inr (.inr (some (60, 0)))], am_mk m)) (if_neg hg30) ?_
            obtain ⟨q34, h36, h⟩ := am_bd h
            refine am_Go.cut (S := (190, [some (.inr (.inr (some (10, 0)))), none, some (.inl x2), some (.inl x3), some (.inl x4), some (.inl (x3 ||| x4))], [.inl q34, .inl (x3 ||| x4), .inr (.inr (some (60, 0)))], am_mk m)) ?_ (fun key => ?_)
            · obtain ⟨hg35, h⟩ := am_ck_some h
              refine am_Go.c1 htb (S' := (191, [some (.inr (.inr (some (10, 0)))), none, some (.inl x2), some (.inl x3), some (.inl x4), some (.inl (x3 ||| x4))], [], am_mk (am_si m 60 0 (x3 ||| x4).toNatClampNeg q34))) (if_neg hg35) ?_
              cases h
              exact am_Go.fg (by exact ⟨rfl, ⟨rfl, ⟨rfl, ⟨rfl, trivial⟩⟩⟩⟩) key
            · have h := h36
              by_cases hc31 : (m.1 60 0 (x3 ||| x4).toNatClampNeg) ≤ ((m.1 60 0 x3.toNatClampNeg) + (1 : Int32))
              · rw [if_pos hc31] at h
                refine am_Go.c1 htb (S' := (183, [some (.inr (.inr (some (10, 0)))), none, some (.inl x2), some (.inl x3), some (.inl x4), some (.inl (x3 ||| x4))], [.inl (x3 ||| x4), .inr (.inr (some (60, 0)))], am_mk m)) (if_pos hc31) ?_
                refine am_Go.n htb 3 (S' := (189, [some (.inr (.inr (some (10, 0)))), none, some (.inl x2), some (.inl x3), some (.inl x4), some (.inl (x3 ||| x4))], [.inl (x3 ||| x4), .inr (.inr (some (60, 0))), .inl (x3 ||| x4), .inr (.inr (some (60, 0)))], am_mk m)) rfl ?_
                obtain ⟨hg32, h⟩ := am_ck_some h
                refine am_Go.c1 htb (S' := (190, [some (.inr (.inr (some (10, 0)))), none, some (.inl x2), some (.inl x3), some (.inl x4), some (.inl (x3 ||| x4))], [.inl (m.1 60 0 (x3 ||| x4).toNatClampNeg), .inl (x3 ||| x4), .inr (.inr (some (60, 0)))], am_mk m)) (if_neg hg32) ?_
                cases h
                exact am_Go.fg (by exact ⟨rfl, ⟨rfl, ⟨rfl, ⟨rfl, ⟨rfl, trivial⟩⟩⟩⟩⟩) key
              · rw [if_neg hc31] at h
                refine am_Go.c1 htb (S' := (172, [some (.inr (.inr (some (10, 0)))), none, some (.inl x2), some (.inl x3), some (.inl x4), some (.inl (x3 ||| x4))], [.inl (x3 ||| x4), .inr (.inr (some (60, 0)))], am_mk m)) (if_neg hc31) ?_
                refine am_Go.n htb 3 (S' := (177, [some (.inr (.inr (some (10, 0)))), none, some (.inl x2), some (.inl x3), some (.inl x4), some (.inl (x3 ||| x4))], [.inl x3, .inr (.inr (some (60, 0))), .inl (x3 ||| x4), .inr (.inr (some (60, 0)))], am_mk m)) rfl ?_
                obtain ⟨hg33, h⟩ := am_ck_some h
                refine am_Go.c1 htb (S' := (178, [some (.inr (.inr (some (10, 0)))), none, some (.inl x2), some (.inl x3), some (.inl x4), some (.inl (x3 ||| x4))], [.inl (m.1 60 0 x3.toNatClampNeg), .inl (x3 ||| x4), .inr (.inr (some (60, 0)))], am_mk m)) (if_neg hg33) ?_
                refine am_Go.n htb 3 (S' := (190, [some (.inr (.inr (some (10, 0)))), none, some (.inl x2), some (.inl x3), some (.inl x4), some (.inl (x3 ||| x4))], [.inl ((m.1 60 0 x3.toNatClampNeg) + (1 : Int32)), .inl (x3 ||| x4), .inr (.inr (some (60, 0)))], am_mk m)) rfl ?_
                cases h
                exact am_Go.fg (by exact ⟨rfl, ⟨rfl, ⟨rfl, ⟨rfl, ⟨rfl, trivial⟩⟩⟩⟩⟩) key
set_option maxRecDepth 100000 in
theorem lt_X10_fedBy_101 (d : Nat) (hd : 9 ≤ d + 1) {r : Option am_V} {M' : am_M} {kc ks : Nat} {n : Nat} {x2 : Int32} {x3 : Int32} {m : am_m} {t : am_m} (h : lp_X10_fedBy_101 n x2 x3 m = some t) (hk : am_Go d 280 (203, [some (.inr (.inr (some (10, 0)))), none, some (.inl x2), none, none, none], [], am_mk t) r M' kc ks) : am_Go d 280 (101, [some (.inr (.inr (some (10, 0)))), none, some (.inl x2), some (.inl x3), none, none], [], am_mk m) r M' kc ks := by
  have htb : am_tab 280 = at_280 := rfl
  induction n generalizing x3 m with
  | zero => cases h
  | succ n ih =>
    unfold lp_X10_fedBy_101 at h
    refine am_Go.n htb 2 (S' := (103, [some (.inr (.inr (some (10, 0)))), none, some (.inl x2), some (.inl x3), none, none], [.inr (.inr (some (10, 0))), .inl x3], am_mk m)) rfl ?_
    obtain ⟨r18, h19, h⟩ := am_bd h
    refine am_Go.cl htb rfl (ex_X10_all d (by omega)  m r18 h19) ?_
    show am_Go d 280 (106, [some (.inr (.inr (some (10, 0)))), none, some (.inl x2), some (.inl x3), none, none], [.inl r18, .inl x3], am_mk m) _ _ _ _
    by_cases hc20 : r18 < x3
    · rw [if_pos hc20] at h
      refine am_Go.c1 htb (S' := (203, [some (.inr (.inr (some (10, 0)))), none, some (.inl x2), some (.inl x3), none, none], [], am_mk m)) (if_pos hc20) ?_
      cases h
      exact am_Go.fg (by exact ⟨rfl, ⟨rfl, trivial⟩⟩) hk
    · rw [if_neg hc20] at h
      refine am_Go.c1 htb (S' := (109, [some (.inr (.inr (some (10, 0)))), none, some (.inl x2), some (.inl x3), none, none], [], am_mk m)) (if_neg hc20) ?_
      refine am_Go.n htb 2 (S' := (112, [some (.inr (.inr (some (10, 0)))), none, some (.inl x2), some (.inl x3), some (.inl 0), none], [], am_mk m)) rfl ?_
      obtain ⟨q39, h40, h⟩ := am_bd h
      refine lt_X10_fedBy_112 _ hd (h := h40) (hk := ?_)
      refine am_Go.n htb 2 (S' := (101, [some (.inr (.inr (some (10, 0)))), none, some (.inl x2), some (.inl (x3 + 1)), none, none], [], am_mk q39)) rfl ?_
      first | exact ih h | exact ih h hk
set_option maxRecDepth 100000 in
theorem lt_X10_fedBy_210 (d : Nat) (hd : 9 ≤ d + 1) {r : Option am_V} {M' : am_M} {kc ks : Nat} {n : Nat} {x2 : Int32} {x3 : Int32} {x4 : Int32} {m : am_m} {t : Int32} (h : lp_X10_fedBy_210 n x2 x3 x4 m = some t) (hk : am_Go d 280 (257, [some (.inr (.inr (some (10, 0)))), none, some (.inl x2), some (.inl t), none, none], [], am_mk m) r M' kc ks) : am_Go d 280 (210, [some (.inr (.inr (some (10, 0)))), none, some (.inl x2), some (.inl x3), some (.inl x4), none], [], am_mk m) r M' kc ks := by
  have htb : am_tab 280 = at_280 := rfl
  induction n generalizing x3 x4 with
  | zero => cases h
  | succ n ih =>
    unfold lp_X10_fedBy_210 at h
    refine am_Go.n htb 2 (S' := (213, [some (.inr (.inr (some (10, 0)))), none, some (.inl x2), some (.inl x3), some (.inl x4), none], [.inr (.inr (some (10, 0))), .inl x4], am_mk m)) rfl ?_
    obtain ⟨r43, h44, h⟩ := am_bd h
    refine am_Go.cl htb rfl (ex_X10_all d (by omega)  m r43 h44) ?_
    show am_Go d 280 (216, [some (.inr (.inr (some (10, 0)))), none, some (.inl x2), some (.inl x3), some (.inl x4), none], [.inl r43, .inl x4], am_mk m) _ _ _ _
    by_cases hc45 : r43 < x4
    · rw [if_pos hc45] at h
      refine am_Go.c1 htb (S' := (257, [some (.inr (.inr (some (10, 0)))), none, some (.inl x2), some (.inl x3), some (.inl x4), none], [], am_mk m)) (if_pos hc45) ?_
      cases h
      exact am_Go.fg (by exact ⟨rfl, ⟨rfl, ⟨rfl, trivial⟩⟩⟩) hk
    · rw [if_neg hc45] at h
      refine am_Go.c1 htb (S' := (219, [some (.inr (.inr (some (10, 0)))), none, some (.inl x2), some (.inl x3), some (.inl x4), none], [], am_mk m)) (if_neg hc45) ?_
      refine am_Go.n htb 5 (S' := (225, [some (.inr (.inr (some (10, 0)))), none, some (.inl x2), some (.inl x3), some (.inl x4), none], [.inl (x2 &&& (x4 ^^^ (-1 : Int32)))], am_mk m)) rfl ?_
      obtain ⟨q50, h51, h⟩ := am_bd h
      refine am_Go.cut (S := (250, [some (.inr (.inr (some (10, 0)))), none, some (.inl x2), some (.inl x3), some (.inl x4), none], [.inl q50], am_mk m)) ?_ (fun key => ?_)
      · refine am_Go.n htb 3 (S' := (210, [some (.inr (.inr (some (10, 0)))), none, some (.inl x2), some (.inl q50), some (.inl (x4 + 1)), none], [], am_mk m)) rfl ?_
        first | exact ih h | exact ih h hk
      · have h := h51
        by_cases hc46 : (x2 &&& (x4 ^^^ (-1 : Int32))) ≠ 0
        · rw [if_pos hc46] at h
          refine am_Go.c1 htb (S' := (249, [some (.inr (.inr (some (10, 0)))), none, some (.inl x2), some (.inl x3), some (.inl x4), none], [], am_mk m)) (if_pos hc46) ?_
          refine am_Go.n htb 1 (S' := (250, [some (.inr (.inr (some (10, 0)))), none, some (.inl x2), some (.inl x3), some (.inl x4), none], [.inl x3], am_mk m)) rfl ?_
          cases h
          exact am_Go.fg (by exact ⟨rfl, ⟨rfl, ⟨rfl, ⟨rfl, trivial⟩⟩⟩⟩) key
        · rw [if_neg hc46] at h
          refine am_Go.c1 htb (S' := (228, [some (.inr (.inr (some (10, 0)))), none, some (.inl x2), some (.inl x3), some (.inl x4), none], [], am_mk m)) (if_neg hc46) ?_
          refine am_Go.n htb 3 (S' := (234, [some (.inr (.inr (some (10, 0)))), none, some (.inl x2), some (.inl x3), some (.inl x4), none], [.inl x4, .inr (.inr (some (60, 0)))], am_mk m)) rfl ?_
          obtain ⟨hg47, h⟩ := am_ck_some h
          refine am_Go.c1 htb (S' := (235, [some (.inr (.inr (some (10, 0)))), none, some (.inl x2), some (.inl x3), some (.inl x4), none], [.inl (m.1 60 0 x4.toNatClampNeg)], am_mk m)) (if_neg hg47) ?_
          refine am_Go.n htb 1 (S' := (236, [some (.inr (.inr (some (10, 0)))), none, some (.inl x2), some (.inl x3), some (.inl x4), none], [.inl x3, .inl (m.1 60 0 x4.toNatClampNeg)], am_mk m)) rfl ?_
          by_cases hc48 : x3 ≤ (m.1 60 0 x4.toNatClampNeg)
          · rw [if_pos hc48] at h
            refine am_Go.c1 htb (S' := (249, [some (.inr (.inr (some (10, 0)))), none, some (.inl x2), some (.inl x3), some (.inl x4), none], [], am_mk m)) (if_pos hc48) ?_
            refine am_Go.n htb 1 (S' := (250, [some (.inr (.inr (some (10, 0)))), none, some (.inl x2), some (.inl x3), some (.inl x4), none], [.inl x3], am_mk m)) rfl ?_
            cases h
            exact am_Go.fg (by exact ⟨rfl, ⟨rfl, ⟨rfl, ⟨rfl, trivial⟩⟩⟩⟩) key
          · rw [if_neg hc48] at h
            refine am_Go.c1 htb (S' := (239, [some (.inr (.inr (some (10, 0)))), none, some (.inl x2), some (.inl x3), some (.inl x4), none], [], am_mk m)) (if_neg hc48) ?_
            refine am_Go.n htb 3 (S' := (245, [some (.inr (.inr (some (10, 0)))), none, some (.inl x2), some (.inl x3), some (.inl x4), none], [.inl x4, .inr (.inr (some (60, 0)))], am_mk m)) rfl ?_
            obtain ⟨hg49, h⟩ := am_ck_some h
            refine am_Go.c1 htb (S' := (246, [some (.inr (.inr (some (10, 0)))), none, some (.inl x2), some (.inl x3), some (.inl x4), none], [.inl (m.1 60 0 x4.toNatClampNeg)], am_mk m)) (if_neg hg49) ?_
            refine am_Go.n htb 1 (S' := (250, [some (.inr (.inr (some (10, 0)))), none, some (.inl x2), some (.inl x3), some (.inl x4), none], [.inl (m.1 60 0 x4.toNatClampNeg)], am_mk m)) rfl ?_
            cases h
            exact am_Go.fg (by exact ⟨rfl, ⟨rfl, ⟨rfl, ⟨rfl, trivial⟩⟩⟩⟩) key
set_option maxRecDepth 100000 in
theorem ex_X10_fedBy (d : Nat) (hd : 9 ≤ d) (a1 : Int32) (m : am_m) (t : Int32 × am_m) (h : fn_X10_fedBy a1 m = some t) : am_Ex am_cod d 280 [.inr (.inr (some (10, 0))), .inl a1] (am_mk m) (some (.inl t.1)) (am_mk t.2) 0 0 := by
  obtain ⟨d, rfl⟩ : ∃ e, d = e + 1 := ⟨d - 1, by omega⟩
  have htb : am_tab 280 = at_280 := rfl
  refine ⟨Nat.le_of_ble_eq_true rfl, ?_⟩
  unfold fn_X10_fedBy at h
  show am_Go d 280 (0, [some (.inr (.inr (some (10, 0)))), some (.inl a1), none, none, none, none], [], am_mk m) _ _ 0 0
  refine am_Go.n htb 7 (S' := (11, [some (.inr (.inr (some (10, 0)))), some (.inl a1), none, none, none, none], [.inr (.inl 10), .inr (.inl 0), .inr (.inl a1.toInt64)], am_mk (am_si m 10 0 0 0))) rfl ?_
  obtain ⟨r1, h2, h⟩ := am_bd h
  refine am_Go.cl htb rfl (ex_X10_in d (by omega) a1.toInt64 0 10 (am_si m 10 0 0 0) r1 h2) ?_
  show am_Go d 280 (14, [some (.inr (.inr (some (10, 0)))), some (.inl a1), none, none, none, none], [.inl r1], am_mk (am_si m 10 0 0 0)) _ _ _ _
  by_cases hc3 : r1 ≠ 0
  · rw [if_pos hc3] at h
    refine am_Go.c1 htb (S' := (19, [some (.inr (.inr (some (10, 0)))), some (.inl a1), none, none, none, none], [], am_mk (am_si m 10 0 0 0))) (if_pos hc3) ?_
    refine am_Go.n htb 1 (S' := (20, [some (.inr (.inr (some (10, 0)))), some (.inl a1), none, none, none, none], [.inr (.inr (some (10, 0)))], am_mk (am_si m 10 0 0 0))) rfl ?_
    obtain ⟨r4, h5, h⟩ := am_bd h
    refine am_Go.cl htb rfl (ex_X10_layMay d (by omega)  (am_si m 10 0 0 0) r4 h5) ?_
    show am_Go d 280 (23, [some (.inr (.inr (some (10, 0)))), some (.inl a1), none, none, none, none], [], am_mk r4) _ _ _ _
    refine am_Go.n htb 4 (S' := (27, [some (.inr (.inr (some (10, 0)))), some (.inl a1), some (.inl 0), some (.inl 0), none, none], [], am_mk r4)) rfl ?_
    obtain ⟨q9, h10, h⟩ := am_bd h
    refine lt_X10_fedBy_27 _ hd (h := h10) (hk := ?_)
    refine am_Go.n htb 2 (S' := (68, [some (.inr (.inr (some (10, 0)))), some (.inl a1), some (.inl q9), some (.inl 0), none, none], [], am_mk r4)) rfl ?_
    refine am_Go.fg (L0 := [some (.inr (.inr (some (10, 0)))), none, some (.inl q9), some (.inl 0), none, none]) (by exact ⟨rfl, ⟨rfl, ⟨rfl, trivial⟩⟩⟩) ?_
    obtain ⟨q16, h17, h⟩ := am_bd h
    refine lt_X10_fedBy_68 _ hd (h := h17) (hk := ?_)
    refine am_Go.n htb 2 (S' := (101, [some (.inr (.inr (some (10, 0)))), none, some (.inl q9), some (.inl 0), none, none], [], am_mk q16)) rfl ?_
    obtain ⟨q41, h42, h⟩ := am_bd h
    refine lt_X10_fedBy_101 _ hd (h := h42) (hk := ?_)
    refine am_Go.n htb 4 (S' := (210, [some (.inr (.inr (some (10, 0)))), none, some (.inl q9), some (.inl 100000000), some (.inl 0), none], [], am_mk q41)) rfl ?_
    obtain ⟨q52, h53, h⟩ := am_bd h
    refine lt_X10_fedBy_210 _ hd (h := h53) (hk := ?_)
    refine am_Go.n htb 2 (S' := (261, [some (.inr (.inr (some (10, 0)))), none, some (.inl q9), some (.inl q52), none, none], [.inl 100000000, .inl q52], am_mk q41)) rfl ?_
    by_cases hc54 : q52 ≠ (100000000 : Int32)
    · rw [if_pos hc54] at h
      refine am_Go.c1 htb (S' := (268, [some (.inr (.inr (some (10, 0)))), none, some (.inl q9), some (.inl q52), none, none], [], am_mk q41)) (if_pos hc54) ?_
      refine am_Go.n htb 1 (S' := (269, [some (.inr (.inr (some (10, 0)))), none, some (.inl q9), some (.inl q52), none, none], [.inl q52], am_mk q41)) rfl ?_
      cases h
      exact am_Go.rt htb rfl
    · rw [if_neg hc54] at h
      refine am_Go.c1 htb (S' := (264, [some (.inr (.inr (some (10, 0)))), none, some (.inl q9), some (.inl q52), none, none], [], am_mk q41)) (if_neg hc54) ?_
      refine am_Go.n htb 2 (S' := (269, [some (.inr (.inr (some (10, 0)))), none, some (.inl q9), some (.inl q52), none, none], [.inl (-1)], am_mk q41)) rfl ?_
      cases h
      exact am_Go.rt htb rfl
  · rw [if_neg hc3] at h
    refine am_Go.c1 htb (S' := (17, [some (.inr (.inr (some (10, 0)))), some (.inl a1), none, none, none, none], [], am_mk (am_si m 10 0 0 0))) (if_neg hc3) ?_
    refine am_Go.n htb 1 (S' := (18, [some (.inr (.inr (some (10, 0)))), some (.inl a1), none, none, none, none], [.inl (-1)], am_mk (am_si m 10 0 0 0))) rfl ?_
    cases h
    exact am_Go.rt htb rfl
-- X10_few
set_option maxRecDepth 100000 in
theorem lt_X10_few_35 (d : Nat) (hd : 2 ≤ d + 1) {r : Option am_V} {M' : am_M} {kc ks : Nat} {n : Nat} {x1 : Int32} {x2 : Int32} {x3 : Int32} {m : am_m} {t : am_m} (h : lp_X10_few_35 n x1 x2 x3 m = some t) (hk : am_Go d 281 (64, [some (.inr (.inr (some (10, 0)))), some (.inl x1), some (.inl x2), none, none, none, none, none], [], am_mk t) r M' kc ks) : am_Go d 281 (35, [some (.inr (.inr (some (10, 0)))), some (.inl x1), some (.inl x2), some (.inl x3), none, none, none, none], [], am_mk m) r M' kc ks := by
  have htb : am_tab 281 = at_281 := rfl
  induction n generalizing x3 m with
  | zero => cases h
  | succ n ih =>
    unfold lp_X10_few_35 at h
    refine am_Go.n htb 2 (S' := (38, [some (.inr (.inr (some (10, 0)))), some (.inl x1), some (.inl x2), some (.inl x3), none, none, none, none], [.inl 21, .inl x3], am_mk m)) rfl ?_
    by_cases hc7 : (21 : Int32) ≤ x3
    · rw [if_pos hc7] at h
      refine am_Go.c1 htb (S' := (64, [some (.inr (.inr (some (10, 0)))), some (.inl x1), some (.inl x2), some (.inl x3), none, none, none, none], [], am_mk m)) (if_pos hc7) ?_
      cases h
      exact am_Go.fg (by exact ⟨rfl, ⟨rfl, ⟨rfl, trivial⟩⟩⟩) hk
    · rw [if_neg hc7] at h
      refine am_Go.c1 htb (S' := (41, [some (.inr (.inr (some (10, 0)))), some (.inl x1), some (.inl x2), some (.inl x3), none, none, none, none], [], am_mk m)) (if_neg hc7) ?_
      refine am_Go.n htb 4 (S' := (47, [some (.inr (.inr (some (10, 0)))), some (.inl x1), some (.inl x2), some (.inl x3), none, none, none, none], [.inl x3, .inl x3, .inr (.inr (some (88, 0)))], am_mk m)) rfl ?_
      refine am_Go.cut (S := (57, [some (.inr (.inr (some (10, 0)))), some (.inl x1), some (.inl x2), some (.inl x3), none, none, none, none], [.inr (.inl (if x3 ≠ 0 then (0 : Int64) else (1000000000000 : Int64))), .inl x3, .inr (.inr (some (88, 0)))], am_mk m)) ?_ (fun key => ?_)
      · obtain ⟨hg9, h⟩ := am_ck_some h
        refine am_Go.c1 htb (S' := (58, [some (.inr (.inr (some (10, 0)))), some (.inl x1), some (.inl x2), some (.inl x3), none, none, none, none], [], am_mk (am_sg m 88 0 x3.toNatClampNeg (if x3 ≠ 0 then (0 : Int64) else (1000000000000 : Int64))))) (if_neg hg9) ?_
        refine am_Go.n htb 2 (S' := (35, [some (.inr (.inr (some (10, 0)))), some (.inl x1), some (.inl x2), some (.inl (x3 + 1)), none, none, none, none], [], am_mk (am_sg m 88 0 x3.toNatClampNeg (if x3 ≠ 0 then (0 : Int64) else (1000000000000 : Int64))))) rfl ?_
        first | exact ih h | exact ih h hk
      · by_cases hc8 : x3 ≠ 0
        · refine am_Go.c1 htb (S' := (56, [some (.inr (.inr (some (10, 0)))), some (.inl x1), some (.inl x2), some (.inl x3), none, none, none, none], [.inl x3, .inr (.inr (some (88, 0)))], am_mk m)) (if_pos hc8) ?_
          refine am_Go.n htb 1 (S' := (57, [some (.inr (.inr (some (10, 0)))), some (.inl x1), some (.inl x2), some (.inl x3), none, none, none, none], [.inr (.inl 0), .inl x3, .inr (.inr (some (88, 0)))], am_mk m)) rfl ?_
          simp only [if_pos hc8] at key
          exact am_Go.fg (by exact ⟨rfl, ⟨rfl, ⟨rfl, ⟨rfl, trivial⟩⟩⟩⟩) key
        · refine am_Go.c1 htb (S' := (50, [some (.inr (.inr (some (10, 0)))), some (.inl x1), some (.inl x2), some (.inl x3), none, none, none, none], [.inl x3, .inr (.inr (some (88, 0)))], am_mk m)) (if_neg hc8) ?_
          refine am_Go.n htb 2 (S' := (57, [some (.inr (.inr (some (10, 0)))), some (.inl x1), some (.inl x2), some (.inl x3), none, none, none, none], [.inr (.inl 1000000000000), .inl x3, .inr (.inr (some (88, 0)))], am_mk m)) rfl ?_
          simp only [if_neg hc8] at key
          exact am_Go.fg (by exact ⟨rfl, ⟨rfl, ⟨rfl, ⟨rfl, trivial⟩⟩⟩⟩) key
set_option maxRecDepth 100000 in
theorem lt_X10_few_85 (d : Nat) (hd : 2 ≤ d + 1) {r : Option am_V} {M' : am_M} {kc ks : Nat} {n : Nat} {x1 : Int32} {x2 : Int32} {x3 : Int32} {x4 : Int32} {x5 : Int32} {m : am_m} {t : am_m} (h : lp_X10_few_85 n x1 x2 x3 x4 x5 m = some t) (hk : am_Go d 281 (145, [some (.inr (.inr (some (10, 0)))), some (.inl x1), some (.inl x2), some (.inl x3), some (.inl x4), none, none, none], [], am_mk t) r M' kc ks) : am_Go d 281 (85, [some (.inr (.inr (some (10, 0)))), some (.inl x1), some (.inl x2), some (.inl x3), some (.inl x4), some (.inl x5), none, none], [], am_mk m) r M' kc ks := by
  have htb : am_tab 281 = at_281 := rfl
  induction n generalizing x5 m with
  | zero => cases h
  | succ n ih =>
    unfold lp_X10_few_85 at h
    refine am_Go.n htb 1 (S' := (87, [some (.inr (.inr (some (10, 0)))), some (.inl x1), some (.inl x2), some (.inl x3), some (.inl x4), some (.inl x5), none, none], [.inl x5], am_mk m)) rfl ?_
    by_cases hc13 : x5 < 0
    · rw [if_pos hc13] at h
      refine am_Go.c1 htb (S' := (145, [some (.inr (.inr (some (10, 0)))), some (.inl x1), some (.inl x2), some (.inl x3), some (.inl x4), some (.inl x5), none, none], [], am_mk m)) (if_pos hc13) ?_
      cases h
      exact am_Go.fg (by exact ⟨rfl, ⟨rfl, ⟨rfl, ⟨rfl, ⟨rfl, trivial⟩⟩⟩⟩⟩) hk
    · rw [if_neg hc13] at h
      refine am_Go.c1 htb (S' := (90, [some (.inr (.inr (some (10, 0)))), some (.inl x1), some (.inl x2), some (.inl x3), some (.inl x4), some (.inl x5), none, none], [], am_mk m)) (if_neg hc13) ?_
      refine am_Go.n htb 3 (S' := (96, [some (.inr (.inr (some (10, 0)))), some (.inl x1), some (.inl x2), some (.inl x3), some (.inl x4), some (.inl x5), none, none], [.inl x5, .inr (.inr (some (88, 0)))], am_mk m)) rfl ?_
      obtain ⟨hg14, h⟩ := am_ck_some h
      refine am_Go.c1 htb (S' := (97, [some (.inr (.inr (some (10, 0)))), some (.inl x1), some (.inl x2), some (.inl x3), some (.inl x4), some (.inl x5), none, none], [.inr (.inl (m.2.1 88 0 x5.toNatClampNeg))], am_mk m)) (if_neg hg14) ?_
      refine am_Go.n htb 11 (S' := (116, [some (.inr (.inr (some (10, 0)))), some (.inl x1), some (.inl x2), some (.inl x3), some (.inl x4), some (.inl x5), some (.inr (.inl (m.2.1 88 0 x5.toNatClampNeg))), none], [.inr (.inl 10), .inr (.inl ((m.2.1 88 0 x5.toNatClampNeg) * (((10 : Int32) - x3).toInt64))), .inl x5, .inr (.inr (some (88, 0)))], am_mk m)) rfl ?_
      refine am_Go.c1 htb (S' := (117, [some (.inr (.inr (some (10, 0)))), some (.inl x1), some (.inl x2), some (.inl x3), some (.inl x4), some (.inl x5), some (.inr (.inl (m.2.1 88 0 x5.toNatClampNeg))), none], [.inr (.inl (((m.2.1 88 0 x5.toNatClampNeg) * (((10 : Int32) - x3).toInt64)) / (10 : Int64))), .inl x5, .inr (.inr (some (88, 0)))], am_mk m)) rfl ?_
      obtain ⟨hg15, h⟩ := am_ck_some h
      refine am_Go.c1 htb (S' := (118, [some (.inr (.inr (some (10, 0)))), some (.inl x1), some (.inl x2), some (.inl x3), some (.inl x4), some (.inl x5), some (.inr (.inl (m.2.1 88 0 x5.toNatClampNeg))), none], [], am_mk (am_sg m 88 0 x5.toNatClampNeg (((m.2.1 88 0 x5.toNatClampNeg) * (((10 : Int32) - x3).toInt64)) / (10 : Int64))))) (if_neg hg15) ?_
      refine am_Go.n htb 6 (S' := (127, [some (.inr (.inr (some (10, 0)))), some (.inl x1), some (.inl x2), some (.inl x3), some (.inl x4), some (.inl x5), some (.inr (.inl (m.2.1 88 0 x5.toNatClampNeg))), none], [.inl (x5 + (1 : Int32)), .inr (.inr (some (88, 0))), .inl (x5 + (1 : Int32)), .inr (.inr (some (88, 0)))], am_mk (am_sg m 88 0 x5.toNatClampNeg (((m.2.1 88 0 x5.toNatClampNeg) * (((10 : Int32) - x3).toInt64)) / (10 : Int64))))) rfl ?_
      obtain ⟨hg16, h⟩ := am_ck_some h
      refine am_Go.c1 htb (S' := (128, [some (.inr (.inr (some (10, 0)))), some (.inl x1), some (.inl x2), some (.inl x3), some (.inl x4), some (.inl x5), some (.inr (.inl (m.2.1 88 0 x5.toNatClampNeg))), none], [.inr (.inl ((am_sg m 88 0 x5.toNatClampNeg (((m.2.1 88 0 x5.toNatClampNeg) * (((10 : Int32) - x3).toInt64)) / (10 : Int64))).2.1 88 0 (x5 + (1 : Int32)).toNatClampNeg)), .inl (x5 + (1 : Int32)), .inr (.inr (some (88, 0)))], am_mk (am_sg m 88 0 x5.toNatClampNeg (((m.2.1 88 0 x5.toNatClampNeg) * (((10 : Int32) - x3).toInt64)) / (10 : Int64))))) (if_neg hg16) ?_
      refine am_Go.n htb 5 (S' := (136, [some (.inr (.inr (some (10, 0)))), some (.inl x1), some (.inl x2), some (.inl x3), some (.inl x4), some (.inl x5), some (.inr (.inl (m.2.1 88 0 x5.toNatClampNeg))), none], [.inr (.inl 10), .inr (.inl ((m.2.1 88 0 x5.toNatClampNeg) * x3.toInt64)), .inr (.inl ((am_sg m 88 0 x5.toNatClampNeg (((m.2.1 88 0 x5.toNatClampNeg) * (((10 : Int32) - x3).toInt64)) / (10 : Int64))).2.1 88 0 (x5 + (1 : Int32)).toNatClampNeg)), .inl (x5 + (1 : Int32)), .inr (.inr (some (88, 0)))], am_mk (am_sg m 88 0 x5.toNatClampNeg (((m.2.1 88 0 x5.toNatClampNeg) * (((10 : Int32) - x3).toInt64)) / (10 : Int64))))) rfl ?_
      refine am_Go.c1 htb (S' := (137, [some (.inr (.inr (some (10, 0)))), some (.inl x1), some (.inl x2), some (.inl x3), some (.inl x4), some (.inl x5), some (.inr (.inl (m.2.1 88 0 x5.toNatClampNeg))), none], [.inr (.inl (((m.2.1 88 0 x5.toNatClampNeg) * x3.toInt64) / (10 : Int64))), .inr (.inl ((am_sg m 88 0 x5.toNatClampNeg (((m.2.1 88 0 x5.toNatClampNeg) * (((10 : Int32) - x3).toInt64)) / (10 : Int64))).2.1 88 0 (x5 + (1 : Int32)).toNatClampNeg)), .inl (x5 + (1 : Int32)), .inr (.inr (some (88, 0)))], am_mk (am_sg m 88 0 x5.toNatClampNeg (((m.2.1 88 0 x5.toNatClampNeg) * (((10 : Int32) - x3).toInt64)) / (10 : Int64))))) rfl ?_
      refine am_Go.n htb 1 (S' := (138, [some (.inr (.inr (some (10, 0)))), some (.inl x1), some (.inl x2), some (.inl x3), some (.inl x4), some (.inl x5), some (.inr (.inl (m.2.1 88 0 x5.toNatClampNeg))), none], [.inr (.inl (((am_sg m 88 0 x5.toNatClampNeg (((m.2.1 88 0 x5.toNatClampNeg) * (((10 : Int32) - x3).toInt64)) / (10 : Int64))).2.1 88 0 (x5 + (1 : Int32)).toNatClampNeg) + (((m.2.1 88 0 x5.toNatClampNeg) * x3.toInt64) / (10 : Int64)))), .inl (x5 + (1 : Int32)), .inr (.inr (some (88, 0)))], am_mk (am_sg m 88 0 x5.toNatClampNeg (((m.2.1 88 0 x5.toNatClampNeg) * (((10 : Int32) - x3).toInt64)) / (10 : Int64))))) rfl ?_
      obtain ⟨hg17, h⟩ := am_ck_some h
      refine am_Go.c1 htb (S' := (139, [some (.inr (.inr (some (10, 0)))), some (.inl x1), some (.inl x2), some (.inl x3), some (.inl x4), some (.inl x5), some (.inr (.inl (m.2.1 88 0 x5.toNatClampNeg))), none], [], am_mk (am_sg (am_sg m 88 0 x5.toNatClampNeg (((m.2.1 88 0 x5.toNatClampNeg) * (((10 : Int32) - x3).toInt64)) / (10 : Int64))) 88 0 (x5 + (1 : Int32)).toNatClampNeg (((am_sg m 88 0 x5.toNatClampNeg (((m.2.1 88 0 x5.toNatClampNeg) * (((10 : Int32) - x3).toInt64)) / (10 : Int64))).2.1 88 0 (x5 + (1 : Int32)).toNatClampNeg) + (((m.2.1 88 0 x5.toNatClampNeg) * x3.toInt64) / (10 : Int64)))))) (if_neg hg17) ?_
      refine am_Go.o htb (am_o_inc 5 (-1)) rfl (S' := (142, [some (.inr (.inr (some (10, 0)))), some (.inl x1), some (.inl x2), some (.inl x3), some (.inl x4), some (.inl (x5 - 1)), some (.inr (.inl (m.2.1 88 0 x5.toNatClampNeg))), none], [], am_mk (am_sg (am_sg m 88 0 x5.toNatClampNeg (((m.2.1 88 0 x5.toNatClampNeg) * (((10 : Int32) - x3).toInt64)) / (10 : Int64))) 88 0 (x5 + (1 : Int32)).toNatClampNeg (((am_sg m 88 0 x5.toNatClampNeg (((m.2.1 88 0 x5.toNatClampNeg) * (((10 : Int32) - x3).toInt64)) / (10 : Int64))).2.1 88 0 (x5 + (1 : Int32)).toNatClampNeg) + (((m.2.1 88 0 x5.toNatClampNeg) * x3.toInt64) / (10 : Int64)))))) (am_incn rfl rfl) ?_
      refine am_Go.n htb 1 (S' := (85, [some (.inr (.inr (some (10, 0)))), some (.inl x1), some (.inl x2), some (.inl x3), some (.inl x4), some (.inl (x5 - 1)), some (.inr (.inl (m.2.1 88 0 x5.toNatClampNeg))), none], [], am_mk (am_sg (am_sg m 88 0 x5.toNatClampNeg (((m.2.1 88 0 x5.toNatClampNeg) * (((10 : Int32) - x3).toInt64)) / (10 : Int64))) 88 0 (x5 + (1 : Int32)).toNatClampNeg (((am_sg m 88 0 x5.toNatClampNeg (((m.2.1 88 0 x5.toNatClampNeg) * (((10 : Int32) - x3).toInt64)) / (10 : Int64))).2.1 88 0 (x5 + (1 : Int32)).toNatClampNeg) + (((m.2.1 88 0 x5.toNatClampNeg) * x3.toInt64) / (10 : Int64)))))) rfl ?_
      refine am_Go.fg (L0 := [some (.inr (.inr (some (10, 0)))), some (.inl x1), some (.inl x2), some (.inl x3), some (.inl x4), some (.inl (x5 - 1)), none, none]) (by exact ⟨rfl, ⟨rfl, ⟨rfl, ⟨rfl, ⟨rfl, ⟨rfl, trivial⟩⟩⟩⟩⟩⟩) ?_
      first | exact ih h | exact ih h hk
set_option maxRecDepth 100000 in
theorem lt_X10_few_74 (d : Nat) (hd : 2 ≤ d + 1) {r : Option am_V} {M' : am_M} {kc ks : Nat} {n : Nat} {x1 : Int32} {x2 : Int32} {x3 : Int32} {x4 : Int32} {m : am_m} {t : am_m} (h : lp_X10_few_74 n x1 x2 x3 x4 m = some t) (hk : am_Go d 281 (151, [some (.inr (.inr (some (10, 0)))), some (.inl x1), some (.inl x2), some (.inl x3), none, none, none, none], [], am_mk t) r M' kc ks) : am_Go d 281 (74, [some (.inr (.inr (some (10, 0)))), some (.inl x1), some (.inl x2), some (.inl x3), some (.inl x4), none, none, none], [], am_mk m) r M' kc ks := by
  have htb : am_tab 281 = at_281 := rfl
  induction n generalizing x4 m with
  | zero => cases h
  | succ n ih =>
    unfold lp_X10_few_74 at h
    refine am_Go.n htb 2 (S' := (77, [some (.inr (.inr (some (10, 0)))), some (.inl x1), some (.inl x2), some (.inl x3), some (.inl x4), none, none, none], [.inl x2, .inl x4], am_mk m)) rfl ?_
    by_cases hc12 : x2 ≤ x4
    · rw [if_pos hc12] at h
      refine am_Go.c1 htb (S' := (151, [some (.inr (.inr (some (10, 0)))), some (.inl x1), some (.inl x2), some (.inl x3), some (.inl x4), none, none, none], [], am_mk m)) (if_pos hc12) ?_
      cases h
      exact am_Go.fg (by exact ⟨rfl, ⟨rfl, ⟨rfl, ⟨rfl, trivial⟩⟩⟩⟩) hk
    · rw [if_neg hc12] at h
      refine am_Go.c1 htb (S' := (80, [some (.inr (.inr (some (10, 0)))), some (.inl x1), some (.inl x2), some (.inl x3), some (.inl x4), none, none, none], [], am_mk m)) (if_neg hc12) ?_
      refine am_Go.n htb 4 (S' := (85, [some (.inr (.inr (some (10, 0)))), some (.inl x1), some (.inl x2), some (.inl x3), some (.inl x4), some (.inl (x1 - (1 : Int32))), none, none], [], am_mk m)) rfl ?_
      obtain ⟨q18, h19, h⟩ := am_bd h
      refine lt_X10_few_85 _ hd (h := h19) (hk := ?_)
      refine am_Go.n htb 2 (S' := (74, [some (.inr (.inr (some (10, 0)))), some (.inl x1), some (.inl x2), some (.inl x3), some (.inl (x4 + 1)), none, none, none], [], am_mk q18)) rfl ?_
      first | exact ih h | exact ih h hk
set_option maxRecDepth 100000 in
theorem lt_X10_few_157 (d : Nat) (hd : 2 ≤ d + 1) {r : Option am_V} {M' : am_M} {kc ks : Nat} {n : Nat} {x1 : Int32} {x4 : Int64} {x6 : Int32} {m : am_m} {t : Int64} (h : lp_X10_few_157 n x1 x4 x6 m = some t) (hk : am_Go d 281 (181, [some (.inr (.inr (some (10, 0)))), some (.inl x1), none, none, some (.inr (.inl t)), none, none, none], [], am_mk m) r M' kc ks) : am_Go d 281 (157, [some (.inr (.inr (some (10, 0)))), some (.inl x1), none, none, some (.inr (.inl x4)), none, some (.inl x6), none], [], am_mk m) r M' kc ks := by
  have htb : am_tab 281 = at_281 := rfl
  induction n generalizing x4 x6 with
  | zero => cases h
  | succ n ih =>
    unfold lp_X10_few_157 at h
    refine am_Go.n htb 2 (S' := (160, [some (.inr (.inr (some (10, 0)))), some (.inl x1), none, none, some (.inr (.inl x4)), none, some (.inl x6), none], [.inl x1, .inl x6], am_mk m)) rfl ?_
    by_cases hc22 : x1 ≤ x6
    · rw [if_pos hc22] at h
      refine am_Go.c1 htb (S' := (181, [some (.inr (.inr (some (10, 0)))), some (.inl x1), none, none, some (.inr (.inl x4)), none, some (.inl x6), none], [], am_mk m)) (if_pos hc22) ?_
      cases h
      exact am_Go.fg (by exact ⟨rfl, ⟨rfl, ⟨rfl, trivial⟩⟩⟩) hk
    · rw [if_neg hc22] at h
      refine am_Go.c1 htb (S' := (163, [some (.inr (.inr (some (10, 0)))), some (.inl x1), none, none, some (.inr (.inl x4)), none, some (.inl x6), none], [], am_mk m)) (if_neg hc22) ?_
      refine am_Go.n htb 4 (S' := (171, [some (.inr (.inr (some (10, 0)))), some (.inl x1), none, none, some (.inr (.inl x4)), none, some (.inl x6), none], [.inl x6, .inr (.inr (some (88, 0))), .inr (.inl x4)], am_mk m)) rfl ?_
      obtain ⟨hg23, h⟩ := am_ck_some h
      refine am_Go.c1 htb (S' := (172, [some (.inr (.inr (some (10, 0)))), some (.inl x1), none, none, some (.inr (.inl x4)), none, some (.inl x6), none], [.inr (.inl (m.2.1 88 0 x6.toNatClampNeg)), .inr (.inl x4)], am_mk m)) (if_neg hg23) ?_
      refine am_Go.n htb 4 (S' := (157, [some (.inr (.inr (some (10, 0)))), some (.inl x1), none, none, some (.inr (.inl (x4 + (m.2.1 88 0 x6.toNatClampNeg)))), none, some (.inl (x6 + 1)), none], [], am_mk m)) rfl ?_
      first | exact ih h | exact ih h hk
set_option maxRecDepth 100000 in
theorem ex_X10_few (d : Nat) (hd : 2 ≤ d) (a1 : Int32) (a2 : Int32) (m : am_m) (t : Int64 × am_m) (h : fn_X10_few a1 a2 m = some t) : am_Ex am_cod d 281 [.inr (.inr (some (10, 0))), .inl a1, .inl a2] (am_mk m) (some (.inr (.inl t.1))) (am_mk t.2) 0 0 := by
  obtain ⟨d, rfl⟩ : ∃ e, d = e + 1 := ⟨d - 1, by omega⟩
  have htb : am_tab 281 = at_281 := rfl
  refine ⟨Nat.le_of_ble_eq_true rfl, ?_⟩
  unfold fn_X10_few at h
  show am_Go d 281 (0, [some (.inr (.inr (some (10, 0)))), some (.inl a1), some (.inl a2), none, none, none, none, none], [], am_mk m) _ _ 0 0
  refine am_Go.n htb 7 (S' := (11, [some (.inr (.inr (some (10, 0)))), some (.inl a1), some (.inl a2), none, none, none, none, none], [.inr (.inl 20), .inr (.inl 1), .inr (.inl a1.toInt64)], am_mk (am_si m 10 0 0 0))) rfl ?_
  obtain ⟨r1, h2, h⟩ := am_bd h
  refine am_Go.cl htb rfl (ex_X10_in d (by omega) a1.toInt64 1 20 (am_si m 10 0 0 0) r1 h2) ?_
  show am_Go d 281 (14, [some (.inr (.inr (some (10, 0)))), some (.inl a1), some (.inl a2), none, none, none, none, none], [.inl r1], am_mk (am_si m 10 0 0 0)) _ _ _ _
  by_cases hc3 : r1 = 0
  · rw [if_pos hc3] at h
    refine am_Go.c1 htb (S' := (29, [some (.inr (.inr (some (10, 0)))), some (.inl a1), some (.inl a2), none, none, none, none, none], [], am_mk (am_si m 10 0 0 0))) (if_pos hc3) ?_
    refine am_Go.n htb 1 (S' := (32, [some (.inr (.inr (some (10, 0)))), some (.inl a1), some (.inl a2), none, none, none, none, none], [.inr (.inl (-1))], am_mk (am_si m 10 0 0 0))) rfl ?_
    cases h
    exact am_Go.rt htb rfl
  · rw [if_neg hc3] at h
    refine am_Go.c1 htb (S' := (17, [some (.inr (.inr (some (10, 0)))), some (.inl a1), some (.inl a2), none, none, none, none, none], [], am_mk (am_si m 10 0 0 0))) (if_neg hc3) ?_
    refine am_Go.n htb 4 (S' := (23, [some (.inr (.inr (some (10, 0)))), some (.inl a1), some (.inl a2), none, none, none, none, none], [.inr (.inl 99), .inr (.inl 0), .inr (.inl a2.toInt64)], am_mk (am_si m 10 0 0 0))) rfl ?_
    obtain ⟨r4, h5, h⟩ := am_bd h
    refine am_Go.cl htb rfl (ex_X10_in d (by omega) a2.toInt64 0 99 (am_si m 10 0 0 0) r4 h5) ?_
    show am_Go d 281 (26, [some (.inr (.inr (some (10, 0)))), some (.inl a1), some (.inl a2), none, none, none, none, none], [.inl r4], am_mk (am_si m 10 0 0 0)) _ _ _ _
    by_cases hc6 : r4 ≠ 0
    · rw [if_pos hc6] at h
      refine am_Go.c1 htb (S' := (33, [some (.inr (.inr (some (10, 0)))), some (.inl a1), some (.inl a2), none, none, none, none, none], [], am_mk (am_si m 10 0 0 0))) (if_pos hc6) ?_
      refine am_Go.n htb 2 (S' := (35, [some (.inr (.inr (some (10, 0)))), some (.inl a1), some (.inl a2), some (.inl 0), none, none, none, none], [], am_mk (am_si m 10 0 0 0))) rfl ?_
      obtain ⟨q10, h11, h⟩ := am_bd h
      refine lt_X10_few_35 _ hd (h := h11) (hk := ?_)
      refine am_Go.n htb 7 (S' := (74, [some (.inr (.inr (some (10, 0)))), some (.inl a1), some (.inl a2), some (.inl (q10.1 44 0 5)), some (.inl 0), none, none, none], [], am_mk q10)) rfl ?_
      obtain ⟨q20, h21, h⟩ := am_bd h
      refine lt_X10_few_74 _ hd (h := h21) (hk := ?_)
      refine am_Go.n htb 4 (S' := (157, [some (.inr (.inr (some (10, 0)))), some (.inl a1), some (.inl a2), some (.inl (q10.1 44 0 5)), some (.inr (.inl 0)), none, some (.inl 0), none], [], am_mk q20)) rfl ?_
      refine am_Go.fg (L0 := [some (.inr (.inr (some (10, 0)))), some (.inl a1), none, none, some (.inr (.inl 0)), none, some (.inl 0), none]) (by exact ⟨rfl, ⟨rfl, ⟨rfl, ⟨rfl, trivial⟩⟩⟩⟩) ?_
      obtain ⟨q24, h25, h⟩ := am_bd h
      refine lt_X10_few_157 _ hd (h := h25) (hk := ?_)
      refine am_Go.n htb 1 (S' := (183, [some (.inr (.inr (some (10, 0)))), some (.inl a1), none, none, some (.inr (.inl q24)), none, none, none], [.inr (.inl q24)], am_mk q20)) rfl ?_
      cases h
      exact am_Go.rt htb rfl
    · rw [if_neg hc6] at h
      refine am_Go.c1 htb (S' := (29, [some (.inr (.inr (some (10, 0)))), some (.inl a1), some (.inl a2), none, none, none, none, none], [], am_mk (am_si m 10 0 0 0))) (if_neg hc6) ?_
      refine am_Go.n htb 1 (S' := (32, [some (.inr (.inr (some (10, 0)))), some (.inl a1), some (.inl a2), none, none, none, none, none], [.inr (.inl (-1))], am_mk (am_si m 10 0 0 0))) rfl ?_
      cases h
      exact am_Go.rt htb rfl
