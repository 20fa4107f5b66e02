-- X10_bridges
def lp_X10_bridges_33 : Nat → Int32 → Int32 → Int32 → Int32 → Int32 → am_m → Option (Int32 × Int32 × am_m)
  | 0, _, _, _, _, _, _ => none
  | n + 1, x1, x2, x3, x4, x5, m =>
  am_ck 0 5518 ((if (m.1 44 0 (0 : Int32).toNatClampNeg) ≤ x5 then some (x2, x3, m) else am_ck (((7 : Int32) * x4) + x5) 49 ((if (m.1 92 0 (((7 : Int32) * x4) + x5).toNatClampNeg) = 0 then some (x2, x3, m) else (fn_X10_isBridge x4 x5 m).bind fun r9 => (if r9.1 = 0 then some (x2, x3, r9.2) else some ((x2 + 1), (if x2 ≠ x1 then x3 else (((10 : Int32) * x4) + x5)), r9.2))).bind fun q13 => lp_X10_bridges_33 n x1 q13.1 q13.2.1 x4 (x5 + 1) q13.2.2)))
set_option maxRecDepth 100000 in
theorem lt_X10_bridges_33 (d : Nat) (hd : 9 ≤ d + 1) {r : Option am_V} {M' : am_M} {kc ks : Nat} {n : Nat} {x1 : Int32} {x2 : Int32} {x3 : Int32} {x4 : Int32} {x5 : Int32} {m : am_m} {t : Int32 × Int32 × am_m} (h : lp_X10_bridges_33 n x1 x2 x3 x4 x5 m = some t) (hk : am_Go d 271 (98, [some (.inr (.inr (some (10, 0)))), some (.inl x1), some (.inl t.1), some (.inl t.2.1), some (.inl x4), none], [], am_mk t.2.2) r M' kc ks) : am_Go d 271 (33, [some (.inr (.inr (some (10, 0)))), some (.inl x1), some (.inl x2), some (.inl x3), some (.inl x4), some (.inl x5)], [], am_mk m) r M' kc ks := by
  have htb : am_tab 271 = at_271 := rfl
  induction n generalizing x2 x3 x5 m with
  | zero => cases h
  | succ n ih =>
    unfold lp_X10_bridges_33 at h
    refine am_Go.n htb 4 (S' := (40, [some (.inr (.inr (some (10, 0)))), some (.inl x1), some (.inl x2), some (.inl x3), some (.inl x4), some (.inl x5)], [.inl 0, .inr (.inr (some (44, 0))), .inl x5], am_mk m)) rfl ?_
    obtain ⟨hg5, h⟩ := am_ck_some h
    refine am_Go.c1 htb (S' := (41, [some (.inr (.inr (some (10, 0)))), some (.inl x1), some (.inl x2), some (.inl x3), some (.inl x4), some (.inl x5)], [.inl (m.1 44 0 (0 : Int32).toNatClampNeg), .inl x5], am_mk m)) (if_neg hg5) ?_
    by_cases hc6 : (m.1 44 0 (0 : Int32).toNatClampNeg) ≤ x5
    · rw [if_pos hc6] at h
      refine am_Go.c1 htb (S' := (98, [some (.inr (.inr (some (10, 0)))), some (.inl x1), some (.inl x2), some (.inl x3), some (.inl x4), some (.inl x5)], [], am_mk m)) (if_pos hc6) ?_
      cases h
      exact am_Go.fg (by exact ⟨rfl, ⟨rfl, ⟨rfl, ⟨rfl, ⟨rfl, trivial⟩⟩⟩⟩⟩) hk
    · rw [if_neg hc6] at h
      refine am_Go.c1 htb (S' := (44, [some (.inr (.inr (some (10, 0)))), some (.inl x1), some (.inl x2), some (.inl x3), some (.inl x4), some (.inl x5)], [], am_mk m)) (if_neg hc6) ?_
      refine am_Go.n htb 7 (S' := (56, [some (.inr (.inr (some (10, 0)))), some (.inl x1), some (.inl x2), some (.inl x3), some (.inl x4), some (.inl x5)], [.inl (((7 : Int32) * x4) + x5), .inr (.inr (some (92, 0)))], am_mk m)) rfl ?_
      obtain ⟨hg7, h⟩ := am_ck_some h
      refine am_Go.c1 htb (S' := (57, [some (.inr (.inr (some (10, 0)))), some (.inl x1), some (.inl x2), some (.inl x3), some (.inl x4), some (.inl x5)], [.inl (m.1 92 0 (((7 : Int32) * x4) + x5).toNatClampNeg)], am_mk m)) (if_neg hg7) ?_
      obtain ⟨q13, h14, h⟩ := am_bd h
      refine am_Go.cut (S := (92, [some (.inr (.inr (some (10, 0)))), some (.inl x1), some (.inl q13.1), some (.inl q13.2.1), some (.inl x4), some (.inl x5)], [], am_mk q13.2.2)) ?_ (fun key => ?_)
      · refine am_Go.n htb 2 (S' := (33, [some (.inr (.inr (some (10, 0)))), some (.inl x1), some (.inl q13.1), some (.inl q13.2.1), some (.inl x4), some (.inl (x5 + 1))], [], am_mk q13.2.2)) rfl ?_
        exact ih h hk
      · have h := h14
        by_cases hc8 : (m.1 92 0 (((7 : Int32) * x4) + x5).toNatClampNeg) = 0
        · rw [if_pos hc8] at h
          refine am_Go.c1 htb (S' := (92, [some (.inr (.inr (some (10, 0)))), some (.inl x1), some (.inl x2), some (.inl x3), some (.inl x4), some (.inl x5)], [], am_mk m)) (if_pos hc8) ?_
          cases h
          exact am_Go.fg (by exact ⟨rfl, ⟨rfl, ⟨rfl, ⟨rfl, ⟨rfl, ⟨rfl, trivial⟩⟩⟩⟩⟩⟩) key
        · rw [if_neg hc8] at h
          refine am_Go.c1 htb (S' := (60, [some (.inr (.inr (some (10, 0)))), some (.inl x1), some (.inl x2), some (.inl x3), some (.inl x4), some (.inl x5)], [], am_mk m)) (if_neg hc8) ?_
          refine am_Go.n htb 3 (S' := (65, [some (.inr (.inr (some (10, 0)))), some (.inl x1), some (.inl x2), some (.inl x3), some (.inl x4), some (.inl x5)], [.inl x5, .inl x4, .inr (.inr (some (10, 0)))], am_mk m)) rfl ?_
          obtain ⟨r9, h10, h⟩ := am_bd h
          refine am_Go.cl htb rfl (ex_X10_isBridge d (by omega) x4 x5 m r9 h10) ?_
          show am_Go d 271 (68, [some (.inr (.inr (some (10, 0)))), some (.inl x1), some (.inl x2), some (.inl x3), some (.inl x4), some (.inl x5)], [.inl r9.1], am_mk r9.2) _ _ _ _
          by_cases hc11 : r9.1 = 0
          · rw [if_pos hc11] at h
            refine am_Go.c1 htb (S' := (92, [some (.inr (.inr (some (10, 0)))), some (.inl x1), some (.inl x2), some (.inl x3), some (.inl x4), some (.inl x5)], [], am_mk r9.2)) (if_pos hc11) ?_
            cases h
            exact am_Go.fg (by exact ⟨rfl, ⟨rfl, ⟨rfl, ⟨rfl, ⟨rfl, ⟨rfl, trivial⟩⟩⟩⟩⟩⟩) key
          · rw [if_neg hc11] at h
            refine am_Go.c1 htb (S' := (71, [some (.inr (.inr (some (10, 0)))), some (.inl x1), some (.inl x2), some (.inl x3), some (.inl x4), some (.inl x5)], [], am_mk r9.2)) (if_neg hc11) ?_
            refine am_Go.n htb 2 (S' := (73, [some (.inr (.inr (some (10, 0)))), some (.inl x1), some (.inl x2), some (.inl x3), some (.inl x4), some (.inl x5)], [.inl x1, .inl x2], am_mk r9.2)) rfl ?_
            refine am_Go.cut (S := (88, [some (.inr (.inr (some (10, 0)))), some (.inl x1), some (.inl x2), some (.inl x3), some (.inl x4), some (.inl x5)], [.inl (if x2 ≠ x1 then x3 else (((10 : Int32) * x4) + x5))], am_mk r9.2)) ?_ (fun key => ?_)
            · refine am_Go.n htb 2 (S' := (92, [some (.inr (.inr (some (10, 0)))), some (.inl x1), some (.inl (x2 + 1)), some (.inl (if x2 ≠ x1 then x3 else (((10 : Int32) * x4) + x5))), some (.inl x4), some (.inl x5)], [], am_mk r9.2)) rfl ?_
              cases h
              exact am_Go.fg (by exact ⟨rfl, ⟨rfl, ⟨rfl, ⟨rfl, ⟨rfl, ⟨rfl, trivial⟩⟩⟩⟩⟩⟩) key
            · by_cases hc12 : x2 ≠ x1
              · refine am_Go.c1 htb (S' := (87, [some (.inr (.inr (some (10, 0)))), some (.inl x1), some (.inl x2), some (.inl x3), some (.inl x4), some (.inl x5)], [], am_mk r9.2)) (if_pos hc12) ?_
                refine am_Go.n htb 1 (S' := (88, [some (.inr (.inr (some (10, 0)))), some (.inl x1), some (.inl x2), some (.inl x3), some (.inl x4), some (.inl x5)], [.inl x3], am_mk r9.2)) rfl ?_
                simp only [if_pos hc12] at key
                exact am_Go.fg (by exact ⟨rfl, ⟨rfl, ⟨rfl, ⟨rfl, ⟨rfl, ⟨rfl, trivial⟩⟩⟩⟩⟩⟩) key
              · refine am_Go.c1 htb (S' := (76, [some (.inr (.inr (some (10, 0)))), some (.inl x1), some (.inl x2), some (.inl x3), some (.inl x4), some (.inl x5)], [], am_mk r9.2)) (if_neg hc12) ?_
                refine am_Go.n htb 6 (S' := (88, [some (.inr (.inr (some (10, 0)))), some (.inl x1), some (.inl x2), some (.inl x3), some (.inl x4), some (.inl x5)], [.inl (((10 : Int32) * x4) + x5)], am_mk r9.2)) rfl ?_
                simp only [if_neg hc12] at key
                exact am_Go.fg (by exact ⟨rfl, ⟨rfl, ⟨rfl, ⟨rfl, ⟨rfl, ⟨rfl, trivial⟩⟩⟩⟩⟩⟩) key
def lp_X10_bridges_16 : Nat → Int32 → Int32 → Int32 → Int32 → am_m → Option (Int32 × Int32 × am_m)
  | 0, _, _, _, _, _ => none
  | n + 1, x1, x2, x3, x4, m =>
  am_ck 0 5518 ((if (m.1 44 0 (0 : Int32).toNatClampNeg) ≤ x4 then some (x2, x3, m) else (lp_X10_bridges_33 1000000 x1 x2 x3 x4 (x4 + (1 : Int32)) m).bind fun q15 => lp_X10_bridges_16 n x1 q15.1 q15.2.1 (x4 + 1) q15.2.2))
set_option maxRecDepth 100000 in
theorem lt_X10_bridges_16 (d : Nat) (hd : 9 ≤ d + 1) {r : Option am_V} {M' : am_M} {kc ks : Nat} {n : Nat} {x1 : Int32} {x2 : Int32} {x3 : Int32} {x4 : Int32} {m : am_m} {t : Int32 × Int32 × am_m} (h : lp_X10_bridges_16 n x1 x2 x3 x4 m = some t) (hk : am_Go d 271 (104, [some (.inr (.inr (some (10, 0)))), some (.inl x1), some (.inl t.1), some (.inl t.2.1), none, none], [], am_mk t.2.2) r M' kc ks) : am_Go d 271 (16, [some (.inr (.inr (some (10, 0)))), some (.inl x1), some (.inl x2), some (.inl x3), some (.inl x4), none], [], am_mk m) r M' kc ks := by
  have htb : am_tab 271 = at_271 := rfl
  induction n generalizing x2 x3 x4 m with
  | zero => cases h
  | succ n ih =>
    unfold lp_X10_bridges_16 at h
    refine am_Go.n htb 4 (S' := (23, [some (.inr (.inr (some (10, 0)))), some (.inl x1), some (.inl x2), some (.inl x3), some (.inl x4), none], [.inl 0, .inr (.inr (some (44, 0))), .inl x4], am_mk m)) rfl ?_
    obtain ⟨hg3, h⟩ := am_ck_some h
    refine am_Go.c1 htb (S' := (24, [some (.inr (.inr (some (10, 0)))), some (.inl x1), some (.inl x2), some (.inl x3), some (.inl x4), none], [.inl (m.1 44 0 (0 : Int32).toNatClampNeg), .inl x4], am_mk m)) (if_neg hg3) ?_
    by_cases hc4 : (m.1 44 0 (0 : Int32).toNatClampNeg) ≤ x4
    · rw [if_pos hc4] at h
      refine am_Go.c1 htb (S' := (104, [some (.inr (.inr (some (10, 0)))), some (.inl x1), some (.inl x2), some (.inl x3), some (.inl x4), none], [], am_mk m)) (if_pos hc4) ?_
      cases h
      exact am_Go.fg (by exact ⟨rfl, ⟨rfl, ⟨rfl, ⟨rfl, trivial⟩⟩⟩⟩) hk
    · rw [if_neg hc4] at h
      refine am_Go.c1 htb (S' := (27, [some (.inr (.inr (some (10, 0)))), some (.inl x1), some (.inl x2), some (.inl x3), some (.inl x4), none], [], am_mk m)) (if_neg hc4) ?_
      refine am_Go.n htb 4 (S' := (33, [some (.inr (.inr (some (10, 0)))), some (.inl x1), some (.inl x2), some (.inl x3), some (.inl x4), some (.inl (x4 + (1 : Int32)))], [], am_mk m)) rfl ?_
      obtain ⟨q15, h16, h⟩ := am_bd h
      refine lt_X10_bridges_33 _ hd (h := h16) (hk := ?_)
      refine am_Go.n htb 2 (S' := (16, [some (.inr (.inr (some (10, 0)))), some (.inl x1), some (.inl q15.1), some (.inl q15.2.1), some (.inl (x4 + 1)), none], [], am_mk q15.2.2)) rfl ?_
      exact ih h hk
def fn_X10_bridges (a1 : Int32) (m : am_m) : Option (Int32 × am_m) :=
  (fn_X10_layMay  (am_si m 10 0 0 0)).bind fun r1 => (lp_X10_bridges_16 1000000 a1 0 (-1) 0 r1).bind fun q17 => (if a1 ≠ (-1 : Int32) then some (q17.2.1, q17.2.2) else some (q17.1, q17.2.2))
set_option maxRecDepth 100000 in
theorem ex_X10_bridges (d : Nat) (hd : 9 ≤ d) (a1 : Int32) (m : am_m) (t : Int32 × am_m) (h : fn_X10_bridges a1 m = some t) : am_Ex am_cod d 271 [.inr (.inr (some (10, 0))), .inl a1] (am_mk m) (some (.inl t.1)) (am_mk t.2) 0 0 := by
  obtain ⟨d, rfl⟩ : ∃ e, d = e + 1 := ⟨d - 1, by omega⟩
  have htb : am_tab 271 = at_271 := rfl
  refine ⟨Nat.le_of_ble_eq_true rfl, ?_⟩
  unfold fn_X10_bridges at h
  show am_Go d 271 (0, [some (.inr (.inr (some (10, 0)))), some (.inl a1), none, none, none, none], [], am_mk m) _ _ 0 0
  refine am_Go.n htb 4 (S' := (6, [some (.inr (.inr (some (10, 0)))), some (.inl a1), none, none, none, none], [.inr (.inr (some (10, 0)))], am_mk (am_si m 10 0 0 0))) rfl ?_
  obtain ⟨r1, h2, h⟩ := am_bd h
  refine am_Go.cl htb rfl (ex_X10_layMay d (by omega)  (am_si m 10 0 0 0) r1 h2) ?_
  show am_Go d 271 (9, [some (.inr (.inr (some (10, 0)))), some (.inl a1), none, none, none, none], [], am_mk r1) _ _ _ _
  refine am_Go.n htb 6 (S' := (16, [some (.inr (.inr (some (10, 0)))), some (.inl a1), some (.inl 0), some (.inl (-1)), some (.inl 0), none], [], am_mk r1)) rfl ?_
  obtain ⟨q17, h18, h⟩ := am_bd h
  refine lt_X10_bridges_16 _ hd (h := h18) (hk := ?_)
  refine am_Go.n htb 2 (S' := (106, [some (.inr (.inr (some (10, 0)))), some (.inl a1), some (.inl q17.1), some (.inl q17.2.1), none, none], [.inl (-1), .inl a1], am_mk q17.2.2)) rfl ?_
  by_cases hc19 : a1 ≠ (-1 : Int32)
  · rw [if_pos hc19] at h
    refine am_Go.c1 htb (S' := (113, [some (.inr (.inr (some (10, 0)))), some (.inl a1), some (.inl q17.1), some (.inl q17.2.1), none, none], [], am_mk q17.2.2)) (if_pos hc19) ?_
    refine am_Go.n htb 1 (S' := (114, [some (.inr (.inr (some (10, 0)))), some (.inl a1), some (.inl q17.1), some (.inl q17.2.1), none, none], [.inl q17.2.1], am_mk q17.2.2)) rfl ?_
    cases h
    exact am_Go.r htb rfl
  · rw [if_neg hc19] at h
    refine am_Go.c1 htb (S' := (109, [some (.inr (.inr (some (10, 0)))), some (.inl a1), some (.inl q17.1), some (.inl q17.2.1), none, none], [], am_mk q17.2.2)) (if_neg hc19) ?_
    refine am_Go.n htb 2 (S' := (114, [some (.inr (.inr (some (10, 0)))), some (.inl a1), some (.inl q17.1), some (.inl q17.2.1), none, none], [.inl q17.1], am_mk q17.2.2)) rfl ?_
    cases h
    exact am_Go.r htb rfl
-- X10_sat
def fn_X10_sat (a1 : Int32) (m : am_m) : Option (Int32 × am_m) :=
  (fn_X10_isSet a1 (am_si m 10 0 0 0)).bind fun r1 => (if r1 = 0 then (fn_X10_tell (-1) (am_si m 10 0 0 0)).bind fun r4 => some (r4.1, r4.2) else (fn_X10_ones a1 (am_si m 10 0 0 0)).bind fun r6 => (if (2 : Int32) ≤ r6 then (fn_X10_areThere a1 (am_si m 10 0 0 0)).bind fun r9 => (if r9 ≠ 0 then am_ck 1 5518 ((if ((am_si m 10 0 0 0).1 44 0 (1 : Int32).toNatClampNeg) ≠ (6 : Int32) then am_ck ((112 : Int32) + ((am_si m 10 0 0 0).1 44 0 (1 : Int32).toNatClampNeg)) 5518 (am_ck 1 5518 (am_ck 1 5518 ((fn_X10_tell (((am_si m 10 0 0 0).1 44 0 (1 : Int32).toNatClampNeg) + (1 : Int32)) (am_si (am_si (am_si m 10 0 0 0) 44 0 ((112 : Int32) + ((am_si m 10 0 0 0).1 44 0 (1 : Int32).toNatClampNeg)).toNatClampNeg a1) 44 0 (1 : Int32).toNatClampNeg (((am_si (am_si m 10 0 0 0) 44 0 ((112 : Int32) + ((am_si m 10 0 0 0).1 44 0 (1 : Int32).toNatClampNeg)).toNatClampNeg a1).1 44 0 (1 : Int32).toNatClampNeg) + (1 : Int32)))).bind fun r17 => some (r17.1, r17.2)))) else (fn_X10_tell (-5) (am_si m 10 0 0 0)).bind fun r19 => some (r19.1, r19.2))) else (fn_X10_tell (-2) (am_si m 10 0 0 0)).bind fun r21 => some (r21.1, r21.2)) else (fn_X10_tell (-1) (am_si m 10 0 0 0)).bind fun r23 => some (r23.1, r23.2)))
set_option maxRecDepth 100000 in
theorem ex_X10_sat (d : Nat) (hd : 3 ≤ d) (a1 : Int32) (m : am_m) (t : Int32 × am_m) (h : fn_X10_sat a1 m = some t) : am_Ex am_cod d 272 [.inr (.inr (some (10, 0))), .inl a1] (am_mk m) (some (.inl t.1)) (am_mk t.2) 0 0 := by
  obtain ⟨d, rfl⟩ : ∃ e, d = e + 1 := ⟨d - 1, by omega⟩
  have htb : am_tab 272 = at_272 := rfl
  refine ⟨Nat.le_of_ble_eq_true rfl, ?_⟩
  unfold fn_X10_sat at h
  show am_Go d 272 (0, [some (.inr (.inr (some (10, 0)))), some (.inl a1), none], [], am_mk m) _ _ 0 0
  refine am_Go.n htb 4 (S' := (6, [some (.inr (.inr (some (10, 0)))), some (.inl a1), none], [.inl a1], am_mk (am_si m 10 0 0 0))) rfl ?_
  obtain ⟨r1, h2, h⟩ := am_bd h
  refine am_Go.cl htb rfl (ex_X10_isSet d (by omega) a1 (am_si m 10 0 0 0) r1 h2) ?_
  show am_Go d 272 (9, [some (.inr (.inr (some (10, 0)))), some (.inl a1), none], [.inl r1], am_mk (am_si m 10 0 0 0)) _ _ _ _
  by_cases hc3 : r1 = 0
  · rw [if_pos hc3] at h
    refine am_Go.c1 htb (S' := (20, [some (.inr (.inr (some (10, 0)))), some (.inl a1), none], [], am_mk (am_si m 10 0 0 0))) (if_pos hc3) ?_
    refine am_Go.n htb 2 (S' := (22, [some (.inr (.inr (some (10, 0)))), some (.inl a1), none], [.inl (-1), .inr (.inr (some (10, 0)))], am_mk (am_si m 10 0 0 0))) rfl ?_
    obtain ⟨r4, h5, h⟩ := am_bd h
    refine am_Go.cl htb rfl (ex_X10_tell d (by omega) (-1) (am_si m 10 0 0 0) r4 h5) ?_
    show am_Go d 272 (25, [some (.inr (.inr (some (10, 0)))), some (.inl a1), none], [.inl r4.1], am_mk r4.2) _ _ _ _
    cases h
    exact am_Go.r htb rfl
  · rw [if_neg hc3] at h
    refine am_Go.c1 htb (S' := (12, [some (.inr (.inr (some (10, 0)))), some (.inl a1), none], [], am_mk (am_si m 10 0 0 0))) (if_neg hc3) ?_
    refine am_Go.n htb 1 (S' := (13, [some (.inr (.inr (some (10, 0)))), some (.inl a1), none], [.inl a1], am_mk (am_si m 10 0 0 0))) rfl ?_
    obtain ⟨r6, h7, h⟩ := am_bd h
    refine am_Go.cl htb rfl (ex_X10_ones d (by omega) a1 (am_si m 10 0 0 0) r6 h7) ?_
    show am_Go d 272 (16, [some (.inr (.inr (some (10, 0)))), some (.inl a1), none], [.inl r6], am_mk (am_si m 10 0 0 0)) _ _ _ _
    refine am_Go.n htb 1 (S' := (17, [some (.inr (.inr (some (10, 0)))), some (.inl a1), none], [.inl 2, .inl r6], am_mk (am_si m 10 0 0 0))) rfl ?_
    by_cases hc8 : (2 : Int32) ≤ r6
    · rw [if_pos hc8] at h
      refine am_Go.c1 htb (S' := (26, [some (.inr (.inr (some (10, 0)))), some (.inl a1), none], [], am_mk (am_si m 10 0 0 0))) (if_pos hc8) ?_
      refine am_Go.n htb 2 (S' := (28, [some (.inr (.inr (some (10, 0)))), some (.inl a1), none], [.inl a1, .inr (.inr (some (10, 0)))], am_mk (am_si m 10 0 0 0))) rfl ?_
      obtain ⟨r9, h10, h⟩ := am_bd h
      refine am_Go.cl htb rfl (ex_X10_areThere d (by omega) a1 (am_si m 10 0 0 0) r9 h10) ?_
      show am_Go d 272 (31, [some (.inr (.inr (some (10, 0)))), some (.inl a1), none], [.inl r9], am_mk (am_si m 10 0 0 0)) _ _ _ _
      by_cases hc11 : r9 ≠ 0
      · rw [if_pos hc11] at h
        refine am_Go.c1 htb (S' := (41, [some (.inr (.inr (some (10, 0)))), some (.inl a1), none], [], am_mk (am_si m 10 0 0 0))) (if_pos hc11) ?_
        refine am_Go.n htb 3 (S' := (46, [some (.inr (.inr (some (10, 0)))), some (.inl a1), none], [.inl 1, .inr (.inr (some (44, 0)))], am_mk (am_si m 10 0 0 0))) rfl ?_
        obtain ⟨hg12, h⟩ := am_ck_some h
        refine am_Go.c1 htb (S' := (47, [some (.inr (.inr (some (10, 0)))), some (.inl a1), none], [.inl ((am_si m 10 0 0 0).1 44 0 (1 : Int32).toNatClampNeg)], am_mk (am_si m 10 0 0 0))) (if_neg hg12) ?_
        refine am_Go.n htb 3 (S' := (51, [some (.inr (.inr (some (10, 0)))), some (.inl a1), some (.inl ((am_si m 10 0 0 0).1 44 0 (1 : Int32).toNatClampNeg))], [.inl 6, .inl ((am_si m 10 0 0 0).1 44 0 (1 : Int32).toNatClampNeg)], am_mk (am_si m 10 0 0 0))) rfl ?_
        by_cases hc13 : ((am_si m 10 0 0 0).1 44 0 (1 : Int32).toNatClampNeg) ≠ (6 : Int32)
        · rw [if_pos hc13] at h
          refine am_Go.c1 htb (S' := (61, [some (.inr (.inr (some (10, 0)))), some (.inl a1), some (.inl ((am_si m 10 0 0 0).1 44 0 (1 : Int32).toNatClampNeg))], [], am_mk (am_si m 10 0 0 0))) (if_pos hc13) ?_
          refine am_Go.n htb 6 (S' := (70, [some (.inr (.inr (some (10, 0)))), some (.inl a1), some (.inl ((am_si m 10 0 0 0).1 44 0 (1 : Int32).toNatClampNeg))], [.inl a1, .inl ((112 : Int32) + ((am_si m 10 0 0 0).1 44 0 (1 : Int32).toNatClampNeg)), .inr (.inr (some (44, 0)))], am_mk (am_si m 10 0 0 0))) rfl ?_
          obtain ⟨hg14, h⟩ := am_ck_some h
          refine am_Go.c1 htb (S' := (71, [some (.inr (.inr (some (10, 0)))), some (.inl a1), some (.inl ((am_si m 10 0 0 0).1 44 0 (1 : Int32).toNatClampNeg))], [], am_mk (am_si (am_si m 10 0 0 0) 44 0 ((112 : Int32) + ((am_si m 10 0 0 0).1 44 0 (1 : Int32).toNatClampNeg)).toNatClampNeg a1))) (if_neg hg14) ?_
          refine am_Go.n htb 4 (S' := (77, [some (.inr (.inr (some (10, 0)))), some (.inl a1), some (.inl ((am_si m 10 0 0 0).1 44 0 (1 : Int32).toNatClampNeg))], [.inl 1, .inr (.inr (some (44, 0))), .inl 1, .inr (.inr (some (44, 0)))], am_mk (am_si (am_si m 10 0 0 0) 44 0 ((112 : Int32) + ((am_si m 10 0 0 0).1 44 0 (1 : Int32).toNatClampNeg)).toNatClampNeg a1))) rfl ?_
          obtain ⟨hg15, h⟩ := am_ck_some h
          refine am_Go.c1 htb (S' := (78, [some (.inr (.inr (some (10, 0)))), some (.inl a1), some (.inl ((am_si m 10 0 0 0).1 44 0 (1 : Int32).toNatClampNeg))], [.inl ((am_si (am_si m 10 0 0 0) 44 0 ((112 : Int32) + ((am_si m 10 0 0 0).1 44 0 (1 : Int32).toNatClampNeg)).toNatClampNeg a1).1 44 0 (1 : Int32).toNatClampNeg), .inl 1, .inr (.inr (some (44, 0)))], am_mk (am_si (am_si m 10 0 0 0) 44 0 ((112 : Int32) + ((am_si m 10 0 0 0).1 44 0 (1 : Int32).toNatClampNeg)).toNatClampNeg a1))) (if_neg hg15) ?_
          refine am_Go.n htb 2 (S' := (80, [some (.inr (.inr (some (10, 0)))), some (.inl a1), some (.inl ((am_si m 10 0 0 0).1 44 0 (1 : Int32).toNatClampNeg))], [.inl (((am_si (am_si m 10 0 0 0) 44 0 ((112 : Int32) + ((am_si m 10 0 0 0).1 44 0 (1 : Int32).toNatClampNeg)).toNatClampNeg a1).1 44 0 (1 : Int32).toNatClampNeg) + (1 : Int32)), .inl 1, .inr (.inr (some (44, 0)))], am_mk (am_si (am_si m 10 0 0 0) 44 0 ((112 : Int32) + ((am_si m 10 0 0 0).1 44 0 (1 : Int32).toNatClampNeg)).toNatClampNeg a1))) rfl ?_
          obtain ⟨hg16, h⟩ := am_ck_some h
          refine am_Go.c1 htb (S' := (81, [some (.inr (.inr (some (10, 0)))), some (.inl a1), some (.inl ((am_si m 10 0 0 0).1 44 0 (1 : Int32).toNatClampNeg))], [], am_mk (am_si (am_si (am_si m 10 0 0 0) 44 0 ((112 : Int32) + ((am_si m 10 0 0 0).1 44 0 (1 : Int32).toNatClampNeg)).toNatClampNeg a1) 44 0 (1 : Int32).toNatClampNeg (((am_si (am_si m 10 0 0 0) 44 0 ((112 : Int32) + ((am_si m 10 0 0 0).1 44 0 (1 : Int32).toNatClampNeg)).toNatClampNeg a1).1 44 0 (1 : Int32).toNatClampNeg) + (1 : Int32))))) (if_neg hg16) ?_
          refine am_Go.n htb 4 (S' := (85, [some (.inr (.inr (some (10, 0)))), some (.inl a1), some (.inl ((am_si m 10 0 0 0).1 44 0 (1 : Int32).toNatClampNeg))], [.inl (((am_si m 10 0 0 0).1 44 0 (1 : Int32).toNatClampNeg) + (1 : Int32)), .inr (.inr (some (10, 0)))], am_mk (am_si (am_si (am_si m 10 0 0 0) 44 0 ((112 : Int32) + ((am_si m 10 0 0 0).1 44 0 (1 : Int32).toNatClampNeg)).toNatClampNeg a1) 44 0 (1 : Int32).toNatClampNeg (((am_si (am_si m 10 0 0 0) 44 0 ((112 : Int32) + ((am_si m 10 0 0 0).1 44 0 (1 : Int32).toNatClampNeg)).toNatClampNeg a1).1 44 0 (1 : Int32).toNatClampNeg) + (1 : Int32))))) rfl ?_
          obtain ⟨r17, h18, h⟩ := am_bd h
          refine am_Go.cl htb rfl (ex_X10_tell d (by omega) (((am_si m 10 0 0 0).1 44 0 (1 : Int32).toNatClampNeg) + (1 : Int32)) (am_si (am_si (am_si m 10 0 0 0) 44 0 ((112 : Int32) + ((am_si m 10 0 0 0).1 44 0 (1 : Int32).toNatClampNeg)).toNatClampNeg a1) 44 0 (1 : Int32).toNatClampNeg (((am_si (am_si m 10 0 0 0) 44 0 ((112 : Int32) + ((am_si m 10 0 0 0).1 44 0 (1 : Int32).toNatClampNeg)).toNatClampNeg a1).1 44 0 (1 : Int32).toNatClampNeg) + (1 : Int32))) r17 h18) ?_
          show am_Go d 272 (88, [some (.inr (.inr (some (10, 0)))), some (.inl a1), some (.inl ((am_si m 10 0 0 0).1 44 0 (1 : Int32).toNatClampNeg))], [.inl r17.1], am_mk r17.2) _ _ _ _
          cases h
          exact am_Go.r htb rfl
        · rw [if_neg hc13] at h
          refine am_Go.c1 htb (S' := (54, [some (.inr (.inr (some (10, 0)))), some (.inl a1), some (.inl ((am_si m 10 0 0 0).1 44 0 (1 : Int32).toNatClampNeg))], [], am_mk (am_si m 10 0 0 0))) (if_neg hc13) ?_
          refine am_Go.n htb 2 (S' := (57, [some (.inr (.inr (some (10, 0)))), some (.inl a1), some (.inl ((am_si m 10 0 0 0).1 44 0 (1 : Int32).toNatClampNeg))], [.inl (-5), .inr (.inr (some (10, 0)))], am_mk (am_si m 10 0 0 0))) rfl ?_
          obtain ⟨r19, h20, h⟩ := am_bd h
          refine am_Go.cl htb rfl (ex_X10_tell d (by omega) (-5) (am_si m 10 0 0 0) r19 h20) ?_
          show am_Go d 272 (60, [some (.inr (.inr (some (10, 0)))), some (.inl a1), some (.inl ((am_si m 10 0 0 0).1 44 0 (1 : Int32).toNatClampNeg))], [.inl r19.1], am_mk r19.2) _ _ _ _
          cases h
          exact am_Go.r htb rfl
      · rw [if_neg hc11] at h
        refine am_Go.c1 htb (S' := (34, [some (.inr (.inr (some (10, 0)))), some (.inl a1), none], [], am_mk (am_si m 10 0 0 0))) (if_neg hc11) ?_
        refine am_Go.n htb 2 (S' := (37, [some (.inr (.inr (some (10, 0)))), some (.inl a1), none], [.inl (-2), .inr (.inr (some (10, 0)))], am_mk (am_si m 10 0 0 0))) rfl ?_
        obtain ⟨r21, h22, h⟩ := am_bd h
        refine am_Go.cl htb rfl (ex_X10_tell d (by omega) (-2) (am_si m 10 0 0 0) r21 h22) ?_
        show am_Go d 272 (40, [some (.inr (.inr (some (10, 0)))), some (.inl a1), none], [.inl r21.1], am_mk r21.2) _ _ _ _
        cases h
        exact am_Go.r htb rfl
    · rw [if_neg hc8] at h
      refine am_Go.c1 htb (S' := (20, [some (.inr (.inr (some (10, 0)))), some (.inl a1), none], [], am_mk (am_si m 10 0 0 0))) (if_neg hc8) ?_
      refine am_Go.n htb 2 (S' := (22, [some (.inr (.inr (some (10, 0)))), some (.inl a1), none], [.inl (-1), .inr (.inr (some (10, 0)))], am_mk (am_si m 10 0 0 0))) rfl ?_
      obtain ⟨r23, h24, h⟩ := am_bd h
      refine am_Go.cl htb rfl (ex_X10_tell d (by omega) (-1) (am_si m 10 0 0 0) r23 h24) ?_
      show am_Go d 272 (25, [some (.inr (.inr (some (10, 0)))), some (.inl a1), none], [.inl r23.1], am_mk r23.2) _ _ _ _
      cases h
      exact am_Go.r htb rfl
-- X10_forget
def fn_X10_forget  (m : am_m) : Option (Int32 × am_m) :=
  am_ck 1 5518 (am_ck 1 5518 (some (((am_si m 10 0 0 0).1 44 0 (1 : Int32).toNatClampNeg), am_si (am_si m 10 0 0 0) 44 0 (1 : Int32).toNatClampNeg 0)))
set_option maxRecDepth 100000 in
theorem ex_X10_forget (d : Nat) (hd : 1 ≤ d)  (m : am_m) (t : Int32 × am_m) (h : fn_X10_forget  m = some t) : am_Ex am_cod d 273 [.inr (.inr (some (10, 0)))] (am_mk m) (some (.inl t.1)) (am_mk t.2) 0 0 := by
  obtain ⟨d, rfl⟩ : ∃ e, d = e + 1 := ⟨d - 1, by omega⟩
  have htb : am_tab 273 = at_273 := rfl
  refine ⟨Nat.le_of_ble_eq_true rfl, ?_⟩
  unfold fn_X10_forget at h
  show am_Go d 273 (0, [some (.inr (.inr (some (10, 0)))), none], [], am_mk m) _ _ 0 0
  refine am_Go.n htb 6 (S' := (10, [some (.inr (.inr (some (10, 0)))), none], [.inl 1, .inr (.inr (some (44, 0)))], am_mk (am_si m 10 0 0 0))) rfl ?_
  obtain ⟨hg1, h⟩ := am_ck_some h
  refine am_Go.c1 htb (S' := (11, [some (.inr (.inr (some (10, 0)))), none], [.inl ((am_si m 10 0 0 0).1 44 0 (1 : Int32).toNatClampNeg)], am_mk (am_si m 10 0 0 0))) (if_neg hg1) ?_
  refine am_Go.n htb 5 (S' := (18, [some (.inr (.inr (some (10, 0)))), some (.inl ((am_si m 10 0 0 0).1 44 0 (1 : Int32).toNatClampNeg))], [.inl 0, .inl 1, .inr (.inr (some (44, 0)))], am_mk (am_si m 10 0 0 0))) rfl ?_
  obtain ⟨hg2, h⟩ := am_ck_some h
  refine am_Go.c1 htb (S' := (19, [some (.inr (.inr (some (10, 0)))), some (.inl ((am_si m 10 0 0 0).1 44 0 (1 : Int32).toNatClampNeg))], [], am_mk (am_si (am_si m 10 0 0 0) 44 0 (1 : Int32).toNatClampNeg 0))) (if_neg hg2) ?_
  refine am_Go.n htb 1 (S' := (20, [some (.inr (.inr (some (10, 0)))), some (.inl ((am_si m 10 0 0 0).1 44 0 (1 : Int32).toNatClampNeg))], [.inl ((am_si m 10 0 0 0).1 44 0 (1 : Int32).toNatClampNeg)], am_mk (am_si (am_si m 10 0 0 0) 44 0 (1 : Int32).toNatClampNeg 0))) rfl ?_
  cases h
  exact am_Go.r htb rfl
-- X10_satBoth
def lp_X10_satBoth_5 : Nat → Int32 → Int32 → Int32 → Int32 → am_m → Option (Int32)
  | 0, _, _, _, _, _ => none
  | n + 1, x1, x2, x3, x4, m =>
  am_ck 1 5518 ((if (m.1 44 0 (1 : Int32).toNatClampNeg) ≤ x4 then some x3 else (if x3 ≠ 0 then some 1 else am_ck ((112 : Int32) + x4) 5518 ((fn_X10_is (m.1 44 0 ((112 : Int32) + x4).toNatClampNeg) x1 m).bind fun r5 => (if r5 = 0 then some 0 else am_ck ((112 : Int32) + x4) 5518 ((fn_X10_is (m.1 44 0 ((112 : Int32) + x4).toNatClampNeg) x2 m).bind fun r9 => (if r9 = 0 then some 0 else some 1))))).bind fun q12 => lp_X10_satBoth_5 n x1 x2 q12 (x4 + 1) m))
set_option maxRecDepth 100000 in
theorem lt_X10_satBoth_5 (d : Nat) (hd : 2 ≤ d + 1) {r : Option am_V} {M' : am_M} {kc ks : Nat} {n : Nat} {x1 : Int32} {x2 : Int32} {x3 : Int32} {x4 : Int32} {m : am_m} {t : Int32} (h : lp_X10_satBoth_5 n x1 x2 x3 x4 m = some t) (hk : am_Go d 274 (66, [some (.inr (.inr (some (10, 0)))), some (.inl x1), some (.inl x2), some (.inl t), none], [], am_mk m) r M' kc ks) : am_Go d 274 (5, [some (.inr (.inr (some (10, 0)))), some (.inl x1), some (.inl x2), some (.inl x3), some (.inl x4)], [], am_mk m) r M' kc ks := by
  have htb : am_tab 274 = at_274 := rfl
  induction n generalizing x3 x4 with
  | zero => cases h
  | succ n ih =>
    unfold lp_X10_satBoth_5 at h
    refine am_Go.n htb 4 (S' := (12, [some (.inr (.inr (some (10, 0)))), some (.inl x1), some (.inl x2), some (.inl x3), some (.inl x4)], [.inl 1, .inr (.inr (some (44, 0))), .inl x4], am_mk m)) rfl ?_
    obtain ⟨hg1, h⟩ := am_ck_some h
    refine am_Go.c1 htb (S' := (13, [some (.inr (.inr (some (10, 0)))), some (.inl x1), some (.inl x2), some (.inl x3), some (.inl x4)], [.inl (m.1 44 0 (1 : Int32).toNatClampNeg), .inl x4], am_mk m)) (if_neg hg1) ?_
    by_cases hc2 : (m.1 44 0 (1 : Int32).toNatClampNeg) ≤ x4
    · rw [if_pos hc2] at h
      refine am_Go.c1 htb (S' := (66, [some (.inr (.inr (some (10, 0)))), some (.inl x1), some (.inl x2), some (.inl x3), some (.inl x4)], [], am_mk m)) (if_pos hc2) ?_
      cases h
      exact am_Go.fg (by exact ⟨rfl, ⟨rfl, ⟨rfl, ⟨rfl, trivial⟩⟩⟩⟩) hk
    · rw [if_neg hc2] at h
      refine am_Go.c1 htb (S' := (16, [some (.inr (.inr (some (10, 0)))), some (.inl x1), some (.inl x2), some (.inl x3), some (.inl x4)], [], am_mk m)) (if_neg hc2) ?_
      refine am_Go.n htb 1 (S' := (17, [some (.inr (.inr (some (10, 0)))), some (.inl x1), some (.inl x2), some (.inl x3), some (.inl x4)], [.inl x3], am_mk m)) rfl ?_
      obtain ⟨q12, h13, h⟩ := am_bd h
      refine am_Go.cut (S := (59, [some (.inr (.inr (some (10, 0)))), some (.inl x1), some (.inl x2), some (.inl x3), some (.inl x4)], [.inl q12], am_mk m)) ?_ (fun key => ?_)
      · refine am_Go.n htb 3 (S' := (5, [some (.inr (.inr (some (10, 0)))), some (.inl x1), some (.inl x2), some (.inl q12), some (.inl (x4 + 1))], [], am_mk m)) rfl ?_
        exact ih h hk
      · have h := h13
        by_cases hc3 : x3 ≠ 0
        · rw [if_pos hc3] at h
          refine am_Go.c1 htb (S' := (54, [some (.inr (.inr (some (10, 0)))), some (.inl x1), some (.inl x2), some (.inl x3), some (.inl x4)], [], am_mk m)) (if_pos hc3) ?_
          refine am_Go.n htb 2 (S' := (59, [some (.inr (.inr (some (10, 0)))), some (.inl x1), some (.inl x2), some (.inl x3), some (.inl x4)], [.inl 1], am_mk m)) rfl ?_
          cases h
          exact am_Go.fg (by exact ⟨rfl, ⟨rfl, ⟨rfl, ⟨rfl, ⟨rfl, trivial⟩⟩⟩⟩⟩) key
        · rw [if_neg hc3] at h
          refine am_Go.c1 htb (S' := (20, [some (.inr (.inr (some (10, 0)))), some (.inl x1), some (.inl x2), some (.inl x3), some (.inl x4)], [], am_mk m)) (if_neg hc3) ?_
          refine am_Go.n htb 5 (S' := (29, [some (.inr (.inr (some (10, 0)))), some (.inl x1), some (.inl x2), some (.inl x3), some (.inl x4)], [.inl ((112 : Int32) + x4), .inr (.inr (some (44, 0)))], am_mk m)) rfl ?_
          obtain ⟨hg4, h⟩ := am_ck_some h
          refine am_Go.c1 htb (S' := (30, [some (.inr (.inr (some (10, 0)))), some (.inl x1), some (.inl x2), some (.inl x3), some (.inl x4)], [.inl (m.1 44 0 ((112 : Int32) + x4).toNatClampNeg)], am_mk m)) (if_neg hg4) ?_
          refine am_Go.n htb 1 (S' := (31, [some (.inr (.inr (some (10, 0)))), some (.inl x1), some (.inl x2), some (.inl x3), some (.inl x4)], [.inl x1, .inl (m.1 44 0 ((112 : Int32) + x4).toNatClampNeg)], am_mk m)) rfl ?_
          obtain ⟨r5, h6, h⟩ := am_bd h
          refine am_Go.cl htb rfl (ex_X10_is d (by omega) (m.1 44 0 ((112 : Int32) + x4).toNatClampNeg) x1 m r5 h6) ?_
          show am_Go d 274 (34, [some (.inr (.inr (some (10, 0)))), some (.inl x1), some (.inl x2), some (.inl x3), some (.inl x4)], [.inl r5], am_mk m) _ _ _ _
          by_cases hc7 : r5 = 0
          · rw [if_pos hc7] at h
            refine am_Go.c1 htb (S' := (58, [some (.inr (.inr (some (10, 0)))), some (.inl x1), some (.inl x2), some (.inl x3), some (.inl x4)], [], am_mk m)) (if_pos hc7) ?_
            refine am_Go.n htb 1 (S' := (59, [some (.inr (.inr (some (10, 0)))), some (.inl x1), some (.inl x2), some (.inl x3), some (.inl x4)], [.inl 0], am_mk m)) rfl ?_
            cases h
            exact am_Go.fg (by exact ⟨rfl, ⟨rfl, ⟨rfl, ⟨rfl, ⟨rfl, trivial⟩⟩⟩⟩⟩) key
          · rw [if_neg hc7] at h
            refine am_Go.c1 htb (S' := (37, [some (.inr (.inr (some (10, 0)))), some (.inl x1), some (.inl x2), some (.inl x3), some (.inl x4)], [], am_mk m)) (if_neg hc7) ?_
            refine am_Go.n htb 5 (S' := (46, [some (.inr (.inr (some (10, 0)))), some (.inl x1), some (.inl x2), some (.inl x3), some (.inl x4)], [.inl ((112 : Int32) + x4), .inr (.inr (some (44, 0)))], am_mk m)) rfl ?_
            obtain ⟨hg8, h⟩ := am_ck_some h
            refine am_Go.c1 htb (S' := (47, [some (.inr (.inr (some (10, 0)))), some (.inl x1), some (.inl x2), some (.inl x3), some (.inl x4)], [.inl (m.1 44 0 ((112 : Int32) + x4).toNatClampNeg)], am_mk m)) (if_neg hg8) ?_
            refine am_Go.n htb 1 (S' := (48, [some (.inr (.inr (some (10, 0)))), some (.inl x1), some (.inl x2), some (.inl x3), some (.inl x4)], [.inl x2, .inl (m.1 44 0 ((112 : Int32) + x4).toNatClampNeg)], am_mk m)) rfl ?_
            obtain ⟨r9, h10, h⟩ := am_bd h
            refine am_Go.cl htb rfl (ex_X10_is d (by omega) (m.1 44 0 ((112 : Int32) + x4).toNatClampNeg) x2 m r9 h10) ?_
            show am_Go d 274 (51, [some (.inr (.inr (some (10, 0)))), some (.inl x1), some (.inl x2), some (.inl x3), some (.inl x4)], [.inl r9], am_mk m) _ _ _ _
            by_cases hc11 : r9 = 0
            · rw [if_pos hc11] at h
              refine am_Go.c1 htb (S' := (58, [some (.inr (.inr (some (10, 0)))), some (.inl x1), some (.inl x2), some (.inl x3), some (.inl x4)], [], am_mk m)) (if_pos hc11) ?_
              refine am_Go.n htb 1 (S' := (59, [some (.inr (.inr (some (10, 0)))), some (.inl x1), some (.inl x2), some (.inl x3), some (.inl x4)], [.inl 0], am_mk m)) rfl ?_
              cases h
              exact am_Go.fg (by exact ⟨rfl, ⟨rfl, ⟨rfl, ⟨rfl, ⟨rfl, trivial⟩⟩⟩⟩⟩) key
            · rw [if_neg hc11] at h
              refine am_Go.c1 htb (S' := (54, [some (.inr (.inr (some (10, 0)))), some (.inl x1), some (.inl x2), some (.inl x3), some (.inl x4)], [], am_mk m)) (if_neg hc11) ?_
              refine am_Go.n htb 2 (S' := (59, [some (.inr (.inr (some (10, 0)))), some (.inl x1), some (.inl x2), some (.inl x3), some (.inl x4)], [.inl 1], am_mk m)) rfl ?_
              cases h
              exact am_Go.fg (by exact ⟨rfl, ⟨rfl, ⟨rfl, ⟨rfl, ⟨rfl, trivial⟩⟩⟩⟩⟩) key
def fn_X10_satBoth (a1 : Int32) (a2 : Int32) (m : am_m) : Option (Int32) :=
  (lp_X10_satBoth_5 1000000 a1 a2 0 0 m).bind fun q14 => am_gd (q14 = 0 ∨ q14 = 1) (some q14)
set_option maxRecDepth 100000 in
theorem ex_X10_satBoth (d : Nat) (hd : 2 ≤ d) (a1 : Int32) (a2 : Int32) (m : am_m) (t : Int32) (h : fn_X10_satBoth a1 a2 m = some t) : am_Ex am_cod d 274 [.inr (.inr (some (10, 0))), .inl a1, .inl a2] (am_mk m) (some (.inl t)) (am_mk m) 0 0 := by
  obtain ⟨d, rfl⟩ : ∃ e, d = e + 1 := ⟨d - 1, by omega⟩
  have htb : am_tab 274 = at_274 := rfl
  refine ⟨Nat.le_of_ble_eq_true rfl, ?_⟩
  unfold fn_X10_satBoth at h
  show am_Go d 274 (0, [some (.inr (.inr (some (10, 0)))), some (.inl a1), some (.inl a2), none, none], [], am_mk m) _ _ 0 0
  refine am_Go.n htb 4 (S' := (5, [some (.inr (.inr (some (10, 0)))), some (.inl a1), some (.inl a2), some (.inl 0), some (.inl 0)], [], am_mk m)) rfl ?_
  obtain ⟨q14, h15, h⟩ := am_bd h
  refine lt_X10_satBoth_5 _ hd (h := h15) (hk := ?_)
  refine am_Go.n htb 1 (S' := (67, [some (.inr (.inr (some (10, 0)))), some (.inl a1), some (.inl a2), some (.inl q14), none], [.inl q14], am_mk m)) rfl ?_
  obtain ⟨hz16, h⟩ := am_gd_some h
  cases h
  exact am_Go.r htb (if_pos hz16)
-- X10_doubted
def lp_X10_doubted_33 : Nat → Int32 → Int32 → Int32 → Int32 → Int32 → am_m → Option (Int32 × Int32)
  | 0, _, _, _, _, _, _ => none
  | n + 1, x1, x2, x3, x4, x5, m =>
  am_ck 0 5518 ((if (m.1 44 0 (0 : Int32).toNatClampNeg) ≤ x5 then some (x2, x3) else (fn_X10_satBoth x4 x5 m).bind fun r7 => (if r7 = 0 then some (x2, x3) else am_ck (((7 : Int32) * x4) + x5) 49 ((if (m.1 92 0 (((7 : Int32) * x4) + x5).toNatClampNeg) ≠ 0 then some (x2, x3) else some ((x2 + 1), (if x2 ≠ x1 then x3 else (((10 : Int32) * x4) + x5)))))).bind fun q13 => lp_X10_doubted_33 n x1 q13.1 q13.2 x4 (x5 + 1) m))
set_option maxRecDepth 100000 in
theorem lt_X10_doubted_33 (d : Nat) (hd : 9 ≤ d + 1) {r : Option am_V} {M' : am_M} {kc ks : Nat} {n : Nat} {x1 : Int32} {x2 : Int32} {x3 : Int32} {x4 : Int32} {x5 : Int32} {m : am_m} {t : Int32 × Int32} (h : lp_X10_doubted_33 n x1 x2 x3 x4 x5 m = some t) (hk : am_Go d 275 (98, [some (.inr (.inr (some (10, 0)))), some (.inl x1), some (.inl t.1), some (.inl t.2), some (.inl x4), none], [], am_mk m) r M' kc ks) : am_Go d 275 (33, [some (.inr (.inr (some (10, 0)))), some (.inl x1), some (.inl x2), some (.inl x3), some (.inl x4), some (.inl x5)], [], am_mk m) r M' kc ks := by
  have htb : am_tab 275 = at_275 := rfl
  induction n generalizing x2 x3 x5 with
  | zero => cases h
  | succ n ih =>
    unfold lp_X10_doubted_33 at h
    refine am_Go.n htb 4 (S' := (40, [some (.inr (.inr (some (10, 0)))), some (.inl x1), some (.inl x2), some (.inl x3), some (.inl x4), some (.inl x5)], [.inl 0, .inr (.inr (some (44, 0))), .inl x5], am_mk m)) rfl ?_
    obtain ⟨hg5, h⟩ := am_ck_some h
    refine am_Go.c1 htb (S' := (41, [some (.inr (.inr (some (10, 0)))), some (.inl x1), some (.inl x2), some (.inl x3), some (.inl x4), some (.inl x5)], [.inl (m.1 44 0 (0 : Int32).toNatClampNeg), .inl x5], am_mk m)) (if_neg hg5) ?_
    by_cases hc6 : (m.1 44 0 (0 : Int32).toNatClampNeg) ≤ x5
    · rw [if_pos hc6] at h
      refine am_Go.c1 htb (S' := (98, [some (.inr (.inr (some (10, 0)))), some (.inl x1), some (.inl x2), some (.inl x3), some (.inl x4), some (.inl x5)], [], am_mk m)) (if_pos hc6) ?_
      cases h
      exact am_Go.fg (by exact ⟨rfl, ⟨rfl, ⟨rfl, ⟨rfl, ⟨rfl, trivial⟩⟩⟩⟩⟩) hk
    · rw [if_neg hc6] at h
      refine am_Go.c1 htb (S' := (44, [some (.inr (.inr (some (10, 0)))), some (.inl x1), some (.inl x2), some (.inl x3), some (.inl x4), some (.inl x5)], [], am_mk m)) (if_neg hc6) ?_
      refine am_Go.n htb 3 (S' := (49, [some (.inr (.inr (some (10, 0)))), some (.inl x1), some (.inl x2), some (.inl x3), some (.inl x4), some (.inl x5)], [.inl x5, .inl x4, .inr (.inr (some (10, 0)))], am_mk m)) rfl ?_
      obtain ⟨r7, h8, h⟩ := am_bd h
      refine am_Go.cl htb rfl (ex_X10_satBoth d (by omega) x4 x5 m r7 h8) ?_
      show am_Go d 275 (52, [some (.inr (.inr (some (10, 0)))), some (.inl x1), some (.inl x2), some (.inl x3), some (.inl x4), some (.inl x5)], [.inl r7], am_mk m) _ _ _ _
      obtain ⟨q13, h14, h⟩ := am_bd h
      refine am_Go.cut (S := (92, [some (.inr (.inr (some (10, 0)))), some (.inl x1), some (.inl q13.1), some (.inl q13.2), some (.inl x4), some (.inl x5)], [], am_mk m)) ?_ (fun key => ?_)
      · refine am_Go.n htb 2 (S' := (33, [some (.inr (.inr (some (10, 0)))), some (.inl x1), some (.inl q13.1), some (.inl q13.2), some (.inl x4), some (.inl (x5 + 1))], [], am_mk m)) rfl ?_
        exact ih h hk
      · have h := h14
        by_cases hc9 : r7 = 0
        · rw [if_pos hc9] at h
          refine am_Go.c1 htb (S' := (92, [some (.inr (.inr (some (10, 0)))), some (.inl x1), some (.inl x2), some (.inl x3), some (.inl x4), some (.inl x5)], [], am_mk m)) (if_pos hc9) ?_
          cases h
          exact am_Go.fg (by exact ⟨rfl, ⟨rfl, ⟨rfl, ⟨rfl, ⟨rfl, ⟨rfl, trivial⟩⟩⟩⟩⟩⟩) key
        · rw [if_neg hc9] at h
          refine am_Go.c1 htb (S' := (55, [some (.inr (.inr (some (10, 0)))), some (.inl x1), some (.inl x2), some (.inl x3), some (.inl x4), some (.inl x5)], [], am_mk m)) (if_neg hc9) ?_
          refine am_Go.n htb 7 (S' := (67, [some (.inr (.inr (some (10, 0)))), some (.inl x1), some (.inl x2), some (.inl x3), some (.inl x4), some (.inl x5)], [.inl (((7 : Int32) * x4) + x5), .inr (.inr (some (92, 0)))], am_mk m)) rfl ?_
          obtain ⟨hg10, h⟩ := am_ck_some h
          refine am_Go.c1 htb (S' := (68, [some (.inr (.inr (some (10, 0)))), some (.inl x1), some (.inl x2), some (.inl x3), some (.inl x4), some (.inl x5)], [.inl (m.1 92 0 (((7 : Int32) * x4) + x5).toNatClampNeg)], am_mk m)) (if_neg hg10) ?_
          by_cases hc11 : (m.1 92 0 (((7 : Int32) * x4) + x5).toNatClampNeg) ≠ 0
          · rw [if_pos hc11] at h
            refine am_Go.c1 htb (S' := (92, [some (.inr (.inr (some (10, 0)))), some (.inl x1), some (.inl x2), some (.inl x3), some (.inl x4), some (.inl x5)], [], am_mk m)) (if_pos hc11) ?_
            cases h
            exact am_Go.fg (by exact ⟨rfl, ⟨rfl, ⟨rfl, ⟨rfl, ⟨rfl, ⟨rfl, trivial⟩⟩⟩⟩⟩⟩) key
          · rw [if_neg hc11] at h
            refine am_Go.c1 htb (S' := (71, [some (.inr (.inr (some (10, 0)))), some (.inl x1), some (.inl x2), some (.inl x3), some (.inl x4), some (.inl x5)], [], am_mk m)) (if_neg hc11) ?_
            refine am_Go.n htb 2 (S' := (73, [some (.inr (.inr (some (10, 0)))), some (.inl x1), some (.inl x2), some (.inl x3), some (.inl x4), some (.inl x5)], [.inl x1, .inl x2], am_mk m)) rfl ?_
            refine am_Go.cut (S := (88, [some (.inr (.inr (some (10, 0)))), some (.inl x1), some (.inl x2), some (.inl x3), some (.inl x4), some (.inl x5)], [.inl (if x2 ≠ x1 then x3 else (((10 : Int32) * x4) + x5))], am_mk m)) ?_ (fun key => ?_)
            · refine am_Go.n htb 2 (S' := (92, [some (.inr (.inr (some (10, 0)))), some (.inl x1), some (.inl (x2 + 1)), some (.inl (if x2 ≠ x1 then x3 else (((10 : Int32) * x4) + x5))), some (.inl x4), some (.inl x5)], [], am_mk m)) rfl ?_
              cases h
              exact am_Go.fg (by exact ⟨rfl, ⟨rfl, ⟨rfl, ⟨rfl, ⟨rfl, ⟨rfl, trivial⟩⟩⟩⟩⟩⟩) key
            · by_cases hc12 : x2 ≠ x1
              · refine am_Go.c1 htb (S' := (87, [some (.inr (.inr (some (10, 0)))), some (.inl x1), some (.inl x2), some (.inl x3), some (.inl x4), some (.inl x5)], [], am_mk m)) (if_pos hc12) ?_
                refine am_Go.n htb 1 (S' := (88, [some (.inr (.inr (some (10, 0)))), some (.inl x1), some (.inl x2), some (.inl x3), some (.inl x4), some (.inl x5)], [.inl x3], am_mk m)) rfl ?_
                simp only [if_pos hc12] at key
                exact am_Go.fg (by exact ⟨rfl, ⟨rfl, ⟨rfl, ⟨rfl, ⟨rfl, ⟨rfl, trivial⟩⟩⟩⟩⟩⟩) key
              · refine am_Go.c1 htb (S' := (76, [some (.inr (.inr (some (10, 0)))), some (.inl x1), some (.inl x2), some (.inl x3), some (.inl x4), some (.inl x5)], [], am_mk m)) (if_neg hc12) ?_
                refine am_Go.n htb 6 (S' := (88, [some (.inr (.inr (some (10, 0)))), some (.inl x1), some (.inl x2), some (.inl x3), some (.inl x4), some (.inl x5)], [.inl (((10 : Int32) * x4) + x5)], am_mk m)) rfl ?_
                simp only [if_neg hc12] at key
                exact am_Go.fg (by exact ⟨rfl, ⟨rfl, ⟨rfl, ⟨rfl, ⟨rfl, ⟨rfl, trivial⟩⟩⟩⟩⟩⟩) key
def lp_X10_doubted_16 : Nat → Int32 → Int32 → Int32 → Int32 → am_m → Option (Int32 × Int32)
  | 0, _, _, _, _, _ => none
  | n + 1, x1, x2, x3, x4, m =>
  am_ck 0 5518 ((if (m.1 44 0 (0 : Int32).toNatClampNeg) ≤ x4 then some (x2, x3) else (lp_X10_doubted_33 1000000 x1 x2 x3 x4 (x4 + (1 : Int32)) m).bind fun q15 => lp_X10_doubted_16 n x1 q15.1 q15.2 (x4 + 1) m))
set_option maxRecDepth 100000 in
theorem lt_X10_doubted_16 (d : Nat) (hd : 9 ≤ d + 1) {r : Option am_V} {M' : am_M} {kc ks : Nat} {n : Nat} {x1 : Int32} {x2 : Int32} {x3 : Int32} {x4 : Int32} {m : am_m} {t : Int32 × Int32} (h : lp_X10_doubted_16 n x1 x2 x3 x4 m = some t) (hk : am_Go d 275 (104, [some (.inr (.inr (some (10, 0)))), some (.inl x1), some (.inl t.1), some (.inl t.2), none, none], [], am_mk m) r M' kc ks) : am_Go d 275 (16, [some (.inr (.inr (some (10, 0)))), some (.inl x1), some (.inl x2), some (.inl x3), some (.inl x4), none], [], am_mk m) r M' kc ks := by
  have htb : am_tab 275 = at_275 := rfl
  induction n generalizing x2 x3 x4 with
  | zero => cases h
  | succ n ih =>
    unfold lp_X10_doubted_16 at h
    refine am_Go.n htb 4 (S' := (23, [some (.inr (.inr (some (10, 0)))), some (.inl x1), some (.inl x2), some (.inl x3), some (.inl x4), none], [.inl 0, .inr (.inr (some (44, 0))), .inl x4], am_mk m)) rfl ?_
    obtain ⟨hg3, h⟩ := am_ck_some h
    refine am_Go.c1 htb (S' := (24, [some (.inr (.inr (some (10, 0)))), some (.inl x1), some (.inl x2), some (.inl x3), some (.inl x4), none], [.inl (m.1 44 0 (0 : Int32).toNatClampNeg), .inl x4], am_mk m)) (if_neg hg3) ?_
    by_cases hc4 : (m.1 44 0 (0 : Int32).toNatClampNeg) ≤ x4
    · rw [if_pos hc4] at h
      refine am_Go.c1 htb (S' := (104, [some (.inr (.inr (some (10, 0)))), some (.inl x1), some (.inl x2), some (.inl x3), some (.inl x4), none], [], am_mk m)) (if_pos hc4) ?_
      cases h
      exact am_Go.fg (by exact ⟨rfl, ⟨rfl, ⟨rfl, ⟨rfl, trivial⟩⟩⟩⟩) hk
    · rw [if_neg hc4] at h
      refine am_Go.c1 htb (S' := (27, [some (.inr (.inr (some (10, 0)))), some (.inl x1), some (.inl x2), some (.inl x3), some (.inl x4), none], [], am_mk m)) (if_neg hc4) ?_
      refine am_Go.n htb 4 (S' := (33, [some (.inr (.inr (some (10, 0)))), some (.inl x1), some (.inl x2), some (.inl x3), some (.inl x4), some (.inl (x4 + (1 : Int32)))], [], am_mk m)) rfl ?_
      obtain ⟨q15, h16, h⟩ := am_bd h
      refine lt_X10_doubted_33 _ hd (h := h16) (hk := ?_)
      refine am_Go.n htb 2 (S' := (16, [some (.inr (.inr (some (10, 0)))), some (.inl x1), some (.inl q15.1), some (.inl q15.2), some (.inl (x4 + 1)), none], [], am_mk m)) rfl ?_
      exact ih h hk
def fn_X10_doubted (a1 : Int32) (m : am_m) : Option (Int32 × am_m) :=
  (fn_X10_layMay  (am_si m 10 0 0 0)).bind fun r1 => (lp_X10_doubted_16 1000000 a1 0 (-1) 0 r1).bind fun q17 => (if a1 ≠ (-1 : Int32) then some (q17.2, r1) else some (q17.1, r1))
set_option maxRecDepth 100000 in
theorem ex_X10_doubted (d : Nat) (hd : 9 ≤ d) (a1 : Int32) (m : am_m) (t : Int32 × am_m) (h : fn_X10_doubted a1 m = some t) : am_Ex am_cod d 275 [.inr (.inr (some (10, 0))), .inl a1] (am_mk m) (some (.inl t.1)) (am_mk t.2) 0 0 := by
  obtain ⟨d, rfl⟩ : ∃ e, d = e + 1 := ⟨d - 1, by omega⟩
  have htb : am_tab 275 = at_275 := rfl
  refine ⟨Nat.le_of_ble_eq_true rfl, ?_⟩
  unfold fn_X10_doubted at h
  show am_Go d 275 (0, [some (.inr (.inr (some (10, 0)))), some (.inl a1), none, none, none, none], [], am_mk m) _ _ 0 0
  refine am_Go.n htb 4 (S' := (6, [some (.inr (.inr (some (10, 0)))), some (.inl a1), none, none, none, none], [.inr (.inr (some (10, 0)))], am_mk (am_si m 10 0 0 0))) rfl ?_
  obtain ⟨r1, h2, h⟩ := am_bd h
  refine am_Go.cl htb rfl (ex_X10_layMay d (by omega)  (am_si m 10 0 0 0) r1 h2) ?_
  show am_Go d 275 (9, [some (.inr (.inr (some (10, 0)))), some (.inl a1), none, none, none, none], [], am_mk r1) _ _ _ _
  refine am_Go.n htb 6 (S' := (16, [some (.inr (.inr (some (10, 0)))), some (.inl a1), some (.inl 0), some (.inl (-1)), some (.inl 0), none], [], am_mk r1)) rfl ?_
  obtain ⟨q17, h18, h⟩ := am_bd h
  refine lt_X10_doubted_16 _ hd (h := h18) (hk := ?_)
  refine am_Go.n htb 2 (S' := (106, [some (.inr (.inr (some (10, 0)))), some (.inl a1), some (.inl q17.1), some (.inl q17.2), none, none], [.inl (-1), .inl a1], am_mk r1)) rfl ?_
  by_cases hc19 : a1 ≠ (-1 : Int32)
  · rw [if_pos hc19] at h
    refine am_Go.c1 htb (S' := (113, [some (.inr (.inr (some (10, 0)))), some (.inl a1), some (.inl q17.1), some (.inl q17.2), none, none], [], am_mk r1)) (if_pos hc19) ?_
    refine am_Go.n htb 1 (S' := (114, [some (.inr (.inr (some (10, 0)))), some (.inl a1), some (.inl q17.1), some (.inl q17.2), none, none], [.inl q17.2], am_mk r1)) rfl ?_
    cases h
    exact am_Go.r htb rfl
  · rw [if_neg hc19] at h
    refine am_Go.c1 htb (S' := (109, [some (.inr (.inr (some (10, 0)))), some (.inl a1), some (.inl q17.1), some (.inl q17.2), none, none], [], am_mk r1)) (if_neg hc19) ?_
    refine am_Go.n htb 2 (S' := (114, [some (.inr (.inr (some (10, 0)))), some (.inl a1), some (.inl q17.1), some (.inl q17.2), none, none], [.inl q17.1], am_mk r1)) rfl ?_
    cases h
    exact am_Go.r htb rfl
-- X10_fittingFor
def lp_X10_fittingFor_4 : Nat → Int32 → Int32 → Int32 → am_m → Option (Int32)
  | 0, _, _, _, _ => none
  | n + 1, x1, x2, x3, m =>
  am_ck 0 5518 ((if (m.1 44 0 (0 : Int32).toNatClampNeg) ≤ x3 then some x2 else (fn_X10_is x1 x3 m).bind fun r3 => (if r3 ≠ 0 then some 0 else (fn_X10_sitsWith x3 m).bind fun r6 => (if (x1 &&& (r6 ^^^ (-1 : Int32))) ≠ 0 then some 0 else some ((1 : Int32) <<< (x3 &&& 31)))).bind fun q9 => lp_X10_fittingFor_4 n x1 (x2 ||| q9) (x3 + 1) m))
set_option maxRecDepth 100000 in
theorem lt_X10_fittingFor_4 (d : Nat) (hd : 2 ≤ d + 1) {r : Option am_V} {M' : am_M} {kc ks : Nat} {n : Nat} {x1 : Int32} {x2 : Int32} {x3 : Int32} {m : am_m} {t : Int32} (h : lp_X10_fittingFor_4 n x1 x2 x3 m = some t) (hk : am_Go d 276 (50, [some (.inr (.inr (some (10, 0)))), some (.inl x1), some (.inl t), none], [], am_mk m) r M' kc ks) : am_Go d 276 (4, [some (.inr (.inr (some (10, 0)))), some (.inl x1), some (.inl x2), some (.inl x3)], [], am_mk m) r M' kc ks := by
  have htb : am_tab 276 = at_276 := rfl
  induction n generalizing x2 x3 with
  | zero => cases h
  | succ n ih =>
    unfold lp_X10_fittingFor_4 at h
    refine am_Go.n htb 4 (S' := (10, [some (.inr (.inr (some (10, 0)))), some (.inl x1), some (.inl x2), some (.inl x3)], [.inl 0, .inr (.inr (some (44, 0))), .inl x3], am_mk m)) rfl ?_
    obtain ⟨hg1, h⟩ := am_ck_some h
    refine am_Go.c1 htb (S' := (11, [some (.inr (.inr (some (10, 0)))), some (.inl x1), some (.inl x2), some (.inl x3)], [.inl (m.1 44 0 (0 : Int32).toNatClampNeg), .inl x3], am_mk m)) (if_neg hg1) ?_
    by_cases hc2 : (m.1 44 0 (0 : Int32).toNatClampNeg) ≤ x3
    · rw [if_pos hc2] at h
      refine am_Go.c1 htb (S' := (50, [some (.inr (.inr (some (10, 0)))), some (.inl x1), some (.inl x2), some (.inl x3)], [], am_mk m)) (if_pos hc2) ?_
      cases h
      exact am_Go.fg (by exact ⟨rfl, ⟨rfl, ⟨rfl, trivial⟩⟩⟩) hk
    · rw [if_neg hc2] at h
      refine am_Go.c1 htb (S' := (14, [some (.inr (.inr (some (10, 0)))), some (.inl x1), some (.inl x2), some (.inl x3)], [], am_mk m)) (if_neg hc2) ?_
      refine am_Go.n htb 3 (S' := (17, [some (.inr (.inr (some (10, 0)))), some (.inl x1), some (.inl x2), some (.inl x3)], [.inl x3, .inl x1, .inl x2], am_mk m)) rfl ?_
      obtain ⟨r3, h4, h⟩ := am_bd h
      refine am_Go.cl htb rfl (ex_X10_is d (by omega) x1 x3 m r3 h4) ?_
      show am_Go d 276 (20, [some (.inr (.inr (some (10, 0)))), some (.inl x1), some (.inl x2), some (.inl x3)], [.inl r3, .inl x2], am_mk m) _ _ _ _
      obtain ⟨q9, h10, h⟩ := am_bd h
      refine am_Go.cut (S := (42, [some (.inr (.inr (some (10, 0)))), some (.inl x1), some (.inl x2), some (.inl x3)], [.inl q9, .inl x2], am_mk m)) ?_ (fun key => ?_)
      · refine am_Go.n htb 4 (S' := (4, [some (.inr (.inr (some (10, 0)))), some (.inl x1), some (.inl (x2 ||| q9)), some (.inl (x3 + 1))], [], am_mk m)) rfl ?_
        exact ih h hk
      · have h := h10
        by_cases hc5 : r3 ≠ 0
        · rw [if_pos hc5] at h
          refine am_Go.c1 htb (S' := (41, [some (.inr (.inr (some (10, 0)))), some (.inl x1), some (.inl x2), some (.inl x3)], [.inl x2], am_mk m)) (if_pos hc5) ?_
          refine am_Go.n htb 1 (S' := (42, [some (.inr (.inr (some (10, 0)))), some (.inl x1), some (.inl x2), some (.inl x3)], [.inl 0, .inl x2], am_mk m)) rfl ?_
          cases h
          exact am_Go.fg (by exact ⟨rfl, ⟨rfl, ⟨rfl, ⟨rfl, trivial⟩⟩⟩⟩) key
        · rw [if_neg hc5] at h
          refine am_Go.c1 htb (S' := (23, [some (.inr (.inr (some (10, 0)))), some (.inl x1), some (.inl x2), some (.inl x3)], [.inl x2], am_mk m)) (if_neg hc5) ?_
          refine am_Go.n htb 3 (S' := (26, [some (.inr (.inr (some (10, 0)))), some (.inl x1), some (.inl x2), some (.inl x3)], [.inl x3, .inr (.inr (some (10, 0))), .inl x1, .inl x2], am_mk m)) rfl ?_
          obtain ⟨r6, h7, h⟩ := am_bd h
          refine am_Go.cl htb rfl (ex_X10_sitsWith d (by omega) x3 m r6 h7) ?_
          show am_Go d 276 (29, [some (.inr (.inr (some (10, 0)))), some (.inl x1), some (.inl x2), some (.inl x3)], [.inl r6, .inl x1, .inl x2], am_mk m) _ _ _ _
          refine am_Go.n htb 3 (S' := (32, [some (.inr (.inr (some (10, 0)))), some (.inl x1), some (.inl x2), some (.inl x3)], [.inl (x1 &&& (r6 ^^^ (-1 : Int32))), .inl x2], am_mk m)) rfl ?_
          by_cases hc8 : (x1 &&& (r6 ^^^ (-1 : Int32))) ≠ 0
          · rw [if_pos hc8] at h
            refine am_Go.c1 htb (S' := (41, [some (.inr (.inr (some (10, 0)))), some (.inl x1), some (.inl x2), some (.inl x3)], [.inl x2], am_mk m)) (if_pos hc8) ?_
            refine am_Go.n htb 1 (S' := (42, [some (.inr (.inr (some (10, 0)))), some (.inl x1), some (.inl x2), some (.inl x3)], [.inl 0, .inl x2], am_mk m)) rfl ?_
            cases h
            exact am_Go.fg (by exact ⟨rfl, ⟨rfl, ⟨rfl, ⟨rfl, trivial⟩⟩⟩⟩) key
          · rw [if_neg hc8] at h
            refine am_Go.c1 htb (S' := (35, [some (.inr (.inr (some (10, 0)))), some (.inl x1), some (.inl x2), some (.inl x3)], [.inl x2], am_mk m)) (if_neg hc8) ?_
            refine am_Go.n htb 4 (S' := (42, [some (.inr (.inr (some (10, 0)))), some (.inl x1), some (.inl x2), some (.inl x3)], [.inl ((1 : Int32) <<< (x3 &&& 31)), .inl x2], am_mk m)) rfl ?_
            cases h
            exact am_Go.fg (by exact ⟨rfl, ⟨rfl, ⟨rfl, ⟨rfl, trivial⟩⟩⟩⟩) key
def fn_X10_fittingFor (a1 : Int32) (m : am_m) : Option (Int32) :=
  (lp_X10_fittingFor_4 1000000 a1 0 0 m).bind fun q11 => some q11
set_option maxRecDepth 100000 in
theorem ex_X10_fittingFor (d : Nat) (hd : 2 ≤ d) (a1 : Int32) (m : am_m) (t : Int32) (h : fn_X10_fittingFor a1 m = some t) : am_Ex am_cod d 276 [.inr (.inr (some (10, 0))), .inl a1] (am_mk m) (some (.inl t)) (am_mk m) 0 0 := by
  obtain ⟨d, rfl⟩ : ∃ e, d = e + 1 := ⟨d - 1, by omega⟩
  have htb : am_tab 276 = at_276 := rfl
  refine ⟨Nat.le_of_ble_eq_true rfl, ?_⟩
  unfold fn_X10_fittingFor at h
  show am_Go d 276 (0, [some (.inr (.inr (some (10, 0)))), some (.inl a1), none, none], [], am_mk m) _ _ 0 0
  refine am_Go.n htb 4 (S' := (4, [some (.inr (.inr (some (10, 0)))), some (.inl a1), some (.inl 0), some (.inl 0)], [], am_mk m)) rfl ?_
  obtain ⟨q11, h12, h⟩ := am_bd h
  refine lt_X10_fittingFor_4 _ hd (h := h12) (hk := ?_)
  refine am_Go.n htb 1 (S' := (51, [some (.inr (.inr (some (10, 0)))), some (.inl a1), some (.inl q11), none], [.inl q11], am_mk m)) rfl ?_
  cases h
  exact am_Go.r htb rfl
-- X10_fitting
def fn_X10_fitting (a1 : Int32) (m : am_m) : Option (Int32 × am_m) :=
  (fn_X10_isSet a1 (am_si m 10 0 0 0)).bind fun r1 => (if r1 = 0 then some ((-1), am_si m 10 0 0 0) else (fn_X10_areThere a1 (am_si m 10 0 0 0)).bind fun r4 => (if r4 ≠ 0 then (fn_X10_layMay  (am_si m 10 0 0 0)).bind fun r7 => (fn_X10_fittingFor a1 r7).bind fun r9 => some (r9, r7) else some ((-1), am_si m 10 0 0 0)))
set_option maxRecDepth 100000 in
theorem ex_X10_fitting (d : Nat) (hd : 9 ≤ d) (a1 : Int32) (m : am_m) (t : Int32 × am_m) (h : fn_X10_fitting a1 m = some t) : am_Ex am_cod d 277 [.inr (.inr (some (10, 0))), .inl a1] (am_mk m) (some (.inl t.1)) (am_mk t.2) 0 0 := by
  obtain ⟨d, rfl⟩ : ∃ e, d = e + 1 := ⟨d - 1, by omega⟩
  have htb : am_tab 277 = at_277 := rfl
  refine ⟨Nat.le_of_ble_eq_true rfl, ?_⟩
  unfold fn_X10_fitting at h
  show am_Go d 277 (0, [some (.inr (.inr (some (10, 0)))), some (.inl a1)], [], am_mk m) _ _ 0 0
  refine am_Go.n htb 4 (S' := (6, [some (.inr (.inr (some (10, 0)))), some (.inl a1)], [.inl a1], am_mk (am_si m 10 0 0 0))) rfl ?_
  obtain ⟨r1, h2, h⟩ := am_bd h
  refine am_Go.cl htb rfl (ex_X10_isSet d (by omega) a1 (am_si m 10 0 0 0) r1 h2) ?_
  show am_Go d 277 (9, [some (.inr (.inr (some (10, 0)))), some (.inl a1)], [.inl r1], am_mk (am_si m 10 0 0 0)) _ _ _ _
  by_cases hc3 : r1 = 0
  · rw [if_pos hc3] at h
    refine am_Go.c1 htb (S' := (20, [some (.inr (.inr (some (10, 0)))), some (.inl a1)], [], am_mk (am_si m 10 0 0 0))) (if_pos hc3) ?_
    refine am_Go.n htb 1 (S' := (21, [some (.inr (.inr (some (10, 0)))), some (.inl a1)], [.inl (-1)], am_mk (am_si m 10 0 0 0))) rfl ?_
    cases h
    exact am_Go.r htb rfl
  · rw [if_neg hc3] at h
    refine am_Go.c1 htb (S' := (12, [some (.inr (.inr (some (10, 0)))), some (.inl a1)], [], am_mk (am_si m 10 0 0 0))) (if_neg hc3) ?_
    refine am_Go.n htb 2 (S' := (14, [some (.inr (.inr (some (10, 0)))), some (.inl a1)], [.inl a1, .inr (.inr (some (10, 0)))], am_mk (am_si m 10 0 0 0))) rfl ?_
    obtain ⟨r4, h5, h⟩ := am_bd h
    refine am_Go.cl htb rfl (ex_X10_areThere d (by omega) a1 (am_si m 10 0 0 0) r4 h5) ?_
    show am_Go d 277 (17, [some (.inr (.inr (some (10, 0)))), some (.inl a1)], [.inl r4], am_mk (am_si m 10 0 0 0)) _ _ _ _
    by_cases hc6 : r4 ≠ 0
    · rw [if_pos hc6] at h
      refine am_Go.c1 htb (S' := (22, [some (.inr (.inr (some (10, 0)))), some (.inl a1)], [], am_mk (am_si m 10 0 0 0))) (if_pos hc6) ?_
      refine am_Go.n htb 1 (S' := (23, [some (.inr (.inr (some (10, 0)))), some (.inl a1)], [.inr (.inr (some (10, 0)))], am_mk (am_si m 10 0 0 0))) rfl ?_
      obtain ⟨r7, h8, h⟩ := am_bd h
      refine am_Go.cl htb rfl (ex_X10_layMay d (by omega)  (am_si m 10 0 0 0) r7 h8) ?_
      show am_Go d 277 (26, [some (.inr (.inr (some (10, 0)))), some (.inl a1)], [], am_mk r7) _ _ _ _
      refine am_Go.n htb 2 (S' := (28, [some (.inr (.inr (some (10, 0)))), some (.inl a1)], [.inl a1, .inr (.inr (some (10, 0)))], am_mk r7)) rfl ?_
      obtain ⟨r9, h10, h⟩ := am_bd h
      refine am_Go.cl htb rfl (ex_X10_fittingFor d (by omega) a1 r7 r9 h10) ?_
      show am_Go d 277 (31, [some (.inr (.inr (some (10, 0)))), some (.inl a1)], [.inl r9], am_mk r7) _ _ _ _
      cases h
      exact am_Go.r htb rfl
    · rw [if_neg hc6] at h
      refine am_Go.c1 htb (S' := (20, [some (.inr (.inr (some (10, 0)))), some (.inl a1)], [], am_mk (am_si m 10 0 0 0))) (if_neg hc6) ?_
      refine am_Go.n htb 1 (S' := (21, [some (.inr (.inr (some (10, 0)))), some (.inl a1)], [.inl (-1)], am_mk (am_si m 10 0 0 0))) rfl ?_
      cases h
      exact am_Go.r htb rfl
-- X10_ask
def lp_X10_ask_53 : Nat → Int32 → Int32 → Int32 → Int32 → Int32 → am_m → Option (Int32)
  | 0, _, _, _, _, _, _ => none
  | n + 1, x2, x3, x4, x5, x6, m =>
  am_ck 0 5518 ((if (m.1 44 0 (0 : Int32).toNatClampNeg) ≤ x6 then some x5 else (if x3 = 0 then some x5 else (fn_X10_sitsWith x6 m).bind fun r17 => (fn_X10_ones (x3 &&& r17) m).bind fun r19 => (fn_X10_ones x3 m).bind fun r21 => lp_X10_ask_53 n x2 x3 (if x4 ≤ (if 0 ≤ (((2 : Int32) * r19) - r21) then (((2 : Int32) * r19) - r21) else (-(((2 : Int32) * r19) - r21))) then x4 else (if 0 ≤ (((2 : Int32) * r19) - r21) then (((2 : Int32) * r19) - r21) else (-(((2 : Int32) * r19) - r21)))) (if x4 ≤ (if 0 ≤ (((2 : Int32) * r19) - r21) then (((2 : Int32) * r19) - r21) else (-(((2 : Int32) * r19) - r21))) then x5 else x6) (x6 + 1) m)))
set_option maxRecDepth 100000 in
theorem lt_X10_ask_53 (d : Nat) (hd : 9 ≤ d + 1) {r : Option am_V} {M' : am_M} {kc ks : Nat} {n : Nat} {x2 : Int32} {x3 : Int32} {x4 : Int32} {x5 : Int32} {x6 : Int32} {m : am_m} {t : Int32} (h : lp_X10_ask_53 n x2 x3 x4 x5 x6 m = some t) (hk : am_Go d 278 (141, [some (.inr (.inr (some (10, 0)))), none, some (.inl x2), some (.inl x3), none, some (.inl t), none, none], [], am_mk m) r M' kc ks) : am_Go d 278 (53, [some (.inr (.inr (some (10, 0)))), none, some (.inl x2), some (.inl x3), some (.inl x4), some (.inl x5), some (.inl x6), none], [], am_mk m) r M' kc ks := by
  have htb : am_tab 278 = at_278 := rfl
  induction n generalizing x4 x5 x6 with
  | zero => cases h
  | succ n ih =>
    unfold lp_X10_ask_53 at h
    refine am_Go.n htb 4 (S' := (60, [some (.inr (.inr (some (10, 0)))), none, some (.inl x2), some (.inl x3), some (.inl x4), some (.inl x5), some (.inl x6), none], [.inl 0, .inr (.inr (some (44, 0))), .inl x6], am_mk m)) rfl ?_
    obtain ⟨hg14, h⟩ := am_ck_some h
    refine am_Go.c1 htb (S' := (61, [some (.inr (.inr (some (10, 0)))), none, some (.inl x2), some (.inl x3), some (.inl x4), some (.inl x5), some (.inl x6), none], [.inl (m.1 44 0 (0 : Int32).toNatClampNeg), .inl x6], am_mk m)) (if_neg hg14) ?_
    by_cases hc15 : (m.1 44 0 (0 : Int32).toNatClampNeg) ≤ x6
    · rw [if_pos hc15] at h
      refine am_Go.c1 htb (S' := (141, [some (.inr (.inr (some (10, 0)))), none, some (.inl x2), some (.inl x3), some (.inl x4), some (.inl x5), some (.inl x6), none], [], am_mk m)) (if_pos hc15) ?_
      cases h
      exact am_Go.fg (by exact ⟨rfl, ⟨rfl, ⟨rfl, ⟨rfl, trivial⟩⟩⟩⟩) hk
    · rw [if_neg hc15] at h
      refine am_Go.c1 htb (S' := (64, [some (.inr (.inr (some (10, 0)))), none, some (.inl x2), some (.inl x3), some (.inl x4), some (.inl x5), some (.inl x6), none], [], am_mk m)) (if_neg hc15) ?_
      refine am_Go.n htb 1 (S' := (65, [some (.inr (.inr (some (10, 0)))), none, some (.inl x2), some (.inl x3), some (.inl x4), some (.inl x5), some (.inl x6), none], [.inl x3], am_mk m)) rfl ?_
      by_cases hc16 : x3 = 0
      · rw [if_pos hc16] at h
        refine am_Go.c1 htb (S' := (141, [some (.inr (.inr (some (10, 0)))), none, some (.inl x2), some (.inl x3), some (.inl x4), some (.inl x5), some (.inl x6), none], [], am_mk m)) (if_pos hc16) ?_
        cases h
        exact am_Go.fg (by exact ⟨rfl, ⟨rfl, ⟨rfl, ⟨rfl, trivial⟩⟩⟩⟩) hk
      · rw [if_neg hc16] at h
        refine am_Go.c1 htb (S' := (68, [some (.inr (.inr (some (10, 0)))), none, some (.inl x2), some (.inl x3), some (.inl x4), some (.inl x5), some (.inl x6), none], [], am_mk m)) (if_neg hc16) ?_
        refine am_Go.n htb 4 (S' := (73, [some (.inr (.inr (some (10, 0)))), none, some (.inl x2), some (.inl x3), some (.inl x4), some (.inl x5), some (.inl x6), none], [.inl x6, .inr (.inr (some (10, 0))), .inl x3, .inl 2], am_mk m)) rfl ?_
        obtain ⟨r17, h18, h⟩ := am_bd h
        refine am_Go.cl htb rfl (ex_X10_sitsWith d (by omega) x6 m r17 h18) ?_
        show am_Go d 278 (76, [some (.inr (.inr (some (10, 0)))), none, some (.inl x2), some (.inl x3), some (.inl x4), some (.inl x5), some (.inl x6), none], [.inl r17, .inl x3, .inl 2], am_mk m) _ _ _ _
        refine am_Go.n htb 1 (S' := (77, [some (.inr (.inr (some (10, 0)))), none, some (.inl x2), some (.inl x3), some (.inl x4), some (.inl x5), some (.inl x6), none], [.inl (x3 &&& r17), .inl 2], am_mk m)) rfl ?_
        obtain ⟨r19, h20, h⟩ := am_bd h
        refine am_Go.cl htb rfl (ex_X10_ones d (by omega) (x3 &&& r17) m r19 h20) ?_
        show am_Go d 278 (80, [some (.inr (.inr (some (10, 0)))), none, some (.inl x2), some (.inl x3), some (.inl x4), some (.inl x5), some (.inl x6), none], [.inl r19, .inl 2], am_mk m) _ _ _ _
        refine am_Go.n htb 2 (S' := (82, [some (.inr (.inr (some (10, 0)))), none, some (.inl x2), some (.inl x3), some (.inl x4), some (.inl x5), some (.inl x6), none], [.inl x3, .inl ((2 : Int32) * r19)], am_mk m)) rfl ?_
        obtain ⟨r21, h22, h⟩ := am_bd h
        refine am_Go.cl htb rfl (ex_X10_ones d (by omega) x3 m r21 h22) ?_
        show am_Go d 278 (85, [some (.inr (.inr (some (10, 0)))), none, some (.inl x2), some (.inl x3), some (.inl x4), some (.inl x5), some (.inl x6), none], [.inl r21, .inl ((2 : Int32) * r19)], am_mk m) _ _ _ _
        refine am_Go.n htb 3 (S' := (90, [some (.inr (.inr (some (10, 0)))), none, some (.inl x2), some (.inl x3), some (.inl x4), some (.inl x5), some (.inl x6), some (.inl (((2 : Int32) * r19) - r21))], [.inl (((2 : Int32) * r19) - r21)], am_mk m)) rfl ?_
        refine am_Go.cut (S := (101, [some (.inr (.inr (some (10, 0)))), none, some (.inl x2), some (.inl x3), some (.inl x4), some (.inl x5), some (.inl x6), some (.inl (((2 : Int32) * r19) - r21))], [.inl (if 0 ≤ (((2 : Int32) * r19) - r21) then (((2 : Int32) * r19) - r21) else (-(((2 : Int32) * r19) - r21)))], am_mk m)) ?_ (fun key => ?_)
        · refine am_Go.n htb 3 (S' := (107, [some (.inr (.inr (some (10, 0)))), none, some (.inl x2), some (.inl x3), some (.inl x4), some (.inl x5), some (.inl x6), some (.inl (if 0 ≤ (((2 : Int32) * r19) - r21) then (((2 : Int32) * r19) - r21) else (-(((2 : Int32) * r19) - r21))))], [.inl x4, .inl (if 0 ≤ (((2 : Int32) * r19) - r21) then (((2 : Int32) * r19) - r21) else (-(((2 : Int32) * r19) - r21)))], am_mk m)) rfl ?_
          refine am_Go.cut (S := (117, [some (.inr (.inr (some (10, 0)))), none, some (.inl x2), some (.inl x3), some (.inl x4), some (.inl x5), some (.inl x6), some (.inl (if 0 ≤ (((2 : Int32) * r19) - r21) then (((2 : Int32) * r19) - r21) else (-(((2 : Int32) * r19) - r21))))], [.inl (if x4 ≤ (if 0 ≤ (((2 : Int32) * r19) - r21) then (((2 : Int32) * r19) - r21) else (-(((2 : Int32) * r19) - r21))) then x5 else x6)], am_mk m)) ?_ (fun key => ?_)
          · refine am_Go.n htb 3 (S' := (123, [some (.inr (.inr (some (10, 0)))), none, some (.inl x2), some (.inl x3), some (.inl x4), some (.inl (if x4 ≤ (if 0 ≤ (((2 : Int32) * r19) - r21) then (((2 : Int32) * r19) - r21) else (-(((2 : Int32) * r19) - r21))) then x5 else x6)), some (.inl x6), some (.inl (if 0 ≤ (((2 : Int32) * r19) - r21) then (((2 : Int32) * r19) - r21) else (-(((2 : Int32) * r19) - r21))))], [.inl x4, .inl (if 0 ≤ (((2 : Int32) * r19) - r21) then (((2 : Int32) * r19) - r21) else (-(((2 : Int32) * r19) - r21)))], am_mk m)) rfl ?_
            refine am_Go.cut (S := (133, [some (.inr (.inr (some (10, 0)))), none, some (.inl x2), some (.inl x3), some (.inl x4), some (.inl (if x4 ≤ (if 0 ≤ (((2 : Int32) * r19) - r21) then (((2 : Int32) * r19) - r21) else (-(((2 : Int32) * r19) - r21))) then x5 else x6)), some (.inl x6), some (.inl (if 0 ≤ (((2 : Int32) * r19) - r21) then (((2 : Int32) * r19) - r21) else (-(((2 : Int32) * r19) - r21))))], [.inl (if x4 ≤ (if 0 ≤ (((2 : Int32) * r19) - r21) then (((2 : Int32) * r19) - r21) else (-(((2 : Int32) * r19) - r21))) then x4 else (if 0 ≤ (((2 : Int32) * r19) - r21) then (((2 : Int32) * r19) - r21) else (-(((2 : Int32) * r19) - r21))))], am_mk m)) ?_ (fun key => ?_)
            · refine am_Go.n htb 3 (S' := (53, [some (.inr (.inr (some (10, 0)))), none, some (.inl x2), some (.inl x3), some (.inl (if x4 ≤ (if 0 ≤ (((2 : Int32) * r19) - r21) then (((2 : Int32) * r19) - r21) else (-(((2 : Int32) * r19) - r21))) then x4 else (if 0 ≤ (((2 : Int32) * r19) - r21) then (((2 : Int32) * r19) - r21) else (-(((2 : Int32) * r19) - r21))))), some (.inl (if x4 ≤ (if 0 ≤ (((2 : Int32) * r19) - r21) then (((2 : Int32) * r19) - r21) else (-(((2 : Int32) * r19) - r21))) then x5 else x6)), some (.inl (x6 + 1)), some (.inl (if 0 ≤ (((2 : Int32) * r19) - r21) then (((2 : Int32) * r19) - r21) else (-(((2 : Int32) * r19) - r21))))], [], am_mk m)) rfl ?_
              refine am_Go.fg (L0 := [some (.inr (.inr (some (10, 0)))), none, some (.inl x2), some (.inl x3), some (.inl (if x4 ≤ (if 0 ≤ (((2 : Int32) * r19) - r21) then (((2 : Int32) * r19) - r21) else (-(((2 : Int32) * r19) - r21))) then x4 else (if 0 ≤ (((2 : Int32) * r19) - r21) then (((2 : Int32) * r19) - r21) else (-(((2 : Int32) * r19) - r21))))), some (.inl (if x4 ≤ (if 0 ≤ (((2 : Int32) * r19) - r21) then (((2 : Int32) * r19) - r21) else (-(((2 : Int32) * r19) - r21))) then x5 else x6)), some (.inl (x6 + 1)), none]) (by exact ⟨rfl, ⟨rfl, ⟨rfl, ⟨rfl, ⟨rfl, ⟨rfl, trivial⟩⟩⟩⟩⟩⟩) ?_
              exact ih h hk
            · by_cases hc25 : x4 ≤ (if 0 ≤ (((2 : Int32) * r19) - r21) then (((2 : Int32) * r19) - r21) else (-(((2 : Int32) * r19) - r21)))
              · refine am_Go.c1 htb (S' := (131, [some (.inr (.inr (some (10, 0)))), none, some (.inl x2), some (.inl x3), some (.inl x4), some (.inl (if x4 ≤ (if 0 ≤ (((2 : Int32) * r19) - r21) then (((2 : Int32) * r19) - r21) else (-(((2 : Int32) * r19) - r21))) then x5 else x6)), some (.inl x6), some (.inl (if 0 ≤ (((2 : Int32) * r19) - r21) then (((2 : Int32) * r19) - r21) else (-(((2 : Int32) * r19) - r21))))], [], am_mk m)) (if_pos hc25) ?_
                refine am_Go.n htb 1 (S' := (133, [some (.inr (.inr (some (10, 0)))), none, some (.inl x2), some (.inl x3), some (.inl x4), some (.inl (if x4 ≤ (if 0 ≤ (((2 : Int32) * r19) - r21) then (((2 : Int32) * r19) - r21) else (-(((2 : Int32) * r19) - r21))) then x5 else x6)), some (.inl x6), some (.inl (if 0 ≤ (((2 : Int32) * r19) - r21) then (((2 : Int32) * r19) - r21) else (-(((2 : Int32) * r19) - r21))))], [.inl x4], am_mk m)) rfl ?_
                simp only [if_pos hc25] at key
                exact am_Go.fg (by exact ⟨rfl, ⟨rfl, ⟨rfl, ⟨rfl, ⟨rfl, ⟨rfl, ⟨rfl, trivial⟩⟩⟩⟩⟩⟩⟩) key
              · refine am_Go.c1 htb (S' := (126, [some (.inr (.inr (some (10, 0)))), none, some (.inl x2), some (.inl x3), some (.inl x4), some (.inl (if x4 ≤ (if 0 ≤ (((2 : Int32) * r19) - r21) then (((2 : Int32) * r19) - r21) else (-(((2 : Int32) * r19) - r21))) then x5 else x6)), some (.inl x6), some (.inl (if 0 ≤ (((2 : Int32) * r19) - r21) then (((2 : Int32) * r19) - r21) else (-(((2 : Int32) * r19) - r21))))], [], am_mk m)) (if_neg hc25) ?_
                refine am_Go.n htb 2 (S' := (133, [some (.inr (.inr (some (10, 0)))), none, some (.inl x2), some (.inl x3), some (.inl x4), some (.inl (if x4 ≤ (if 0 ≤ (((2 : Int32) * r19) - r21) then (((2 : Int32) * r19) - r21) else (-(((2 : Int32) * r19) - r21))) then x5 else x6)), some (.inl x6), some (.inl (if 0 ≤ (((2 : Int32) * r19) - r21) then (((2 : Int32) * r19) - r21) else (-(((2 : Int32) * r19) - r21))))], [.inl (if 0 ≤ (((2 : Int32) * r19) - r21) then (((2 : Int32) * r19) - r21) else (-(((2 : Int32) * r19) - r21)))], am_mk m)) rfl ?_
                simp only [if_neg hc25] at key
                exact am_Go.fg (by exact ⟨rfl, ⟨rfl, ⟨rfl, ⟨rfl, ⟨rfl, ⟨rfl, ⟨rfl, trivial⟩⟩⟩⟩⟩⟩⟩) key
          · by_cases hc24 : x4 ≤ (if 0 ≤ (((2 : Int32) * r19) - r21) then (((2 : Int32) * r19) - r21) else (-(((2 : Int32) * r19) - r21)))
            · refine am_Go.c1 htb (S' := (115, [some (.inr (.inr (some (10, 0)))), none, some (.inl x2), some (.inl x3), some (.inl x4), some (.inl x5), some (.inl x6), some (.inl (if 0 ≤ (((2 : Int32) * r19) - r21) then (((2 : Int32) * r19) - r21) else (-(((2 : Int32) * r19) - r21))))], [], am_mk m)) (if_pos hc24) ?_
              refine am_Go.n htb 1 (S' := (117, [some (.inr (.inr (some (10, 0)))), none, some (.inl x2), some (.inl x3), some (.inl x4), some (.inl x5), some (.inl x6), some (.inl (if 0 ≤ (((2 : Int32) * r19) - r21) then (((2 : Int32) * r19) - r21) else (-(((2 : Int32) * r19) - r21))))], [.inl x5], am_mk m)) rfl ?_
              simp only [if_pos hc24] at key
              exact am_Go.fg (by exact ⟨rfl, ⟨rfl, ⟨rfl, ⟨rfl, ⟨rfl, ⟨rfl, ⟨rfl, trivial⟩⟩⟩⟩⟩⟩⟩) key
            · refine am_Go.c1 htb (S' := (110, [some (.inr (.inr (some (10, 0)))), none, some (.inl x2), some (.inl x3), some (.inl x4), some (.inl x5), some (.inl x6), some (.inl (if 0 ≤ (((2 : Int32) * r19) - r21) then (((2 : Int32) * r19) - r21) else (-(((2 : Int32) * r19) - r21))))], [], am_mk m)) (if_neg hc24) ?_
              refine am_Go.n htb 2 (S' := (117, [some (.inr (.inr (some (10, 0)))), none, some (.inl x2), some (.inl x3), some (.inl x4), some (.inl x5), some (.inl x6), some (.inl (if 0 ≤ (((2 : Int32) * r19) - r21) then (((2 : Int32) * r19) - r21) else (-(((2 : Int32) * r19) - r21))))], [.inl x6], am_mk m)) rfl ?_
              simp only [if_neg hc24] at key
              exact am_Go.fg (by exact ⟨rfl, ⟨rfl, ⟨rfl, ⟨rfl, ⟨rfl, ⟨rfl, ⟨rfl, trivial⟩⟩⟩⟩⟩⟩⟩) key
        · by_cases hc23 : 0 ≤ (((2 : Int32) * r19) - r21)
          · refine am_Go.c1 htb (S' := (99, [some (.inr (.inr (some (10, 0)))), none, some (.inl x2), some (.inl x3), some (.inl x4), some (.inl x5), some (.inl x6), some (.inl (((2 : Int32) * r19) - r21))], [], am_mk m)) (if_pos hc23) ?_
            refine am_Go.n htb 1 (S' := (101, [some (.inr (.inr (some (10, 0)))), none, some (.inl x2), some (.inl x3), some (.inl x4), some (.inl x5), some (.inl x6), some (.inl (((2 : Int32) * r19) - r21))], [.inl (((2 : Int32) * r19) - r21)], am_mk m)) rfl ?_
            simp only [if_pos hc23] at key
            exact am_Go.fg (by exact ⟨rfl, ⟨rfl, ⟨rfl, ⟨rfl, ⟨rfl, ⟨rfl, ⟨rfl, trivial⟩⟩⟩⟩⟩⟩⟩) key
          · refine am_Go.c1 htb (S' := (93, [some (.inr (.inr (some (10, 0)))), none, some (.inl x2), some (.inl x3), some (.inl x4), some (.inl x5), some (.inl x6), some (.inl (((2 : Int32) * r19) - r21))], [], am_mk m)) (if_neg hc23) ?_
            refine am_Go.n htb 3 (S' := (101, [some (.inr (.inr (some (10, 0)))), none, some (.inl x2), some (.inl x3), some (.inl x4), some (.inl x5), some (.inl x6), some (.inl (((2 : Int32) * r19) - r21))], [.inl (-(((2 : Int32) * r19) - r21))], am_mk m)) rfl ?_
            simp only [if_neg hc23] at key
            exact am_Go.fg (by exact ⟨rfl, ⟨rfl, ⟨rfl, ⟨rfl, ⟨rfl, ⟨rfl, ⟨rfl, trivial⟩⟩⟩⟩⟩⟩⟩) key
def fn_X10_ask (a1 : Int32) (a2 : Int32) (m : am_m) : Option (Int32 × am_m) :=
  (fn_X10_isSet a1 (am_si m 10 0 0 0)).bind fun r1 => (if r1 = 0 then some ((-1), am_si m 10 0 0 0) else (fn_X10_areThere a1 (am_si m 10 0 0 0)).bind fun r4 => (if r4 = 0 then some ((-1), am_si m 10 0 0 0) else (fn_X10_in a2.toInt64 0 1 (am_si m 10 0 0 0)).bind fun r7 => (if r7 ≠ 0 then (fn_X10_layMay  (am_si m 10 0 0 0)).bind fun r10 => (fn_X10_fittingFor a1 r10).bind fun r12 => (lp_X10_ask_53 1000000 a2 r12 100000000 (-1) 0 r10).bind fun q26 => (if q26 = (-1 : Int32) then some (q26, r10) else (if a2 ≠ 0 then (fn_X10_sitsWith q26 r10).bind fun r30 => (fn_X10_ones (r12 &&& r30) r10).bind fun r32 => some (r32, r10) else some (q26, r10))) else some ((-1), am_si m 10 0 0 0))))
set_option maxRecDepth 100000 in
theorem ex_X10_ask (d : Nat) (hd : 9 ≤ d) (a1 : Int32) (a2 : Int32) (m : am_m) (t : Int32 × am_m) (h : fn_X10_ask a1 a2 m = some t) : am_Ex am_cod d 278 [.inr (.inr (some (10, 0))), .inl a1, .inl a2] (am_mk m) (some (.inl t.1)) (am_mk t.2) 0 0 := by
  obtain ⟨d, rfl⟩ : ∃ e, d = e + 1 := ⟨d - 1, by omega⟩
  have htb : am_tab 278 = at_278 := rfl
  refine ⟨Nat.le_of_ble_eq_true rfl, ?_⟩
  unfold fn_X10_ask at h
  show am_Go d 278 (0, [some (.inr (.inr (some (10, 0)))), some (.inl a1), some (.inl a2), none, none, none, none, none], [], am_mk m) _ _ 0 0
  refine am_Go.n htb 4 (S' := (6, [some (.inr (.inr (some (10, 0)))), some (.inl a1), some (.inl a2), none, none, none, none, none], [.inl a1], am_mk (am_si m 10 0 0 0))) rfl ?_
  obtain ⟨r1, h2, h⟩ := am_bd h
  refine am_Go.cl htb rfl (ex_X10_isSet d (by omega) a1 (am_si m 10 0 0 0) r1 h2) ?_
  show am_Go d 278 (9, [some (.inr (.inr (some (10, 0)))), some (.inl a1), some (.inl a2), none, none, none, none, none], [.inl r1], am_mk (am_si m 10 0 0 0)) _ _ _ _
  by_cases hc3 : r1 = 0
  · rw [if_pos hc3] at h
    refine am_Go.c1 htb (S' := (30, [some (.inr (.inr (some (10, 0)))), some (.inl a1), some (.inl a2), none, none, none, none, none], [], am_mk (am_si m 10 0 0 0))) (if_pos hc3) ?_
    refine am_Go.n htb 1 (S' := (31, [some (.inr (.inr (some (10, 0)))), some (.inl a1), some (.inl a2), none, none, none, none, none], [.inl (-1)], am_mk (am_si m 10 0 0 0))) rfl ?_
    cases h
    exact am_Go.r htb rfl
  · rw [if_neg hc3] at h
    refine am_Go.c1 htb (S' := (12, [some (.inr (.inr (some (10, 0)))), some (.inl a1), some (.inl a2), none, none, none, none, none], [], am_mk (am_si m 10 0 0 0))) (if_neg hc3) ?_
    refine am_Go.n htb 2 (S' := (14, [some (.inr (.inr (some (10, 0)))), some (.inl a1), some (.inl a2), none, none, none, none, none], [.inl a1, .inr (.inr (some (10, 0)))], am_mk (am_si m 10 0 0 0))) rfl ?_
    obtain ⟨r4, h5, h⟩ := am_bd h
    refine am_Go.cl htb rfl (ex_X10_areThere d (by omega) a1 (am_si m 10 0 0 0) r4 h5) ?_
    show am_Go d 278 (17, [some (.inr (.inr (some (10, 0)))), some (.inl a1), some (.inl a2), none, none, none, none, none], [.inl r4], am_mk (am_si m 10 0 0 0)) _ _ _ _
    by_cases hc6 : r4 = 0
    · rw [if_pos hc6] at h
      refine am_Go.c1 htb (S' := (30, [some (.inr (.inr (some (10, 0)))), some (.inl a1), some (.inl a2), none, none, none, none, none], [], am_mk (am_si m 10 0 0 0))) (if_pos hc6) ?_
      refine am_Go.n htb 1 (S' := (31, [some (.inr (.inr (some (10, 0)))), some (.inl a1), some (.inl a2), none, none, none, none, none], [.inl (-1)], am_mk (am_si m 10 0 0 0))) rfl ?_
      cases h
      exact am_Go.r htb rfl
    · rw [if_neg hc6] at h
      refine am_Go.c1 htb (S' := (20, [some (.inr (.inr (some (10, 0)))), some (.inl a1), some (.inl a2), none, none, none, none, none], [], am_mk (am_si m 10 0 0 0))) (if_neg hc6) ?_
      refine am_Go.n htb 4 (S' := (24, [some (.inr (.inr (some (10, 0)))), some (.inl a1), some (.inl a2), none, none, none, none, none], [.inr (.inl 1), .inr (.inl 0), .inr (.inl a2.toInt64)], am_mk (am_si m 10 0 0 0))) rfl ?_
      obtain ⟨r7, h8, h⟩ := am_bd h
      refine am_Go.cl htb rfl (ex_X10_in d (by omega) a2.toInt64 0 1 (am_si m 10 0 0 0) r7 h8) ?_
      show am_Go d 278 (27, [some (.inr (.inr (some (10, 0)))), some (.inl a1), some (.inl a2), none, none, none, none, none], [.inl r7], am_mk (am_si m 10 0 0 0)) _ _ _ _
      by_cases hc9 : r7 ≠ 0
      · rw [if_pos hc9] at h
        refine am_Go.c1 htb (S' := (32, [some (.inr (.inr (some (10, 0)))), some (.inl a1), some (.inl a2), none, none, none, none, none], [], am_mk (am_si m 10 0 0 0))) (if_pos hc9) ?_
        refine am_Go.n htb 1 (S' := (33, [some (.inr (.inr (some (10, 0)))), some (.inl a1), some (.inl a2), none, none, none, none, none], [.inr (.inr (some (10, 0)))], am_mk (am_si m 10 0 0 0))) rfl ?_
        obtain ⟨r10, h11, h⟩ := am_bd h
        refine am_Go.cl htb rfl (ex_X10_layMay d (by omega)  (am_si m 10 0 0 0) r10 h11) ?_
        show am_Go d 278 (36, [some (.inr (.inr (some (10, 0)))), some (.inl a1), some (.inl a2), none, none, none, none, none], [], am_mk r10) _ _ _ _
        refine am_Go.n htb 2 (S' := (38, [some (.inr (.inr (some (10, 0)))), some (.inl a1), some (.inl a2), none, none, none, none, none], [.inl a1, .inr (.inr (some (10, 0)))], am_mk r10)) rfl ?_
        obtain ⟨r12, h13, h⟩ := am_bd h
        refine am_Go.cl htb rfl (ex_X10_fittingFor d (by omega) a1 r10 r12 h13) ?_
        show am_Go d 278 (41, [some (.inr (.inr (some (10, 0)))), some (.inl a1), some (.inl a2), none, none, none, none, none], [.inl r12], am_mk r10) _ _ _ _
        refine am_Go.n htb 7 (S' := (53, [some (.inr (.inr (some (10, 0)))), some (.inl a1), some (.inl a2), some (.inl r12), some (.inl 100000000), some (.inl (-1)), some (.inl 0), none], [], am_mk r10)) rfl ?_
        refine am_Go.fg (L0 := [some (.inr (.inr (some (10, 0)))), none, some (.inl a2), some (.inl r12), some (.inl 100000000), some (.inl (-1)), some (.inl 0), none]) (by exact ⟨rfl, ⟨rfl, ⟨rfl, ⟨rfl, ⟨rfl, ⟨rfl, trivial⟩⟩⟩⟩⟩⟩) ?_
        obtain ⟨q26, h27, h⟩ := am_bd h
        refine lt_X10_ask_53 _ hd (h := h27) (hk := ?_)
        refine am_Go.n htb 2 (S' := (144, [some (.inr (.inr (some (10, 0)))), none, some (.inl a2), some (.inl r12), none, some (.inl q26), none, none], [.inl (-1), .inl q26], am_mk r10)) rfl ?_
        by_cases hc28 : q26 = (-1 : Int32)
        · rw [if_pos hc28] at h
          refine am_Go.c1 htb (S' := (151, [some (.inr (.inr (some (10, 0)))), none, some (.inl a2), some (.inl r12), none, some (.inl q26), none, none], [], am_mk r10)) (if_pos hc28) ?_
          refine am_Go.n htb 2 (S' := (167, [some (.inr (.inr (some (10, 0)))), none, some (.inl a2), some (.inl r12), none, some (.inl q26), none, none], [.inl q26], am_mk r10)) rfl ?_
          cases h
          exact am_Go.r htb rfl
        · rw [if_neg hc28] at h
          refine am_Go.c1 htb (S' := (147, [some (.inr (.inr (some (10, 0)))), none, some (.inl a2), some (.inl r12), none, some (.inl q26), none, none], [], am_mk r10)) (if_neg hc28) ?_
          refine am_Go.n htb 1 (S' := (148, [some (.inr (.inr (some (10, 0)))), none, some (.inl a2), some (.inl r12), none, some (.inl q26), none, none], [.inl a2], am_mk r10)) rfl ?_
          by_cases hc29 : a2 ≠ 0
          · rw [if_pos hc29] at h
            refine am_Go.c1 htb (S' := (156, [some (.inr (.inr (some (10, 0)))), none, some (.inl a2), some (.inl r12), none, some (.inl q26), none, none], [], am_mk r10)) (if_pos hc29) ?_
            refine am_Go.n htb 3 (S' := (160, [some (.inr (.inr (some (10, 0)))), none, some (.inl a2), some (.inl r12), none, some (.inl q26), none, none], [.inl q26, .inr (.inr (some (10, 0))), .inl r12], am_mk r10)) rfl ?_
            obtain ⟨r30, h31, h⟩ := am_bd h
            refine am_Go.cl htb rfl (ex_X10_sitsWith d (by omega) q26 r10 r30 h31) ?_
            show am_Go d 278 (163, [some (.inr (.inr (some (10, 0)))), none, some (.inl a2), some (.inl r12), none, some (.inl q26), none, none], [.inl r30, .inl r12], am_mk r10) _ _ _ _
            refine am_Go.n htb 1 (S' := (164, [some (.inr (.inr (some (10, 0)))), none, some (.inl a2), some (.inl r12), none, some (.inl q26), none, none], [.inl (r12 &&& r30)], am_mk r10)) rfl ?_
            obtain ⟨r32, h33, h⟩ := am_bd h
            refine am_Go.cl htb rfl (ex_X10_ones d (by omega) (r12 &&& r30) r10 r32 h33) ?_
            show am_Go d 278 (167, [some (.inr (.inr (some (10, 0)))), none, some (.inl a2), some (.inl r12), none, some (.inl q26), none, none], [.inl r32], am_mk r10) _ _ _ _
            cases h
            exact am_Go.r htb rfl
          · rw [if_neg hc29] at h
            refine am_Go.c1 htb (S' := (151, [some (.inr (.inr (some (10, 0)))), none, some (.inl a2), some (.inl r12), none, some (.inl q26), none, none], [], am_mk r10)) (if_neg hc29) ?_
            refine am_Go.n htb 2 (S' := (167, [some (.inr (.inr (some (10, 0)))), none, some (.inl a2), some (.inl r12), none, some (.inl q26), none, none], [.inl q26], am_mk r10)) rfl ?_
            cases h
            exact am_Go.r htb rfl
      · rw [if_neg hc9] at h
        refine am_Go.c1 htb (S' := (30, [some (.inr (.inr (some (10, 0)))), some (.inl a1), some (.inl a2), none, none, none, none, none], [], am_mk (am_si m 10 0 0 0))) (if_neg hc9) ?_
        refine am_Go.n htb 1 (S' := (31, [some (.inr (.inr (some (10, 0)))), some (.inl a1), some (.inl a2), none, none, none, none, none], [.inl (-1)], am_mk (am_si m 10 0 0 0))) rfl ?_
        cases h
        exact am_Go.r htb rfl
-- X10_lasts
def lp_X10_lasts_23 : Nat → Int32 → Int32 → am_m → Option (Int32 × am_m)
  | 0, _, _, _ => none
  | n + 1, x1, x2, m =>
  (if (100 : Int32) < x2 then some (x2, m) else am_ck ((7 : Int32) + x1) 5518 ((if (m.1 44 0 ((7 : Int32) + x1).toNatClampNeg) ≤ 0 then some (x2, m) else (fn_X10_passIt  m).bind fun r9 => lp_X10_lasts_23 n x1 (x2 + 1) r9)))
set_option maxRecDepth 100000 in
theorem lt_X10_lasts_23 (d : Nat) (hd : 8 ≤ d + 1) {r : Option am_V} {M' : am_M} {kc ks : Nat} {n : Nat} {x1 : Int32} {x2 : Int32} {m : am_m} {t : Int32 × am_m} (h : lp_X10_lasts_23 n x1 x2 m = some t) (hk : am_Go d 279 (51, [some (.inr (.inr (some (10, 0)))), some (.inl x1), some (.inl t.1)], [], am_mk t.2) r M' kc ks) : am_Go d 279 (23, [some (.inr (.inr (some (10, 0)))), some (.inl x1), some (.inl x2)], [], am_mk m) r M' kc ks := by
  have htb : am_tab 279 = at_279 := rfl
  induction n generalizing x2 m with
  | zero => cases h
  | succ n ih =>
    unfold lp_X10_lasts_23 at h
    refine am_Go.n htb 2 (S' := (26, [some (.inr (.inr (some (10, 0)))), some (.inl x1), some (.inl x2)], [.inl 100, .inl x2], am_mk m)) rfl ?_
    by_cases hc6 : (100 : Int32) < x2
    · rw [if_pos hc6] at h
      refine am_Go.c1 htb (S' := (51, [some (.inr (.inr (some (10, 0)))), some (.inl x1), some (.inl x2)], [], am_mk m)) (if_pos hc6) ?_
      cases h
      exact am_Go.fg (by exact ⟨rfl, ⟨rfl, ⟨rfl, trivial⟩⟩⟩) hk
    · rw [if_neg hc6] at h
      refine am_Go.c1 htb (S' := (29, [some (.inr (.inr (some (10, 0)))), some (.inl x1), some (.inl x2)], [], am_mk m)) (if_neg hc6) ?_
      refine am_Go.n htb 5 (S' := (37, [some (.inr (.inr (some (10, 0)))), some (.inl x1), some (.inl x2)], [.inl ((7 : Int32) + x1), .inr (.inr (some (44, 0)))], am_mk m)) rfl ?_
      obtain ⟨hg7, h⟩ := am_ck_some h
      refine am_Go.c1 htb (S' := (38, [some (.inr (.inr (some (10, 0)))), some (.inl x1), some (.inl x2)], [.inl (m.1 44 0 ((7 : Int32) + x1).toNatClampNeg)], am_mk m)) (if_neg hg7) ?_
      by_cases hc8 : (m.1 44 0 ((7 : Int32) + x1).toNatClampNeg) ≤ 0
      · rw [if_pos hc8] at h
        refine am_Go.c1 htb (S' := (51, [some (.inr (.inr (some (10, 0)))), some (.inl x1), some (.inl x2)], [], am_mk m)) (if_pos hc8) ?_
        cases h
        exact am_Go.fg (by exact ⟨rfl, ⟨rfl, ⟨rfl, trivial⟩⟩⟩) hk
      · rw [if_neg hc8] at h
        refine am_Go.c1 htb (S' := (41, [some (.inr (.inr (some (10, 0)))), some (.inl x1), some (.inl x2)], [], am_mk m)) (if_neg hc8) ?_
        refine am_Go.n htb 1 (S' := (42, [some (.inr (.inr (some (10, 0)))), some (.inl x1), some (.inl x2)], [.inr (.inr (some (10, 0)))], am_mk m)) rfl ?_
        obtain ⟨r9, h10, h⟩ := am_bd h
        refine am_Go.cl htb rfl (ex_X10_passIt d (by omega)  m r9 h10) ?_
        show am_Go d 279 (45, [some (.inr (.inr (some (10, 0)))), some (.inl x1), some (.inl x2)], [], am_mk r9) _ _ _ _
        refine am_Go.n htb 2 (S' := (23, [some (.inr (.inr (some (10, 0)))), some (.inl x1), some (.inl (x2 + 1))], [], am_mk r9)) rfl ?_
        exact ih h hk
def fn_X10_lasts (a1 : Int32) (m : am_m) : Option (Int32 × am_m) :=
  (fn_X10_isFolk a1 (am_si m 10 0 0 0)).bind fun r1 => (if r1 ≠ 0 then (fn_X10_keepAll 16 (am_si m 10 0 0 0)).bind fun r4 => (lp_X10_lasts_23 1000000 a1 0 r4).bind fun q11 => (fn_X10_putBack 16 q11.2).bind fun r13 => (if q11.1 ≤ (100 : Int32) then some (q11.1, r13) else some ((-1), r13)) else some ((-1), am_si m 10 0 0 0))
set_option maxRecDepth 100000 in
theorem ex_X10_lasts (d : Nat) (hd : 8 ≤ d) (a1 : Int32) (m : am_m) (t : Int32 × am_m) (h : fn_X10_lasts a1 m = some t) : am_Ex am_cod d 279 [.inr (.inr (some (10, 0))), .inl a1] (am_mk m) (some (.inl t.1)) (am_mk t.2) 0 0 := by
  obtain ⟨d, rfl⟩ : ∃ e, d = e + 1 := ⟨d - 1, by omega⟩
  have htb : am_tab 279 = at_279 := rfl
  refine ⟨Nat.le_of_ble_eq_true rfl, ?_⟩
  unfold fn_X10_lasts at h
  show am_Go d 279 (0, [some (.inr (.inr (some (10, 0)))), some (.inl a1), none], [], am_mk m) _ _ 0 0
  refine am_Go.n htb 5 (S' := (7, [some (.inr (.inr (some (10, 0)))), some (.inl a1), none], [.inl a1, .inr (.inr (some (10, 0)))], am_mk (am_si m 10 0 0 0))) rfl ?_
  obtain ⟨r1, h2, h⟩ := am_bd h
  refine am_Go.cl htb rfl (ex_X10_isFolk d (by omega) a1 (am_si m 10 0 0 0) r1 h2) ?_
  show am_Go d 279 (10, [some (.inr (.inr (some (10, 0)))), some (.inl a1), none], [.inl r1], am_mk (am_si m 10 0 0 0)) _ _ _ _
  by_cases hc3 : r1 ≠ 0
  · rw [if_pos hc3] at h
    refine am_Go.c1 htb (S' := (15, [some (.inr (.inr (some (10, 0)))), some (.inl a1), none], [], am_mk (am_si m 10 0 0 0))) (if_pos hc3) ?_
    refine am_Go.n htb 2 (S' := (18, [some (.inr (.inr (some (10, 0)))), some (.inl a1), none], [.inl 16, .inr (.inr (some (10, 0)))], am_mk (am_si m 10 0 0 0))) rfl ?_
    obtain ⟨r4, h5, h⟩ := am_bd h
    refine am_Go.cl htb rfl (ex_X10_keepAll d (by omega) 16 (am_si m 10 0 0 0) r4 h5) ?_
    show am_Go d 279 (21, [some (.inr (.inr (some (10, 0)))), some (.inl a1), none], [], am_mk r4) _ _ _ _
    refine am_Go.n htb 2 (S' := (23, [some (.inr (.inr (some (10, 0)))), some (.inl a1), some (.inl 0)], [], am_mk r4)) rfl ?_
    obtain ⟨q11, h12, h⟩ := am_bd h
    refine lt_X10_lasts_23 _ hd (h := h12) (hk := ?_)
    refine am_Go.n htb 2 (S' := (54, [some (.inr (.inr (some (10, 0)))), some (.inl a1), some (.inl q11.1)], [.inl 16, .inr (.inr (some (10, 0)))], am_mk q11.2)) rfl ?_
    obtain ⟨r13, h14, h⟩ := am_bd h
    refine am_Go.cl htb rfl (ex_X10_putBack d (by omega) 16 q11.2 r13 h14) ?_
    show am_Go d 279 (57, [some (.inr (.inr (some (10, 0)))), some (.inl a1), some (.inl q11.1)], [], am_mk r13) _ _ _ _
    refine am_Go.n htb 2 (S' := (60, [some (.inr (.inr (some (10, 0)))), some (.inl a1), some (.inl q11.1)], [.inl 100, .inl q11.1], am_mk r13)) rfl ?_
    by_cases hc15 : q11.1 ≤ (100 : Int32)
    · rw [if_pos hc15] at h
      refine am_Go.c1 htb (S' := (67, [some (.inr (.inr (some (10, 0)))), some (.inl a1), some (.inl q11.1)], [], am_mk r13)) (if_pos hc15) ?_
      refine am_Go.n htb 1 (S' := (68, [some (.inr (.inr (some (10, 0)))), some (.inl a1), some (.inl q11.1)], [.inl q11.1], am_mk r13)) rfl ?_
      cases h
      exact am_Go.r htb rfl
    · rw [if_neg hc15] at h
      refine am_Go.c1 htb (S' := (63, [some (.inr (.inr (some (10, 0)))), some (.inl a1), some (.inl q11.1)], [], am_mk r13)) (if_neg hc15) ?_
      refine am_Go.n htb 2 (S' := (68, [some (.inr (.inr (some (10, 0)))), some (.inl a1), some (.inl q11.1)], [.inl (-1)], am_mk r13)) rfl ?_
      cases h
      exact am_Go.r htb rfl
  · rw [if_neg hc3] at h
    refine am_Go.c1 htb (S' := (13, [some (.inr (.inr (some (10, 0)))), some (.inl a1), none], [], am_mk (am_si m 10 0 0 0))) (if_neg hc3) ?_
    refine am_Go.n htb 1 (S' := (14, [some (.inr (.inr (some (10, 0)))), some (.inl a1), none], [.inl (-1)], am_mk (am_si m 10 0 0 0))) rfl ?_
    cases h
    exact am_Go.r htb rfl
-- X10_fedBy
def lp_X10_fedBy_27 : Nat → Int32 → Int32 → Int32 → am_m → Option (Int32)
  | 0, _, _, _, _ => none
  | n + 1, x1, x2, x3, m =>
  am_ck 0 5518 ((if (m.1 44 0 (0 : Int32).toNatClampNeg) ≤ x3 then some x2 else am_ck ((7 : Int32) + x3) 5518 (lp_X10_fedBy_27 n x1 (x2 ||| (if x1 ≤ (m.1 44 0 ((7 : Int32) + x3).toNatClampNeg) then (0 : Int32) else ((1 : Int32) <<< (x3 &&& 31)))) (x3 + 1) m)))
set_option maxRecDepth 100000 in
theorem lt_X10_fedBy_27 (d : Nat) (hd : 9 ≤ d + 1) {r : Option am_V} {M' : am_M} {kc ks : Nat} {n : Nat} {x1 : Int32} {x2 : Int32} {x3 : Int32} {m : am_m} {t : Int32} (h : lp_X10_fedBy_27 n x1 x2 x3 m = some t) (hk : am_Go d 280 (66, [some (.inr (.inr (some (10, 0)))), some (.inl x1), some (.inl t), none, none, none], [], am_mk m) r M' kc ks) : am_Go d 280 (27, [some (.inr (.inr (some (10, 0)))), some (.inl x1), some (.inl x2), some (.inl x3), none, none], [], am_mk m) r M' kc ks := by
  have htb : am_tab 280 = at_280 := rfl
  induction n generalizing x2 x3 with
  | zero => cases h
  | succ n ih =>
    unfold lp_X10_fedBy_27 at h
    refine am_Go.n htb 4 (S' := (33, [some (.inr (.inr (some (10, 0)))), some (.inl x1), some (.inl x2), some (.inl x3), none, none], [.inl 0, .inr (.inr (some (44, 0))), .inl x3], am_mk m)) rfl ?_
    obtain ⟨hg6, h⟩ := am_ck_some h
    refine am_Go.c1 htb (S' := (34, [some (.inr (.inr (some (10, 0)))), some (.inl x1), some (.inl x2), some (.inl x3), none, none], [.inl (m.1 44 0 (0 : Int32).toNatClampNeg), .inl x3], am_mk m)) (if_neg hg6) ?_
    by_cases hc7 : (m.1 44 0 (0 : Int32).toNatClampNeg) ≤ x3
    · rw [if_pos hc7] at h
      refine am_Go.c1 htb (S' := (66, [some (.inr (.inr (some (10, 0)))), some (.inl x1), some (.inl x2), some (.inl x3), none, none], [], am_mk m)) (if_pos hc7) ?_
      cases h
      exact am_Go.fg (by exact ⟨rfl, ⟨rfl, ⟨rfl, trivial⟩⟩⟩) hk
    · rw [if_neg hc7] at h
      refine am_Go.c1 htb (S' := (37, [some (.inr (.inr (some (10, 0)))), some (.inl x1), some (.inl x2), some (.inl x3), none, none], [], am_mk m)) (if_neg hc7) ?_
      refine am_Go.n htb 6 (S' := (46, [some (.inr (.inr (some (10, 0)))), some (.inl x1), some (.inl x2), some (.inl x3), none, none], [.inl ((7 : Int32) + x3), .inr (.inr (some (44, 0))), .inl x2], am_mk m)) rfl ?_
      obtain ⟨hg8, h⟩ := am_ck_some h
      refine am_Go.c1 htb (S' := (47, [some (.inr (.inr (some (10, 0)))), some (.inl x1), some (.inl x2), some (.inl x3), none, none], [.inl (m.1 44 0 ((7 : Int32) + x3).toNatClampNeg), .inl x2], am_mk m)) (if_neg hg8) ?_
      refine am_Go.n htb 1 (S' := (48, [some (.inr (.inr (some (10, 0)))), some (.inl x1), some (.inl x2), some (.inl x3), none, none], [.inl x1, .inl (m.1 44 0 ((7 : Int32) + x3).toNatClampNeg), .inl x2], am_mk m)) rfl ?_
      refine am_Go.cut (S := (58, [some (.inr (.inr (some (10, 0)))), some (.inl x1), some (.inl x2), some (.inl x3), none, none], [.inl (if x1 ≤ (m.1 44 0 ((7 : Int32) + x3).toNatClampNeg) then (0 : Int32) else ((1 : Int32) <<< (x3 &&& 31))), .inl x2], am_mk m)) ?_ (fun key => ?_)
      · refine am_Go.n htb 4 (S' := (27, [some (.inr (.inr (some (10, 0)))), some (.inl x1), some (.inl (x2 ||| (if x1 ≤ (m.1 44 0 ((7 : Int32) + x3).toNatClampNeg) then (0 : Int32) else ((1 : Int32) <<< (x3 &&& 31))))), some (.inl (x3 + 1)), none, none], [], am_mk m)) rfl ?_
        exact ih h hk
      · by_cases hc9 : x1 ≤ (m.1 44 0 ((7 : Int32) + x3).toNatClampNeg)
        · refine am_Go.c1 htb (S' := (57, [some (.inr (.inr (some (10, 0)))), some (.inl x1), some (.inl x2), some (.inl x3), none, none], [.inl x2], am_mk m)) (if_pos hc9) ?_
          refine am_Go.n htb 1 (S' := (58, [some (.inr (.inr (some (10, 0)))), some (.inl x1), some (.inl x2), some (.inl x3), none, none], [.inl 0, .inl x2], am_mk m)) rfl ?_
          simp only [if_pos hc9] at key
          exact am_Go.fg (by exact ⟨rfl, ⟨rfl, ⟨rfl, ⟨rfl, trivial⟩⟩⟩⟩) key
        · refine am_Go.c1 htb (S' := (51, [some (.inr (.inr (some (10, 0)))), some (.inl x1), some (.inl x2), some (.inl x3), none, none], [.inl x2], am_mk m)) (if_neg hc9) ?_
          refine am_Go.n htb 4 (S' := (58, [some (.inr (.inr (some (10, 0)))), some (.inl x1), some (.inl x2), some (.inl x3), none, none], [.inl ((1 : Int32) <<< (x3 &&& 31)), .inl x2], am_mk m)) rfl ?_
          simp only [if_neg hc9] at key
          exact am_Go.fg (by exact ⟨rfl, ⟨rfl, ⟨rfl, ⟨rfl, trivial⟩⟩⟩⟩) key
def lp_X10_fedBy_68 : Nat → Int32 → Int32 → am_m → Option (am_m)
  | 0, _, _, _ => none
  | n + 1, x2, x3, m =>
  (fn_X10_all  m).bind fun r12 => (if r12 < x3 then some m else am_ck x3 128 (lp_X10_fedBy_68 n x2 (x3 + 1) (am_si m 60 0 x3.toNatClampNeg (if x3 ≠ 0 then (100000000 : Int32) else (0 : Int32)))))
set_option maxRecDepth 100000 in
theorem lt_X10_fedBy_68 (d : Nat) (hd : 9 ≤ d + 1) {r : Option am_V} {M' : am_M} {kc ks : Nat} {n : Nat} {x2 : Int32} {x3 : Int32} {m : am_m} {t : am_m} (h : lp_X10_fedBy_68 n x2 x3 m = some t) (hk : am_Go d 280 (99, [some (.inr (.inr (some (10, 0)))), none, some (.inl x2), none, none, none], [], am_mk t) r M' kc ks) : am_Go d 280 (68, [some (.inr (.inr (some (10, 0)))), none, some (.inl x2), some (.inl x3), none, none], [], am_mk m) r M' kc ks := by
  have htb : am_tab 280 = at_280 := rfl
  induction n generalizing x3 m with
  | zero => cases h
  | succ n ih =>
    unfold lp_X10_fedBy_68 at h
    refine am_Go.n htb 2 (S' := (70, [some (.inr (.inr (some (10, 0)))), none, some (.inl x2), some (.inl x3), none, none], [.inr (.inr (some (10, 0))), .inl x3], am_mk m)) rfl ?_
    obtain ⟨r12, h13, h⟩ := am_bd h
    refine am_Go.cl htb rfl (ex_X10_all d (by omega)  m r12 h13) ?_
    show am_Go d 280 (73, [some (.inr (.inr (some (10, 0)))), none, some (.inl x2), some (.inl x3), none, none], [.inl r12, .inl x3], am_mk m) _ _ _ _
    by_cases hc14 : r12 < x3
    · rw [if_pos hc14] at h
      refine am_Go.c1 htb (S' := (99, [some (.inr (.inr (some (10, 0)))), none, some (.inl x2), some (.inl x3), none, none], [], am_mk m)) (if_pos hc14) ?_
      cases h
      exact am_Go.fg (by exact ⟨rfl, ⟨rfl, trivial⟩⟩) hk
    · rw [if_neg hc14] at h
      refine am_Go.c1 htb (S' := (76, [some (.inr (.inr (some (10, 0)))), none, some (.inl x2), some (.inl x3), none, none], [], am_mk m)) (if_neg hc14) ?_
      refine am_Go.n htb 4 (S' := (82, [some (.inr (.inr (some (10, 0)))), none, some (.inl x2), some (.inl x3), none, none], [.inl x3, .inl x3, .inr (.inr (some (60, 0)))], am_mk m)) rfl ?_
      refine am_Go.cut (S := (92, [some (.inr (.inr (some (10, 0)))), none, some (.inl x2), some (.inl x3), none, none], [.inl (if x3 ≠ 0 then (100000000 : Int32) else (0 : Int32)), .inl x3, .inr (.inr (some (60, 0)))], am_mk m)) ?_ (fun key => ?_)
      · obtain ⟨hg16, h⟩ := am_ck_some h
        refine am_Go.c1 htb (S' := (93, [some (.inr (.inr (some (10, 0)))), none, some (.inl x2), some (.inl x3), none, none], [], am_mk (am_si m 60 0 x3.toNatClampNeg (if x3 ≠ 0 then (100000000 : Int32) else (0 : Int32))))) (if_neg hg16) ?_
        refine am_Go.n htb 2 (S' := (68, [some (.inr (.inr (some (10, 0)))), none, some (.inl x2), some (.inl (x3 + 1)), none, none], [], am_mk (am_si m 60 0 x3.toNatClampNeg (if x3 ≠ 0 then (100000000 : Int32) else (0 : Int32))))) rfl ?_
        exact ih h hk
      · by_cases hc15 : x3 ≠ 0
        · refine am_Go.c1 htb (S' := (89, [some (.inr (.inr (some (10, 0)))), none, some (.inl x2), some (.inl x3), none, none], [.inl x3, .inr (.inr (some (60, 0)))], am_mk m)) (if_pos hc15) ?_
          refine am_Go.n htb 1 (S' := (92, [some (.inr (.inr (some (10, 0)))), none, some (.inl x2), some (.inl x3), none, none], [.inl 100000000, .inl x3, .inr (.inr (some (60, 0)))], am_mk m)) rfl ?_
          simp only [if_pos hc15] at key
          exact am_Go.fg (by exact ⟨rfl, ⟨rfl, ⟨rfl, trivial⟩⟩⟩) key
        · refine am_Go.c1 htb (S' := (85, [some (.inr (.inr (some (10, 0)))), none, some (.inl x2), some (.inl x3), none, none], [.inl x3, .inr (.inr (some (60, 0)))], am_mk m)) (if_neg hc15) ?_
          refine am_Go.n htb 2 (S' := (92, [some (.inr (.inr (some (10, 0)))), none, some (.inl x2), some (.inl x3), none, none], [.inl 0, .inl x3, .inr (.inr (some (60, 0)))], am_mk m)) rfl ?_
          simp only [if_neg hc15] at key
          exact am_Go.fg (by exact ⟨rfl, ⟨rfl, ⟨rfl, trivial⟩⟩⟩) key
def lp_X10_fedBy_112 : Nat → Int32 → Int32 → Int32 → am_m → Option (am_m)
  | 0, _, _, _, _ => none
  | n + 1, x2, x3, x4, m =>
  (fn_X10_all  m).bind fun r22 => (if r22 < x4 then some m else am_ck x3 128 ((if (100000000 : Int32) ≤ (m.1 60 0 x3.toNatClampNeg) then some m else (fn_X10_isTable x4 m).bind fun r27 => (if r27 = 0 then some m else am_ck x3 128 (am_ck (x3 ||| x4) 128 ((if (m.1 60 0 (x3 ||| x4).toNatClampNeg) ≤ ((m.1 60 0 x3.toNatClampNeg) + (1 : Int32)) then am_ck (x3 ||| x4) 128 (some (m.1 60 0 (x3 ||| x4).toNatClampNeg)) else am_ck x3 128 (some ((m.1 60 0 x3.toNatClampNeg) + (1 : Int32)))).bind fun q35 => am_ck (x3 ||| x4) 128 (some (am_si m 60 0 (x3 ||| x4).toNatClampNeg q35))))).bind fun q38 => lp_X10_fedBy_112 n x2 x3 (x4 + 1) q38)))
set_option maxRecDepth 100000 in
theorem lt_X10_fedBy_112 (d : Nat) (hd : 9 ≤ d + 1) {r : Option am_V} {M' : am_M} {kc ks : Nat} {n : Nat} {x2 : Int32} {x3 : Int32} {x4 : Int32} {m : am_m} {t : am_m} (h : lp_X10_fedBy_112 n x2 x3 x4 m = some t) (hk : am_Go d 280 (197, [some (.inr (.inr (some (10, 0)))), none, some (.inl x2), some (.inl x3), none, none], [], am_mk t) r M' kc ks) : am_Go d 280 (112, [some (.inr (.inr (some (10, 0)))), none, some (.inl x2), some (.inl x3), some (.inl x4), none], [], am_mk m) r M' kc ks := by
  have htb : am_tab 280 = at_280 := rfl
  induction n generalizing x4 m with
  | zero => cases h
  | succ n ih =>
    unfold lp_X10_fedBy_112 at h
    refine am_Go.n htb 2 (S' := (115, [some (.inr (.inr (some (10, 0)))), none, some (.inl x2), some (.inl x3), some (.inl x4), none], [.inr (.inr (some (10, 0))), .inl x4], am_mk m)) rfl ?_
    obtain ⟨r22, h23, h⟩ := am_bd h
    refine am_Go.cl htb rfl (ex_X10_all d (by omega)  m r22 h23) ?_
    show am_Go d 280 (118, [some (.inr (.inr (some (10, 0)))), none, some (.inl x2), some (.inl x3), some (.inl x4), none], [.inl r22, .inl x4], am_mk m) _ _ _ _
    by_cases hc24 : r22 < x4
    · rw [if_pos hc24] at h
      refine am_Go.c1 htb (S' := (197, [some (.inr (.inr (some (10, 0)))), none, some (.inl x2), some (.inl x3), some (.inl x4), none], [], am_mk m)) (if_pos hc24) ?_
      cases h
      exact am_Go.fg (by exact ⟨rfl, ⟨rfl, ⟨rfl, trivial⟩⟩⟩) hk
    · rw [if_neg hc24] at h
      refine am_Go.c1 htb (S' := (121, [some (.inr (.inr (some (10, 0)))), none, some (.inl x2), some (.inl x3), some (.inl x4), none], [], am_mk m)) (if_neg hc24) ?_
      refine am_Go.n htb 3 (S' := (126, [some (.inr (.inr (some (10, 0)))), none, some (.inl x2), some (.inl x3), some (.inl x4), none], [.inl x3, .inr (.inr (some (60, 0)))], am_mk m)) rfl ?_
      obtain ⟨hg25, h⟩ := am_ck_some h
      refine am_Go.c1 htb (S' := (127, [some (.inr (.inr (some (10, 0)))), none, some (.inl x2), some (.inl x3), some (.inl x4), none], [.inl (m.1 60 0 x3.toNatClampNeg)], am_mk m)) (if_neg hg25) ?_
      refine am_Go.n htb 1 (S' := (130, [some (.inr (.inr (some (10, 0)))), none, some (.inl x2), some (.inl x3), some (.inl x4), none], [.inl 100000000, .inl (m.1 60 0 x3.toNatClampNeg)], am_mk m)) rfl ?_
      by_cases hc26 : (100000000 : Int32) ≤ (m.1 60 0 x3.toNatClampNeg)
      · rw [if_pos hc26] at h
        refine am_Go.c1 htb (S' := (197, [some (.inr (.inr (some (10, 0)))), none, some (.inl x2), some (.inl x3), some (.inl x4), none], [], am_mk m)) (if_pos hc26) ?_
        cases h
        exact am_Go.fg (by exact ⟨rfl, ⟨rfl, ⟨rfl, trivial⟩⟩⟩) hk
      · rw [if_neg hc26] at h
        refine am_Go.c1 htb (S' := (133, [some (.inr (.inr (some (10, 0)))), none, some (.inl x2), some (.inl x3), some (.inl x4), none], [], am_mk m)) (if_neg hc26) ?_
        refine am_Go.n htb 2 (S' := (136, [some (.inr (.inr (some (10, 0)))), none, some (.inl x2), some (.inl x3), some (.inl x4), none], [.inl x4, .inr (.inr (some (10, 0)))], am_mk m)) rfl ?_
        obtain ⟨r27, h28, h⟩ := am_bd h
        refine am_Go.cl htb rfl (ex_X10_isTable d (by omega) x4 m r27 h28) ?_
        show am_Go d 280 (139, [some (.inr (.inr (some (10, 0)))), none, some (.inl x2), some (.inl x3), some (.inl x4), none], [.inl r27], am_mk m) _ _ _ _
        obtain ⟨q38, h39, h⟩ := am_bd h
        refine am_Go.cut (S := (191, [some (.inr (.inr (some (10, 0)))), none, some (.inl x2), some (.inl x3), some (.inl x4), none], [], am_mk q38)) ?_ (fun key => ?_)
        · refine am_Go.n htb 2 (S' := (112, [some (.inr (.inr (some (10, 0)))), none, some (.inl x2), some (.inl x3), some (.inl (x4 + 1)), none], [], am_mk q38)) rfl ?_
          exact ih h hk
        · have h := h39
          by_cases hc29 : r27 = 0
          · rw [if_pos hc29] at h
            refine am_Go.c1 htb (S' := (191, [some (.inr (.inr (some (10, 0)))), none, some (.inl x2), some (.inl x3), some (.inl x4), none], [], am_mk m)) (if_pos hc29) ?_
            cases h
            exact am_Go.fg (by exact ⟨rfl, ⟨rfl, ⟨rfl, ⟨rfl, trivial⟩⟩⟩⟩) key
          · rw [if_neg hc29] at h
            refine am_Go.c1 htb (S' := (142, [some (.inr (.inr (some (10, 0)))), none, some (.inl x2), some (.inl x3), some (.inl x4), none], [], am_mk m)) (if_neg hc29) ?_
            refine am_Go.n htb 10 (S' := (159, [some (.inr (.inr (some (10, 0)))), none, some (.inl x2), some (.inl x3), some (.inl x4), some (.inl (x3 ||| x4))], [.inl x3, .inr (.inr (some (60, 0))), .inl (x3 ||| x4), .inr (.inr (some (60, 0)))], am_mk m)) rfl ?_
            obtain ⟨hg30, h⟩ := am_ck_some h
            refine am_Go.c1 htb (S' := (160, [some (.inr (.inr (some (10, 0)))), none, some (.inl x2), some (.inl x3), some (.inl x4), some (.inl (x3 ||| x4))], [.inl (m.1 60 0 x3.toNatClampNeg), .inl (x3 ||| x4), .inr (.inr (some (60, 0)))], am_mk m)) (if_neg hg30) ?_
            refine am_Go.n htb 5 (S' := (168, [some (.inr (.inr (some (10, 0)))), none, some (.inl x2), some (.inl x3), some (.inl x4), some (.inl (x3 ||| x4))], [.inl (x3 ||| x4), .inr (.inr (some (60, 0))), .inl ((m.1 60 0 x3.toNatClampNeg) + (1 : Int32)), .inl (x3 ||| x4), .inr (.inr (some (60, 0)))], am_mk m)) rfl ?_
            obtain ⟨hg31, h⟩ := am_ck_some h
            refine am_Go.c1 htb (S' := (169, [some (.inr (.inr (some (10, 0)))), none, some (.inl x2), some (.inl x3), some (.inl x4), some (.inl (x3 ||| x4))], [.inl (m.1 60 0 (x3 ||| x4).toNatClampNeg), .inl ((m.1 60 0 x3.toNatClampNeg) + (1 : Int32)), .inl (x3 ||| x4), .inr (.inr (some (60, 0)))], am_mk m)) (if_neg hg31) ?_
            obtain ⟨q35, h37, h⟩ := am_bd h
            refine am_Go.cut (S := (190, [some (.inr (.inr (some (10, 0)))), none, some (.inl x2), some (.inl x3), some (.inl x4), some (.inl (x3 ||| x4))], [.inl q35, .inl (x3 ||| x4), .inr (.inr (some (60, 0)))], am_mk m)) ?_ (fun key => ?_)
            · obtain ⟨hg36, h⟩ := am_ck_some h
              refine am_Go.c1 htb (S' := (191, [some (.inr (.inr (some (10, 0)))), none, some (.inl x2), some (.inl x3), some (.inl x4), some (.inl (x3 ||| x4))], [], am_mk (am_si m 60 0 (x3 ||| x4).toNatClampNeg q35))) (if_neg hg36) ?_
              cases h
              exact am_Go.fg (by exact ⟨rfl, ⟨rfl, ⟨rfl, ⟨rfl, trivial⟩⟩⟩⟩) key
            · have h := h37
              by_cases hc32 : (m.1 60 0 (x3 ||| x4).toNatClampNeg) ≤ ((m.1 60 0 x3.toNatClampNeg) + (1 : Int32))
              · rw [if_pos hc32] at h
                refine am_Go.c1 htb (S' := (183, [some (.inr (.inr (some (10, 0)))), none, some (.inl x2), some (.inl x3), some (.inl x4), some (.inl (x3 ||| x4))], [.inl (x3 ||| x4), .inr (.inr (some (60, 0)))], am_mk m)) (if_pos hc32) ?_
                refine am_Go.n htb 3 (S' := (189, [some (.inr (.inr (some (10, 0)))), none, some (.inl x2), some (.inl x3), some (.inl x4), some (.inl (x3 ||| x4))], [.inl (x3 ||| x4), .inr (.inr (some (60, 0))), .inl (x3 ||| x4), .inr (.inr (some (60, 0)))], am_mk m)) rfl ?_
                obtain ⟨hg33, h⟩ := am_ck_some h
                refine am_Go.c1 htb (S' := (190, [some (.inr (.inr (some (10, 0)))), none, some (.inl x2), some (.inl x3), some (.inl x4), some (.inl (x3 ||| x4))], [.inl (m.1 60 0 (x3 ||| x4).toNatClampNeg), .inl (x3 ||| x4), .inr (.inr (some (60, 0)))], am_mk m)) (if_neg hg33) ?_
                cases h
                exact am_Go.fg (by exact ⟨rfl, ⟨rfl, ⟨rfl, ⟨rfl, ⟨rfl, trivial⟩⟩⟩⟩⟩) key
              · rw [if_neg hc32] at h
                refine am_Go.c1 htb (S' := (172, [some (.inr (.inr (some (10, 0)))), none, some (.inl x2), some (.inl x3), some (.inl x4), some (.inl (x3 ||| x4))], [.inl (x3 ||| x4), .inr (.inr (some (60, 0)))], am_mk m)) (if_neg hc32) ?_
                refine am_Go.n htb 3 (S' := (177, [some (.inr (.inr (some (10, 0)))), none, some (.inl x2), some (.inl x3), some (.inl x4), some (.inl (x3 ||| x4))], [.inl x3, .inr (.inr (some (60, 0))), .inl (x3 ||| x4), .inr (.inr (some (60, 0)))], am_mk m)) rfl ?_
                obtain ⟨hg34, h⟩ := am_ck_some h
                refine am_Go.c1 htb (S' := (178, [some (.inr (.inr (some (10, 0)))), none, some (.inl x2), some (.inl x3), some (.inl x4), some (.inl (x3 ||| x4))], [.inl (m.1 60 0 x3.toNatClampNeg), .inl (x3 ||| x4), .inr (.inr (some (60, 0)))], am_mk m)) (if_neg hg34) ?_
                refine am_Go.n htb 3 (S' := (190, [some (.inr (.inr (some (10, 0)))), none, some (.inl x2), some (.inl x3), some (.inl x4), some (.inl (x3 ||| x4))], [.inl ((m.1 60 0 x3.toNatClampNeg) + (1 : Int32)), .inl (x3 ||| x4), .inr (.inr (some (60, 0)))], am_mk m)) rfl ?_
                cases h
                exact am_Go.fg (by exact ⟨rfl, ⟨rfl, ⟨rfl, ⟨rfl, ⟨rfl, trivial⟩⟩⟩⟩⟩) key
def lp_X10_fedBy_101 : Nat → Int32 → Int32 → am_m → Option (am_m)
  | 0, _, _, _ => none
  | n + 1, x2, x3, m =>
  (fn_X10_all  m).bind fun r19 => (if r19 < x3 then some m else (lp_X10_fedBy_112 1000000 x2 x3 0 m).bind fun q40 => lp_X10_fedBy_101 n x2 (x3 + 1) q40)
set_option maxRecDepth 100000 in
theorem lt_X10_fedBy_101 (d : Nat) (hd : 9 ≤ d + 1) {r : Option am_V} {M' : am_M} {kc ks : Nat} {n : Nat} {x2 : Int32} {x3 : Int32} {m : am_m} {t : am_m} (h : lp_X10_fedBy_101 n x2 x3 m = some t) (hk : am_Go d 280 (203, [some (.inr (.inr (some (10, 0)))), none, some (.inl x2), none, none, none], [], am_mk t) r M' kc ks) : am_Go d 280 (101, [some (.inr (.inr (some (10, 0)))), none, some (.inl x2), some (.inl x3), none, none], [], am_mk m) r M' kc ks := by
  have htb : am_tab 280 = at_280 := rfl
  induction n generalizing x3 m with
  | zero => cases h
  | succ n ih =>
    unfold lp_X10_fedBy_101 at h
    refine am_Go.n htb 2 (S' := (103, [some (.inr (.inr (some (10, 0)))), none, some (.inl x2), some (.inl x3), none, none], [.inr (.inr (some (10, 0))), .inl x3], am_mk m)) rfl ?_
    obtain ⟨r19, h20, h⟩ := am_bd h
    refine am_Go.cl htb rfl (ex_X10_all d (by omega)  m r19 h20) ?_
    show am_Go d 280 (106, [some (.inr (.inr (some (10, 0)))), none, some (.inl x2), some (.inl x3), none, none], [.inl r19, .inl x3], am_mk m) _ _ _ _
    by_cases hc21 : r19 < x3
    · rw [if_pos hc21] at h
      refine am_Go.c1 htb (S' := (203, [some (.inr (.inr (some (10, 0)))), none, some (.inl x2), some (.inl x3), none, none], [], am_mk m)) (if_pos hc21) ?_
      cases h
      exact am_Go.fg (by exact ⟨rfl, ⟨rfl, trivial⟩⟩) hk
    · rw [if_neg hc21] at h
      refine am_Go.c1 htb (S' := (109, [some (.inr (.inr (some (10, 0)))), none, some (.inl x2), some (.inl x3), none, none], [], am_mk m)) (if_neg hc21) ?_
      refine am_Go.n htb 2 (S' := (112, [some (.inr (.inr (some (10, 0)))), none, some (.inl x2), some (.inl x3), some (.inl 0), none], [], am_mk m)) rfl ?_
      obtain ⟨q40, h41, h⟩ := am_bd h
      refine lt_X10_fedBy_112 _ hd (h := h41) (hk := ?_)
      refine am_Go.n htb 2 (S' := (101, [some (.inr (.inr (some (10, 0)))), none, some (.inl x2), some (.inl (x3 + 1)), none, none], [], am_mk q40)) rfl ?_
      exact ih h hk
def lp_X10_fedBy_210 : Nat → Int32 → Int32 → Int32 → am_m → Option (Int32)
  | 0, _, _, _, _ => none
  | n + 1, x2, x3, x4, m =>
  (fn_X10_all  m).bind fun r44 => (if r44 < x4 then some x3 else (if (x2 &&& (x4 ^^^ (-1 : Int32))) ≠ 0 then some x3 else am_ck x4 128 ((if x3 ≤ (m.1 60 0 x4.toNatClampNeg) then some x3 else am_ck x4 128 (some (m.1 60 0 x4.toNatClampNeg))))).bind fun q51 => lp_X10_fedBy_210 n x2 q51 (x4 + 1) m)
set_option maxRecDepth 100000 in
theorem lt_X10_fedBy_210 (d : Nat) (hd : 9 ≤ d + 1) {r : Option am_V} {M' : am_M} {kc ks : Nat} {n : Nat} {x2 : Int32} {x3 : Int32} {x4 : Int32} {m : am_m} {t : Int32} (h : lp_X10_fedBy_210 n x2 x3 x4 m = some t) (hk : am_Go d 280 (257, [some (.inr (.inr (some (10, 0)))), none, some (.inl x2), some (.inl t), none, none], [], am_mk m) r M' kc ks) : am_Go d 280 (210, [some (.inr (.inr (some (10, 0)))), none, some (.inl x2), some (.inl x3), some (.inl x4), none], [], am_mk m) r M' kc ks := by
  have htb : am_tab 280 = at_280 := rfl
  induction n generalizing x3 x4 with
  | zero => cases h
  | succ n ih =>
    unfold lp_X10_fedBy_210 at h
    refine am_Go.n htb 2 (S' := (213, [some (.inr (.inr (some (10, 0)))), none, some (.inl x2), some (.inl x3), some (.inl x4), none], [.inr (.inr (some (10, 0))), .inl x4], am_mk m)) rfl ?_
    obtain ⟨r44, h45, h⟩ := am_bd h
    refine am_Go.cl htb rfl (ex_X10_all d (by omega)  m r44 h45) ?_
    show am_Go d 280 (216, [some (.inr (.inr (some (10, 0)))), none, some (.inl x2), some (.inl x3), some (.inl x4), none], [.inl r44, .inl x4], am_mk m) _ _ _ _
    by_cases hc46 : r44 < x4
    · rw [if_pos hc46] at h
      refine am_Go.c1 htb (S' := (257, [some (.inr (.inr (some (10, 0)))), none, some (.inl x2), some (.inl x3), some (.inl x4), none], [], am_mk m)) (if_pos hc46) ?_
      cases h
      exact am_Go.fg (by exact ⟨rfl, ⟨rfl, ⟨rfl, trivial⟩⟩⟩) hk
    · rw [if_neg hc46] at h
      refine am_Go.c1 htb (S' := (219, [some (.inr (.inr (some (10, 0)))), none, some (.inl x2), some (.inl x3), some (.inl x4), none], [], am_mk m)) (if_neg hc46) ?_
      refine am_Go.n htb 5 (S' := (225, [some (.inr (.inr (some (10, 0)))), none, some (.inl x2), some (.inl x3), some (.inl x4), none], [.inl (x2 &&& (x4 ^^^ (-1 : Int32)))], am_mk m)) rfl ?_
      obtain ⟨q51, h52, h⟩ := am_bd h
      refine am_Go.cut (S := (250, [some (.inr (.inr (some (10, 0)))), none, some (.inl x2), some (.inl x3), some (.inl x4), none], [.inl q51], am_mk m)) ?_ (fun key => ?_)
      · refine am_Go.n htb 3 (S' := (210, [some (.inr (.inr (some (10, 0)))), none, some (.inl x2), some (.inl q51), some (.inl (x4 + 1)), none], [], am_mk m)) rfl ?_
        exact ih h hk
      · have h := h52
        by_cases hc47 : (x2 &&& (x4 ^^^ (-1 : Int32))) ≠ 0
        · rw [if_pos hc47] at h
          refine am_Go.c1 htb (S' := (249, [some (.inr (.inr (some (10, 0)))), none, some (.inl x2), some (.inl x3), some (.inl x4), none], [], am_mk m)) (if_pos hc47) ?_
          refine am_Go.n htb 1 (S' := (250, [some (.inr (.inr (some (10, 0)))), none, some (.inl x2), some (.inl x3), some (.inl x4), none], [.inl x3], am_mk m)) rfl ?_
          cases h
          exact am_Go.fg (by exact ⟨rfl, ⟨rfl, ⟨rfl, ⟨rfl, trivial⟩⟩⟩⟩) key
        · rw [if_neg hc47] at h
          refine am_Go.c1 htb (S' := (228, [some (.inr (.inr (some (10, 0)))), none, some (.inl x2), some (.inl x3), some (.inl x4), none], [], am_mk m)) (if_neg hc47) ?_
          refine am_Go.n htb 3 (S' := (234, [some (.inr (.inr (some (10, 0)))), none, some (.inl x2), some (.inl x3), some (.inl x4), none], [.inl x4, .inr (.inr (some (60, 0)))], am_mk m)) rfl ?_
          obtain ⟨hg48, h⟩ := am_ck_some h
          refine am_Go.c1 htb (S' := (235, [some (.inr (.inr (some (10, 0)))), none, some (.inl x2), some (.inl x3), some (.inl x4), none], [.inl (m.1 60 0 x4.toNatClampNeg)], am_mk m)) (if_neg hg48) ?_
          refine am_Go.n htb 1 (S' := (236, [some (.inr (.inr (some (10, 0)))), none, some (.inl x2), some (.inl x3), some (.inl x4), none], [.inl x3, .inl (m.1 60 0 x4.toNatClampNeg)], am_mk m)) rfl ?_
          by_cases hc49 : x3 ≤ (m.1 60 0 x4.toNatClampNeg)
          · rw [if_pos hc49] at h
            refine am_Go.c1 htb (S' := (249, [some (.inr (.inr (some (10, 0)))), none, some (.inl x2), some (.inl x3), some (.inl x4), none], [], am_mk m)) (if_pos hc49) ?_
            refine am_Go.n htb 1 (S' := (250, [some (.inr (.inr (some (10, 0)))), none, some (.inl x2), some (.inl x3), some (.inl x4), none], [.inl x3], am_mk m)) rfl ?_
            cases h
            exact am_Go.fg (by exact ⟨rfl, ⟨rfl, ⟨rfl, ⟨rfl, trivial⟩⟩⟩⟩) key
          · rw [if_neg hc49] at h
            refine am_Go.c1 htb (S' := (239, [some (.inr (.inr (some (10, 0)))), none, some (.inl x2), some (.inl x3), some (.inl x4), none], [], am_mk m)) (if_neg hc49) ?_
            refine am_Go.n htb 3 (S' := (245, [some (.inr (.inr (some (10, 0)))), none, some (.inl x2), some (.inl x3), some (.inl x4), none], [.inl x4, .inr (.inr (some (60, 0)))], am_mk m)) rfl ?_
            obtain ⟨hg50, h⟩ := am_ck_some h
            refine am_Go.c1 htb (S' := (246, [some (.inr (.inr (some (10, 0)))), none, some (.inl x2), some (.inl x3), some (.inl x4), none], [.inl (m.1 60 0 x4.toNatClampNeg)], am_mk m)) (if_neg hg50) ?_
            refine am_Go.n htb 1 (S' := (250, [some (.inr (.inr (some (10, 0)))), none, some (.inl x2), some (.inl x3), some (.inl x4), none], [.inl (m.1 60 0 x4.toNatClampNeg)], am_mk m)) rfl ?_
            cases h
            exact am_Go.fg (by exact ⟨rfl, ⟨rfl, ⟨rfl, ⟨rfl, trivial⟩⟩⟩⟩) key
def fn_X10_fedBy (a1 : Int32) (m : am_m) : Option (Int32 × am_m) :=
  (fn_X10_in a1.toInt64 0 10 (am_si m 10 0 0 0)).bind fun r1 => (if r1 ≠ 0 then (fn_X10_layMay  (am_si m 10 0 0 0)).bind fun r4 => (lp_X10_fedBy_27 1000000 a1 0 0 r4).bind fun q10 => (lp_X10_fedBy_68 1000000 q10 0 r4).bind fun q17 => (lp_X10_fedBy_101 1000000 q10 0 q17).bind fun q42 => (lp_X10_fedBy_210 1000000 q10 100000000 0 q42).bind fun q53 => (if q53 ≠ (100000000 : Int32) then some (q53, q42) else some ((-1), q42)) else some ((-1), am_si m 10 0 0 0))
set_option maxRecDepth 100000 in
theorem ex_X10_fedBy (d : Nat) (hd : 9 ≤ d) (a1 : Int32) (m : am_m) (t : Int32 × am_m) (h : fn_X10_fedBy a1 m = some t) : am_Ex am_cod d 280 [.inr (.inr (some (10, 0))), .inl a1] (am_mk m) (some (.inl t.1)) (am_mk t.2) 0 0 := by
  obtain ⟨d, rfl⟩ : ∃ e, d = e + 1 := ⟨d - 1, by omega⟩
  have htb : am_tab 280 = at_280 := rfl
  refine ⟨Nat.le_of_ble_eq_true rfl, ?_⟩
  unfold fn_X10_fedBy at h
  show am_Go d 280 (0, [some (.inr (.inr (some (10, 0)))), some (.inl a1), none, none, none, none], [], am_mk m) _ _ 0 0
  refine am_Go.n htb 7 (S' := (11, [some (.inr (.inr (some (10, 0)))), some (.inl a1), none, none, none, none], [.inr (.inl 10), .inr (.inl 0), .inr (.inl a1.toInt64)], am_mk (am_si m 10 0 0 0))) rfl ?_
  obtain ⟨r1, h2, h⟩ := am_bd h
  refine am_Go.cl htb rfl (ex_X10_in d (by omega) a1.toInt64 0 10 (am_si m 10 0 0 0) r1 h2) ?_
  show am_Go d 280 (14, [some (.inr (.inr (some (10, 0)))), some (.inl a1), none, none, none, none], [.inl r1], am_mk (am_si m 10 0 0 0)) _ _ _ _
  by_cases hc3 : r1 ≠ 0
  · rw [if_pos hc3] at h
    refine am_Go.c1 htb (S' := (19, [some (.inr (.inr (some (10, 0)))), some (.inl a1), none, none, none, none], [], am_mk (am_si m 10 0 0 0))) (if_pos hc3) ?_
    refine am_Go.n htb 1 (S' := (20, [some (.inr (.inr (some (10, 0)))), some (.inl a1), none, none, none, none], [.inr (.inr (some (10, 0)))], am_mk (am_si m 10 0 0 0))) rfl ?_
    obtain ⟨r4, h5, h⟩ := am_bd h
    refine am_Go.cl htb rfl (ex_X10_layMay d (by omega)  (am_si m 10 0 0 0) r4 h5) ?_
    show am_Go d 280 (23, [some (.inr (.inr (some (10, 0)))), some (.inl a1), none, none, none, none], [], am_mk r4) _ _ _ _
    refine am_Go.n htb 4 (S' := (27, [some (.inr (.inr (some (10, 0)))), some (.inl a1), some (.inl 0), some (.inl 0), none, none], [], am_mk r4)) rfl ?_
    obtain ⟨q10, h11, h⟩ := am_bd h
    refine lt_X10_fedBy_27 _ hd (h := h11) (hk := ?_)
    refine am_Go.n htb 2 (S' := (68, [some (.inr (.inr (some (10, 0)))), some (.inl a1), some (.inl q10), some (.inl 0), none, none], [], am_mk r4)) rfl ?_
    refine am_Go.fg (L0 := [some (.inr (.inr (some (10, 0)))), none, some (.inl q10), some (.inl 0), none, none]) (by exact ⟨rfl, ⟨rfl, ⟨rfl, trivial⟩⟩⟩) ?_
    obtain ⟨q17, h18, h⟩ := am_bd h
    refine lt_X10_fedBy_68 _ hd (h := h18) (hk := ?_)
    refine am_Go.n htb 2 (S' := (101, [some (.inr (.inr (some (10, 0)))), none, some (.inl q10), some (.inl 0), none, none], [], am_mk q17)) rfl ?_
    obtain ⟨q42, h43, h⟩ := am_bd h
    refine lt_X10_fedBy_101 _ hd (h := h43) (hk := ?_)
    refine am_Go.n htb 4 (S' := (210, [some (.inr (.inr (some (10, 0)))), none, some (.inl q10), some (.inl 100000000), some (.inl 0), none], [], am_mk q42)) rfl ?_
    obtain ⟨q53, h54, h⟩ := am_bd h
    refine lt_X10_fedBy_210 _ hd (h := h54) (hk := ?_)
    refine am_Go.n htb 2 (S' := (261, [some (.inr (.inr (some (10, 0)))), none, some (.inl q10), some (.inl q53), none, none], [.inl 100000000, .inl q53], am_mk q42)) rfl ?_
    by_cases hc55 : q53 ≠ (100000000 : Int32)
    · rw [if_pos hc55] at h
      refine am_Go.c1 htb (S' := (268, [some (.inr (.inr (some (10, 0)))), none, some (.inl q10), some (.inl q53), none, none], [], am_mk q42)) (if_pos hc55) ?_
      refine am_Go.n htb 1 (S' := (269, [some (.inr (.inr (some (10, 0)))), none, some (.inl q10), some (.inl q53), none, none], [.inl q53], am_mk q42)) rfl ?_
      cases h
      exact am_Go.r htb rfl
    · rw [if_neg hc55] at h
      refine am_Go.c1 htb (S' := (264, [some (.inr (.inr (some (10, 0)))), none, some (.inl q10), some (.inl q53), none, none], [], am_mk q42)) (if_neg hc55) ?_
      refine am_Go.n htb 2 (S' := (269, [some (.inr (.inr (some (10, 0)))), none, some (.inl q10), some (.inl q53), none, none], [.inl (-1)], am_mk q42)) rfl ?_
      cases h
      exact am_Go.r htb rfl
  · rw [if_neg hc3] at h
    refine am_Go.c1 htb (S' := (17, [some (.inr (.inr (some (10, 0)))), some (.inl a1), none, none, none, none], [], am_mk (am_si m 10 0 0 0))) (if_neg hc3) ?_
    refine am_Go.n htb 1 (S' := (18, [some (.inr (.inr (some (10, 0)))), some (.inl a1), none, none, none, none], [.inl (-1)], am_mk (am_si m 10 0 0 0))) rfl ?_
    cases h
    exact am_Go.r htb rfl
-- X10_few
def lp_X10_few_35 : Nat → Int32 → Int32 → Int32 → am_m → Option (am_m)
  | 0, _, _, _, _ => none
  | n + 1, x1, x2, x3, m =>
  (if (21 : Int32) ≤ x3 then some m else am_ck x3 21 (lp_X10_few_35 n x1 x2 (x3 + 1) (am_sg m 88 0 x3.toNatClampNeg (if x3 ≠ 0 then (0 : Int64) else (1000000000000 : Int64)))))
set_option maxRecDepth 100000 in
theorem lt_X10_few_35 (d : Nat) (hd : 2 ≤ d + 1) {r : Option am_V} {M' : am_M} {kc ks : Nat} {n : Nat} {x1 : Int32} {x2 : Int32} {x3 : Int32} {m : am_m} {t : am_m} (h : lp_X10_few_35 n x1 x2 x3 m = some t) (hk : am_Go d 281 (64, [some (.inr (.inr (some (10, 0)))), some (.inl x1), some (.inl x2), none, none, none, none, none], [], am_mk t) r M' kc ks) : am_Go d 281 (35, [some (.inr (.inr (some (10, 0)))), some (.inl x1), some (.inl x2), some (.inl x3), none, none, none, none], [], am_mk m) r M' kc ks := by
  have htb : am_tab 281 = at_281 := rfl
  induction n generalizing x3 m with
  | zero => cases h
  | succ n ih =>
    unfold lp_X10_few_35 at h
    refine am_Go.n htb 2 (S' := (38, [some (.inr (.inr (some (10, 0)))), some (.inl x1), some (.inl x2), some (.inl x3), none, none, none, none], [.inl 21, .inl x3], am_mk m)) rfl ?_
    by_cases hc7 : (21 : Int32) ≤ x3
    · rw [if_pos hc7] at h
      refine am_Go.c1 htb (S' := (64, [some (.inr (.inr (some (10, 0)))), some (.inl x1), some (.inl x2), some (.inl x3), none, none, none, none], [], am_mk m)) (if_pos hc7) ?_
      cases h
      exact am_Go.fg (by exact ⟨rfl, ⟨rfl, ⟨rfl, trivial⟩⟩⟩) hk
    · rw [if_neg hc7] at h
      refine am_Go.c1 htb (S' := (41, [some (.inr (.inr (some (10, 0)))), some (.inl x1), some (.inl x2), some (.inl x3), none, none, none, none], [], am_mk m)) (if_neg hc7) ?_
      refine am_Go.n htb 4 (S' := (47, [some (.inr (.inr (some (10, 0)))), some (.inl x1), some (.inl x2), some (.inl x3), none, none, none, none], [.inl x3, .inl x3, .inr (.inr (some (88, 0)))], am_mk m)) rfl ?_
      refine am_Go.cut (S := (57, [some (.inr (.inr (some (10, 0)))), some (.inl x1), some (.inl x2), some (.inl x3), none, none, none, none], [.inr (.inl (if x3 ≠ 0 then (0 : Int64) else (1000000000000 : Int64))), .inl x3, .inr (.inr (some (88, 0)))], am_mk m)) ?_ (fun key => ?_)
      · obtain ⟨hg9, h⟩ := am_ck_some h
        refine am_Go.c1 htb (S' := (58, [some (.inr (.inr (some (10, 0)))), some (.inl x1), some (.inl x2), some (.inl x3), none, none, none, none], [], am_mk (am_sg m 88 0 x3.toNatClampNeg (if x3 ≠ 0 then (0 : Int64) else (1000000000000 : Int64))))) (if_neg hg9) ?_
        refine am_Go.n htb 2 (S' := (35, [some (.inr (.inr (some (10, 0)))), some (.inl x1), some (.inl x2), some (.inl (x3 + 1)), none, none, none, none], [], am_mk (am_sg m 88 0 x3.toNatClampNeg (if x3 ≠ 0 then (0 : Int64) else (1000000000000 : Int64))))) rfl ?_
        exact ih h hk
      · by_cases hc8 : x3 ≠ 0
        · refine am_Go.c1 htb (S' := (56, [some (.inr (.inr (some (10, 0)))), some (.inl x1), some (.inl x2), some (.inl x3), none, none, none, none], [.inl x3, .inr (.inr (some (88, 0)))], am_mk m)) (if_pos hc8) ?_
          refine am_Go.n htb 1 (S' := (57, [some (.inr (.inr (some (10, 0)))), some (.inl x1), some (.inl x2), some (.inl x3), none, none, none, none], [.inr (.inl 0), .inl x3, .inr (.inr (some (88, 0)))], am_mk m)) rfl ?_
          simp only [if_pos hc8] at key
          exact am_Go.fg (by exact ⟨rfl, ⟨rfl, ⟨rfl, ⟨rfl, trivial⟩⟩⟩⟩) key
        · refine am_Go.c1 htb (S' := (50, [some (.inr (.inr (some (10, 0)))), some (.inl x1), some (.inl x2), some (.inl x3), none, none, none, none], [.inl x3, .inr (.inr (some (88, 0)))], am_mk m)) (if_neg hc8) ?_
          refine am_Go.n htb 2 (S' := (57, [some (.inr (.inr (some (10, 0)))), some (.inl x1), some (.inl x2), some (.inl x3), none, none, none, none], [.inr (.inl 1000000000000), .inl x3, .inr (.inr (some (88, 0)))], am_mk m)) rfl ?_
          simp only [if_neg hc8] at key
          exact am_Go.fg (by exact ⟨rfl, ⟨rfl, ⟨rfl, ⟨rfl, trivial⟩⟩⟩⟩) key
def lp_X10_few_85 : Nat → Int32 → Int32 → Int32 → Int32 → Int32 → am_m → Option (am_m)
  | 0, _, _, _, _, _, _ => none
  | n + 1, x1, x2, x3, x4, x5, m =>
  (if x5 < 0 then some m else am_ck x5 21 (am_gd (¬ (10 : Int64) = 0) (am_ck x5 21 (am_ck (x5 + (1 : Int32)) 21 (am_gd (¬ (10 : Int64) = 0) (am_ck (x5 + (1 : Int32)) 21 (lp_X10_few_85 n x1 x2 x3 x4 (x5 + (-1)) (am_sg (am_sg m 88 0 x5.toNatClampNeg (((m.2.1 88 0 x5.toNatClampNeg) * (((10 : Int32) - x3).toInt64)) / (10 : Int64))) 88 0 (x5 + (1 : Int32)).toNatClampNeg (((am_sg m 88 0 x5.toNatClampNeg (((m.2.1 88 0 x5.toNatClampNeg) * (((10 : Int32) - x3).toInt64)) / (10 : Int64))).2.1 88 0 (x5 + (1 : Int32)).toNatClampNeg) + (((m.2.1 88 0 x5.toNatClampNeg) * x3.toInt64) / (10 : Int64)))))))))))
set_option maxRecDepth 100000 in
theorem lt_X10_few_85 (d : Nat) (hd : 2 ≤ d + 1) {r : Option am_V} {M' : am_M} {kc ks : Nat} {n : Nat} {x1 : Int32} {x2 : Int32} {x3 : Int32} {x4 : Int32} {x5 : Int32} {m : am_m} {t : am_m} (h : lp_X10_few_85 n x1 x2 x3 x4 x5 m = some t) (hk : am_Go d 281 (145, [some (.inr (.inr (some (10, 0)))), some (.inl x1), some (.inl x2), some (.inl x3), some (.inl x4), none, none, none], [], am_mk t) r M' kc ks) : am_Go d 281 (85, [some (.inr (.inr (some (10, 0)))), some (.inl x1), some (.inl x2), some (.inl x3), some (.inl x4), some (.inl x5), none, none], [], am_mk m) r M' kc ks := by
  have htb : am_tab 281 = at_281 := rfl
  induction n generalizing x5 m with
  | zero => cases h
  | succ n ih =>
    unfold lp_X10_few_85 at h
    refine am_Go.n htb 1 (S' := (87, [some (.inr (.inr (some (10, 0)))), some (.inl x1), some (.inl x2), some (.inl x3), some (.inl x4), some (.inl x5), none, none], [.inl x5], am_mk m)) rfl ?_
    by_cases hc14 : x5 < 0
    · rw [if_pos hc14] at h
      refine am_Go.c1 htb (S' := (145, [some (.inr (.inr (some (10, 0)))), some (.inl x1), some (.inl x2), some (.inl x3), some (.inl x4), some (.inl x5), none, none], [], am_mk m)) (if_pos hc14) ?_
      cases h
      exact am_Go.fg (by exact ⟨rfl, ⟨rfl, ⟨rfl, ⟨rfl, ⟨rfl, trivial⟩⟩⟩⟩⟩) hk
    · rw [if_neg hc14] at h
      refine am_Go.c1 htb (S' := (90, [some (.inr (.inr (some (10, 0)))), some (.inl x1), some (.inl x2), some (.inl x3), some (.inl x4), some (.inl x5), none, none], [], am_mk m)) (if_neg hc14) ?_
      refine am_Go.n htb 3 (S' := (96, [some (.inr (.inr (some (10, 0)))), some (.inl x1), some (.inl x2), some (.inl x3), some (.inl x4), some (.inl x5), none, none], [.inl x5, .inr (.inr (some (88, 0)))], am_mk m)) rfl ?_
      obtain ⟨hg15, h⟩ := am_ck_some h
      refine am_Go.c1 htb (S' := (97, [some (.inr (.inr (some (10, 0)))), some (.inl x1), some (.inl x2), some (.inl x3), some (.inl x4), some (.inl x5), none, none], [.inr (.inl (m.2.1 88 0 x5.toNatClampNeg))], am_mk m)) (if_neg hg15) ?_
      refine am_Go.n htb 11 (S' := (116, [some (.inr (.inr (some (10, 0)))), some (.inl x1), some (.inl x2), some (.inl x3), some (.inl x4), some (.inl x5), some (.inr (.inl (m.2.1 88 0 x5.toNatClampNeg))), none], [.inr (.inl 10), .inr (.inl ((m.2.1 88 0 x5.toNatClampNeg) * (((10 : Int32) - x3).toInt64))), .inl x5, .inr (.inr (some (88, 0)))], am_mk m)) rfl ?_
      obtain ⟨hz16, h⟩ := am_gd_some h
      refine am_Go.c1 htb (S' := (117, [some (.inr (.inr (some (10, 0)))), some (.inl x1), some (.inl x2), some (.inl x3), some (.inl x4), some (.inl x5), some (.inr (.inl (m.2.1 88 0 x5.toNatClampNeg))), none], [.inr (.inl (((m.2.1 88 0 x5.toNatClampNeg) * (((10 : Int32) - x3).toInt64)) / (10 : Int64))), .inl x5, .inr (.inr (some (88, 0)))], am_mk m)) (if_neg hz16) ?_
      obtain ⟨hg17, h⟩ := am_ck_some h
      refine am_Go.c1 htb (S' := (118, [some (.inr (.inr (some (10, 0)))), some (.inl x1), some (.inl x2), some (.inl x3), some (.inl x4), some (.inl x5), some (.inr (.inl (m.2.1 88 0 x5.toNatClampNeg))), none], [], am_mk (am_sg m 88 0 x5.toNatClampNeg (((m.2.1 88 0 x5.toNatClampNeg) * (((10 : Int32) - x3).toInt64)) / (10 : Int64))))) (if_neg hg17) ?_
      refine am_Go.n htb 6 (S' := (127, [some (.inr (.inr (some (10, 0)))), some (.inl x1), some (.inl x2), some (.inl x3), some (.inl x4), some (.inl x5), some (.inr (.inl (m.2.1 88 0 x5.toNatClampNeg))), none], [.inl (x5 + (1 : Int32)), .inr (.inr (some (88, 0))), .inl (x5 + (1 : Int32)), .inr (.inr (some (88, 0)))], am_mk (am_sg m 88 0 x5.toNatClampNeg (((m.2.1 88 0 x5.toNatClampNeg) * (((10 : Int32) - x3).toInt64)) / (10 : Int64))))) rfl ?_
      obtain ⟨hg18, h⟩ := am_ck_some h
      refine am_Go.c1 htb (S' := (128, [some (.inr (.inr (some (10, 0)))), some (.inl x1), some (.inl x2), some (.inl x3), some (.inl x4), some (.inl x5), some (.inr (.inl (m.2.1 88 0 x5.toNatClampNeg))), none], [.inr (.inl ((am_sg m 88 0 x5.toNatClampNeg (((m.2.1 88 0 x5.toNatClampNeg) * (((10 : Int32) - x3).toInt64)) / (10 : Int64))).2.1 88 0 (x5 + (1 : Int32)).toNatClampNeg)), .inl (x5 + (1 : Int32)), .inr (.inr (some (88, 0)))], am_mk (am_sg m 88 0 x5.toNatClampNeg (((m.2.1 88 0 x5.toNatClampNeg) * (((10 : Int32) - x3).toInt64)) / (10 : Int64))))) (if_neg hg18) ?_
      refine am_Go.n htb 5 (S' := (136, [some (.inr (.inr (some (10, 0)))), some (.inl x1), some (.inl x2), some (.inl x3), some (.inl x4), some (.inl x5), some (.inr (.inl (m.2.1 88 0 x5.toNatClampNeg))), none], [.inr (.inl 10), .inr (.inl ((m.2.1 88 0 x5.toNatClampNeg) * x3.toInt64)), .inr (.inl ((am_sg m 88 0 x5.toNatClampNeg (((m.2.1 88 0 x5.toNatClampNeg) * (((10 : Int32) - x3).toInt64)) / (10 : Int64))).2.1 88 0 (x5 + (1 : Int32)).toNatClampNeg)), .inl (x5 + (1 : Int32)), .inr (.inr (some (88, 0)))], am_mk (am_sg m 88 0 x5.toNatClampNeg (((m.2.1 88 0 x5.toNatClampNeg) * (((10 : Int32) - x3).toInt64)) / (10 : Int64))))) rfl ?_
      obtain ⟨hz19, h⟩ := am_gd_some h
      refine am_Go.c1 htb (S' := (137, [some (.inr (.inr (some (10, 0)))), some (.inl x1), some (.inl x2), some (.inl x3), some (.inl x4), some (.inl x5), some (.inr (.inl (m.2.1 88 0 x5.toNatClampNeg))), none], [.inr (.inl (((m.2.1 88 0 x5.toNatClampNeg) * x3.toInt64) / (10 : Int64))), .inr (.inl ((am_sg m 88 0 x5.toNatClampNeg (((m.2.1 88 0 x5.toNatClampNeg) * (((10 : Int32) - x3).toInt64)) / (10 : Int64))).2.1 88 0 (x5 + (1 : Int32)).toNatClampNeg)), .inl (x5 + (1 : Int32)), .inr (.inr (some (88, 0)))], am_mk (am_sg m 88 0 x5.toNatClampNeg (((m.2.1 88 0 x5.toNatClampNeg) * (((10 : Int32) - x3).toInt64)) / (10 : Int64))))) (if_neg hz19) ?_
      refine am_Go.n htb 1 (S' := (138, [some (.inr (.inr (some (10, 0)))), some (.inl x1), some (.inl x2), some (.inl x3), some (.inl x4), some (.inl x5), some (.inr (.inl (m.2.1 88 0 x5.toNatClampNeg))), none], [.inr (.inl (((am_sg m 88 0 x5.toNatClampNeg (((m.2.1 88 0 x5.toNatClampNeg) * (((10 : Int32) - x3).toInt64)) / (10 : Int64))).2.1 88 0 (x5 + (1 : Int32)).toNatClampNeg) + (((m.2.1 88 0 x5.toNatClampNeg) * x3.toInt64) / (10 : Int64)))), .inl (x5 + (1 : Int32)), .inr (.inr (some (88, 0)))], am_mk (am_sg m 88 0 x5.toNatClampNeg (((m.2.1 88 0 x5.toNatClampNeg) * (((10 : Int32) - x3).toInt64)) / (10 : Int64))))) rfl ?_
      obtain ⟨hg20, h⟩ := am_ck_some h
      refine am_Go.c1 htb (S' := (139, [some (.inr (.inr (some (10, 0)))), some (.inl x1), some (.inl x2), some (.inl x3), some (.inl x4), some (.inl x5), some (.inr (.inl (m.2.1 88 0 x5.toNatClampNeg))), none], [], am_mk (am_sg (am_sg m 88 0 x5.toNatClampNeg (((m.2.1 88 0 x5.toNatClampNeg) * (((10 : Int32) - x3).toInt64)) / (10 : Int64))) 88 0 (x5 + (1 : Int32)).toNatClampNeg (((am_sg m 88 0 x5.toNatClampNeg (((m.2.1 88 0 x5.toNatClampNeg) * (((10 : Int32) - x3).toInt64)) / (10 : Int64))).2.1 88 0 (x5 + (1 : Int32)).toNatClampNeg) + (((m.2.1 88 0 x5.toNatClampNeg) * x3.toInt64) / (10 : Int64)))))) (if_neg hg20) ?_
      refine am_Go.n htb 2 (S' := (85, [some (.inr (.inr (some (10, 0)))), some (.inl x1), some (.inl x2), some (.inl x3), some (.inl x4), some (.inl (x5 + (-1))), some (.inr (.inl (m.2.1 88 0 x5.toNatClampNeg))), none], [], am_mk (am_sg (am_sg m 88 0 x5.toNatClampNeg (((m.2.1 88 0 x5.toNatClampNeg) * (((10 : Int32) - x3).toInt64)) / (10 : Int64))) 88 0 (x5 + (1 : Int32)).toNatClampNeg (((am_sg m 88 0 x5.toNatClampNeg (((m.2.1 88 0 x5.toNatClampNeg) * (((10 : Int32) - x3).toInt64)) / (10 : Int64))).2.1 88 0 (x5 + (1 : Int32)).toNatClampNeg) + (((m.2.1 88 0 x5.toNatClampNeg) * x3.toInt64) / (10 : Int64)))))) rfl ?_
      refine am_Go.fg (L0 := [some (.inr (.inr (some (10, 0)))), some (.inl x1), some (.inl x2), some (.inl x3), some (.inl x4), some (.inl (x5 + (-1))), none, none]) (by exact ⟨rfl, ⟨rfl, ⟨rfl, ⟨rfl, ⟨rfl, ⟨rfl, trivial⟩⟩⟩⟩⟩⟩) ?_
      exact ih h hk
def lp_X10_few_74 : Nat → Int32 → Int32 → Int32 → Int32 → am_m → Option (am_m)
  | 0, _, _, _, _, _ => none
  | n + 1, x1, x2, x3, x4, m =>
  (if x2 ≤ x4 then some m else (lp_X10_few_85 1000000 x1 x2 x3 x4 (x1 - (1 : Int32)) m).bind fun q21 => lp_X10_few_74 n x1 x2 x3 (x4 + 1) q21)
set_option maxRecDepth 100000 in
theorem lt_X10_few_74 (d : Nat) (hd : 2 ≤ d + 1) {r : Option am_V} {M' : am_M} {kc ks : Nat} {n : Nat} {x1 : Int32} {x2 : Int32} {x3 : Int32} {x4 : Int32} {m : am_m} {t : am_m} (h : lp_X10_few_74 n x1 x2 x3 x4 m = some t) (hk : am_Go d 281 (151, [some (.inr (.inr (some (10, 0)))), some (.inl x1), some (.inl x2), some (.inl x3), none, none, none, none], [], am_mk t) r M' kc ks) : am_Go d 281 (74, [some (.inr (.inr (some (10, 0)))), some (.inl x1), some (.inl x2), some (.inl x3), some (.inl x4), none, none, none], [], am_mk m) r M' kc ks := by
  have htb : am_tab 281 = at_281 := rfl
  induction n generalizing x4 m with
  | zero => cases h
  | succ n ih =>
    unfold lp_X10_few_74 at h
    refine am_Go.n htb 2 (S' := (77, [some (.inr (.inr (some (10, 0)))), some (.inl x1), some (.inl x2), some (.inl x3), some (.inl x4), none, none, none], [.inl x2, .inl x4], am_mk m)) rfl ?_
    by_cases hc13 : x2 ≤ x4
    · rw [if_pos hc13] at h
      refine am_Go.c1 htb (S' := (151, [some (.inr (.inr (some (10, 0)))), some (.inl x1), some (.inl x2), some (.inl x3), some (.inl x4), none, none, none], [], am_mk m)) (if_pos hc13) ?_
      cases h
      exact am_Go.fg (by exact ⟨rfl, ⟨rfl, ⟨rfl, ⟨rfl, trivial⟩⟩⟩⟩) hk
    · rw [if_neg hc13] at h
      refine am_Go.c1 htb (S' := (80, [some (.inr (.inr (some (10, 0)))), some (.inl x1), some (.inl x2), some (.inl x3), some (.inl x4), none, none, none], [], am_mk m)) (if_neg hc13) ?_
      refine am_Go.n htb 4 (S' := (85, [some (.inr (.inr (some (10, 0)))), some (.inl x1), some (.inl x2), some (.inl x3), some (.inl x4), some (.inl (x1 - (1 : Int32))), none, none], [], am_mk m)) rfl ?_
      obtain ⟨q21, h22, h⟩ := am_bd h
      refine lt_X10_few_85 _ hd (h := h22) (hk := ?_)
      refine am_Go.n htb 2 (S' := (74, [some (.inr (.inr (some (10, 0)))), some (.inl x1), some (.inl x2), some (.inl x3), some (.inl (x4 + 1)), none, none, none], [], am_mk q21)) rfl ?_
      exact ih h hk
def lp_X10_few_157 : Nat → Int32 → Int64 → Int32 → am_m → Option (Int64)
  | 0, _, _, _, _ => none
  | n + 1, x1, x4, x6, m =>
  (if x1 ≤ x6 then some x4 else am_ck x6 21 (lp_X10_few_157 n x1 (x4 + (m.2.1 88 0 x6.toNatClampNeg)) (x6 + 1) m))
set_option maxRecDepth 100000 in
theorem lt_X10_few_157 (d : Nat) (hd : 2 ≤ d + 1) {r : Option am_V} {M' : am_M} {kc ks : Nat} {n : Nat} {x1 : Int32} {x4 : Int64} {x6 : Int32} {m : am_m} {t : Int64} (h : lp_X10_few_157 n x1 x4 x6 m = some t) (hk : am_Go d 281 (181, [some (.inr (.inr (some (10, 0)))), some (.inl x1), none, none, some (.inr (.inl t)), none, none, none], [], am_mk m) r M' kc ks) : am_Go d 281 (157, [some (.inr (.inr (some (10, 0)))), some (.inl x1), none, none, some (.inr (.inl x4)), none, some (.inl x6), none], [], am_mk m) r M' kc ks := by
  have htb : am_tab 281 = at_281 := rfl
  induction n generalizing x4 x6 with
  | zero => cases h
  | succ n ih =>
    unfold lp_X10_few_157 at h
    refine am_Go.n htb 2 (S' := (160, [some (.inr (.inr (some (10, 0)))), some (.inl x1), none, none, some (.inr (.inl x4)), none, some (.inl x6), none], [.inl x1, .inl x6], am_mk m)) rfl ?_
    by_cases hc25 : x1 ≤ x6
    · rw [if_pos hc25] at h
      refine am_Go.c1 htb (S' := (181, [some (.inr (.inr (some (10, 0)))), some (.inl x1), none, none, some (.inr (.inl x4)), none, some (.inl x6), none], [], am_mk m)) (if_pos hc25) ?_
      cases h
      exact am_Go.fg (by exact ⟨rfl, ⟨rfl, ⟨rfl, trivial⟩⟩⟩) hk
    · rw [if_neg hc25] at h
      refine am_Go.c1 htb (S' := (163, [some (.inr (.inr (some (10, 0)))), some (.inl x1), none, none, some (.inr (.inl x4)), none, some (.inl x6), none], [], am_mk m)) (if_neg hc25) ?_
      refine am_Go.n htb 4 (S' := (171, [some (.inr (.inr (some (10, 0)))), some (.inl x1), none, none, some (.inr (.inl x4)), none, some (.inl x6), none], [.inl x6, .inr (.inr (some (88, 0))), .inr (.inl x4)], am_mk m)) rfl ?_
      obtain ⟨hg26, h⟩ := am_ck_some h
      refine am_Go.c1 htb (S' := (172, [some (.inr (.inr (some (10, 0)))), some (.inl x1), none, none, some (.inr (.inl x4)), none, some (.inl x6), none], [.inr (.inl (m.2.1 88 0 x6.toNatClampNeg)), .inr (.inl x4)], am_mk m)) (if_neg hg26) ?_
      refine am_Go.n htb 4 (S' := (157, [some (.inr (.inr (some (10, 0)))), some (.inl x1), none, none, some (.inr (.inl (x4 + (m.2.1 88 0 x6.toNatClampNeg)))), none, some (.inl (x6 + 1)), none], [], am_mk m)) rfl ?_
      exact ih h hk
def fn_X10_few (a1 : Int32) (a2 : Int32) (m : am_m) : Option (Int64 × am_m) :=
  (fn_X10_in a1.toInt64 1 20 (am_si m 10 0 0 0)).bind fun r1 => (if r1 = 0 then some ((-1), am_si m 10 0 0 0) else (fn_X10_in a2.toInt64 0 99 (am_si m 10 0 0 0)).bind fun r4 => (if r4 ≠ 0 then (lp_X10_few_35 1000000 a1 a2 0 (am_si m 10 0 0 0)).bind fun q10 => am_ck 5 5518 ((lp_X10_few_74 1000000 a1 a2 (q10.1 44 0 (5 : Int32).toNatClampNeg) 0 q10).bind fun q23 => (lp_X10_few_157 1000000 a1 0 0 q23).bind fun q27 => some (q27, q23)) else some ((-1), am_si m 10 0 0 0)))
set_option maxRecDepth 100000 in
theorem ex_X10_few (d : Nat) (hd : 2 ≤ d) (a1 : Int32) (a2 : Int32) (m : am_m) (t : Int64 × am_m) (h : fn_X10_few a1 a2 m = some t) : am_Ex am_cod d 281 [.inr (.inr (some (10, 0))), .inl a1, .inl a2] (am_mk m) (some (.inr (.inl t.1))) (am_mk t.2) 0 0 := by
  obtain ⟨d, rfl⟩ : ∃ e, d = e + 1 := ⟨d - 1, by omega⟩
  have htb : am_tab 281 = at_281 := rfl
  refine ⟨Nat.le_of_ble_eq_true rfl, ?_⟩
  unfold fn_X10_few at h
  show am_Go d 281 (0, [some (.inr (.inr (some (10, 0)))), some (.inl a1), some (.inl a2), none, none, none, none, none], [], am_mk m) _ _ 0 0
  refine am_Go.n htb 7 (S' := (11, [some (.inr (.inr (some (10, 0)))), some (.inl a1), some (.inl a2), none, none, none, none, none], [.inr (.inl 20), .inr (.inl 1), .inr (.inl a1.toInt64)], am_mk (am_si m 10 0 0 0))) rfl ?_
  obtain ⟨r1, h2, h⟩ := am_bd h
  refine am_Go.cl htb rfl (ex_X10_in d (by omega) a1.toInt64 1 20 (am_si m 10 0 0 0) r1 h2) ?_
  show am_Go d 281 (14, [some (.inr (.inr (some (10, 0)))), some (.inl a1), some (.inl a2), none, none, none, none, none], [.inl r1], am_mk (am_si m 10 0 0 0)) _ _ _ _
  by_cases hc3 : r1 = 0
  · rw [if_pos hc3] at h
    refine am_Go.c1 htb (S' := (29, [some (.inr (.inr (some (10, 0)))), some (.inl a1), some (.inl a2), none, none, none, none, none], [], am_mk (am_si m 10 0 0 0))) (if_pos hc3) ?_
    refine am_Go.n htb 1 (S' := (32, [some (.inr (.inr (some (10, 0)))), some (.inl a1), some (.inl a2), none, none, none, none, none], [.inr (.inl (-1))], am_mk (am_si m 10 0 0 0))) rfl ?_
    cases h
    exact am_Go.r htb rfl
  · rw [if_neg hc3] at h
    refine am_Go.c1 htb (S' := (17, [some (.inr (.inr (some (10, 0)))), some (.inl a1), some (.inl a2), none, none, none, none, none], [], am_mk (am_si m 10 0 0 0))) (if_neg hc3) ?_
    refine am_Go.n htb 4 (S' := (23, [some (.inr (.inr (some (10, 0)))), some (.inl a1), some (.inl a2), none, none, none, none, none], [.inr (.inl 99), .inr (.inl 0), .inr (.inl a2.toInt64)], am_mk (am_si m 10 0 0 0))) rfl ?_
    obtain ⟨r4, h5, h⟩ := am_bd h
    refine am_Go.cl htb rfl (ex_X10_in d (by omega) a2.toInt64 0 99 (am_si m 10 0 0 0) r4 h5) ?_
    show am_Go d 281 (26, [some (.inr (.inr (some (10, 0)))), some (.inl a1), some (.inl a2), none, none, none, none, none], [.inl r4], am_mk (am_si m 10 0 0 0)) _ _ _ _
    by_cases hc6 : r4 ≠ 0
    · rw [if_pos hc6] at h
      refine am_Go.c1 htb (S' := (33, [some (.inr (.inr (some (10, 0)))), some (.inl a1), some (.inl a2), none, none, none, none, none], [], am_mk (am_si m 10 0 0 0))) (if_pos hc6) ?_
      refine am_Go.n htb 2 (S' := (35, [some (.inr (.inr (some (10, 0)))), some (.inl a1), some (.inl a2), some (.inl 0), none, none, none, none], [], am_mk (am_si m 10 0 0 0))) rfl ?_
      obtain ⟨q10, h11, h⟩ := am_bd h
      refine lt_X10_few_35 _ hd (h := h11) (hk := ?_)
      refine am_Go.n htb 3 (S' := (69, [some (.inr (.inr (some (10, 0)))), some (.inl a1), some (.inl a2), none, none, none, none, none], [.inl 5, .inr (.inr (some (44, 0)))], am_mk q10)) rfl ?_
      obtain ⟨hg12, h⟩ := am_ck_some h
      refine am_Go.c1 htb (S' := (70, [some (.inr (.inr (some (10, 0)))), some (.inl a1), some (.inl a2), none, none, none, none, none], [.inl (q10.1 44 0 (5 : Int32).toNatClampNeg)], am_mk q10)) (if_neg hg12) ?_
      refine am_Go.n htb 3 (S' := (74, [some (.inr (.inr (some (10, 0)))), some (.inl a1), some (.inl a2), some (.inl (q10.1 44 0 (5 : Int32).toNatClampNeg)), some (.inl 0), none, none, none], [], am_mk q10)) rfl ?_
      obtain ⟨q23, h24, h⟩ := am_bd h
      refine lt_X10_few_74 _ hd (h := h24) (hk := ?_)
      refine am_Go.n htb 4 (S' := (157, [some (.inr (.inr (some (10, 0)))), some (.inl a1), some (.inl a2), some (.inl (q10.1 44 0 (5 : Int32).toNatClampNeg)), some (.inr (.inl 0)), none, some (.inl 0), none], [], am_mk q23)) rfl ?_
      refine am_Go.fg (L0 := [some (.inr (.inr (some (10, 0)))), some (.inl a1), none, none, some (.inr (.inl 0)), none, some (.inl 0), none]) (by exact ⟨rfl, ⟨rfl, ⟨rfl, ⟨rfl, trivial⟩⟩⟩⟩) ?_
      obtain ⟨q27, h28, h⟩ := am_bd h
      refine lt_X10_few_157 _ hd (h := h28) (hk := ?_)
      refine am_Go.n htb 1 (S' := (183, [some (.inr (.inr (some (10, 0)))), some (.inl a1), none, none, some (.inr (.inl q27)), none, none, none], [.inr (.inl q27)], am_mk q23)) rfl ?_
      cases h
      exact am_Go.r htb rfl
    · rw [if_neg hc6] at h
      refine am_Go.c1 htb (S' := (29, [some (.inr (.inr (some (10, 0)))), some (.inl a1), some (.inl a2), none, none, none, none, none], [], am_mk (am_si m 10 0 0 0))) (if_neg hc6) ?_
      refine am_Go.n htb 1 (S' := (32, [some (.inr (.inr (some (10, 0)))), some (.inl a1), some (.inl a2), none, none, none, none, none], [.inr (.inl (-1))], am_mk (am_si m 10 0 0 0))) rfl ?_
      cases h
      exact am_Go.r htb rfl
