-- X10_tables
def fn_X10_tables (a1 : Int32) (m : am_m) : Option (Int32 × am_m) :=
  am_ck 0 5518 ((fn_X10_in a1.toInt64 0 (((am_si m 10 0 0 0).1 44 0 (0 : Int32).toNatClampNeg).toInt64) (am_si m 10 0 0 0)).bind fun r2 => (if r2 ≠ 0 then (fn_X10_layMay  (am_si m 10 0 0 0)).bind fun r5 => (fn_X10_findParts 1 r5).bind fun r7 => (if (r7.1 10 0 46) ≠ (100000000 : Int32) then (if a1 ≠ 0 then am_ck (a1 - (1 : Int32)) 7 (some ((r7.1 58 0 (a1 - (1 : Int32)).toNatClampNeg), r7)) else some ((r7.1 10 0 46), r7)) else some ((-1), r7)) else some ((-1), am_si m 10 0 0 0)))
set_option maxRecDepth 100000 in
theorem ex_X10_tables (d : Nat) (hd : 9 ≤ d) (a1 : Int32) (m : am_m) (t : Int32 × am_m) (h : fn_X10_tables a1 m = some t) : am_Ex am_cod d 260 [.inr (.inr (some (10, 0))), .inl a1] (am_mk m) (some (.inl t.1)) (am_mk t.2) 0 0 := by
  obtain ⟨d, rfl⟩ : ∃ e, d = e + 1 := ⟨d - 1, by omega⟩
  have htb : am_tab 260 = at_260 := rfl
  refine ⟨Nat.le_of_ble_eq_true rfl, ?_⟩
  unfold fn_X10_tables at h
  show am_Go d 260 (0, [some (.inr (.inr (some (10, 0)))), some (.inl a1)], [], am_mk m) _ _ 0 0
  refine am_Go.n htb 9 (S' := (13, [some (.inr (.inr (some (10, 0)))), some (.inl a1)], [.inl 0, .inr (.inr (some (44, 0))), .inr (.inl 0), .inr (.inl a1.toInt64)], am_mk (am_si m 10 0 0 0))) rfl ?_
  obtain ⟨hg1, h⟩ := am_ck_some h
  refine am_Go.c1 htb (S' := (14, [some (.inr (.inr (some (10, 0)))), some (.inl a1)], [.inl ((am_si m 10 0 0 0).1 44 0 (0 : Int32).toNatClampNeg), .inr (.inl 0), .inr (.inl a1.toInt64)], am_mk (am_si m 10 0 0 0))) (if_neg hg1) ?_
  refine am_Go.n htb 1 (S' := (15, [some (.inr (.inr (some (10, 0)))), some (.inl a1)], [.inr (.inl (((am_si m 10 0 0 0).1 44 0 (0 : Int32).toNatClampNeg).toInt64)), .inr (.inl 0), .inr (.inl a1.toInt64)], am_mk (am_si m 10 0 0 0))) rfl ?_
  obtain ⟨r2, h3, h⟩ := am_bd h
  refine am_Go.cl htb rfl (ex_X10_in d (by omega) a1.toInt64 0 (((am_si m 10 0 0 0).1 44 0 (0 : Int32).toNatClampNeg).toInt64) (am_si m 10 0 0 0) r2 h3) ?_
  show am_Go d 260 (18, [some (.inr (.inr (some (10, 0)))), some (.inl a1)], [.inl r2], am_mk (am_si m 10 0 0 0)) _ _ _ _
  by_cases hc4 : r2 ≠ 0
  · rw [if_pos hc4] at h
    refine am_Go.c1 htb (S' := (23, [some (.inr (.inr (some (10, 0)))), some (.inl a1)], [], am_mk (am_si m 10 0 0 0))) (if_pos hc4) ?_
    refine am_Go.n htb 1 (S' := (24, [some (.inr (.inr (some (10, 0)))), some (.inl a1)], [.inr (.inr (some (10, 0)))], am_mk (am_si m 10 0 0 0))) rfl ?_
    obtain ⟨r5, h6, h⟩ := am_bd h
    refine am_Go.cl htb rfl (ex_X10_layMay d (by omega)  (am_si m 10 0 0 0) r5 h6) ?_
    show am_Go d 260 (27, [some (.inr (.inr (some (10, 0)))), some (.inl a1)], [], am_mk r5) _ _ _ _
    refine am_Go.n htb 2 (S' := (29, [some (.inr (.inr (some (10, 0)))), some (.inl a1)], [.inl 1, .inr (.inr (some (10, 0)))], am_mk r5)) rfl ?_
    obtain ⟨r7, h8, h⟩ := am_bd h
    refine am_Go.cl htb rfl (ex_X10_findParts d (by omega) 1 r5 r7 h8) ?_
    show am_Go d 260 (32, [some (.inr (.inr (some (10, 0)))), some (.inl a1)], [], am_mk r7) _ _ _ _
    refine am_Go.n htb 3 (S' := (39, [some (.inr (.inr (some (10, 0)))), some (.inl a1)], [.inl 100000000, .inl (r7.1 10 0 46)], am_mk r7)) rfl ?_
    by_cases hc9 : (r7.1 10 0 46) ≠ (100000000 : Int32)
    · rw [if_pos hc9] at h
      refine am_Go.c1 htb (S' := (46, [some (.inr (.inr (some (10, 0)))), some (.inl a1)], [], am_mk r7)) (if_pos hc9) ?_
      refine am_Go.n htb 1 (S' := (47, [some (.inr (.inr (some (10, 0)))), some (.inl a1)], [.inl a1], am_mk r7)) rfl ?_
      by_cases hc10 : a1 ≠ 0
      · rw [if_pos hc10] at h
        refine am_Go.c1 htb (S' := (57, [some (.inr (.inr (some (10, 0)))), some (.inl a1)], [], am_mk r7)) (if_pos hc10) ?_
        refine am_Go.n htb 5 (S' := (64, [some (.inr (.inr (some (10, 0)))), some (.inl a1)], [.inl (a1 - (1 : Int32)), .inr (.inr (some (58, 0)))], am_mk r7)) rfl ?_
        obtain ⟨hg11, h⟩ := am_ck_some h
        refine am_Go.c1 htb (S' := (65, [some (.inr (.inr (some (10, 0)))), some (.inl a1)], [.inl (r7.1 58 0 (a1 - (1 : Int32)).toNatClampNeg)], am_mk r7)) (if_neg hg11) ?_
        cases h
        exact am_Go.r htb rfl
      · rw [if_neg hc10] at h
        refine am_Go.c1 htb (S' := (50, [some (.inr (.inr (some (10, 0)))), some (.inl a1)], [], am_mk r7)) (if_neg hc10) ?_
        refine am_Go.n htb 3 (S' := (65, [some (.inr (.inr (some (10, 0)))), some (.inl a1)], [.inl (r7.1 10 0 46)], am_mk r7)) rfl ?_
        cases h
        exact am_Go.r htb rfl
    · rw [if_neg hc9] at h
      refine am_Go.c1 htb (S' := (42, [some (.inr (.inr (some (10, 0)))), some (.inl a1)], [], am_mk r7)) (if_neg hc9) ?_
      refine am_Go.n htb 2 (S' := (65, [some (.inr (.inr (some (10, 0)))), some (.inl a1)], [.inl (-1)], am_mk r7)) rfl ?_
      cases h
      exact am_Go.r htb rfl
  · rw [if_neg hc4] at h
    refine am_Go.c1 htb (S' := (21, [some (.inr (.inr (some (10, 0)))), some (.inl a1)], [], am_mk (am_si m 10 0 0 0))) (if_neg hc4) ?_
    refine am_Go.n htb 1 (S' := (22, [some (.inr (.inr (some (10, 0)))), some (.inl a1)], [.inl (-1)], am_mk (am_si m 10 0 0 0))) rfl ?_
    cases h
    exact am_Go.r htb rfl
-- X10_newHarms
def fn_X10_newHarms (a1 : Int32) (m : am_m) : Option (Int32 × am_m) :=
  am_ck 0 5518 ((fn_X10_in a1.toInt64 0 (((am_si m 10 0 0 0).1 44 0 (0 : Int32).toNatClampNeg).toInt64) (am_si m 10 0 0 0)).bind fun r2 => (if r2 ≠ 0 then (fn_X10_layMay  (am_si m 10 0 0 0)).bind fun r5 => (fn_X10_findParts 0 r5).bind fun r7 => (if (r7.1 10 0 46) ≠ (100000000 : Int32) then (if a1 ≠ 0 then am_ck (a1 - (1 : Int32)) 7 (some ((r7.1 58 0 (a1 - (1 : Int32)).toNatClampNeg), r7)) else some ((r7.1 10 0 46), r7)) else some ((-1), r7)) else some ((-1), am_si m 10 0 0 0)))
set_option maxRecDepth 100000 in
theorem ex_X10_newHarms (d : Nat) (hd : 9 ≤ d) (a1 : Int32) (m : am_m) (t : Int32 × am_m) (h : fn_X10_newHarms a1 m = some t) : am_Ex am_cod d 261 [.inr (.inr (some (10, 0))), .inl a1] (am_mk m) (some (.inl t.1)) (am_mk t.2) 0 0 := by
  obtain ⟨d, rfl⟩ : ∃ e, d = e + 1 := ⟨d - 1, by omega⟩
  have htb : am_tab 261 = at_261 := rfl
  refine ⟨Nat.le_of_ble_eq_true rfl, ?_⟩
  unfold fn_X10_newHarms at h
  show am_Go d 261 (0, [some (.inr (.inr (some (10, 0)))), some (.inl a1)], [], am_mk m) _ _ 0 0
  refine am_Go.n htb 9 (S' := (13, [some (.inr (.inr (some (10, 0)))), some (.inl a1)], [.inl 0, .inr (.inr (some (44, 0))), .inr (.inl 0), .inr (.inl a1.toInt64)], am_mk (am_si m 10 0 0 0))) rfl ?_
  obtain ⟨hg1, h⟩ := am_ck_some h
  refine am_Go.c1 htb (S' := (14, [some (.inr (.inr (some (10, 0)))), some (.inl a1)], [.inl ((am_si m 10 0 0 0).1 44 0 (0 : Int32).toNatClampNeg), .inr (.inl 0), .inr (.inl a1.toInt64)], am_mk (am_si m 10 0 0 0))) (if_neg hg1) ?_
  refine am_Go.n htb 1 (S' := (15, [some (.inr (.inr (some (10, 0)))), some (.inl a1)], [.inr (.inl (((am_si m 10 0 0 0).1 44 0 (0 : Int32).toNatClampNeg).toInt64)), .inr (.inl 0), .inr (.inl a1.toInt64)], am_mk (am_si m 10 0 0 0))) rfl ?_
  obtain ⟨r2, h3, h⟩ := am_bd h
  refine am_Go.cl htb rfl (ex_X10_in d (by omega) a1.toInt64 0 (((am_si m 10 0 0 0).1 44 0 (0 : Int32).toNatClampNeg).toInt64) (am_si m 10 0 0 0) r2 h3) ?_
  show am_Go d 261 (18, [some (.inr (.inr (some (10, 0)))), some (.inl a1)], [.inl r2], am_mk (am_si m 10 0 0 0)) _ _ _ _
  by_cases hc4 : r2 ≠ 0
  · rw [if_pos hc4] at h
    refine am_Go.c1 htb (S' := (23, [some (.inr (.inr (some (10, 0)))), some (.inl a1)], [], am_mk (am_si m 10 0 0 0))) (if_pos hc4) ?_
    refine am_Go.n htb 1 (S' := (24, [some (.inr (.inr (some (10, 0)))), some (.inl a1)], [.inr (.inr (some (10, 0)))], am_mk (am_si m 10 0 0 0))) rfl ?_
    obtain ⟨r5, h6, h⟩ := am_bd h
    refine am_Go.cl htb rfl (ex_X10_layMay d (by omega)  (am_si m 10 0 0 0) r5 h6) ?_
    show am_Go d 261 (27, [some (.inr (.inr (some (10, 0)))), some (.inl a1)], [], am_mk r5) _ _ _ _
    refine am_Go.n htb 2 (S' := (29, [some (.inr (.inr (some (10, 0)))), some (.inl a1)], [.inl 0, .inr (.inr (some (10, 0)))], am_mk r5)) rfl ?_
    obtain ⟨r7, h8, h⟩ := am_bd h
    refine am_Go.cl htb rfl (ex_X10_findParts d (by omega) 0 r5 r7 h8) ?_
    show am_Go d 261 (32, [some (.inr (.inr (some (10, 0)))), some (.inl a1)], [], am_mk r7) _ _ _ _
    refine am_Go.n htb 3 (S' := (39, [some (.inr (.inr (some (10, 0)))), some (.inl a1)], [.inl 100000000, .inl (r7.1 10 0 46)], am_mk r7)) rfl ?_
    by_cases hc9 : (r7.1 10 0 46) ≠ (100000000 : Int32)
    · rw [if_pos hc9] at h
      refine am_Go.c1 htb (S' := (46, [some (.inr (.inr (some (10, 0)))), some (.inl a1)], [], am_mk r7)) (if_pos hc9) ?_
      refine am_Go.n htb 1 (S' := (47, [some (.inr (.inr (some (10, 0)))), some (.inl a1)], [.inl a1], am_mk r7)) rfl ?_
      by_cases hc10 : a1 ≠ 0
      · rw [if_pos hc10] at h
        refine am_Go.c1 htb (S' := (57, [some (.inr (.inr (some (10, 0)))), some (.inl a1)], [], am_mk r7)) (if_pos hc10) ?_
        refine am_Go.n htb 5 (S' := (64, [some (.inr (.inr (some (10, 0)))), some (.inl a1)], [.inl (a1 - (1 : Int32)), .inr (.inr (some (58, 0)))], am_mk r7)) rfl ?_
        obtain ⟨hg11, h⟩ := am_ck_some h
        refine am_Go.c1 htb (S' := (65, [some (.inr (.inr (some (10, 0)))), some (.inl a1)], [.inl (r7.1 58 0 (a1 - (1 : Int32)).toNatClampNeg)], am_mk r7)) (if_neg hg11) ?_
        cases h
        exact am_Go.r htb rfl
      · rw [if_neg hc10] at h
        refine am_Go.c1 htb (S' := (50, [some (.inr (.inr (some (10, 0)))), some (.inl a1)], [], am_mk r7)) (if_neg hc10) ?_
        refine am_Go.n htb 3 (S' := (65, [some (.inr (.inr (some (10, 0)))), some (.inl a1)], [.inl (r7.1 10 0 46)], am_mk r7)) rfl ?_
        cases h
        exact am_Go.r htb rfl
    · rw [if_neg hc9] at h
      refine am_Go.c1 htb (S' := (42, [some (.inr (.inr (some (10, 0)))), some (.inl a1)], [], am_mk r7)) (if_neg hc9) ?_
      refine am_Go.n htb 2 (S' := (65, [some (.inr (.inr (some (10, 0)))), some (.inl a1)], [.inl (-1)], am_mk r7)) rfl ?_
      cases h
      exact am_Go.r htb rfl
  · rw [if_neg hc4] at h
    refine am_Go.c1 htb (S' := (21, [some (.inr (.inr (some (10, 0)))), some (.inl a1)], [], am_mk (am_si m 10 0 0 0))) (if_neg hc4) ?_
    refine am_Go.n htb 1 (S' := (22, [some (.inr (.inr (some (10, 0)))), some (.inl a1)], [.inl (-1)], am_mk (am_si m 10 0 0 0))) rfl ?_
    cases h
    exact am_Go.r htb rfl
-- X10_layParts
def lp_X10_layParts_38 : Nat → Int32 → Int32 → am_m → Option (am_m)
  | 0, _, _, _ => none
  | n + 1, x1, x2, m =>
  (if x1 < x2 then some m else am_ck x1 128 ((if (m.1 94 0 x1.toNatClampNeg) ≠ 0 then some 1 else (if (x2 &&& (x1 ^^^ (-1 : Int32))) ≠ 0 then some 0 else am_ck x2 128 ((if (m.1 95 0 x2.toNatClampNeg) = 0 then some 0 else am_ck (x1 &&& (x2 ^^^ (-1 : Int32))) 128 ((if (m.1 94 0 (x1 &&& (x2 ^^^ (-1 : Int32))).toNatClampNeg) = 0 then some 0 else some 1)))))).bind fun q19 => am_gd (q19 = 0 ∨ q19 = 1) (am_ck x1 128 (lp_X10_layParts_38 n x1 (x2 + 1) (am_si m 94 0 x1.toNatClampNeg q19)))))
set_option maxRecDepth 100000 in
theorem lt_X10_layParts_38 (d : Nat) (hd : 3 ≤ d + 1) {r : Option am_V} {M' : am_M} {kc ks : Nat} {n : Nat} {x1 : Int32} {x2 : Int32} {m : am_m} {t : am_m} (h : lp_X10_layParts_38 n x1 x2 m = some t) (hk : am_Go d 262 (99, [some (.inr (.inr (some (10, 0)))), some (.inl x1), none], [], am_mk t) r M' kc ks) : am_Go d 262 (38, [some (.inr (.inr (some (10, 0)))), some (.inl x1), some (.inl x2)], [], am_mk m) r M' kc ks := by
  have htb : am_tab 262 = at_262 := rfl
  induction n generalizing x2 m with
  | zero => cases h
  | succ n ih =>
    unfold lp_X10_layParts_38 at h
    refine am_Go.n htb 2 (S' := (40, [some (.inr (.inr (some (10, 0)))), some (.inl x1), some (.inl x2)], [.inl x1, .inl x2], am_mk m)) rfl ?_
    by_cases hc11 : x1 < x2
    · rw [if_pos hc11] at h
      refine am_Go.c1 htb (S' := (99, [some (.inr (.inr (some (10, 0)))), some (.inl x1), some (.inl x2)], [], am_mk m)) (if_pos hc11) ?_
      cases h
      exact am_Go.fg (by exact ⟨rfl, ⟨rfl, trivial⟩⟩) hk
    · rw [if_neg hc11] at h
      refine am_Go.c1 htb (S' := (43, [some (.inr (.inr (some (10, 0)))), some (.inl x1), some (.inl x2)], [], am_mk m)) (if_neg hc11) ?_
      refine am_Go.n htb 6 (S' := (53, [some (.inr (.inr (some (10, 0)))), some (.inl x1), some (.inl x2)], [.inl x1, .inr (.inr (some (94, 0))), .inl x1, .inr (.inr (some (94, 0)))], am_mk m)) rfl ?_
      obtain ⟨hg12, h⟩ := am_ck_some h
      refine am_Go.c1 htb (S' := (54, [some (.inr (.inr (some (10, 0)))), some (.inl x1), some (.inl x2)], [.inl (m.1 94 0 x1.toNatClampNeg), .inl x1, .inr (.inr (some (94, 0)))], am_mk m)) (if_neg hg12) ?_
      obtain ⟨q19, h22, h⟩ := am_bd h
      refine am_Go.cut (S := (92, [some (.inr (.inr (some (10, 0)))), some (.inl x1), some (.inl x2)], [.inl q19, .inl x1, .inr (.inr (some (94, 0)))], am_mk m)) ?_ (fun key => ?_)
      · obtain ⟨hz21, h⟩ := am_gd_some h
        obtain ⟨hg20, h⟩ := am_ck_some h
        refine am_Go.c1 htb (S' := (93, [some (.inr (.inr (some (10, 0)))), some (.inl x1), some (.inl x2)], [], am_mk (am_si m 94 0 x1.toNatClampNeg q19))) ((if_pos hz21).trans (if_neg hg20)) ?_
        refine am_Go.n htb 2 (S' := (38, [some (.inr (.inr (some (10, 0)))), some (.inl x1), some (.inl (x2 + 1))], [], am_mk (am_si m 94 0 x1.toNatClampNeg q19))) rfl ?_
        exact ih h hk
      · have h := h22
        by_cases hc13 : (m.1 94 0 x1.toNatClampNeg) ≠ 0
        · rw [if_pos hc13] at h
          refine am_Go.c1 htb (S' := (87, [some (.inr (.inr (some (10, 0)))), some (.inl x1), some (.inl x2)], [.inl x1, .inr (.inr (some (94, 0)))], am_mk m)) (if_pos hc13) ?_
          refine am_Go.n htb 2 (S' := (92, [some (.inr (.inr (some (10, 0)))), some (.inl x1), some (.inl x2)], [.inl 1, .inl x1, .inr (.inr (some (94, 0)))], am_mk m)) rfl ?_
          cases h
          exact am_Go.fg (by exact ⟨rfl, ⟨rfl, ⟨rfl, trivial⟩⟩⟩) key
        · rw [if_neg hc13] at h
          refine am_Go.c1 htb (S' := (57, [some (.inr (.inr (some (10, 0)))), some (.inl x1), some (.inl x2)], [.inl x1, .inr (.inr (some (94, 0)))], am_mk m)) (if_neg hc13) ?_
          refine am_Go.n htb 5 (S' := (62, [some (.inr (.inr (some (10, 0)))), some (.inl x1), some (.inl x2)], [.inl (x2 &&& (x1 ^^^ (-1 : Int32))), .inl x1, .inr (.inr (some (94, 0)))], am_mk m)) rfl ?_
          by_cases hc14 : (x2 &&& (x1 ^^^ (-1 : Int32))) ≠ 0
          · rw [if_pos hc14] at h
            refine am_Go.c1 htb (S' := (91, [some (.inr (.inr (some (10, 0)))), some (.inl x1), some (.inl x2)], [.inl x1, .inr (.inr (some (94, 0)))], am_mk m)) (if_pos hc14) ?_
            refine am_Go.n htb 1 (S' := (92, [some (.inr (.inr (some (10, 0)))), some (.inl x1), some (.inl x2)], [.inl 0, .inl x1, .inr (.inr (some (94, 0)))], am_mk m)) rfl ?_
            cases h
            exact am_Go.fg (by exact ⟨rfl, ⟨rfl, ⟨rfl, trivial⟩⟩⟩) key
          · rw [if_neg hc14] at h
            refine am_Go.c1 htb (S' := (65, [some (.inr (.inr (some (10, 0)))), some (.inl x1), some (.inl x2)], [.inl x1, .inr (.inr (some (94, 0)))], am_mk m)) (if_neg hc14) ?_
            refine am_Go.n htb 3 (S' := (70, [some (.inr (.inr (some (10, 0)))), some (.inl x1), some (.inl x2)], [.inl x2, .inr (.inr (some (95, 0))), .inl x1, .inr (.inr (some (94, 0)))], am_mk m)) rfl ?_
            obtain ⟨hg15, h⟩ := am_ck_some h
            refine am_Go.c1 htb (S' := (71, [some (.inr (.inr (some (10, 0)))), some (.inl x1), some (.inl x2)], [.inl (m.1 95 0 x2.toNatClampNeg), .inl x1, .inr (.inr (some (94, 0)))], am_mk m)) (if_neg hg15) ?_
            by_cases hc16 : (m.1 95 0 x2.toNatClampNeg) = 0
            · rw [if_pos hc16] at h
              refine am_Go.c1 htb (S' := (91, [some (.inr (.inr (some (10, 0)))), some (.inl x1), some (.inl x2)], [.inl x1, .inr (.inr (some (94, 0)))], am_mk m)) (if_pos hc16) ?_
              refine am_Go.n htb 1 (S' := (92, [some (.inr (.inr (some (10, 0)))), some (.inl x1), some (.inl x2)], [.inl 0, .inl x1, .inr (.inr (some (94, 0)))], am_mk m)) rfl ?_
              cases h
              exact am_Go.fg (by exact ⟨rfl, ⟨rfl, ⟨rfl, trivial⟩⟩⟩) key
            · rw [if_neg hc16] at h
              refine am_Go.c1 htb (S' := (74, [some (.inr (.inr (some (10, 0)))), some (.inl x1), some (.inl x2)], [.inl x1, .inr (.inr (some (94, 0)))], am_mk m)) (if_neg hc16) ?_
              refine am_Go.n htb 7 (S' := (83, [some (.inr (.inr (some (10, 0)))), some (.inl x1), some (.inl x2)], [.inl (x1 &&& (x2 ^^^ (-1 : Int32))), .inr (.inr (some (94, 0))), .inl x1, .inr (.inr (some (94, 0)))], am_mk m)) rfl ?_
              obtain ⟨hg17, h⟩ := am_ck_some h
              refine am_Go.c1 htb (S' := (84, [some (.inr (.inr (some (10, 0)))), some (.inl x1), some (.inl x2)], [.inl (m.1 94 0 (x1 &&& (x2 ^^^ (-1 : Int32))).toNatClampNeg), .inl x1, .inr (.inr (some (94, 0)))], am_mk m)) (if_neg hg17) ?_
              by_cases hc18 : (m.1 94 0 (x1 &&& (x2 ^^^ (-1 : Int32))).toNatClampNeg) = 0
              · rw [if_pos hc18] at h
                refine am_Go.c1 htb (S' := (91, [some (.inr (.inr (some (10, 0)))), some (.inl x1), some (.inl x2)], [.inl x1, .inr (.inr (some (94, 0)))], am_mk m)) (if_pos hc18) ?_
                refine am_Go.n htb 1 (S' := (92, [some (.inr (.inr (some (10, 0)))), some (.inl x1), some (.inl x2)], [.inl 0, .inl x1, .inr (.inr (some (94, 0)))], am_mk m)) rfl ?_
                cases h
                exact am_Go.fg (by exact ⟨rfl, ⟨rfl, ⟨rfl, trivial⟩⟩⟩) key
              · rw [if_neg hc18] at h
                refine am_Go.c1 htb (S' := (87, [some (.inr (.inr (some (10, 0)))), some (.inl x1), some (.inl x2)], [.inl x1, .inr (.inr (some (94, 0)))], am_mk m)) (if_neg hc18) ?_
                refine am_Go.n htb 2 (S' := (92, [some (.inr (.inr (some (10, 0)))), some (.inl x1), some (.inl x2)], [.inl 1, .inl x1, .inr (.inr (some (94, 0)))], am_mk m)) rfl ?_
                cases h
                exact am_Go.fg (by exact ⟨rfl, ⟨rfl, ⟨rfl, trivial⟩⟩⟩) key
def lp_X10_layParts_2 : Nat → Int32 → am_m → Option (am_m)
  | 0, _, _ => none
  | n + 1, x1, m =>
  (fn_X10_all  m).bind fun r1 => (if r1 < x1 then some m else (fn_X10_isTable x1 m).bind fun r4 => am_gd (r4 = 0 ∨ r4 = 1) (am_ck x1 128 (am_gd ((if x1 ≠ 0 then (0 : Int32) else (1 : Int32)) = 0 ∨ (if x1 ≠ 0 then (0 : Int32) else (1 : Int32)) = 1) (am_ck x1 128 ((lp_X10_layParts_38 1000000 x1 1 (am_si (am_si m 95 0 x1.toNatClampNeg r4) 94 0 x1.toNatClampNeg (if x1 ≠ 0 then (0 : Int32) else (1 : Int32)))).bind fun q23 => lp_X10_layParts_2 n (x1 + 1) q23)))))
set_option maxRecDepth 100000 in
theorem lt_X10_layParts_2 (d : Nat) (hd : 3 ≤ d + 1) {r : Option am_V} {M' : am_M} {kc ks : Nat} {n : Nat} {x1 : Int32} {m : am_m} {t : am_m} (h : lp_X10_layParts_2 n x1 m = some t) (hk : am_Go d 262 (105, [some (.inr (.inr (some (10, 0)))), none, none], [], am_mk t) r M' kc ks) : am_Go d 262 (2, [some (.inr (.inr (some (10, 0)))), some (.inl x1), none], [], am_mk m) r M' kc ks := by
  have htb : am_tab 262 = at_262 := rfl
  induction n generalizing x1 m with
  | zero => cases h
  | succ n ih =>
    unfold lp_X10_layParts_2 at h
    refine am_Go.n htb 2 (S' := (4, [some (.inr (.inr (some (10, 0)))), some (.inl x1), none], [.inr (.inr (some (10, 0))), .inl x1], am_mk m)) rfl ?_
    obtain ⟨r1, h2, h⟩ := am_bd h
    refine am_Go.cl htb rfl (ex_X10_all d (by omega)  m r1 h2) ?_
    show am_Go d 262 (7, [some (.inr (.inr (some (10, 0)))), some (.inl x1), none], [.inl r1, .inl x1], am_mk m) _ _ _ _
    by_cases hc3 : r1 < x1
    · rw [if_pos hc3] at h
      refine am_Go.c1 htb (S' := (105, [some (.inr (.inr (some (10, 0)))), some (.inl x1), none], [], am_mk m)) (if_pos hc3) ?_
      cases h
      exact am_Go.fg (by exact ⟨rfl, trivial⟩) hk
    · rw [if_neg hc3] at h
      refine am_Go.c1 htb (S' := (10, [some (.inr (.inr (some (10, 0)))), some (.inl x1), none], [], am_mk m)) (if_neg hc3) ?_
      refine am_Go.n htb 5 (S' := (17, [some (.inr (.inr (some (10, 0)))), some (.inl x1), none], [.inl x1, .inr (.inr (some (10, 0))), .inl x1, .inr (.inr (some (95, 0)))], am_mk m)) rfl ?_
      obtain ⟨r4, h5, h⟩ := am_bd h
      refine am_Go.cl htb rfl (ex_X10_isTable d (by omega) x1 m r4 h5) ?_
      show am_Go d 262 (20, [some (.inr (.inr (some (10, 0)))), some (.inl x1), none], [.inl r4, .inl x1, .inr (.inr (some (95, 0)))], am_mk m) _ _ _ _
      obtain ⟨hz7, h⟩ := am_gd_some h
      obtain ⟨hg6, h⟩ := am_ck_some h
      refine am_Go.c1 htb (S' := (21, [some (.inr (.inr (some (10, 0)))), some (.inl x1), none], [], am_mk (am_si m 95 0 x1.toNatClampNeg r4))) ((if_pos hz7).trans (if_neg hg6)) ?_
      refine am_Go.n htb 4 (S' := (27, [some (.inr (.inr (some (10, 0)))), some (.inl x1), none], [.inl x1, .inl x1, .inr (.inr (some (94, 0)))], am_mk (am_si m 95 0 x1.toNatClampNeg r4))) rfl ?_
      refine am_Go.cut (S := (35, [some (.inr (.inr (some (10, 0)))), some (.inl x1), none], [.inl (if x1 ≠ 0 then (0 : Int32) else (1 : Int32)), .inl x1, .inr (.inr (some (94, 0)))], am_mk (am_si m 95 0 x1.toNatClampNeg r4))) ?_ (fun key => ?_)
      · obtain ⟨hz10, h⟩ := am_gd_some h
        obtain ⟨hg9, h⟩ := am_ck_some h
        refine am_Go.c1 htb (S' := (36, [some (.inr (.inr (some (10, 0)))), some (.inl x1), none], [], am_mk (am_si (am_si m 95 0 x1.toNatClampNeg r4) 94 0 x1.toNatClampNeg (if x1 ≠ 0 then (0 : Int32) else (1 : Int32))))) ((if_pos hz10).trans (if_neg hg9)) ?_
        refine am_Go.n htb 2 (S' := (38, [some (.inr (.inr (some (10, 0)))), some (.inl x1), some (.inl 1)], [], am_mk (am_si (am_si m 95 0 x1.toNatClampNeg r4) 94 0 x1.toNatClampNeg (if x1 ≠ 0 then (0 : Int32) else (1 : Int32))))) rfl ?_
        obtain ⟨q23, h24, h⟩ := am_bd h
        refine lt_X10_layParts_38 _ hd (h := h24) (hk := ?_)
        refine am_Go.n htb 2 (S' := (2, [some (.inr (.inr (some (10, 0)))), some (.inl (x1 + 1)), none], [], am_mk q23)) rfl ?_
        exact ih h hk
      · by_cases hc8 : x1 ≠ 0
        · refine am_Go.c1 htb (S' := (34, [some (.inr (.inr (some (10, 0)))), some (.inl x1), none], [.inl x1, .inr (.inr (some (94, 0)))], am_mk (am_si m 95 0 x1.toNatClampNeg r4))) (if_pos hc8) ?_
          refine am_Go.n htb 1 (S' := (35, [some (.inr (.inr (some (10, 0)))), some (.inl x1), none], [.inl 0, .inl x1, .inr (.inr (some (94, 0)))], am_mk (am_si m 95 0 x1.toNatClampNeg r4))) rfl ?_
          simp only [if_pos hc8] at key
          exact am_Go.fg (by exact ⟨rfl, ⟨rfl, trivial⟩⟩) key
        · refine am_Go.c1 htb (S' := (30, [some (.inr (.inr (some (10, 0)))), some (.inl x1), none], [.inl x1, .inr (.inr (some (94, 0)))], am_mk (am_si m 95 0 x1.toNatClampNeg r4))) (if_neg hc8) ?_
          refine am_Go.n htb 2 (S' := (35, [some (.inr (.inr (some (10, 0)))), some (.inl x1), none], [.inl 1, .inl x1, .inr (.inr (some (94, 0)))], am_mk (am_si m 95 0 x1.toNatClampNeg r4))) rfl ?_
          simp only [if_neg hc8] at key
          exact am_Go.fg (by exact ⟨rfl, ⟨rfl, trivial⟩⟩) key
def fn_X10_layParts  (m : am_m) : Option (am_m) :=
  (lp_X10_layParts_2 1000000 0 m).bind fun q25 => some q25
set_option maxRecDepth 100000 in
theorem ex_X10_layParts (d : Nat) (hd : 3 ≤ d)  (m : am_m) (t : am_m) (h : fn_X10_layParts  m = some t) : am_Ex am_cod d 262 [.inr (.inr (some (10, 0)))] (am_mk m) (none) (am_mk t) 0 0 := by
  obtain ⟨d, rfl⟩ : ∃ e, d = e + 1 := ⟨d - 1, by omega⟩
  have htb : am_tab 262 = at_262 := rfl
  refine ⟨Nat.le_of_ble_eq_true rfl, ?_⟩
  unfold fn_X10_layParts at h
  show am_Go d 262 (0, [some (.inr (.inr (some (10, 0)))), none, none], [], am_mk m) _ _ 0 0
  refine am_Go.n htb 2 (S' := (2, [some (.inr (.inr (some (10, 0)))), some (.inl 0), none], [], am_mk m)) rfl ?_
  obtain ⟨q25, h26, h⟩ := am_bd h
  refine lt_X10_layParts_2 _ hd (h := h26) (hk := ?_)
  cases h
  exact am_Go.r htb rfl
-- X10_leftOut
def lp_X10_leftOut_34 : Nat → Int32 → Int32 → Int32 → Int32 → am_m → Option (Int32 × Int32)
  | 0, _, _, _, _, _ => none
  | n + 1, x1, x2, x3, x4, m =>
  (fn_X10_all  m).bind fun r8 => (if r8 < x4 then some (x2, x3) else (fn_X10_ones x4 m).bind fun r11 => (if x2 ≤ r11 then some (x2, x3) else (fn_X10_all  m).bind fun r14 => am_ck (r14 &&& (x4 ^^^ (-1 : Int32))) 128 ((if (m.1 94 0 (r14 &&& (x4 ^^^ (-1 : Int32))).toNatClampNeg) = 0 then some (x2, x3) else (fn_X10_ones x4 m).bind fun r18 => some (r18, x4)))).bind fun q20 => lp_X10_leftOut_34 n x1 q20.1 q20.2 (x4 + 1) m)
set_option maxRecDepth 100000 in
theorem lt_X10_leftOut_34 (d : Nat) (hd : 9 ≤ d + 1) {r : Option am_V} {M' : am_M} {kc ks : Nat} {n : Nat} {x1 : Int32} {x2 : Int32} {x3 : Int32} {x4 : Int32} {m : am_m} {t : Int32 × Int32} (h : lp_X10_leftOut_34 n x1 x2 x3 x4 m = some t) (hk : am_Go d 263 (84, [some (.inr (.inr (some (10, 0)))), some (.inl x1), some (.inl t.1), some (.inl t.2), none], [], am_mk m) r M' kc ks) : am_Go d 263 (34, [some (.inr (.inr (some (10, 0)))), some (.inl x1), some (.inl x2), some (.inl x3), some (.inl x4)], [], am_mk m) r M' kc ks := by
  have htb : am_tab 263 = at_263 := rfl
  induction n generalizing x2 x3 x4 with
  | zero => cases h
  | succ n ih =>
    unfold lp_X10_leftOut_34 at h
    refine am_Go.n htb 2 (S' := (37, [some (.inr (.inr (some (10, 0)))), some (.inl x1), some (.inl x2), some (.inl x3), some (.inl x4)], [.inr (.inr (some (10, 0))), .inl x4], am_mk m)) rfl ?_
    obtain ⟨r8, h9, h⟩ := am_bd h
    refine am_Go.cl htb rfl (ex_X10_all d (by omega)  m r8 h9) ?_
    show am_Go d 263 (40, [some (.inr (.inr (some (10, 0)))), some (.inl x1), some (.inl x2), some (.inl x3), some (.inl x4)], [.inl r8, .inl x4], am_mk m) _ _ _ _
    by_cases hc10 : r8 < x4
    · rw [if_pos hc10] at h
      refine am_Go.c1 htb (S' := (84, [some (.inr (.inr (some (10, 0)))), some (.inl x1), some (.inl x2), some (.inl x3), some (.inl x4)], [], am_mk m)) (if_pos hc10) ?_
      cases h
      exact am_Go.fg (by exact ⟨rfl, ⟨rfl, ⟨rfl, ⟨rfl, trivial⟩⟩⟩⟩) hk
    · rw [if_neg hc10] at h
      refine am_Go.c1 htb (S' := (43, [some (.inr (.inr (some (10, 0)))), some (.inl x1), some (.inl x2), some (.inl x3), some (.inl x4)], [], am_mk m)) (if_neg hc10) ?_
      refine am_Go.n htb 1 (S' := (45, [some (.inr (.inr (some (10, 0)))), some (.inl x1), some (.inl x2), some (.inl x3), some (.inl x4)], [.inl x4], am_mk m)) rfl ?_
      obtain ⟨r11, h12, h⟩ := am_bd h
      refine am_Go.cl htb rfl (ex_X10_ones d (by omega) x4 m r11 h12) ?_
      show am_Go d 263 (48, [some (.inr (.inr (some (10, 0)))), some (.inl x1), some (.inl x2), some (.inl x3), some (.inl x4)], [.inl r11], am_mk m) _ _ _ _
      refine am_Go.n htb 1 (S' := (49, [some (.inr (.inr (some (10, 0)))), some (.inl x1), some (.inl x2), some (.inl x3), some (.inl x4)], [.inl x2, .inl r11], am_mk m)) rfl ?_
      obtain ⟨q20, h21, h⟩ := am_bd h
      refine am_Go.cut (S := (78, [some (.inr (.inr (some (10, 0)))), some (.inl x1), some (.inl q20.1), some (.inl q20.2), some (.inl x4)], [], am_mk m)) ?_ (fun key => ?_)
      · refine am_Go.n htb 2 (S' := (34, [some (.inr (.inr (some (10, 0)))), some (.inl x1), some (.inl q20.1), some (.inl q20.2), some (.inl (x4 + 1))], [], am_mk m)) rfl ?_
        exact ih h hk
      · have h := h21
        by_cases hc13 : x2 ≤ r11
        · rw [if_pos hc13] at h
          refine am_Go.c1 htb (S' := (78, [some (.inr (.inr (some (10, 0)))), some (.inl x1), some (.inl x2), some (.inl x3), some (.inl x4)], [], am_mk m)) (if_pos hc13) ?_
          cases h
          exact am_Go.fg (by exact ⟨rfl, ⟨rfl, ⟨rfl, ⟨rfl, ⟨rfl, trivial⟩⟩⟩⟩⟩) key
        · rw [if_neg hc13] at h
          refine am_Go.c1 htb (S' := (52, [some (.inr (.inr (some (10, 0)))), some (.inl x1), some (.inl x2), some (.inl x3), some (.inl x4)], [], am_mk m)) (if_neg hc13) ?_
          refine am_Go.n htb 3 (S' := (57, [some (.inr (.inr (some (10, 0)))), some (.inl x1), some (.inl x2), some (.inl x3), some (.inl x4)], [.inr (.inr (some (10, 0))), .inr (.inr (some (94, 0)))], am_mk m)) rfl ?_
          obtain ⟨r14, h15, h⟩ := am_bd h
          refine am_Go.cl htb rfl (ex_X10_all d (by omega)  m r14 h15) ?_
          show am_Go d 263 (60, [some (.inr (.inr (some (10, 0)))), some (.inl x1), some (.inl x2), some (.inl x3), some (.inl x4)], [.inl r14, .inr (.inr (some (94, 0)))], am_mk m) _ _ _ _
          refine am_Go.n htb 4 (S' := (65, [some (.inr (.inr (some (10, 0)))), some (.inl x1), some (.inl x2), some (.inl x3), some (.inl x4)], [.inl (r14 &&& (x4 ^^^ (-1 : Int32))), .inr (.inr (some (94, 0)))], am_mk m)) rfl ?_
          obtain ⟨hg16, h⟩ := am_ck_some h
          refine am_Go.c1 htb (S' := (66, [some (.inr (.inr (some (10, 0)))), some (.inl x1), some (.inl x2), some (.inl x3), some (.inl x4)], [.inl (m.1 94 0 (r14 &&& (x4 ^^^ (-1 : Int32))).toNatClampNeg)], am_mk m)) (if_neg hg16) ?_
          by_cases hc17 : (m.1 94 0 (r14 &&& (x4 ^^^ (-1 : Int32))).toNatClampNeg) = 0
          · rw [if_pos hc17] at h
            refine am_Go.c1 htb (S' := (78, [some (.inr (.inr (some (10, 0)))), some (.inl x1), some (.inl x2), some (.inl x3), some (.inl x4)], [], am_mk m)) (if_pos hc17) ?_
            cases h
            exact am_Go.fg (by exact ⟨rfl, ⟨rfl, ⟨rfl, ⟨rfl, ⟨rfl, trivial⟩⟩⟩⟩⟩) key
          · rw [if_neg hc17] at h
            refine am_Go.c1 htb (S' := (69, [some (.inr (.inr (some (10, 0)))), some (.inl x1), some (.inl x2), some (.inl x3), some (.inl x4)], [], am_mk m)) (if_neg hc17) ?_
            refine am_Go.n htb 1 (S' := (71, [some (.inr (.inr (some (10, 0)))), some (.inl x1), some (.inl x2), some (.inl x3), some (.inl x4)], [.inl x4], am_mk m)) rfl ?_
            obtain ⟨r18, h19, h⟩ := am_bd h
            refine am_Go.cl htb rfl (ex_X10_ones d (by omega) x4 m r18 h19) ?_
            show am_Go d 263 (74, [some (.inr (.inr (some (10, 0)))), some (.inl x1), some (.inl x2), some (.inl x3), some (.inl x4)], [.inl r18], am_mk m) _ _ _ _
            refine am_Go.n htb 3 (S' := (78, [some (.inr (.inr (some (10, 0)))), some (.inl x1), some (.inl r18), some (.inl x4), some (.inl x4)], [], am_mk m)) rfl ?_
            cases h
            exact am_Go.fg (by exact ⟨rfl, ⟨rfl, ⟨rfl, ⟨rfl, ⟨rfl, trivial⟩⟩⟩⟩⟩) key
def fn_X10_leftOut (a1 : Int32) (m : am_m) : Option (Int32 × am_m) :=
  (fn_X10_in a1.toInt64 0 1 (am_si m 10 0 0 0)).bind fun r1 => (if r1 ≠ 0 then (fn_X10_layMay  (am_si m 10 0 0 0)).bind fun r4 => (fn_X10_layParts  r4).bind fun r6 => (lp_X10_leftOut_34 1000000 a1 100000000 0 0 r6).bind fun q22 => (if a1 ≠ 0 then some (q22.2, r6) else some (q22.1, r6)) else some ((-1), am_si m 10 0 0 0))
set_option maxRecDepth 100000 in
theorem ex_X10_leftOut (d : Nat) (hd : 9 ≤ d) (a1 : Int32) (m : am_m) (t : Int32 × am_m) (h : fn_X10_leftOut a1 m = some t) : am_Ex am_cod d 263 [.inr (.inr (some (10, 0))), .inl a1] (am_mk m) (some (.inl t.1)) (am_mk t.2) 0 0 := by
  obtain ⟨d, rfl⟩ : ∃ e, d = e + 1 := ⟨d - 1, by omega⟩
  have htb : am_tab 263 = at_263 := rfl
  refine ⟨Nat.le_of_ble_eq_true rfl, ?_⟩
  unfold fn_X10_leftOut at h
  show am_Go d 263 (0, [some (.inr (.inr (some (10, 0)))), some (.inl a1), none, none, none], [], am_mk m) _ _ 0 0
  refine am_Go.n htb 7 (S' := (9, [some (.inr (.inr (some (10, 0)))), some (.inl a1), none, none, none], [.inr (.inl 1), .inr (.inl 0), .inr (.inl a1.toInt64)], am_mk (am_si m 10 0 0 0))) rfl ?_
  obtain ⟨r1, h2, h⟩ := am_bd h
  refine am_Go.cl htb rfl (ex_X10_in d (by omega) a1.toInt64 0 1 (am_si m 10 0 0 0) r1 h2) ?_
  show am_Go d 263 (12, [some (.inr (.inr (some (10, 0)))), some (.inl a1), none, none, none], [.inl r1], am_mk (am_si m 10 0 0 0)) _ _ _ _
  by_cases hc3 : r1 ≠ 0
  · rw [if_pos hc3] at h
    refine am_Go.c1 htb (S' := (17, [some (.inr (.inr (some (10, 0)))), some (.inl a1), none, none, none], [], am_mk (am_si m 10 0 0 0))) (if_pos hc3) ?_
    refine am_Go.n htb 1 (S' := (18, [some (.inr (.inr (some (10, 0)))), some (.inl a1), none, none, none], [.inr (.inr (some (10, 0)))], am_mk (am_si m 10 0 0 0))) rfl ?_
    obtain ⟨r4, h5, h⟩ := am_bd h
    refine am_Go.cl htb rfl (ex_X10_layMay d (by omega)  (am_si m 10 0 0 0) r4 h5) ?_
    show am_Go d 263 (21, [some (.inr (.inr (some (10, 0)))), some (.inl a1), none, none, none], [], am_mk r4) _ _ _ _
    refine am_Go.n htb 1 (S' := (22, [some (.inr (.inr (some (10, 0)))), some (.inl a1), none, none, none], [.inr (.inr (some (10, 0)))], am_mk r4)) rfl ?_
    obtain ⟨r6, h7, h⟩ := am_bd h
    refine am_Go.cl htb rfl (ex_X10_layParts d (by omega)  r4 r6 h7) ?_
    show am_Go d 263 (25, [some (.inr (.inr (some (10, 0)))), some (.inl a1), none, none, none], [], am_mk r6) _ _ _ _
    refine am_Go.n htb 6 (S' := (34, [some (.inr (.inr (some (10, 0)))), some (.inl a1), some (.inl 100000000), some (.inl 0), some (.inl 0)], [], am_mk r6)) rfl ?_
    obtain ⟨q22, h23, h⟩ := am_bd h
    refine lt_X10_leftOut_34 _ hd (h := h23) (hk := ?_)
    refine am_Go.n htb 1 (S' := (85, [some (.inr (.inr (some (10, 0)))), some (.inl a1), some (.inl q22.1), some (.inl q22.2), none], [.inl a1], am_mk r6)) rfl ?_
    by_cases hc24 : a1 ≠ 0
    · rw [if_pos hc24] at h
      refine am_Go.c1 htb (S' := (92, [some (.inr (.inr (some (10, 0)))), some (.inl a1), some (.inl q22.1), some (.inl q22.2), none], [], am_mk r6)) (if_pos hc24) ?_
      refine am_Go.n htb 1 (S' := (93, [some (.inr (.inr (some (10, 0)))), some (.inl a1), some (.inl q22.1), some (.inl q22.2), none], [.inl q22.2], am_mk r6)) rfl ?_
      cases h
      exact am_Go.r htb rfl
    · rw [if_neg hc24] at h
      refine am_Go.c1 htb (S' := (88, [some (.inr (.inr (some (10, 0)))), some (.inl a1), some (.inl q22.1), some (.inl q22.2), none], [], am_mk r6)) (if_neg hc24) ?_
      refine am_Go.n htb 2 (S' := (93, [some (.inr (.inr (some (10, 0)))), some (.inl a1), some (.inl q22.1), some (.inl q22.2), none], [.inl q22.1], am_mk r6)) rfl ?_
      cases h
      exact am_Go.r htb rfl
  · rw [if_neg hc3] at h
    refine am_Go.c1 htb (S' := (15, [some (.inr (.inr (some (10, 0)))), some (.inl a1), none, none, none], [], am_mk (am_si m 10 0 0 0))) (if_neg hc3) ?_
    refine am_Go.n htb 1 (S' := (16, [some (.inr (.inr (some (10, 0)))), some (.inl a1), none, none, none], [.inl (-1)], am_mk (am_si m 10 0 0 0))) rfl ?_
    cases h
    exact am_Go.r htb rfl
-- X10_suffered
def lp_X10_suffered_5 : Nat → Int32 → Int32 → Int32 → Int32 → am_m → Option (Int32 × am_m)
  | 0, _, _, _, _, _ => none
  | n + 1, x1, x2, x3, x4, m =>
  am_ck 0 5518 ((if (m.1 44 0 (0 : Int32).toNatClampNeg) ≤ x4 then some (x3, m) else (if x4 = x1 then some (0, m) else (fn_X10_is x2 x4 m).bind fun r4 => (if r4 = 0 then some (0, m) else (fn_X10_countsAs x4 x1 m).bind fun r7 => some (r7.1, r7.2))).bind fun q9 => lp_X10_suffered_5 n x1 x2 (x3 + q9.1) (x4 + 1) q9.2))
set_option maxRecDepth 100000 in
theorem lt_X10_suffered_5 (d : Nat) (hd : 7 ≤ d + 1) {r : Option am_V} {M' : am_M} {kc ks : Nat} {n : Nat} {x1 : Int32} {x2 : Int32} {x3 : Int32} {x4 : Int32} {m : am_m} {t : Int32 × am_m} (h : lp_X10_suffered_5 n x1 x2 x3 x4 m = some t) (hk : am_Go d 264 (51, [some (.inr (.inr (some (10, 0)))), some (.inl x1), some (.inl x2), some (.inl t.1), none], [], am_mk t.2) r M' kc ks) : am_Go d 264 (5, [some (.inr (.inr (some (10, 0)))), some (.inl x1), some (.inl x2), some (.inl x3), some (.inl x4)], [], am_mk m) r M' kc ks := by
  have htb : am_tab 264 = at_264 := rfl
  induction n generalizing x3 x4 m with
  | zero => cases h
  | succ n ih =>
    unfold lp_X10_suffered_5 at h
    refine am_Go.n htb 4 (S' := (12, [some (.inr (.inr (some (10, 0)))), some (.inl x1), some (.inl x2), some (.inl x3), some (.inl x4)], [.inl 0, .inr (.inr (some (44, 0))), .inl x4], am_mk m)) rfl ?_
    obtain ⟨hg1, h⟩ := am_ck_some h
    refine am_Go.c1 htb (S' := (13, [some (.inr (.inr (some (10, 0)))), some (.inl x1), some (.inl x2), some (.inl x3), some (.inl x4)], [.inl (m.1 44 0 (0 : Int32).toNatClampNeg), .inl x4], am_mk m)) (if_neg hg1) ?_
    by_cases hc2 : (m.1 44 0 (0 : Int32).toNatClampNeg) ≤ x4
    · rw [if_pos hc2] at h
      refine am_Go.c1 htb (S' := (51, [some (.inr (.inr (some (10, 0)))), some (.inl x1), some (.inl x2), some (.inl x3), some (.inl x4)], [], am_mk m)) (if_pos hc2) ?_
      cases h
      exact am_Go.fg (by exact ⟨rfl, ⟨rfl, ⟨rfl, ⟨rfl, trivial⟩⟩⟩⟩) hk
    · rw [if_neg hc2] at h
      refine am_Go.c1 htb (S' := (16, [some (.inr (.inr (some (10, 0)))), some (.inl x1), some (.inl x2), some (.inl x3), some (.inl x4)], [], am_mk m)) (if_neg hc2) ?_
      refine am_Go.n htb 3 (S' := (20, [some (.inr (.inr (some (10, 0)))), some (.inl x1), some (.inl x2), some (.inl x3), some (.inl x4)], [.inl x1, .inl x4, .inl x3], am_mk m)) rfl ?_
      obtain ⟨q9, h10, h⟩ := am_bd h
      refine am_Go.cut (S := (43, [some (.inr (.inr (some (10, 0)))), some (.inl x1), some (.inl x2), some (.inl x3), some (.inl x4)], [.inl q9.1, .inl x3], am_mk q9.2)) ?_ (fun key => ?_)
      · refine am_Go.n htb 4 (S' := (5, [some (.inr (.inr (some (10, 0)))), some (.inl x1), some (.inl x2), some (.inl (x3 + q9.1)), some (.inl (x4 + 1))], [], am_mk q9.2)) rfl ?_
        exact ih h hk
      · have h := h10
        by_cases hc3 : x4 = x1
        · rw [if_pos hc3] at h
          refine am_Go.c1 htb (S' := (42, [some (.inr (.inr (some (10, 0)))), some (.inl x1), some (.inl x2), some (.inl x3), some (.inl x4)], [.inl x3], am_mk m)) (if_pos hc3) ?_
          refine am_Go.n htb 1 (S' := (43, [some (.inr (.inr (some (10, 0)))), some (.inl x1), some (.inl x2), some (.inl x3), some (.inl x4)], [.inl 0, .inl x3], am_mk m)) rfl ?_
          cases h
          exact am_Go.fg (by exact ⟨rfl, ⟨rfl, ⟨rfl, ⟨rfl, ⟨rfl, trivial⟩⟩⟩⟩⟩) key
        · rw [if_neg hc3] at h
          refine am_Go.c1 htb (S' := (23, [some (.inr (.inr (some (10, 0)))), some (.inl x1), some (.inl x2), some (.inl x3), some (.inl x4)], [.inl x3], am_mk m)) (if_neg hc3) ?_
          refine am_Go.n htb 2 (S' := (26, [some (.inr (.inr (some (10, 0)))), some (.inl x1), some (.inl x2), some (.inl x3), some (.inl x4)], [.inl x4, .inl x2, .inl x3], am_mk m)) rfl ?_
          obtain ⟨r4, h5, h⟩ := am_bd h
          refine am_Go.cl htb rfl (ex_X10_is d (by omega) x2 x4 m r4 h5) ?_
          show am_Go d 264 (29, [some (.inr (.inr (some (10, 0)))), some (.inl x1), some (.inl x2), some (.inl x3), some (.inl x4)], [.inl r4, .inl x3], am_mk m) _ _ _ _
          by_cases hc6 : r4 = 0
          · rw [if_pos hc6] at h
            refine am_Go.c1 htb (S' := (42, [some (.inr (.inr (some (10, 0)))), some (.inl x1), some (.inl x2), some (.inl x3), some (.inl x4)], [.inl x3], am_mk m)) (if_pos hc6) ?_
            refine am_Go.n htb 1 (S' := (43, [some (.inr (.inr (some (10, 0)))), some (.inl x1), some (.inl x2), some (.inl x3), some (.inl x4)], [.inl 0, .inl x3], am_mk m)) rfl ?_
            cases h
            exact am_Go.fg (by exact ⟨rfl, ⟨rfl, ⟨rfl, ⟨rfl, ⟨rfl, trivial⟩⟩⟩⟩⟩) key
          · rw [if_neg hc6] at h
            refine am_Go.c1 htb (S' := (32, [some (.inr (.inr (some (10, 0)))), some (.inl x1), some (.inl x2), some (.inl x3), some (.inl x4)], [.inl x3], am_mk m)) (if_neg hc6) ?_
            refine am_Go.n htb 3 (S' := (36, [some (.inr (.inr (some (10, 0)))), some (.inl x1), some (.inl x2), some (.inl x3), some (.inl x4)], [.inl x1, .inl x4, .inr (.inr (some (10, 0))), .inl x3], am_mk m)) rfl ?_
            obtain ⟨r7, h8, h⟩ := am_bd h
            refine am_Go.cl htb rfl (ex_X10_countsAs d (by omega) x4 x1 m r7 h8) ?_
            show am_Go d 264 (39, [some (.inr (.inr (some (10, 0)))), some (.inl x1), some (.inl x2), some (.inl x3), some (.inl x4)], [.inl r7.1, .inl x3], am_mk r7.2) _ _ _ _
            refine am_Go.n htb 1 (S' := (43, [some (.inr (.inr (some (10, 0)))), some (.inl x1), some (.inl x2), some (.inl x3), some (.inl x4)], [.inl r7.1, .inl x3], am_mk r7.2)) rfl ?_
            cases h
            exact am_Go.fg (by exact ⟨rfl, ⟨rfl, ⟨rfl, ⟨rfl, ⟨rfl, trivial⟩⟩⟩⟩⟩) key
def fn_X10_suffered (a1 : Int32) (a2 : Int32) (m : am_m) : Option (Int32 × am_m) :=
  (lp_X10_suffered_5 1000000 a1 a2 0 0 m).bind fun q11 => some (q11.1, q11.2)
set_option maxRecDepth 100000 in
theorem ex_X10_suffered (d : Nat) (hd : 7 ≤ d) (a1 : Int32) (a2 : Int32) (m : am_m) (t : Int32 × am_m) (h : fn_X10_suffered a1 a2 m = some t) : am_Ex am_cod d 264 [.inr (.inr (some (10, 0))), .inl a1, .inl a2] (am_mk m) (some (.inl t.1)) (am_mk t.2) 0 0 := by
  obtain ⟨d, rfl⟩ : ∃ e, d = e + 1 := ⟨d - 1, by omega⟩
  have htb : am_tab 264 = at_264 := rfl
  refine ⟨Nat.le_of_ble_eq_true rfl, ?_⟩
  unfold fn_X10_suffered at h
  show am_Go d 264 (0, [some (.inr (.inr (some (10, 0)))), some (.inl a1), some (.inl a2), none, none], [], am_mk m) _ _ 0 0
  refine am_Go.n htb 4 (S' := (5, [some (.inr (.inr (some (10, 0)))), some (.inl a1), some (.inl a2), some (.inl 0), some (.inl 0)], [], am_mk m)) rfl ?_
  obtain ⟨q11, h12, h⟩ := am_bd h
  refine lt_X10_suffered_5 _ hd (h := h12) (hk := ?_)
  refine am_Go.n htb 1 (S' := (52, [some (.inr (.inr (some (10, 0)))), some (.inl a1), some (.inl a2), some (.inl q11.1), none], [.inl q11.1], am_mk q11.2)) rfl ?_
  cases h
  exact am_Go.r htb rfl
-- X10_seat
def lp_X10_seat_60 : Nat → Int32 → Int32 → Int32 → Int32 → Int32 → Int32 → am_m → Option (Int32 × am_m)
  | 0, _, _, _, _, _, _, _ => none
  | n + 1, x1, x2, x3, x4, x5, x6, m =>
  am_ck 0 5518 ((if (m.1 44 0 (0 : Int32).toNatClampNeg) ≤ x6 then some (x5, m) else (fn_X10_is x1 x4 m).bind fun r16 => (if r16 = 0 then some (x5, m) else (fn_X10_suffered x6 x1 m).bind fun r19 => (fn_X10_suffered x4 x1 r19.2).bind fun r21 => (if x6 = x4 then some 0 else (fn_X10_is x1 x6 r21.2).bind fun r24 => (if r24 = 0 then some 0 else (if 0 < (r19.1 - r21.1) then some 1 else (if (r19.1 - r21.1) ≠ 0 then some 0 else (if x4 ≤ x6 then some 0 else some 1))))).bind fun q30 => lp_X10_seat_60 n x1 x2 x3 x4 (x5 + q30) (x6 + 1) r21.2)))
set_option maxRecDepth 100000 in
theorem lt_X10_seat_60 (d : Nat) (hd : 8 ≤ d + 1) {r : Option am_V} {M' : am_M} {kc ks : Nat} {n : Nat} {x1 : Int32} {x2 : Int32} {x3 : Int32} {x4 : Int32} {x5 : Int32} {x6 : Int32} {m : am_m} {t : Int32 × am_m} (h : lp_X10_seat_60 n x1 x2 x3 x4 x5 x6 m = some t) (hk : am_Go d 265 (146, [some (.inr (.inr (some (10, 0)))), some (.inl x1), some (.inl x2), some (.inl x3), some (.inl x4), some (.inl t.1), none, none], [], am_mk t.2) r M' kc ks) : am_Go d 265 (60, [some (.inr (.inr (some (10, 0)))), some (.inl x1), some (.inl x2), some (.inl x3), some (.inl x4), some (.inl x5), some (.inl x6), none], [], am_mk m) r M' kc ks := by
  have htb : am_tab 265 = at_265 := rfl
  induction n generalizing x5 x6 m with
  | zero => cases h
  | succ n ih =>
    unfold lp_X10_seat_60 at h
    refine am_Go.n htb 4 (S' := (67, [some (.inr (.inr (some (10, 0)))), some (.inl x1), some (.inl x2), some (.inl x3), some (.inl x4), some (.inl x5), some (.inl x6), none], [.inl 0, .inr (.inr (some (44, 0))), .inl x6], am_mk m)) rfl ?_
    obtain ⟨hg14, h⟩ := am_ck_some h
    refine am_Go.c1 htb (S' := (68, [some (.inr (.inr (some (10, 0)))), some (.inl x1), some (.inl x2), some (.inl x3), some (.inl x4), some (.inl x5), some (.inl x6), none], [.inl (m.1 44 0 (0 : Int32).toNatClampNeg), .inl x6], am_mk m)) (if_neg hg14) ?_
    by_cases hc15 : (m.1 44 0 (0 : Int32).toNatClampNeg) ≤ x6
    · rw [if_pos hc15] at h
      refine am_Go.c1 htb (S' := (146, [some (.inr (.inr (some (10, 0)))), some (.inl x1), some (.inl x2), some (.inl x3), some (.inl x4), some (.inl x5), some (.inl x6), none], [], am_mk m)) (if_pos hc15) ?_
      cases h
      exact am_Go.fg (by exact ⟨rfl, ⟨rfl, ⟨rfl, ⟨rfl, ⟨rfl, ⟨rfl, trivial⟩⟩⟩⟩⟩⟩) hk
    · rw [if_neg hc15] at h
      refine am_Go.c1 htb (S' := (71, [some (.inr (.inr (some (10, 0)))), some (.inl x1), some (.inl x2), some (.inl x3), some (.inl x4), some (.inl x5), some (.inl x6), none], [], am_mk m)) (if_neg hc15) ?_
      refine am_Go.n htb 2 (S' := (74, [some (.inr (.inr (some (10, 0)))), some (.inl x1), some (.inl x2), some (.inl x3), some (.inl x4), some (.inl x5), some (.inl x6), none], [.inl x4, .inl x1], am_mk m)) rfl ?_
      obtain ⟨r16, h17, h⟩ := am_bd h
      refine am_Go.cl htb rfl (ex_X10_is d (by omega) x1 x4 m r16 h17) ?_
      show am_Go d 265 (77, [some (.inr (.inr (some (10, 0)))), some (.inl x1), some (.inl x2), some (.inl x3), some (.inl x4), some (.inl x5), some (.inl x6), none], [.inl r16], am_mk m) _ _ _ _
      by_cases hc18 : r16 = 0
      · rw [if_pos hc18] at h
        refine am_Go.c1 htb (S' := (146, [some (.inr (.inr (some (10, 0)))), some (.inl x1), some (.inl x2), some (.inl x3), some (.inl x4), some (.inl x5), some (.inl x6), none], [], am_mk m)) (if_pos hc18) ?_
        cases h
        exact am_Go.fg (by exact ⟨rfl, ⟨rfl, ⟨rfl, ⟨rfl, ⟨rfl, ⟨rfl, trivial⟩⟩⟩⟩⟩⟩) hk
      · rw [if_neg hc18] at h
        refine am_Go.c1 htb (S' := (80, [some (.inr (.inr (some (10, 0)))), some (.inl x1), some (.inl x2), some (.inl x3), some (.inl x4), some (.inl x5), some (.inl x6), none], [], am_mk m)) (if_neg hc18) ?_
        refine am_Go.n htb 3 (S' := (84, [some (.inr (.inr (some (10, 0)))), some (.inl x1), some (.inl x2), some (.inl x3), some (.inl x4), some (.inl x5), some (.inl x6), none], [.inl x1, .inl x6, .inr (.inr (some (10, 0)))], am_mk m)) rfl ?_
        obtain ⟨r19, h20, h⟩ := am_bd h
        refine am_Go.cl htb rfl (ex_X10_suffered d (by omega) x6 x1 m r19 h20) ?_
        show am_Go d 265 (87, [some (.inr (.inr (some (10, 0)))), some (.inl x1), some (.inl x2), some (.inl x3), some (.inl x4), some (.inl x5), some (.inl x6), none], [.inl r19.1], am_mk r19.2) _ _ _ _
        refine am_Go.n htb 3 (S' := (91, [some (.inr (.inr (some (10, 0)))), some (.inl x1), some (.inl x2), some (.inl x3), some (.inl x4), some (.inl x5), some (.inl x6), none], [.inl x1, .inl x4, .inr (.inr (some (10, 0))), .inl r19.1], am_mk r19.2)) rfl ?_
        obtain ⟨r21, h22, h⟩ := am_bd h
        refine am_Go.cl htb rfl (ex_X10_suffered d (by omega) x4 x1 r19.2 r21 h22) ?_
        show am_Go d 265 (94, [some (.inr (.inr (some (10, 0)))), some (.inl x1), some (.inl x2), some (.inl x3), some (.inl x4), some (.inl x5), some (.inl x6), none], [.inl r21.1, .inl r19.1], am_mk r21.2) _ _ _ _
        refine am_Go.n htb 5 (S' := (103, [some (.inr (.inr (some (10, 0)))), some (.inl x1), some (.inl x2), some (.inl x3), some (.inl x4), some (.inl x5), some (.inl x6), some (.inl (r19.1 - r21.1))], [.inl x4, .inl x6, .inl x5], am_mk r21.2)) rfl ?_
        obtain ⟨q30, h31, h⟩ := am_bd h
        refine am_Go.cut (S := (137, [some (.inr (.inr (some (10, 0)))), some (.inl x1), some (.inl x2), some (.inl x3), some (.inl x4), some (.inl x5), some (.inl x6), some (.inl (r19.1 - r21.1))], [.inl q30, .inl x5], am_mk r21.2)) ?_ (fun key => ?_)
        · refine am_Go.n htb 4 (S' := (60, [some (.inr (.inr (some (10, 0)))), some (.inl x1), some (.inl x2), some (.inl x3), some (.inl x4), some (.inl (x5 + q30)), some (.inl (x6 + 1)), some (.inl (r19.1 - r21.1))], [], am_mk r21.2)) rfl ?_
          refine am_Go.fg (L0 := [some (.inr (.inr (some (10, 0)))), some (.inl x1), some (.inl x2), some (.inl x3), some (.inl x4), some (.inl (x5 + q30)), some (.inl (x6 + 1)), none]) (by exact ⟨rfl, ⟨rfl, ⟨rfl, ⟨rfl, ⟨rfl, ⟨rfl, ⟨rfl, trivial⟩⟩⟩⟩⟩⟩⟩) ?_
          exact ih h hk
        · have h := h31
          by_cases hc23 : x6 = x4
          · rw [if_pos hc23] at h
            refine am_Go.c1 htb (S' := (136, [some (.inr (.inr (some (10, 0)))), some (.inl x1), some (.inl x2), some (.inl x3), some (.inl x4), some (.inl x5), some (.inl x6), some (.inl (r19.1 - r21.1))], [.inl x5], am_mk r21.2)) (if_pos hc23) ?_
            refine am_Go.n htb 1 (S' := (137, [some (.inr (.inr (some (10, 0)))), some (.inl x1), some (.inl x2), some (.inl x3), some (.inl x4), some (.inl x5), some (.inl x6), some (.inl (r19.1 - r21.1))], [.inl 0, .inl x5], am_mk r21.2)) rfl ?_
            cases h
            exact am_Go.fg (by exact ⟨rfl, ⟨rfl, ⟨rfl, ⟨rfl, ⟨rfl, ⟨rfl, ⟨rfl, ⟨rfl, trivial⟩⟩⟩⟩⟩⟩⟩⟩) key
          · rw [if_neg hc23] at h
            refine am_Go.c1 htb (S' := (106, [some (.inr (.inr (some (10, 0)))), some (.inl x1), some (.inl x2), some (.inl x3), some (.inl x4), some (.inl x5), some (.inl x6), some (.inl (r19.1 - r21.1))], [.inl x5], am_mk r21.2)) (if_neg hc23) ?_
            refine am_Go.n htb 2 (S' := (109, [some (.inr (.inr (some (10, 0)))), some (.inl x1), some (.inl x2), some (.inl x3), some (.inl x4), some (.inl x5), some (.inl x6), some (.inl (r19.1 - r21.1))], [.inl x6, .inl x1, .inl x5], am_mk r21.2)) rfl ?_
            obtain ⟨r24, h25, h⟩ := am_bd h
            refine am_Go.cl htb rfl (ex_X10_is d (by omega) x1 x6 r21.2 r24 h25) ?_
            show am_Go d 265 (112, [some (.inr (.inr (some (10, 0)))), some (.inl x1), some (.inl x2), some (.inl x3), some (.inl x4), some (.inl x5), some (.inl x6), some (.inl (r19.1 - r21.1))], [.inl r24, .inl x5], am_mk r21.2) _ _ _ _
            by_cases hc26 : r24 = 0
            · rw [if_pos hc26] at h
              refine am_Go.c1 htb (S' := (136, [some (.inr (.inr (some (10, 0)))), some (.inl x1), some (.inl x2), some (.inl x3), some (.inl x4), some (.inl x5), some (.inl x6), some (.inl (r19.1 - r21.1))], [.inl x5], am_mk r21.2)) (if_pos hc26) ?_
              refine am_Go.n htb 1 (S' := (137, [some (.inr (.inr (some (10, 0)))), some (.inl x1), some (.inl x2), some (.inl x3), some (.inl x4), some (.inl x5), some (.inl x6), some (.inl (r19.1 - r21.1))], [.inl 0, .inl x5], am_mk r21.2)) rfl ?_
              cases h
              exact am_Go.fg (by exact ⟨rfl, ⟨rfl, ⟨rfl, ⟨rfl, ⟨rfl, ⟨rfl, ⟨rfl, ⟨rfl, trivial⟩⟩⟩⟩⟩⟩⟩⟩) key
            · rw [if_neg hc26] at h
              refine am_Go.c1 htb (S' := (115, [some (.inr (.inr (some (10, 0)))), some (.inl x1), some (.inl x2), some (.inl x3), some (.inl x4), some (.inl x5), some (.inl x6), some (.inl (r19.1 - r21.1))], [.inl x5], am_mk r21.2)) (if_neg hc26) ?_
              refine am_Go.n htb 1 (S' := (117, [some (.inr (.inr (some (10, 0)))), some (.inl x1), some (.inl x2), some (.inl x3), some (.inl x4), some (.inl x5), some (.inl x6), some (.inl (r19.1 - r21.1))], [.inl (r19.1 - r21.1), .inl x5], am_mk r21.2)) rfl ?_
              by_cases hc27 : 0 < (r19.1 - r21.1)
              · rw [if_pos hc27] at h
                refine am_Go.c1 htb (S' := (132, [some (.inr (.inr (some (10, 0)))), some (.inl x1), some (.inl x2), some (.inl x3), some (.inl x4), some (.inl x5), some (.inl x6), some (.inl (r19.1 - r21.1))], [.inl x5], am_mk r21.2)) (if_pos hc27) ?_
                refine am_Go.n htb 2 (S' := (137, [some (.inr (.inr (some (10, 0)))), some (.inl x1), some (.inl x2), some (.inl x3), some (.inl x4), some (.inl x5), some (.inl x6), some (.inl (r19.1 - r21.1))], [.inl 1, .inl x5], am_mk r21.2)) rfl ?_
                cases h
                exact am_Go.fg (by exact ⟨rfl, ⟨rfl, ⟨rfl, ⟨rfl, ⟨rfl, ⟨rfl, ⟨rfl, ⟨rfl, trivial⟩⟩⟩⟩⟩⟩⟩⟩) key
              · rw [if_neg hc27] at h
                refine am_Go.c1 htb (S' := (120, [some (.inr (.inr (some (10, 0)))), some (.inl x1), some (.inl x2), some (.inl x3), some (.inl x4), some (.inl x5), some (.inl x6), some (.inl (r19.1 - r21.1))], [.inl x5], am_mk r21.2)) (if_neg hc27) ?_
                refine am_Go.n htb 1 (S' := (122, [some (.inr (.inr (some (10, 0)))), some (.inl x1), some (.inl x2), some (.inl x3), some (.inl x4), some (.inl x5), some (.inl x6), some (.inl (r19.1 - r21.1))], [.inl (r19.1 - r21.1), .inl x5], am_mk r21.2)) rfl ?_
                by_cases hc28 : (r19.1 - r21.1) ≠ 0
                · rw [if_pos hc28] at h
                  refine am_Go.c1 htb (S' := (136, [some (.inr (.inr (some (10, 0)))), some (.inl x1), some (.inl x2), some (.inl x3), some (.inl x4), some (.inl x5), some (.inl x6), some (.inl (r19.1 - r21.1))], [.inl x5], am_mk r21.2)) (if_pos hc28) ?_
                  refine am_Go.n htb 1 (S' := (137, [some (.inr (.inr (some (10, 0)))), some (.inl x1), some (.inl x2), some (.inl x3), some (.inl x4), some (.inl x5), some (.inl x6), some (.inl (r19.1 - r21.1))], [.inl 0, .inl x5], am_mk r21.2)) rfl ?_
                  cases h
                  exact am_Go.fg (by exact ⟨rfl, ⟨rfl, ⟨rfl, ⟨rfl, ⟨rfl, ⟨rfl, ⟨rfl, ⟨rfl, trivial⟩⟩⟩⟩⟩⟩⟩⟩) key
                · rw [if_neg hc28] at h
                  refine am_Go.c1 htb (S' := (125, [some (.inr (.inr (some (10, 0)))), some (.inl x1), some (.inl x2), some (.inl x3), some (.inl x4), some (.inl x5), some (.inl x6), some (.inl (r19.1 - r21.1))], [.inl x5], am_mk r21.2)) (if_neg hc28) ?_
                  refine am_Go.n htb 2 (S' := (129, [some (.inr (.inr (some (10, 0)))), some (.inl x1), some (.inl x2), some (.inl x3), some (.inl x4), some (.inl x5), some (.inl x6), some (.inl (r19.1 - r21.1))], [.inl x4, .inl x6, .inl x5], am_mk r21.2)) rfl ?_
                  by_cases hc29 : x4 ≤ x6
                  · rw [if_pos hc29] at h
                    refine am_Go.c1 htb (S' := (136, [some (.inr (.inr (some (10, 0)))), some (.inl x1), some (.inl x2), some (.inl x3), some (.inl x4), some (.inl x5), some (.inl x6), some (.inl (r19.1 - r21.1))], [.inl x5], am_mk r21.2)) (if_pos hc29) ?_
                    refine am_Go.n htb 1 (S' := (137, [some (.inr (.inr (some (10, 0)))), some (.inl x1), some (.inl x2), some (.inl x3), some (.inl x4), some (.inl x5), some (.inl x6), some (.inl (r19.1 - r21.1))], [.inl 0, .inl x5], am_mk r21.2)) rfl ?_
                    cases h
                    exact am_Go.fg (by exact ⟨rfl, ⟨rfl, ⟨rfl, ⟨rfl, ⟨rfl, ⟨rfl, ⟨rfl, ⟨rfl, trivial⟩⟩⟩⟩⟩⟩⟩⟩) key
                  · rw [if_neg hc29] at h
                    refine am_Go.c1 htb (S' := (132, [some (.inr (.inr (some (10, 0)))), some (.inl x1), some (.inl x2), some (.inl x3), some (.inl x4), some (.inl x5), some (.inl x6), some (.inl (r19.1 - r21.1))], [.inl x5], am_mk r21.2)) (if_neg hc29) ?_
                    refine am_Go.n htb 2 (S' := (137, [some (.inr (.inr (some (10, 0)))), some (.inl x1), some (.inl x2), some (.inl x3), some (.inl x4), some (.inl x5), some (.inl x6), some (.inl (r19.1 - r21.1))], [.inl 1, .inl x5], am_mk r21.2)) rfl ?_
                    cases h
                    exact am_Go.fg (by exact ⟨rfl, ⟨rfl, ⟨rfl, ⟨rfl, ⟨rfl, ⟨rfl, ⟨rfl, ⟨rfl, trivial⟩⟩⟩⟩⟩⟩⟩⟩) key
def lp_X10_seat_43 : Nat → Int32 → Int32 → Int32 → Int32 → am_m → Option (Int32 × am_m)
  | 0, _, _, _, _, _ => none
  | n + 1, x1, x2, x3, x4, m =>
  am_ck 0 5518 ((if (m.1 44 0 (0 : Int32).toNatClampNeg) ≤ x4 then some (x3, m) else (lp_X10_seat_60 1000000 x1 x2 x3 x4 0 0 m).bind fun q32 => (fn_X10_is x1 x4 q32.2).bind fun r34 => (if r34 = 0 then some x3 else (if q32.1 ≠ x2 then some x3 else some x4)).bind fun q38 => lp_X10_seat_43 n x1 x2 q38 (x4 + 1) q32.2))
set_option maxRecDepth 100000 in
theorem lt_X10_seat_43 (d : Nat) (hd : 8 ≤ d + 1) {r : Option am_V} {M' : am_M} {kc ks : Nat} {n : Nat} {x1 : Int32} {x2 : Int32} {x3 : Int32} {x4 : Int32} {m : am_m} {t : Int32 × am_m} (h : lp_X10_seat_43 n x1 x2 x3 x4 m = some t) (hk : am_Go d 265 (174, [some (.inr (.inr (some (10, 0)))), some (.inl x1), some (.inl x2), some (.inl t.1), none, none, none, none], [], am_mk t.2) r M' kc ks) : am_Go d 265 (43, [some (.inr (.inr (some (10, 0)))), some (.inl x1), some (.inl x2), some (.inl x3), some (.inl x4), none, none, none], [], am_mk m) r M' kc ks := by
  have htb : am_tab 265 = at_265 := rfl
  induction n generalizing x3 x4 m with
  | zero => cases h
  | succ n ih =>
    unfold lp_X10_seat_43 at h
    refine am_Go.n htb 4 (S' := (50, [some (.inr (.inr (some (10, 0)))), some (.inl x1), some (.inl x2), some (.inl x3), some (.inl x4), none, none, none], [.inl 0, .inr (.inr (some (44, 0))), .inl x4], am_mk m)) rfl ?_
    obtain ⟨hg12, h⟩ := am_ck_some h
    refine am_Go.c1 htb (S' := (51, [some (.inr (.inr (some (10, 0)))), some (.inl x1), some (.inl x2), some (.inl x3), some (.inl x4), none, none, none], [.inl (m.1 44 0 (0 : Int32).toNatClampNeg), .inl x4], am_mk m)) (if_neg hg12) ?_
    by_cases hc13 : (m.1 44 0 (0 : Int32).toNatClampNeg) ≤ x4
    · rw [if_pos hc13] at h
      refine am_Go.c1 htb (S' := (174, [some (.inr (.inr (some (10, 0)))), some (.inl x1), some (.inl x2), some (.inl x3), some (.inl x4), none, none, none], [], am_mk m)) (if_pos hc13) ?_
      cases h
      exact am_Go.fg (by exact ⟨rfl, ⟨rfl, ⟨rfl, ⟨rfl, trivial⟩⟩⟩⟩) hk
    · rw [if_neg hc13] at h
      refine am_Go.c1 htb (S' := (54, [some (.inr (.inr (some (10, 0)))), some (.inl x1), some (.inl x2), some (.inl x3), some (.inl x4), none, none, none], [], am_mk m)) (if_neg hc13) ?_
      refine am_Go.n htb 4 (S' := (60, [some (.inr (.inr (some (10, 0)))), some (.inl x1), some (.inl x2), some (.inl x3), some (.inl x4), some (.inl 0), some (.inl 0), none], [], am_mk m)) rfl ?_
      obtain ⟨q32, h33, h⟩ := am_bd h
      refine lt_X10_seat_60 _ hd (h := h33) (hk := ?_)
      refine am_Go.n htb 2 (S' := (149, [some (.inr (.inr (some (10, 0)))), some (.inl x1), some (.inl x2), some (.inl x3), some (.inl x4), some (.inl q32.1), none, none], [.inl x4, .inl x1], am_mk q32.2)) rfl ?_
      obtain ⟨r34, h35, h⟩ := am_bd h
      refine am_Go.cl htb rfl (ex_X10_is d (by omega) x1 x4 q32.2 r34 h35) ?_
      show am_Go d 265 (152, [some (.inr (.inr (some (10, 0)))), some (.inl x1), some (.inl x2), some (.inl x3), some (.inl x4), some (.inl q32.1), none, none], [.inl r34], am_mk q32.2) _ _ _ _
      obtain ⟨q38, h39, h⟩ := am_bd h
      refine am_Go.cut (S := (167, [some (.inr (.inr (some (10, 0)))), some (.inl x1), some (.inl x2), some (.inl x3), some (.inl x4), some (.inl q32.1), none, none], [.inl q38], am_mk q32.2)) ?_ (fun key => ?_)
      · refine am_Go.n htb 3 (S' := (43, [some (.inr (.inr (some (10, 0)))), some (.inl x1), some (.inl x2), some (.inl q38), some (.inl (x4 + 1)), some (.inl q32.1), none, none], [], am_mk q32.2)) rfl ?_
        refine am_Go.fg (L0 := [some (.inr (.inr (some (10, 0)))), some (.inl x1), some (.inl x2), some (.inl q38), some (.inl (x4 + 1)), none, none, none]) (by exact ⟨rfl, ⟨rfl, ⟨rfl, ⟨rfl, ⟨rfl, trivial⟩⟩⟩⟩⟩) ?_
        exact ih h hk
      · have h := h39
        by_cases hc36 : r34 = 0
        · rw [if_pos hc36] at h
          refine am_Go.c1 htb (S' := (166, [some (.inr (.inr (some (10, 0)))), some (.inl x1), some (.inl x2), some (.inl x3), some (.inl x4), some (.inl q32.1), none, none], [], am_mk q32.2)) (if_pos hc36) ?_
          refine am_Go.n htb 1 (S' := (167, [some (.inr (.inr (some (10, 0)))), some (.inl x1), some (.inl x2), some (.inl x3), some (.inl x4), some (.inl q32.1), none, none], [.inl x3], am_mk q32.2)) rfl ?_
          cases h
          exact am_Go.fg (by exact ⟨rfl, ⟨rfl, ⟨rfl, ⟨rfl, ⟨rfl, ⟨rfl, trivial⟩⟩⟩⟩⟩⟩) key
        · rw [if_neg hc36] at h
          refine am_Go.c1 htb (S' := (155, [some (.inr (.inr (some (10, 0)))), some (.inl x1), some (.inl x2), some (.inl x3), some (.inl x4), some (.inl q32.1), none, none], [], am_mk q32.2)) (if_neg hc36) ?_
          refine am_Go.n htb 2 (S' := (158, [some (.inr (.inr (some (10, 0)))), some (.inl x1), some (.inl x2), some (.inl x3), some (.inl x4), some (.inl q32.1), none, none], [.inl x2, .inl q32.1], am_mk q32.2)) rfl ?_
          by_cases hc37 : q32.1 ≠ x2
          · rw [if_pos hc37] at h
            refine am_Go.c1 htb (S' := (166, [some (.inr (.inr (some (10, 0)))), some (.inl x1), some (.inl x2), some (.inl x3), some (.inl x4), some (.inl q32.1), none, none], [], am_mk q32.2)) (if_pos hc37) ?_
            refine am_Go.n htb 1 (S' := (167, [some (.inr (.inr (some (10, 0)))), some (.inl x1), some (.inl x2), some (.inl x3), some (.inl x4), some (.inl q32.1), none, none], [.inl x3], am_mk q32.2)) rfl ?_
            cases h
            exact am_Go.fg (by exact ⟨rfl, ⟨rfl, ⟨rfl, ⟨rfl, ⟨rfl, ⟨rfl, trivial⟩⟩⟩⟩⟩⟩) key
          · rw [if_neg hc37] at h
            refine am_Go.c1 htb (S' := (161, [some (.inr (.inr (some (10, 0)))), some (.inl x1), some (.inl x2), some (.inl x3), some (.inl x4), some (.inl q32.1), none, none], [], am_mk q32.2)) (if_neg hc37) ?_
            refine am_Go.n htb 2 (S' := (167, [some (.inr (.inr (some (10, 0)))), some (.inl x1), some (.inl x2), some (.inl x3), some (.inl x4), some (.inl q32.1), none, none], [.inl x4], am_mk q32.2)) rfl ?_
            cases h
            exact am_Go.fg (by exact ⟨rfl, ⟨rfl, ⟨rfl, ⟨rfl, ⟨rfl, ⟨rfl, trivial⟩⟩⟩⟩⟩⟩) key
def fn_X10_seat (a1 : Int32) (a2 : Int32) (m : am_m) : Option (Int32 × am_m) :=
  (fn_X10_isSet a1 (am_si m 10 0 0 0)).bind fun r1 => (if r1 = 0 then some ((-1), am_si m 10 0 0 0) else (fn_X10_areThere a1 (am_si m 10 0 0 0)).bind fun r4 => (if r4 = 0 then some ((-1), am_si m 10 0 0 0) else (fn_X10_ones a1 (am_si m 10 0 0 0)).bind fun r7 => (fn_X10_in a2.toInt64 0 (r7.toInt64 - (1 : Int64)) (am_si m 10 0 0 0)).bind fun r9 => (if r9 ≠ 0 then (lp_X10_seat_43 1000000 a1 a2 (-1) 0 (am_si m 10 0 0 0)).bind fun q40 => some (q40.1, q40.2) else some ((-1), am_si m 10 0 0 0))))
set_option maxRecDepth 100000 in
theorem ex_X10_seat (d : Nat) (hd : 8 ≤ d) (a1 : Int32) (a2 : Int32) (m : am_m) (t : Int32 × am_m) (h : fn_X10_seat a1 a2 m = some t) : am_Ex am_cod d 265 [.inr (.inr (some (10, 0))), .inl a1, .inl a2] (am_mk m) (some (.inl t.1)) (am_mk t.2) 0 0 := by
  obtain ⟨d, rfl⟩ : ∃ e, d = e + 1 := ⟨d - 1, by omega⟩
  have htb : am_tab 265 = at_265 := rfl
  refine ⟨Nat.le_of_ble_eq_true rfl, ?_⟩
  unfold fn_X10_seat at h
  show am_Go d 265 (0, [some (.inr (.inr (some (10, 0)))), some (.inl a1), some (.inl a2), none, none, none, none, none], [], am_mk m) _ _ 0 0
  refine am_Go.n htb 4 (S' := (6, [some (.inr (.inr (some (10, 0)))), some (.inl a1), some (.inl a2), none, none, none, none, none], [.inl a1], am_mk (am_si m 10 0 0 0))) rfl ?_
  obtain ⟨r1, h2, h⟩ := am_bd h
  refine am_Go.cl htb rfl (ex_X10_isSet d (by omega) a1 (am_si m 10 0 0 0) r1 h2) ?_
  show am_Go d 265 (9, [some (.inr (.inr (some (10, 0)))), some (.inl a1), some (.inl a2), none, none, none, none, none], [.inl r1], am_mk (am_si m 10 0 0 0)) _ _ _ _
  by_cases hc3 : r1 = 0
  · rw [if_pos hc3] at h
    refine am_Go.c1 htb (S' := (36, [some (.inr (.inr (some (10, 0)))), some (.inl a1), some (.inl a2), none, none, none, none, none], [], am_mk (am_si m 10 0 0 0))) (if_pos hc3) ?_
    refine am_Go.n htb 1 (S' := (37, [some (.inr (.inr (some (10, 0)))), some (.inl a1), some (.inl a2), none, none, none, none, none], [.inl (-1)], am_mk (am_si m 10 0 0 0))) rfl ?_
    cases h
    exact am_Go.r htb rfl
  · rw [if_neg hc3] at h
    refine am_Go.c1 htb (S' := (12, [some (.inr (.inr (some (10, 0)))), some (.inl a1), some (.inl a2), none, none, none, none, none], [], am_mk (am_si m 10 0 0 0))) (if_neg hc3) ?_
    refine am_Go.n htb 2 (S' := (14, [some (.inr (.inr (some (10, 0)))), some (.inl a1), some (.inl a2), none, none, none, none, none], [.inl a1, .inr (.inr (some (10, 0)))], am_mk (am_si m 10 0 0 0))) rfl ?_
    obtain ⟨r4, h5, h⟩ := am_bd h
    refine am_Go.cl htb rfl (ex_X10_areThere d (by omega) a1 (am_si m 10 0 0 0) r4 h5) ?_
    show am_Go d 265 (17, [some (.inr (.inr (some (10, 0)))), some (.inl a1), some (.inl a2), none, none, none, none, none], [.inl r4], am_mk (am_si m 10 0 0 0)) _ _ _ _
    by_cases hc6 : r4 = 0
    · rw [if_pos hc6] at h
      refine am_Go.c1 htb (S' := (36, [some (.inr (.inr (some (10, 0)))), some (.inl a1), some (.inl a2), none, none, none, none, none], [], am_mk (am_si m 10 0 0 0))) (if_pos hc6) ?_
      refine am_Go.n htb 1 (S' := (37, [some (.inr (.inr (some (10, 0)))), some (.inl a1), some (.inl a2), none, none, none, none, none], [.inl (-1)], am_mk (am_si m 10 0 0 0))) rfl ?_
      cases h
      exact am_Go.r htb rfl
    · rw [if_neg hc6] at h
      refine am_Go.c1 htb (S' := (20, [some (.inr (.inr (some (10, 0)))), some (.inl a1), some (.inl a2), none, none, none, none, none], [], am_mk (am_si m 10 0 0 0))) (if_neg hc6) ?_
      refine am_Go.n htb 4 (S' := (24, [some (.inr (.inr (some (10, 0)))), some (.inl a1), some (.inl a2), none, none, none, none, none], [.inl a1, .inr (.inl 0), .inr (.inl a2.toInt64)], am_mk (am_si m 10 0 0 0))) rfl ?_
      obtain ⟨r7, h8, h⟩ := am_bd h
      refine am_Go.cl htb rfl (ex_X10_ones d (by omega) a1 (am_si m 10 0 0 0) r7 h8) ?_
      show am_Go d 265 (27, [some (.inr (.inr (some (10, 0)))), some (.inl a1), some (.inl a2), none, none, none, none, none], [.inl r7, .inr (.inl 0), .inr (.inl a2.toInt64)], am_mk (am_si m 10 0 0 0)) _ _ _ _
      refine am_Go.n htb 3 (S' := (30, [some (.inr (.inr (some (10, 0)))), some (.inl a1), some (.inl a2), none, none, none, none, none], [.inr (.inl (r7.toInt64 - (1 : Int64))), .inr (.inl 0), .inr (.inl a2.toInt64)], am_mk (am_si m 10 0 0 0))) rfl ?_
      obtain ⟨r9, h10, h⟩ := am_bd h
      refine am_Go.cl htb rfl (ex_X10_in d (by omega) a2.toInt64 0 (r7.toInt64 - (1 : Int64)) (am_si m 10 0 0 0) r9 h10) ?_
      show am_Go d 265 (33, [some (.inr (.inr (some (10, 0)))), some (.inl a1), some (.inl a2), none, none, none, none, none], [.inl r9], am_mk (am_si m 10 0 0 0)) _ _ _ _
      by_cases hc11 : r9 ≠ 0
      · rw [if_pos hc11] at h
        refine am_Go.c1 htb (S' := (38, [some (.inr (.inr (some (10, 0)))), some (.inl a1), some (.inl a2), none, none, none, none, none], [], am_mk (am_si m 10 0 0 0))) (if_pos hc11) ?_
        refine am_Go.n htb 4 (S' := (43, [some (.inr (.inr (some (10, 0)))), some (.inl a1), some (.inl a2), some (.inl (-1)), some (.inl 0), none, none, none], [], am_mk (am_si m 10 0 0 0))) rfl ?_
        obtain ⟨q40, h41, h⟩ := am_bd h
        refine lt_X10_seat_43 _ hd (h := h41) (hk := ?_)
        refine am_Go.n htb 1 (S' := (175, [some (.inr (.inr (some (10, 0)))), some (.inl a1), some (.inl a2), some (.inl q40.1), none, none, none, none], [.inl q40.1], am_mk q40.2)) rfl ?_
        cases h
        exact am_Go.r htb rfl
      · rw [if_neg hc11] at h
        refine am_Go.c1 htb (S' := (36, [some (.inr (.inr (some (10, 0)))), some (.inl a1), some (.inl a2), none, none, none, none, none], [], am_mk (am_si m 10 0 0 0))) (if_neg hc11) ?_
        refine am_Go.n htb 1 (S' := (37, [some (.inr (.inr (some (10, 0)))), some (.inl a1), some (.inl a2), none, none, none, none, none], [.inl (-1)], am_mk (am_si m 10 0 0 0))) rfl ?_
        cases h
        exact am_Go.r htb rfl
-- X10_layFar
def lp_X10_layFar_2 : Nat → Int32 → Int32 → am_m → Option (am_m)
  | 0, _, _, _ => none
  | n + 1, x1, x2, m =>
  am_ck 0 5518 ((if (m.1 44 0 (0 : Int32).toNatClampNeg) ≤ x2 then some m else am_ck x2 7 (lp_X10_layFar_2 n x1 (x2 + 1) (am_si m 59 0 x2.toNatClampNeg (if x2 ≠ x1 then (100000000 : Int32) else (0 : Int32))))))
set_option maxRecDepth 100000 in
theorem lt_X10_layFar_2 (d : Nat) (hd : 1 ≤ d + 1) {r : Option am_V} {M' : am_M} {kc ks : Nat} {n : Nat} {x1 : Int32} {x2 : Int32} {m : am_m} {t : am_m} (h : lp_X10_layFar_2 n x1 x2 m = some t) (hk : am_Go d 266 (36, [some (.inr (.inr (some (10, 0)))), some (.inl x1), none, none, none], [], am_mk t) r M' kc ks) : am_Go d 266 (2, [some (.inr (.inr (some (10, 0)))), some (.inl x1), some (.inl x2), none, none], [], am_mk m) r M' kc ks := by
  have htb : am_tab 266 = at_266 := rfl
  induction n generalizing x2 m with
  | zero => cases h
  | succ n ih =>
    unfold lp_X10_layFar_2 at h
    refine am_Go.n htb 4 (S' := (8, [some (.inr (.inr (some (10, 0)))), some (.inl x1), some (.inl x2), none, none], [.inl 0, .inr (.inr (some (44, 0))), .inl x2], am_mk m)) rfl ?_
    obtain ⟨hg1, h⟩ := am_ck_some h
    refine am_Go.c1 htb (S' := (9, [some (.inr (.inr (some (10, 0)))), some (.inl x1), some (.inl x2), none, none], [.inl (m.1 44 0 (0 : Int32).toNatClampNeg), .inl x2], am_mk m)) (if_neg hg1) ?_
    by_cases hc2 : (m.1 44 0 (0 : Int32).toNatClampNeg) ≤ x2
    · rw [if_pos hc2] at h
      refine am_Go.c1 htb (S' := (36, [some (.inr (.inr (some (10, 0)))), some (.inl x1), some (.inl x2), none, none], [], am_mk m)) (if_pos hc2) ?_
      cases h
      exact am_Go.fg (by exact ⟨rfl, ⟨rfl, trivial⟩⟩) hk
    · rw [if_neg hc2] at h
      refine am_Go.c1 htb (S' := (12, [some (.inr (.inr (some (10, 0)))), some (.inl x1), some (.inl x2), none, none], [], am_mk m)) (if_neg hc2) ?_
      refine am_Go.n htb 5 (S' := (19, [some (.inr (.inr (some (10, 0)))), some (.inl x1), some (.inl x2), none, none], [.inl x1, .inl x2, .inl x2, .inr (.inr (some (59, 0)))], am_mk m)) rfl ?_
      refine am_Go.cut (S := (29, [some (.inr (.inr (some (10, 0)))), some (.inl x1), some (.inl x2), none, none], [.inl (if x2 ≠ x1 then (100000000 : Int32) else (0 : Int32)), .inl x2, .inr (.inr (some (59, 0)))], am_mk m)) ?_ (fun key => ?_)
      · obtain ⟨hg4, h⟩ := am_ck_some h
        refine am_Go.c1 htb (S' := (30, [some (.inr (.inr (some (10, 0)))), some (.inl x1), some (.inl x2), none, none], [], am_mk (am_si m 59 0 x2.toNatClampNeg (if x2 ≠ x1 then (100000000 : Int32) else (0 : Int32))))) (if_neg hg4) ?_
        refine am_Go.n htb 2 (S' := (2, [some (.inr (.inr (some (10, 0)))), some (.inl x1), some (.inl (x2 + 1)), none, none], [], am_mk (am_si m 59 0 x2.toNatClampNeg (if x2 ≠ x1 then (100000000 : Int32) else (0 : Int32))))) rfl ?_
        exact ih h hk
      · by_cases hc3 : x2 ≠ x1
        · refine am_Go.c1 htb (S' := (26, [some (.inr (.inr (some (10, 0)))), some (.inl x1), some (.inl x2), none, none], [.inl x2, .inr (.inr (some (59, 0)))], am_mk m)) (if_pos hc3) ?_
          refine am_Go.n htb 1 (S' := (29, [some (.inr (.inr (some (10, 0)))), some (.inl x1), some (.inl x2), none, none], [.inl 100000000, .inl x2, .inr (.inr (some (59, 0)))], am_mk m)) rfl ?_
          simp only [if_pos hc3] at key
          exact am_Go.fg (by exact ⟨rfl, ⟨rfl, ⟨rfl, trivial⟩⟩⟩) key
        · refine am_Go.c1 htb (S' := (22, [some (.inr (.inr (some (10, 0)))), some (.inl x1), some (.inl x2), none, none], [.inl x2, .inr (.inr (some (59, 0)))], am_mk m)) (if_neg hc3) ?_
          refine am_Go.n htb 2 (S' := (29, [some (.inr (.inr (some (10, 0)))), some (.inl x1), some (.inl x2), none, none], [.inl 0, .inl x2, .inr (.inr (some (59, 0)))], am_mk m)) rfl ?_
          simp only [if_neg hc3] at key
          exact am_Go.fg (by exact ⟨rfl, ⟨rfl, ⟨rfl, trivial⟩⟩⟩) key
def lp_X10_layFar_59 : Nat → Int32 → Int32 → Int32 → am_m → Option (am_m)
  | 0, _, _, _, _ => none
  | n + 1, x2, x3, x4, m =>
  am_ck 0 5518 ((if (m.1 44 0 (0 : Int32).toNatClampNeg) ≤ x4 then some m else am_ck (((7 : Int32) * x3) + x4) 49 ((if (m.1 92 0 (((7 : Int32) * x3) + x4).toNatClampNeg) = 0 then am_ck x3 7 (some (m.1 59 0 x3.toNatClampNeg)) else am_ck x4 7 (am_ck x3 7 ((if (m.1 59 0 x3.toNatClampNeg) ≤ ((m.1 59 0 x4.toNatClampNeg) + (1 : Int32)) then am_ck x3 7 (some (m.1 59 0 x3.toNatClampNeg)) else am_ck x4 7 (some ((m.1 59 0 x4.toNatClampNeg) + (1 : Int32))))))).bind fun q20 => am_ck x3 7 (lp_X10_layFar_59 n x2 x3 (x4 + 1) (am_si m 59 0 x3.toNatClampNeg q20)))))
set_option maxRecDepth 100000 in
theorem lt_X10_layFar_59 (d : Nat) (hd : 1 ≤ d + 1) {r : Option am_V} {M' : am_M} {kc ks : Nat} {n : Nat} {x2 : Int32} {x3 : Int32} {x4 : Int32} {m : am_m} {t : am_m} (h : lp_X10_layFar_59 n x2 x3 x4 m = some t) (hk : am_Go d 266 (133, [some (.inr (.inr (some (10, 0)))), none, some (.inl x2), some (.inl x3), none], [], am_mk t) r M' kc ks) : am_Go d 266 (59, [some (.inr (.inr (some (10, 0)))), none, some (.inl x2), some (.inl x3), some (.inl x4)], [], am_mk m) r M' kc ks := by
  have htb : am_tab 266 = at_266 := rfl
  induction n generalizing x4 m with
  | zero => cases h
  | succ n ih =>
    unfold lp_X10_layFar_59 at h
    refine am_Go.n htb 4 (S' := (66, [some (.inr (.inr (some (10, 0)))), none, some (.inl x2), some (.inl x3), some (.inl x4)], [.inl 0, .inr (.inr (some (44, 0))), .inl x4], am_mk m)) rfl ?_
    obtain ⟨hg10, h⟩ := am_ck_some h
    refine am_Go.c1 htb (S' := (67, [some (.inr (.inr (some (10, 0)))), none, some (.inl x2), some (.inl x3), some (.inl x4)], [.inl (m.1 44 0 (0 : Int32).toNatClampNeg), .inl x4], am_mk m)) (if_neg hg10) ?_
    by_cases hc11 : (m.1 44 0 (0 : Int32).toNatClampNeg) ≤ x4
    · rw [if_pos hc11] at h
      refine am_Go.c1 htb (S' := (133, [some (.inr (.inr (some (10, 0)))), none, some (.inl x2), some (.inl x3), some (.inl x4)], [], am_mk m)) (if_pos hc11) ?_
      cases h
      exact am_Go.fg (by exact ⟨rfl, ⟨rfl, ⟨rfl, trivial⟩⟩⟩) hk
    · rw [if_neg hc11] at h
      refine am_Go.c1 htb (S' := (70, [some (.inr (.inr (some (10, 0)))), none, some (.inl x2), some (.inl x3), some (.inl x4)], [], am_mk m)) (if_neg hc11) ?_
      refine am_Go.n htb 10 (S' := (86, [some (.inr (.inr (some (10, 0)))), none, some (.inl x2), some (.inl x3), some (.inl x4)], [.inl (((7 : Int32) * x3) + x4), .inr (.inr (some (92, 0))), .inl x3, .inr (.inr (some (59, 0)))], am_mk m)) rfl ?_
      obtain ⟨hg12, h⟩ := am_ck_some h
      refine am_Go.c1 htb (S' := (87, [some (.inr (.inr (some (10, 0)))), none, some (.inl x2), some (.inl x3), some (.inl x4)], [.inl (m.1 92 0 (((7 : Int32) * x3) + x4).toNatClampNeg), .inl x3, .inr (.inr (some (59, 0)))], am_mk m)) (if_neg hg12) ?_
      obtain ⟨q20, h22, h⟩ := am_bd h
      refine am_Go.cut (S := (126, [some (.inr (.inr (some (10, 0)))), none, some (.inl x2), some (.inl x3), some (.inl x4)], [.inl q20, .inl x3, .inr (.inr (some (59, 0)))], am_mk m)) ?_ (fun key => ?_)
      · obtain ⟨hg21, h⟩ := am_ck_some h
        refine am_Go.c1 htb (S' := (127, [some (.inr (.inr (some (10, 0)))), none, some (.inl x2), some (.inl x3), some (.inl x4)], [], am_mk (am_si m 59 0 x3.toNatClampNeg q20))) (if_neg hg21) ?_
        refine am_Go.n htb 2 (S' := (59, [some (.inr (.inr (some (10, 0)))), none, some (.inl x2), some (.inl x3), some (.inl (x4 + 1))], [], am_mk (am_si m 59 0 x3.toNatClampNeg q20))) rfl ?_
        exact ih h hk
      · have h := h22
        by_cases hc13 : (m.1 92 0 (((7 : Int32) * x3) + x4).toNatClampNeg) = 0
        · rw [if_pos hc13] at h
          refine am_Go.c1 htb (S' := (120, [some (.inr (.inr (some (10, 0)))), none, some (.inl x2), some (.inl x3), some (.inl x4)], [.inl x3, .inr (.inr (some (59, 0)))], am_mk m)) (if_pos hc13) ?_
          refine am_Go.n htb 3 (S' := (125, [some (.inr (.inr (some (10, 0)))), none, some (.inl x2), some (.inl x3), some (.inl x4)], [.inl x3, .inr (.inr (some (59, 0))), .inl x3, .inr (.inr (some (59, 0)))], am_mk m)) rfl ?_
          obtain ⟨hg14, h⟩ := am_ck_some h
          refine am_Go.c1 htb (S' := (126, [some (.inr (.inr (some (10, 0)))), none, some (.inl x2), some (.inl x3), some (.inl x4)], [.inl (m.1 59 0 x3.toNatClampNeg), .inl x3, .inr (.inr (some (59, 0)))], am_mk m)) (if_neg hg14) ?_
          cases h
          exact am_Go.fg (by exact ⟨rfl, ⟨rfl, ⟨rfl, ⟨rfl, trivial⟩⟩⟩⟩) key
        · rw [if_neg hc13] at h
          refine am_Go.c1 htb (S' := (90, [some (.inr (.inr (some (10, 0)))), none, some (.inl x2), some (.inl x3), some (.inl x4)], [.inl x3, .inr (.inr (some (59, 0)))], am_mk m)) (if_neg hc13) ?_
          refine am_Go.n htb 3 (S' := (96, [some (.inr (.inr (some (10, 0)))), none, some (.inl x2), some (.inl x3), some (.inl x4)], [.inl x4, .inr (.inr (some (59, 0))), .inl x3, .inr (.inr (some (59, 0)))], am_mk m)) rfl ?_
          obtain ⟨hg15, h⟩ := am_ck_some h
          refine am_Go.c1 htb (S' := (97, [some (.inr (.inr (some (10, 0)))), none, some (.inl x2), some (.inl x3), some (.inl x4)], [.inl (m.1 59 0 x4.toNatClampNeg), .inl x3, .inr (.inr (some (59, 0)))], am_mk m)) (if_neg hg15) ?_
          refine am_Go.n htb 5 (S' := (104, [some (.inr (.inr (some (10, 0)))), none, some (.inl x2), some (.inl x3), some (.inl x4)], [.inl x3, .inr (.inr (some (59, 0))), .inl ((m.1 59 0 x4.toNatClampNeg) + (1 : Int32)), .inl x3, .inr (.inr (some (59, 0)))], am_mk m)) rfl ?_
          obtain ⟨hg16, h⟩ := am_ck_some h
          refine am_Go.c1 htb (S' := (105, [some (.inr (.inr (some (10, 0)))), none, some (.inl x2), some (.inl x3), some (.inl x4)], [.inl (m.1 59 0 x3.toNatClampNeg), .inl ((m.1 59 0 x4.toNatClampNeg) + (1 : Int32)), .inl x3, .inr (.inr (some (59, 0)))], am_mk m)) (if_neg hg16) ?_
          by_cases hc17 : (m.1 59 0 x3.toNatClampNeg) ≤ ((m.1 59 0 x4.toNatClampNeg) + (1 : Int32))
          · rw [if_pos hc17] at h
            refine am_Go.c1 htb (S' := (120, [some (.inr (.inr (some (10, 0)))), none, some (.inl x2), some (.inl x3), some (.inl x4)], [.inl x3, .inr (.inr (some (59, 0)))], am_mk m)) (if_pos hc17) ?_
            refine am_Go.n htb 3 (S' := (125, [some (.inr (.inr (some (10, 0)))), none, some (.inl x2), some (.inl x3), some (.inl x4)], [.inl x3, .inr (.inr (some (59, 0))), .inl x3, .inr (.inr (some (59, 0)))], am_mk m)) rfl ?_
            obtain ⟨hg18, h⟩ := am_ck_some h
            refine am_Go.c1 htb (S' := (126, [some (.inr (.inr (some (10, 0)))), none, some (.inl x2), some (.inl x3), some (.inl x4)], [.inl (m.1 59 0 x3.toNatClampNeg), .inl x3, .inr (.inr (some (59, 0)))], am_mk m)) (if_neg hg18) ?_
            cases h
            exact am_Go.fg (by exact ⟨rfl, ⟨rfl, ⟨rfl, ⟨rfl, trivial⟩⟩⟩⟩) key
          · rw [if_neg hc17] at h
            refine am_Go.c1 htb (S' := (108, [some (.inr (.inr (some (10, 0)))), none, some (.inl x2), some (.inl x3), some (.inl x4)], [.inl x3, .inr (.inr (some (59, 0)))], am_mk m)) (if_neg hc17) ?_
            refine am_Go.n htb 3 (S' := (114, [some (.inr (.inr (some (10, 0)))), none, some (.inl x2), some (.inl x3), some (.inl x4)], [.inl x4, .inr (.inr (some (59, 0))), .inl x3, .inr (.inr (some (59, 0)))], am_mk m)) rfl ?_
            obtain ⟨hg19, h⟩ := am_ck_some h
            refine am_Go.c1 htb (S' := (115, [some (.inr (.inr (some (10, 0)))), none, some (.inl x2), some (.inl x3), some (.inl x4)], [.inl (m.1 59 0 x4.toNatClampNeg), .inl x3, .inr (.inr (some (59, 0)))], am_mk m)) (if_neg hg19) ?_
            refine am_Go.n htb 3 (S' := (126, [some (.inr (.inr (some (10, 0)))), none, some (.inl x2), some (.inl x3), some (.inl x4)], [.inl ((m.1 59 0 x4.toNatClampNeg) + (1 : Int32)), .inl x3, .inr (.inr (some (59, 0)))], am_mk m)) rfl ?_
            cases h
            exact am_Go.fg (by exact ⟨rfl, ⟨rfl, ⟨rfl, ⟨rfl, trivial⟩⟩⟩⟩) key
def lp_X10_layFar_46 : Nat → Int32 → Int32 → am_m → Option (am_m)
  | 0, _, _, _ => none
  | n + 1, x2, x3, m =>
  am_ck 0 5518 ((if (m.1 44 0 (0 : Int32).toNatClampNeg) ≤ x3 then some m else (lp_X10_layFar_59 1000000 x2 x3 0 m).bind fun q23 => lp_X10_layFar_46 n x2 (x3 + 1) q23))
set_option maxRecDepth 100000 in
theorem lt_X10_layFar_46 (d : Nat) (hd : 1 ≤ d + 1) {r : Option am_V} {M' : am_M} {kc ks : Nat} {n : Nat} {x2 : Int32} {x3 : Int32} {m : am_m} {t : am_m} (h : lp_X10_layFar_46 n x2 x3 m = some t) (hk : am_Go d 266 (139, [some (.inr (.inr (some (10, 0)))), none, some (.inl x2), none, none], [], am_mk t) r M' kc ks) : am_Go d 266 (46, [some (.inr (.inr (some (10, 0)))), none, some (.inl x2), some (.inl x3), none], [], am_mk m) r M' kc ks := by
  have htb : am_tab 266 = at_266 := rfl
  induction n generalizing x3 m with
  | zero => cases h
  | succ n ih =>
    unfold lp_X10_layFar_46 at h
    refine am_Go.n htb 4 (S' := (52, [some (.inr (.inr (some (10, 0)))), none, some (.inl x2), some (.inl x3), none], [.inl 0, .inr (.inr (some (44, 0))), .inl x3], am_mk m)) rfl ?_
    obtain ⟨hg8, h⟩ := am_ck_some h
    refine am_Go.c1 htb (S' := (53, [some (.inr (.inr (some (10, 0)))), none, some (.inl x2), some (.inl x3), none], [.inl (m.1 44 0 (0 : Int32).toNatClampNeg), .inl x3], am_mk m)) (if_neg hg8) ?_
    by_cases hc9 : (m.1 44 0 (0 : Int32).toNatClampNeg) ≤ x3
    · rw [if_pos hc9] at h
      refine am_Go.c1 htb (S' := (139, [some (.inr (.inr (some (10, 0)))), none, some (.inl x2), some (.inl x3), none], [], am_mk m)) (if_pos hc9) ?_
      cases h
      exact am_Go.fg (by exact ⟨rfl, ⟨rfl, trivial⟩⟩) hk
    · rw [if_neg hc9] at h
      refine am_Go.c1 htb (S' := (56, [some (.inr (.inr (some (10, 0)))), none, some (.inl x2), some (.inl x3), none], [], am_mk m)) (if_neg hc9) ?_
      refine am_Go.n htb 2 (S' := (59, [some (.inr (.inr (some (10, 0)))), none, some (.inl x2), some (.inl x3), some (.inl 0)], [], am_mk m)) rfl ?_
      obtain ⟨q23, h24, h⟩ := am_bd h
      refine lt_X10_layFar_59 _ hd (h := h24) (hk := ?_)
      refine am_Go.n htb 2 (S' := (46, [some (.inr (.inr (some (10, 0)))), none, some (.inl x2), some (.inl (x3 + 1)), none], [], am_mk q23)) rfl ?_
      exact ih h hk
def lp_X10_layFar_38 : Nat → Int32 → am_m → Option (am_m)
  | 0, _, _ => none
  | n + 1, x2, m =>
  (if (7 : Int32) ≤ x2 then some m else (lp_X10_layFar_46 1000000 x2 0 m).bind fun q25 => lp_X10_layFar_38 n (x2 + 1) q25)
set_option maxRecDepth 100000 in
theorem lt_X10_layFar_38 (d : Nat) (hd : 1 ≤ d + 1) {r : Option am_V} {M' : am_M} {kc ks : Nat} {n : Nat} {x2 : Int32} {m : am_m} {t : am_m} (h : lp_X10_layFar_38 n x2 m = some t) (hk : am_Go d 266 (145, [some (.inr (.inr (some (10, 0)))), none, none, none, none], [], am_mk t) r M' kc ks) : am_Go d 266 (38, [some (.inr (.inr (some (10, 0)))), none, some (.inl x2), none, none], [], am_mk m) r M' kc ks := by
  have htb : am_tab 266 = at_266 := rfl
  induction n generalizing x2 m with
  | zero => cases h
  | succ n ih =>
    unfold lp_X10_layFar_38 at h
    refine am_Go.n htb 2 (S' := (41, [some (.inr (.inr (some (10, 0)))), none, some (.inl x2), none, none], [.inl 7, .inl x2], am_mk m)) rfl ?_
    by_cases hc7 : (7 : Int32) ≤ x2
    · rw [if_pos hc7] at h
      refine am_Go.c1 htb (S' := (145, [some (.inr (.inr (some (10, 0)))), none, some (.inl x2), none, none], [], am_mk m)) (if_pos hc7) ?_
      cases h
      exact am_Go.fg (by exact ⟨rfl, trivial⟩) hk
    · rw [if_neg hc7] at h
      refine am_Go.c1 htb (S' := (44, [some (.inr (.inr (some (10, 0)))), none, some (.inl x2), none, none], [], am_mk m)) (if_neg hc7) ?_
      refine am_Go.n htb 2 (S' := (46, [some (.inr (.inr (some (10, 0)))), none, some (.inl x2), some (.inl 0), none], [], am_mk m)) rfl ?_
      obtain ⟨q25, h26, h⟩ := am_bd h
      refine lt_X10_layFar_46 _ hd (h := h26) (hk := ?_)
      refine am_Go.n htb 2 (S' := (38, [some (.inr (.inr (some (10, 0)))), none, some (.inl (x2 + 1)), none, none], [], am_mk q25)) rfl ?_
      exact ih h hk
def fn_X10_layFar (a1 : Int32) (m : am_m) : Option (am_m) :=
  (lp_X10_layFar_2 1000000 a1 0 m).bind fun q5 => (lp_X10_layFar_38 1000000 0 q5).bind fun q27 => some q27
set_option maxRecDepth 100000 in
theorem ex_X10_layFar (d : Nat) (hd : 1 ≤ d) (a1 : Int32) (m : am_m) (t : am_m) (h : fn_X10_layFar a1 m = some t) : am_Ex am_cod d 266 [.inr (.inr (some (10, 0))), .inl a1] (am_mk m) (none) (am_mk t) 0 0 := by
  obtain ⟨d, rfl⟩ : ∃ e, d = e + 1 := ⟨d - 1, by omega⟩
  have htb : am_tab 266 = at_266 := rfl
  refine ⟨Nat.le_of_ble_eq_true rfl, ?_⟩
  unfold fn_X10_layFar at h
  show am_Go d 266 (0, [some (.inr (.inr (some (10, 0)))), some (.inl a1), none, none, none], [], am_mk m) _ _ 0 0
  refine am_Go.n htb 2 (S' := (2, [some (.inr (.inr (some (10, 0)))), some (.inl a1), some (.inl 0), none, none], [], am_mk m)) rfl ?_
  obtain ⟨q5, h6, h⟩ := am_bd h
  refine lt_X10_layFar_2 _ hd (h := h6) (hk := ?_)
  refine am_Go.n htb 2 (S' := (38, [some (.inr (.inr (some (10, 0)))), some (.inl a1), some (.inl 0), none, none], [], am_mk q5)) rfl ?_
  refine am_Go.fg (L0 := [some (.inr (.inr (some (10, 0)))), none, some (.inl 0), none, none]) (by exact ⟨rfl, ⟨rfl, trivial⟩⟩) ?_
  obtain ⟨q27, h28, h⟩ := am_bd h
  refine lt_X10_layFar_38 _ hd (h := h28) (hk := ?_)
  cases h
  exact am_Go.r htb rfl
-- X10_chain
def lp_X10_chain_104 : Nat → Int32 → Int32 → Int32 → Int32 → am_m → Option (Int32)
  | 0, _, _, _, _, _ => none
  | n + 1, x3, x4, x5, x6, m =>
  am_ck (((7 : Int32) * x4) + x6) 49 ((if (m.1 92 0 (((7 : Int32) * x4) + x6).toNatClampNeg) = 0 then lp_X10_chain_104 n x3 x4 x5 (x6 + 1) m else am_ck x6 7 (am_ck x4 7 ((if (m.1 59 0 x6.toNatClampNeg) = ((m.1 59 0 x4.toNatClampNeg) - (1 : Int32)) then some x6 else lp_X10_chain_104 n x3 x4 x5 (x6 + 1) m)))))
set_option maxRecDepth 100000 in
theorem lt_X10_chain_104 (d : Nat) (hd : 9 ≤ d + 1) {r : Option am_V} {M' : am_M} {kc ks : Nat} {n : Nat} {x3 : Int32} {x4 : Int32} {x5 : Int32} {x6 : Int32} {m : am_m} {t : Int32} (h : lp_X10_chain_104 n x3 x4 x5 x6 m = some t) (hk : am_Go d 267 (145, [some (.inr (.inr (some (10, 0)))), none, none, some (.inl x3), some (.inl x4), some (.inl x5), some (.inl t)], [], am_mk m) r M' kc ks) : am_Go d 267 (104, [some (.inr (.inr (some (10, 0)))), none, none, some (.inl x3), some (.inl x4), some (.inl x5), some (.inl x6)], [], am_mk m) r M' kc ks := by
  have htb : am_tab 267 = at_267 := rfl
  induction n generalizing x6 with
  | zero => cases h
  | succ n ih =>
    unfold lp_X10_chain_104 at h
    refine am_Go.n htb 7 (S' := (116, [some (.inr (.inr (some (10, 0)))), none, none, some (.inl x3), some (.inl x4), some (.inl x5), some (.inl x6)], [.inl (((7 : Int32) * x4) + x6), .inr (.inr (some (92, 0)))], am_mk m)) rfl ?_
    obtain ⟨hg21, h⟩ := am_ck_some h
    refine am_Go.c1 htb (S' := (117, [some (.inr (.inr (some (10, 0)))), none, none, some (.inl x3), some (.inl x4), some (.inl x5), some (.inl x6)], [.inl (m.1 92 0 (((7 : Int32) * x4) + x6).toNatClampNeg)], am_mk m)) (if_neg hg21) ?_
    by_cases hc22 : (m.1 92 0 (((7 : Int32) * x4) + x6).toNatClampNeg) = 0
    · rw [if_pos hc22] at h
      refine am_Go.c1 htb (S' := (139, [some (.inr (.inr (some (10, 0)))), none, none, some (.inl x3), some (.inl x4), some (.inl x5), some (.inl x6)], [], am_mk m)) (if_pos hc22) ?_
      refine am_Go.n htb 2 (S' := (104, [some (.inr (.inr (some (10, 0)))), none, none, some (.inl x3), some (.inl x4), some (.inl x5), some (.inl (x6 + 1))], [], am_mk m)) rfl ?_
      exact ih h hk
    · rw [if_neg hc22] at h
      refine am_Go.c1 htb (S' := (120, [some (.inr (.inr (some (10, 0)))), none, none, some (.inl x3), some (.inl x4), some (.inl x5), some (.inl x6)], [], am_mk m)) (if_neg hc22) ?_
      refine am_Go.n htb 3 (S' := (126, [some (.inr (.inr (some (10, 0)))), none, none, some (.inl x3), some (.inl x4), some (.inl x5), some (.inl x6)], [.inl x6, .inr (.inr (some (59, 0)))], am_mk m)) rfl ?_
      obtain ⟨hg23, h⟩ := am_ck_some h
      refine am_Go.c1 htb (S' := (127, [some (.inr (.inr (some (10, 0)))), none, none, some (.inl x3), some (.inl x4), some (.inl x5), some (.inl x6)], [.inl (m.1 59 0 x6.toNatClampNeg)], am_mk m)) (if_neg hg23) ?_
      refine am_Go.n htb 3 (S' := (133, [some (.inr (.inr (some (10, 0)))), none, none, some (.inl x3), some (.inl x4), some (.inl x5), some (.inl x6)], [.inl x4, .inr (.inr (some (59, 0))), .inl (m.1 59 0 x6.toNatClampNeg)], am_mk m)) rfl ?_
      obtain ⟨hg24, h⟩ := am_ck_some h
      refine am_Go.c1 htb (S' := (134, [some (.inr (.inr (some (10, 0)))), none, none, some (.inl x3), some (.inl x4), some (.inl x5), some (.inl x6)], [.inl (m.1 59 0 x4.toNatClampNeg), .inl (m.1 59 0 x6.toNatClampNeg)], am_mk m)) (if_neg hg24) ?_
      refine am_Go.n htb 2 (S' := (136, [some (.inr (.inr (some (10, 0)))), none, none, some (.inl x3), some (.inl x4), some (.inl x5), some (.inl x6)], [.inl ((m.1 59 0 x4.toNatClampNeg) - (1 : Int32)), .inl (m.1 59 0 x6.toNatClampNeg)], am_mk m)) rfl ?_
      by_cases hc25 : (m.1 59 0 x6.toNatClampNeg) = ((m.1 59 0 x4.toNatClampNeg) - (1 : Int32))
      · rw [if_pos hc25] at h
        refine am_Go.c1 htb (S' := (145, [some (.inr (.inr (some (10, 0)))), none, none, some (.inl x3), some (.inl x4), some (.inl x5), some (.inl x6)], [], am_mk m)) (if_pos hc25) ?_
        cases h
        exact am_Go.fg (by exact ⟨rfl, ⟨rfl, ⟨rfl, ⟨rfl, ⟨rfl, trivial⟩⟩⟩⟩⟩) hk
      · rw [if_neg hc25] at h
        refine am_Go.c1 htb (S' := (139, [some (.inr (.inr (some (10, 0)))), none, none, some (.inl x3), some (.inl x4), some (.inl x5), some (.inl x6)], [], am_mk m)) (if_neg hc25) ?_
        refine am_Go.n htb 2 (S' := (104, [some (.inr (.inr (some (10, 0)))), none, none, some (.inl x3), some (.inl x4), some (.inl x5), some (.inl (x6 + 1))], [], am_mk m)) rfl ?_
        exact ih h hk
def lp_X10_chain_95 : Nat → Int32 → Int32 → Int32 → am_m → Option (Int32)
  | 0, _, _, _, _ => none
  | n + 1, x3, x4, x5, m =>
  (if x3 < x5 then some x4 else (lp_X10_chain_104 1000000 x3 x4 x5 0 m).bind fun q26 => lp_X10_chain_95 n x3 q26 (x5 + 1) m)
set_option maxRecDepth 100000 in
theorem lt_X10_chain_95 (d : Nat) (hd : 9 ≤ d + 1) {r : Option am_V} {M' : am_M} {kc ks : Nat} {n : Nat} {x3 : Int32} {x4 : Int32} {x5 : Int32} {m : am_m} {t : Int32} (h : lp_X10_chain_95 n x3 x4 x5 m = some t) (hk : am_Go d 267 (155, [some (.inr (.inr (some (10, 0)))), none, none, some (.inl x3), some (.inl t), none, none], [], am_mk m) r M' kc ks) : am_Go d 267 (95, [some (.inr (.inr (some (10, 0)))), none, none, some (.inl x3), some (.inl x4), some (.inl x5), none], [], am_mk m) r M' kc ks := by
  have htb : am_tab 267 = at_267 := rfl
  induction n generalizing x4 x5 with
  | zero => cases h
  | succ n ih =>
    unfold lp_X10_chain_95 at h
    refine am_Go.n htb 2 (S' := (98, [some (.inr (.inr (some (10, 0)))), none, none, some (.inl x3), some (.inl x4), some (.inl x5), none], [.inl x3, .inl x5], am_mk m)) rfl ?_
    by_cases hc20 : x3 < x5
    · rw [if_pos hc20] at h
      refine am_Go.c1 htb (S' := (155, [some (.inr (.inr (some (10, 0)))), none, none, some (.inl x3), some (.inl x4), some (.inl x5), none], [], am_mk m)) (if_pos hc20) ?_
      cases h
      exact am_Go.fg (by exact ⟨rfl, ⟨rfl, ⟨rfl, trivial⟩⟩⟩) hk
    · rw [if_neg hc20] at h
      refine am_Go.c1 htb (S' := (101, [some (.inr (.inr (some (10, 0)))), none, none, some (.inl x3), some (.inl x4), some (.inl x5), none], [], am_mk m)) (if_neg hc20) ?_
      refine am_Go.n htb 2 (S' := (104, [some (.inr (.inr (some (10, 0)))), none, none, some (.inl x3), some (.inl x4), some (.inl x5), some (.inl 0)], [], am_mk m)) rfl ?_
      obtain ⟨q26, h27, h⟩ := am_bd h
      refine lt_X10_chain_104 _ hd (h := h27) (hk := ?_)
      refine am_Go.n htb 4 (S' := (95, [some (.inr (.inr (some (10, 0)))), none, none, some (.inl x3), some (.inl q26), some (.inl (x5 + 1)), some (.inl q26)], [], am_mk m)) rfl ?_
      refine am_Go.fg (L0 := [some (.inr (.inr (some (10, 0)))), none, none, some (.inl x3), some (.inl q26), some (.inl (x5 + 1)), none]) (by exact ⟨rfl, ⟨rfl, ⟨rfl, ⟨rfl, trivial⟩⟩⟩⟩) ?_
      exact ih h hk
def fn_X10_chain (a1 : Int32) (a2 : Int32) (a3 : Int32) (m : am_m) : Option (Int32 × am_m) :=
  (fn_X10_isFolk a1 (am_si m 10 0 0 0)).bind fun r1 => (if r1 = 0 then some ((-1), am_si m 10 0 0 0) else (fn_X10_isFolk a2 (am_si m 10 0 0 0)).bind fun r4 => (if r4 = 0 then some ((-1), am_si m 10 0 0 0) else (if (-1 : Int32) ≤ a3 then (fn_X10_layMay  (am_si m 10 0 0 0)).bind fun r8 => (fn_X10_layFar a2 r8).bind fun r10 => am_ck a1 7 ((if (r10.1 59 0 a1.toNatClampNeg) = (100000000 : Int32) then am_ck a1 7 ((if (r10.1 59 0 a1.toNatClampNeg) ≠ (100000000 : Int32) then am_ck a1 7 (some ((r10.1 59 0 a1.toNatClampNeg), r10)) else some ((-1), r10))) else (if a3 ≠ (-1 : Int32) then am_ck a1 7 ((if a3 < (r10.1 59 0 a1.toNatClampNeg) then (lp_X10_chain_95 1000000 a3 a1 0 r10).bind fun q28 => some (q28, r10) else some ((-1), r10))) else am_ck a1 7 ((if (r10.1 59 0 a1.toNatClampNeg) ≠ (100000000 : Int32) then am_ck a1 7 (some ((r10.1 59 0 a1.toNatClampNeg), r10)) else some ((-1), r10)))))) else some ((-1), am_si m 10 0 0 0))))
set_option maxRecDepth 100000 in
theorem ex_X10_chain (d : Nat) (hd : 9 ≤ d) (a1 : Int32) (a2 : Int32) (a3 : Int32) (m : am_m) (t : Int32 × am_m) (h : fn_X10_chain a1 a2 a3 m = some t) : am_Ex am_cod d 267 [.inr (.inr (some (10, 0))), .inl a1, .inl a2, .inl a3] (am_mk m) (some (.inl t.1)) (am_mk t.2) 0 0 := by
  obtain ⟨d, rfl⟩ : ∃ e, d = e + 1 := ⟨d - 1, by omega⟩
  have htb : am_tab 267 = at_267 := rfl
  refine ⟨Nat.le_of_ble_eq_true rfl, ?_⟩
  unfold fn_X10_chain at h
  show am_Go d 267 (0, [some (.inr (.inr (some (10, 0)))), some (.inl a1), some (.inl a2), some (.inl a3), none, none, none], [], am_mk m) _ _ 0 0
  refine am_Go.n htb 5 (S' := (7, [some (.inr (.inr (some (10, 0)))), some (.inl a1), some (.inl a2), some (.inl a3), none, none, none], [.inl a1, .inr (.inr (some (10, 0)))], am_mk (am_si m 10 0 0 0))) rfl ?_
  obtain ⟨r1, h2, h⟩ := am_bd h
  refine am_Go.cl htb rfl (ex_X10_isFolk d (by omega) a1 (am_si m 10 0 0 0) r1 h2) ?_
  show am_Go d 267 (10, [some (.inr (.inr (some (10, 0)))), some (.inl a1), some (.inl a2), some (.inl a3), none, none, none], [.inl r1], am_mk (am_si m 10 0 0 0)) _ _ _ _
  by_cases hc3 : r1 = 0
  · rw [if_pos hc3] at h
    refine am_Go.c1 htb (S' := (26, [some (.inr (.inr (some (10, 0)))), some (.inl a1), some (.inl a2), some (.inl a3), none, none, none], [], am_mk (am_si m 10 0 0 0))) (if_pos hc3) ?_
    refine am_Go.n htb 1 (S' := (27, [some (.inr (.inr (some (10, 0)))), some (.inl a1), some (.inl a2), some (.inl a3), none, none, none], [.inl (-1)], am_mk (am_si m 10 0 0 0))) rfl ?_
    cases h
    exact am_Go.r htb rfl
  · rw [if_neg hc3] at h
    refine am_Go.c1 htb (S' := (13, [some (.inr (.inr (some (10, 0)))), some (.inl a1), some (.inl a2), some (.inl a3), none, none, none], [], am_mk (am_si m 10 0 0 0))) (if_neg hc3) ?_
    refine am_Go.n htb 2 (S' := (15, [some (.inr (.inr (some (10, 0)))), some (.inl a1), some (.inl a2), some (.inl a3), none, none, none], [.inl a2, .inr (.inr (some (10, 0)))], am_mk (am_si m 10 0 0 0))) rfl ?_
    obtain ⟨r4, h5, h⟩ := am_bd h
    refine am_Go.cl htb rfl (ex_X10_isFolk d (by omega) a2 (am_si m 10 0 0 0) r4 h5) ?_
    show am_Go d 267 (18, [some (.inr (.inr (some (10, 0)))), some (.inl a1), some (.inl a2), some (.inl a3), none, none, none], [.inl r4], am_mk (am_si m 10 0 0 0)) _ _ _ _
    by_cases hc6 : r4 = 0
    · rw [if_pos hc6] at h
      refine am_Go.c1 htb (S' := (26, [some (.inr (.inr (some (10, 0)))), some (.inl a1), some (.inl a2), some (.inl a3), none, none, none], [], am_mk (am_si m 10 0 0 0))) (if_pos hc6) ?_
      refine am_Go.n htb 1 (S' := (27, [some (.inr (.inr (some (10, 0)))), some (.inl a1), some (.inl a2), some (.inl a3), none, none, none], [.inl (-1)], am_mk (am_si m 10 0 0 0))) rfl ?_
      cases h
      exact am_Go.r htb rfl
    · rw [if_neg hc6] at h
      refine am_Go.c1 htb (S' := (21, [some (.inr (.inr (some (10, 0)))), some (.inl a1), some (.inl a2), some (.inl a3), none, none, none], [], am_mk (am_si m 10 0 0 0))) (if_neg hc6) ?_
      refine am_Go.n htb 2 (S' := (23, [some (.inr (.inr (some (10, 0)))), some (.inl a1), some (.inl a2), some (.inl a3), none, none, none], [.inl (-1), .inl a3], am_mk (am_si m 10 0 0 0))) rfl ?_
      by_cases hc7 : (-1 : Int32) ≤ a3
      · rw [if_pos hc7] at h
        refine am_Go.c1 htb (S' := (28, [some (.inr (.inr (some (10, 0)))), some (.inl a1), some (.inl a2), some (.inl a3), none, none, none], [], am_mk (am_si m 10 0 0 0))) (if_pos hc7) ?_
        refine am_Go.n htb 1 (S' := (29, [some (.inr (.inr (some (10, 0)))), some (.inl a1), some (.inl a2), some (.inl a3), none, none, none], [.inr (.inr (some (10, 0)))], am_mk (am_si m 10 0 0 0))) rfl ?_
        obtain ⟨r8, h9, h⟩ := am_bd h
        refine am_Go.cl htb rfl (ex_X10_layMay d (by omega)  (am_si m 10 0 0 0) r8 h9) ?_
        show am_Go d 267 (32, [some (.inr (.inr (some (10, 0)))), some (.inl a1), some (.inl a2), some (.inl a3), none, none, none], [], am_mk r8) _ _ _ _
        refine am_Go.n htb 2 (S' := (34, [some (.inr (.inr (some (10, 0)))), some (.inl a1), some (.inl a2), some (.inl a3), none, none, none], [.inl a2, .inr (.inr (some (10, 0)))], am_mk r8)) rfl ?_
        obtain ⟨r10, h11, h⟩ := am_bd h
        refine am_Go.cl htb rfl (ex_X10_layFar d (by omega) a2 r8 r10 h11) ?_
        show am_Go d 267 (37, [some (.inr (.inr (some (10, 0)))), some (.inl a1), some (.inl a2), some (.inl a3), none, none, none], [], am_mk r10) _ _ _ _
        refine am_Go.n htb 3 (S' := (42, [some (.inr (.inr (some (10, 0)))), some (.inl a1), some (.inl a2), some (.inl a3), none, none, none], [.inl a1, .inr (.inr (some (59, 0)))], am_mk r10)) rfl ?_
        obtain ⟨hg12, h⟩ := am_ck_some h
        refine am_Go.c1 htb (S' := (43, [some (.inr (.inr (some (10, 0)))), some (.inl a1), some (.inl a2), some (.inl a3), none, none, none], [.inl (r10.1 59 0 a1.toNatClampNeg)], am_mk r10)) (if_neg hg12) ?_
        refine am_Go.n htb 1 (S' := (46, [some (.inr (.inr (some (10, 0)))), some (.inl a1), some (.inl a2), some (.inl a3), none, none, none], [.inl 100000000, .inl (r10.1 59 0 a1.toNatClampNeg)], am_mk r10)) rfl ?_
        by_cases hc13 : (r10.1 59 0 a1.toNatClampNeg) = (100000000 : Int32)
        · rw [if_pos hc13] at h
          refine am_Go.c1 htb (S' := (54, [some (.inr (.inr (some (10, 0)))), some (.inl a1), some (.inl a2), some (.inl a3), none, none, none], [], am_mk r10)) (if_pos hc13) ?_
          refine am_Go.n htb 3 (S' := (59, [some (.inr (.inr (some (10, 0)))), some (.inl a1), some (.inl a2), some (.inl a3), none, none, none], [.inl a1, .inr (.inr (some (59, 0)))], am_mk r10)) rfl ?_
          obtain ⟨hg14, h⟩ := am_ck_some h
          refine am_Go.c1 htb (S' := (60, [some (.inr (.inr (some (10, 0)))), some (.inl a1), some (.inl a2), some (.inl a3), none, none, none], [.inl (r10.1 59 0 a1.toNatClampNeg)], am_mk r10)) (if_neg hg14) ?_
          refine am_Go.n htb 1 (S' := (63, [some (.inr (.inr (some (10, 0)))), some (.inl a1), some (.inl a2), some (.inl a3), none, none, none], [.inl 100000000, .inl (r10.1 59 0 a1.toNatClampNeg)], am_mk r10)) rfl ?_
          by_cases hc15 : (r10.1 59 0 a1.toNatClampNeg) ≠ (100000000 : Int32)
          · rw [if_pos hc15] at h
            refine am_Go.c1 htb (S' := (70, [some (.inr (.inr (some (10, 0)))), some (.inl a1), some (.inl a2), some (.inl a3), none, none, none], [], am_mk r10)) (if_pos hc15) ?_
            refine am_Go.n htb 3 (S' := (75, [some (.inr (.inr (some (10, 0)))), some (.inl a1), some (.inl a2), some (.inl a3), none, none, none], [.inl a1, .inr (.inr (some (59, 0)))], am_mk r10)) rfl ?_
            obtain ⟨hg16, h⟩ := am_ck_some h
            refine am_Go.c1 htb (S' := (76, [some (.inr (.inr (some (10, 0)))), some (.inl a1), some (.inl a2), some (.inl a3), none, none, none], [.inl (r10.1 59 0 a1.toNatClampNeg)], am_mk r10)) (if_neg hg16) ?_
            cases h
            exact am_Go.r htb rfl
          · rw [if_neg hc15] at h
            refine am_Go.c1 htb (S' := (66, [some (.inr (.inr (some (10, 0)))), some (.inl a1), some (.inl a2), some (.inl a3), none, none, none], [], am_mk r10)) (if_neg hc15) ?_
            refine am_Go.n htb 2 (S' := (76, [some (.inr (.inr (some (10, 0)))), some (.inl a1), some (.inl a2), some (.inl a3), none, none, none], [.inl (-1)], am_mk r10)) rfl ?_
            cases h
            exact am_Go.r htb rfl
        · rw [if_neg hc13] at h
          refine am_Go.c1 htb (S' := (49, [some (.inr (.inr (some (10, 0)))), some (.inl a1), some (.inl a2), some (.inl a3), none, none, none], [], am_mk r10)) (if_neg hc13) ?_
          refine am_Go.n htb 2 (S' := (51, [some (.inr (.inr (some (10, 0)))), some (.inl a1), some (.inl a2), some (.inl a3), none, none, none], [.inl (-1), .inl a3], am_mk r10)) rfl ?_
          by_cases hc17 : a3 ≠ (-1 : Int32)
          · rw [if_pos hc17] at h
            refine am_Go.c1 htb (S' := (77, [some (.inr (.inr (some (10, 0)))), some (.inl a1), some (.inl a2), some (.inl a3), none, none, none], [], am_mk r10)) (if_pos hc17) ?_
            refine am_Go.n htb 4 (S' := (83, [some (.inr (.inr (some (10, 0)))), some (.inl a1), some (.inl a2), some (.inl a3), none, none, none], [.inl a1, .inr (.inr (some (59, 0))), .inl a3], am_mk r10)) rfl ?_
            obtain ⟨hg18, h⟩ := am_ck_some h
            refine am_Go.c1 htb (S' := (84, [some (.inr (.inr (some (10, 0)))), some (.inl a1), some (.inl a2), some (.inl a3), none, none, none], [.inl (r10.1 59 0 a1.toNatClampNeg), .inl a3], am_mk r10)) (if_neg hg18) ?_
            by_cases hc19 : a3 < (r10.1 59 0 a1.toNatClampNeg)
            · rw [if_pos hc19] at h
              refine am_Go.c1 htb (S' := (89, [some (.inr (.inr (some (10, 0)))), some (.inl a1), some (.inl a2), some (.inl a3), none, none, none], [], am_mk r10)) (if_pos hc19) ?_
              refine am_Go.n htb 4 (S' := (95, [some (.inr (.inr (some (10, 0)))), some (.inl a1), some (.inl a2), some (.inl a3), some (.inl a1), some (.inl 0), none], [], am_mk r10)) rfl ?_
              refine am_Go.fg (L0 := [some (.inr (.inr (some (10, 0)))), none, none, some (.inl a3), some (.inl a1), some (.inl 0), none]) (by exact ⟨rfl, ⟨rfl, ⟨rfl, ⟨rfl, trivial⟩⟩⟩⟩) ?_
              obtain ⟨q28, h29, h⟩ := am_bd h
              refine lt_X10_chain_95 _ hd (h := h29) (hk := ?_)
              refine am_Go.n htb 1 (S' := (157, [some (.inr (.inr (some (10, 0)))), none, none, some (.inl a3), some (.inl q28), none, none], [.inl q28], am_mk r10)) rfl ?_
              cases h
              exact am_Go.r htb rfl
            · rw [if_neg hc19] at h
              refine am_Go.c1 htb (S' := (87, [some (.inr (.inr (some (10, 0)))), some (.inl a1), some (.inl a2), some (.inl a3), none, none, none], [], am_mk r10)) (if_neg hc19) ?_
              refine am_Go.n htb 1 (S' := (88, [some (.inr (.inr (some (10, 0)))), some (.inl a1), some (.inl a2), some (.inl a3), none, none, none], [.inl (-1)], am_mk r10)) rfl ?_
              cases h
              exact am_Go.r htb rfl
          · rw [if_neg hc17] at h
            refine am_Go.c1 htb (S' := (54, [some (.inr (.inr (some (10, 0)))), some (.inl a1), some (.inl a2), some (.inl a3), none, none, none], [], am_mk r10)) (if_neg hc17) ?_
            refine am_Go.n htb 3 (S' := (59, [some (.inr (.inr (some (10, 0)))), some (.inl a1), some (.inl a2), some (.inl a3), none, none, none], [.inl a1, .inr (.inr (some (59, 0)))], am_mk r10)) rfl ?_
            obtain ⟨hg30, h⟩ := am_ck_some h
            refine am_Go.c1 htb (S' := (60, [some (.inr (.inr (some (10, 0)))), some (.inl a1), some (.inl a2), some (.inl a3), none, none, none], [.inl (r10.1 59 0 a1.toNatClampNeg)], am_mk r10)) (if_neg hg30) ?_
            refine am_Go.n htb 1 (S' := (63, [some (.inr (.inr (some (10, 0)))), some (.inl a1), some (.inl a2), some (.inl a3), none, none, none], [.inl 100000000, .inl (r10.1 59 0 a1.toNatClampNeg)], am_mk r10)) rfl ?_
            by_cases hc31 : (r10.1 59 0 a1.toNatClampNeg) ≠ (100000000 : Int32)
            · rw [if_pos hc31] at h
              refine am_Go.c1 htb (S' := (70, [some (.inr (.inr (some (10, 0)))), some (.inl a1), some (.inl a2), some (.inl a3), none, none, none], [], am_mk r10)) (if_pos hc31) ?_
              refine am_Go.n htb 3 (S' := (75, [some (.inr (.inr (some (10, 0)))), some (.inl a1), some (.inl a2), some (.inl a3), none, none, none], [.inl a1, .inr (.inr (some (59, 0)))], am_mk r10)) rfl ?_
              obtain ⟨hg32, h⟩ := am_ck_some h
              refine am_Go.c1 htb (S' := (76, [some (.inr (.inr (some (10, 0)))), some (.inl a1), some (.inl a2), some (.inl a3), none, none, none], [.inl (r10.1 59 0 a1.toNatClampNeg)], am_mk r10)) (if_neg hg32) ?_
              cases h
              exact am_Go.r htb rfl
            · rw [if_neg hc31] at h
              refine am_Go.c1 htb (S' := (66, [some (.inr (.inr (some (10, 0)))), some (.inl a1), some (.inl a2), some (.inl a3), none, none, none], [], am_mk r10)) (if_neg hc31) ?_
              refine am_Go.n htb 2 (S' := (76, [some (.inr (.inr (some (10, 0)))), some (.inl a1), some (.inl a2), some (.inl a3), none, none, none], [.inl (-1)], am_mk r10)) rfl ?_
              cases h
              exact am_Go.r htb rfl
      · rw [if_neg hc7] at h
        refine am_Go.c1 htb (S' := (26, [some (.inr (.inr (some (10, 0)))), some (.inl a1), some (.inl a2), some (.inl a3), none, none, none], [], am_mk (am_si m 10 0 0 0))) (if_neg hc7) ?_
        refine am_Go.n htb 1 (S' := (27, [some (.inr (.inr (some (10, 0)))), some (.inl a1), some (.inl a2), some (.inl a3), none, none, none], [.inl (-1)], am_mk (am_si m 10 0 0 0))) rfl ?_
        cases h
        exact am_Go.r htb rfl
-- X10_circlesNow
def lp_X10_circlesNow_45 : Nat → Int32 → Int32 → Int32 → Int32 → Int32 → Int32 → am_m → Option (Int32)
  | 0, _, _, _, _, _, _, _ => none
  | n + 1, x1, x2, x3, x4, x5, x6, m =>
  am_ck 0 5518 ((if (m.1 44 0 (0 : Int32).toNatClampNeg) ≤ x6 then some x4 else (fn_X10_is x4 x6 m).bind fun r9 => (if r9 = 0 then some 0 else (fn_X10_sitsWith x6 m).bind fun r12 => some r12).bind fun q14 => lp_X10_circlesNow_45 n x1 x2 x3 (x4 ||| q14) x5 (x6 + 1) m))
set_option maxRecDepth 100000 in
theorem lt_X10_circlesNow_45 (d : Nat) (hd : 2 ≤ d + 1) {r : Option am_V} {M' : am_M} {kc ks : Nat} {n : Nat} {x1 : Int32} {x2 : Int32} {x3 : Int32} {x4 : Int32} {x5 : Int32} {x6 : Int32} {m : am_m} {t : Int32} (h : lp_X10_circlesNow_45 n x1 x2 x3 x4 x5 x6 m = some t) (hk : am_Go d 268 (87, [some (.inr (.inr (some (10, 0)))), some (.inl x1), some (.inl x2), some (.inl x3), some (.inl t), some (.inl x5), none], [], am_mk m) r M' kc ks) : am_Go d 268 (45, [some (.inr (.inr (some (10, 0)))), some (.inl x1), some (.inl x2), some (.inl x3), some (.inl x4), some (.inl x5), some (.inl x6)], [], am_mk m) r M' kc ks := by
  have htb : am_tab 268 = at_268 := rfl
  induction n generalizing x4 x6 with
  | zero => cases h
  | succ n ih =>
    unfold lp_X10_circlesNow_45 at h
    refine am_Go.n htb 4 (S' := (52, [some (.inr (.inr (some (10, 0)))), some (.inl x1), some (.inl x2), some (.inl x3), some (.inl x4), some (.inl x5), some (.inl x6)], [.inl 0, .inr (.inr (some (44, 0))), .inl x6], am_mk m)) rfl ?_
    obtain ⟨hg7, h⟩ := am_ck_some h
    refine am_Go.c1 htb (S' := (53, [some (.inr (.inr (some (10, 0)))), some (.inl x1), some (.inl x2), some (.inl x3), some (.inl x4), some (.inl x5), some (.inl x6)], [.inl (m.1 44 0 (0 : Int32).toNatClampNeg), .inl x6], am_mk m)) (if_neg hg7) ?_
    by_cases hc8 : (m.1 44 0 (0 : Int32).toNatClampNeg) ≤ x6
    · rw [if_pos hc8] at h
      refine am_Go.c1 htb (S' := (87, [some (.inr (.inr (some (10, 0)))), some (.inl x1), some (.inl x2), some (.inl x3), some (.inl x4), some (.inl x5), some (.inl x6)], [], am_mk m)) (if_pos hc8) ?_
      cases h
      exact am_Go.fg (by exact ⟨rfl, ⟨rfl, ⟨rfl, ⟨rfl, ⟨rfl, ⟨rfl, trivial⟩⟩⟩⟩⟩⟩) hk
    · rw [if_neg hc8] at h
      refine am_Go.c1 htb (S' := (56, [some (.inr (.inr (some (10, 0)))), some (.inl x1), some (.inl x2), some (.inl x3), some (.inl x4), some (.inl x5), some (.inl x6)], [], am_mk m)) (if_neg hc8) ?_
      refine am_Go.n htb 3 (S' := (62, [some (.inr (.inr (some (10, 0)))), some (.inl x1), some (.inl x2), some (.inl x3), some (.inl x4), some (.inl x5), some (.inl x6)], [.inl x6, .inl x4, .inl x4], am_mk m)) rfl ?_
      obtain ⟨r9, h10, h⟩ := am_bd h
      refine am_Go.cl htb rfl (ex_X10_is d (by omega) x4 x6 m r9 h10) ?_
      show am_Go d 268 (65, [some (.inr (.inr (some (10, 0)))), some (.inl x1), some (.inl x2), some (.inl x3), some (.inl x4), some (.inl x5), some (.inl x6)], [.inl r9, .inl x4], am_mk m) _ _ _ _
      obtain ⟨q14, h15, h⟩ := am_bd h
      refine am_Go.cut (S := (78, [some (.inr (.inr (some (10, 0)))), some (.inl x1), some (.inl x2), some (.inl x3), some (.inl x4), some (.inl x5), some (.inl x6)], [.inl q14, .inl x4], am_mk m)) ?_ (fun key => ?_)
      · refine am_Go.n htb 4 (S' := (45, [some (.inr (.inr (some (10, 0)))), some (.inl x1), some (.inl x2), some (.inl x3), some (.inl (x4 ||| q14)), some (.inl x5), some (.inl (x6 + 1))], [], am_mk m)) rfl ?_
        exact ih h hk
      · have h := h15
        by_cases hc11 : r9 = 0
        · rw [if_pos hc11] at h
          refine am_Go.c1 htb (S' := (77, [some (.inr (.inr (some (10, 0)))), some (.inl x1), some (.inl x2), some (.inl x3), some (.inl x4), some (.inl x5), some (.inl x6)], [.inl x4], am_mk m)) (if_pos hc11) ?_
          refine am_Go.n htb 1 (S' := (78, [some (.inr (.inr (some (10, 0)))), some (.inl x1), some (.inl x2), some (.inl x3), some (.inl x4), some (.inl x5), some (.inl x6)], [.inl 0, .inl x4], am_mk m)) rfl ?_
          cases h
          exact am_Go.fg (by exact ⟨rfl, ⟨rfl, ⟨rfl, ⟨rfl, ⟨rfl, ⟨rfl, ⟨rfl, trivial⟩⟩⟩⟩⟩⟩⟩) key
        · rw [if_neg hc11] at h
          refine am_Go.c1 htb (S' := (68, [some (.inr (.inr (some (10, 0)))), some (.inl x1), some (.inl x2), some (.inl x3), some (.inl x4), some (.inl x5), some (.inl x6)], [.inl x4], am_mk m)) (if_neg hc11) ?_
          refine am_Go.n htb 2 (S' := (71, [some (.inr (.inr (some (10, 0)))), some (.inl x1), some (.inl x2), some (.inl x3), some (.inl x4), some (.inl x5), some (.inl x6)], [.inl x6, .inr (.inr (some (10, 0))), .inl x4], am_mk m)) rfl ?_
          obtain ⟨r12, h13, h⟩ := am_bd h
          refine am_Go.cl htb rfl (ex_X10_sitsWith d (by omega) x6 m r12 h13) ?_
          show am_Go d 268 (74, [some (.inr (.inr (some (10, 0)))), some (.inl x1), some (.inl x2), some (.inl x3), some (.inl x4), some (.inl x5), some (.inl x6)], [.inl r12, .inl x4], am_mk m) _ _ _ _
          refine am_Go.n htb 1 (S' := (78, [some (.inr (.inr (some (10, 0)))), some (.inl x1), some (.inl x2), some (.inl x3), some (.inl x4), some (.inl x5), some (.inl x6)], [.inl r12, .inl x4], am_mk m)) rfl ?_
          cases h
          exact am_Go.fg (by exact ⟨rfl, ⟨rfl, ⟨rfl, ⟨rfl, ⟨rfl, ⟨rfl, ⟨rfl, trivial⟩⟩⟩⟩⟩⟩⟩) key
def lp_X10_circlesNow_35 : Nat → Int32 → Int32 → Int32 → Int32 → Int32 → am_m → Option (Int32)
  | 0, _, _, _, _, _, _ => none
  | n + 1, x1, x2, x3, x4, x5, m =>
  (if (7 : Int32) ≤ x5 then some x4 else (lp_X10_circlesNow_45 1000000 x1 x2 x3 x4 x5 0 m).bind fun q16 => lp_X10_circlesNow_35 n x1 x2 x3 q16 (x5 + 1) m)
set_option maxRecDepth 100000 in
theorem lt_X10_circlesNow_35 (d : Nat) (hd : 2 ≤ d + 1) {r : Option am_V} {M' : am_M} {kc ks : Nat} {n : Nat} {x1 : Int32} {x2 : Int32} {x3 : Int32} {x4 : Int32} {x5 : Int32} {m : am_m} {t : Int32} (h : lp_X10_circlesNow_35 n x1 x2 x3 x4 x5 m = some t) (hk : am_Go d 268 (93, [some (.inr (.inr (some (10, 0)))), some (.inl x1), some (.inl x2), some (.inl x3), some (.inl t), none, none], [], am_mk m) r M' kc ks) : am_Go d 268 (35, [some (.inr (.inr (some (10, 0)))), some (.inl x1), some (.inl x2), some (.inl x3), some (.inl x4), some (.inl x5), none], [], am_mk m) r M' kc ks := by
  have htb : am_tab 268 = at_268 := rfl
  induction n generalizing x4 x5 with
  | zero => cases h
  | succ n ih =>
    unfold lp_X10_circlesNow_35 at h
    refine am_Go.n htb 2 (S' := (39, [some (.inr (.inr (some (10, 0)))), some (.inl x1), some (.inl x2), some (.inl x3), some (.inl x4), some (.inl x5), none], [.inl 7, .inl x5], am_mk m)) rfl ?_
    by_cases hc6 : (7 : Int32) ≤ x5
    · rw [if_pos hc6] at h
      refine am_Go.c1 htb (S' := (93, [some (.inr (.inr (some (10, 0)))), some (.inl x1), some (.inl x2), some (.inl x3), some (.inl x4), some (.inl x5), none], [], am_mk m)) (if_pos hc6) ?_
      cases h
      exact am_Go.fg (by exact ⟨rfl, ⟨rfl, ⟨rfl, ⟨rfl, ⟨rfl, trivial⟩⟩⟩⟩⟩) hk
    · rw [if_neg hc6] at h
      refine am_Go.c1 htb (S' := (42, [some (.inr (.inr (some (10, 0)))), some (.inl x1), some (.inl x2), some (.inl x3), some (.inl x4), some (.inl x5), none], [], am_mk m)) (if_neg hc6) ?_
      refine am_Go.n htb 2 (S' := (45, [some (.inr (.inr (some (10, 0)))), some (.inl x1), some (.inl x2), some (.inl x3), some (.inl x4), some (.inl x5), some (.inl 0)], [], am_mk m)) rfl ?_
      obtain ⟨q16, h17, h⟩ := am_bd h
      refine lt_X10_circlesNow_45 _ hd (h := h17) (hk := ?_)
      refine am_Go.n htb 2 (S' := (35, [some (.inr (.inr (some (10, 0)))), some (.inl x1), some (.inl x2), some (.inl x3), some (.inl q16), some (.inl (x5 + 1)), none], [], am_mk m)) rfl ?_
      exact ih h hk
def lp_X10_circlesNow_6 : Nat → Int32 → Int32 → Int32 → am_m → Option (Int32)
  | 0, _, _, _, _ => none
  | n + 1, x1, x2, x3, m =>
  am_ck 0 5518 ((if (m.1 44 0 (0 : Int32).toNatClampNeg) ≤ x3 then some x2 else (fn_X10_is x1 x3 m).bind fun r3 => (if r3 ≠ 0 then some (x1, x2) else (lp_X10_circlesNow_35 1000000 x1 (x2 + 1) x3 ((1 : Int32) <<< (x3 &&& 31)) 0 m).bind fun q18 => some ((x1 ||| q18), (x2 + 1))).bind fun q20 => lp_X10_circlesNow_6 n q20.1 q20.2 (x3 + 1) m))
set_option maxRecDepth 100000 in
theorem lt_X10_circlesNow_6 (d : Nat) (hd : 2 ≤ d + 1) {r : Option am_V} {M' : am_M} {kc ks : Nat} {n : Nat} {x1 : Int32} {x2 : Int32} {x3 : Int32} {m : am_m} {t : Int32} (h : lp_X10_circlesNow_6 n x1 x2 x3 m = some t) (hk : am_Go d 268 (104, [some (.inr (.inr (some (10, 0)))), none, some (.inl t), none, none, none, none], [], am_mk m) r M' kc ks) : am_Go d 268 (6, [some (.inr (.inr (some (10, 0)))), some (.inl x1), some (.inl x2), some (.inl x3), none, none, none], [], am_mk m) r M' kc ks := by
  have htb : am_tab 268 = at_268 := rfl
  induction n generalizing x1 x2 x3 with
  | zero => cases h
  | succ n ih =>
    unfold lp_X10_circlesNow_6 at h
    refine am_Go.n htb 4 (S' := (12, [some (.inr (.inr (some (10, 0)))), some (.inl x1), some (.inl x2), some (.inl x3), none, none, none], [.inl 0, .inr (.inr (some (44, 0))), .inl x3], am_mk m)) rfl ?_
    obtain ⟨hg1, h⟩ := am_ck_some h
    refine am_Go.c1 htb (S' := (13, [some (.inr (.inr (some (10, 0)))), some (.inl x1), some (.inl x2), some (.inl x3), none, none, none], [.inl (m.1 44 0 (0 : Int32).toNatClampNeg), .inl x3], am_mk m)) (if_neg hg1) ?_
    by_cases hc2 : (m.1 44 0 (0 : Int32).toNatClampNeg) ≤ x3
    · rw [if_pos hc2] at h
      refine am_Go.c1 htb (S' := (104, [some (.inr (.inr (some (10, 0)))), some (.inl x1), some (.inl x2), some (.inl x3), none, none, none], [], am_mk m)) (if_pos hc2) ?_
      cases h
      exact am_Go.fg (by exact ⟨rfl, ⟨rfl, trivial⟩⟩) hk
    · rw [if_neg hc2] at h
      refine am_Go.c1 htb (S' := (16, [some (.inr (.inr (some (10, 0)))), some (.inl x1), some (.inl x2), some (.inl x3), none, none, none], [], am_mk m)) (if_neg hc2) ?_
      refine am_Go.n htb 2 (S' := (18, [some (.inr (.inr (some (10, 0)))), some (.inl x1), some (.inl x2), some (.inl x3), none, none, none], [.inl x3, .inl x1], am_mk m)) rfl ?_
      obtain ⟨r3, h4, h⟩ := am_bd h
      refine am_Go.cl htb rfl (ex_X10_is d (by omega) x1 x3 m r3 h4) ?_
      show am_Go d 268 (21, [some (.inr (.inr (some (10, 0)))), some (.inl x1), some (.inl x2), some (.inl x3), none, none, none], [.inl r3], am_mk m) _ _ _ _
      obtain ⟨q20, h21, h⟩ := am_bd h
      refine am_Go.cut (S := (98, [some (.inr (.inr (some (10, 0)))), some (.inl q20.1), some (.inl q20.2), some (.inl x3), none, none, none], [], am_mk m)) ?_ (fun key => ?_)
      · refine am_Go.n htb 2 (S' := (6, [some (.inr (.inr (some (10, 0)))), some (.inl q20.1), some (.inl q20.2), some (.inl (x3 + 1)), none, none, none], [], am_mk m)) rfl ?_
        exact ih h hk
      · have h := h21
        by_cases hc5 : r3 ≠ 0
        · rw [if_pos hc5] at h
          refine am_Go.c1 htb (S' := (98, [some (.inr (.inr (some (10, 0)))), some (.inl x1), some (.inl x2), some (.inl x3), none, none, none], [], am_mk m)) (if_pos hc5) ?_
          cases h
          exact am_Go.fg (by exact ⟨rfl, ⟨rfl, ⟨rfl, ⟨rfl, trivial⟩⟩⟩⟩) key
        · rw [if_neg hc5] at h
          refine am_Go.c1 htb (S' := (24, [some (.inr (.inr (some (10, 0)))), some (.inl x1), some (.inl x2), some (.inl x3), none, none, none], [], am_mk m)) (if_neg hc5) ?_
          refine am_Go.n htb 7 (S' := (35, [some (.inr (.inr (some (10, 0)))), some (.inl x1), some (.inl (x2 + 1)), some (.inl x3), some (.inl ((1 : Int32) <<< (x3 &&& 31))), some (.inl 0), none], [], am_mk m)) rfl ?_
          obtain ⟨q18, h19, h⟩ := am_bd h
          refine lt_X10_circlesNow_35 _ hd (h := h19) (hk := ?_)
          refine am_Go.n htb 4 (S' := (98, [some (.inr (.inr (some (10, 0)))), some (.inl (x1 ||| q18)), some (.inl (x2 + 1)), some (.inl x3), some (.inl q18), none, none], [], am_mk m)) rfl ?_
          cases h
          exact am_Go.fg (by exact ⟨rfl, ⟨rfl, ⟨rfl, ⟨rfl, trivial⟩⟩⟩⟩) key
def fn_X10_circlesNow  (m : am_m) : Option (Int32) :=
  (lp_X10_circlesNow_6 1000000 0 0 0 m).bind fun q22 => some q22
set_option maxRecDepth 100000 in
theorem ex_X10_circlesNow (d : Nat) (hd : 2 ≤ d)  (m : am_m) (t : Int32) (h : fn_X10_circlesNow  m = some t) : am_Ex am_cod d 268 [.inr (.inr (some (10, 0)))] (am_mk m) (some (.inl t)) (am_mk m) 0 0 := by
  obtain ⟨d, rfl⟩ : ∃ e, d = e + 1 := ⟨d - 1, by omega⟩
  have htb : am_tab 268 = at_268 := rfl
  refine ⟨Nat.le_of_ble_eq_true rfl, ?_⟩
  unfold fn_X10_circlesNow at h
  show am_Go d 268 (0, [some (.inr (.inr (some (10, 0)))), none, none, none, none, none, none], [], am_mk m) _ _ 0 0
  refine am_Go.n htb 6 (S' := (6, [some (.inr (.inr (some (10, 0)))), some (.inl 0), some (.inl 0), some (.inl 0), none, none, none], [], am_mk m)) rfl ?_
  obtain ⟨q22, h23, h⟩ := am_bd h
  refine lt_X10_circlesNow_6 _ hd (h := h23) (hk := ?_)
  refine am_Go.n htb 1 (S' := (105, [some (.inr (.inr (some (10, 0)))), none, some (.inl q22), none, none, none, none], [.inl q22], am_mk m)) rfl ?_
  cases h
  exact am_Go.r htb rfl
-- X10_circles
def fn_X10_circles  (m : am_m) : Option (Int32 × am_m) :=
  (fn_X10_layMay  (am_si m 10 0 0 0)).bind fun r1 => (fn_X10_circlesNow  r1).bind fun r3 => some (r3, r1)
set_option maxRecDepth 100000 in
theorem ex_X10_circles (d : Nat) (hd : 9 ≤ d)  (m : am_m) (t : Int32 × am_m) (h : fn_X10_circles  m = some t) : am_Ex am_cod d 269 [.inr (.inr (some (10, 0)))] (am_mk m) (some (.inl t.1)) (am_mk t.2) 0 0 := by
  obtain ⟨d, rfl⟩ : ∃ e, d = e + 1 := ⟨d - 1, by omega⟩
  have htb : am_tab 269 = at_269 := rfl
  refine ⟨Nat.le_of_ble_eq_true rfl, ?_⟩
  unfold fn_X10_circles at h
  show am_Go d 269 (0, [some (.inr (.inr (some (10, 0))))], [], am_mk m) _ _ 0 0
  refine am_Go.n htb 4 (S' := (6, [some (.inr (.inr (some (10, 0))))], [.inr (.inr (some (10, 0)))], am_mk (am_si m 10 0 0 0))) rfl ?_
  obtain ⟨r1, h2, h⟩ := am_bd h
  refine am_Go.cl htb rfl (ex_X10_layMay d (by omega)  (am_si m 10 0 0 0) r1 h2) ?_
  show am_Go d 269 (9, [some (.inr (.inr (some (10, 0))))], [], am_mk r1) _ _ _ _
  refine am_Go.n htb 1 (S' := (10, [some (.inr (.inr (some (10, 0))))], [.inr (.inr (some (10, 0)))], am_mk r1)) rfl ?_
  obtain ⟨r3, h4, h⟩ := am_bd h
  refine am_Go.cl htb rfl (ex_X10_circlesNow d (by omega)  r1 r3 h4) ?_
  show am_Go d 269 (13, [some (.inr (.inr (some (10, 0))))], [.inl r3], am_mk r1) _ _ _ _
  cases h
  exact am_Go.r htb rfl
-- X10_isBridge
def fn_X10_isBridge (a1 : Int32) (a2 : Int32) (m : am_m) : Option (Int32 × am_m) :=
  (fn_X10_circlesNow  m).bind fun r1 => am_gd ((0 : Int32) = 0 ∨ (0 : Int32) = 1) (am_ck (((7 : Int32) * a1) + a2) 49 (am_gd ((0 : Int32) = 0 ∨ (0 : Int32) = 1) (am_ck (((7 : Int32) * a2) + a1) 49 ((fn_X10_circlesNow  (am_si (am_si m 92 0 (((7 : Int32) * a1) + a2).toNatClampNeg 0) 92 0 (((7 : Int32) * a2) + a1).toNatClampNeg 0)).bind fun r7 => am_gd ((1 : Int32) = 0 ∨ (1 : Int32) = 1) (am_ck (((7 : Int32) * a1) + a2) 49 (am_gd ((1 : Int32) = 0 ∨ (1 : Int32) = 1) (am_ck (((7 : Int32) * a2) + a1) 49 (am_gd ((if r7 ≤ r1 then (0 : Int32) else (1 : Int32)) = 0 ∨ (if r7 ≤ r1 then (0 : Int32) else (1 : Int32)) = 1) (some ((if r7 ≤ r1 then (0 : Int32) else (1 : Int32)), am_si (am_si (am_si (am_si m 92 0 (((7 : Int32) * a1) + a2).toNatClampNeg 0) 92 0 (((7 : Int32) * a2) + a1).toNatClampNeg 0) 92 0 (((7 : Int32) * a1) + a2).toNatClampNeg 1) 92 0 (((7 : Int32) * a2) + a1).toNatClampNeg 1))))))))))
set_option maxRecDepth 100000 in
theorem ex_X10_isBridge (d : Nat) (hd : 3 ≤ d) (a1 : Int32) (a2 : Int32) (m : am_m) (t : Int32 × am_m) (h : fn_X10_isBridge a1 a2 m = some t) : am_Ex am_cod d 270 [.inr (.inr (some (10, 0))), .inl a1, .inl a2] (am_mk m) (some (.inl t.1)) (am_mk t.2) 0 0 := by
  obtain ⟨d, rfl⟩ : ∃ e, d = e + 1 := ⟨d - 1, by omega⟩
  have htb : am_tab 270 = at_270 := rfl
  refine ⟨Nat.le_of_ble_eq_true rfl, ?_⟩
  unfold fn_X10_isBridge at h
  show am_Go d 270 (0, [some (.inr (.inr (some (10, 0)))), some (.inl a1), some (.inl a2), none, none], [], am_mk m) _ _ 0 0
  refine am_Go.n htb 1 (S' := (1, [some (.inr (.inr (some (10, 0)))), some (.inl a1), some (.inl a2), none, none], [.inr (.inr (some (10, 0)))], am_mk m)) rfl ?_
  obtain ⟨r1, h2, h⟩ := am_bd h
  refine am_Go.cl htb rfl (ex_X10_circlesNow d (by omega)  m r1 h2) ?_
  show am_Go d 270 (4, [some (.inr (.inr (some (10, 0)))), some (.inl a1), some (.inl a2), none, none], [.inl r1], am_mk m) _ _ _ _
  refine am_Go.n htb 9 (S' := (16, [some (.inr (.inr (some (10, 0)))), some (.inl a1), some (.inl a2), some (.inl r1), none], [.inl 0, .inl (((7 : Int32) * a1) + a2), .inr (.inr (some (92, 0)))], am_mk m)) rfl ?_
  obtain ⟨hz4, h⟩ := am_gd_some h
  obtain ⟨hg3, h⟩ := am_ck_some h
  refine am_Go.c1 htb (S' := (17, [some (.inr (.inr (some (10, 0)))), some (.inl a1), some (.inl a2), some (.inl r1), none], [], am_mk (am_si m 92 0 (((7 : Int32) * a1) + a2).toNatClampNeg 0))) ((if_pos hz4).trans (if_neg hg3)) ?_
  refine am_Go.n htb 8 (S' := (28, [some (.inr (.inr (some (10, 0)))), some (.inl a1), some (.inl a2), some (.inl r1), none], [.inl 0, .inl (((7 : Int32) * a2) + a1), .inr (.inr (some (92, 0)))], am_mk (am_si m 92 0 (((7 : Int32) * a1) + a2).toNatClampNeg 0))) rfl ?_
  obtain ⟨hz6, h⟩ := am_gd_some h
  obtain ⟨hg5, h⟩ := am_ck_some h
  refine am_Go.c1 htb (S' := (29, [some (.inr (.inr (some (10, 0)))), some (.inl a1), some (.inl a2), some (.inl r1), none], [], am_mk (am_si (am_si m 92 0 (((7 : Int32) * a1) + a2).toNatClampNeg 0) 92 0 (((7 : Int32) * a2) + a1).toNatClampNeg 0))) ((if_pos hz6).trans (if_neg hg5)) ?_
  refine am_Go.n htb 1 (S' := (30, [some (.inr (.inr (some (10, 0)))), some (.inl a1), some (.inl a2), some (.inl r1), none], [.inr (.inr (some (10, 0)))], am_mk (am_si (am_si m 92 0 (((7 : Int32) * a1) + a2).toNatClampNeg 0) 92 0 (((7 : Int32) * a2) + a1).toNatClampNeg 0))) rfl ?_
  obtain ⟨r7, h8, h⟩ := am_bd h
  refine am_Go.cl htb rfl (ex_X10_circlesNow d (by omega)  (am_si (am_si m 92 0 (((7 : Int32) * a1) + a2).toNatClampNeg 0) 92 0 (((7 : Int32) * a2) + a1).toNatClampNeg 0) r7 h8) ?_
  show am_Go d 270 (33, [some (.inr (.inr (some (10, 0)))), some (.inl a1), some (.inl a2), some (.inl r1), none], [.inl r7], am_mk (am_si (am_si m 92 0 (((7 : Int32) * a1) + a2).toNatClampNeg 0) 92 0 (((7 : Int32) * a2) + a1).toNatClampNeg 0)) _ _ _ _
  refine am_Go.n htb 1 (S' := (34, [some (.inr (.inr (some (10, 0)))), some (.inl a1), some (.inl a2), some (.inl r1), none], [.inl r1, .inl r7], am_mk (am_si (am_si m 92 0 (((7 : Int32) * a1) + a2).toNatClampNeg 0) 92 0 (((7 : Int32) * a2) + a1).toNatClampNeg 0))) rfl ?_
  refine am_Go.cut (S := (42, [some (.inr (.inr (some (10, 0)))), some (.inl a1), some (.inl a2), some (.inl r1), none], [.inl (if r7 ≤ r1 then (0 : Int32) else (1 : Int32))], am_mk (am_si (am_si m 92 0 (((7 : Int32) * a1) + a2).toNatClampNeg 0) 92 0 (((7 : Int32) * a2) + a1).toNatClampNeg 0))) ?_ (fun key => ?_)
  · refine am_Go.n htb 9 (S' := (55, [some (.inr (.inr (some (10, 0)))), some (.inl a1), some (.inl a2), some (.inl r1), some (.inl (if r7 ≤ r1 then (0 : Int32) else (1 : Int32)))], [.inl 1, .inl (((7 : Int32) * a1) + a2), .inr (.inr (some (92, 0)))], am_mk (am_si (am_si m 92 0 (((7 : Int32) * a1) + a2).toNatClampNeg 0) 92 0 (((7 : Int32) * a2) + a1).toNatClampNeg 0))) rfl ?_
    obtain ⟨hz11, h⟩ := am_gd_some h
    obtain ⟨hg10, h⟩ := am_ck_some h
    refine am_Go.c1 htb (S' := (56, [some (.inr (.inr (some (10, 0)))), some (.inl a1), some (.inl a2), some (.inl r1), some (.inl (if r7 ≤ r1 then (0 : Int32) else (1 : Int32)))], [], am_mk (am_si (am_si (am_si m 92 0 (((7 : Int32) * a1) + a2).toNatClampNeg 0) 92 0 (((7 : Int32) * a2) + a1).toNatClampNeg 0) 92 0 (((7 : Int32) * a1) + a2).toNatClampNeg 1))) ((if_pos hz11).trans (if_neg hg10)) ?_
    refine am_Go.n htb 8 (S' := (67, [some (.inr (.inr (some (10, 0)))), some (.inl a1), some (.inl a2), some (.inl r1), some (.inl (if r7 ≤ r1 then (0 : Int32) else (1 : Int32)))], [.inl 1, .inl (((7 : Int32) * a2) + a1), .inr (.inr (some (92, 0)))], am_mk (am_si (am_si (am_si m 92 0 (((7 : Int32) * a1) + a2).toNatClampNeg 0) 92 0 (((7 : Int32) * a2) + a1).toNatClampNeg 0) 92 0 (((7 : Int32) * a1) + a2).toNatClampNeg 1))) rfl ?_
    obtain ⟨hz13, h⟩ := am_gd_some h
    obtain ⟨hg12, h⟩ := am_ck_some h
    refine am_Go.c1 htb (S' := (68, [some (.inr (.inr (some (10, 0)))), some (.inl a1), some (.inl a2), some (.inl r1), some (.inl (if r7 ≤ r1 then (0 : Int32) else (1 : Int32)))], [], am_mk (am_si (am_si (am_si (am_si m 92 0 (((7 : Int32) * a1) + a2).toNatClampNeg 0) 92 0 (((7 : Int32) * a2) + a1).toNatClampNeg 0) 92 0 (((7 : Int32) * a1) + a2).toNatClampNeg 1) 92 0 (((7 : Int32) * a2) + a1).toNatClampNeg 1))) ((if_pos hz13).trans (if_neg hg12)) ?_
    refine am_Go.n htb 1 (S' := (70, [some (.inr (.inr (some (10, 0)))), some (.inl a1), some (.inl a2), some (.inl r1), some (.inl (if r7 ≤ r1 then (0 : Int32) else (1 : Int32)))], [.inl (if r7 ≤ r1 then (0 : Int32) else (1 : Int32))], am_mk (am_si (am_si (am_si (am_si m 92 0 (((7 : Int32) * a1) + a2).toNatClampNeg 0) 92 0 (((7 : Int32) * a2) + a1).toNatClampNeg 0) 92 0 (((7 : Int32) * a1) + a2).toNatClampNeg 1) 92 0 (((7 : Int32) * a2) + a1).toNatClampNeg 1))) rfl ?_
    obtain ⟨hz14, h⟩ := am_gd_some h
    cases h
    exact am_Go.r htb (if_pos hz14)
  · by_cases hc9 : r7 ≤ r1
    · refine am_Go.c1 htb (S' := (41, [some (.inr (.inr (some (10, 0)))), some (.inl a1), some (.inl a2), some (.inl r1), none], [], am_mk (am_si (am_si m 92 0 (((7 : Int32) * a1) + a2).toNatClampNeg 0) 92 0 (((7 : Int32) * a2) + a1).toNatClampNeg 0))) (if_pos hc9) ?_
      refine am_Go.n htb 1 (S' := (42, [some (.inr (.inr (some (10, 0)))), some (.inl a1), some (.inl a2), some (.inl r1), none], [.inl 0], am_mk (am_si (am_si m 92 0 (((7 : Int32) * a1) + a2).toNatClampNeg 0) 92 0 (((7 : Int32) * a2) + a1).toNatClampNeg 0))) rfl ?_
      simp only [if_pos hc9] at key
      exact am_Go.fg (by exact ⟨rfl, ⟨rfl, ⟨rfl, ⟨rfl, trivial⟩⟩⟩⟩) key
    · refine am_Go.c1 htb (S' := (37, [some (.inr (.inr (some (10, 0)))), some (.inl a1), some (.inl a2), some (.inl r1), none], [], am_mk (am_si (am_si m 92 0 (((7 : Int32) * a1) + a2).toNatClampNeg 0) 92 0 (((7 : Int32) * a2) + a1).toNatClampNeg 0))) (if_neg hc9) ?_
      refine am_Go.n htb 2 (S' := (42, [some (.inr (.inr (some (10, 0)))), some (.inl a1), some (.inl a2), some (.inl r1), none], [.inl 1], am_mk (am_si (am_si m 92 0 (((7 : Int32) * a1) + a2).toNatClampNeg 0) 92 0 (((7 : Int32) * a2) + a1).toNatClampNeg 0))) rfl ?_
      simp only [if_neg hc9] at key
      exact am_Go.fg (by exact ⟨rfl, ⟨rfl, ⟨rfl, ⟨rfl, trivial⟩⟩⟩⟩) key
