-- X10_isLaw
def fn_X10_isLaw (a1 : Int32) (m : am_m) : Option (Int32) :=
  (if a1 = (-1 : Int32) then some 1 else am_ck 2 5518 ((fn_X10_in a1.toInt64 0 (((m.1 44 0 (2 : Int32).toNatClampNeg).toInt64) - (1 : Int64)) m).bind fun r3 => (if r3 = 0 then some 0 else some 1)))
set_option maxRecDepth 100000 in
theorem ex_X10_isLaw (d : Nat) (hd : 2 ≤ d) (a1 : Int32) (m : am_m) (t : Int32) (h : fn_X10_isLaw a1 m = some t) : am_Ex am_cod d 230 [.inr (.inr (some (10, 0))), .inl a1] (am_mk m) (some (.inl t)) (am_mk m) 0 0 := by
  obtain ⟨d, rfl⟩ : ∃ e, d = e + 1 := ⟨d - 1, by omega⟩
  have htb : am_tab 230 = at_230 := rfl
  refine ⟨Nat.le_of_ble_eq_true rfl, ?_⟩
  unfold fn_X10_isLaw at h
  show am_Go d 230 (0, [some (.inr (.inr (some (10, 0)))), some (.inl a1)], [], am_mk m) _ _ 0 0
  refine am_Go.n htb 2 (S' := (2, [some (.inr (.inr (some (10, 0)))), some (.inl a1)], [.inl (-1), .inl a1], am_mk m)) rfl ?_
  by_cases hc1 : a1 = (-1 : Int32)
  · rw [if_pos hc1] at h
    refine am_Go.c1 htb (S' := (23, [some (.inr (.inr (some (10, 0)))), some (.inl a1)], [], am_mk m)) (if_pos hc1) ?_
    refine am_Go.n htb 2 (S' := (28, [some (.inr (.inr (some (10, 0)))), some (.inl a1)], [.inl 1], am_mk m)) rfl ?_
    cases h
    exact am_Go.r htb rfl
  · rw [if_neg hc1] at h
    refine am_Go.c1 htb (S' := (5, [some (.inr (.inr (some (10, 0)))), some (.inl a1)], [], am_mk m)) (if_neg hc1) ?_
    refine am_Go.n htb 6 (S' := (13, [some (.inr (.inr (some (10, 0)))), some (.inl a1)], [.inl 2, .inr (.inr (some (44, 0))), .inr (.inl 0), .inr (.inl a1.toInt64)], am_mk m)) rfl ?_
    obtain ⟨hg2, h⟩ := am_ck_some h
    refine am_Go.c1 htb (S' := (14, [some (.inr (.inr (some (10, 0)))), some (.inl a1)], [.inl (m.1 44 0 (2 : Int32).toNatClampNeg), .inr (.inl 0), .inr (.inl a1.toInt64)], am_mk m)) (if_neg hg2) ?_
    refine am_Go.n htb 3 (S' := (17, [some (.inr (.inr (some (10, 0)))), some (.inl a1)], [.inr (.inl (((m.1 44 0 (2 : Int32).toNatClampNeg).toInt64) - (1 : Int64))), .inr (.inl 0), .inr (.inl a1.toInt64)], am_mk m)) rfl ?_
    obtain ⟨r3, h4, h⟩ := am_bd h
    refine am_Go.cl htb rfl (ex_X10_in d (by omega) a1.toInt64 0 (((m.1 44 0 (2 : Int32).toNatClampNeg).toInt64) - (1 : Int64)) m r3 h4) ?_
    show am_Go d 230 (20, [some (.inr (.inr (some (10, 0)))), some (.inl a1)], [.inl r3], am_mk m) _ _ _ _
    by_cases hc5 : r3 = 0
    · rw [if_pos hc5] at h
      refine am_Go.c1 htb (S' := (27, [some (.inr (.inr (some (10, 0)))), some (.inl a1)], [], am_mk m)) (if_pos hc5) ?_
      refine am_Go.n htb 1 (S' := (28, [some (.inr (.inr (some (10, 0)))), some (.inl a1)], [.inl 0], am_mk m)) rfl ?_
      cases h
      exact am_Go.r htb rfl
    · rw [if_neg hc5] at h
      refine am_Go.c1 htb (S' := (23, [some (.inr (.inr (some (10, 0)))), some (.inl a1)], [], am_mk m)) (if_neg hc5) ?_
      refine am_Go.n htb 2 (S' := (28, [some (.inr (.inr (some (10, 0)))), some (.inl a1)], [.inl 1], am_mk m)) rfl ?_
      cases h
      exact am_Go.r htb rfl
-- X10_force
def fn_X10_force (a1 : Int32) (m : am_m) : Option (Int32 × am_m) :=
  (fn_X10_isLaw a1 (am_si m 10 0 0 0)).bind fun r1 => (if r1 = 0 then (fn_X10_tell (-2) (am_si m 10 0 0 0)).bind fun r4 => some (r4.1, r4.2) else (fn_X10_change 3 a1 (am_si m 10 0 0 0)).bind fun r6 => some (r6.1, r6.2))
set_option maxRecDepth 100000 in
theorem ex_X10_force (d : Nat) (hd : 3 ≤ d) (a1 : Int32) (m : am_m) (t : Int32 × am_m) (h : fn_X10_force a1 m = some t) : am_Ex am_cod d 231 [.inr (.inr (some (10, 0))), .inl a1] (am_mk m) (some (.inl t.1)) (am_mk t.2) 0 0 := by
  obtain ⟨d, rfl⟩ : ∃ e, d = e + 1 := ⟨d - 1, by omega⟩
  have htb : am_tab 231 = at_231 := rfl
  refine ⟨Nat.le_of_ble_eq_true rfl, ?_⟩
  unfold fn_X10_force at h
  show am_Go d 231 (0, [some (.inr (.inr (some (10, 0)))), some (.inl a1)], [], am_mk m) _ _ 0 0
  refine am_Go.n htb 5 (S' := (7, [some (.inr (.inr (some (10, 0)))), some (.inl a1)], [.inl a1, .inr (.inr (some (10, 0)))], am_mk (am_si m 10 0 0 0))) rfl ?_
  obtain ⟨r1, h2, h⟩ := am_bd h
  refine am_Go.cl htb rfl (ex_X10_isLaw d (by omega) a1 (am_si m 10 0 0 0) r1 h2) ?_
  show am_Go d 231 (10, [some (.inr (.inr (some (10, 0)))), some (.inl a1)], [.inl r1], am_mk (am_si m 10 0 0 0)) _ _ _ _
  by_cases hc3 : r1 = 0
  · rw [if_pos hc3] at h
    refine am_Go.c1 htb (S' := (22, [some (.inr (.inr (some (10, 0)))), some (.inl a1)], [], am_mk (am_si m 10 0 0 0))) (if_pos hc3) ?_
    refine am_Go.n htb 2 (S' := (25, [some (.inr (.inr (some (10, 0)))), some (.inl a1)], [.inl (-2), .inr (.inr (some (10, 0)))], am_mk (am_si m 10 0 0 0))) rfl ?_
    obtain ⟨r4, h5, h⟩ := am_bd h
    refine am_Go.cl htb rfl (ex_X10_tell d (by omega) (-2) (am_si m 10 0 0 0) r4 h5) ?_
    show am_Go d 231 (28, [some (.inr (.inr (some (10, 0)))), some (.inl a1)], [.inl r4.1], am_mk r4.2) _ _ _ _
    cases h
    exact am_Go.r htb rfl
  · rw [if_neg hc3] at h
    refine am_Go.c1 htb (S' := (13, [some (.inr (.inr (some (10, 0)))), some (.inl a1)], [], am_mk (am_si m 10 0 0 0))) (if_neg hc3) ?_
    refine am_Go.n htb 3 (S' := (16, [some (.inr (.inr (some (10, 0)))), some (.inl a1)], [.inl a1, .inl 3, .inr (.inr (some (10, 0)))], am_mk (am_si m 10 0 0 0))) rfl ?_
    obtain ⟨r6, h7, h⟩ := am_bd h
    refine am_Go.cl htb rfl (ex_X10_change d (by omega) 3 a1 (am_si m 10 0 0 0) r6 h7) ?_
    show am_Go d 231 (19, [some (.inr (.inr (some (10, 0)))), some (.inl a1)], [.inl r6.1], am_mk r6.2) _ _ _ _
    refine am_Go.n htb 1 (S' := (28, [some (.inr (.inr (some (10, 0)))), some (.inl a1)], [.inl r6.1], am_mk r6.2)) rfl ?_
    cases h
    exact am_Go.r htb rfl
-- X10_feedsAt
def fn_X10_feedsAt (a1 : Int32) (a2 : Int32) (m : am_m) : Option (Int32 × am_m) :=
  (fn_X10_tells 1 a1 (-1) a2 2 m).bind fun r1 => (fn_X10_bounded r1.1 0 9 r1.2).bind fun r3 => some (r3, r1.2)
set_option maxRecDepth 100000 in
theorem ex_X10_feedsAt (d : Nat) (hd : 6 ≤ d) (a1 : Int32) (a2 : Int32) (m : am_m) (t : Int32 × am_m) (h : fn_X10_feedsAt a1 a2 m = some t) : am_Ex am_cod d 237 [.inr (.inr (some (10, 0))), .inl a1, .inl a2] (am_mk m) (some (.inl t.1)) (am_mk t.2) 0 0 := by
  obtain ⟨d, rfl⟩ : ∃ e, d = e + 1 := ⟨d - 1, by omega⟩
  have htb : am_tab 237 = at_237 := rfl
  refine ⟨Nat.le_of_ble_eq_true rfl, ?_⟩
  unfold fn_X10_feedsAt at h
  show am_Go d 237 (0, [some (.inr (.inr (some (10, 0)))), some (.inl a1), some (.inl a2)], [], am_mk m) _ _ 0 0
  refine am_Go.n htb 6 (S' := (8, [some (.inr (.inr (some (10, 0)))), some (.inl a1), some (.inl a2)], [.inr (.inl 2), .inl a2, .inl (-1), .inl a1, .inl 1, .inr (.inr (some (10, 0)))], am_mk m)) rfl ?_
  obtain ⟨r1, h2, h⟩ := am_bd h
  refine am_Go.cl htb rfl (ex_X10_tells d (by omega) 1 a1 (-1) a2 2 m r1 h2) ?_
  show am_Go d 237 (11, [some (.inr (.inr (some (10, 0)))), some (.inl a1), some (.inl a2)], [.inr (.inl r1.1)], am_mk r1.2) _ _ _ _
  refine am_Go.n htb 2 (S' := (14, [some (.inr (.inr (some (10, 0)))), some (.inl a1), some (.inl a2)], [.inl 9, .inl 0, .inr (.inl r1.1)], am_mk r1.2)) rfl ?_
  obtain ⟨r3, h4, h⟩ := am_bd h
  refine am_Go.cl htb rfl (ex_X10_bounded d (by omega) r1.1 0 9 r1.2 r3 h4) ?_
  show am_Go d 237 (17, [some (.inr (.inr (some (10, 0)))), some (.inl a1), some (.inl a2)], [.inl r3], am_mk r1.2) _ _ _ _
  cases h
  exact am_Go.r htb rfl
-- X10_isTable
def lp_X10_isTable_16 : Nat → Int32 → Int32 → Int32 → am_m → Option (Int32)
  | 0, _, _, _, _ => none
  | n + 1, x1, x2, x3, m =>
  am_ck 0 5518 ((if (m.1 44 0 (0 : Int32).toNatClampNeg) ≤ x3 then some x2 else (if x2 = 0 then some x2 else (fn_X10_is x1 x3 m).bind fun r7 => (if r7 = 0 then some 1 else (fn_X10_sitsWith x3 m).bind fun r10 => (if ((x1 &&& (((1 : Int32) <<< (x3 &&& 31)) ^^^ (-1 : Int32))) &&& (r10 ^^^ (-1 : Int32))) ≠ 0 then some 0 else some 1)).bind fun q13 => lp_X10_isTable_16 n x1 q13 (x3 + 1) m)))
set_option maxRecDepth 100000 in
theorem lt_X10_isTable_16 (d : Nat) (hd : 2 ≤ d + 1) {r : Option am_V} {M' : am_M} {kc ks : Nat} {n : Nat} {x1 : Int32} {x2 : Int32} {x3 : Int32} {m : am_m} {t : Int32} (h : lp_X10_isTable_16 n x1 x2 x3 m = some t) (hk : am_Go d 243 (68, [some (.inr (.inr (some (10, 0)))), some (.inl x1), some (.inl t), none], [], am_mk m) r M' kc ks) : am_Go d 243 (16, [some (.inr (.inr (some (10, 0)))), some (.inl x1), some (.inl x2), some (.inl x3)], [], am_mk m) r M' kc ks := by
  have htb : am_tab 243 = at_243 := rfl
  induction n generalizing x2 x3 with
  | zero => cases h
  | succ n ih =>
    unfold lp_X10_isTable_16 at h
    refine am_Go.n htb 4 (S' := (22, [some (.inr (.inr (some (10, 0)))), some (.inl x1), some (.inl x2), some (.inl x3)], [.inl 0, .inr (.inr (some (44, 0))), .inl x3], am_mk m)) rfl ?_
    obtain ⟨hg4, h⟩ := am_ck_some h
    refine am_Go.c1 htb (S' := (23, [some (.inr (.inr (some (10, 0)))), some (.inl x1), some (.inl x2), some (.inl x3)], [.inl (m.1 44 0 (0 : Int32).toNatClampNeg), .inl x3], am_mk m)) (if_neg hg4) ?_
    by_cases hc5 : (m.1 44 0 (0 : Int32).toNatClampNeg) ≤ x3
    · rw [if_pos hc5] at h
      refine am_Go.c1 htb (S' := (68, [some (.inr (.inr (some (10, 0)))), some (.inl x1), some (.inl x2), some (.inl x3)], [], am_mk m)) (if_pos hc5) ?_
      cases h
      exact am_Go.fg (by exact ⟨rfl, ⟨rfl, ⟨rfl, trivial⟩⟩⟩) hk
    · rw [if_neg hc5] at h
      refine am_Go.c1 htb (S' := (26, [some (.inr (.inr (some (10, 0)))), some (.inl x1), some (.inl x2), some (.inl x3)], [], am_mk m)) (if_neg hc5) ?_
      refine am_Go.n htb 1 (S' := (27, [some (.inr (.inr (some (10, 0)))), some (.inl x1), some (.inl x2), some (.inl x3)], [.inl x2], am_mk m)) rfl ?_
      by_cases hc6 : x2 = 0
      · rw [if_pos hc6] at h
        refine am_Go.c1 htb (S' := (68, [some (.inr (.inr (some (10, 0)))), some (.inl x1), some (.inl x2), some (.inl x3)], [], am_mk m)) (if_pos hc6) ?_
        cases h
        exact am_Go.fg (by exact ⟨rfl, ⟨rfl, ⟨rfl, trivial⟩⟩⟩) hk
      · rw [if_neg hc6] at h
        refine am_Go.c1 htb (S' := (30, [some (.inr (.inr (some (10, 0)))), some (.inl x1), some (.inl x2), some (.inl x3)], [], am_mk m)) (if_neg hc6) ?_
        refine am_Go.n htb 2 (S' := (32, [some (.inr (.inr (some (10, 0)))), some (.inl x1), some (.inl x2), some (.inl x3)], [.inl x3, .inl x1], am_mk m)) rfl ?_
        obtain ⟨r7, h8, h⟩ := am_bd h
        refine am_Go.cl htb rfl (ex_X10_is d (by omega) x1 x3 m r7 h8) ?_
        show am_Go d 243 (35, [some (.inr (.inr (some (10, 0)))), some (.inl x1), some (.inl x2), some (.inl x3)], [.inl r7], am_mk m) _ _ _ _
        obtain ⟨q13, h14, h⟩ := am_bd h
        refine am_Go.cut (S := (61, [some (.inr (.inr (some (10, 0)))), some (.inl x1), some (.inl x2), some (.inl x3)], [.inl q13], am_mk m)) ?_ (fun key => ?_)
        · refine am_Go.n htb 3 (S' := (16, [some (.inr (.inr (some (10, 0)))), some (.inl x1), some (.inl q13), some (.inl (x3 + 1))], [], am_mk m)) rfl ?_
          exact ih h hk
        · have h := h14
          by_cases hc9 : r7 = 0
          · rw [if_pos hc9] at h
            refine am_Go.c1 htb (S' := (56, [some (.inr (.inr (some (10, 0)))), some (.inl x1), some (.inl x2), some (.inl x3)], [], am_mk m)) (if_pos hc9) ?_
            refine am_Go.n htb 2 (S' := (61, [some (.inr (.inr (some (10, 0)))), some (.inl x1), some (.inl x2), some (.inl x3)], [.inl 1], am_mk m)) rfl ?_
            cases h
            exact am_Go.fg (by exact ⟨rfl, ⟨rfl, ⟨rfl, ⟨rfl, trivial⟩⟩⟩⟩) key
          · rw [if_neg hc9] at h
            refine am_Go.c1 htb (S' := (38, [some (.inr (.inr (some (10, 0)))), some (.inl x1), some (.inl x2), some (.inl x3)], [], am_mk m)) (if_neg hc9) ?_
            refine am_Go.n htb 9 (S' := (47, [some (.inr (.inr (some (10, 0)))), some (.inl x1), some (.inl x2), some (.inl x3)], [.inl x3, .inr (.inr (some (10, 0))), .inl (x1 &&& (((1 : Int32) <<< (x3 &&& 31)) ^^^ (-1 : Int32)))], am_mk m)) rfl ?_
            obtain ⟨r10, h11, h⟩ := am_bd h
            refine am_Go.cl htb rfl (ex_X10_sitsWith d (by omega) x3 m r10 h11) ?_
            show am_Go d 243 (50, [some (.inr (.inr (some (10, 0)))), some (.inl x1), some (.inl x2), some (.inl x3)], [.inl r10, .inl (x1 &&& (((1 : Int32) <<< (x3 &&& 31)) ^^^ (-1 : Int32)))], am_mk m) _ _ _ _
            refine am_Go.n htb 3 (S' := (53, [some (.inr (.inr (some (10, 0)))), some (.inl x1), some (.inl x2), some (.inl x3)], [.inl ((x1 &&& (((1 : Int32) <<< (x3 &&& 31)) ^^^ (-1 : Int32))) &&& (r10 ^^^ (-1 : Int32)))], am_mk m)) rfl ?_
            by_cases hc12 : ((x1 &&& (((1 : Int32) <<< (x3 &&& 31)) ^^^ (-1 : Int32))) &&& (r10 ^^^ (-1 : Int32))) ≠ 0
            · rw [if_pos hc12] at h
              refine am_Go.c1 htb (S' := (60, [some (.inr (.inr (some (10, 0)))), some (.inl x1), some (.inl x2), some (.inl x3)], [], am_mk m)) (if_pos hc12) ?_
              refine am_Go.n htb 1 (S' := (61, [some (.inr (.inr (some (10, 0)))), some (.inl x1), some (.inl x2), some (.inl x3)], [.inl 0], am_mk m)) rfl ?_
              cases h
              exact am_Go.fg (by exact ⟨rfl, ⟨rfl, ⟨rfl, ⟨rfl, trivial⟩⟩⟩⟩) key
            · rw [if_neg hc12] at h
              refine am_Go.c1 htb (S' := (56, [some (.inr (.inr (some (10, 0)))), some (.inl x1), some (.inl x2), some (.inl x3)], [], am_mk m)) (if_neg hc12) ?_
              refine am_Go.n htb 2 (S' := (61, [some (.inr (.inr (some (10, 0)))), some (.inl x1), some (.inl x2), some (.inl x3)], [.inl 1], am_mk m)) rfl ?_
              cases h
              exact am_Go.fg (by exact ⟨rfl, ⟨rfl, ⟨rfl, ⟨rfl, trivial⟩⟩⟩⟩) key
def fn_X10_isTable (a1 : Int32) (m : am_m) : Option (Int32) :=
  (fn_X10_ones a1 m).bind fun r1 => (lp_X10_isTable_16 1000000 a1 (if r1 ≤ (1 : Int32) then (0 : Int32) else (1 : Int32)) 0 m).bind fun q15 => am_gd (q15 = 0 ∨ q15 = 1) (some q15)
set_option maxRecDepth 100000 in
theorem ex_X10_isTable (d : Nat) (hd : 2 ≤ d) (a1 : Int32) (m : am_m) (t : Int32) (h : fn_X10_isTable a1 m = some t) : am_Ex am_cod d 243 [.inr (.inr (some (10, 0))), .inl a1] (am_mk m) (some (.inl t)) (am_mk m) 0 0 := by
  obtain ⟨d, rfl⟩ : ∃ e, d = e + 1 := ⟨d - 1, by omega⟩
  have htb : am_tab 243 = at_243 := rfl
  refine ⟨Nat.le_of_ble_eq_true rfl, ?_⟩
  unfold fn_X10_isTable at h
  show am_Go d 243 (0, [some (.inr (.inr (some (10, 0)))), some (.inl a1), none, none], [], am_mk m) _ _ 0 0
  refine am_Go.n htb 1 (S' := (1, [some (.inr (.inr (some (10, 0)))), some (.inl a1), none, none], [.inl a1], am_mk m)) rfl ?_
  obtain ⟨r1, h2, h⟩ := am_bd h
  refine am_Go.cl htb rfl (ex_X10_ones d (by omega) a1 m r1 h2) ?_
  show am_Go d 243 (4, [some (.inr (.inr (some (10, 0)))), some (.inl a1), none, none], [.inl r1], am_mk m) _ _ _ _
  refine am_Go.n htb 1 (S' := (5, [some (.inr (.inr (some (10, 0)))), some (.inl a1), none, none], [.inl 1, .inl r1], am_mk m)) rfl ?_
  refine am_Go.cut (S := (13, [some (.inr (.inr (some (10, 0)))), some (.inl a1), none, none], [.inl (if r1 ≤ (1 : Int32) then (0 : Int32) else (1 : Int32))], am_mk m)) ?_ (fun key => ?_)
  · refine am_Go.n htb 3 (S' := (16, [some (.inr (.inr (some (10, 0)))), some (.inl a1), some (.inl (if r1 ≤ (1 : Int32) then (0 : Int32) else (1 : Int32))), some (.inl 0)], [], am_mk m)) rfl ?_
    obtain ⟨q15, h16, h⟩ := am_bd h
    refine lt_X10_isTable_16 _ hd (h := h16) (hk := ?_)
    refine am_Go.n htb 1 (S' := (69, [some (.inr (.inr (some (10, 0)))), some (.inl a1), some (.inl q15), none], [.inl q15], am_mk m)) rfl ?_
    obtain ⟨hz17, h⟩ := am_gd_some h
    cases h
    exact am_Go.r htb (if_pos hz17)
  · by_cases hc3 : r1 ≤ (1 : Int32)
    · refine am_Go.c1 htb (S' := (12, [some (.inr (.inr (some (10, 0)))), some (.inl a1), none, none], [], am_mk m)) (if_pos hc3) ?_
      refine am_Go.n htb 1 (S' := (13, [some (.inr (.inr (some (10, 0)))), some (.inl a1), none, none], [.inl 0], am_mk m)) rfl ?_
      simp only [if_pos hc3] at key
      exact am_Go.fg (by exact ⟨rfl, ⟨rfl, trivial⟩⟩) key
    · refine am_Go.c1 htb (S' := (8, [some (.inr (.inr (some (10, 0)))), some (.inl a1), none, none], [], am_mk m)) (if_neg hc3) ?_
      refine am_Go.n htb 2 (S' := (13, [some (.inr (.inr (some (10, 0)))), some (.inl a1), none, none], [.inl 1], am_mk m)) rfl ?_
      simp only [if_neg hc3] at key
      exact am_Go.fg (by exact ⟨rfl, ⟨rfl, trivial⟩⟩) key
-- X10_harmNow
def fn_X10_harmNow (a1 : Int32) (a2 : Int32) (a3 : Int32) (m : am_m) : Option (Int32 × am_m) :=
  (fn_X10_in a3.toInt64 1 9 m).bind fun r1 => (if r1 = 0 then some ((-1), m) else (if a1 ≠ a2 then (fn_X10_isFolk a1 m).bind fun r5 => (if r5 = 0 then some ((-2), m) else (fn_X10_isFolk a2 m).bind fun r8 => (if r8 ≠ 0 then (fn_X10_weightOf a1 a2 m).bind fun r11 => (if r11 ≠ a3 then (fn_X10_remember 0 m).bind fun r14 => (fn_X10_setHarm a1 a2 a3 r14).bind fun r16 => some (r11, r16) else some ((-3), m)) else some ((-2), m))) else some ((-1), m)))
set_option maxRecDepth 100000 in
theorem ex_X10_harmNow (d : Nat) (hd : 3 ≤ d) (a1 : Int32) (a2 : Int32) (a3 : Int32) (m : am_m) (t : Int32 × am_m) (h : fn_X10_harmNow a1 a2 a3 m = some t) : am_Ex am_cod d 244 [.inr (.inr (some (10, 0))), .inl a1, .inl a2, .inl a3] (am_mk m) (some (.inl t.1)) (am_mk t.2) 0 0 := by
  obtain ⟨d, rfl⟩ : ∃ e, d = e + 1 := ⟨d - 1, by omega⟩
  have htb : am_tab 244 = at_244 := rfl
  refine ⟨Nat.le_of_ble_eq_true rfl, ?_⟩
  unfold fn_X10_harmNow at h
  show am_Go d 244 (0, [some (.inr (.inr (some (10, 0)))), some (.inl a1), some (.inl a2), some (.inl a3), none], [], am_mk m) _ _ 0 0
  refine am_Go.n htb 4 (S' := (6, [some (.inr (.inr (some (10, 0)))), some (.inl a1), some (.inl a2), some (.inl a3), none], [.inr (.inl 9), .inr (.inl 1), .inr (.inl a3.toInt64)], am_mk m)) rfl ?_
  obtain ⟨r1, h2, h⟩ := am_bd h
  refine am_Go.cl htb rfl (ex_X10_in d (by omega) a3.toInt64 1 9 m r1 h2) ?_
  show am_Go d 244 (9, [some (.inr (.inr (some (10, 0)))), some (.inl a1), some (.inl a2), some (.inl a3), none], [.inl r1], am_mk m) _ _ _ _
  by_cases hc3 : r1 = 0
  · rw [if_pos hc3] at h
    refine am_Go.c1 htb (S' := (17, [some (.inr (.inr (some (10, 0)))), some (.inl a1), some (.inl a2), some (.inl a3), none], [], am_mk m)) (if_pos hc3) ?_
    refine am_Go.n htb 1 (S' := (18, [some (.inr (.inr (some (10, 0)))), some (.inl a1), some (.inl a2), some (.inl a3), none], [.inl (-1)], am_mk m)) rfl ?_
    cases h
    exact am_Go.r htb rfl
  · rw [if_neg hc3] at h
    refine am_Go.c1 htb (S' := (12, [some (.inr (.inr (some (10, 0)))), some (.inl a1), some (.inl a2), some (.inl a3), none], [], am_mk m)) (if_neg hc3) ?_
    refine am_Go.n htb 2 (S' := (14, [some (.inr (.inr (some (10, 0)))), some (.inl a1), some (.inl a2), some (.inl a3), none], [.inl a2, .inl a1], am_mk m)) rfl ?_
    by_cases hc4 : a1 ≠ a2
    · rw [if_pos hc4] at h
      refine am_Go.c1 htb (S' := (19, [some (.inr (.inr (some (10, 0)))), some (.inl a1), some (.inl a2), some (.inl a3), none], [], am_mk m)) (if_pos hc4) ?_
      refine am_Go.n htb 2 (S' := (21, [some (.inr (.inr (some (10, 0)))), some (.inl a1), some (.inl a2), some (.inl a3), none], [.inl a1, .inr (.inr (some (10, 0)))], am_mk m)) rfl ?_
      obtain ⟨r5, h6, h⟩ := am_bd h
      refine am_Go.cl htb rfl (ex_X10_isFolk d (by omega) a1 m r5 h6) ?_
      show am_Go d 244 (24, [some (.inr (.inr (some (10, 0)))), some (.inl a1), some (.inl a2), some (.inl a3), none], [.inl r5], am_mk m) _ _ _ _
      by_cases hc7 : r5 = 0
      · rw [if_pos hc7] at h
        refine am_Go.c1 htb (S' := (35, [some (.inr (.inr (some (10, 0)))), some (.inl a1), some (.inl a2), some (.inl a3), none], [], am_mk m)) (if_pos hc7) ?_
        refine am_Go.n htb 1 (S' := (37, [some (.inr (.inr (some (10, 0)))), some (.inl a1), some (.inl a2), some (.inl a3), none], [.inl (-2)], am_mk m)) rfl ?_
        cases h
        exact am_Go.r htb rfl
      · rw [if_neg hc7] at h
        refine am_Go.c1 htb (S' := (27, [some (.inr (.inr (some (10, 0)))), some (.inl a1), some (.inl a2), some (.inl a3), none], [], am_mk m)) (if_neg hc7) ?_
        refine am_Go.n htb 2 (S' := (29, [some (.inr (.inr (some (10, 0)))), some (.inl a1), some (.inl a2), some (.inl a3), none], [.inl a2, .inr (.inr (some (10, 0)))], am_mk m)) rfl ?_
        obtain ⟨r8, h9, h⟩ := am_bd h
        refine am_Go.cl htb rfl (ex_X10_isFolk d (by omega) a2 m r8 h9) ?_
        show am_Go d 244 (32, [some (.inr (.inr (some (10, 0)))), some (.inl a1), some (.inl a2), some (.inl a3), none], [.inl r8], am_mk m) _ _ _ _
        by_cases hc10 : r8 ≠ 0
        · rw [if_pos hc10] at h
          refine am_Go.c1 htb (S' := (38, [some (.inr (.inr (some (10, 0)))), some (.inl a1), some (.inl a2), some (.inl a3), none], [], am_mk m)) (if_pos hc10) ?_
          refine am_Go.n htb 3 (S' := (41, [some (.inr (.inr (some (10, 0)))), some (.inl a1), some (.inl a2), some (.inl a3), none], [.inl a2, .inl a1, .inr (.inr (some (10, 0)))], am_mk m)) rfl ?_
          obtain ⟨r11, h12, h⟩ := am_bd h
          refine am_Go.cl htb rfl (ex_X10_weightOf d (by omega) a1 a2 m r11 h12) ?_
          show am_Go d 244 (44, [some (.inr (.inr (some (10, 0)))), some (.inl a1), some (.inl a2), some (.inl a3), none], [.inl r11], am_mk m) _ _ _ _
          refine am_Go.n htb 3 (S' := (49, [some (.inr (.inr (some (10, 0)))), some (.inl a1), some (.inl a2), some (.inl a3), some (.inl r11)], [.inl a3, .inl r11], am_mk m)) rfl ?_
          by_cases hc13 : r11 ≠ a3
          · rw [if_pos hc13] at h
            refine am_Go.c1 htb (S' := (55, [some (.inr (.inr (some (10, 0)))), some (.inl a1), some (.inl a2), some (.inl a3), some (.inl r11)], [], am_mk m)) (if_pos hc13) ?_
            refine am_Go.n htb 2 (S' := (57, [some (.inr (.inr (some (10, 0)))), some (.inl a1), some (.inl a2), some (.inl a3), some (.inl r11)], [.inl 0, .inr (.inr (some (10, 0)))], am_mk m)) rfl ?_
            obtain ⟨r14, h15, h⟩ := am_bd h
            refine am_Go.cl htb rfl (ex_X10_remember d (by omega) 0 m r14 h15) ?_
            show am_Go d 244 (60, [some (.inr (.inr (some (10, 0)))), some (.inl a1), some (.inl a2), some (.inl a3), some (.inl r11)], [], am_mk r14) _ _ _ _
            refine am_Go.n htb 4 (S' := (64, [some (.inr (.inr (some (10, 0)))), some (.inl a1), some (.inl a2), some (.inl a3), some (.inl r11)], [.inl a3, .inl a2, .inl a1, .inr (.inr (some (10, 0)))], am_mk r14)) rfl ?_
            obtain ⟨r16, h17, h⟩ := am_bd h
            refine am_Go.cl htb rfl (ex_X10_setHarm d (by omega) a1 a2 a3 r14 r16 h17) ?_
            show am_Go d 244 (67, [some (.inr (.inr (some (10, 0)))), some (.inl a1), some (.inl a2), some (.inl a3), some (.inl r11)], [], am_mk r16) _ _ _ _
            refine am_Go.n htb 1 (S' := (69, [some (.inr (.inr (some (10, 0)))), some (.inl a1), some (.inl a2), some (.inl a3), some (.inl r11)], [.inl r11], am_mk r16)) rfl ?_
            cases h
            exact am_Go.r htb rfl
          · rw [if_neg hc13] at h
            refine am_Go.c1 htb (S' := (52, [some (.inr (.inr (some (10, 0)))), some (.inl a1), some (.inl a2), some (.inl a3), some (.inl r11)], [], am_mk m)) (if_neg hc13) ?_
            refine am_Go.n htb 1 (S' := (54, [some (.inr (.inr (some (10, 0)))), some (.inl a1), some (.inl a2), some (.inl a3), some (.inl r11)], [.inl (-3)], am_mk m)) rfl ?_
            cases h
            exact am_Go.r htb rfl
        · rw [if_neg hc10] at h
          refine am_Go.c1 htb (S' := (35, [some (.inr (.inr (some (10, 0)))), some (.inl a1), some (.inl a2), some (.inl a3), none], [], am_mk m)) (if_neg hc10) ?_
          refine am_Go.n htb 1 (S' := (37, [some (.inr (.inr (some (10, 0)))), some (.inl a1), some (.inl a2), some (.inl a3), none], [.inl (-2)], am_mk m)) rfl ?_
          cases h
          exact am_Go.r htb rfl
    · rw [if_neg hc4] at h
      refine am_Go.c1 htb (S' := (17, [some (.inr (.inr (some (10, 0)))), some (.inl a1), some (.inl a2), some (.inl a3), none], [], am_mk m)) (if_neg hc4) ?_
      refine am_Go.n htb 1 (S' := (18, [some (.inr (.inr (some (10, 0)))), some (.inl a1), some (.inl a2), some (.inl a3), none], [.inl (-1)], am_mk m)) rfl ?_
      cases h
      exact am_Go.r htb rfl
-- X10_harm
def fn_X10_harm (a1 : Int32) (a2 : Int32) (a3 : Int32) (m : am_m) : Option (Int32 × am_m) :=
  (fn_X10_harmNow a1 a2 a3 (am_si m 10 0 0 0)).bind fun r1 => (fn_X10_tell r1.1 r1.2).bind fun r3 => some (r3.1, r3.2)
set_option maxRecDepth 100000 in
theorem ex_X10_harm (d : Nat) (hd : 4 ≤ d) (a1 : Int32) (a2 : Int32) (a3 : Int32) (m : am_m) (t : Int32 × am_m) (h : fn_X10_harm a1 a2 a3 m = some t) : am_Ex am_cod d 245 [.inr (.inr (some (10, 0))), .inl a1, .inl a2, .inl a3] (am_mk m) (some (.inl t.1)) (am_mk t.2) 0 0 := by
  obtain ⟨d, rfl⟩ : ∃ e, d = e + 1 := ⟨d - 1, by omega⟩
  have htb : am_tab 245 = at_245 := rfl
  refine ⟨Nat.le_of_ble_eq_true rfl, ?_⟩
  unfold fn_X10_harm at h
  show am_Go d 245 (0, [some (.inr (.inr (some (10, 0)))), some (.inl a1), some (.inl a2), some (.inl a3)], [], am_mk m) _ _ 0 0
  refine am_Go.n htb 8 (S' := (10, [some (.inr (.inr (some (10, 0)))), some (.inl a1), some (.inl a2), some (.inl a3)], [.inl a3, .inl a2, .inl a1, .inr (.inr (some (10, 0))), .inr (.inr (some (10, 0)))], am_mk (am_si m 10 0 0 0))) rfl ?_
  obtain ⟨r1, h2, h⟩ := am_bd h
  refine am_Go.cl htb rfl (ex_X10_harmNow d (by omega) a1 a2 a3 (am_si m 10 0 0 0) r1 h2) ?_
  show am_Go d 245 (13, [some (.inr (.inr (some (10, 0)))), some (.inl a1), some (.inl a2), some (.inl a3)], [.inl r1.1, .inr (.inr (some (10, 0)))], am_mk r1.2) _ _ _ _
  obtain ⟨r3, h4, h⟩ := am_bd h
  refine am_Go.cl htb rfl (ex_X10_tell d (by omega) r1.1 r1.2 r3 h4) ?_
  show am_Go d 245 (16, [some (.inr (.inr (some (10, 0)))), some (.inl a1), some (.inl a2), some (.inl a3)], [.inl r3.1], am_mk r3.2) _ _ _ _
  cases h
  exact am_Go.r htb rfl
-- X10_feastIt
def lp_X10_feastIt_2 : Nat → Int32 → Int32 → am_m → Option (am_m)
  | 0, _, _, _ => none
  | n + 1, x1, x2, m =>
  am_ck 0 5518 ((if (m.1 44 0 (0 : Int32).toNatClampNeg) ≤ x2 then some m else (fn_X10_is x1 x2 m).bind fun r3 => (if r3 = 0 then some (0, m) else (fn_X10_ones x1 m).bind fun r6 => (fn_X10_feedsAt x2 r6 m).bind fun r8 => some (r8.1, r8.2)).bind fun q10 => am_ck x2 7 (lp_X10_feastIt_2 n x1 (x2 + 1) (am_si q10.2 56 0 x2.toNatClampNeg q10.1))))
set_option maxRecDepth 100000 in
theorem lt_X10_feastIt_2 (d : Nat) (hd : 7 ≤ d + 1) {r : Option am_V} {M' : am_M} {kc ks : Nat} {n : Nat} {x1 : Int32} {x2 : Int32} {m : am_m} {t : am_m} (h : lp_X10_feastIt_2 n x1 x2 m = some t) (hk : am_Go d 246 (45, [some (.inr (.inr (some (10, 0)))), some (.inl x1), none], [], am_mk t) r M' kc ks) : am_Go d 246 (2, [some (.inr (.inr (some (10, 0)))), some (.inl x1), some (.inl x2)], [], am_mk m) r M' kc ks := by
  have htb : am_tab 246 = at_246 := rfl
  induction n generalizing x2 m with
  | zero => cases h
  | succ n ih =>
    unfold lp_X10_feastIt_2 at h
    refine am_Go.n htb 4 (S' := (8, [some (.inr (.inr (some (10, 0)))), some (.inl x1), some (.inl x2)], [.inl 0, .inr (.inr (some (44, 0))), .inl x2], am_mk m)) rfl ?_
    obtain ⟨hg1, h⟩ := am_ck_some h
    refine am_Go.c1 htb (S' := (9, [some (.inr (.inr (some (10, 0)))), some (.inl x1), some (.inl x2)], [.inl (m.1 44 0 (0 : Int32).toNatClampNeg), .inl x2], am_mk m)) (if_neg hg1) ?_
    by_cases hc2 : (m.1 44 0 (0 : Int32).toNatClampNeg) ≤ x2
    · rw [if_pos hc2] at h
      refine am_Go.c1 htb (S' := (45, [some (.inr (.inr (some (10, 0)))), some (.inl x1), some (.inl x2)], [], am_mk m)) (if_pos hc2) ?_
      cases h
      exact am_Go.fg (by exact ⟨rfl, ⟨rfl, trivial⟩⟩) hk
    · rw [if_neg hc2] at h
      refine am_Go.c1 htb (S' := (12, [some (.inr (.inr (some (10, 0)))), some (.inl x1), some (.inl x2)], [], am_mk m)) (if_neg hc2) ?_
      refine am_Go.n htb 5 (S' := (19, [some (.inr (.inr (some (10, 0)))), some (.inl x1), some (.inl x2)], [.inl x2, .inl x1, .inl x2, .inr (.inr (some (56, 0)))], am_mk m)) rfl ?_
      obtain ⟨r3, h4, h⟩ := am_bd h
      refine am_Go.cl htb rfl (ex_X10_is d (by omega) x1 x2 m r3 h4) ?_
      show am_Go d 246 (22, [some (.inr (.inr (some (10, 0)))), some (.inl x1), some (.inl x2)], [.inl r3, .inl x2, .inr (.inr (some (56, 0)))], am_mk m) _ _ _ _
      obtain ⟨q10, h12, h⟩ := am_bd h
      refine am_Go.cut (S := (38, [some (.inr (.inr (some (10, 0)))), some (.inl x1), some (.inl x2)], [.inl q10.1, .inl x2, .inr (.inr (some (56, 0)))], am_mk q10.2)) ?_ (fun key => ?_)
      · obtain ⟨hg11, h⟩ := am_ck_some h
        refine am_Go.c1 htb (S' := (39, [some (.inr (.inr (some (10, 0)))), some (.inl x1), some (.inl x2)], [], am_mk (am_si q10.2 56 0 x2.toNatClampNeg q10.1))) (if_neg hg11) ?_
        refine am_Go.n htb 2 (S' := (2, [some (.inr (.inr (some (10, 0)))), some (.inl x1), some (.inl (x2 + 1))], [], am_mk (am_si q10.2 56 0 x2.toNatClampNeg q10.1))) rfl ?_
        exact ih h hk
      · have h := h12
        by_cases hc5 : r3 = 0
        · rw [if_pos hc5] at h
          refine am_Go.c1 htb (S' := (37, [some (.inr (.inr (some (10, 0)))), some (.inl x1), some (.inl x2)], [.inl x2, .inr (.inr (some (56, 0)))], am_mk m)) (if_pos hc5) ?_
          refine am_Go.n htb 1 (S' := (38, [some (.inr (.inr (some (10, 0)))), some (.inl x1), some (.inl x2)], [.inl 0, .inl x2, .inr (.inr (some (56, 0)))], am_mk m)) rfl ?_
          cases h
          exact am_Go.fg (by exact ⟨rfl, ⟨rfl, ⟨rfl, trivial⟩⟩⟩) key
        · rw [if_neg hc5] at h
          refine am_Go.c1 htb (S' := (25, [some (.inr (.inr (some (10, 0)))), some (.inl x1), some (.inl x2)], [.inl x2, .inr (.inr (some (56, 0)))], am_mk m)) (if_neg hc5) ?_
          refine am_Go.n htb 3 (S' := (28, [some (.inr (.inr (some (10, 0)))), some (.inl x1), some (.inl x2)], [.inl x1, .inl x2, .inr (.inr (some (10, 0))), .inl x2, .inr (.inr (some (56, 0)))], am_mk m)) rfl ?_
          obtain ⟨r6, h7, h⟩ := am_bd h
          refine am_Go.cl htb rfl (ex_X10_ones d (by omega) x1 m r6 h7) ?_
          show am_Go d 246 (31, [some (.inr (.inr (some (10, 0)))), some (.inl x1), some (.inl x2)], [.inl r6, .inl x2, .inr (.inr (some (10, 0))), .inl x2, .inr (.inr (some (56, 0)))], am_mk m) _ _ _ _
          obtain ⟨r8, h9, h⟩ := am_bd h
          refine am_Go.cl htb rfl (ex_X10_feedsAt d (by omega) x2 r6 m r8 h9) ?_
          show am_Go d 246 (34, [some (.inr (.inr (some (10, 0)))), some (.inl x1), some (.inl x2)], [.inl r8.1, .inl x2, .inr (.inr (some (56, 0)))], am_mk r8.2) _ _ _ _
          refine am_Go.n htb 1 (S' := (38, [some (.inr (.inr (some (10, 0)))), some (.inl x1), some (.inl x2)], [.inl r8.1, .inl x2, .inr (.inr (some (56, 0)))], am_mk r8.2)) rfl ?_
          cases h
          exact am_Go.fg (by exact ⟨rfl, ⟨rfl, ⟨rfl, trivial⟩⟩⟩) key
def lp_X10_feastIt_47 : Nat → Int32 → am_m → Option (am_m)
  | 0, _, _ => none
  | n + 1, x2, m =>
  am_ck 0 5518 ((if (m.1 44 0 (0 : Int32).toNatClampNeg) ≤ x2 then some m else am_ck ((7 : Int32) + x2) 5518 (am_ck x2 7 ((fn_X10_bounded (((m.1 44 0 ((7 : Int32) + x2).toNatClampNeg) + (m.1 56 0 x2.toNatClampNeg)).toInt64) 0 9 m).bind fun r19 => am_ck ((7 : Int32) + x2) 5518 (lp_X10_feastIt_47 n (x2 + 1) (am_si m 44 0 ((7 : Int32) + x2).toNatClampNeg r19))))))
set_option maxRecDepth 100000 in
theorem lt_X10_feastIt_47 (d : Nat) (hd : 7 ≤ d + 1) {r : Option am_V} {M' : am_M} {kc ks : Nat} {n : Nat} {x2 : Int32} {m : am_m} {t : am_m} (h : lp_X10_feastIt_47 n x2 m = some t) (hk : am_Go d 246 (95, [some (.inr (.inr (some (10, 0)))), none, none], [], am_mk t) r M' kc ks) : am_Go d 246 (47, [some (.inr (.inr (some (10, 0)))), none, some (.inl x2)], [], am_mk m) r M' kc ks := by
  have htb : am_tab 246 = at_246 := rfl
  induction n generalizing x2 m with
  | zero => cases h
  | succ n ih =>
    unfold lp_X10_feastIt_47 at h
    refine am_Go.n htb 4 (S' := (53, [some (.inr (.inr (some (10, 0)))), none, some (.inl x2)], [.inl 0, .inr (.inr (some (44, 0))), .inl x2], am_mk m)) rfl ?_
    obtain ⟨hg15, h⟩ := am_ck_some h
    refine am_Go.c1 htb (S' := (54, [some (.inr (.inr (some (10, 0)))), none, some (.inl x2)], [.inl (m.1 44 0 (0 : Int32).toNatClampNeg), .inl x2], am_mk m)) (if_neg hg15) ?_
    by_cases hc16 : (m.1 44 0 (0 : Int32).toNatClampNeg) ≤ x2
    · rw [if_pos hc16] at h
      refine am_Go.c1 htb (S' := (95, [some (.inr (.inr (some (10, 0)))), none, some (.inl x2)], [], am_mk m)) (if_pos hc16) ?_
      cases h
      exact am_Go.fg (by exact ⟨rfl, trivial⟩) hk
    · rw [if_neg hc16] at h
      refine am_Go.c1 htb (S' := (57, [some (.inr (.inr (some (10, 0)))), none, some (.inl x2)], [], am_mk m)) (if_neg hc16) ?_
      refine am_Go.n htb 10 (S' := (73, [some (.inr (.inr (some (10, 0)))), none, some (.inl x2)], [.inl ((7 : Int32) + x2), .inr (.inr (some (44, 0))), .inl ((7 : Int32) + x2), .inr (.inr (some (44, 0)))], am_mk m)) rfl ?_
      obtain ⟨hg17, h⟩ := am_ck_some h
      refine am_Go.c1 htb (S' := (74, [some (.inr (.inr (some (10, 0)))), none, some (.inl x2)], [.inl (m.1 44 0 ((7 : Int32) + x2).toNatClampNeg), .inl ((7 : Int32) + x2), .inr (.inr (some (44, 0)))], am_mk m)) (if_neg hg17) ?_
      refine am_Go.n htb 3 (S' := (79, [some (.inr (.inr (some (10, 0)))), none, some (.inl x2)], [.inl x2, .inr (.inr (some (56, 0))), .inl (m.1 44 0 ((7 : Int32) + x2).toNatClampNeg), .inl ((7 : Int32) + x2), .inr (.inr (some (44, 0)))], am_mk m)) rfl ?_
      obtain ⟨hg18, h⟩ := am_ck_some h
      refine am_Go.c1 htb (S' := (80, [some (.inr (.inr (some (10, 0)))), none, some (.inl x2)], [.inl (m.1 56 0 x2.toNatClampNeg), .inl (m.1 44 0 ((7 : Int32) + x2).toNatClampNeg), .inl ((7 : Int32) + x2), .inr (.inr (some (44, 0)))], am_mk m)) (if_neg hg18) ?_
      refine am_Go.n htb 4 (S' := (85, [some (.inr (.inr (some (10, 0)))), none, some (.inl x2)], [.inl 9, .inl 0, .inr (.inl (((m.1 44 0 ((7 : Int32) + x2).toNatClampNeg) + (m.1 56 0 x2.toNatClampNeg)).toInt64)), .inl ((7 : Int32) + x2), .inr (.inr (some (44, 0)))], am_mk m)) rfl ?_
      obtain ⟨r19, h20, h⟩ := am_bd h
      refine am_Go.cl htb rfl (ex_X10_bounded d (by omega) (((m.1 44 0 ((7 : Int32) + x2).toNatClampNeg) + (m.1 56 0 x2.toNatClampNeg)).toInt64) 0 9 m r19 h20) ?_
      show am_Go d 246 (88, [some (.inr (.inr (some (10, 0)))), none, some (.inl x2)], [.inl r19, .inl ((7 : Int32) + x2), .inr (.inr (some (44, 0)))], am_mk m) _ _ _ _
      obtain ⟨hg21, h⟩ := am_ck_some h
      refine am_Go.c1 htb (S' := (89, [some (.inr (.inr (some (10, 0)))), none, some (.inl x2)], [], am_mk (am_si m 44 0 ((7 : Int32) + x2).toNatClampNeg r19))) (if_neg hg21) ?_
      refine am_Go.n htb 2 (S' := (47, [some (.inr (.inr (some (10, 0)))), none, some (.inl (x2 + 1))], [], am_mk (am_si m 44 0 ((7 : Int32) + x2).toNatClampNeg r19))) rfl ?_
      exact ih h hk
def fn_X10_feastIt (a1 : Int32) (m : am_m) : Option (am_m) :=
  (lp_X10_feastIt_2 1000000 a1 0 m).bind fun q13 => (lp_X10_feastIt_47 1000000 0 q13).bind fun q22 => some q22
set_option maxRecDepth 100000 in
theorem ex_X10_feastIt (d : Nat) (hd : 7 ≤ d) (a1 : Int32) (m : am_m) (t : am_m) (h : fn_X10_feastIt a1 m = some t) : am_Ex am_cod d 246 [.inr (.inr (some (10, 0))), .inl a1] (am_mk m) (none) (am_mk t) 0 0 := by
  obtain ⟨d, rfl⟩ : ∃ e, d = e + 1 := ⟨d - 1, by omega⟩
  have htb : am_tab 246 = at_246 := rfl
  refine ⟨Nat.le_of_ble_eq_true rfl, ?_⟩
  unfold fn_X10_feastIt at h
  show am_Go d 246 (0, [some (.inr (.inr (some (10, 0)))), some (.inl a1), none], [], am_mk m) _ _ 0 0
  refine am_Go.n htb 2 (S' := (2, [some (.inr (.inr (some (10, 0)))), some (.inl a1), some (.inl 0)], [], am_mk m)) rfl ?_
  obtain ⟨q13, h14, h⟩ := am_bd h
  refine lt_X10_feastIt_2 _ hd (h := h14) (hk := ?_)
  refine am_Go.n htb 2 (S' := (47, [some (.inr (.inr (some (10, 0)))), some (.inl a1), some (.inl 0)], [], am_mk q13)) rfl ?_
  refine am_Go.fg (L0 := [some (.inr (.inr (some (10, 0)))), none, some (.inl 0)]) (by exact ⟨rfl, ⟨rfl, trivial⟩⟩) ?_
  obtain ⟨q22, h23, h⟩ := am_bd h
  refine lt_X10_feastIt_47 _ hd (h := h23) (hk := ?_)
  cases h
  exact am_Go.r htb rfl
-- X10_feastNow
def fn_X10_feastNow (a1 : Int32) (m : am_m) : Option (Int32 × am_m) :=
  (fn_X10_isSet a1 m).bind fun r1 => (if r1 ≠ 0 then (fn_X10_areThere a1 m).bind fun r4 => (if r4 ≠ 0 then (fn_X10_layMay  m).bind fun r7 => (fn_X10_isTable a1 r7).bind fun r9 => (if r9 ≠ 0 then (fn_X10_remember 1 r7).bind fun r12 => (fn_X10_feastIt a1 r12).bind fun r14 => (fn_X10_ones a1 r14).bind fun r16 => some (r16, r14) else some ((-3), r7)) else some ((-2), m)) else some ((-1), m))
set_option maxRecDepth 100000 in
theorem ex_X10_feastNow (d : Nat) (hd : 9 ≤ d) (a1 : Int32) (m : am_m) (t : Int32 × am_m) (h : fn_X10_feastNow a1 m = some t) : am_Ex am_cod d 247 [.inr (.inr (some (10, 0))), .inl a1] (am_mk m) (some (.inl t.1)) (am_mk t.2) 0 0 := by
  obtain ⟨d, rfl⟩ : ∃ e, d = e + 1 := ⟨d - 1, by omega⟩
  have htb : am_tab 247 = at_247 := rfl
  refine ⟨Nat.le_of_ble_eq_true rfl, ?_⟩
  unfold fn_X10_feastNow at h
  show am_Go d 247 (0, [some (.inr (.inr (some (10, 0)))), some (.inl a1)], [], am_mk m) _ _ 0 0
  refine am_Go.n htb 1 (S' := (1, [some (.inr (.inr (some (10, 0)))), some (.inl a1)], [.inl a1], am_mk m)) rfl ?_
  obtain ⟨r1, h2, h⟩ := am_bd h
  refine am_Go.cl htb rfl (ex_X10_isSet d (by omega) a1 m r1 h2) ?_
  show am_Go d 247 (4, [some (.inr (.inr (some (10, 0)))), some (.inl a1)], [.inl r1], am_mk m) _ _ _ _
  by_cases hc3 : r1 ≠ 0
  · rw [if_pos hc3] at h
    refine am_Go.c1 htb (S' := (9, [some (.inr (.inr (some (10, 0)))), some (.inl a1)], [], am_mk m)) (if_pos hc3) ?_
    refine am_Go.n htb 2 (S' := (11, [some (.inr (.inr (some (10, 0)))), some (.inl a1)], [.inl a1, .inr (.inr (some (10, 0)))], am_mk m)) rfl ?_
    obtain ⟨r4, h5, h⟩ := am_bd h
    refine am_Go.cl htb rfl (ex_X10_areThere d (by omega) a1 m r4 h5) ?_
    show am_Go d 247 (14, [some (.inr (.inr (some (10, 0)))), some (.inl a1)], [.inl r4], am_mk m) _ _ _ _
    by_cases hc6 : r4 ≠ 0
    · rw [if_pos hc6] at h
      refine am_Go.c1 htb (S' := (20, [some (.inr (.inr (some (10, 0)))), some (.inl a1)], [], am_mk m)) (if_pos hc6) ?_
      refine am_Go.n htb 1 (S' := (21, [some (.inr (.inr (some (10, 0)))), some (.inl a1)], [.inr (.inr (some (10, 0)))], am_mk m)) rfl ?_
      obtain ⟨r7, h8, h⟩ := am_bd h
      refine am_Go.cl htb rfl (ex_X10_layMay d (by omega)  m r7 h8) ?_
      show am_Go d 247 (24, [some (.inr (.inr (some (10, 0)))), some (.inl a1)], [], am_mk r7) _ _ _ _
      refine am_Go.n htb 2 (S' := (26, [some (.inr (.inr (some (10, 0)))), some (.inl a1)], [.inl a1, .inr (.inr (some (10, 0)))], am_mk r7)) rfl ?_
      obtain ⟨r9, h10, h⟩ := am_bd h
      refine am_Go.cl htb rfl (ex_X10_isTable d (by omega) a1 r7 r9 h10) ?_
      show am_Go d 247 (29, [some (.inr (.inr (some (10, 0)))), some (.inl a1)], [.inl r9], am_mk r7) _ _ _ _
      by_cases hc11 : r9 ≠ 0
      · rw [if_pos hc11] at h
        refine am_Go.c1 htb (S' := (35, [some (.inr (.inr (some (10, 0)))), some (.inl a1)], [], am_mk r7)) (if_pos hc11) ?_
        refine am_Go.n htb 2 (S' := (37, [some (.inr (.inr (some (10, 0)))), some (.inl a1)], [.inl 1, .inr (.inr (some (10, 0)))], am_mk r7)) rfl ?_
        obtain ⟨r12, h13, h⟩ := am_bd h
        refine am_Go.cl htb rfl (ex_X10_remember d (by omega) 1 r7 r12 h13) ?_
        show am_Go d 247 (40, [some (.inr (.inr (some (10, 0)))), some (.inl a1)], [], am_mk r12) _ _ _ _
        refine am_Go.n htb 2 (S' := (42, [some (.inr (.inr (some (10, 0)))), some (.inl a1)], [.inl a1, .inr (.inr (some (10, 0)))], am_mk r12)) rfl ?_
        obtain ⟨r14, h15, h⟩ := am_bd h
        refine am_Go.cl htb rfl (ex_X10_feastIt d (by omega) a1 r12 r14 h15) ?_
        show am_Go d 247 (45, [some (.inr (.inr (some (10, 0)))), some (.inl a1)], [], am_mk r14) _ _ _ _
        refine am_Go.n htb 1 (S' := (46, [some (.inr (.inr (some (10, 0)))), some (.inl a1)], [.inl a1], am_mk r14)) rfl ?_
        obtain ⟨r16, h17, h⟩ := am_bd h
        refine am_Go.cl htb rfl (ex_X10_ones d (by omega) a1 r14 r16 h17) ?_
        show am_Go d 247 (49, [some (.inr (.inr (some (10, 0)))), some (.inl a1)], [.inl r16], am_mk r14) _ _ _ _
        cases h
        exact am_Go.r htb rfl
      · rw [if_neg hc11] at h
        refine am_Go.c1 htb (S' := (32, [some (.inr (.inr (some (10, 0)))), some (.inl a1)], [], am_mk r7)) (if_neg hc11) ?_
        refine am_Go.n htb 1 (S' := (34, [some (.inr (.inr (some (10, 0)))), some (.inl a1)], [.inl (-3)], am_mk r7)) rfl ?_
        cases h
        exact am_Go.r htb rfl
    · rw [if_neg hc6] at h
      refine am_Go.c1 htb (S' := (17, [some (.inr (.inr (some (10, 0)))), some (.inl a1)], [], am_mk m)) (if_neg hc6) ?_
      refine am_Go.n htb 1 (S' := (19, [some (.inr (.inr (some (10, 0)))), some (.inl a1)], [.inl (-2)], am_mk m)) rfl ?_
      cases h
      exact am_Go.r htb rfl
  · rw [if_neg hc3] at h
    refine am_Go.c1 htb (S' := (7, [some (.inr (.inr (some (10, 0)))), some (.inl a1)], [], am_mk m)) (if_neg hc3) ?_
    refine am_Go.n htb 1 (S' := (8, [some (.inr (.inr (some (10, 0)))), some (.inl a1)], [.inl (-1)], am_mk m)) rfl ?_
    cases h
    exact am_Go.r htb rfl
-- X10_feast
def fn_X10_feast (a1 : Int32) (m : am_m) : Option (Int32 × am_m) :=
  (fn_X10_feastNow a1 (am_si m 10 0 0 0)).bind fun r1 => (fn_X10_tell r1.1 r1.2).bind fun r3 => some (r3.1, r3.2)
set_option maxRecDepth 100000 in
theorem ex_X10_feast (d : Nat) (hd : 10 ≤ d) (a1 : Int32) (m : am_m) (t : Int32 × am_m) (h : fn_X10_feast a1 m = some t) : am_Ex am_cod d 248 [.inr (.inr (some (10, 0))), .inl a1] (am_mk m) (some (.inl t.1)) (am_mk t.2) 0 0 := by
  obtain ⟨d, rfl⟩ : ∃ e, d = e + 1 := ⟨d - 1, by omega⟩
  have htb : am_tab 248 = at_248 := rfl
  refine ⟨Nat.le_of_ble_eq_true rfl, ?_⟩
  unfold fn_X10_feast at h
  show am_Go d 248 (0, [some (.inr (.inr (some (10, 0)))), some (.inl a1)], [], am_mk m) _ _ 0 0
  refine am_Go.n htb 6 (S' := (8, [some (.inr (.inr (some (10, 0)))), some (.inl a1)], [.inl a1, .inr (.inr (some (10, 0))), .inr (.inr (some (10, 0)))], am_mk (am_si m 10 0 0 0))) rfl ?_
  obtain ⟨r1, h2, h⟩ := am_bd h
  refine am_Go.cl htb rfl (ex_X10_feastNow d (by omega) a1 (am_si m 10 0 0 0) r1 h2) ?_
  show am_Go d 248 (11, [some (.inr (.inr (some (10, 0)))), some (.inl a1)], [.inl r1.1, .inr (.inr (some (10, 0)))], am_mk r1.2) _ _ _ _
  obtain ⟨r3, h4, h⟩ := am_bd h
  refine am_Go.cl htb rfl (ex_X10_tell d (by omega) r1.1 r1.2 r3 h4) ?_
  show am_Go d 248 (14, [some (.inr (.inr (some (10, 0)))), some (.inl a1)], [.inl r3.1], am_mk r3.2) _ _ _ _
  cases h
  exact am_Go.r htb rfl
-- X10_pardonNow
def fn_X10_pardonNow (a1 : Int32) (a2 : Int32) (m : am_m) : Option (Int32 × am_m) :=
  (if a1 ≠ a2 then (fn_X10_isFolk a1 m).bind fun r2 => (if r2 = 0 then some ((-2), m) else (fn_X10_isFolk a2 m).bind fun r5 => (if r5 ≠ 0 then (fn_X10_weightOf a1 a2 m).bind fun r8 => (if r8 ≠ 0 then (fn_X10_remember 2 m).bind fun r11 => am_ck (((14 : Int32) + ((7 : Int32) * a1)) + a2) 5518 (some (r8, am_si r11 44 0 (((14 : Int32) + ((7 : Int32) * a1)) + a2).toNatClampNeg 0)) else some ((-3), m)) else some ((-2), m))) else some ((-1), m))
set_option maxRecDepth 100000 in
theorem ex_X10_pardonNow (d : Nat) (hd : 3 ≤ d) (a1 : Int32) (a2 : Int32) (m : am_m) (t : Int32 × am_m) (h : fn_X10_pardonNow a1 a2 m = some t) : am_Ex am_cod d 249 [.inr (.inr (some (10, 0))), .inl a1, .inl a2] (am_mk m) (some (.inl t.1)) (am_mk t.2) 0 0 := by
  obtain ⟨d, rfl⟩ : ∃ e, d = e + 1 := ⟨d - 1, by omega⟩
  have htb : am_tab 249 = at_249 := rfl
  refine ⟨Nat.le_of_ble_eq_true rfl, ?_⟩
  unfold fn_X10_pardonNow at h
  show am_Go d 249 (0, [some (.inr (.inr (some (10, 0)))), some (.inl a1), some (.inl a2), none], [], am_mk m) _ _ 0 0
  refine am_Go.n htb 2 (S' := (2, [some (.inr (.inr (some (10, 0)))), some (.inl a1), some (.inl a2), none], [.inl a2, .inl a1], am_mk m)) rfl ?_
  by_cases hc1 : a1 ≠ a2
  · rw [if_pos hc1] at h
    refine am_Go.c1 htb (S' := (7, [some (.inr (.inr (some (10, 0)))), some (.inl a1), some (.inl a2), none], [], am_mk m)) (if_pos hc1) ?_
    refine am_Go.n htb 2 (S' := (9, [some (.inr (.inr (some (10, 0)))), some (.inl a1), some (.inl a2), none], [.inl a1, .inr (.inr (some (10, 0)))], am_mk m)) rfl ?_
    obtain ⟨r2, h3, h⟩ := am_bd h
    refine am_Go.cl htb rfl (ex_X10_isFolk d (by omega) a1 m r2 h3) ?_
    show am_Go d 249 (12, [some (.inr (.inr (some (10, 0)))), some (.inl a1), some (.inl a2), none], [.inl r2], am_mk m) _ _ _ _
    by_cases hc4 : r2 = 0
    · rw [if_pos hc4] at h
      refine am_Go.c1 htb (S' := (23, [some (.inr (.inr (some (10, 0)))), some (.inl a1), some (.inl a2), none], [], am_mk m)) (if_pos hc4) ?_
      refine am_Go.n htb 1 (S' := (25, [some (.inr (.inr (some (10, 0)))), some (.inl a1), some (.inl a2), none], [.inl (-2)], am_mk m)) rfl ?_
      cases h
      exact am_Go.r htb rfl
    · rw [if_neg hc4] at h
      refine am_Go.c1 htb (S' := (15, [some (.inr (.inr (some (10, 0)))), some (.inl a1), some (.inl a2), none], [], am_mk m)) (if_neg hc4) ?_
      refine am_Go.n htb 2 (S' := (17, [some (.inr (.inr (some (10, 0)))), some (.inl a1), some (.inl a2), none], [.inl a2, .inr (.inr (some (10, 0)))], am_mk m)) rfl ?_
      obtain ⟨r5, h6, h⟩ := am_bd h
      refine am_Go.cl htb rfl (ex_X10_isFolk d (by omega) a2 m r5 h6) ?_
      show am_Go d 249 (20, [some (.inr (.inr (some (10, 0)))), some (.inl a1), some (.inl a2), none], [.inl r5], am_mk m) _ _ _ _
      by_cases hc7 : r5 ≠ 0
      · rw [if_pos hc7] at h
        refine am_Go.c1 htb (S' := (26, [some (.inr (.inr (some (10, 0)))), some (.inl a1), some (.inl a2), none], [], am_mk m)) (if_pos hc7) ?_
        refine am_Go.n htb 3 (S' := (29, [some (.inr (.inr (some (10, 0)))), some (.inl a1), some (.inl a2), none], [.inl a2, .inl a1, .inr (.inr (some (10, 0)))], am_mk m)) rfl ?_
        obtain ⟨r8, h9, h⟩ := am_bd h
        refine am_Go.cl htb rfl (ex_X10_weightOf d (by omega) a1 a2 m r8 h9) ?_
        show am_Go d 249 (32, [some (.inr (.inr (some (10, 0)))), some (.inl a1), some (.inl a2), none], [.inl r8], am_mk m) _ _ _ _
        refine am_Go.n htb 2 (S' := (34, [some (.inr (.inr (some (10, 0)))), some (.inl a1), some (.inl a2), some (.inl r8)], [.inl r8], am_mk m)) rfl ?_
        by_cases hc10 : r8 ≠ 0
        · rw [if_pos hc10] at h
          refine am_Go.c1 htb (S' := (40, [some (.inr (.inr (some (10, 0)))), some (.inl a1), some (.inl a2), some (.inl r8)], [], am_mk m)) (if_pos hc10) ?_
          refine am_Go.n htb 2 (S' := (42, [some (.inr (.inr (some (10, 0)))), some (.inl a1), some (.inl a2), some (.inl r8)], [.inl 2, .inr (.inr (some (10, 0)))], am_mk m)) rfl ?_
          obtain ⟨r11, h12, h⟩ := am_bd h
          refine am_Go.cl htb rfl (ex_X10_remember d (by omega) 2 m r11 h12) ?_
          show am_Go d 249 (45, [some (.inr (.inr (some (10, 0)))), some (.inl a1), some (.inl a2), some (.inl r8)], [], am_mk r11) _ _ _ _
          refine am_Go.n htb 10 (S' := (59, [some (.inr (.inr (some (10, 0)))), some (.inl a1), some (.inl a2), some (.inl r8)], [.inl 0, .inl (((14 : Int32) + ((7 : Int32) * a1)) + a2), .inr (.inr (some (44, 0)))], am_mk r11)) rfl ?_
          obtain ⟨hg13, h⟩ := am_ck_some h
          refine am_Go.c1 htb (S' := (60, [some (.inr (.inr (some (10, 0)))), some (.inl a1), some (.inl a2), some (.inl r8)], [], am_mk (am_si r11 44 0 (((14 : Int32) + ((7 : Int32) * a1)) + a2).toNatClampNeg 0))) (if_neg hg13) ?_
          refine am_Go.n htb 1 (S' := (61, [some (.inr (.inr (some (10, 0)))), some (.inl a1), some (.inl a2), some (.inl r8)], [.inl r8], am_mk (am_si r11 44 0 (((14 : Int32) + ((7 : Int32) * a1)) + a2).toNatClampNeg 0))) rfl ?_
          cases h
          exact am_Go.r htb rfl
        · rw [if_neg hc10] at h
          refine am_Go.c1 htb (S' := (37, [some (.inr (.inr (some (10, 0)))), some (.inl a1), some (.inl a2), some (.inl r8)], [], am_mk m)) (if_neg hc10) ?_
          refine am_Go.n htb 1 (S' := (39, [some (.inr (.inr (some (10, 0)))), some (.inl a1), some (.inl a2), some (.inl r8)], [.inl (-3)], am_mk m)) rfl ?_
          cases h
          exact am_Go.r htb rfl
      · rw [if_neg hc7] at h
        refine am_Go.c1 htb (S' := (23, [some (.inr (.inr (some (10, 0)))), some (.inl a1), some (.inl a2), none], [], am_mk m)) (if_neg hc7) ?_
        refine am_Go.n htb 1 (S' := (25, [some (.inr (.inr (some (10, 0)))), some (.inl a1), some (.inl a2), none], [.inl (-2)], am_mk m)) rfl ?_
        cases h
        exact am_Go.r htb rfl
  · rw [if_neg hc1] at h
    refine am_Go.c1 htb (S' := (5, [some (.inr (.inr (some (10, 0)))), some (.inl a1), some (.inl a2), none], [], am_mk m)) (if_neg hc1) ?_
    refine am_Go.n htb 1 (S' := (6, [some (.inr (.inr (some (10, 0)))), some (.inl a1), some (.inl a2), none], [.inl (-1)], am_mk m)) rfl ?_
    cases h
    exact am_Go.r htb rfl
-- X10_pardon
def fn_X10_pardon (a1 : Int32) (a2 : Int32) (m : am_m) : Option (Int32 × am_m) :=
  (fn_X10_pardonNow a1 a2 (am_si m 10 0 0 0)).bind fun r1 => (fn_X10_tell r1.1 r1.2).bind fun r3 => some (r3.1, r3.2)
set_option maxRecDepth 100000 in
theorem ex_X10_pardon (d : Nat) (hd : 4 ≤ d) (a1 : Int32) (a2 : Int32) (m : am_m) (t : Int32 × am_m) (h : fn_X10_pardon a1 a2 m = some t) : am_Ex am_cod d 250 [.inr (.inr (some (10, 0))), .inl a1, .inl a2] (am_mk m) (some (.inl t.1)) (am_mk t.2) 0 0 := by
  obtain ⟨d, rfl⟩ : ∃ e, d = e + 1 := ⟨d - 1, by omega⟩
  have htb : am_tab 250 = at_250 := rfl
  refine ⟨Nat.le_of_ble_eq_true rfl, ?_⟩
  unfold fn_X10_pardon at h
  show am_Go d 250 (0, [some (.inr (.inr (some (10, 0)))), some (.inl a1), some (.inl a2)], [], am_mk m) _ _ 0 0
  refine am_Go.n htb 7 (S' := (9, [some (.inr (.inr (some (10, 0)))), some (.inl a1), some (.inl a2)], [.inl a2, .inl a1, .inr (.inr (some (10, 0))), .inr (.inr (some (10, 0)))], am_mk (am_si m 10 0 0 0))) rfl ?_
  obtain ⟨r1, h2, h⟩ := am_bd h
  refine am_Go.cl htb rfl (ex_X10_pardonNow d (by omega) a1 a2 (am_si m 10 0 0 0) r1 h2) ?_
  show am_Go d 250 (12, [some (.inr (.inr (some (10, 0)))), some (.inl a1), some (.inl a2)], [.inl r1.1, .inr (.inr (some (10, 0)))], am_mk r1.2) _ _ _ _
  obtain ⟨r3, h4, h⟩ := am_bd h
  refine am_Go.cl htb rfl (ex_X10_tell d (by omega) r1.1 r1.2 r3 h4) ?_
  show am_Go d 250 (15, [some (.inr (.inr (some (10, 0)))), some (.inl a1), some (.inl a2)], [.inl r3.1], am_mk r3.2) _ _ _ _
  cases h
  exact am_Go.r htb rfl
-- X10_passIt
def lp_X10_passIt_2 : Nat → Int32 → am_m → Option (am_m)
  | 0, _, _ => none
  | n + 1, x1, m =>
  am_ck 0 5518 ((if (m.1 44 0 (0 : Int32).toNatClampNeg) ≤ x1 then some m else (fn_X10_hungersBy x1 m).bind fun r3 => am_ck x1 7 (lp_X10_passIt_2 n (x1 + 1) (am_si r3.2 56 0 x1.toNatClampNeg r3.1))))
set_option maxRecDepth 100000 in
theorem lt_X10_passIt_2 (d : Nat) (hd : 7 ≤ d + 1) {r : Option am_V} {M' : am_M} {kc ks : Nat} {n : Nat} {x1 : Int32} {m : am_m} {t : am_m} (h : lp_X10_passIt_2 n x1 m = some t) (hk : am_Go d 251 (29, [some (.inr (.inr (some (10, 0)))), none], [], am_mk t) r M' kc ks) : am_Go d 251 (2, [some (.inr (.inr (some (10, 0)))), some (.inl x1)], [], am_mk m) r M' kc ks := by
  have htb : am_tab 251 = at_251 := rfl
  induction n generalizing x1 m with
  | zero => cases h
  | succ n ih =>
    unfold lp_X10_passIt_2 at h
    refine am_Go.n htb 4 (S' := (8, [some (.inr (.inr (some (10, 0)))), some (.inl x1)], [.inl 0, .inr (.inr (some (44, 0))), .inl x1], am_mk m)) rfl ?_
    obtain ⟨hg1, h⟩ := am_ck_some h
    refine am_Go.c1 htb (S' := (9, [some (.inr (.inr (some (10, 0)))), some (.inl x1)], [.inl (m.1 44 0 (0 : Int32).toNatClampNeg), .inl x1], am_mk m)) (if_neg hg1) ?_
    by_cases hc2 : (m.1 44 0 (0 : Int32).toNatClampNeg) ≤ x1
    · rw [if_pos hc2] at h
      refine am_Go.c1 htb (S' := (29, [some (.inr (.inr (some (10, 0)))), some (.inl x1)], [], am_mk m)) (if_pos hc2) ?_
      cases h
      exact am_Go.fg (by exact ⟨rfl, trivial⟩) hk
    · rw [if_neg hc2] at h
      refine am_Go.c1 htb (S' := (12, [some (.inr (.inr (some (10, 0)))), some (.inl x1)], [], am_mk m)) (if_neg hc2) ?_
      refine am_Go.n htb 5 (S' := (19, [some (.inr (.inr (some (10, 0)))), some (.inl x1)], [.inl x1, .inr (.inr (some (10, 0))), .inl x1, .inr (.inr (some (56, 0)))], am_mk m)) rfl ?_
      obtain ⟨r3, h4, h⟩ := am_bd h
      refine am_Go.cl htb rfl (ex_X10_hungersBy d (by omega) x1 m r3 h4) ?_
      show am_Go d 251 (22, [some (.inr (.inr (some (10, 0)))), some (.inl x1)], [.inl r3.1, .inl x1, .inr (.inr (some (56, 0)))], am_mk r3.2) _ _ _ _
      obtain ⟨hg5, h⟩ := am_ck_some h
      refine am_Go.c1 htb (S' := (23, [some (.inr (.inr (some (10, 0)))), some (.inl x1)], [], am_mk (am_si r3.2 56 0 x1.toNatClampNeg r3.1))) (if_neg hg5) ?_
      refine am_Go.n htb 2 (S' := (2, [some (.inr (.inr (some (10, 0)))), some (.inl (x1 + 1))], [], am_mk (am_si r3.2 56 0 x1.toNatClampNeg r3.1))) rfl ?_
      exact ih h hk
def lp_X10_passIt_31 : Nat → Int32 → am_m → Option (am_m)
  | 0, _, _ => none
  | n + 1, x1, m =>
  am_ck 0 5518 ((if (m.1 44 0 (0 : Int32).toNatClampNeg) ≤ x1 then some m else am_ck ((7 : Int32) + x1) 5518 (am_ck x1 7 ((fn_X10_bounded (((m.1 44 0 ((7 : Int32) + x1).toNatClampNeg) - (m.1 56 0 x1.toNatClampNeg)).toInt64) 0 9 m).bind fun r12 => am_ck ((7 : Int32) + x1) 5518 (lp_X10_passIt_31 n (x1 + 1) (am_si m 44 0 ((7 : Int32) + x1).toNatClampNeg r12))))))
set_option maxRecDepth 100000 in
theorem lt_X10_passIt_31 (d : Nat) (hd : 7 ≤ d + 1) {r : Option am_V} {M' : am_M} {kc ks : Nat} {n : Nat} {x1 : Int32} {m : am_m} {t : am_m} (h : lp_X10_passIt_31 n x1 m = some t) (hk : am_Go d 251 (79, [some (.inr (.inr (some (10, 0)))), none], [], am_mk t) r M' kc ks) : am_Go d 251 (31, [some (.inr (.inr (some (10, 0)))), some (.inl x1)], [], am_mk m) r M' kc ks := by
  have htb : am_tab 251 = at_251 := rfl
  induction n generalizing x1 m with
  | zero => cases h
  | succ n ih =>
    unfold lp_X10_passIt_31 at h
    refine am_Go.n htb 4 (S' := (37, [some (.inr (.inr (some (10, 0)))), some (.inl x1)], [.inl 0, .inr (.inr (some (44, 0))), .inl x1], am_mk m)) rfl ?_
    obtain ⟨hg8, h⟩ := am_ck_some h
    refine am_Go.c1 htb (S' := (38, [some (.inr (.inr (some (10, 0)))), some (.inl x1)], [.inl (m.1 44 0 (0 : Int32).toNatClampNeg), .inl x1], am_mk m)) (if_neg hg8) ?_
    by_cases hc9 : (m.1 44 0 (0 : Int32).toNatClampNeg) ≤ x1
    · rw [if_pos hc9] at h
      refine am_Go.c1 htb (S' := (79, [some (.inr (.inr (some (10, 0)))), some (.inl x1)], [], am_mk m)) (if_pos hc9) ?_
      cases h
      exact am_Go.fg (by exact ⟨rfl, trivial⟩) hk
    · rw [if_neg hc9] at h
      refine am_Go.c1 htb (S' := (41, [some (.inr (.inr (some (10, 0)))), some (.inl x1)], [], am_mk m)) (if_neg hc9) ?_
      refine am_Go.n htb 10 (S' := (57, [some (.inr (.inr (some (10, 0)))), some (.inl x1)], [.inl ((7 : Int32) + x1), .inr (.inr (some (44, 0))), .inl ((7 : Int32) + x1), .inr (.inr (some (44, 0)))], am_mk m)) rfl ?_
      obtain ⟨hg10, h⟩ := am_ck_some h
      refine am_Go.c1 htb (S' := (58, [some (.inr (.inr (some (10, 0)))), some (.inl x1)], [.inl (m.1 44 0 ((7 : Int32) + x1).toNatClampNeg), .inl ((7 : Int32) + x1), .inr (.inr (some (44, 0)))], am_mk m)) (if_neg hg10) ?_
      refine am_Go.n htb 3 (S' := (63, [some (.inr (.inr (some (10, 0)))), some (.inl x1)], [.inl x1, .inr (.inr (some (56, 0))), .inl (m.1 44 0 ((7 : Int32) + x1).toNatClampNeg), .inl ((7 : Int32) + x1), .inr (.inr (some (44, 0)))], am_mk m)) rfl ?_
      obtain ⟨hg11, h⟩ := am_ck_some h
      refine am_Go.c1 htb (S' := (64, [some (.inr (.inr (some (10, 0)))), some (.inl x1)], [.inl (m.1 56 0 x1.toNatClampNeg), .inl (m.1 44 0 ((7 : Int32) + x1).toNatClampNeg), .inl ((7 : Int32) + x1), .inr (.inr (some (44, 0)))], am_mk m)) (if_neg hg11) ?_
      refine am_Go.n htb 4 (S' := (69, [some (.inr (.inr (some (10, 0)))), some (.inl x1)], [.inl 9, .inl 0, .inr (.inl (((m.1 44 0 ((7 : Int32) + x1).toNatClampNeg) - (m.1 56 0 x1.toNatClampNeg)).toInt64)), .inl ((7 : Int32) + x1), .inr (.inr (some (44, 0)))], am_mk m)) rfl ?_
      obtain ⟨r12, h13, h⟩ := am_bd h
      refine am_Go.cl htb rfl (ex_X10_bounded d (by omega) (((m.1 44 0 ((7 : Int32) + x1).toNatClampNeg) - (m.1 56 0 x1.toNatClampNeg)).toInt64) 0 9 m r12 h13) ?_
      show am_Go d 251 (72, [some (.inr (.inr (some (10, 0)))), some (.inl x1)], [.inl r12, .inl ((7 : Int32) + x1), .inr (.inr (some (44, 0)))], am_mk m) _ _ _ _
      obtain ⟨hg14, h⟩ := am_ck_some h
      refine am_Go.c1 htb (S' := (73, [some (.inr (.inr (some (10, 0)))), some (.inl x1)], [], am_mk (am_si m 44 0 ((7 : Int32) + x1).toNatClampNeg r12))) (if_neg hg14) ?_
      refine am_Go.n htb 2 (S' := (31, [some (.inr (.inr (some (10, 0)))), some (.inl (x1 + 1))], [], am_mk (am_si m 44 0 ((7 : Int32) + x1).toNatClampNeg r12))) rfl ?_
      exact ih h hk
def fn_X10_passIt  (m : am_m) : Option (am_m) :=
  (lp_X10_passIt_2 1000000 0 m).bind fun q6 => (lp_X10_passIt_31 1000000 0 q6).bind fun q15 => am_ck 4 5518 (am_ck 4 5518 (some (am_si q15 44 0 (4 : Int32).toNatClampNeg ((q15.1 44 0 (4 : Int32).toNatClampNeg) + (1 : Int32)))))
set_option maxRecDepth 100000 in
theorem ex_X10_passIt (d : Nat) (hd : 7 ≤ d)  (m : am_m) (t : am_m) (h : fn_X10_passIt  m = some t) : am_Ex am_cod d 251 [.inr (.inr (some (10, 0)))] (am_mk m) (none) (am_mk t) 0 0 := by
  obtain ⟨d, rfl⟩ : ∃ e, d = e + 1 := ⟨d - 1, by omega⟩
  have htb : am_tab 251 = at_251 := rfl
  refine ⟨Nat.le_of_ble_eq_true rfl, ?_⟩
  unfold fn_X10_passIt at h
  show am_Go d 251 (0, [some (.inr (.inr (some (10, 0)))), none], [], am_mk m) _ _ 0 0
  refine am_Go.n htb 2 (S' := (2, [some (.inr (.inr (some (10, 0)))), some (.inl 0)], [], am_mk m)) rfl ?_
  obtain ⟨q6, h7, h⟩ := am_bd h
  refine lt_X10_passIt_2 _ hd (h := h7) (hk := ?_)
  refine am_Go.n htb 2 (S' := (31, [some (.inr (.inr (some (10, 0)))), some (.inl 0)], [], am_mk q6)) rfl ?_
  obtain ⟨q15, h16, h⟩ := am_bd h
  refine lt_X10_passIt_31 _ hd (h := h16) (hk := ?_)
  refine am_Go.n htb 4 (S' := (85, [some (.inr (.inr (some (10, 0)))), none], [.inl 4, .inr (.inr (some (44, 0))), .inl 4, .inr (.inr (some (44, 0)))], am_mk q15)) rfl ?_
  obtain ⟨hg17, h⟩ := am_ck_some h
  refine am_Go.c1 htb (S' := (86, [some (.inr (.inr (some (10, 0)))), none], [.inl (q15.1 44 0 (4 : Int32).toNatClampNeg), .inl 4, .inr (.inr (some (44, 0)))], am_mk q15)) (if_neg hg17) ?_
  refine am_Go.n htb 2 (S' := (88, [some (.inr (.inr (some (10, 0)))), none], [.inl ((q15.1 44 0 (4 : Int32).toNatClampNeg) + (1 : Int32)), .inl 4, .inr (.inr (some (44, 0)))], am_mk q15)) rfl ?_
  obtain ⟨hg18, h⟩ := am_ck_some h
  refine am_Go.c1 htb (S' := (89, [some (.inr (.inr (some (10, 0)))), none], [], am_mk (am_si q15 44 0 (4 : Int32).toNatClampNeg ((q15.1 44 0 (4 : Int32).toNatClampNeg) + (1 : Int32))))) (if_neg hg18) ?_
  cases h
  exact am_Go.r htb rfl
-- X10_passNow
def fn_X10_passNow  (m : am_m) : Option (Int32 × am_m) :=
  am_ck 4 5518 ((if (m.1 44 0 (4 : Int32).toNatClampNeg) ≠ (999 : Int32) then (fn_X10_remember 3 m).bind fun r3 => (fn_X10_passIt  r3).bind fun r5 => (fn_X10_starving  r5).bind fun r7 => some (r7, r5) else some ((-3), m)))
set_option maxRecDepth 100000 in
theorem ex_X10_passNow (d : Nat) (hd : 8 ≤ d)  (m : am_m) (t : Int32 × am_m) (h : fn_X10_passNow  m = some t) : am_Ex am_cod d 252 [.inr (.inr (some (10, 0)))] (am_mk m) (some (.inl t.1)) (am_mk t.2) 0 0 := by
  obtain ⟨d, rfl⟩ : ∃ e, d = e + 1 := ⟨d - 1, by omega⟩
  have htb : am_tab 252 = at_252 := rfl
  refine ⟨Nat.le_of_ble_eq_true rfl, ?_⟩
  unfold fn_X10_passNow at h
  show am_Go d 252 (0, [some (.inr (.inr (some (10, 0))))], [], am_mk m) _ _ 0 0
  refine am_Go.n htb 3 (S' := (5, [some (.inr (.inr (some (10, 0))))], [.inl 4, .inr (.inr (some (44, 0)))], am_mk m)) rfl ?_
  obtain ⟨hg1, h⟩ := am_ck_some h
  refine am_Go.c1 htb (S' := (6, [some (.inr (.inr (some (10, 0))))], [.inl (m.1 44 0 (4 : Int32).toNatClampNeg)], am_mk m)) (if_neg hg1) ?_
  refine am_Go.n htb 1 (S' := (9, [some (.inr (.inr (some (10, 0))))], [.inl 999, .inl (m.1 44 0 (4 : Int32).toNatClampNeg)], am_mk m)) rfl ?_
  by_cases hc2 : (m.1 44 0 (4 : Int32).toNatClampNeg) ≠ (999 : Int32)
  · rw [if_pos hc2] at h
    refine am_Go.c1 htb (S' := (15, [some (.inr (.inr (some (10, 0))))], [], am_mk m)) (if_pos hc2) ?_
    refine am_Go.n htb 2 (S' := (17, [some (.inr (.inr (some (10, 0))))], [.inl 3, .inr (.inr (some (10, 0)))], am_mk m)) rfl ?_
    obtain ⟨r3, h4, h⟩ := am_bd h
    refine am_Go.cl htb rfl (ex_X10_remember d (by omega) 3 m r3 h4) ?_
    show am_Go d 252 (20, [some (.inr (.inr (some (10, 0))))], [], am_mk r3) _ _ _ _
    refine am_Go.n htb 1 (S' := (21, [some (.inr (.inr (some (10, 0))))], [.inr (.inr (some (10, 0)))], am_mk r3)) rfl ?_
    obtain ⟨r5, h6, h⟩ := am_bd h
    refine am_Go.cl htb rfl (ex_X10_passIt d (by omega)  r3 r5 h6) ?_
    show am_Go d 252 (24, [some (.inr (.inr (some (10, 0))))], [], am_mk r5) _ _ _ _
    refine am_Go.n htb 1 (S' := (25, [some (.inr (.inr (some (10, 0))))], [.inr (.inr (some (10, 0)))], am_mk r5)) rfl ?_
    obtain ⟨r7, h8, h⟩ := am_bd h
    refine am_Go.cl htb rfl (ex_X10_starving d (by omega)  r5 r7 h8) ?_
    show am_Go d 252 (28, [some (.inr (.inr (some (10, 0))))], [.inl r7], am_mk r5) _ _ _ _
    cases h
    exact am_Go.r htb rfl
  · rw [if_neg hc2] at h
    refine am_Go.c1 htb (S' := (12, [some (.inr (.inr (some (10, 0))))], [], am_mk m)) (if_neg hc2) ?_
    refine am_Go.n htb 1 (S' := (14, [some (.inr (.inr (some (10, 0))))], [.inl (-3)], am_mk m)) rfl ?_
    cases h
    exact am_Go.r htb rfl
-- X10_pass
def fn_X10_pass  (m : am_m) : Option (Int32 × am_m) :=
  (fn_X10_passNow  (am_si m 10 0 0 0)).bind fun r1 => (fn_X10_tell r1.1 r1.2).bind fun r3 => some (r3.1, r3.2)
set_option maxRecDepth 100000 in
theorem ex_X10_pass (d : Nat) (hd : 9 ≤ d)  (m : am_m) (t : Int32 × am_m) (h : fn_X10_pass  m = some t) : am_Ex am_cod d 253 [.inr (.inr (some (10, 0)))] (am_mk m) (some (.inl t.1)) (am_mk t.2) 0 0 := by
  obtain ⟨d, rfl⟩ : ∃ e, d = e + 1 := ⟨d - 1, by omega⟩
  have htb : am_tab 253 = at_253 := rfl
  refine ⟨Nat.le_of_ble_eq_true rfl, ?_⟩
  unfold fn_X10_pass at h
  show am_Go d 253 (0, [some (.inr (.inr (some (10, 0))))], [], am_mk m) _ _ 0 0
  refine am_Go.n htb 5 (S' := (7, [some (.inr (.inr (some (10, 0))))], [.inr (.inr (some (10, 0))), .inr (.inr (some (10, 0)))], am_mk (am_si m 10 0 0 0))) rfl ?_
  obtain ⟨r1, h2, h⟩ := am_bd h
  refine am_Go.cl htb rfl (ex_X10_passNow d (by omega)  (am_si m 10 0 0 0) r1 h2) ?_
  show am_Go d 253 (10, [some (.inr (.inr (some (10, 0))))], [.inl r1.1, .inr (.inr (some (10, 0)))], am_mk r1.2) _ _ _ _
  obtain ⟨r3, h4, h⟩ := am_bd h
  refine am_Go.cl htb rfl (ex_X10_tell d (by omega) r1.1 r1.2 r3 h4) ?_
  show am_Go d 253 (13, [some (.inr (.inr (some (10, 0))))], [.inl r3.1], am_mk r3.2) _ _ _ _
  cases h
  exact am_Go.r htb rfl
-- X10_largestSet
def lp_X10_largestSet_6 : Nat → Int32 → Int32 → Int32 → am_m → Option (Int32)
  | 0, _, _, _, _ => none
  | n + 1, x1, x2, x3, m =>
  (fn_X10_all  m).bind fun r1 => (if r1 < x3 then some x2 else (fn_X10_ones x3 m).bind fun r4 => (if r4 ≤ x1 then some (x1, x2) else (fn_X10_isTable x3 m).bind fun r7 => (if r7 = 0 then some (x1, x2) else (fn_X10_ones x3 m).bind fun r10 => some (r10, x3))).bind fun q12 => lp_X10_largestSet_6 n q12.1 q12.2 (x3 + 1) m)
set_option maxRecDepth 100000 in
theorem lt_X10_largestSet_6 (d : Nat) (hd : 3 ≤ d + 1) {r : Option am_V} {M' : am_M} {kc ks : Nat} {n : Nat} {x1 : Int32} {x2 : Int32} {x3 : Int32} {m : am_m} {t : Int32} (h : lp_X10_largestSet_6 n x1 x2 x3 m = some t) (hk : am_Go d 254 (43, [some (.inr (.inr (some (10, 0)))), none, some (.inl t), none], [], am_mk m) r M' kc ks) : am_Go d 254 (6, [some (.inr (.inr (some (10, 0)))), some (.inl x1), some (.inl x2), some (.inl x3)], [], am_mk m) r M' kc ks := by
  have htb : am_tab 254 = at_254 := rfl
  induction n generalizing x1 x2 x3 with
  | zero => cases h
  | succ n ih =>
    unfold lp_X10_largestSet_6 at h
    refine am_Go.n htb 2 (S' := (8, [some (.inr (.inr (some (10, 0)))), some (.inl x1), some (.inl x2), some (.inl x3)], [.inr (.inr (some (10, 0))), .inl x3], am_mk m)) rfl ?_
    obtain ⟨r1, h2, h⟩ := am_bd h
    refine am_Go.cl htb rfl (ex_X10_all d (by omega)  m r1 h2) ?_
    show am_Go d 254 (11, [some (.inr (.inr (some (10, 0)))), some (.inl x1), some (.inl x2), some (.inl x3)], [.inl r1, .inl x3], am_mk m) _ _ _ _
    by_cases hc3 : r1 < x3
    · rw [if_pos hc3] at h
      refine am_Go.c1 htb (S' := (43, [some (.inr (.inr (some (10, 0)))), some (.inl x1), some (.inl x2), some (.inl x3)], [], am_mk m)) (if_pos hc3) ?_
      cases h
      exact am_Go.fg (by exact ⟨rfl, ⟨rfl, trivial⟩⟩) hk
    · rw [if_neg hc3] at h
      refine am_Go.c1 htb (S' := (14, [some (.inr (.inr (some (10, 0)))), some (.inl x1), some (.inl x2), some (.inl x3)], [], am_mk m)) (if_neg hc3) ?_
      refine am_Go.n htb 1 (S' := (15, [some (.inr (.inr (some (10, 0)))), some (.inl x1), some (.inl x2), some (.inl x3)], [.inl x3], am_mk m)) rfl ?_
      obtain ⟨r4, h5, h⟩ := am_bd h
      refine am_Go.cl htb rfl (ex_X10_ones d (by omega) x3 m r4 h5) ?_
      show am_Go d 254 (18, [some (.inr (.inr (some (10, 0)))), some (.inl x1), some (.inl x2), some (.inl x3)], [.inl r4], am_mk m) _ _ _ _
      refine am_Go.n htb 1 (S' := (19, [some (.inr (.inr (some (10, 0)))), some (.inl x1), some (.inl x2), some (.inl x3)], [.inl x1, .inl r4], am_mk m)) rfl ?_
      obtain ⟨q12, h13, h⟩ := am_bd h
      refine am_Go.cut (S := (37, [some (.inr (.inr (some (10, 0)))), some (.inl q12.1), some (.inl q12.2), some (.inl x3)], [], am_mk m)) ?_ (fun key => ?_)
      · refine am_Go.n htb 2 (S' := (6, [some (.inr (.inr (some (10, 0)))), some (.inl q12.1), some (.inl q12.2), some (.inl (x3 + 1))], [], am_mk m)) rfl ?_
        exact ih h hk
      · have h := h13
        by_cases hc6 : r4 ≤ x1
        · rw [if_pos hc6] at h
          refine am_Go.c1 htb (S' := (37, [some (.inr (.inr (some (10, 0)))), some (.inl x1), some (.inl x2), some (.inl x3)], [], am_mk m)) (if_pos hc6) ?_
          cases h
          exact am_Go.fg (by exact ⟨rfl, ⟨rfl, ⟨rfl, ⟨rfl, trivial⟩⟩⟩⟩) key
        · rw [if_neg hc6] at h
          refine am_Go.c1 htb (S' := (22, [some (.inr (.inr (some (10, 0)))), some (.inl x1), some (.inl x2), some (.inl x3)], [], am_mk m)) (if_neg hc6) ?_
          refine am_Go.n htb 2 (S' := (24, [some (.inr (.inr (some (10, 0)))), some (.inl x1), some (.inl x2), some (.inl x3)], [.inl x3, .inr (.inr (some (10, 0)))], am_mk m)) rfl ?_
          obtain ⟨r7, h8, h⟩ := am_bd h
          refine am_Go.cl htb rfl (ex_X10_isTable d (by omega) x3 m r7 h8) ?_
          show am_Go d 254 (27, [some (.inr (.inr (some (10, 0)))), some (.inl x1), some (.inl x2), some (.inl x3)], [.inl r7], am_mk m) _ _ _ _
          by_cases hc9 : r7 = 0
          · rw [if_pos hc9] at h
            refine am_Go.c1 htb (S' := (37, [some (.inr (.inr (some (10, 0)))), some (.inl x1), some (.inl x2), some (.inl x3)], [], am_mk m)) (if_pos hc9) ?_
            cases h
            exact am_Go.fg (by exact ⟨rfl, ⟨rfl, ⟨rfl, ⟨rfl, trivial⟩⟩⟩⟩) key
          · rw [if_neg hc9] at h
            refine am_Go.c1 htb (S' := (30, [some (.inr (.inr (some (10, 0)))), some (.inl x1), some (.inl x2), some (.inl x3)], [], am_mk m)) (if_neg hc9) ?_
            refine am_Go.n htb 1 (S' := (31, [some (.inr (.inr (some (10, 0)))), some (.inl x1), some (.inl x2), some (.inl x3)], [.inl x3], am_mk m)) rfl ?_
            obtain ⟨r10, h11, h⟩ := am_bd h
            refine am_Go.cl htb rfl (ex_X10_ones d (by omega) x3 m r10 h11) ?_
            show am_Go d 254 (34, [some (.inr (.inr (some (10, 0)))), some (.inl x1), some (.inl x2), some (.inl x3)], [.inl r10], am_mk m) _ _ _ _
            refine am_Go.n htb 3 (S' := (37, [some (.inr (.inr (some (10, 0)))), some (.inl r10), some (.inl x3), some (.inl x3)], [], am_mk m)) rfl ?_
            cases h
            exact am_Go.fg (by exact ⟨rfl, ⟨rfl, ⟨rfl, ⟨rfl, trivial⟩⟩⟩⟩) key
def fn_X10_largestSet  (m : am_m) : Option (Int32) :=
  (lp_X10_largestSet_6 1000000 1 0 0 m).bind fun q14 => some q14
set_option maxRecDepth 100000 in
theorem ex_X10_largestSet (d : Nat) (hd : 3 ≤ d)  (m : am_m) (t : Int32) (h : fn_X10_largestSet  m = some t) : am_Ex am_cod d 254 [.inr (.inr (some (10, 0)))] (am_mk m) (some (.inl t)) (am_mk m) 0 0 := by
  obtain ⟨d, rfl⟩ : ∃ e, d = e + 1 := ⟨d - 1, by omega⟩
  have htb : am_tab 254 = at_254 := rfl
  refine ⟨Nat.le_of_ble_eq_true rfl, ?_⟩
  unfold fn_X10_largestSet at h
  show am_Go d 254 (0, [some (.inr (.inr (some (10, 0)))), none, none, none], [], am_mk m) _ _ 0 0
  refine am_Go.n htb 6 (S' := (6, [some (.inr (.inr (some (10, 0)))), some (.inl 1), some (.inl 0), some (.inl 0)], [], am_mk m)) rfl ?_
  obtain ⟨q14, h15, h⟩ := am_bd h
  refine lt_X10_largestSet_6 _ hd (h := h15) (hk := ?_)
  refine am_Go.n htb 1 (S' := (44, [some (.inr (.inr (some (10, 0)))), none, some (.inl q14), none], [.inl q14], am_mk m)) rfl ?_
  cases h
  exact am_Go.r htb rfl
-- X10_largest
def fn_X10_largest (a1 : Int32) (m : am_m) : Option (Int32 × am_m) :=
  (fn_X10_layMay  (am_si m 10 0 0 0)).bind fun r1 => (fn_X10_largestSet  r1).bind fun r3 => (if r3 = 0 then some ((-1), r1) else (fn_X10_in a1.toInt64 0 1 r1).bind fun r6 => (if r6 ≠ 0 then (if a1 ≠ 0 then some (r3, r1) else (fn_X10_ones r3 r1).bind fun r10 => some (r10, r1)) else some ((-1), r1)))
set_option maxRecDepth 100000 in
theorem ex_X10_largest (d : Nat) (hd : 9 ≤ d) (a1 : Int32) (m : am_m) (t : Int32 × am_m) (h : fn_X10_largest a1 m = some t) : am_Ex am_cod d 255 [.inr (.inr (some (10, 0))), .inl a1] (am_mk m) (some (.inl t.1)) (am_mk t.2) 0 0 := by
  obtain ⟨d, rfl⟩ : ∃ e, d = e + 1 := ⟨d - 1, by omega⟩
  have htb : am_tab 255 = at_255 := rfl
  refine ⟨Nat.le_of_ble_eq_true rfl, ?_⟩
  unfold fn_X10_largest at h
  show am_Go d 255 (0, [some (.inr (.inr (some (10, 0)))), some (.inl a1), none], [], am_mk m) _ _ 0 0
  refine am_Go.n htb 4 (S' := (6, [some (.inr (.inr (some (10, 0)))), some (.inl a1), none], [.inr (.inr (some (10, 0)))], am_mk (am_si m 10 0 0 0))) rfl ?_
  obtain ⟨r1, h2, h⟩ := am_bd h
  refine am_Go.cl htb rfl (ex_X10_layMay d (by omega)  (am_si m 10 0 0 0) r1 h2) ?_
  show am_Go d 255 (9, [some (.inr (.inr (some (10, 0)))), some (.inl a1), none], [], am_mk r1) _ _ _ _
  refine am_Go.n htb 1 (S' := (10, [some (.inr (.inr (some (10, 0)))), some (.inl a1), none], [.inr (.inr (some (10, 0)))], am_mk r1)) rfl ?_
  obtain ⟨r3, h4, h⟩ := am_bd h
  refine am_Go.cl htb rfl (ex_X10_largestSet d (by omega)  r1 r3 h4) ?_
  show am_Go d 255 (13, [some (.inr (.inr (some (10, 0)))), some (.inl a1), none], [.inl r3], am_mk r1) _ _ _ _
  refine am_Go.n htb 2 (S' := (15, [some (.inr (.inr (some (10, 0)))), some (.inl a1), some (.inl r3)], [.inl r3], am_mk r1)) rfl ?_
  by_cases hc5 : r3 = 0
  · rw [if_pos hc5] at h
    refine am_Go.c1 htb (S' := (28, [some (.inr (.inr (some (10, 0)))), some (.inl a1), some (.inl r3)], [], am_mk r1)) (if_pos hc5) ?_
    refine am_Go.n htb 2 (S' := (44, [some (.inr (.inr (some (10, 0)))), some (.inl a1), some (.inl r3)], [.inl (-1)], am_mk r1)) rfl ?_
    cases h
    exact am_Go.r htb rfl
  · rw [if_neg hc5] at h
    refine am_Go.c1 htb (S' := (18, [some (.inr (.inr (some (10, 0)))), some (.inl a1), some (.inl r3)], [], am_mk r1)) (if_neg hc5) ?_
    refine am_Go.n htb 4 (S' := (22, [some (.inr (.inr (some (10, 0)))), some (.inl a1), some (.inl r3)], [.inr (.inl 1), .inr (.inl 0), .inr (.inl a1.toInt64)], am_mk r1)) rfl ?_
    obtain ⟨r6, h7, h⟩ := am_bd h
    refine am_Go.cl htb rfl (ex_X10_in d (by omega) a1.toInt64 0 1 r1 r6 h7) ?_
    show am_Go d 255 (25, [some (.inr (.inr (some (10, 0)))), some (.inl a1), some (.inl r3)], [.inl r6], am_mk r1) _ _ _ _
    by_cases hc8 : r6 ≠ 0
    · rw [if_pos hc8] at h
      refine am_Go.c1 htb (S' := (32, [some (.inr (.inr (some (10, 0)))), some (.inl a1), some (.inl r3)], [], am_mk r1)) (if_pos hc8) ?_
      refine am_Go.n htb 1 (S' := (33, [some (.inr (.inr (some (10, 0)))), some (.inl a1), some (.inl r3)], [.inl a1], am_mk r1)) rfl ?_
      by_cases hc9 : a1 ≠ 0
      · rw [if_pos hc9] at h
        refine am_Go.c1 htb (S' := (43, [some (.inr (.inr (some (10, 0)))), some (.inl a1), some (.inl r3)], [], am_mk r1)) (if_pos hc9) ?_
        refine am_Go.n htb 1 (S' := (44, [some (.inr (.inr (some (10, 0)))), some (.inl a1), some (.inl r3)], [.inl r3], am_mk r1)) rfl ?_
        cases h
        exact am_Go.r htb rfl
      · rw [if_neg hc9] at h
        refine am_Go.c1 htb (S' := (36, [some (.inr (.inr (some (10, 0)))), some (.inl a1), some (.inl r3)], [], am_mk r1)) (if_neg hc9) ?_
        refine am_Go.n htb 1 (S' := (37, [some (.inr (.inr (some (10, 0)))), some (.inl a1), some (.inl r3)], [.inl r3], am_mk r1)) rfl ?_
        obtain ⟨r10, h11, h⟩ := am_bd h
        refine am_Go.cl htb rfl (ex_X10_ones d (by omega) r3 r1 r10 h11) ?_
        show am_Go d 255 (40, [some (.inr (.inr (some (10, 0)))), some (.inl a1), some (.inl r3)], [.inl r10], am_mk r1) _ _ _ _
        refine am_Go.n htb 1 (S' := (44, [some (.inr (.inr (some (10, 0)))), some (.inl a1), some (.inl r3)], [.inl r10], am_mk r1)) rfl ?_
        cases h
        exact am_Go.r htb rfl
    · rw [if_neg hc8] at h
      refine am_Go.c1 htb (S' := (28, [some (.inr (.inr (some (10, 0)))), some (.inl a1), some (.inl r3)], [], am_mk r1)) (if_neg hc8) ?_
      refine am_Go.n htb 2 (S' := (44, [some (.inr (.inr (some (10, 0)))), some (.inl a1), some (.inl r3)], [.inl (-1)], am_mk r1)) rfl ?_
      cases h
      exact am_Go.r htb rfl
-- X10_setsAhead
def lp_X10_setsAhead_4 : Nat → Int32 → Int32 → Int32 → am_m → Option (Int32)
  | 0, _, _, _, _ => none
  | n + 1, x1, x2, x3, m =>
  (if x1 ≤ x3 then some x2 else am_ck x3 8 ((if (m.1 57 0 x3.toNatClampNeg) < x2 then some x2 else am_ck x3 8 (some ((m.1 57 0 x3.toNatClampNeg) + (1 : Int32)))).bind fun q5 => lp_X10_setsAhead_4 n x1 q5 (x3 + 1) m))
set_option maxRecDepth 100000 in
theorem lt_X10_setsAhead_4 (d : Nat) (hd : 1 ≤ d + 1) {r : Option am_V} {M' : am_M} {kc ks : Nat} {n : Nat} {x1 : Int32} {x2 : Int32} {x3 : Int32} {m : am_m} {t : Int32} (h : lp_X10_setsAhead_4 n x1 x2 x3 m = some t) (hk : am_Go d 256 (38, [some (.inr (.inr (some (10, 0)))), some (.inl x1), some (.inl t), none], [], am_mk m) r M' kc ks) : am_Go d 256 (4, [some (.inr (.inr (some (10, 0)))), some (.inl x1), some (.inl x2), some (.inl x3)], [], am_mk m) r M' kc ks := by
  have htb : am_tab 256 = at_256 := rfl
  induction n generalizing x2 x3 with
  | zero => cases h
  | succ n ih =>
    unfold lp_X10_setsAhead_4 at h
    refine am_Go.n htb 2 (S' := (6, [some (.inr (.inr (some (10, 0)))), some (.inl x1), some (.inl x2), some (.inl x3)], [.inl x1, .inl x3], am_mk m)) rfl ?_
    by_cases hc1 : x1 ≤ x3
    · rw [if_pos hc1] at h
      refine am_Go.c1 htb (S' := (38, [some (.inr (.inr (some (10, 0)))), some (.inl x1), some (.inl x2), some (.inl x3)], [], am_mk m)) (if_pos hc1) ?_
      cases h
      exact am_Go.fg (by exact ⟨rfl, ⟨rfl, ⟨rfl, trivial⟩⟩⟩) hk
    · rw [if_neg hc1] at h
      refine am_Go.c1 htb (S' := (9, [some (.inr (.inr (some (10, 0)))), some (.inl x1), some (.inl x2), some (.inl x3)], [], am_mk m)) (if_neg hc1) ?_
      refine am_Go.n htb 3 (S' := (14, [some (.inr (.inr (some (10, 0)))), some (.inl x1), some (.inl x2), some (.inl x3)], [.inl x3, .inr (.inr (some (57, 0)))], am_mk m)) rfl ?_
      obtain ⟨hg2, h⟩ := am_ck_some h
      refine am_Go.c1 htb (S' := (15, [some (.inr (.inr (some (10, 0)))), some (.inl x1), some (.inl x2), some (.inl x3)], [.inl (m.1 57 0 x3.toNatClampNeg)], am_mk m)) (if_neg hg2) ?_
      refine am_Go.n htb 1 (S' := (16, [some (.inr (.inr (some (10, 0)))), some (.inl x1), some (.inl x2), some (.inl x3)], [.inl x2, .inl (m.1 57 0 x3.toNatClampNeg)], am_mk m)) rfl ?_
      obtain ⟨q5, h6, h⟩ := am_bd h
      refine am_Go.cut (S := (31, [some (.inr (.inr (some (10, 0)))), some (.inl x1), some (.inl x2), some (.inl x3)], [.inl q5], am_mk m)) ?_ (fun key => ?_)
      · refine am_Go.n htb 3 (S' := (4, [some (.inr (.inr (some (10, 0)))), some (.inl x1), some (.inl q5), some (.inl (x3 + 1))], [], am_mk m)) rfl ?_
        exact ih h hk
      · have h := h6
        by_cases hc3 : (m.1 57 0 x3.toNatClampNeg) < x2
        · rw [if_pos hc3] at h
          refine am_Go.c1 htb (S' := (30, [some (.inr (.inr (some (10, 0)))), some (.inl x1), some (.inl x2), some (.inl x3)], [], am_mk m)) (if_pos hc3) ?_
          refine am_Go.n htb 1 (S' := (31, [some (.inr (.inr (some (10, 0)))), some (.inl x1), some (.inl x2), some (.inl x3)], [.inl x2], am_mk m)) rfl ?_
          cases h
          exact am_Go.fg (by exact ⟨rfl, ⟨rfl, ⟨rfl, ⟨rfl, trivial⟩⟩⟩⟩) key
        · rw [if_neg hc3] at h
          refine am_Go.c1 htb (S' := (19, [some (.inr (.inr (some (10, 0)))), some (.inl x1), some (.inl x2), some (.inl x3)], [], am_mk m)) (if_neg hc3) ?_
          refine am_Go.n htb 3 (S' := (24, [some (.inr (.inr (some (10, 0)))), some (.inl x1), some (.inl x2), some (.inl x3)], [.inl x3, .inr (.inr (some (57, 0)))], am_mk m)) rfl ?_
          obtain ⟨hg4, h⟩ := am_ck_some h
          refine am_Go.c1 htb (S' := (25, [some (.inr (.inr (some (10, 0)))), some (.inl x1), some (.inl x2), some (.inl x3)], [.inl (m.1 57 0 x3.toNatClampNeg)], am_mk m)) (if_neg hg4) ?_
          refine am_Go.n htb 3 (S' := (31, [some (.inr (.inr (some (10, 0)))), some (.inl x1), some (.inl x2), some (.inl x3)], [.inl ((m.1 57 0 x3.toNatClampNeg) + (1 : Int32))], am_mk m)) rfl ?_
          cases h
          exact am_Go.fg (by exact ⟨rfl, ⟨rfl, ⟨rfl, ⟨rfl, trivial⟩⟩⟩⟩) key
def fn_X10_setsAhead (a1 : Int32) (m : am_m) : Option (Int32) :=
  (lp_X10_setsAhead_4 1000000 a1 0 0 m).bind fun q7 => some q7
set_option maxRecDepth 100000 in
theorem ex_X10_setsAhead (d : Nat) (hd : 1 ≤ d) (a1 : Int32) (m : am_m) (t : Int32) (h : fn_X10_setsAhead a1 m = some t) : am_Ex am_cod d 256 [.inr (.inr (some (10, 0))), .inl a1] (am_mk m) (some (.inl t)) (am_mk m) 0 0 := by
  obtain ⟨d, rfl⟩ : ∃ e, d = e + 1 := ⟨d - 1, by omega⟩
  have htb : am_tab 256 = at_256 := rfl
  refine ⟨Nat.le_of_ble_eq_true rfl, ?_⟩
  unfold fn_X10_setsAhead at h
  show am_Go d 256 (0, [some (.inr (.inr (some (10, 0)))), some (.inl a1), none, none], [], am_mk m) _ _ 0 0
  refine am_Go.n htb 4 (S' := (4, [some (.inr (.inr (some (10, 0)))), some (.inl a1), some (.inl 0), some (.inl 0)], [], am_mk m)) rfl ?_
  obtain ⟨q7, h8, h⟩ := am_bd h
  refine lt_X10_setsAhead_4 _ hd (h := h8) (hk := ?_)
  refine am_Go.n htb 1 (S' := (39, [some (.inr (.inr (some (10, 0)))), some (.inl a1), some (.inl q7), none], [.inl q7], am_mk m)) rfl ?_
  cases h
  exact am_Go.r htb rfl
-- X10_setOf
def lp_X10_setOf_5 : Nat → Int32 → Int32 → Int32 → Int32 → am_m → Option (Int32)
  | 0, _, _, _, _, _ => none
  | n + 1, x1, x2, x3, x4, m =>
  (if x2 ≤ x4 then some x3 else am_ck x4 8 (lp_X10_setOf_5 n x1 x2 (x3 ||| (if (m.1 57 0 x4.toNatClampNeg) ≠ x1 then (0 : Int32) else ((1 : Int32) <<< (x4 &&& 31)))) (x4 + 1) m))
set_option maxRecDepth 100000 in
theorem lt_X10_setOf_5 (d : Nat) (hd : 1 ≤ d + 1) {r : Option am_V} {M' : am_M} {kc ks : Nat} {n : Nat} {x1 : Int32} {x2 : Int32} {x3 : Int32} {x4 : Int32} {m : am_m} {t : Int32} (h : lp_X10_setOf_5 n x1 x2 x3 x4 m = some t) (hk : am_Go d 257 (39, [some (.inr (.inr (some (10, 0)))), some (.inl x1), some (.inl x2), some (.inl t), none], [], am_mk m) r M' kc ks) : am_Go d 257 (5, [some (.inr (.inr (some (10, 0)))), some (.inl x1), some (.inl x2), some (.inl x3), some (.inl x4)], [], am_mk m) r M' kc ks := by
  have htb : am_tab 257 = at_257 := rfl
  induction n generalizing x3 x4 with
  | zero => cases h
  | succ n ih =>
    unfold lp_X10_setOf_5 at h
    refine am_Go.n htb 2 (S' := (8, [some (.inr (.inr (some (10, 0)))), some (.inl x1), some (.inl x2), some (.inl x3), some (.inl x4)], [.inl x2, .inl x4], am_mk m)) rfl ?_
    by_cases hc1 : x2 ≤ x4
    · rw [if_pos hc1] at h
      refine am_Go.c1 htb (S' := (39, [some (.inr (.inr (some (10, 0)))), some (.inl x1), some (.inl x2), some (.inl x3), some (.inl x4)], [], am_mk m)) (if_pos hc1) ?_
      cases h
      exact am_Go.fg (by exact ⟨rfl, ⟨rfl, ⟨rfl, ⟨rfl, trivial⟩⟩⟩⟩) hk
    · rw [if_neg hc1] at h
      refine am_Go.c1 htb (S' := (11, [some (.inr (.inr (some (10, 0)))), some (.inl x1), some (.inl x2), some (.inl x3), some (.inl x4)], [], am_mk m)) (if_neg hc1) ?_
      refine am_Go.n htb 4 (S' := (18, [some (.inr (.inr (some (10, 0)))), some (.inl x1), some (.inl x2), some (.inl x3), some (.inl x4)], [.inl x4, .inr (.inr (some (57, 0))), .inl x3], am_mk m)) rfl ?_
      obtain ⟨hg2, h⟩ := am_ck_some h
      refine am_Go.c1 htb (S' := (19, [some (.inr (.inr (some (10, 0)))), some (.inl x1), some (.inl x2), some (.inl x3), some (.inl x4)], [.inl (m.1 57 0 x4.toNatClampNeg), .inl x3], am_mk m)) (if_neg hg2) ?_
      refine am_Go.n htb 1 (S' := (20, [some (.inr (.inr (some (10, 0)))), some (.inl x1), some (.inl x2), some (.inl x3), some (.inl x4)], [.inl x1, .inl (m.1 57 0 x4.toNatClampNeg), .inl x3], am_mk m)) rfl ?_
      refine am_Go.cut (S := (31, [some (.inr (.inr (some (10, 0)))), some (.inl x1), some (.inl x2), some (.inl x3), some (.inl x4)], [.inl (if (m.1 57 0 x4.toNatClampNeg) ≠ x1 then (0 : Int32) else ((1 : Int32) <<< (x4 &&& 31))), .inl x3], am_mk m)) ?_ (fun key => ?_)
      · refine am_Go.n htb 4 (S' := (5, [some (.inr (.inr (some (10, 0)))), some (.inl x1), some (.inl x2), some (.inl (x3 ||| (if (m.1 57 0 x4.toNatClampNeg) ≠ x1 then (0 : Int32) else ((1 : Int32) <<< (x4 &&& 31))))), some (.inl (x4 + 1))], [], am_mk m)) rfl ?_
        exact ih h hk
      · by_cases hc3 : (m.1 57 0 x4.toNatClampNeg) ≠ x1
        · refine am_Go.c1 htb (S' := (30, [some (.inr (.inr (some (10, 0)))), some (.inl x1), some (.inl x2), some (.inl x3), some (.inl x4)], [.inl x3], am_mk m)) (if_pos hc3) ?_
          refine am_Go.n htb 1 (S' := (31, [some (.inr (.inr (some (10, 0)))), some (.inl x1), some (.inl x2), some (.inl x3), some (.inl x4)], [.inl 0, .inl x3], am_mk m)) rfl ?_
          simp only [if_pos hc3] at key
          exact am_Go.fg (by exact ⟨rfl, ⟨rfl, ⟨rfl, ⟨rfl, ⟨rfl, trivial⟩⟩⟩⟩⟩) key
        · refine am_Go.c1 htb (S' := (23, [some (.inr (.inr (some (10, 0)))), some (.inl x1), some (.inl x2), some (.inl x3), some (.inl x4)], [.inl x3], am_mk m)) (if_neg hc3) ?_
          refine am_Go.n htb 4 (S' := (31, [some (.inr (.inr (some (10, 0)))), some (.inl x1), some (.inl x2), some (.inl x3), some (.inl x4)], [.inl ((1 : Int32) <<< (x4 &&& 31)), .inl x3], am_mk m)) rfl ?_
          simp only [if_neg hc3] at key
          exact am_Go.fg (by exact ⟨rfl, ⟨rfl, ⟨rfl, ⟨rfl, ⟨rfl, trivial⟩⟩⟩⟩⟩) key
def fn_X10_setOf (a1 : Int32) (a2 : Int32) (m : am_m) : Option (Int32) :=
  (lp_X10_setOf_5 1000000 a1 a2 0 0 m).bind fun q4 => some q4
set_option maxRecDepth 100000 in
theorem ex_X10_setOf (d : Nat) (hd : 1 ≤ d) (a1 : Int32) (a2 : Int32) (m : am_m) (t : Int32) (h : fn_X10_setOf a1 a2 m = some t) : am_Ex am_cod d 257 [.inr (.inr (some (10, 0))), .inl a1, .inl a2] (am_mk m) (some (.inl t)) (am_mk m) 0 0 := by
  obtain ⟨d, rfl⟩ : ∃ e, d = e + 1 := ⟨d - 1, by omega⟩
  have htb : am_tab 257 = at_257 := rfl
  refine ⟨Nat.le_of_ble_eq_true rfl, ?_⟩
  unfold fn_X10_setOf at h
  show am_Go d 257 (0, [some (.inr (.inr (some (10, 0)))), some (.inl a1), some (.inl a2), none, none], [], am_mk m) _ _ 0 0
  refine am_Go.n htb 4 (S' := (5, [some (.inr (.inr (some (10, 0)))), some (.inl a1), some (.inl a2), some (.inl 0), some (.inl 0)], [], am_mk m)) rfl ?_
  obtain ⟨q4, h5, h⟩ := am_bd h
  refine lt_X10_setOf_5 _ hd (h := h5) (hk := ?_)
  refine am_Go.n htb 1 (S' := (40, [some (.inr (.inr (some (10, 0)))), some (.inl a1), some (.inl a2), some (.inl q4), none], [.inl q4], am_mk m)) rfl ?_
  cases h
  exact am_Go.r htb rfl
-- X10_worthOf
def lp_X10_worthOf_19 : Nat → Int32 → Int32 → Int32 → Int32 → Int32 → am_m → Option (Sum (Unit) (Int32))
  | 0, _, _, _, _, _, _ => none
  | n + 1, x1, x2, x3, x4, x5, m =>
  (if x3 ≤ x5 then some (.inl ()) else (fn_X10_setOf x5 x2 m).bind fun r5 => (if x1 = 0 then (fn_X10_ones r5 m).bind fun r8 => (if (2 : Int32) ≤ r8 then lp_X10_worthOf_19 n x1 x2 x3 x4 (x5 + 1) m else some (.inr 100000000)) else (fn_X10_isTable r5 m).bind fun r11 => (if r11 ≠ 0 then lp_X10_worthOf_19 n x1 x2 x3 x4 (x5 + 1) m else some (.inr 100000000))))
set_option maxRecDepth 100000 in
theorem lt_X10_worthOf_19 (d : Nat) (hd : 3 ≤ d + 1) {r : Option am_V} {M' : am_M} {kc ks : Nat} {n : Nat} {x1 : Int32} {x2 : Int32} {x3 : Int32} {x4 : Int32} {x5 : Int32} {m : am_m} {t : Sum (Unit) (Int32)} (h : lp_X10_worthOf_19 n x1 x2 x3 x4 x5 m = some t) (hk : ∀ t', t = .inl t' → am_Go d 258 (69, [some (.inr (.inr (some (10, 0)))), some (.inl x1), some (.inl x2), some (.inl x3), some (.inl x4), none, none], [], am_mk m) r M' kc ks) (hr : ∀ t', t = .inr t' → r = some (.inl t') ∧ M' = am_mk m ∧ kc = 0 ∧ ks = 0) : am_Go d 258 (19, [some (.inr (.inr (some (10, 0)))), some (.inl x1), some (.inl x2), some (.inl x3), some (.inl x4), some (.inl x5), none], [], am_mk m) r M' kc ks := by
  have htb : am_tab 258 = at_258 := rfl
  induction n generalizing x5 with
  | zero => cases h
  | succ n ih =>
    unfold lp_X10_worthOf_19 at h
    refine am_Go.n htb 2 (S' := (22, [some (.inr (.inr (some (10, 0)))), some (.inl x1), some (.inl x2), some (.inl x3), some (.inl x4), some (.inl x5), none], [.inl x3, .inl x5], am_mk m)) rfl ?_
    by_cases hc4 : x3 ≤ x5
    · rw [if_pos hc4] at h
      refine am_Go.c1 htb (S' := (69, [some (.inr (.inr (some (10, 0)))), some (.inl x1), some (.inl x2), some (.inl x3), some (.inl x4), some (.inl x5), none], [], am_mk m)) (if_pos hc4) ?_
      cases h
      exact am_Go.fg (by exact ⟨rfl, ⟨rfl, ⟨rfl, ⟨rfl, ⟨rfl, trivial⟩⟩⟩⟩⟩) (hk _ rfl)
    · rw [if_neg hc4] at h
      refine am_Go.c1 htb (S' := (25, [some (.inr (.inr (some (10, 0)))), some (.inl x1), some (.inl x2), some (.inl x3), some (.inl x4), some (.inl x5), none], [], am_mk m)) (if_neg hc4) ?_
      refine am_Go.n htb 3 (S' := (29, [some (.inr (.inr (some (10, 0)))), some (.inl x1), some (.inl x2), some (.inl x3), some (.inl x4), some (.inl x5), none], [.inl x2, .inl x5, .inr (.inr (some (10, 0)))], am_mk m)) rfl ?_
      obtain ⟨r5, h6, h⟩ := am_bd h
      refine am_Go.cl htb rfl (ex_X10_setOf d (by omega) x5 x2 m r5 h6) ?_
      show am_Go d 258 (32, [some (.inr (.inr (some (10, 0)))), some (.inl x1), some (.inl x2), some (.inl x3), some (.inl x4), some (.inl x5), none], [.inl r5], am_mk m) _ _ _ _
      refine am_Go.n htb 2 (S' := (35, [some (.inr (.inr (some (10, 0)))), some (.inl x1), some (.inl x2), some (.inl x3), some (.inl x4), some (.inl x5), some (.inl r5)], [.inl x1], am_mk m)) rfl ?_
      by_cases hc7 : x1 = 0
      · rw [if_pos hc7] at h
        refine am_Go.c1 htb (S' := (50, [some (.inr (.inr (some (10, 0)))), some (.inl x1), some (.inl x2), some (.inl x3), some (.inl x4), some (.inl x5), some (.inl r5)], [], am_mk m)) (if_pos hc7) ?_
        refine am_Go.n htb 1 (S' := (52, [some (.inr (.inr (some (10, 0)))), some (.inl x1), some (.inl x2), some (.inl x3), some (.inl x4), some (.inl x5), some (.inl r5)], [.inl r5], am_mk m)) rfl ?_
        obtain ⟨r8, h9, h⟩ := am_bd h
        refine am_Go.cl htb rfl (ex_X10_ones d (by omega) r5 m r8 h9) ?_
        show am_Go d 258 (55, [some (.inr (.inr (some (10, 0)))), some (.inl x1), some (.inl x2), some (.inl x3), some (.inl x4), some (.inl x5), some (.inl r5)], [.inl r8], am_mk m) _ _ _ _
        refine am_Go.n htb 1 (S' := (56, [some (.inr (.inr (some (10, 0)))), some (.inl x1), some (.inl x2), some (.inl x3), some (.inl x4), some (.inl x5), some (.inl r5)], [.inl 2, .inl r8], am_mk m)) rfl ?_
        by_cases hc10 : (2 : Int32) ≤ r8
        · rw [if_pos hc10] at h
          refine am_Go.c1 htb (S' := (63, [some (.inr (.inr (some (10, 0)))), some (.inl x1), some (.inl x2), some (.inl x3), some (.inl x4), some (.inl x5), some (.inl r5)], [], am_mk m)) (if_pos hc10) ?_
          refine am_Go.n htb 2 (S' := (19, [some (.inr (.inr (some (10, 0)))), some (.inl x1), some (.inl x2), some (.inl x3), some (.inl x4), some (.inl (x5 + 1)), some (.inl r5)], [], am_mk m)) rfl ?_
          refine am_Go.fg (L0 := [some (.inr (.inr (some (10, 0)))), some (.inl x1), some (.inl x2), some (.inl x3), some (.inl x4), some (.inl (x5 + 1)), none]) (by exact ⟨rfl, ⟨rfl, ⟨rfl, ⟨rfl, ⟨rfl, ⟨rfl, trivial⟩⟩⟩⟩⟩⟩) ?_
          exact ih h hk hr
        · rw [if_neg hc10] at h
          refine am_Go.c1 htb (S' := (59, [some (.inr (.inr (some (10, 0)))), some (.inl x1), some (.inl x2), some (.inl x3), some (.inl x4), some (.inl x5), some (.inl r5)], [], am_mk m)) (if_neg hc10) ?_
          refine am_Go.n htb 1 (S' := (62, [some (.inr (.inr (some (10, 0)))), some (.inl x1), some (.inl x2), some (.inl x3), some (.inl x4), some (.inl x5), some (.inl r5)], [.inl 100000000], am_mk m)) rfl ?_
          cases h
          obtain ⟨rfl, rfl, rfl, rfl⟩ := hr _ rfl
          exact am_Go.r htb rfl
      · rw [if_neg hc7] at h
        refine am_Go.c1 htb (S' := (38, [some (.inr (.inr (some (10, 0)))), some (.inl x1), some (.inl x2), some (.inl x3), some (.inl x4), some (.inl x5), some (.inl r5)], [], am_mk m)) (if_neg hc7) ?_
        refine am_Go.n htb 2 (S' := (41, [some (.inr (.inr (some (10, 0)))), some (.inl x1), some (.inl x2), some (.inl x3), some (.inl x4), some (.inl x5), some (.inl r5)], [.inl r5, .inr (.inr (some (10, 0)))], am_mk m)) rfl ?_
        obtain ⟨r11, h12, h⟩ := am_bd h
        refine am_Go.cl htb rfl (ex_X10_isTable d (by omega) r5 m r11 h12) ?_
        show am_Go d 258 (44, [some (.inr (.inr (some (10, 0)))), some (.inl x1), some (.inl x2), some (.inl x3), some (.inl x4), some (.inl x5), some (.inl r5)], [.inl r11], am_mk m) _ _ _ _
        by_cases hc13 : r11 ≠ 0
        · rw [if_pos hc13] at h
          refine am_Go.c1 htb (S' := (63, [some (.inr (.inr (some (10, 0)))), some (.inl x1), some (.inl x2), some (.inl x3), some (.inl x4), some (.inl x5), some (.inl r5)], [], am_mk m)) (if_pos hc13) ?_
          refine am_Go.n htb 2 (S' := (19, [some (.inr (.inr (some (10, 0)))), some (.inl x1), some (.inl x2), some (.inl x3), some (.inl x4), some (.inl (x5 + 1)), some (.inl r5)], [], am_mk m)) rfl ?_
          refine am_Go.fg (L0 := [some (.inr (.inr (some (10, 0)))), some (.inl x1), some (.inl x2), some (.inl x3), some (.inl x4), some (.inl (x5 + 1)), none]) (by exact ⟨rfl, ⟨rfl, ⟨rfl, ⟨rfl, ⟨rfl, ⟨rfl, trivial⟩⟩⟩⟩⟩⟩) ?_
          exact ih h hk hr
        · rw [if_neg hc13] at h
          refine am_Go.c1 htb (S' := (47, [some (.inr (.inr (some (10, 0)))), some (.inl x1), some (.inl x2), some (.inl x3), some (.inl x4), some (.inl x5), some (.inl r5)], [], am_mk m)) (if_neg hc13) ?_
          refine am_Go.n htb 2 (S' := (62, [some (.inr (.inr (some (10, 0)))), some (.inl x1), some (.inl x2), some (.inl x3), some (.inl x4), some (.inl x5), some (.inl r5)], [.inl 100000000], am_mk m)) rfl ?_
          cases h
          obtain ⟨rfl, rfl, rfl, rfl⟩ := hr _ rfl
          exact am_Go.r htb rfl
def lp_X10_worthOf_84 : Nat → Int32 → Int32 → Int32 → Int32 → Int32 → Int32 → am_m → Option (Sum (Int32) (Int32))
  | 0, _, _, _, _, _, _, _ => none
  | n + 1, x1, x2, x3, x4, x5, x6, m =>
  (if x2 ≤ x6 then some (.inl x4) else (if x1 ≠ 0 then lp_X10_worthOf_84 n x1 x2 x3 x4 x5 (x6 + 1) m else am_ck x5 8 (am_ck x6 8 ((if (m.1 57 0 x5.toNatClampNeg) ≠ (m.1 57 0 x6.toNatClampNeg) then lp_X10_worthOf_84 n x1 x2 x3 x4 x5 (x6 + 1) m else am_ck (((7 : Int32) * x5) + x6) 49 ((if (m.1 93 0 (((7 : Int32) * x5) + x6).toNatClampNeg) = 0 then am_ck (((7 : Int32) * x5) + x6) 49 (lp_X10_worthOf_84 n x1 x2 x3 (x4 + (if (m.1 92 0 (((7 : Int32) * x5) + x6).toNatClampNeg) = 0 then (1 : Int32) else (0 : Int32))) x5 (x6 + 1) m) else some (.inr 100000000))))))))
set_option maxRecDepth 100000 in
theorem lt_X10_worthOf_84 (d : Nat) (hd : 3 ≤ d + 1) {r : Option am_V} {M' : am_M} {kc ks : Nat} {n : Nat} {x1 : Int32} {x2 : Int32} {x3 : Int32} {x4 : Int32} {x5 : Int32} {x6 : Int32} {m : am_m} {t : Sum (Int32) (Int32)} (h : lp_X10_worthOf_84 n x1 x2 x3 x4 x5 x6 m = some t) (hk : ∀ t', t = .inl t' → am_Go d 258 (163, [some (.inr (.inr (some (10, 0)))), some (.inl x1), some (.inl x2), some (.inl x3), some (.inl t'), some (.inl x5), none], [], am_mk m) r M' kc ks) (hr : ∀ t', t = .inr t' → r = some (.inl t') ∧ M' = am_mk m ∧ kc = 0 ∧ ks = 0) : am_Go d 258 (84, [some (.inr (.inr (some (10, 0)))), some (.inl x1), some (.inl x2), some (.inl x3), some (.inl x4), some (.inl x5), some (.inl x6)], [], am_mk m) r M' kc ks := by
  have htb : am_tab 258 = at_258 := rfl
  induction n generalizing x4 x6 with
  | zero => cases h
  | succ n ih =>
    unfold lp_X10_worthOf_84 at h
    refine am_Go.n htb 2 (S' := (87, [some (.inr (.inr (some (10, 0)))), some (.inl x1), some (.inl x2), some (.inl x3), some (.inl x4), some (.inl x5), some (.inl x6)], [.inl x2, .inl x6], am_mk m)) rfl ?_
    by_cases hc17 : x2 ≤ x6
    · rw [if_pos hc17] at h
      refine am_Go.c1 htb (S' := (163, [some (.inr (.inr (some (10, 0)))), some (.inl x1), some (.inl x2), some (.inl x3), some (.inl x4), some (.inl x5), some (.inl x6)], [], am_mk m)) (if_pos hc17) ?_
      cases h
      exact am_Go.fg (by exact ⟨rfl, ⟨rfl, ⟨rfl, ⟨rfl, ⟨rfl, ⟨rfl, trivial⟩⟩⟩⟩⟩⟩) (hk _ rfl)
    · rw [if_neg hc17] at h
      refine am_Go.c1 htb (S' := (90, [some (.inr (.inr (some (10, 0)))), some (.inl x1), some (.inl x2), some (.inl x3), some (.inl x4), some (.inl x5), some (.inl x6)], [], am_mk m)) (if_neg hc17) ?_
      refine am_Go.n htb 1 (S' := (91, [some (.inr (.inr (some (10, 0)))), some (.inl x1), some (.inl x2), some (.inl x3), some (.inl x4), some (.inl x5), some (.inl x6)], [.inl x1], am_mk m)) rfl ?_
      by_cases hc18 : x1 ≠ 0
      · rw [if_pos hc18] at h
        refine am_Go.c1 htb (S' := (157, [some (.inr (.inr (some (10, 0)))), some (.inl x1), some (.inl x2), some (.inl x3), some (.inl x4), some (.inl x5), some (.inl x6)], [], am_mk m)) (if_pos hc18) ?_
        refine am_Go.n htb 2 (S' := (84, [some (.inr (.inr (some (10, 0)))), some (.inl x1), some (.inl x2), some (.inl x3), some (.inl x4), some (.inl x5), some (.inl (x6 + 1))], [], am_mk m)) rfl ?_
        exact ih h hk hr
      · rw [if_neg hc18] at h
        refine am_Go.c1 htb (S' := (94, [some (.inr (.inr (some (10, 0)))), some (.inl x1), some (.inl x2), some (.inl x3), some (.inl x4), some (.inl x5), some (.inl x6)], [], am_mk m)) (if_neg hc18) ?_
        refine am_Go.n htb 3 (S' := (100, [some (.inr (.inr (some (10, 0)))), some (.inl x1), some (.inl x2), some (.inl x3), some (.inl x4), some (.inl x5), some (.inl x6)], [.inl x5, .inr (.inr (some (57, 0)))], am_mk m)) rfl ?_
        obtain ⟨hg19, h⟩ := am_ck_some h
        refine am_Go.c1 htb (S' := (101, [some (.inr (.inr (some (10, 0)))), some (.inl x1), some (.inl x2), some (.inl x3), some (.inl x4), some (.inl x5), some (.inl x6)], [.inl (m.1 57 0 x5.toNatClampNeg)], am_mk m)) (if_neg hg19) ?_
        refine am_Go.n htb 3 (S' := (107, [some (.inr (.inr (some (10, 0)))), some (.inl x1), some (.inl x2), some (.inl x3), some (.inl x4), some (.inl x5), some (.inl x6)], [.inl x6, .inr (.inr (some (57, 0))), .inl (m.1 57 0 x5.toNatClampNeg)], am_mk m)) rfl ?_
        obtain ⟨hg20, h⟩ := am_ck_some h
        refine am_Go.c1 htb (S' := (108, [some (.inr (.inr (some (10, 0)))), some (.inl x1), some (.inl x2), some (.inl x3), some (.inl x4), some (.inl x5), some (.inl x6)], [.inl (m.1 57 0 x6.toNatClampNeg), .inl (m.1 57 0 x5.toNatClampNeg)], am_mk m)) (if_neg hg20) ?_
        by_cases hc21 : (m.1 57 0 x5.toNatClampNeg) ≠ (m.1 57 0 x6.toNatClampNeg)
        · rw [if_pos hc21] at h
          refine am_Go.c1 htb (S' := (157, [some (.inr (.inr (some (10, 0)))), some (.inl x1), some (.inl x2), some (.inl x3), some (.inl x4), some (.inl x5), some (.inl x6)], [], am_mk m)) (if_pos hc21) ?_
          refine am_Go.n htb 2 (S' := (84, [some (.inr (.inr (some (10, 0)))), some (.inl x1), some (.inl x2), some (.inl x3), some (.inl x4), some (.inl x5), some (.inl (x6 + 1))], [], am_mk m)) rfl ?_
          exact ih h hk hr
        · rw [if_neg hc21] at h
          refine am_Go.c1 htb (S' := (111, [some (.inr (.inr (some (10, 0)))), some (.inl x1), some (.inl x2), some (.inl x3), some (.inl x4), some (.inl x5), some (.inl x6)], [], am_mk m)) (if_neg hc21) ?_
          refine am_Go.n htb 7 (S' := (123, [some (.inr (.inr (some (10, 0)))), some (.inl x1), some (.inl x2), some (.inl x3), some (.inl x4), some (.inl x5), some (.inl x6)], [.inl (((7 : Int32) * x5) + x6), .inr (.inr (some (93, 0)))], am_mk m)) rfl ?_
          obtain ⟨hg22, h⟩ := am_ck_some h
          refine am_Go.c1 htb (S' := (124, [some (.inr (.inr (some (10, 0)))), some (.inl x1), some (.inl x2), some (.inl x3), some (.inl x4), some (.inl x5), some (.inl x6)], [.inl (m.1 93 0 (((7 : Int32) * x5) + x6).toNatClampNeg)], am_mk m)) (if_neg hg22) ?_
          by_cases hc23 : (m.1 93 0 (((7 : Int32) * x5) + x6).toNatClampNeg) = 0
          · rw [if_pos hc23] at h
            refine am_Go.c1 htb (S' := (131, [some (.inr (.inr (some (10, 0)))), some (.inl x1), some (.inl x2), some (.inl x3), some (.inl x4), some (.inl x5), some (.inl x6)], [], am_mk m)) (if_pos hc23) ?_
            refine am_Go.n htb 8 (S' := (145, [some (.inr (.inr (some (10, 0)))), some (.inl x1), some (.inl x2), some (.inl x3), some (.inl x4), some (.inl x5), some (.inl x6)], [.inl (((7 : Int32) * x5) + x6), .inr (.inr (some (92, 0))), .inl x4], am_mk m)) rfl ?_
            obtain ⟨hg24, h⟩ := am_ck_some h
            refine am_Go.c1 htb (S' := (146, [some (.inr (.inr (some (10, 0)))), some (.inl x1), some (.inl x2), some (.inl x3), some (.inl x4), some (.inl x5), some (.inl x6)], [.inl (m.1 92 0 (((7 : Int32) * x5) + x6).toNatClampNeg), .inl x4], am_mk m)) (if_neg hg24) ?_
            refine am_Go.cut (S := (154, [some (.inr (.inr (some (10, 0)))), some (.inl x1), some (.inl x2), some (.inl x3), some (.inl x4), some (.inl x5), some (.inl x6)], [.inl (if (m.1 92 0 (((7 : Int32) * x5) + x6).toNatClampNeg) = 0 then (1 : Int32) else (0 : Int32)), .inl x4], am_mk m)) ?_ (fun key => ?_)
            · refine am_Go.n htb 4 (S' := (84, [some (.inr (.inr (some (10, 0)))), some (.inl x1), some (.inl x2), some (.inl x3), some (.inl (x4 + (if (m.1 92 0 (((7 : Int32) * x5) + x6).toNatClampNeg) = 0 then (1 : Int32) else (0 : Int32)))), some (.inl x5), some (.inl (x6 + 1))], [], am_mk m)) rfl ?_
              exact ih h hk hr
            · by_cases hc25 : (m.1 92 0 (((7 : Int32) * x5) + x6).toNatClampNeg) = 0
              · refine am_Go.c1 htb (S' := (153, [some (.inr (.inr (some (10, 0)))), some (.inl x1), some (.inl x2), some (.inl x3), some (.inl x4), some (.inl x5), some (.inl x6)], [.inl x4], am_mk m)) (if_pos hc25) ?_
                refine am_Go.n htb 1 (S' := (154, [some (.inr (.inr (some (10, 0)))), some (.inl x1), some (.inl x2), some (.inl x3), some (.inl x4), some (.inl x5), some (.inl x6)], [.inl 1, .inl x4], am_mk m)) rfl ?_
                simp only [if_pos hc25] at key
                exact am_Go.fg (by exact ⟨rfl, ⟨rfl, ⟨rfl, ⟨rfl, ⟨rfl, ⟨rfl, ⟨rfl, trivial⟩⟩⟩⟩⟩⟩⟩) key
              · refine am_Go.c1 htb (S' := (149, [some (.inr (.inr (some (10, 0)))), some (.inl x1), some (.inl x2), some (.inl x3), some (.inl x4), some (.inl x5), some (.inl x6)], [.inl x4], am_mk m)) (if_neg hc25) ?_
                refine am_Go.n htb 2 (S' := (154, [some (.inr (.inr (some (10, 0)))), some (.inl x1), some (.inl x2), some (.inl x3), some (.inl x4), some (.inl x5), some (.inl x6)], [.inl 0, .inl x4], am_mk m)) rfl ?_
                simp only [if_neg hc25] at key
                exact am_Go.fg (by exact ⟨rfl, ⟨rfl, ⟨rfl, ⟨rfl, ⟨rfl, ⟨rfl, ⟨rfl, trivial⟩⟩⟩⟩⟩⟩⟩) key
          · rw [if_neg hc23] at h
            refine am_Go.c1 htb (S' := (127, [some (.inr (.inr (some (10, 0)))), some (.inl x1), some (.inl x2), some (.inl x3), some (.inl x4), some (.inl x5), some (.inl x6)], [], am_mk m)) (if_neg hc23) ?_
            refine am_Go.n htb 1 (S' := (130, [some (.inr (.inr (some (10, 0)))), some (.inl x1), some (.inl x2), some (.inl x3), some (.inl x4), some (.inl x5), some (.inl x6)], [.inl 100000000], am_mk m)) rfl ?_
            cases h
            obtain ⟨rfl, rfl, rfl, rfl⟩ := hr _ rfl
            exact am_Go.r htb rfl
def lp_X10_worthOf_72 : Nat → Int32 → Int32 → Int32 → Int32 → Int32 → am_m → Option (Sum (Int32) (Int32))
  | 0, _, _, _, _, _, _ => none
  | n + 1, x1, x2, x3, x4, x5, m =>
  (if x2 ≤ x5 then some (.inl x4) else (lp_X10_worthOf_84 1000000 x1 x2 x3 x4 x5 (x5 + (1 : Int32)) m).bind fun w29 => (match w29 with
    | .inl q26 => lp_X10_worthOf_72 n x1 x2 x3 q26 (x5 + 1) m
    | .inr rr28 => some (.inr rr28)))
set_option maxRecDepth 100000 in
theorem lt_X10_worthOf_72 (d : Nat) (hd : 3 ≤ d + 1) {r : Option am_V} {M' : am_M} {kc ks : Nat} {n : Nat} {x1 : Int32} {x2 : Int32} {x3 : Int32} {x4 : Int32} {x5 : Int32} {m : am_m} {t : Sum (Int32) (Int32)} (h : lp_X10_worthOf_72 n x1 x2 x3 x4 x5 m = some t) (hk : ∀ t', t = .inl t' → am_Go d 258 (169, [some (.inr (.inr (some (10, 0)))), some (.inl x1), some (.inl x2), some (.inl x3), some (.inl t'), none, none], [], am_mk m) r M' kc ks) (hr : ∀ t', t = .inr t' → r = some (.inl t') ∧ M' = am_mk m ∧ kc = 0 ∧ ks = 0) : am_Go d 258 (72, [some (.inr (.inr (some (10, 0)))), some (.inl x1), some (.inl x2), some (.inl x3), some (.inl x4), some (.inl x5), none], [], am_mk m) r M' kc ks := by
  have htb : am_tab 258 = at_258 := rfl
  induction n generalizing x4 x5 with
  | zero => cases h
  | succ n ih =>
    unfold lp_X10_worthOf_72 at h
    refine am_Go.n htb 2 (S' := (75, [some (.inr (.inr (some (10, 0)))), some (.inl x1), some (.inl x2), some (.inl x3), some (.inl x4), some (.inl x5), none], [.inl x2, .inl x5], am_mk m)) rfl ?_
    by_cases hc16 : x2 ≤ x5
    · rw [if_pos hc16] at h
      refine am_Go.c1 htb (S' := (169, [some (.inr (.inr (some (10, 0)))), some (.inl x1), some (.inl x2), some (.inl x3), some (.inl x4), some (.inl x5), none], [], am_mk m)) (if_pos hc16) ?_
      cases h
      exact am_Go.fg (by exact ⟨rfl, ⟨rfl, ⟨rfl, ⟨rfl, ⟨rfl, trivial⟩⟩⟩⟩⟩) (hk _ rfl)
    · rw [if_neg hc16] at h
      refine am_Go.c1 htb (S' := (78, [some (.inr (.inr (some (10, 0)))), some (.inl x1), some (.inl x2), some (.inl x3), some (.inl x4), some (.inl x5), none], [], am_mk m)) (if_neg hc16) ?_
      refine am_Go.n htb 4 (S' := (84, [some (.inr (.inr (some (10, 0)))), some (.inl x1), some (.inl x2), some (.inl x3), some (.inl x4), some (.inl x5), some (.inl (x5 + (1 : Int32)))], [], am_mk m)) rfl ?_
      obtain ⟨w29, h27, h⟩ := am_bd h
      refine lt_X10_worthOf_84 _ hd (h := h27) (hk := ?_) (hr := ?_)
      · intro q26 he
        subst he
        dsimp only at h
        refine am_Go.n htb 2 (S' := (72, [some (.inr (.inr (some (10, 0)))), some (.inl x1), some (.inl x2), some (.inl x3), some (.inl q26), some (.inl (x5 + 1)), none], [], am_mk m)) rfl ?_
        exact ih h hk hr
      · intro rr28 he
        subst he
        cases h
        exact hr _ rfl
def fn_X10_worthOf (a1 : Int32) (m : am_m) : Option (Int32) :=
  am_ck 0 5518 ((fn_X10_setsAhead (m.1 44 0 (0 : Int32).toNatClampNeg) m).bind fun r2 => (lp_X10_worthOf_19 1000000 a1 (m.1 44 0 (0 : Int32).toNatClampNeg) r2 0 0 m).bind fun w36 => (match w36 with
    | .inl q14 => (lp_X10_worthOf_72 1000000 a1 (m.1 44 0 (0 : Int32).toNatClampNeg) r2 0 0 m).bind fun w34 => (match w34 with
    | .inl q30 => (if a1 = 0 then some q30 else some r2)
    | .inr rr33 => some rr33)
    | .inr rr35 => some rr35))
set_option maxRecDepth 100000 in
theorem ex_X10_worthOf (d : Nat) (hd : 3 ≤ d) (a1 : Int32) (m : am_m) (t : Int32) (h : fn_X10_worthOf a1 m = some t) : am_Ex am_cod d 258 [.inr (.inr (some (10, 0))), .inl a1] (am_mk m) (some (.inl t)) (am_mk m) 0 0 := by
  obtain ⟨d, rfl⟩ : ∃ e, d = e + 1 := ⟨d - 1, by omega⟩
  have htb : am_tab 258 = at_258 := rfl
  refine ⟨Nat.le_of_ble_eq_true rfl, ?_⟩
  unfold fn_X10_worthOf at h
  show am_Go d 258 (0, [some (.inr (.inr (some (10, 0)))), some (.inl a1), none, none, none, none, none], [], am_mk m) _ _ 0 0
  refine am_Go.n htb 3 (S' := (5, [some (.inr (.inr (some (10, 0)))), some (.inl a1), none, none, none, none, none], [.inl 0, .inr (.inr (some (44, 0)))], am_mk m)) rfl ?_
  obtain ⟨hg1, h⟩ := am_ck_some h
  refine am_Go.c1 htb (S' := (6, [some (.inr (.inr (some (10, 0)))), some (.inl a1), none, none, none, none, none], [.inl (m.1 44 0 (0 : Int32).toNatClampNeg)], am_mk m)) (if_neg hg1) ?_
  refine am_Go.n htb 3 (S' := (9, [some (.inr (.inr (some (10, 0)))), some (.inl a1), some (.inl (m.1 44 0 (0 : Int32).toNatClampNeg)), none, none, none, none], [.inl (m.1 44 0 (0 : Int32).toNatClampNeg), .inr (.inr (some (10, 0)))], am_mk m)) rfl ?_
  obtain ⟨r2, h3, h⟩ := am_bd h
  refine am_Go.cl htb rfl (ex_X10_setsAhead d (by omega) (m.1 44 0 (0 : Int32).toNatClampNeg) m r2 h3) ?_
  show am_Go d 258 (12, [some (.inr (.inr (some (10, 0)))), some (.inl a1), some (.inl (m.1 44 0 (0 : Int32).toNatClampNeg)), none, none, none, none], [.inl r2], am_mk m) _ _ _ _
  refine am_Go.n htb 5 (S' := (19, [some (.inr (.inr (some (10, 0)))), some (.inl a1), some (.inl (m.1 44 0 (0 : Int32).toNatClampNeg)), some (.inl r2), some (.inl 0), some (.inl 0), none], [], am_mk m)) rfl ?_
  obtain ⟨w36, h15, h⟩ := am_bd h
  refine lt_X10_worthOf_19 _ hd (h := h15) (hk := ?_) (hr := ?_)
  · intro q14 he
    subst he
    dsimp only at h
    refine am_Go.n htb 2 (S' := (72, [some (.inr (.inr (some (10, 0)))), some (.inl a1), some (.inl (m.1 44 0 (0 : Int32).toNatClampNeg)), some (.inl r2), some (.inl 0), some (.inl 0), none], [], am_mk m)) rfl ?_
    obtain ⟨w34, h31, h⟩ := am_bd h
    refine lt_X10_worthOf_72 _ hd (h := h31) (hk := ?_) (hr := ?_)
    · intro q30 he
      subst he
      dsimp only at h
      refine am_Go.n htb 1 (S' := (170, [some (.inr (.inr (some (10, 0)))), some (.inl a1), some (.inl (m.1 44 0 (0 : Int32).toNatClampNeg)), some (.inl r2), some (.inl q30), none, none], [.inl a1], am_mk m)) rfl ?_
      by_cases hc32 : a1 = 0
      · rw [if_pos hc32] at h
        refine am_Go.c1 htb (S' := (177, [some (.inr (.inr (some (10, 0)))), some (.inl a1), some (.inl (m.1 44 0 (0 : Int32).toNatClampNeg)), some (.inl r2), some (.inl q30), none, none], [], am_mk m)) (if_pos hc32) ?_
        refine am_Go.n htb 1 (S' := (179, [some (.inr (.inr (some (10, 0)))), some (.inl a1), some (.inl (m.1 44 0 (0 : Int32).toNatClampNeg)), some (.inl r2), some (.inl q30), none, none], [.inl q30], am_mk m)) rfl ?_
        cases h
        exact am_Go.r htb rfl
      · rw [if_neg hc32] at h
        refine am_Go.c1 htb (S' := (173, [some (.inr (.inr (some (10, 0)))), some (.inl a1), some (.inl (m.1 44 0 (0 : Int32).toNatClampNeg)), some (.inl r2), some (.inl q30), none, none], [], am_mk m)) (if_neg hc32) ?_
        refine am_Go.n htb 2 (S' := (179, [some (.inr (.inr (some (10, 0)))), some (.inl a1), some (.inl (m.1 44 0 (0 : Int32).toNatClampNeg)), some (.inl r2), some (.inl q30), none, none], [.inl r2], am_mk m)) rfl ?_
        cases h
        exact am_Go.r htb rfl
    · intro rr33 he
      subst he
      cases h
      exact ⟨rfl, rfl, rfl, rfl⟩
  · intro rr35 he
    subst he
    cases h
    exact ⟨rfl, rfl, rfl, rfl⟩
-- X10_findParts
def lp_X10_findParts_111 : Nat → Int32 → Int32 → Int32 → Int32 → am_m → Option (am_m)
  | 0, _, _, _, _, _ => none
  | n + 1, x1, x2, x3, x4, m =>
  (if x2 ≤ x4 then some m else (if (m.1 10 0 46) ≤ x3 then some m else am_ck x4 8 (am_ck x4 7 (lp_X10_findParts_111 n x1 x2 x3 (x4 + 1) (am_si m 58 0 x4.toNatClampNeg (m.1 57 0 x4.toNatClampNeg))))))
set_option maxRecDepth 100000 in
theorem lt_X10_findParts_111 (d : Nat) (hd : 4 ≤ d + 1) {r : Option am_V} {M' : am_M} {kc ks : Nat} {n : Nat} {x1 : Int32} {x2 : Int32} {x3 : Int32} {x4 : Int32} {m : am_m} {t : am_m} (h : lp_X10_findParts_111 n x1 x2 x3 x4 m = some t) (hk : am_Go d 259 (145, [some (.inr (.inr (some (10, 0)))), some (.inl x1), some (.inl x2), some (.inl x3), none], [], am_mk t) r M' kc ks) : am_Go d 259 (111, [some (.inr (.inr (some (10, 0)))), some (.inl x1), some (.inl x2), some (.inl x3), some (.inl x4)], [], am_mk m) r M' kc ks := by
  have htb : am_tab 259 = at_259 := rfl
  induction n generalizing x4 m with
  | zero => cases h
  | succ n ih =>
    unfold lp_X10_findParts_111 at h
    refine am_Go.n htb 2 (S' := (114, [some (.inr (.inr (some (10, 0)))), some (.inl x1), some (.inl x2), some (.inl x3), some (.inl x4)], [.inl x2, .inl x4], am_mk m)) rfl ?_
    by_cases hc20 : x2 ≤ x4
    · rw [if_pos hc20] at h
      refine am_Go.c1 htb (S' := (145, [some (.inr (.inr (some (10, 0)))), some (.inl x1), some (.inl x2), some (.inl x3), some (.inl x4)], [], am_mk m)) (if_pos hc20) ?_
      cases h
      exact am_Go.fg (by exact ⟨rfl, ⟨rfl, ⟨rfl, ⟨rfl, trivial⟩⟩⟩⟩) hk
    · rw [if_neg hc20] at h
      refine am_Go.c1 htb (S' := (117, [some (.inr (.inr (some (10, 0)))), some (.inl x1), some (.inl x2), some (.inl x3), some (.inl x4)], [], am_mk m)) (if_neg hc20) ?_
      refine am_Go.n htb 3 (S' := (122, [some (.inr (.inr (some (10, 0)))), some (.inl x1), some (.inl x2), some (.inl x3), some (.inl x4)], [.inl (m.1 10 0 46), .inl x3], am_mk m)) rfl ?_
      by_cases hc21 : (m.1 10 0 46) ≤ x3
      · rw [if_pos hc21] at h
        refine am_Go.c1 htb (S' := (145, [some (.inr (.inr (some (10, 0)))), some (.inl x1), some (.inl x2), some (.inl x3), some (.inl x4)], [], am_mk m)) (if_pos hc21) ?_
        cases h
        exact am_Go.fg (by exact ⟨rfl, ⟨rfl, ⟨rfl, ⟨rfl, trivial⟩⟩⟩⟩) hk
      · rw [if_neg hc21] at h
        refine am_Go.c1 htb (S' := (125, [some (.inr (.inr (some (10, 0)))), some (.inl x1), some (.inl x2), some (.inl x3), some (.inl x4)], [], am_mk m)) (if_neg hc21) ?_
        refine am_Go.n htb 6 (S' := (137, [some (.inr (.inr (some (10, 0)))), some (.inl x1), some (.inl x2), some (.inl x3), some (.inl x4)], [.inl x4, .inr (.inr (some (57, 0))), .inl x4, .inr (.inr (some (58, 0)))], am_mk m)) rfl ?_
        obtain ⟨hg22, h⟩ := am_ck_some h
        refine am_Go.c1 htb (S' := (138, [some (.inr (.inr (some (10, 0)))), some (.inl x1), some (.inl x2), some (.inl x3), some (.inl x4)], [.inl (m.1 57 0 x4.toNatClampNeg), .inl x4, .inr (.inr (some (58, 0)))], am_mk m)) (if_neg hg22) ?_
        obtain ⟨hg23, h⟩ := am_ck_some h
        refine am_Go.c1 htb (S' := (139, [some (.inr (.inr (some (10, 0)))), some (.inl x1), some (.inl x2), some (.inl x3), some (.inl x4)], [], am_mk (am_si m 58 0 x4.toNatClampNeg (m.1 57 0 x4.toNatClampNeg)))) (if_neg hg23) ?_
        refine am_Go.n htb 2 (S' := (111, [some (.inr (.inr (some (10, 0)))), some (.inl x1), some (.inl x2), some (.inl x3), some (.inl (x4 + 1))], [], am_mk (am_si m 58 0 x4.toNatClampNeg (m.1 57 0 x4.toNatClampNeg)))) rfl ?_
        exact ih h hk
def lp_X10_findParts_32 : Nat → Int32 → Int32 → am_m → Option (am_m)
  | 0, _, _, _ => none
  | n + 1, x1, x2, m =>
  (if x2 < 0 then some m else am_ck x2 8 (am_ck x2 8 (am_ck 0 5518 ((if x2 = ((am_si m 57 0 x2.toNatClampNeg ((m.1 57 0 x2.toNatClampNeg) + (1 : Int32))).1 44 0 (0 : Int32).toNatClampNeg) then lp_X10_findParts_32 n x1 (x2 + (-1)) (am_si m 57 0 x2.toNatClampNeg ((m.1 57 0 x2.toNatClampNeg) + (1 : Int32))) else am_ck x2 8 ((fn_X10_setsAhead x2 (am_si m 57 0 x2.toNatClampNeg ((m.1 57 0 x2.toNatClampNeg) + (1 : Int32)))).bind fun r11 => (if ((am_si m 57 0 x2.toNatClampNeg ((m.1 57 0 x2.toNatClampNeg) + (1 : Int32))).1 57 0 x2.toNatClampNeg) ≤ r11 then am_ck (x2 + 1) 8 (am_ck 0 5518 ((if (x2 + 1) ≠ ((am_si (am_si m 57 0 x2.toNatClampNeg ((m.1 57 0 x2.toNatClampNeg) + (1 : Int32))) 57 0 (x2 + 1).toNatClampNeg (-1)).1 44 0 (0 : Int32).toNatClampNeg) then some 100000000 else (fn_X10_worthOf x1 (am_si (am_si m 57 0 x2.toNatClampNeg ((m.1 57 0 x2.toNatClampNeg) + (1 : Int32))) 57 0 (x2 + 1).toNatClampNeg (-1))).bind fun r17 => some r17).bind fun q19 => (lp_X10_findParts_111 1000000 x1 (x2 + 1) q19 0 (am_si (am_si m 57 0 x2.toNatClampNeg ((m.1 57 0 x2.toNatClampNeg) + (1 : Int32))) 57 0 (x2 + 1).toNatClampNeg (-1))).bind fun q24 => lp_X10_findParts_32 n x1 (x2 + 1) (am_si q24 10 0 46 (if (q24.1 10 0 46) ≤ q19 then (q24.1 10 0 46) else q19)))) else lp_X10_findParts_32 n x1 (x2 + (-1)) (am_si m 57 0 x2.toNatClampNeg ((m.1 57 0 x2.toNatClampNeg) + (1 : Int32))))))))))
set_option maxRecDepth 100000 in
theorem lt_X10_findParts_32 (d : Nat) (hd : 4 ≤ d + 1) {r : Option am_V} {M' : am_M} {kc ks : Nat} {n : Nat} {x1 : Int32} {x2 : Int32} {m : am_m} {t : am_m} (h : lp_X10_findParts_32 n x1 x2 m = some t) (hk : am_Go d 259 (168, [some (.inr (.inr (some (10, 0)))), some (.inl x1), none, none, none], [], am_mk t) r M' kc ks) : am_Go d 259 (32, [some (.inr (.inr (some (10, 0)))), some (.inl x1), some (.inl x2), none, none], [], am_mk m) r M' kc ks := by
  have htb : am_tab 259 = at_259 := rfl
  induction n generalizing x2 m with
  | zero => cases h
  | succ n ih =>
    unfold lp_X10_findParts_32 at h
    refine am_Go.n htb 1 (S' := (33, [some (.inr (.inr (some (10, 0)))), some (.inl x1), some (.inl x2), none, none], [.inl x2], am_mk m)) rfl ?_
    by_cases hc5 : x2 < 0
    · rw [if_pos hc5] at h
      refine am_Go.c1 htb (S' := (168, [some (.inr (.inr (some (10, 0)))), some (.inl x1), some (.inl x2), none, none], [], am_mk m)) (if_pos hc5) ?_
      cases h
      exact am_Go.fg (by exact ⟨rfl, ⟨rfl, trivial⟩⟩) hk
    · rw [if_neg hc5] at h
      refine am_Go.c1 htb (S' := (36, [some (.inr (.inr (some (10, 0)))), some (.inl x1), some (.inl x2), none, none], [], am_mk m)) (if_neg hc5) ?_
      refine am_Go.n htb 4 (S' := (42, [some (.inr (.inr (some (10, 0)))), some (.inl x1), some (.inl x2), none, none], [.inl x2, .inr (.inr (some (57, 0))), .inl x2, .inr (.inr (some (57, 0)))], am_mk m)) rfl ?_
      obtain ⟨hg6, h⟩ := am_ck_some h
      refine am_Go.c1 htb (S' := (43, [some (.inr (.inr (some (10, 0)))), some (.inl x1), some (.inl x2), none, none], [.inl (m.1 57 0 x2.toNatClampNeg), .inl x2, .inr (.inr (some (57, 0)))], am_mk m)) (if_neg hg6) ?_
      refine am_Go.n htb 2 (S' := (45, [some (.inr (.inr (some (10, 0)))), some (.inl x1), some (.inl x2), none, none], [.inl ((m.1 57 0 x2.toNatClampNeg) + (1 : Int32)), .inl x2, .inr (.inr (some (57, 0)))], am_mk m)) rfl ?_
      obtain ⟨hg7, h⟩ := am_ck_some h
      refine am_Go.c1 htb (S' := (46, [some (.inr (.inr (some (10, 0)))), some (.inl x1), some (.inl x2), none, none], [], am_mk (am_si m 57 0 x2.toNatClampNeg ((m.1 57 0 x2.toNatClampNeg) + (1 : Int32))))) (if_neg hg7) ?_
      refine am_Go.n htb 4 (S' := (52, [some (.inr (.inr (some (10, 0)))), some (.inl x1), some (.inl x2), none, none], [.inl 0, .inr (.inr (some (44, 0))), .inl x2], am_mk (am_si m 57 0 x2.toNatClampNeg ((m.1 57 0 x2.toNatClampNeg) + (1 : Int32))))) rfl ?_
      obtain ⟨hg8, h⟩ := am_ck_some h
      refine am_Go.c1 htb (S' := (53, [some (.inr (.inr (some (10, 0)))), some (.inl x1), some (.inl x2), none, none], [.inl ((am_si m 57 0 x2.toNatClampNeg ((m.1 57 0 x2.toNatClampNeg) + (1 : Int32))).1 44 0 (0 : Int32).toNatClampNeg), .inl x2], am_mk (am_si m 57 0 x2.toNatClampNeg ((m.1 57 0 x2.toNatClampNeg) + (1 : Int32))))) (if_neg hg8) ?_
      by_cases hc9 : x2 = ((am_si m 57 0 x2.toNatClampNeg ((m.1 57 0 x2.toNatClampNeg) + (1 : Int32))).1 44 0 (0 : Int32).toNatClampNeg)
      · rw [if_pos hc9] at h
        refine am_Go.c1 htb (S' := (70, [some (.inr (.inr (some (10, 0)))), some (.inl x1), some (.inl x2), none, none], [], am_mk (am_si m 57 0 x2.toNatClampNeg ((m.1 57 0 x2.toNatClampNeg) + (1 : Int32))))) (if_pos hc9) ?_
        refine am_Go.n htb 2 (S' := (32, [some (.inr (.inr (some (10, 0)))), some (.inl x1), some (.inl (x2 + (-1))), none, none], [], am_mk (am_si m 57 0 x2.toNatClampNeg ((m.1 57 0 x2.toNatClampNeg) + (1 : Int32))))) rfl ?_
        exact ih h hk
      · rw [if_neg hc9] at h
        refine am_Go.c1 htb (S' := (56, [some (.inr (.inr (some (10, 0)))), some (.inl x1), some (.inl x2), none, none], [], am_mk (am_si m 57 0 x2.toNatClampNeg ((m.1 57 0 x2.toNatClampNeg) + (1 : Int32))))) (if_neg hc9) ?_
        refine am_Go.n htb 3 (S' := (61, [some (.inr (.inr (some (10, 0)))), some (.inl x1), some (.inl x2), none, none], [.inl x2, .inr (.inr (some (57, 0)))], am_mk (am_si m 57 0 x2.toNatClampNeg ((m.1 57 0 x2.toNatClampNeg) + (1 : Int32))))) rfl ?_
        obtain ⟨hg10, h⟩ := am_ck_some h
        refine am_Go.c1 htb (S' := (62, [some (.inr (.inr (some (10, 0)))), some (.inl x1), some (.inl x2), none, none], [.inl ((am_si m 57 0 x2.toNatClampNeg ((m.1 57 0 x2.toNatClampNeg) + (1 : Int32))).1 57 0 x2.toNatClampNeg)], am_mk (am_si m 57 0 x2.toNatClampNeg ((m.1 57 0 x2.toNatClampNeg) + (1 : Int32))))) (if_neg hg10) ?_
        refine am_Go.n htb 2 (S' := (64, [some (.inr (.inr (some (10, 0)))), some (.inl x1), some (.inl x2), none, none], [.inl x2, .inr (.inr (some (10, 0))), .inl ((am_si m 57 0 x2.toNatClampNeg ((m.1 57 0 x2.toNatClampNeg) + (1 : Int32))).1 57 0 x2.toNatClampNeg)], am_mk (am_si m 57 0 x2.toNatClampNeg ((m.1 57 0 x2.toNatClampNeg) + (1 : Int32))))) rfl ?_
        obtain ⟨r11, h12, h⟩ := am_bd h
        refine am_Go.cl htb rfl (ex_X10_setsAhead d (by omega) x2 (am_si m 57 0 x2.toNatClampNeg ((m.1 57 0 x2.toNatClampNeg) + (1 : Int32))) r11 h12) ?_
        show am_Go d 259 (67, [some (.inr (.inr (some (10, 0)))), some (.inl x1), some (.inl x2), none, none], [.inl r11, .inl ((am_si m 57 0 x2.toNatClampNeg ((m.1 57 0 x2.toNatClampNeg) + (1 : Int32))).1 57 0 x2.toNatClampNeg)], am_mk (am_si m 57 0 x2.toNatClampNeg ((m.1 57 0 x2.toNatClampNeg) + (1 : Int32)))) _ _ _ _
        by_cases hc13 : ((am_si m 57 0 x2.toNatClampNeg ((m.1 57 0 x2.toNatClampNeg) + (1 : Int32))).1 57 0 x2.toNatClampNeg) ≤ r11
        · rw [if_pos hc13] at h
          refine am_Go.c1 htb (S' := (76, [some (.inr (.inr (some (10, 0)))), some (.inl x1), some (.inl x2), none, none], [], am_mk (am_si m 57 0 x2.toNatClampNeg ((m.1 57 0 x2.toNatClampNeg) + (1 : Int32))))) (if_pos hc13) ?_
          refine am_Go.n htb 5 (S' := (85, [some (.inr (.inr (some (10, 0)))), some (.inl x1), some (.inl (x2 + 1)), none, none], [.inl (-1), .inl (x2 + 1), .inr (.inr (some (57, 0)))], am_mk (am_si m 57 0 x2.toNatClampNeg ((m.1 57 0 x2.toNatClampNeg) + (1 : Int32))))) rfl ?_
          obtain ⟨hg14, h⟩ := am_ck_some h
          refine am_Go.c1 htb (S' := (86, [some (.inr (.inr (some (10, 0)))), some (.inl x1), some (.inl (x2 + 1)), none, none], [], am_mk (am_si (am_si m 57 0 x2.toNatClampNeg ((m.1 57 0 x2.toNatClampNeg) + (1 : Int32))) 57 0 (x2 + 1).toNatClampNeg (-1)))) (if_neg hg14) ?_
          refine am_Go.n htb 4 (S' := (92, [some (.inr (.inr (some (10, 0)))), some (.inl x1), some (.inl (x2 + 1)), none, none], [.inl 0, .inr (.inr (some (44, 0))), .inl (x2 + 1)], am_mk (am_si (am_si m 57 0 x2.toNatClampNeg ((m.1 57 0 x2.toNatClampNeg) + (1 : Int32))) 57 0 (x2 + 1).toNatClampNeg (-1)))) rfl ?_
          obtain ⟨hg15, h⟩ := am_ck_some h
          refine am_Go.c1 htb (S' := (93, [some (.inr (.inr (some (10, 0)))), some (.inl x1), some (.inl (x2 + 1)), none, none], [.inl ((am_si (am_si m 57 0 x2.toNatClampNeg ((m.1 57 0 x2.toNatClampNeg) + (1 : Int32))) 57 0 (x2 + 1).toNatClampNeg (-1)).1 44 0 (0 : Int32).toNatClampNeg), .inl (x2 + 1)], am_mk (am_si (am_si m 57 0 x2.toNatClampNeg ((m.1 57 0 x2.toNatClampNeg) + (1 : Int32))) 57 0 (x2 + 1).toNatClampNeg (-1)))) (if_neg hg15) ?_
          obtain ⟨q19, h27, h⟩ := am_bd h
          refine am_Go.cut (S := (107, [some (.inr (.inr (some (10, 0)))), some (.inl x1), some (.inl (x2 + 1)), none, none], [.inl q19], am_mk (am_si (am_si m 57 0 x2.toNatClampNeg ((m.1 57 0 x2.toNatClampNeg) + (1 : Int32))) 57 0 (x2 + 1).toNatClampNeg (-1)))) ?_ (fun key => ?_)
          · refine am_Go.n htb 3 (S' := (111, [some (.inr (.inr (some (10, 0)))), some (.inl x1), some (.inl (x2 + 1)), some (.inl q19), some (.inl 0)], [], am_mk (am_si (am_si m 57 0 x2.toNatClampNeg ((m.1 57 0 x2.toNatClampNeg) + (1 : Int32))) 57 0 (x2 + 1).toNatClampNeg (-1)))) rfl ?_
            obtain ⟨q24, h25, h⟩ := am_bd h
            refine lt_X10_findParts_111 _ hd (h := h25) (hk := ?_)
            refine am_Go.n htb 4 (S' := (151, [some (.inr (.inr (some (10, 0)))), some (.inl x1), some (.inl (x2 + 1)), some (.inl q19), none], [.inl (q24.1 10 0 46), .inl q19, .inr (.inr (some (10, 0)))], am_mk q24)) rfl ?_
            refine am_Go.cut (S := (162, [some (.inr (.inr (some (10, 0)))), some (.inl x1), some (.inl (x2 + 1)), some (.inl q19), none], [.inl (if (q24.1 10 0 46) ≤ q19 then (q24.1 10 0 46) else q19), .inr (.inr (some (10, 0)))], am_mk q24)) ?_ (fun key => ?_)
            · refine am_Go.n htb 2 (S' := (32, [some (.inr (.inr (some (10, 0)))), some (.inl x1), some (.inl (x2 + 1)), some (.inl q19), none], [], am_mk (am_si q24 10 0 46 (if (q24.1 10 0 46) ≤ q19 then (q24.1 10 0 46) else q19)))) rfl ?_
              refine am_Go.fg (L0 := [some (.inr (.inr (some (10, 0)))), some (.inl x1), some (.inl (x2 + 1)), none, none]) (by exact ⟨rfl, ⟨rfl, ⟨rfl, trivial⟩⟩⟩) ?_
              exact ih h hk
            · by_cases hc26 : (q24.1 10 0 46) ≤ q19
              · refine am_Go.c1 htb (S' := (158, [some (.inr (.inr (some (10, 0)))), some (.inl x1), some (.inl (x2 + 1)), some (.inl q19), none], [.inr (.inr (some (10, 0)))], am_mk q24)) (if_pos hc26) ?_
                refine am_Go.n htb 2 (S' := (162, [some (.inr (.inr (some (10, 0)))), some (.inl x1), some (.inl (x2 + 1)), some (.inl q19), none], [.inl (q24.1 10 0 46), .inr (.inr (some (10, 0)))], am_mk q24)) rfl ?_
                simp only [if_pos hc26] at key
                exact am_Go.fg (by exact ⟨rfl, ⟨rfl, ⟨rfl, ⟨rfl, trivial⟩⟩⟩⟩) key
              · refine am_Go.c1 htb (S' := (154, [some (.inr (.inr (some (10, 0)))), some (.inl x1), some (.inl (x2 + 1)), some (.inl q19), none], [.inr (.inr (some (10, 0)))], am_mk q24)) (if_neg hc26) ?_
                refine am_Go.n htb 2 (S' := (162, [some (.inr (.inr (some (10, 0)))), some (.inl x1), some (.inl (x2 + 1)), some (.inl q19), none], [.inl q19, .inr (.inr (some (10, 0)))], am_mk q24)) rfl ?_
                simp only [if_neg hc26] at key
                exact am_Go.fg (by exact ⟨rfl, ⟨rfl, ⟨rfl, ⟨rfl, trivial⟩⟩⟩⟩) key
          · have h := h27
            by_cases hc16 : (x2 + 1) ≠ ((am_si (am_si m 57 0 x2.toNatClampNeg ((m.1 57 0 x2.toNatClampNeg) + (1 : Int32))) 57 0 (x2 + 1).toNatClampNeg (-1)).1 44 0 (0 : Int32).toNatClampNeg)
            · rw [if_pos hc16] at h
              refine am_Go.c1 htb (S' := (104, [some (.inr (.inr (some (10, 0)))), some (.inl x1), some (.inl (x2 + 1)), none, none], [], am_mk (am_si (am_si m 57 0 x2.toNatClampNeg ((m.1 57 0 x2.toNatClampNeg) + (1 : Int32))) 57 0 (x2 + 1).toNatClampNeg (-1)))) (if_pos hc16) ?_
              refine am_Go.n htb 1 (S' := (107, [some (.inr (.inr (some (10, 0)))), some (.inl x1), some (.inl (x2 + 1)), none, none], [.inl 100000000], am_mk (am_si (am_si m 57 0 x2.toNatClampNeg ((m.1 57 0 x2.toNatClampNeg) + (1 : Int32))) 57 0 (x2 + 1).toNatClampNeg (-1)))) rfl ?_
              cases h
              exact am_Go.fg (by exact ⟨rfl, ⟨rfl, ⟨rfl, trivial⟩⟩⟩) key
            · rw [if_neg hc16] at h
              refine am_Go.c1 htb (S' := (96, [some (.inr (.inr (some (10, 0)))), some (.inl x1), some (.inl (x2 + 1)), none, none], [], am_mk (am_si (am_si m 57 0 x2.toNatClampNeg ((m.1 57 0 x2.toNatClampNeg) + (1 : Int32))) 57 0 (x2 + 1).toNatClampNeg (-1)))) (if_neg hc16) ?_
              refine am_Go.n htb 2 (S' := (98, [some (.inr (.inr (some (10, 0)))), some (.inl x1), some (.inl (x2 + 1)), none, none], [.inl x1, .inr (.inr (some (10, 0)))], am_mk (am_si (am_si m 57 0 x2.toNatClampNeg ((m.1 57 0 x2.toNatClampNeg) + (1 : Int32))) 57 0 (x2 + 1).toNatClampNeg (-1)))) rfl ?_
              obtain ⟨r17, h18, h⟩ := am_bd h
              refine am_Go.cl htb rfl (ex_X10_worthOf d (by omega) x1 (am_si (am_si m 57 0 x2.toNatClampNeg ((m.1 57 0 x2.toNatClampNeg) + (1 : Int32))) 57 0 (x2 + 1).toNatClampNeg (-1)) r17 h18) ?_
              show am_Go d 259 (101, [some (.inr (.inr (some (10, 0)))), some (.inl x1), some (.inl (x2 + 1)), none, none], [.inl r17], am_mk (am_si (am_si m 57 0 x2.toNatClampNeg ((m.1 57 0 x2.toNatClampNeg) + (1 : Int32))) 57 0 (x2 + 1).toNatClampNeg (-1))) _ _ _ _
              refine am_Go.n htb 1 (S' := (107, [some (.inr (.inr (some (10, 0)))), some (.inl x1), some (.inl (x2 + 1)), none, none], [.inl r17], am_mk (am_si (am_si m 57 0 x2.toNatClampNeg ((m.1 57 0 x2.toNatClampNeg) + (1 : Int32))) 57 0 (x2 + 1).toNatClampNeg (-1)))) rfl ?_
              cases h
              exact am_Go.fg (by exact ⟨rfl, ⟨rfl, ⟨rfl, trivial⟩⟩⟩) key
        · rw [if_neg hc13] at h
          refine am_Go.c1 htb (S' := (70, [some (.inr (.inr (some (10, 0)))), some (.inl x1), some (.inl x2), none, none], [], am_mk (am_si m 57 0 x2.toNatClampNeg ((m.1 57 0 x2.toNatClampNeg) + (1 : Int32))))) (if_neg hc13) ?_
          refine am_Go.n htb 2 (S' := (32, [some (.inr (.inr (some (10, 0)))), some (.inl x1), some (.inl (x2 + (-1))), none, none], [], am_mk (am_si m 57 0 x2.toNatClampNeg ((m.1 57 0 x2.toNatClampNeg) + (1 : Int32))))) rfl ?_
          exact ih h hk
def fn_X10_findParts (a1 : Int32) (m : am_m) : Option (am_m) :=
  am_ck 0 8 (am_ck 0 5518 ((if ((am_si (am_si m 10 0 46 100000000) 57 0 (0 : Int32).toNatClampNeg (-1)).1 44 0 (0 : Int32).toNatClampNeg) ≠ 0 then some (0, am_si (am_si m 10 0 46 100000000) 57 0 (0 : Int32).toNatClampNeg (-1)) else some ((-1), am_si (am_si (am_si m 10 0 46 100000000) 57 0 (0 : Int32).toNatClampNeg (-1)) 10 0 46 0)).bind fun q4 => (lp_X10_findParts_32 1000000 a1 q4.1 q4.2).bind fun q28 => some q28))
set_option maxRecDepth 100000 in
theorem ex_X10_findParts (d : Nat) (hd : 4 ≤ d) (a1 : Int32) (m : am_m) (t : am_m) (h : fn_X10_findParts a1 m = some t) : am_Ex am_cod d 259 [.inr (.inr (some (10, 0))), .inl a1] (am_mk m) (none) (am_mk t) 0 0 := by
  obtain ⟨d, rfl⟩ : ∃ e, d = e + 1 := ⟨d - 1, by omega⟩
  have htb : am_tab 259 = at_259 := rfl
  refine ⟨Nat.le_of_ble_eq_true rfl, ?_⟩
  unfold fn_X10_findParts at h
  show am_Go d 259 (0, [some (.inr (.inr (some (10, 0)))), some (.inl a1), none, none, none], [], am_mk m) _ _ 0 0
  refine am_Go.n htb 9 (S' := (15, [some (.inr (.inr (some (10, 0)))), some (.inl a1), some (.inl 0), none, none], [.inl (-1), .inl 0, .inr (.inr (some (57, 0)))], am_mk (am_si m 10 0 46 100000000))) rfl ?_
  obtain ⟨hg1, h⟩ := am_ck_some h
  refine am_Go.c1 htb (S' := (16, [some (.inr (.inr (some (10, 0)))), some (.inl a1), some (.inl 0), none, none], [], am_mk (am_si (am_si m 10 0 46 100000000) 57 0 (0 : Int32).toNatClampNeg (-1)))) (if_neg hg1) ?_
  refine am_Go.n htb 3 (S' := (21, [some (.inr (.inr (some (10, 0)))), some (.inl a1), some (.inl 0), none, none], [.inl 0, .inr (.inr (some (44, 0)))], am_mk (am_si (am_si m 10 0 46 100000000) 57 0 (0 : Int32).toNatClampNeg (-1)))) rfl ?_
  obtain ⟨hg2, h⟩ := am_ck_some h
  refine am_Go.c1 htb (S' := (22, [some (.inr (.inr (some (10, 0)))), some (.inl a1), some (.inl 0), none, none], [.inl ((am_si (am_si m 10 0 46 100000000) 57 0 (0 : Int32).toNatClampNeg (-1)).1 44 0 (0 : Int32).toNatClampNeg)], am_mk (am_si (am_si m 10 0 46 100000000) 57 0 (0 : Int32).toNatClampNeg (-1)))) (if_neg hg2) ?_
  obtain ⟨q4, h30, h⟩ := am_bd h
  refine am_Go.cut (S := (32, [some (.inr (.inr (some (10, 0)))), some (.inl a1), some (.inl q4.1), none, none], [], am_mk q4.2)) ?_ (fun key => ?_)
  · obtain ⟨q28, h29, h⟩ := am_bd h
    refine lt_X10_findParts_32 _ hd (h := h29) (hk := ?_)
    cases h
    exact am_Go.r htb rfl
  · have h := h30
    by_cases hc3 : ((am_si (am_si m 10 0 46 100000000) 57 0 (0 : Int32).toNatClampNeg (-1)).1 44 0 (0 : Int32).toNatClampNeg) ≠ 0
    · rw [if_pos hc3] at h
      refine am_Go.c1 htb (S' := (32, [some (.inr (.inr (some (10, 0)))), some (.inl a1), some (.inl 0), none, none], [], am_mk (am_si (am_si m 10 0 46 100000000) 57 0 (0 : Int32).toNatClampNeg (-1)))) (if_pos hc3) ?_
      cases h
      exact am_Go.fg (by exact ⟨rfl, ⟨rfl, ⟨rfl, trivial⟩⟩⟩) key
    · rw [if_neg hc3] at h
      refine am_Go.c1 htb (S' := (25, [some (.inr (.inr (some (10, 0)))), some (.inl a1), some (.inl 0), none, none], [], am_mk (am_si (am_si m 10 0 46 100000000) 57 0 (0 : Int32).toNatClampNeg (-1)))) (if_neg hc3) ?_
      refine am_Go.n htb 5 (S' := (32, [some (.inr (.inr (some (10, 0)))), some (.inl a1), some (.inl (-1)), none, none], [], am_mk (am_si (am_si (am_si m 10 0 46 100000000) 57 0 (0 : Int32).toNatClampNeg (-1)) 10 0 46 0))) rfl ?_
      cases h
      exact am_Go.fg (by exact ⟨rfl, ⟨rfl, ⟨rfl, trivial⟩⟩⟩) key
