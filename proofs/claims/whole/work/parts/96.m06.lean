-- X10_compare
set_option maxRecDepth 100000 in
theorem ex_X10_compare (d : Nat) (hd : 9 ≤ d) (a1 : Int32) (m : am_m) (t : Int32 × am_m) (h : fn_X10_compare a1 m = some t) : am_Ex am_cod d 282 [.inr (.inr (some (10, 0))), .inl a1] (am_mk m) (some (.inl t.1)) (am_mk t.2) 0 0 := by
  obtain ⟨d, rfl⟩ : ∃ e, d = e + 1 := ⟨d - 1, by omega⟩
  have htb : am_tab 282 = at_282 := rfl
  refine ⟨Nat.le_of_ble_eq_true rfl, ?_⟩
  unfold fn_X10_compare at h
  show am_Go d 282 (0, [some (.inr (.inr (some (10, 0)))), some (.inl a1), none], [], am_mk m) _ _ 0 0
  refine am_Go.n htb 5 (S' := (7, [some (.inr (.inr (some (10, 0)))), some (.inl a1), none], [.inl a1, .inr (.inr (some (10, 0)))], am_mk (am_si m 10 0 0 0))) rfl ?_
  obtain ⟨r1, h2, h⟩ := am_bd h
  refine am_Go.cl htb rfl (ex_X10_isLaw d (by omega) a1 (am_si m 10 0 0 0) r1 h2) ?_
  show am_Go d 282 (10, [some (.inr (.inr (some (10, 0)))), some (.inl a1), none], [.inl r1], am_mk (am_si m 10 0 0 0)) _ _ _ _
  by_cases hc3 : r1 ≠ 0
  · rw [if_pos hc3] at h
    refine am_Go.c1 htb (S' := (15, [some (.inr (.inr (some (10, 0)))), some (.inl a1), none], [], am_mk (am_si m 10 0 0 0))) (if_pos hc3) ?_
    refine am_Go.n htb 11 (S' := (30, [some (.inr (.inr (some (10, 0)))), some (.inl a1), some (.inl (m.1 44 0 3))], [.inr (.inr (some (10, 0)))], am_mk (am_si (am_si m 10 0 0 0) 44 0 3 a1))) rfl ?_
    obtain ⟨r4, h5, h⟩ := am_bd h
    refine am_Go.cl htb rfl (ex_X10_layMay d (by omega)  (am_si (am_si m 10 0 0 0) 44 0 3 a1) r4 h5) ?_
    show am_Go d 282 (33, [some (.inr (.inr (some (10, 0)))), some (.inl a1), some (.inl (m.1 44 0 3))], [], am_mk r4) _ _ _ _
    refine am_Go.n htb 6 (S' := (41, [some (.inr (.inr (some (10, 0)))), some (.inl a1), some (.inl (m.1 44 0 3))], [.inr (.inr (some (10, 0)))], am_mk (am_si r4 44 0 3 (m.1 44 0 3)))) rfl ?_
    obtain ⟨r6, h7, h⟩ := am_bd h
    refine am_Go.cl htb rfl (ex_X10_largestSet d (by omega)  (am_si r4 44 0 3 (m.1 44 0 3)) r6 h7) ?_
    show am_Go d 282 (44, [some (.inr (.inr (some (10, 0)))), some (.inl a1), some (.inl (m.1 44 0 3))], [.inl r6], am_mk (am_si r4 44 0 3 (m.1 44 0 3))) _ _ _ _
    obtain ⟨r8, h9, h⟩ := am_bd h
    refine am_Go.cl htb rfl (ex_X10_ones d (by omega) r6 (am_si r4 44 0 3 (m.1 44 0 3)) r8 h9) ?_
    show am_Go d 282 (47, [some (.inr (.inr (some (10, 0)))), some (.inl a1), some (.inl (m.1 44 0 3))], [.inl r8], am_mk (am_si r4 44 0 3 (m.1 44 0 3))) _ _ _ _
    cases h
    exact am_Go.rt htb rfl
  · rw [if_neg hc3] at h
    refine am_Go.c1 htb (S' := (13, [some (.inr (.inr (some (10, 0)))), some (.inl a1), none], [], am_mk (am_si m 10 0 0 0))) (if_neg hc3) ?_
    refine am_Go.n htb 1 (S' := (14, [some (.inr (.inr (some (10, 0)))), some (.inl a1), none], [.inl (-1)], am_mk (am_si m 10 0 0 0))) rfl ?_
    cases h
    exact am_Go.rt htb rfl
-- X10_readSum
set_option maxRecDepth 100000 in
theorem ex_X10_readSum (d : Nat) (hd : 8 ≤ d) (a1 : Int32) (m : am_m) (t : am_m) (h : fn_X10_readSum a1 m = some t) : am_Ex am_cod d 283 [.inr (.inr (some (10, 0))), .inl a1] (am_mk m) (none) (am_mk t) 0 0 := by
  obtain ⟨d, rfl⟩ : ∃ e, d = e + 1 := ⟨d - 1, by omega⟩
  have htb : am_tab 283 = at_283 := rfl
  refine ⟨Nat.le_of_ble_eq_true rfl, ?_⟩
  unfold fn_X10_readSum at h
  show am_Go d 283 (0, [some (.inr (.inr (some (10, 0)))), some (.inl a1)], [], am_mk m) _ _ 0 0
  refine am_Go.n htb 5 (S' := (9, [some (.inr (.inr (some (10, 0)))), some (.inl a1)], [.inl (m.1 10 0 23), .inl a1, .inr (.inr (some (61, 0)))], am_mk m)) rfl ?_
  obtain ⟨hg1, h⟩ := am_ck_some h
  refine am_Go.c1 htb (S' := (10, [some (.inr (.inr (some (10, 0)))), some (.inl a1)], [], am_mk (am_si m 61 0 a1.toNatClampNeg (m.1 10 0 23)))) (if_neg hg1) ?_
  refine am_Go.n htb 2 (S' := (14, [some (.inr (.inr (some (10, 0)))), some (.inl a1)], [.inl (m.1 10 0 19)], am_mk (am_si m 61 0 a1.toNatClampNeg (m.1 10 0 23)))) rfl ?_
  obtain ⟨q5, h7, h⟩ := am_bd h
  refine am_Go.cut (S := (22, [some (.inr (.inr (some (10, 0)))), some (.inl a1)], [], am_mk q5)) ?_ (fun key => ?_)
  · refine am_Go.n htb 7 (S' := (33, [some (.inr (.inr (some (10, 0)))), some (.inl a1)], [.inl (q5.1 10 0 23), .inl (a1 + (1 : Int32)), .inr (.inr (some (61, 0)))], am_mk q5)) rfl ?_
    obtain ⟨hg6, h⟩ := am_ck_some h
    refine am_Go.c1 htb (S' := (34, [some (.inr (.inr (some (10, 0)))), some (.inl a1)], [], am_mk (am_si q5 61 0 (a1 + (1 : Int32)).toNatClampNeg (q5.1 10 0 23)))) (if_neg hg6) ?_
    cases h
    exact am_Go.rt htb rfl
  · have h := h7
    by_cases hc2 : (m.1 10 0 19) ≠ 0
    · rw [if_pos hc2] at h
      refine am_Go.c1 htb (S' := (22, [some (.inr (.inr (some (10, 0)))), some (.inl a1)], [], am_mk (am_si m 61 0 a1.toNatClampNeg (m.1 10 0 23)))) (if_pos hc2) ?_
      cases h
      exact am_Go.fg (by exact ⟨rfl, ⟨rfl, trivial⟩⟩) key
    · rw [if_neg hc2] at h
      refine am_Go.c1 htb (S' := (17, [some (.inr (.inr (some (10, 0)))), some (.inl a1)], [], am_mk (am_si m 61 0 a1.toNatClampNeg (m.1 10 0 23)))) (if_neg hc2) ?_
      refine am_Go.n htb 2 (S' := (19, [some (.inr (.inr (some (10, 0)))), some (.inl a1)], [.inl 0, .inr (.inr (some (10, 0)))], am_mk (am_si m 61 0 a1.toNatClampNeg (m.1 10 0 23)))) rfl ?_
      obtain ⟨r3, h4, h⟩ := am_bd h
      refine am_Go.cl htb rfl (ex_X10_readExpression d (by omega) 0 (am_si m 61 0 a1.toNatClampNeg (m.1 10 0 23)) r3 h4) ?_
      show am_Go d 283 (22, [some (.inr (.inr (some (10, 0)))), some (.inl a1)], [], am_mk r3) _ _ _ _
      cases h
      exact am_Go.fg (by exact ⟨rfl, ⟨rfl, trivial⟩⟩) key
-- X10_readBehind
set_option maxRecDepth 100000 in
theorem ex_X10_readBehind (d : Nat) (hd : 9 ≤ d) (a1 : Int64) (a2 : Int32) (m : am_m) (t : am_m) (h : fn_X10_readBehind a1 a2 m = some t) : am_Ex am_cod d 284 [.inr (.inr (some (10, 0))), .inr (.inl a1), .inl a2] (am_mk m) (none) (am_mk t) 0 0 := by
  obtain ⟨d, rfl⟩ : ∃ e, d = e + 1 := ⟨d - 1, by omega⟩
  have htb : am_tab 284 = at_284 := rfl
  refine ⟨Nat.le_of_ble_eq_true rfl, ?_⟩
  unfold fn_X10_readBehind at h
  show am_Go d 284 (0, [some (.inr (.inr (some (10, 0)))), some (.inr (.inl a1)), none, some (.inl a2)], [], am_mk m) _ _ 0 0
  refine am_Go.n htb 2 (S' := (4, [some (.inr (.inr (some (10, 0)))), some (.inr (.inl a1)), none, some (.inl a2)], [.inl (m.1 10 0 19)], am_mk m)) rfl ?_
  obtain ⟨q6, h9, h⟩ := am_bd h
  refine am_Go.cut (S := (16, [some (.inr (.inr (some (10, 0)))), some (.inr (.inl a1)), none, some (.inl a2)], [], am_mk q6)) ?_ (fun key => ?_)
  · refine am_Go.n htb 2 (S' := (18, [some (.inr (.inr (some (10, 0)))), some (.inr (.inl a1)), none, some (.inl a2)], [.inl a2, .inr (.inr (some (10, 0)))], am_mk q6)) rfl ?_
    obtain ⟨r7, h8, h⟩ := am_bd h
    refine am_Go.cl htb rfl (ex_X10_readSum d (by omega) a2 q6 r7 h8) ?_
    show am_Go d 284 (21, [some (.inr (.inr (some (10, 0)))), some (.inr (.inl a1)), none, some (.inl a2)], [], am_mk r7) _ _ _ _
    cases h
    exact am_Go.rt htb rfl
  · have h := h9
    by_cases hc1 : (m.1 10 0 19) ≠ 0
    · rw [if_pos hc1] at h
      refine am_Go.c1 htb (S' := (16, [some (.inr (.inr (some (10, 0)))), some (.inr (.inl a1)), none, some (.inl a2)], [], am_mk m)) (if_pos hc1) ?_
      cases h
      exact am_Go.fg (by exact ⟨rfl, ⟨rfl, ⟨rfl, trivial⟩⟩⟩) key
    · rw [if_neg hc1] at h
      refine am_Go.c1 htb (S' := (7, [some (.inr (.inr (some (10, 0)))), some (.inr (.inl a1)), none, some (.inl a2)], [], am_mk m)) (if_neg hc1) ?_
      refine am_Go.n htb 3 (S' := (10, [some (.inr (.inr (some (10, 0)))), some (.inr (.inl a1)), none, some (.inl a2)], [.inr (.inl a1), .inr (.inr (some (10, 0))), .inr (.inr (some (10, 0)))], am_mk m)) rfl ?_
      obtain ⟨r2, h3, h⟩ := am_bd h
      refine am_Go.cl htb rfl (ex_X10_isWord d (by omega) a1 m r2 h3) ?_
      show am_Go d 284 (13, [some (.inr (.inr (some (10, 0)))), some (.inr (.inl a1)), none, some (.inl a2)], [.inl r2, .inr (.inr (some (10, 0)))], am_mk m) _ _ _ _
      obtain ⟨r4, h5, h⟩ := am_bd h
      refine am_Go.cl htb rfl (ex_X10_must d (by omega) r2 m r4 h5) ?_
      show am_Go d 284 (16, [some (.inr (.inr (some (10, 0)))), some (.inr (.inl a1)), none, some (.inl a2)], [], am_mk r4) _ _ _ _
      cases h
      exact am_Go.fg (by exact ⟨rfl, ⟨rfl, ⟨rfl, trivial⟩⟩⟩) key
-- X10_readOrder
set_option maxRecDepth 100000 in
theorem lt_X10_readOrder_4 (d : Nat) (hd : 10 ≤ d + 1) {r : Option am_V} {M' : am_M} {kc ks : Nat} {n : Nat} {x1 : Int32} {x2 : Int32} {m : am_m} {t : Int32} (h : lp_X10_readOrder_4 n x1 x2 m = some t) (hk : am_Go d 285 (34, [some (.inr (.inr (some (10, 0)))), some (.inl t), none, none], [], am_mk m) r M' kc ks) : am_Go d 285 (4, [some (.inr (.inr (some (10, 0)))), some (.inl x1), some (.inl x2), none], [], am_mk m) r M' kc ks := by
  have htb : am_tab 285 = at_285 := rfl
  induction n generalizing x1 x2 with
  | zero => cases h
  | succ n ih =>
    unfold lp_X10_readOrder_4 at h
    refine am_Go.n htb 2 (S' := (6, [some (.inr (.inr (some (10, 0)))), some (.inl x1), some (.inl x2), none], [.inl 4, .inl x2], am_mk m)) rfl ?_
    by_cases hc1 : (4 : Int32) ≤ x2
    · rw [if_pos hc1] at h
      refine am_Go.c1 htb (S' := (34, [some (.inr (.inr (some (10, 0)))), some (.inl x1), some (.inl x2), none], [], am_mk m)) (if_pos hc1) ?_
      cases h
      exact am_Go.fg (by exact ⟨rfl, ⟨rfl, trivial⟩⟩) hk
    · rw [if_neg hc1] at h
      refine am_Go.c1 htb (S' := (9, [some (.inr (.inr (some (10, 0)))), some (.inl x1), some (.inl x2), none], [], am_mk m)) (if_neg hc1) ?_
      refine am_Go.n htb 4 (S' := (15, [some (.inr (.inr (some (10, 0)))), some (.inl x1), some (.inl x2), none], [.inl x2, .inr (.inr (some (89, 0))), .inr (.inr (some (10, 0)))], am_mk m)) rfl ?_
      obtain ⟨hg2, h⟩ := am_ck_some h
      refine am_Go.c1 htb (S' := (16, [some (.inr (.inr (some (10, 0)))), some (.inl x1), some (.inl x2), none], [.inr (.inl (m.2.1 89 0 x2.toNatClampNeg)), .inr (.inr (some (10, 0)))], am_mk m)) (if_neg hg2) ?_
      obtain ⟨r3, h4, h⟩ := am_bd h
      refine am_Go.cl htb rfl (ex_X10_isWord d (by omega) (m.2.1 89 0 x2.toNatClampNeg) m r3 h4) ?_
      show am_Go d 285 (19, [some (.inr (.inr (some (10, 0)))), some (.inl x1), some (.inl x2), none], [.inl r3], am_mk m) _ _ _ _
      refine am_Go.cut (S := (27, [some (.inr (.inr (some (10, 0)))), some (.inl x1), some (.inl x2), none], [.inl (if r3 = 0 then x1 else x2)], am_mk m)) ?_ (fun key => ?_)
      · refine am_Go.n htb 3 (S' := (4, [some (.inr (.inr (some (10, 0)))), some (.inl (if r3 = 0 then x1 else x2)), some (.inl (x2 + 1)), none], [], am_mk m)) rfl ?_
        first | exact ih h | exact ih h hk
      · by_cases hc5 : r3 = 0
        · refine am_Go.c1 htb (S' := (26, [some (.inr (.inr (some (10, 0)))), some (.inl x1), some (.inl x2), none], [], am_mk m)) (if_pos hc5) ?_
          refine am_Go.n htb 1 (S' := (27, [some (.inr (.inr (some (10, 0)))), some (.inl x1), some (.inl x2), none], [.inl x1], am_mk m)) rfl ?_
          simp only [if_pos hc5] at key
          exact am_Go.fg (by exact ⟨rfl, ⟨rfl, ⟨rfl, trivial⟩⟩⟩) key
        · refine am_Go.c1 htb (S' := (22, [some (.inr (.inr (some (10, 0)))), some (.inl x1), some (.inl x2), none], [], am_mk m)) (if_neg hc5) ?_
          refine am_Go.n htb 2 (S' := (27, [some (.inr (.inr (some (10, 0)))), some (.inl x1), some (.inl x2), none], [.inl x2], am_mk m)) rfl ?_
          simp only [if_neg hc5] at key
          exact am_Go.fg (by exact ⟨rfl, ⟨rfl, ⟨rfl, trivial⟩⟩⟩) key
set_option maxRecDepth 100000 in
theorem lt_X10_readOrder_85 (d : Nat) (hd : 10 ≤ d + 1) {r : Option am_V} {M' : am_M} {kc ks : Nat} {n : Nat} {x1 : Int32} {x2 : Int32} {x3 : Int32} {m : am_m} {t : am_m} (h : lp_X10_readOrder_85 n x1 x2 x3 m = some t) (hk : am_Go d 285 (106, [some (.inr (.inr (some (10, 0)))), some (.inl x1), some (.inl x2), none], [], am_mk t) r M' kc ks) : am_Go d 285 (85, [some (.inr (.inr (some (10, 0)))), some (.inl x1), some (.inl x2), some (.inl x3)], [], am_mk m) r M' kc ks := by
  have htb : am_tab 285 = at_285 := rfl
  induction n generalizing x3 m with
  | zero => cases h
  | succ n ih =>
    unfold lp_X10_readOrder_85 at h
    refine am_Go.n htb 2 (S' := (88, [some (.inr (.inr (some (10, 0)))), some (.inl x1), some (.inl x2), some (.inl x3)], [.inl 10, .inl x3], am_mk m)) rfl ?_
    by_cases hc14 : (10 : Int32) ≤ x3
    · rw [if_pos hc14] at h
      refine am_Go.c1 htb (S' := (106, [some (.inr (.inr (some (10, 0)))), some (.inl x1), some (.inl x2), some (.inl x3)], [], am_mk m)) (if_pos hc14) ?_
      cases h
      exact am_Go.fg (by exact ⟨rfl, ⟨rfl, ⟨rfl, trivial⟩⟩⟩) hk
    · rw [if_neg hc14] at h
      refine am_Go.c1 htb (S' := (91, [some (.inr (.inr (some (10, 0)))), some (.inl x1), some (.inl x2), some (.inl x3)], [], am_mk m)) (if_neg hc14) ?_
      refine am_Go.n htb 6 (S' := (99, [some (.inr (.inr (some (10, 0)))), some (.inl x1), some (.inl x2), some (.inl x3)], [.inl 0, .inl (x2 + x3), .inr (.inr (some (61, 0)))], am_mk m)) rfl ?_
      obtain ⟨hg15, h⟩ := am_ck_some h
      refine am_Go.c1 htb (S' := (100, [some (.inr (.inr (some (10, 0)))), some (.inl x1), some (.inl x2), some (.inl x3)], [], am_mk (am_si m 61 0 (x2 + x3).toNatClampNeg 0))) (if_neg hg15) ?_
      refine am_Go.n htb 2 (S' := (85, [some (.inr (.inr (some (10, 0)))), some (.inl x1), some (.inl x2), some (.inl (x3 + 1))], [], am_mk (am_si m 61 0 (x2 + x3).toNatClampNeg 0))) rfl ?_
      first | exact ih h | exact ih h hk
set_option maxHeartbeats 10000000 in
set_option maxRecDepth 100000 in
theorem ex_X10_readOrder (d : Nat) (hd : 10 ≤ d)  (m : am_m) (t : am_m) (h : fn_X10_readOrder  m = some t) : am_Ex am_cod d 285 [.inr (.inr (some (10, 0)))] (am_mk m) (none) (am_mk t) 0 0 := by
  obtain ⟨d, rfl⟩ : ∃ e, d = e + 1 := ⟨d - 1, by omega⟩
  have htb : am_tab 285 = at_285 := rfl
  refine ⟨Nat.le_of_ble_eq_true rfl, ?_⟩
  unfold fn_X10_readOrder at h
  show am_Go d 285 (0, [some (.inr (.inr (some (10, 0)))), none, none, none], [], am_mk m) _ _ 0 0
  refine am_Go.n htb 4 (S' := (4, [some (.inr (.inr (some (10, 0)))), some (.inl (-1)), some (.inl 0), none], [], am_mk m)) rfl ?_
  obtain ⟨q6, h7, h⟩ := am_bd h
  refine lt_X10_readOrder_4 _ hd (h := h7) (hk := ?_)
  refine am_Go.n htb 3 (S' := (37, [some (.inr (.inr (some (10, 0)))), some (.inl q6), none, none], [.inl (-1), .inl q6, .inr (.inr (some (10, 0)))], am_mk m)) rfl ?_
  obtain ⟨q10, h61, h⟩ := am_bd h
  refine am_Go.cut (S := (54, [some (.inr (.inr (some (10, 0)))), some (.inl q6), none, none], [.inl q10, .inr (.inr (some (10, 0)))], am_mk m)) ?_ (fun key => ?_)
  · obtain ⟨r11, h12, h⟩ := am_bd h
    refine am_Go.cl htb rfl (ex_X10_must d (by omega) q10 m r11 h12) ?_
    show am_Go d 285 (57, [some (.inr (.inr (some (10, 0)))), some (.inl q6), none, none], [], am_mk r11) _ _ _ _
    refine am_Go.n htb 2 (S' := (61, [some (.inr (.inr (some (10, 0)))), some (.inl q6), none, none], [.inl (r11.1 10 0 19)], am_mk r11)) rfl ?_
    by_cases hc13 : (r11.1 10 0 19) = 0
    · rw [if_pos hc13] at h
      refine am_Go.c1 htb (S' := (65, [some (.inr (.inr (some (10, 0)))), some (.inl q6), none, none], [], am_mk r11)) (if_pos hc13) ?_
      refine am_Go.n htb 13 (S' := (85, [some (.inr (.inr (some (10, 0)))), some (.inl q6), some (.inl ((10 : Int32) * (r11.1 10 0 21))), some (.inl 0)], [], am_mk (am_si r11 10 0 21 ((r11.1 10 0 21) + (1 : Int32))))) rfl ?_
      obtain ⟨q16, h17, h⟩ := am_bd h
      refine lt_X10_readOrder_85 _ hd (h := h17) (hk := ?_)
      refine am_Go.n htb 4 (S' := (112, [some (.inr (.inr (some (10, 0)))), some (.inl q6), some (.inl ((10 : Int32) * (r11.1 10 0 21))), none], [.inl q6, .inl ((10 : Int32) * (r11.1 10 0 21)), .inr (.inr (some (61, 0)))], am_mk q16)) rfl ?_
      obtain ⟨hg18, h⟩ := am_ck_some h
      refine am_Go.c1 htb (S' := (113, [some (.inr (.inr (some (10, 0)))), some (.inl q6), some (.inl ((10 : Int32) * (r11.1 10 0 21))), none], [], am_mk (am_si q16 61 0 ((10 : Int32) * (r11.1 10 0 21)).toNatClampNeg q6))) (if_neg hg18) ?_
      refine am_Go.n htb 2 (S' := (115, [some (.inr (.inr (some (10, 0)))), some (.inl q6), some (.inl ((10 : Int32) * (r11.1 10 0 21))), none], [.inl 3, .inl q6], am_mk (am_si q16 61 0 ((10 : Int32) * (r11.1 10 0 21)).toNatClampNeg q6))) rfl ?_
      obtain ⟨q22, h60, h⟩ := am_bd h
      refine am_Go.cut (S := (125, [some (.inr (.inr (some (10, 0)))), some (.inl q6), some (.inl ((10 : Int32) * (r11.1 10 0 21))), none], [], am_mk q22)) ?_ (fun key => ?_)
      · refine am_Go.n htb 1 (S' := (126, [some (.inr (.inr (some (10, 0)))), some (.inl q6), some (.inl ((10 : Int32) * (r11.1 10 0 21))), none], [.inl q6], am_mk q22)) rfl ?_
        obtain ⟨q29, h59, h⟩ := am_bd h
        refine am_Go.cut (S := (144, [some (.inr (.inr (some (10, 0)))), some (.inl q6), some (.inl ((10 : Int32) * (r11.1 10 0 21))), none], [], am_mk q29)) ?_ (fun key => ?_)
        · refine am_Go.n htb 1 (S' := (145, [some (.inr (.inr (some (10, 0)))), some (.inl q6), some (.inl ((10 : Int32) * (r11.1 10 0 21))), none], [.inl q6], am_mk q29)) rfl ?_
          obtain ⟨q33, h58, h⟩ := am_bd h
          refine am_Go.cut (S := (158, [some (.inr (.inr (some (10, 0)))), some (.inl q6), some (.inl ((10 : Int32) * (r11.1 10 0 21))), none], [], am_mk q33)) ?_ (fun key => ?_)
          · refine am_Go.n htb 6 (S' := (167, [some (.inr (.inr (some (10, 0)))), some (.inl q6), some (.inl ((10 : Int32) * (r11.1 10 0 21))), none], [.inl 1, .inl (((10 : Int32) * (r11.1 10 0 21)) + (9 : Int32)), .inr (.inr (some (61, 0)))], am_mk q33)) rfl ?_
            obtain ⟨hg34, h⟩ := am_ck_some h
            refine am_Go.c1 htb (S' := (168, [some (.inr (.inr (some (10, 0)))), some (.inl q6), some (.inl ((10 : Int32) * (r11.1 10 0 21))), none], [], am_mk (am_si q33 61 0 (((10 : Int32) * (r11.1 10 0 21)) + (9 : Int32)).toNatClampNeg 1))) (if_neg hg34) ?_
            refine am_Go.n htb 2 (S' := (172, [some (.inr (.inr (some (10, 0)))), some (.inl q6), some (.inl ((10 : Int32) * (r11.1 10 0 21))), none], [.inl (q33.1 10 0 19)], am_mk (am_si q33 61 0 (((10 : Int32) * (r11.1 10 0 21)) + (9 : Int32)).toNatClampNeg 1))) rfl ?_
            obtain ⟨q44, h57, h⟩ := am_bd h
            refine am_Go.cut (S := (206, [some (.inr (.inr (some (10, 0)))), some (.inl q6), some (.inl ((10 : Int32) * (r11.1 10 0 21))), none], [], am_mk q44)) ?_ (fun key => ?_)
            · refine am_Go.n htb 7 (S' := (218, [some (.inr (.inr (some (10, 0)))), some (.inl q6), some (.inl ((10 : Int32) * (r11.1 10 0 21))), none], [.inl (q44.1 10 0 23), .inl (((10 : Int32) * (r11.1 10 0 21)) + (7 : Int32)), .inr (.inr (some (61, 0)))], am_mk q44)) rfl ?_
              obtain ⟨hg45, h⟩ := am_ck_some h
              refine am_Go.c1 htb (S' := (219, [some (.inr (.inr (some (10, 0)))), some (.inl q6), some (.inl ((10 : Int32) * (r11.1 10 0 21))), none], [], am_mk (am_si q44 61 0 (((10 : Int32) * (r11.1 10 0 21)) + (7 : Int32)).toNatClampNeg (q44.1 10 0 23)))) (if_neg hg45) ?_
              refine am_Go.n htb 2 (S' := (223, [some (.inr (.inr (some (10, 0)))), some (.inl q6), some (.inl ((10 : Int32) * (r11.1 10 0 21))), none], [.inl (q44.1 10 0 19)], am_mk (am_si q44 61 0 (((10 : Int32) * (r11.1 10 0 21)) + (7 : Int32)).toNatClampNeg (q44.1 10 0 23)))) rfl ?_
              obtain ⟨q54, h56, h⟩ := am_bd h
              refine am_Go.cut (S := (245, [some (.inr (.inr (some (10, 0)))), some (.inl q6), some (.inl ((10 : Int32) * (r11.1 10 0 21))), none], [], am_mk q54)) ?_ (fun key => ?_)
              · refine am_Go.n htb 7 (S' := (257, [some (.inr (.inr (some (10, 0)))), some (.inl q6), some (.inl ((10 : Int32) * (r11.1 10 0 21))), none], [.inl (q54.1 10 0 23), .inl (((10 : Int32) * (r11.1 10 0 21)) + (8 : Int32)), .inr (.inr (some (61, 0)))], am_mk q54)) rfl ?_
                obtain ⟨hg55, h⟩ := am_ck_some h
                refine am_Go.c1 htb (S' := (258, [some (.inr (.inr (some (10, 0)))), some (.inl q6), some (.inl ((10 : Int32) * (r11.1 10 0 21))), none], [], am_mk (am_si q54 61 0 (((10 : Int32) * (r11.1 10 0 21)) + (8 : Int32)).toNatClampNeg (q54.1 10 0 23)))) (if_neg hg55) ?_
                cases h
                exact am_Go.rt htb rfl
              · have h := h56
                by_cases hc46 : (q44.1 10 0 19) ≠ 0
                · rw [if_pos hc46] at h
                  refine am_Go.c1 htb (S' := (245, [some (.inr (.inr (some (10, 0)))), some (.inl q6), some (.inl ((10 : Int32) * (r11.1 10 0 21))), none], [], am_mk (am_si q44 61 0 (((10 : Int32) * (r11.1 10 0 21)) + (7 : Int32)).toNatClampNeg (q44.1 10 0 23)))) (if_pos hc46) ?_
                  cases h
                  exact am_Go.fg (by exact ⟨rfl, ⟨rfl, ⟨rfl, trivial⟩⟩⟩) key
                · rw [if_neg hc46] at h
                  refine am_Go.c1 htb (S' := (226, [some (.inr (.inr (some (10, 0)))), some (.inl q6), some (.inl ((10 : Int32) * (r11.1 10 0 21))), none], [], am_mk (am_si q44 61 0 (((10 : Int32) * (r11.1 10 0 21)) + (7 : Int32)).toNatClampNeg (q44.1 10 0 23)))) (if_neg hc46) ?_
                  refine am_Go.n htb 2 (S' := (230, [some (.inr (.inr (some (10, 0)))), some (.inl q6), some (.inl ((10 : Int32) * (r11.1 10 0 21))), none], [.inr (.inl 294), .inr (.inr (some (10, 0)))], am_mk (am_si q44 61 0 (((10 : Int32) * (r11.1 10 0 21)) + (7 : Int32)).toNatClampNeg (q44.1 10 0 23)))) rfl ?_
                  obtain ⟨r47, h48, h⟩ := am_bd h
                  refine am_Go.cl htb rfl (ex_X10_isWord d (by omega) 294 (am_si q44 61 0 (((10 : Int32) * (r11.1 10 0 21)) + (7 : Int32)).toNatClampNeg (q44.1 10 0 23)) r47 h48) ?_
                  show am_Go d 285 (233, [some (.inr (.inr (some (10, 0)))), some (.inl q6), some (.inl ((10 : Int32) * (r11.1 10 0 21))), none], [.inl r47], am_mk (am_si q44 61 0 (((10 : Int32) * (r11.1 10 0 21)) + (7 : Int32)).toNatClampNeg (q44.1 10 0 23))) _ _ _ _
                  by_cases hc49 : r47 = 0
                  · rw [if_pos hc49] at h
                    refine am_Go.c1 htb (S' := (245, [some (.inr (.inr (some (10, 0)))), some (.inl q6), some (.inl ((10 : Int32) * (r11.1 10 0 21))), none], [], am_mk (am_si q44 61 0 (((10 : Int32) * (r11.1 10 0 21)) + (7 : Int32)).toNatClampNeg (q44.1 10 0 23)))) (if_pos hc49) ?_
                    cases h
                    exact am_Go.fg (by exact ⟨rfl, ⟨rfl, ⟨rfl, trivial⟩⟩⟩) key
                  · rw [if_neg hc49] at h
                    refine am_Go.c1 htb (S' := (236, [some (.inr (.inr (some (10, 0)))), some (.inl q6), some (.inl ((10 : Int32) * (r11.1 10 0 21))), none], [], am_mk (am_si q44 61 0 (((10 : Int32) * (r11.1 10 0 21)) + (7 : Int32)).toNatClampNeg (q44.1 10 0 23)))) (if_neg hc49) ?_
                    refine am_Go.n htb 1 (S' := (237, [some (.inr (.inr (some (10, 0)))), some (.inl q6), some (.inl ((10 : Int32) * (r11.1 10 0 21))), none], [.inr (.inr (some (10, 0)))], am_mk (am_si q44 61 0 (((10 : Int32) * (r11.1 10 0 21)) + (7 : Int32)).toNatClampNeg (q44.1 10 0 23)))) rfl ?_
                    obtain ⟨r50, h51, h⟩ := am_bd h
                    refine am_Go.cl htb rfl (ex_X10_next d (by omega)  (am_si q44 61 0 (((10 : Int32) * (r11.1 10 0 21)) + (7 : Int32)).toNatClampNeg (q44.1 10 0 23)) r50 h51) ?_
                    show am_Go d 285 (240, [some (.inr (.inr (some (10, 0)))), some (.inl q6), some (.inl ((10 : Int32) * (r11.1 10 0 21))), none], [], am_mk r50) _ _ _ _
                    refine am_Go.n htb 2 (S' := (242, [some (.inr (.inr (some (10, 0)))), some (.inl q6), some (.inl ((10 : Int32) * (r11.1 10 0 21))), none], [.inl 1, .inr (.inr (some (10, 0)))], am_mk r50)) rfl ?_
                    obtain ⟨r52, h53, h⟩ := am_bd h
                    refine am_Go.cl htb rfl (ex_X10_readExpression d (by omega) 1 r50 r52 h53) ?_
                    show am_Go d 285 (245, [some (.inr (.inr (some (10, 0)))), some (.inl q6), some (.inl ((10 : Int32) * (r11.1 10 0 21))), none], [], am_mk r52) _ _ _ _
                    cases h
                    exact am_Go.fg (by exact ⟨rfl, ⟨rfl, ⟨rfl, trivial⟩⟩⟩) key
            · have h := h57
              by_cases hc35 : (q33.1 10 0 19) ≠ 0
              · rw [if_pos hc35] at h
                refine am_Go.c1 htb (S' := (206, [some (.inr (.inr (some (10, 0)))), some (.inl q6), some (.inl ((10 : Int32) * (r11.1 10 0 21))), none], [], am_mk (am_si q33 61 0 (((10 : Int32) * (r11.1 10 0 21)) + (9 : Int32)).toNatClampNeg 1))) (if_pos hc35) ?_
                cases h
                exact am_Go.fg (by exact ⟨rfl, ⟨rfl, ⟨rfl, trivial⟩⟩⟩) key
              · rw [if_neg hc35] at h
                refine am_Go.c1 htb (S' := (175, [some (.inr (.inr (some (10, 0)))), some (.inl q6), some (.inl ((10 : Int32) * (r11.1 10 0 21))), none], [], am_mk (am_si q33 61 0 (((10 : Int32) * (r11.1 10 0 21)) + (9 : Int32)).toNatClampNeg 1))) (if_neg hc35) ?_
                refine am_Go.n htb 2 (S' := (179, [some (.inr (.inr (some (10, 0)))), some (.inl q6), some (.inl ((10 : Int32) * (r11.1 10 0 21))), none], [.inr (.inl 21279923), .inr (.inr (some (10, 0)))], am_mk (am_si q33 61 0 (((10 : Int32) * (r11.1 10 0 21)) + (9 : Int32)).toNatClampNeg 1))) rfl ?_
                obtain ⟨r36, h37, h⟩ := am_bd h
                refine am_Go.cl htb rfl (ex_X10_isWord d (by omega) 21279923 (am_si q33 61 0 (((10 : Int32) * (r11.1 10 0 21)) + (9 : Int32)).toNatClampNeg 1) r36 h37) ?_
                show am_Go d 285 (182, [some (.inr (.inr (some (10, 0)))), some (.inl q6), some (.inl ((10 : Int32) * (r11.1 10 0 21))), none], [.inl r36], am_mk (am_si q33 61 0 (((10 : Int32) * (r11.1 10 0 21)) + (9 : Int32)).toNatClampNeg 1)) _ _ _ _
                by_cases hc38 : r36 = 0
                · rw [if_pos hc38] at h
                  refine am_Go.c1 htb (S' := (206, [some (.inr (.inr (some (10, 0)))), some (.inl q6), some (.inl ((10 : Int32) * (r11.1 10 0 21))), none], [], am_mk (am_si q33 61 0 (((10 : Int32) * (r11.1 10 0 21)) + (9 : Int32)).toNatClampNeg 1))) (if_pos hc38) ?_
                  cases h
                  exact am_Go.fg (by exact ⟨rfl, ⟨rfl, ⟨rfl, trivial⟩⟩⟩) key
                · rw [if_neg hc38] at h
                  refine am_Go.c1 htb (S' := (185, [some (.inr (.inr (some (10, 0)))), some (.inl q6), some (.inl ((10 : Int32) * (r11.1 10 0 21))), none], [], am_mk (am_si q33 61 0 (((10 : Int32) * (r11.1 10 0 21)) + (9 : Int32)).toNatClampNeg 1))) (if_neg hc38) ?_
                  refine am_Go.n htb 1 (S' := (186, [some (.inr (.inr (some (10, 0)))), some (.inl q6), some (.inl ((10 : Int32) * (r11.1 10 0 21))), none], [.inr (.inr (some (10, 0)))], am_mk (am_si q33 61 0 (((10 : Int32) * (r11.1 10 0 21)) + (9 : Int32)).toNatClampNeg 1))) rfl ?_
                  obtain ⟨r39, h40, h⟩ := am_bd h
                  refine am_Go.cl htb rfl (ex_X10_next d (by omega)  (am_si q33 61 0 (((10 : Int32) * (r11.1 10 0 21)) + (9 : Int32)).toNatClampNeg 1) r39 h40) ?_
                  show am_Go d 285 (189, [some (.inr (.inr (some (10, 0)))), some (.inl q6), some (.inl ((10 : Int32) * (r11.1 10 0 21))), none], [], am_mk r39) _ _ _ _
                  refine am_Go.n htb 8 (S' := (202, [some (.inr (.inr (some (10, 0)))), some (.inl q6), some (.inl ((10 : Int32) * (r11.1 10 0 21))), none], [.inr (.inl 20), .inr (.inl 1), .inr (.inr (some (10, 0))), .inl (((10 : Int32) * (r11.1 10 0 21)) + (9 : Int32)), .inr (.inr (some (61, 0)))], am_mk r39)) rfl ?_
                  obtain ⟨r41, h42, h⟩ := am_bd h
                  refine am_Go.cl htb rfl (ex_X10_number d (by omega) 1 20 r39 r41 h42) ?_
                  show am_Go d 285 (205, [some (.inr (.inr (some (10, 0)))), some (.inl q6), some (.inl ((10 : Int32) * (r11.1 10 0 21))), none], [.inl r41.1, .inl (((10 : Int32) * (r11.1 10 0 21)) + (9 : Int32)), .inr (.inr (some (61, 0)))], am_mk r41.2) _ _ _ _
                  obtain ⟨hg43, h⟩ := am_ck_some h
                  refine am_Go.c1 htb (S' := (206, [some (.inr (.inr (some (10, 0)))), some (.inl q6), some (.inl ((10 : Int32) * (r11.1 10 0 21))), none], [], am_mk (am_si r41.2 61 0 (((10 : Int32) * (r11.1 10 0 21)) + (9 : Int32)).toNatClampNeg r41.1))) (if_neg hg43) ?_
                  cases h
                  exact am_Go.fg (by exact ⟨rfl, ⟨rfl, ⟨rfl, trivial⟩⟩⟩) key
          · have h := h58
            by_cases hc30 : q6 ≠ 0
            · rw [if_pos hc30] at h
              refine am_Go.c1 htb (S' := (158, [some (.inr (.inr (some (10, 0)))), some (.inl q6), some (.inl ((10 : Int32) * (r11.1 10 0 21))), none], [], am_mk q29)) (if_pos hc30) ?_
              cases h
              exact am_Go.fg (by exact ⟨rfl, ⟨rfl, ⟨rfl, trivial⟩⟩⟩) key
            · rw [if_neg hc30] at h
              refine am_Go.c1 htb (S' := (148, [some (.inr (.inr (some (10, 0)))), some (.inl q6), some (.inl ((10 : Int32) * (r11.1 10 0 21))), none], [], am_mk q29)) (if_neg hc30) ?_
              refine am_Go.n htb 5 (S' := (155, [some (.inr (.inr (some (10, 0)))), some (.inl q6), some (.inl ((10 : Int32) * (r11.1 10 0 21))), none], [.inl (((10 : Int32) * (r11.1 10 0 21)) + (5 : Int32)), .inr (.inl 89), .inr (.inr (some (10, 0)))], am_mk q29)) rfl ?_
              obtain ⟨r31, h32, h⟩ := am_bd h
              refine am_Go.cl htb rfl (ex_X10_readBehind d (by omega) 89 (((10 : Int32) * (r11.1 10 0 21)) + (5 : Int32)) q29 r31 h32) ?_
              show am_Go d 285 (158, [some (.inr (.inr (some (10, 0)))), some (.inl q6), some (.inl ((10 : Int32) * (r11.1 10 0 21))), none], [], am_mk r31) _ _ _ _
              cases h
              exact am_Go.fg (by exact ⟨rfl, ⟨rfl, ⟨rfl, trivial⟩⟩⟩) key
        · have h := h59
          by_cases hc23 : q6 = 0
          · rw [if_pos hc23] at h
            refine am_Go.c1 htb (S' := (134, [some (.inr (.inr (some (10, 0)))), some (.inl q6), some (.inl ((10 : Int32) * (r11.1 10 0 21))), none], [], am_mk q22)) (if_pos hc23) ?_
            refine am_Go.n htb 5 (S' := (141, [some (.inr (.inr (some (10, 0)))), some (.inl q6), some (.inl ((10 : Int32) * (r11.1 10 0 21))), none], [.inl (((10 : Int32) * (r11.1 10 0 21)) + (3 : Int32)), .inr (.inl 655), .inr (.inr (some (10, 0)))], am_mk q22)) rfl ?_
            obtain ⟨r24, h25, h⟩ := am_bd h
            refine am_Go.cl htb rfl (ex_X10_readBehind d (by omega) 655 (((10 : Int32) * (r11.1 10 0 21)) + (3 : Int32)) q22 r24 h25) ?_
            show am_Go d 285 (144, [some (.inr (.inr (some (10, 0)))), some (.inl q6), some (.inl ((10 : Int32) * (r11.1 10 0 21))), none], [], am_mk r24) _ _ _ _
            cases h
            exact am_Go.fg (by exact ⟨rfl, ⟨rfl, ⟨rfl, trivial⟩⟩⟩) key
          · rw [if_neg hc23] at h
            refine am_Go.c1 htb (S' := (129, [some (.inr (.inr (some (10, 0)))), some (.inl q6), some (.inl ((10 : Int32) * (r11.1 10 0 21))), none], [], am_mk q22)) (if_neg hc23) ?_
            refine am_Go.n htb 2 (S' := (131, [some (.inr (.inr (some (10, 0)))), some (.inl q6), some (.inl ((10 : Int32) * (r11.1 10 0 21))), none], [.inl 2, .inl q6], am_mk q22)) rfl ?_
            by_cases hc26 : q6 ≠ (2 : Int32)
            · rw [if_pos hc26] at h
              refine am_Go.c1 htb (S' := (144, [some (.inr (.inr (some (10, 0)))), some (.inl q6), some (.inl ((10 : Int32) * (r11.1 10 0 21))), none], [], am_mk q22)) (if_pos hc26) ?_
              cases h
              exact am_Go.fg (by exact ⟨rfl, ⟨rfl, ⟨rfl, trivial⟩⟩⟩) key
            · rw [if_neg hc26] at h
              refine am_Go.c1 htb (S' := (134, [some (.inr (.inr (some (10, 0)))), some (.inl q6), some (.inl ((10 : Int32) * (r11.1 10 0 21))), none], [], am_mk q22)) (if_neg hc26) ?_
              refine am_Go.n htb 5 (S' := (141, [some (.inr (.inr (some (10, 0)))), some (.inl q6), some (.inl ((10 : Int32) * (r11.1 10 0 21))), none], [.inl (((10 : Int32) * (r11.1 10 0 21)) + (3 : Int32)), .inr (.inl 655), .inr (.inr (some (10, 0)))], am_mk q22)) rfl ?_
              obtain ⟨r27, h28, h⟩ := am_bd h
              refine am_Go.cl htb rfl (ex_X10_readBehind d (by omega) 655 (((10 : Int32) * (r11.1 10 0 21)) + (3 : Int32)) q22 r27 h28) ?_
              show am_Go d 285 (144, [some (.inr (.inr (some (10, 0)))), some (.inl q6), some (.inl ((10 : Int32) * (r11.1 10 0 21))), none], [], am_mk r27) _ _ _ _
              cases h
              exact am_Go.fg (by exact ⟨rfl, ⟨rfl, ⟨rfl, trivial⟩⟩⟩) key
      · have h := h60
        by_cases hc19 : q6 = (3 : Int32)
        · rw [if_pos hc19] at h
          refine am_Go.c1 htb (S' := (125, [some (.inr (.inr (some (10, 0)))), some (.inl q6), some (.inl ((10 : Int32) * (r11.1 10 0 21))), none], [], am_mk (am_si q16 61 0 ((10 : Int32) * (r11.1 10 0 21)).toNatClampNeg q6))) (if_pos hc19) ?_
          cases h
          exact am_Go.fg (by exact ⟨rfl, ⟨rfl, ⟨rfl, trivial⟩⟩⟩) key
        · rw [if_neg hc19] at h
          refine am_Go.c1 htb (S' := (118, [some (.inr (.inr (some (10, 0)))), some (.inl q6), some (.inl ((10 : Int32) * (r11.1 10 0 21))), none], [], am_mk (am_si q16 61 0 ((10 : Int32) * (r11.1 10 0 21)).toNatClampNeg q6))) (if_neg hc19) ?_
          refine am_Go.n htb 4 (S' := (122, [some (.inr (.inr (some (10, 0)))), some (.inl q6), some (.inl ((10 : Int32) * (r11.1 10 0 21))), none], [.inl (((10 : Int32) * (r11.1 10 0 21)) + (1 : Int32)), .inr (.inr (some (10, 0)))], am_mk (am_si q16 61 0 ((10 : Int32) * (r11.1 10 0 21)).toNatClampNeg q6))) rfl ?_
          obtain ⟨r20, h21, h⟩ := am_bd h
          refine am_Go.cl htb rfl (ex_X10_readSum d (by omega) (((10 : Int32) * (r11.1 10 0 21)) + (1 : Int32)) (am_si q16 61 0 ((10 : Int32) * (r11.1 10 0 21)).toNatClampNeg q6) r20 h21) ?_
          show am_Go d 285 (125, [some (.inr (.inr (some (10, 0)))), some (.inl q6), some (.inl ((10 : Int32) * (r11.1 10 0 21))), none], [], am_mk r20) _ _ _ _
          cases h
          exact am_Go.fg (by exact ⟨rfl, ⟨rfl, ⟨rfl, trivial⟩⟩⟩) key
    · rw [if_neg hc13] at h
      refine am_Go.c1 htb (S' := (64, [some (.inr (.inr (some (10, 0)))), some (.inl q6), none, none], [], am_mk r11)) (if_neg hc13) ?_
      cases h
      exact am_Go.rt htb rfl
  · have h := h61
    by_cases hc8 : q6 = (-1 : Int32)
    · rw [if_pos hc8] at h
      refine am_Go.c1 htb (S' := (53, [some (.inr (.inr (some (10, 0)))), some (.inl q6), none, none], [.inr (.inr (some (10, 0)))], am_mk m)) (if_pos hc8) ?_
      refine am_Go.n htb 1 (S' := (54, [some (.inr (.inr (some (10, 0)))), some (.inl q6), none, none], [.inl 0, .inr (.inr (some (10, 0)))], am_mk m)) rfl ?_
      cases h
      exact am_Go.fg (by exact ⟨rfl, ⟨rfl, trivial⟩⟩) key
    · rw [if_neg hc8] at h
      refine am_Go.c1 htb (S' := (40, [some (.inr (.inr (some (10, 0)))), some (.inl q6), none, none], [.inr (.inr (some (10, 0)))], am_mk m)) (if_neg hc8) ?_
      refine am_Go.n htb 3 (S' := (46, [some (.inr (.inr (some (10, 0)))), some (.inl q6), none, none], [.inl 12, .inl (m.1 10 0 21), .inr (.inr (some (10, 0)))], am_mk m)) rfl ?_
      by_cases hc9 : (12 : Int32) ≤ (m.1 10 0 21)
      · rw [if_pos hc9] at h
        refine am_Go.c1 htb (S' := (53, [some (.inr (.inr (some (10, 0)))), some (.inl q6), none, none], [.inr (.inr (some (10, 0)))], am_mk m)) (if_pos hc9) ?_
        refine am_Go.n htb 1 (S' := (54, [some (.inr (.inr (some (10, 0)))), some (.inl q6), none, none], [.inl 0, .inr (.inr (some (10, 0)))], am_mk m)) rfl ?_
        cases h
        exact am_Go.fg (by exact ⟨rfl, ⟨rfl, trivial⟩⟩) key
      · rw [if_neg hc9] at h
        refine am_Go.c1 htb (S' := (49, [some (.inr (.inr (some (10, 0)))), some (.inl q6), none, none], [.inr (.inr (some (10, 0)))], am_mk m)) (if_neg hc9) ?_
        refine am_Go.n htb 2 (S' := (54, [some (.inr (.inr (some (10, 0)))), some (.inl q6), none, none], [.inl 1, .inr (.inr (some (10, 0)))], am_mk m)) rfl ?_
        cases h
        exact am_Go.fg (by exact ⟨rfl, ⟨rfl, trivial⟩⟩) key
-- X10_sumOf
set_option maxRecDepth 100000 in
theorem ex_X10_sumOf (d : Nat) (hd : 4 ≤ d) (a1 : Int32) (m : am_m) (t : Int32 × am_m) (h : fn_X10_sumOf a1 m = some t) : am_Ex am_cod d 286 [.inr (.inr (some (10, 0))), .inl a1] (am_mk m) (some (.inl t.1)) (am_mk t.2) 0 0 := by
  obtain ⟨d, rfl⟩ : ∃ e, d = e + 1 := ⟨d - 1, by omega⟩
  have htb : am_tab 286 = at_286 := rfl
  refine ⟨Nat.le_of_ble_eq_true rfl, ?_⟩
  unfold fn_X10_sumOf at h
  show am_Go d 286 (0, [some (.inr (.inr (some (10, 0)))), some (.inl a1)], [], am_mk m) _ _ 0 0
  refine am_Go.n htb 2 (S' := (4, [some (.inr (.inr (some (10, 0)))), some (.inl a1)], [.inl (m.1 10 0 58)], am_mk m)) rfl ?_
  by_cases hc1 : (m.1 10 0 58) ≠ 0
  · rw [if_pos hc1] at h
    refine am_Go.c1 htb (S' := (24, [some (.inr (.inr (some (10, 0)))), some (.inl a1)], [], am_mk m)) (if_pos hc1) ?_
    refine am_Go.n htb 1 (S' := (25, [some (.inr (.inr (some (10, 0)))), some (.inl a1)], [.inl (-1)], am_mk m)) rfl ?_
    cases h
    exact am_Go.rt htb rfl
  · rw [if_neg hc1] at h
    refine am_Go.c1 htb (S' := (7, [some (.inr (.inr (some (10, 0)))), some (.inl a1)], [], am_mk m)) (if_neg hc1) ?_
    refine am_Go.n htb 3 (S' := (12, [some (.inr (.inr (some (10, 0)))), some (.inl a1)], [.inl a1, .inr (.inr (some (61, 0)))], am_mk m)) rfl ?_
    obtain ⟨hg2, h⟩ := am_ck_some h
    refine am_Go.c1 htb (S' := (13, [some (.inr (.inr (some (10, 0)))), some (.inl a1)], [.inl (m.1 61 0 a1.toNatClampNeg)], am_mk m)) (if_neg hg2) ?_
    refine am_Go.n htb 5 (S' := (20, [some (.inr (.inr (some (10, 0)))), some (.inl a1)], [.inl (a1 + (1 : Int32)), .inr (.inr (some (61, 0))), .inl (m.1 61 0 a1.toNatClampNeg)], am_mk m)) rfl ?_
    obtain ⟨hg3, h⟩ := am_ck_some h
    refine am_Go.c1 htb (S' := (21, [some (.inr (.inr (some (10, 0)))), some (.inl a1)], [.inl (m.1 61 0 (a1 + (1 : Int32)).toNatClampNeg), .inl (m.1 61 0 a1.toNatClampNeg)], am_mk m)) (if_neg hg3) ?_
    by_cases hc4 : (m.1 61 0 a1.toNatClampNeg) ≠ (m.1 61 0 (a1 + (1 : Int32)).toNatClampNeg)
    · rw [if_pos hc4] at h
      refine am_Go.c1 htb (S' := (26, [some (.inr (.inr (some (10, 0)))), some (.inl a1)], [], am_mk m)) (if_pos hc4) ?_
      refine am_Go.n htb 7 (S' := (37, [some (.inr (.inr (some (10, 0)))), some (.inl a1)], [.inl a1, .inr (.inr (some (61, 0))), .inr (.inr (some (10, 0)))], am_mk (am_si m 10 0 20 1))) rfl ?_
      obtain ⟨hg5, h⟩ := am_ck_some h
      refine am_Go.c1 htb (S' := (38, [some (.inr (.inr (some (10, 0)))), some (.inl a1)], [.inl (m.1 61 0 a1.toNatClampNeg), .inr (.inr (some (10, 0)))], am_mk (am_si m 10 0 20 1))) (if_neg hg5) ?_
      refine am_Go.n htb 5 (S' := (45, [some (.inr (.inr (some (10, 0)))), some (.inl a1)], [.inl (a1 + (1 : Int32)), .inr (.inr (some (61, 0))), .inl (m.1 61 0 a1.toNatClampNeg), .inr (.inr (some (10, 0)))], am_mk (am_si m 10 0 20 1))) rfl ?_
      obtain ⟨hg6, h⟩ := am_ck_some h
      refine am_Go.c1 htb (S' := (46, [some (.inr (.inr (some (10, 0)))), some (.inl a1)], [.inl (m.1 61 0 (a1 + (1 : Int32)).toNatClampNeg), .inl (m.1 61 0 a1.toNatClampNeg), .inr (.inr (some (10, 0)))], am_mk (am_si m 10 0 20 1))) (if_neg hg6) ?_
      obtain ⟨r7, h8, h⟩ := am_bd h
      refine am_Go.cl htb rfl (ex_X10_reckonAll d (by omega) (m.1 61 0 a1.toNatClampNeg) (m.1 61 0 (a1 + (1 : Int32)).toNatClampNeg) (am_si m 10 0 20 1) r7 h8) ?_
      show am_Go d 286 (49, [some (.inr (.inr (some (10, 0)))), some (.inl a1)], [], am_mk r7) _ _ _ _
      refine am_Go.n htb 6 (S' := (59, [some (.inr (.inr (some (10, 0)))), some (.inl a1)], [.inl (r7.1 10 0 38), .inr (.inr (some (10, 0)))], am_mk (am_si r7 10 0 20 0))) rfl ?_
      obtain ⟨hz9, h⟩ := am_gd_some h
      refine am_Go.o htb (am_o_pf 10 58 2) rfl (S' := (62, [some (.inr (.inr (some (10, 0)))), some (.inl a1)], [], am_mk (am_si (am_si r7 10 0 20 0) 10 0 58 (r7.1 10 0 38)))) (am_pfz hz9) ?_
      refine am_Go.n htb 3 (S' := (67, [some (.inr (.inr (some (10, 0)))), some (.inl a1)], [.inl ((r7.2.1 10 0 39).toInt32)], am_mk (am_si (am_si r7 10 0 20 0) 10 0 58 (r7.1 10 0 38)))) rfl ?_
      cases h
      exact am_Go.rt htb rfl
    · rw [if_neg hc4] at h
      refine am_Go.c1 htb (S' := (24, [some (.inr (.inr (some (10, 0)))), some (.inl a1)], [], am_mk m)) (if_neg hc4) ?_
      refine am_Go.n htb 1 (S' := (25, [some (.inr (.inr (some (10, 0)))), some (.inl a1)], [.inl (-1)], am_mk m)) rfl ?_
      cases h
      exact am_Go.rt htb rfl
-- X10_act
set_option maxRecDepth 100000 in
theorem ex_X10_act (d : Nat) (hd : 10 ≤ d) (a1 : Int32) (a2 : Int32) (a3 : Int32) (a4 : Int32) (m : am_m) (t : Int32 × am_m) (h : fn_X10_act a1 a2 a3 a4 m = some t) : am_Ex am_cod d 287 [.inr (.inr (some (10, 0))), .inl a1, .inl a2, .inl a3, .inl a4] (am_mk m) (some (.inl t.1)) (am_mk t.2) 0 0 := by
  obtain ⟨d, rfl⟩ : ∃ e, d = e + 1 := ⟨d - 1, by omega⟩
  have htb : am_tab 287 = at_287 := rfl
  refine ⟨Nat.le_of_ble_eq_true rfl, ?_⟩
  unfold fn_X10_act at h
  show am_Go d 287 (0, [some (.inr (.inr (some (10, 0)))), some (.inl a1), some (.inl a2), some (.inl a3), some (.inl a4)], [], am_mk m) _ _ 0 0
  refine am_Go.n htb 1 (S' := (1, [some (.inr (.inr (some (10, 0)))), some (.inl a1), some (.inl a2), some (.inl a3), some (.inl a4)], [.inl a1], am_mk m)) rfl ?_
  by_cases hs1 : a1 = 0
  · rw [if_pos hs1] at h
    refine am_Go.o htb (am_o_sw [(0, 28), (1, 37), (2, 43)] 50) rfl (S' := (28, [some (.inr (.inr (some (10, 0)))), some (.inl a1), some (.inl a2), some (.inl a3), some (.inl a4)], [], am_mk m)) (am_sw_eq (by simp only [am_sw, if_pos hs1])) ?_
    refine am_Go.n htb 4 (S' := (33, [some (.inr (.inr (some (10, 0)))), some (.inl a1), some (.inl a2), some (.inl a3), some (.inl a4)], [.inl a4, .inl a3, .inl a2, .inr (.inr (some (10, 0)))], am_mk m)) rfl ?_
    obtain ⟨r2, h3, h⟩ := am_bd h
    refine am_Go.cl htb rfl (ex_X10_harmNow d (by omega) a2 a3 a4 m r2 h3) ?_
    show am_Go d 287 (36, [some (.inr (.inr (some (10, 0)))), some (.inl a1), some (.inl a2), some (.inl a3), some (.inl a4)], [.inl r2.1], am_mk r2.2) _ _ _ _
    cases h
    exact am_Go.rt htb rfl
  · rw [if_neg hs1] at h
    by_cases hs4 : a1 = 1
    · rw [if_pos hs4] at h
      refine am_Go.o htb (am_o_sw [(0, 28), (1, 37), (2, 43)] 50) rfl (S' := (37, [some (.inr (.inr (some (10, 0)))), some (.inl a1), some (.inl a2), some (.inl a3), some (.inl a4)], [], am_mk m)) (am_sw_eq (by simp only [am_sw, if_neg hs1, if_pos hs4])) ?_
      refine am_Go.n htb 2 (S' := (39, [some (.inr (.inr (some (10, 0)))), some (.inl a1), some (.inl a2), some (.inl a3), some (.inl a4)], [.inl a2, .inr (.inr (some (10, 0)))], am_mk m)) rfl ?_
      obtain ⟨r5, h6, h⟩ := am_bd h
      refine am_Go.cl htb rfl (ex_X10_feastNow d (by omega) a2 m r5 h6) ?_
      show am_Go d 287 (42, [some (.inr (.inr (some (10, 0)))), some (.inl a1), some (.inl a2), some (.inl a3), some (.inl a4)], [.inl r5.1], am_mk r5.2) _ _ _ _
      cases h
      exact am_Go.rt htb rfl
    · rw [if_neg hs4] at h
      by_cases hs7 : a1 = 2
      · rw [if_pos hs7] at h
        refine am_Go.o htb (am_o_sw [(0, 28), (1, 37), (2, 43)] 50) rfl (S' := (43, [some (.inr (.inr (some (10, 0)))), some (.inl a1), some (.inl a2), some (.inl a3), some (.inl a4)], [], am_mk m)) (am_sw_eq (by simp only [am_sw, if_neg hs1, if_neg hs4, if_pos hs7])) ?_
        refine am_Go.n htb 3 (S' := (46, [some (.inr (.inr (some (10, 0)))), some (.inl a1), some (.inl a2), some (.inl a3), some (.inl a4)], [.inl a3, .inl a2, .inr (.inr (some (10, 0)))], am_mk m)) rfl ?_
        obtain ⟨r8, h9, h⟩ := am_bd h
        refine am_Go.cl htb rfl (ex_X10_pardonNow d (by omega) a2 a3 m r8 h9) ?_
        show am_Go d 287 (49, [some (.inr (.inr (some (10, 0)))), some (.inl a1), some (.inl a2), some (.inl a3), some (.inl a4)], [.inl r8.1], am_mk r8.2) _ _ _ _
        cases h
        exact am_Go.rt htb rfl
      · rw [if_neg hs7] at h
        refine am_Go.o htb (am_o_sw [(0, 28), (1, 37), (2, 43)] 50) rfl (S' := (50, [some (.inr (.inr (some (10, 0)))), some (.inl a1), some (.inl a2), some (.inl a3), some (.inl a4)], [], am_mk m)) (am_sw_eq (by simp only [am_sw, if_neg hs1, if_neg hs4, if_neg hs7, if_false])) ?_
        refine am_Go.n htb 1 (S' := (51, [some (.inr (.inr (some (10, 0)))), some (.inl a1), some (.inl a2), some (.inl a3), some (.inl a4)], [.inr (.inr (some (10, 0)))], am_mk m)) rfl ?_
        obtain ⟨r10, h11, h⟩ := am_bd h
        refine am_Go.cl htb rfl (ex_X10_passNow d (by omega)  m r10 h11) ?_
        show am_Go d 287 (54, [some (.inr (.inr (some (10, 0)))), some (.inl a1), some (.inl a2), some (.inl a3), some (.inl a4)], [.inl r10.1], am_mk r10.2) _ _ _ _
        cases h
        exact am_Go.rt htb rfl
-- X10_run
set_option maxRecDepth 100000 in
theorem lt_X10_run_63 (d : Nat) (hd : 11 ≤ d + 1) {r : Option am_V} {M' : am_M} {kc ks : Nat} {n : Nat} {x1 : Int32} {x2 : Int32} {m : am_m} {t : am_m} (h : lp_X10_run_63 n x1 x2 m = some t) (hk : am_Go d 288 (90, [some (.inr (.inr (some (10, 0)))), some (.inl x1), none, none, none, none], [], am_mk t) r M' kc ks) : am_Go d 288 (63, [some (.inr (.inr (some (10, 0)))), some (.inl x1), some (.inl x2), none, none, none], [], am_mk m) r M' kc ks := by
  have htb : am_tab 288 = at_288 := rfl
  induction n generalizing x2 m with
  | zero => cases h
  | succ n ih =>
    unfold lp_X10_run_63 at h
    refine am_Go.n htb 5 (S' := (70, [some (.inr (.inr (some (10, 0)))), some (.inl x1), some (.inl x2), none, none, none], [.inl (m.1 44 0 0), .inl x2], am_mk m)) rfl ?_
    by_cases hc7 : (m.1 44 0 0) ≤ x2
    · rw [if_pos hc7] at h
      refine am_Go.c1 htb (S' := (90, [some (.inr (.inr (some (10, 0)))), some (.inl x1), some (.inl x2), none, none, none], [], am_mk m)) (if_pos hc7) ?_
      cases h
      exact am_Go.fg (by exact ⟨rfl, ⟨rfl, trivial⟩⟩) hk
    · rw [if_neg hc7] at h
      refine am_Go.c1 htb (S' := (73, [some (.inr (.inr (some (10, 0)))), some (.inl x1), some (.inl x2), none, none, none], [], am_mk m)) (if_neg hc7) ?_
      refine am_Go.n htb 5 (S' := (80, [some (.inr (.inr (some (10, 0)))), some (.inl x1), some (.inl x2), none, none, none], [.inl x2, .inr (.inr (some (10, 0))), .inl x2, .inr (.inr (some (62, 0)))], am_mk m)) rfl ?_
      obtain ⟨r8, h9, h⟩ := am_bd h
      refine am_Go.cl htb rfl (ex_X10_sitsWith d (by omega) x2 m r8 h9) ?_
      show am_Go d 288 (83, [some (.inr (.inr (some (10, 0)))), some (.inl x1), some (.inl x2), none, none, none], [.inl r8, .inl x2, .inr (.inr (some (62, 0)))], am_mk m) _ _ _ _
      obtain ⟨hg10, h⟩ := am_ck_some h
      refine am_Go.c1 htb (S' := (84, [some (.inr (.inr (some (10, 0)))), some (.inl x1), some (.inl x2), none, none, none], [], am_mk (am_si m 62 0 x2.toNatClampNeg r8))) (if_neg hg10) ?_
      refine am_Go.n htb 2 (S' := (63, [some (.inr (.inr (some (10, 0)))), some (.inl x1), some (.inl (x2 + 1)), none, none, none], [], am_mk (am_si m 62 0 x2.toNatClampNeg r8))) rfl ?_
      first | exact ih h | exact ih h hk
set_option maxHeartbeats 10000000 in
set_option maxRecDepth 100000 in
theorem ex_X10_run (d : Nat) (hd : 11 ≤ d) (a1 : Int32) (m : am_m) (t : Int32 × am_m) (h : fn_X10_run a1 m = some t) : am_Ex am_cod d 288 [.inr (.inr (some (10, 0))), .inl a1] (am_mk m) (some (.inl t.1)) (am_mk t.2) 0 0 := by
  obtain ⟨d, rfl⟩ : ∃ e, d = e + 1 := ⟨d - 1, by omega⟩
  have htb : am_tab 288 = at_288 := rfl
  refine ⟨Nat.le_of_ble_eq_true rfl, ?_⟩
  unfold fn_X10_run at h
  show am_Go d 288 (0, [some (.inr (.inr (some (10, 0)))), some (.inl a1), none, none, none, none], [], am_mk m) _ _ 0 0
  refine am_Go.n htb 27 (S' := (41, [some (.inr (.inr (some (10, 0)))), some (.inl a1), none, none, none, none], [.inr (.inr (some (10, 0))), .inl 4, .inr (.inr (some (86, 0)))], am_mk (am_sg (am_sg (am_sg m 86 0 1 ((m.1 44 0 4).toInt64)) 86 0 2 ((m.1 10 0 55).toInt64)) 86 0 3 ((m.1 10 0 56).toInt64)))) rfl ?_
  obtain ⟨r1, h2, h⟩ := am_bd h
  refine am_Go.cl htb rfl (ex_X10_harmsOf d (by omega)  (am_sg (am_sg (am_sg m 86 0 1 ((m.1 44 0 4).toInt64)) 86 0 2 ((m.1 10 0 55).toInt64)) 86 0 3 ((m.1 10 0 56).toInt64)) r1 h2) ?_
  show am_Go d 288 (44, [some (.inr (.inr (some (10, 0)))), some (.inl a1), none, none, none, none], [.inl r1, .inl 4, .inr (.inr (some (86, 0)))], am_mk (am_sg (am_sg (am_sg m 86 0 1 ((m.1 44 0 4).toInt64)) 86 0 2 ((m.1 10 0 55).toInt64)) 86 0 3 ((m.1 10 0 56).toInt64))) _ _ _ _
  refine am_Go.n htb 6 (S' := (52, [some (.inr (.inr (some (10, 0)))), some (.inl a1), none, none, none, none], [.inr (.inr (some (10, 0))), .inl 5, .inr (.inr (some (86, 0)))], am_mk (am_sg (am_sg (am_sg (am_sg m 86 0 1 ((m.1 44 0 4).toInt64)) 86 0 2 ((m.1 10 0 55).toInt64)) 86 0 3 ((m.1 10 0 56).toInt64)) 86 0 4 r1.toInt64))) rfl ?_
  obtain ⟨r3, h4, h⟩ := am_bd h
  refine am_Go.cl htb rfl (ex_X10_starving d (by omega)  (am_sg (am_sg (am_sg (am_sg m 86 0 1 ((m.1 44 0 4).toInt64)) 86 0 2 ((m.1 10 0 55).toInt64)) 86 0 3 ((m.1 10 0 56).toInt64)) 86 0 4 r1.toInt64) r3 h4) ?_
  show am_Go d 288 (55, [some (.inr (.inr (some (10, 0)))), some (.inl a1), none, none, none, none], [.inl r3, .inl 5, .inr (.inr (some (86, 0)))], am_mk (am_sg (am_sg (am_sg (am_sg m 86 0 1 ((m.1 44 0 4).toInt64)) 86 0 2 ((m.1 10 0 55).toInt64)) 86 0 3 ((m.1 10 0 56).toInt64)) 86 0 4 r1.toInt64)) _ _ _ _
  refine am_Go.n htb 3 (S' := (58, [some (.inr (.inr (some (10, 0)))), some (.inl a1), none, none, none, none], [.inr (.inr (some (10, 0)))], am_mk (am_sg (am_sg (am_sg (am_sg (am_sg m 86 0 1 ((m.1 44 0 4).toInt64)) 86 0 2 ((m.1 10 0 55).toInt64)) 86 0 3 ((m.1 10 0 56).toInt64)) 86 0 4 r1.toInt64) 86 0 5 r3.toInt64))) rfl ?_
  obtain ⟨r5, h6, h⟩ := am_bd h
  refine am_Go.cl htb rfl (ex_X10_layMay d (by omega)  (am_sg (am_sg (am_sg (am_sg (am_sg m 86 0 1 ((m.1 44 0 4).toInt64)) 86 0 2 ((m.1 10 0 55).toInt64)) 86 0 3 ((m.1 10 0 56).toInt64)) 86 0 4 r1.toInt64) 86 0 5 r3.toInt64) r5 h6) ?_
  show am_Go d 288 (61, [some (.inr (.inr (some (10, 0)))), some (.inl a1), none, none, none, none], [], am_mk r5) _ _ _ _
  refine am_Go.n htb 2 (S' := (63, [some (.inr (.inr (some (10, 0)))), some (.inl a1), some (.inl 0), none, none, none], [], am_mk r5)) rfl ?_
  obtain ⟨q11, h12, h⟩ := am_bd h
  refine lt_X10_run_63 _ hd (h := h12) (hk := ?_)
  refine am_Go.n htb 8 (S' := (103, [some (.inr (.inr (some (10, 0)))), some (.inl a1), none, none, none, none], [.inl (a1 + (7 : Int32)), .inr (.inr (some (61, 0)))], am_mk (am_si q11 10 0 58 0))) rfl ?_
  obtain ⟨hg13, h⟩ := am_ck_some h
  refine am_Go.c1 htb (S' := (104, [some (.inr (.inr (some (10, 0)))), some (.inl a1), none, none, none, none], [.inl (q11.1 61 0 (a1 + (7 : Int32)).toNatClampNeg)], am_mk (am_si q11 10 0 58 0))) (if_neg hg13) ?_
  refine am_Go.n htb 5 (S' := (112, [some (.inr (.inr (some (10, 0)))), some (.inl a1), none, none, none, none], [.inl (a1 + (8 : Int32)), .inr (.inr (some (61, 0))), .inl (q11.1 61 0 (a1 + (7 : Int32)).toNatClampNeg)], am_mk (am_si q11 10 0 58 0))) rfl ?_
  obtain ⟨hg14, h⟩ := am_ck_some h
  refine am_Go.c1 htb (S' := (113, [some (.inr (.inr (some (10, 0)))), some (.inl a1), none, none, none, none], [.inl (q11.1 61 0 (a1 + (8 : Int32)).toNatClampNeg), .inl (q11.1 61 0 (a1 + (7 : Int32)).toNatClampNeg)], am_mk (am_si q11 10 0 58 0))) (if_neg hg14) ?_
  by_cases hc15 : (q11.1 61 0 (a1 + (8 : Int32)).toNatClampNeg) ≤ (q11.1 61 0 (a1 + (7 : Int32)).toNatClampNeg)
  · rw [if_pos hc15] at h
    refine am_Go.c1 htb (S' := (138, [some (.inr (.inr (some (10, 0)))), some (.inl a1), none, none, none, none], [], am_mk (am_si q11 10 0 58 0))) (if_pos hc15) ?_
    refine am_Go.n htb 4 (S' := (142, [some (.inr (.inr (some (10, 0)))), some (.inl a1), none, none, none, none], [.inl (a1 + (1 : Int32)), .inr (.inr (some (10, 0)))], am_mk (am_si q11 10 0 58 0))) rfl ?_
    obtain ⟨r16, h17, h⟩ := am_bd h
    refine am_Go.cl htb rfl (ex_X10_sumOf d (by omega) (a1 + (1 : Int32)) (am_si q11 10 0 58 0) r16 h17) ?_
    show am_Go d 288 (145, [some (.inr (.inr (some (10, 0)))), some (.inl a1), none, none, none, none], [.inl r16.1], am_mk r16.2) _ _ _ _
    refine am_Go.n htb 5 (S' := (150, [some (.inr (.inr (some (10, 0)))), some (.inl a1), some (.inl r16.1), none, none, none], [.inl (a1 + (3 : Int32)), .inr (.inr (some (10, 0)))], am_mk r16.2)) rfl ?_
    obtain ⟨r18, h19, h⟩ := am_bd h
    refine am_Go.cl htb rfl (ex_X10_sumOf d (by omega) (a1 + (3 : Int32)) r16.2 r18 h19) ?_
    show am_Go d 288 (153, [some (.inr (.inr (some (10, 0)))), some (.inl a1), some (.inl r16.1), none, none, none], [.inl r18.1], am_mk r18.2) _ _ _ _
    refine am_Go.n htb 5 (S' := (158, [some (.inr (.inr (some (10, 0)))), some (.inl a1), some (.inl r16.1), some (.inl r18.1), none, none], [.inl (a1 + (5 : Int32)), .inr (.inr (some (10, 0)))], am_mk r18.2)) rfl ?_
    obtain ⟨r20, h21, h⟩ := am_bd h
    refine am_Go.cl htb rfl (ex_X10_sumOf d (by omega) (a1 + (5 : Int32)) r18.2 r20 h21) ?_
    show am_Go d 288 (161, [some (.inr (.inr (some (10, 0)))), some (.inl a1), some (.inl r16.1), some (.inl r18.1), none, none], [.inl r20.1], am_mk r20.2) _ _ _ _
    refine am_Go.n htb 3 (S' := (167, [some (.inr (.inr (some (10, 0)))), some (.inl a1), some (.inl r16.1), some (.inl r18.1), some (.inl r20.1), none], [.inl (r20.2.1 10 0 58)], am_mk r20.2)) rfl ?_
    by_cases hc22 : (r20.2.1 10 0 58) = 0
    · rw [if_pos hc22] at h
      refine am_Go.c1 htb (S' := (173, [some (.inr (.inr (some (10, 0)))), some (.inl a1), some (.inl r16.1), some (.inl r18.1), some (.inl r20.1), none], [], am_mk r20.2)) (if_pos hc22) ?_
      refine am_Go.n htb 4 (S' := (179, [some (.inr (.inr (some (10, 0)))), some (.inl a1), some (.inl r16.1), some (.inl r18.1), some (.inl r20.1), none], [.inl a1, .inr (.inr (some (61, 0))), .inr (.inr (some (10, 0)))], am_mk r20.2)) rfl ?_
      obtain ⟨hg23, h⟩ := am_ck_some h
      refine am_Go.c1 htb (S' := (180, [some (.inr (.inr (some (10, 0)))), some (.inl a1), some (.inl r16.1), some (.inl r18.1), some (.inl r20.1), none], [.inl (r20.2.1 61 0 a1.toNatClampNeg), .inr (.inr (some (10, 0)))], am_mk r20.2)) (if_neg hg23) ?_
      refine am_Go.n htb 3 (S' := (184, [some (.inr (.inr (some (10, 0)))), some (.inl a1), some (.inl r16.1), some (.inl r18.1), some (.inl r20.1), none], [.inl r20.1, .inl r18.1, .inl r16.1, .inl (r20.2.1 61 0 a1.toNatClampNeg), .inr (.inr (some (10, 0)))], am_mk r20.2)) rfl ?_
      obtain ⟨r24, h25, h⟩ := am_bd h
      refine am_Go.cl htb rfl (ex_X10_act d (by omega) (r20.2.1 61 0 a1.toNatClampNeg) r16.1 r18.1 r20.1 r20.2 r24 h25) ?_
      show am_Go d 288 (187, [some (.inr (.inr (some (10, 0)))), some (.inl a1), some (.inl r16.1), some (.inl r18.1), some (.inl r20.1), none], [.inl r24.1], am_mk r24.2) _ _ _ _
      refine am_Go.n htb 2 (S' := (191, [some (.inr (.inr (some (10, 0)))), some (.inl a1), some (.inl r16.1), some (.inl r18.1), some (.inl r20.1), some (.inl r24.1)], [.inl r24.1], am_mk r24.2)) rfl ?_
      by_cases hc26 : 0 ≤ r24.1
      · rw [if_pos hc26] at h
        refine am_Go.c1 htb (S' := (197, [some (.inr (.inr (some (10, 0)))), some (.inl a1), some (.inl r16.1), some (.inl r18.1), some (.inl r20.1), some (.inl r24.1)], [], am_mk r24.2)) (if_pos hc26) ?_
        refine am_Go.n htb 4 (S' := (203, [some (.inr (.inr (some (10, 0)))), some (.inl a1), some (.inl r16.1), some (.inl r18.1), some (.inl r20.1), some (.inl r24.1)], [.inl a1, .inr (.inr (some (61, 0))), .inr (.inr (some (10, 0)))], am_mk r24.2)) rfl ?_
        obtain ⟨hg27, h⟩ := am_ck_some h
        refine am_Go.c1 htb (S' := (204, [some (.inr (.inr (some (10, 0)))), some (.inl a1), some (.inl r16.1), some (.inl r18.1), some (.inl r20.1), some (.inl r24.1)], [.inl (r24.2.1 61 0 a1.toNatClampNeg), .inr (.inr (some (10, 0)))], am_mk r24.2)) (if_neg hg27) ?_
        refine am_Go.n htb 1 (S' := (205, [some (.inr (.inr (some (10, 0)))), some (.inl a1), some (.inl r16.1), some (.inl r18.1), some (.inl r20.1), some (.inl r24.1)], [.inl 1, .inl (r24.2.1 61 0 a1.toNatClampNeg), .inr (.inr (some (10, 0)))], am_mk r24.2)) rfl ?_
        refine am_Go.cut (S := (217, [some (.inr (.inr (some (10, 0)))), some (.inl a1), some (.inl r16.1), some (.inl r18.1), some (.inl r20.1), some (.inl r24.1)], [.inl (if (r24.2.1 61 0 a1.toNatClampNeg) ≠ (1 : Int32) then (r24.2.1 10 0 56) else r24.1), .inr (.inr (some (10, 0)))], am_mk r24.2)) ?_ (fun key => ?_)
        · refine am_Go.n htb 8 (S' := (231, [some (.inr (.inr (some (10, 0)))), some (.inl a1), some (.inl r16.1), some (.inl r18.1), some (.inl r20.1), some (.inl r24.1)], [.inl 0], am_mk (am_si (am_si r24.2 10 0 56 (if (r24.2.1 61 0 a1.toNatClampNeg) ≠ (1 : Int32) then (r24.2.1 10 0 56) else r24.1)) 10 0 55 ((r24.2.1 10 0 55) + (1 : Int32))))) rfl ?_
          cases h
          exact am_Go.rt htb rfl
        · by_cases hc28 : (r24.2.1 61 0 a1.toNatClampNeg) ≠ (1 : Int32)
          · refine am_Go.c1 htb (S' := (213, [some (.inr (.inr (some (10, 0)))), some (.inl a1), some (.inl r16.1), some (.inl r18.1), some (.inl r20.1), some (.inl r24.1)], [.inr (.inr (some (10, 0)))], am_mk r24.2)) (if_pos hc28) ?_
            refine am_Go.n htb 2 (S' := (217, [some (.inr (.inr (some (10, 0)))), some (.inl a1), some (.inl r16.1), some (.inl r18.1), some (.inl r20.1), some (.inl r24.1)], [.inl (r24.2.1 10 0 56), .inr (.inr (some (10, 0)))], am_mk r24.2)) rfl ?_
            simp only [if_pos hc28] at key
            exact am_Go.fg (by exact ⟨rfl, ⟨rfl, ⟨rfl, ⟨rfl, ⟨rfl, ⟨rfl, trivial⟩⟩⟩⟩⟩⟩) key
          · refine am_Go.c1 htb (S' := (208, [some (.inr (.inr (some (10, 0)))), some (.inl a1), some (.inl r16.1), some (.inl r18.1), some (.inl r20.1), some (.inl r24.1)], [.inr (.inr (some (10, 0)))], am_mk r24.2)) (if_neg hc28) ?_
            refine am_Go.n htb 2 (S' := (217, [some (.inr (.inr (some (10, 0)))), some (.inl a1), some (.inl r16.1), some (.inl r18.1), some (.inl r20.1), some (.inl r24.1)], [.inl r24.1, .inr (.inr (some (10, 0)))], am_mk r24.2)) rfl ?_
            simp only [if_neg hc28] at key
            exact am_Go.fg (by exact ⟨rfl, ⟨rfl, ⟨rfl, ⟨rfl, ⟨rfl, ⟨rfl, trivial⟩⟩⟩⟩⟩⟩) key
      · rw [if_neg hc26] at h
        refine am_Go.c1 htb (S' := (194, [some (.inr (.inr (some (10, 0)))), some (.inl a1), some (.inl r16.1), some (.inl r18.1), some (.inl r20.1), some (.inl r24.1)], [], am_mk r24.2)) (if_neg hc26) ?_
        refine am_Go.n htb 1 (S' := (196, [some (.inr (.inr (some (10, 0)))), some (.inl a1), some (.inl r16.1), some (.inl r18.1), some (.inl r20.1), some (.inl r24.1)], [.inl (-3)], am_mk r24.2)) rfl ?_
        cases h
        exact am_Go.rt htb rfl
    · rw [if_neg hc22] at h
      refine am_Go.c1 htb (S' := (170, [some (.inr (.inr (some (10, 0)))), some (.inl a1), some (.inl r16.1), some (.inl r18.1), some (.inl r20.1), none], [], am_mk r20.2)) (if_neg hc22) ?_
      refine am_Go.n htb 1 (S' := (172, [some (.inr (.inr (some (10, 0)))), some (.inl a1), some (.inl r16.1), some (.inl r18.1), some (.inl r20.1), none], [.inl (-3)], am_mk r20.2)) rfl ?_
      cases h
      exact am_Go.rt htb rfl
  · rw [if_neg hc15] at h
    refine am_Go.c1 htb (S' := (116, [some (.inr (.inr (some (10, 0)))), some (.inl a1), none, none, none, none], [], am_mk (am_si q11 10 0 58 0))) (if_neg hc15) ?_
    refine am_Go.n htb 4 (S' := (121, [some (.inr (.inr (some (10, 0)))), some (.inl a1), none, none, none, none], [.inl (a1 + (7 : Int32)), .inr (.inr (some (10, 0)))], am_mk (am_si q11 10 0 58 0))) rfl ?_
    obtain ⟨r29, h30, h⟩ := am_bd h
    refine am_Go.cl htb rfl (ex_X10_sumOf d (by omega) (a1 + (7 : Int32)) (am_si q11 10 0 58 0) r29 h30) ?_
    show am_Go d 288 (124, [some (.inr (.inr (some (10, 0)))), some (.inl a1), none, none, none, none], [.inl r29.1], am_mk r29.2) _ _ _ _
    refine am_Go.n htb 3 (S' := (129, [some (.inr (.inr (some (10, 0)))), some (.inl a1), some (.inl r29.1), none, none, none], [.inl (r29.2.1 10 0 58)], am_mk r29.2)) rfl ?_
    by_cases hc31 : (r29.2.1 10 0 58) ≠ 0
    · rw [if_pos hc31] at h
      refine am_Go.c1 htb (S' := (136, [some (.inr (.inr (some (10, 0)))), some (.inl a1), some (.inl r29.1), none, none, none], [], am_mk r29.2)) (if_pos hc31) ?_
      refine am_Go.n htb 1 (S' := (137, [some (.inr (.inr (some (10, 0)))), some (.inl a1), some (.inl r29.1), none, none, none], [.inl 0], am_mk r29.2)) rfl ?_
      cases h
      exact am_Go.rt htb rfl
    · rw [if_neg hc31] at h
      refine am_Go.c1 htb (S' := (132, [some (.inr (.inr (some (10, 0)))), some (.inl a1), some (.inl r29.1), none, none, none], [], am_mk r29.2)) (if_neg hc31) ?_
      refine am_Go.n htb 1 (S' := (133, [some (.inr (.inr (some (10, 0)))), some (.inl a1), some (.inl r29.1), none, none, none], [.inl r29.1], am_mk r29.2)) rfl ?_
      by_cases hc32 : r29.1 ≠ 0
      · rw [if_pos hc32] at h
        refine am_Go.c1 htb (S' := (138, [some (.inr (.inr (some (10, 0)))), some (.inl a1), some (.inl r29.1), none, none, none], [], am_mk r29.2)) (if_pos hc32) ?_
        refine am_Go.n htb 4 (S' := (142, [some (.inr (.inr (some (10, 0)))), some (.inl a1), some (.inl r29.1), none, none, none], [.inl (a1 + (1 : Int32)), .inr (.inr (some (10, 0)))], am_mk r29.2)) rfl ?_
        obtain ⟨r33, h34, h⟩ := am_bd h
        refine am_Go.cl htb rfl (ex_X10_sumOf d (by omega) (a1 + (1 : Int32)) r29.2 r33 h34) ?_
        show am_Go d 288 (145, [some (.inr (.inr (some (10, 0)))), some (.inl a1), some (.inl r29.1), none, none, none], [.inl r33.1], am_mk r33.2) _ _ _ _
        refine am_Go.n htb 5 (S' := (150, [some (.inr (.inr (some (10, 0)))), some (.inl a1), some (.inl r33.1), none, none, none], [.inl (a1 + (3 : Int32)), .inr (.inr (some (10, 0)))], am_mk r33.2)) rfl ?_
        obtain ⟨r35, h36, h⟩ := am_bd h
        refine am_Go.cl htb rfl (ex_X10_sumOf d (by omega) (a1 + (3 : Int32)) r33.2 r35 h36) ?_
        show am_Go d 288 (153, [some (.inr (.inr (some (10, 0)))), some (.inl a1), some (.inl r33.1), none, none, none], [.inl r35.1], am_mk r35.2) _ _ _ _
        refine am_Go.n htb 5 (S' := (158, [some (.inr (.inr (some (10, 0)))), some (.inl a1), some (.inl r33.1), some (.inl r35.1), none, none], [.inl (a1 + (5 : Int32)), .inr (.inr (some (10, 0)))], am_mk r35.2)) rfl ?_
        obtain ⟨r37, h38, h⟩ := am_bd h
        refine am_Go.cl htb rfl (ex_X10_sumOf d (by omega) (a1 + (5 : Int32)) r35.2 r37 h38) ?_
        show am_Go d 288 (161, [some (.inr (.inr (some (10, 0)))), some (.inl a1), some (.inl r33.1), some (.inl r35.1), none, none], [.inl r37.1], am_mk r37.2) _ _ _ _
        refine am_Go.n htb 3 (S' := (167, [some (.inr (.inr (some (10, 0)))), some (.inl a1), some (.inl r33.1), some (.inl r35.1), some (.inl r37.1), none], [.inl (r37.2.1 10 0 58)], am_mk r37.2)) rfl ?_
        by_cases hc39 : (r37.2.1 10 0 58) = 0
        · rw [if_pos hc39] at h
          refine am_Go.c1 htb (S' := (173, [some (.inr (.inr (some (10, 0)))), some (.inl a1), some (.inl r33.1), some (.inl r35.1), some (.inl r37.1), none], [], am_mk r37.2)) (if_pos hc39) ?_
          refine am_Go.n htb 4 (S' := (179, [some (.inr (.inr (some (10, 0)))), some (.inl a1), some (.inl r33.1), some (.inl r35.1), some (.inl r37.1), none], [.inl a1, .inr (.inr (some (61, 0))), .inr (.inr (some (10, 0)))], am_mk r37.2)) rfl ?_
          obtain ⟨hg40, h⟩ := am_ck_some h
          refine am_Go.c1 htb (S' := (180, [some (.inr (.inr (some (10, 0)))), some (.inl a1), some (.inl r33.1), some (.inl r35.1), some (.inl r37.1), none], [.inl (r37.2.1 61 0 a1.toNatClampNeg), .inr (.inr (some (10, 0)))], am_mk r37.2)) (if_neg hg40) ?_
          refine am_Go.n htb 3 (S' := (184, [some (.inr (.inr (some (10, 0)))), some (.inl a1), some (.inl r33.1), some (.inl r35.1), some (.inl r37.1), none], [.inl r37.1, .inl r35.1, .inl r33.1, .inl (r37.2.1 61 0 a1.toNatClampNeg), .inr (.inr (some (10, 0)))], am_mk r37.2)) rfl ?_
          obtain ⟨r41, h42, h⟩ := am_bd h
          refine am_Go.cl htb rfl (ex_X10_act d (by omega) (r37.2.1 61 0 a1.toNatClampNeg) r33.1 r35.1 r37.1 r37.2 r41 h42) ?_
          show am_Go d 288 (187, [some (.inr (.inr (some (10, 0)))), some (.inl a1), some (.inl r33.1), some (.inl r35.1), some (.inl r37.1), none], [.inl r41.1], am_mk r41.2) _ _ _ _
          refine am_Go.n htb 2 (S' := (191, [some (.inr (.inr (some (10, 0)))), some (.inl a1), some (.inl r33.1), some (.inl r35.1), some (.inl r37.1), some (.inl r41.1)], [.inl r41.1], am_mk r41.2)) rfl ?_
          by_cases hc43 : 0 ≤ r41.1
          · rw [if_pos hc43] at h
            refine am_Go.c1 htb (S' := (197, [some (.inr (.inr (some (10, 0)))), some (.inl a1), some (.inl r33.1), some (.inl r35.1), some (.inl r37.1), some (.inl r41.1)], [], am_mk r41.2)) (if_pos hc43) ?_
            refine am_Go.n htb 4 (S' := (203, [some (.inr (.inr (some (10, 0)))), some (.inl a1), some (.inl r33.1), some (.inl r35.1), some (.inl r37.1), some (.inl r41.1)], [.inl a1, .inr (.inr (some (61, 0))), .inr (.inr (some (10, 0)))], am_mk r41.2)) rfl ?_
            obtain ⟨hg44, h⟩ := am_ck_some h
            refine am_Go.c1 htb (S' := (204, [some (.inr (.inr (some (10, 0)))), some (.inl a1), some (.inl r33.1), some (.inl r35.1), some (.inl r37.1), some (.inl r41.1)], [.inl (r41.2.1 61 0 a1.toNatClampNeg), .inr (.inr (some (10, 0)))], am_mk r41.2)) (if_neg hg44) ?_
            refine am_Go.n htb 1 (S' := (205, [some (.inr (.inr (some (10, 0)))), some (.inl a1), some (.inl r33.1), some (.inl r35.1), some (.inl r37.1), some (.inl r41.1)], [.inl 1, .inl (r41.2.1 61 0 a1.toNatClampNeg), .inr (.inr (some (10, 0)))], am_mk r41.2)) rfl ?_
            refine am_Go.cut (S := (217, [some (.inr (.inr (some (10, 0)))), some (.inl a1), some (.inl r33.1), some (.inl r35.1), some (.inl r37.1), some (.inl r41.1)], [.inl (if (r41.2.1 61 0 a1.toNatClampNeg) ≠ (1 : Int32) then (r41.2.1 10 0 56) else r41.1), .inr (.inr (some (10, 0)))], am_mk r41.2)) ?_ (fun key => ?_)
            · refine am_Go.n htb 8 (S' := (231, [some (.inr (.inr (some (10, 0)))), some (.inl a1), some (.inl r33.1), some (.inl r35.1), some (.inl r37.1), some (.inl r41.1)], [.inl 0], am_mk (am_si (am_si r41.2 10 0 56 (if (r41.2.1 61 0 a1.toNatClampNeg) ≠ (1 : Int32) then (r41.2.1 10 0 56) else r41.1)) 10 0 55 ((r41.2.1 10 0 55) + (1 : Int32))))) rfl ?_
              cases h
              exact am_Go.rt htb rfl
            · by_cases hc45 : (r41.2.1 61 0 a1.toNatClampNeg) ≠ (1 : Int32)
              · refine am_Go.c1 htb (S' := (213, [some (.inr (.inr (some (10, 0)))), some (.inl a1), some (.inl r33.1), some (.inl r35.1), some (.inl r37.1), some (.inl r41.1)], [.inr (.inr (some (10, 0)))], am_mk r41.2)) (if_pos hc45) ?_
                refine am_Go.n htb 2 (S' := (217, [some (.inr (.inr (some (10, 0)))), some (.inl a1), some (.inl r33.1), some (.inl r35.1), some (.inl r37.1), some (.inl r41.1)], [.inl (r41.2.1 10 0 56), .inr (.inr (some (10, 0)))], am_mk r41.2)) rfl ?_
                simp only [if_pos hc45] at key
                exact am_Go.fg (by exact ⟨rfl, ⟨rfl, ⟨rfl, ⟨rfl, ⟨rfl, ⟨rfl, trivial⟩⟩⟩⟩⟩⟩) key
              · refine am_Go.c1 htb (S' := (208, [some (.inr (.inr (some (10, 0)))), some (.inl a1), some (.inl r33.1), some (.inl r35.1), some (.inl r37.1), some (.inl r41.1)], [.inr (.inr (some (10, 0)))], am_mk r41.2)) (if_neg hc45) ?_
                refine am_Go.n htb 2 (S' := (217, [some (.inr (.inr (some (10, 0)))), some (.inl a1), some (.inl r33.1), some (.inl r35.1), some (.inl r37.1), some (.inl r41.1)], [.inl r41.1, .inr (.inr (some (10, 0)))], am_mk r41.2)) rfl ?_
                simp only [if_neg hc45] at key
                exact am_Go.fg (by exact ⟨rfl, ⟨rfl, ⟨rfl, ⟨rfl, ⟨rfl, ⟨rfl, trivial⟩⟩⟩⟩⟩⟩) key
          · rw [if_neg hc43] at h
            refine am_Go.c1 htb (S' := (194, [some (.inr (.inr (some (10, 0)))), some (.inl a1), some (.inl r33.1), some (.inl r35.1), some (.inl r37.1), some (.inl r41.1)], [], am_mk r41.2)) (if_neg hc43) ?_
            refine am_Go.n htb 1 (S' := (196, [some (.inr (.inr (some (10, 0)))), some (.inl a1), some (.inl r33.1), some (.inl r35.1), some (.inl r37.1), some (.inl r41.1)], [.inl (-3)], am_mk r41.2)) rfl ?_
            cases h
            exact am_Go.rt htb rfl
        · rw [if_neg hc39] at h
          refine am_Go.c1 htb (S' := (170, [some (.inr (.inr (some (10, 0)))), some (.inl a1), some (.inl r33.1), some (.inl r35.1), some (.inl r37.1), none], [], am_mk r37.2)) (if_neg hc39) ?_
          refine am_Go.n htb 1 (S' := (172, [some (.inr (.inr (some (10, 0)))), some (.inl a1), some (.inl r33.1), some (.inl r35.1), some (.inl r37.1), none], [.inl (-3)], am_mk r37.2)) rfl ?_
          cases h
          exact am_Go.rt htb rfl
      · rw [if_neg hc32] at h
        refine am_Go.c1 htb (S' := (136, [some (.inr (.inr (some (10, 0)))), some (.inl a1), some (.inl r29.1), none, none, none], [], am_mk r29.2)) (if_neg hc32) ?_
        refine am_Go.n htb 1 (S' := (137, [some (.inr (.inr (some (10, 0)))), some (.inl a1), some (.inl r29.1), none, none, none], [.inl 0], am_mk r29.2)) rfl ?_
        cases h
        exact am_Go.rt htb rfl
-- X10_giveBack
set_option maxRecDepth 100000 in
theorem lt_X10_giveBack_8 (d : Nat) (hd : 2 ≤ d + 1) {r : Option am_V} {M' : am_M} {kc ks : Nat} {n : Nat} {x1 : Int32} {x2 : Int32} {m : am_m} {t : am_m} (h : lp_X10_giveBack_8 n x1 x2 m = some t) (hk : am_Go d 290 (33, [some (.inr (.inr (some (10, 0)))), some (.inl x1), none], [], am_mk t) r M' kc ks) : am_Go d 290 (8, [some (.inr (.inr (some (10, 0)))), some (.inl x1), some (.inl x2)], [], am_mk m) r M' kc ks := by
  have htb : am_tab 290 = at_290 := rfl
  induction n generalizing x2 m with
  | zero => cases h
  | succ n ih =>
    unfold lp_X10_giveBack_8 at h
    refine am_Go.n htb 2 (S' := (12, [some (.inr (.inr (some (10, 0)))), some (.inl x1), some (.inl x2)], [.inl 1728, .inl x2], am_mk m)) rfl ?_
    by_cases hc3 : (1728 : Int32) ≤ x2
    · rw [if_pos hc3] at h
      refine am_Go.c1 htb (S' := (33, [some (.inr (.inr (some (10, 0)))), some (.inl x1), some (.inl x2)], [], am_mk m)) (if_pos hc3) ?_
      cases h
      exact am_Go.fg (by exact ⟨rfl, ⟨rfl, trivial⟩⟩) hk
    · rw [if_neg hc3] at h
      refine am_Go.c1 htb (S' := (15, [some (.inr (.inr (some (10, 0)))), some (.inl x1), some (.inl x2)], [], am_mk m)) (if_neg hc3) ?_
      refine am_Go.n htb 6 (S' := (25, [some (.inr (.inr (some (10, 0)))), some (.inl x1), some (.inl x2)], [.inl x2, .inr (.inr (some (48, 0))), .inl x2, .inr (.inr (some (46, 0)))], am_mk m)) rfl ?_
      obtain ⟨hg4, h⟩ := am_ck_some h
      refine am_Go.c1 htb (S' := (26, [some (.inr (.inr (some (10, 0)))), some (.inl x1), some (.inl x2)], [.inl (m.1 48 0 x2.toNatClampNeg), .inl x2, .inr (.inr (some (46, 0)))], am_mk m)) (if_neg hg4) ?_
      obtain ⟨hg5, h⟩ := am_ck_some h
      refine am_Go.c1 htb (S' := (27, [some (.inr (.inr (some (10, 0)))), some (.inl x1), some (.inl x2)], [], am_mk (am_si m 46 0 x2.toNatClampNeg (m.1 48 0 x2.toNatClampNeg)))) (if_neg hg5) ?_
      refine am_Go.n htb 2 (S' := (8, [some (.inr (.inr (some (10, 0)))), some (.inl x1), some (.inl (x2 + 1))], [], am_mk (am_si m 46 0 x2.toNatClampNeg (m.1 48 0 x2.toNatClampNeg)))) rfl ?_
      first | exact ih h | exact ih h hk
set_option maxRecDepth 100000 in
theorem lt_X10_giveBack_35 (d : Nat) (hd : 2 ≤ d + 1) {r : Option am_V} {M' : am_M} {kc ks : Nat} {n : Nat} {x1 : Int32} {x2 : Int32} {m : am_m} {t : am_m} (h : lp_X10_giveBack_35 n x1 x2 m = some t) (hk : am_Go d 290 (59, [some (.inr (.inr (some (10, 0)))), some (.inl x1), none], [], am_mk t) r M' kc ks) : am_Go d 290 (35, [some (.inr (.inr (some (10, 0)))), some (.inl x1), some (.inl x2)], [], am_mk m) r M' kc ks := by
  have htb : am_tab 290 = at_290 := rfl
  induction n generalizing x2 m with
  | zero => cases h
  | succ n ih =>
    unfold lp_X10_giveBack_35 at h
    refine am_Go.n htb 2 (S' := (38, [some (.inr (.inr (some (10, 0)))), some (.inl x1), some (.inl x2)], [.inl 16, .inl x2], am_mk m)) rfl ?_
    by_cases hc8 : (16 : Int32) ≤ x2
    · rw [if_pos hc8] at h
      refine am_Go.c1 htb (S' := (59, [some (.inr (.inr (some (10, 0)))), some (.inl x1), some (.inl x2)], [], am_mk m)) (if_pos hc8) ?_
      cases h
      exact am_Go.fg (by exact ⟨rfl, ⟨rfl, trivial⟩⟩) hk
    · rw [if_neg hc8] at h
      refine am_Go.c1 htb (S' := (41, [some (.inr (.inr (some (10, 0)))), some (.inl x1), some (.inl x2)], [], am_mk m)) (if_neg hc8) ?_
      refine am_Go.n htb 6 (S' := (51, [some (.inr (.inr (some (10, 0)))), some (.inl x1), some (.inl x2)], [.inl x2, .inr (.inr (some (49, 0))), .inl x2, .inr (.inr (some (47, 0)))], am_mk m)) rfl ?_
      obtain ⟨hg9, h⟩ := am_ck_some h
      refine am_Go.c1 htb (S' := (52, [some (.inr (.inr (some (10, 0)))), some (.inl x1), some (.inl x2)], [.inl (m.1 49 0 x2.toNatClampNeg), .inl x2, .inr (.inr (some (47, 0)))], am_mk m)) (if_neg hg9) ?_
      obtain ⟨hg10, h⟩ := am_ck_some h
      refine am_Go.c1 htb (S' := (53, [some (.inr (.inr (some (10, 0)))), some (.inl x1), some (.inl x2)], [], am_mk (am_si m 47 0 x2.toNatClampNeg (m.1 49 0 x2.toNatClampNeg)))) (if_neg hg10) ?_
      refine am_Go.n htb 2 (S' := (35, [some (.inr (.inr (some (10, 0)))), some (.inl x1), some (.inl (x2 + 1))], [], am_mk (am_si m 47 0 x2.toNatClampNeg (m.1 49 0 x2.toNatClampNeg)))) rfl ?_
      first | exact ih h | exact ih h hk
set_option maxRecDepth 100000 in
theorem ex_X10_giveBack (d : Nat) (hd : 2 ≤ d) (a1 : Int32) (m : am_m) (t : am_m) (h : fn_X10_giveBack a1 m = some t) : am_Ex am_cod d 290 [.inr (.inr (some (10, 0))), .inl a1] (am_mk m) (none) (am_mk t) 0 0 := by
  obtain ⟨d, rfl⟩ : ∃ e, d = e + 1 := ⟨d - 1, by omega⟩
  have htb : am_tab 290 = at_290 := rfl
  refine ⟨Nat.le_of_ble_eq_true rfl, ?_⟩
  unfold fn_X10_giveBack at h
  show am_Go d 290 (0, [some (.inr (.inr (some (10, 0)))), some (.inl a1), none], [], am_mk m) _ _ 0 0
  refine am_Go.n htb 2 (S' := (3, [some (.inr (.inr (some (10, 0)))), some (.inl a1), none], [.inl 17, .inr (.inr (some (10, 0)))], am_mk m)) rfl ?_
  obtain ⟨r1, h2, h⟩ := am_bd h
  refine am_Go.cl htb rfl (ex_X10_putBack d (by omega) 17 m r1 h2) ?_
  show am_Go d 290 (6, [some (.inr (.inr (some (10, 0)))), some (.inl a1), none], [], am_mk r1) _ _ _ _
  refine am_Go.n htb 2 (S' := (8, [some (.inr (.inr (some (10, 0)))), some (.inl a1), some (.inl 0)], [], am_mk r1)) rfl ?_
  obtain ⟨q6, h7, h⟩ := am_bd h
  refine lt_X10_giveBack_8 _ hd (h := h7) (hk := ?_)
  refine am_Go.n htb 2 (S' := (35, [some (.inr (.inr (some (10, 0)))), some (.inl a1), some (.inl 0)], [], am_mk q6)) rfl ?_
  obtain ⟨q11, h12, h⟩ := am_bd h
  refine lt_X10_giveBack_35 _ hd (h := h12) (hk := ?_)
  refine am_Go.n htb 3 (S' := (64, [some (.inr (.inr (some (10, 0)))), some (.inl a1), none], [], am_mk (am_si q11 10 0 8 a1))) rfl ?_
  cases h
  exact am_Go.rt htb rfl
-- X10_orders
set_option maxRecDepth 100000 in
theorem lt_X10_orders_19 (d : Nat) (hd : 12 ≤ d + 1) {r : Option am_V} {M' : am_M} {kc ks : Nat} {n : Nat} {m : am_m} {t : am_m} (h : lp_X10_orders_19 n  m = some t) (hk : am_Go d 289 (46, [some (.inr (.inr (some (10, 0)))), none, none, none], [], am_mk t) r M' kc ks) : am_Go d 289 (19, [some (.inr (.inr (some (10, 0)))), none, none, none], [], am_mk m) r M' kc ks := by
  have htb : am_tab 289 = at_289 := rfl
  induction n generalizing m with
  | zero => cases h
  | succ n ih =>
    unfold lp_X10_orders_19 at h
    refine am_Go.n htb 2 (S' := (23, [some (.inr (.inr (some (10, 0)))), none, none, none], [.inl (m.1 10 0 19)], am_mk m)) rfl ?_
    by_cases hc5 : (m.1 10 0 19) ≠ 0
    · rw [if_pos hc5] at h
      refine am_Go.c1 htb (S' := (46, [some (.inr (.inr (some (10, 0)))), none, none, none], [], am_mk m)) (if_pos hc5) ?_
      cases h
      exact am_Go.fg (by exact ⟨rfl, trivial⟩) hk
    · rw [if_neg hc5] at h
      refine am_Go.c1 htb (S' := (26, [some (.inr (.inr (some (10, 0)))), none, none, none], [], am_mk m)) (if_neg hc5) ?_
      refine am_Go.n htb 2 (S' := (29, [some (.inr (.inr (some (10, 0)))), none, none, none], [.inl 59, .inr (.inr (some (10, 0)))], am_mk m)) rfl ?_
      obtain ⟨r6, h7, h⟩ := am_bd h
      refine am_Go.cl htb rfl (ex_X10_isSign d (by omega) 59 m r6 h7) ?_
      show am_Go d 289 (32, [some (.inr (.inr (some (10, 0)))), none, none, none], [.inl r6], am_mk m) _ _ _ _
      by_cases hc8 : r6 = 0
      · rw [if_pos hc8] at h
        refine am_Go.c1 htb (S' := (46, [some (.inr (.inr (some (10, 0)))), none, none, none], [], am_mk m)) (if_pos hc8) ?_
        cases h
        exact am_Go.fg (by exact ⟨rfl, trivial⟩) hk
      · rw [if_neg hc8] at h
        refine am_Go.c1 htb (S' := (35, [some (.inr (.inr (some (10, 0)))), none, none, none], [], am_mk m)) (if_neg hc8) ?_
        refine am_Go.n htb 1 (S' := (36, [some (.inr (.inr (some (10, 0)))), none, none, none], [.inr (.inr (some (10, 0)))], am_mk m)) rfl ?_
        obtain ⟨r9, h10, h⟩ := am_bd h
        refine am_Go.cl htb rfl (ex_X10_next d (by omega)  m r9 h10) ?_
        show am_Go d 289 (39, [some (.inr (.inr (some (10, 0)))), none, none, none], [], am_mk r9) _ _ _ _
        refine am_Go.n htb 1 (S' := (40, [some (.inr (.inr (some (10, 0)))), none, none, none], [.inr (.inr (some (10, 0)))], am_mk r9)) rfl ?_
        obtain ⟨r11, h12, h⟩ := am_bd h
        refine am_Go.cl htb rfl (ex_X10_readOrder d (by omega)  r9 r11 h12) ?_
        show am_Go d 289 (43, [some (.inr (.inr (some (10, 0)))), none, none, none], [], am_mk r11) _ _ _ _
        refine am_Go.n htb 1 (S' := (19, [some (.inr (.inr (some (10, 0)))), none, none, none], [], am_mk r11)) rfl ?_
        first | exact ih h | exact ih h hk
set_option maxRecDepth 100000 in
theorem lt_X10_orders_77 (d : Nat) (hd : 12 ≤ d + 1) {r : Option am_V} {M' : am_M} {kc ks : Nat} {n : Nat} {x1 : Int32} {x2 : Int32} {m : am_m} {t : am_m} (h : lp_X10_orders_77 n x1 x2 m = some t) (hk : am_Go d 289 (102, [some (.inr (.inr (some (10, 0)))), some (.inl x1), none, none], [], am_mk t) r M' kc ks) : am_Go d 289 (77, [some (.inr (.inr (some (10, 0)))), some (.inl x1), some (.inl x2), none], [], am_mk m) r M' kc ks := by
  have htb : am_tab 289 = at_289 := rfl
  induction n generalizing x2 m with
  | zero => cases h
  | succ n ih =>
    unfold lp_X10_orders_77 at h
    refine am_Go.n htb 2 (S' := (81, [some (.inr (.inr (some (10, 0)))), some (.inl x1), some (.inl x2), none], [.inl 1728, .inl x2], am_mk m)) rfl ?_
    by_cases hc20 : (1728 : Int32) ≤ x2
    · rw [if_pos hc20] at h
      refine am_Go.c1 htb (S' := (102, [some (.inr (.inr (some (10, 0)))), some (.inl x1), some (.inl x2), none], [], am_mk m)) (if_pos hc20) ?_
      cases h
      exact am_Go.fg (by exact ⟨rfl, ⟨rfl, trivial⟩⟩) hk
    · rw [if_neg hc20] at h
      refine am_Go.c1 htb (S' := (84, [some (.inr (.inr (some (10, 0)))), some (.inl x1), some (.inl x2), none], [], am_mk m)) (if_neg hc20) ?_
      refine am_Go.n htb 6 (S' := (94, [some (.inr (.inr (some (10, 0)))), some (.inl x1), some (.inl x2), none], [.inl x2, .inr (.inr (some (46, 0))), .inl x2, .inr (.inr (some (48, 0)))], am_mk m)) rfl ?_
      obtain ⟨hg21, h⟩ := am_ck_some h
      refine am_Go.c1 htb (S' := (95, [some (.inr (.inr (some (10, 0)))), some (.inl x1), some (.inl x2), none], [.inl (m.1 46 0 x2.toNatClampNeg), .inl x2, .inr (.inr (some (48, 0)))], am_mk m)) (if_neg hg21) ?_
      obtain ⟨hg22, h⟩ := am_ck_some h
      refine am_Go.c1 htb (S' := (96, [some (.inr (.inr (some (10, 0)))), some (.inl x1), some (.inl x2), none], [], am_mk (am_si m 48 0 x2.toNatClampNeg (m.1 46 0 x2.toNatClampNeg)))) (if_neg hg22) ?_
      refine am_Go.n htb 2 (S' := (77, [some (.inr (.inr (some (10, 0)))), some (.inl x1), some (.inl (x2 + 1)), none], [], am_mk (am_si m 48 0 x2.toNatClampNeg (m.1 46 0 x2.toNatClampNeg)))) rfl ?_
      first | exact ih h | exact ih h hk
set_option maxRecDepth 100000 in
theorem lt_X10_orders_104 (d : Nat) (hd : 12 ≤ d + 1) {r : Option am_V} {M' : am_M} {kc ks : Nat} {n : Nat} {x1 : Int32} {x2 : Int32} {m : am_m} {t : am_m} (h : lp_X10_orders_104 n x1 x2 m = some t) (hk : am_Go d 289 (128, [some (.inr (.inr (some (10, 0)))), some (.inl x1), none, none], [], am_mk t) r M' kc ks) : am_Go d 289 (104, [some (.inr (.inr (some (10, 0)))), some (.inl x1), some (.inl x2), none], [], am_mk m) r M' kc ks := by
  have htb : am_tab 289 = at_289 := rfl
  induction n generalizing x2 m with
  | zero => cases h
  | succ n ih =>
    unfold lp_X10_orders_104 at h
    refine am_Go.n htb 2 (S' := (107, [some (.inr (.inr (some (10, 0)))), some (.inl x1), some (.inl x2), none], [.inl 16, .inl x2], am_mk m)) rfl ?_
    by_cases hc25 : (16 : Int32) ≤ x2
    · rw [if_pos hc25] at h
      refine am_Go.c1 htb (S' := (128, [some (.inr (.inr (some (10, 0)))), some (.inl x1), some (.inl x2), none], [], am_mk m)) (if_pos hc25) ?_
      cases h
      exact am_Go.fg (by exact ⟨rfl, ⟨rfl, trivial⟩⟩) hk
    · rw [if_neg hc25] at h
      refine am_Go.c1 htb (S' := (110, [some (.inr (.inr (some (10, 0)))), some (.inl x1), some (.inl x2), none], [], am_mk m)) (if_neg hc25) ?_
      refine am_Go.n htb 6 (S' := (120, [some (.inr (.inr (some (10, 0)))), some (.inl x1), some (.inl x2), none], [.inl x2, .inr (.inr (some (47, 0))), .inl x2, .inr (.inr (some (49, 0)))], am_mk m)) rfl ?_
      obtain ⟨hg26, h⟩ := am_ck_some h
      refine am_Go.c1 htb (S' := (121, [some (.inr (.inr (some (10, 0)))), some (.inl x1), some (.inl x2), none], [.inl (m.1 47 0 x2.toNatClampNeg), .inl x2, .inr (.inr (some (49, 0)))], am_mk m)) (if_neg hg26) ?_
      obtain ⟨hg27, h⟩ := am_ck_some h
      refine am_Go.c1 htb (S' := (122, [some (.inr (.inr (some (10, 0)))), some (.inl x1), some (.inl x2), none], [], am_mk (am_si m 49 0 x2.toNatClampNeg (m.1 47 0 x2.toNatClampNeg)))) (if_neg hg27) ?_
      refine am_Go.n htb 2 (S' := (104, [some (.inr (.inr (some (10, 0)))), some (.inl x1), some (.inl (x2 + 1)), none], [], am_mk (am_si m 49 0 x2.toNatClampNeg (m.1 47 0 x2.toNatClampNeg)))) rfl ?_
      first | exact ih h | exact ih h hk
set_option maxRecDepth 100000 in
theorem lt_X10_orders_150 (d : Nat) (hd : 12 ≤ d + 1) {r : Option am_V} {M' : am_M} {kc ks : Nat} {n : Nat} {x1 : Int32} {x2 : Int32} {x3 : Int32} {m : am_m} {t : Sum (am_m) (Int32 × am_m)} (h : lp_X10_orders_150 n x1 x2 x3 m = some t) (hk : ∀ t', t = .inl t' → am_Go d 289 (200, [some (.inr (.inr (some (10, 0)))), some (.inl x1), some (.inl x2), none], [], am_mk t') r M' kc ks) (hr : ∀ t', t = .inr t' → r = some (.inl t'.1) ∧ M' = am_mk t'.2 ∧ kc = 0 ∧ ks = 0) : am_Go d 289 (150, [some (.inr (.inr (some (10, 0)))), some (.inl x1), some (.inl x2), some (.inl x3)], [], am_mk m) r M' kc ks := by
  have htb : am_tab 289 = at_289 := rfl
  induction n generalizing x3 m with
  | zero => cases h
  | succ n ih =>
    unfold lp_X10_orders_150 at h
    refine am_Go.n htb 8 (S' := (162, [some (.inr (.inr (some (10, 0)))), some (.inl x1), some (.inl x2), some (.inl x3)], [.inl (((10 : Int32) * x2) + (9 : Int32)), .inr (.inr (some (61, 0))), .inl x3], am_mk m)) rfl ?_
    obtain ⟨hg31, h⟩ := am_ck_some h
    refine am_Go.c1 htb (S' := (163, [some (.inr (.inr (some (10, 0)))), some (.inl x1), some (.inl x2), some (.inl x3)], [.inl (m.1 61 0 (((10 : Int32) * x2) + (9 : Int32)).toNatClampNeg), .inl x3], am_mk m)) (if_neg hg31) ?_
    by_cases hc32 : (m.1 61 0 (((10 : Int32) * x2) + (9 : Int32)).toNatClampNeg) ≤ x3
    · rw [if_pos hc32] at h
      refine am_Go.c1 htb (S' := (200, [some (.inr (.inr (some (10, 0)))), some (.inl x1), some (.inl x2), some (.inl x3)], [], am_mk m)) (if_pos hc32) ?_
      cases h
      exact am_Go.fg (by exact ⟨rfl, ⟨rfl, ⟨rfl, trivial⟩⟩⟩) (hk _ rfl)
    · rw [if_neg hc32] at h
      refine am_Go.c1 htb (S' := (166, [some (.inr (.inr (some (10, 0)))), some (.inl x1), some (.inl x2), some (.inl x3)], [], am_mk m)) (if_neg hc32) ?_
      refine am_Go.n htb 4 (S' := (171, [some (.inr (.inr (some (10, 0)))), some (.inl x1), some (.inl x2), some (.inl x3)], [.inl ((10 : Int32) * x2), .inr (.inr (some (10, 0)))], am_mk m)) rfl ?_
      obtain ⟨r33, h34, h⟩ := am_bd h
      refine am_Go.cl htb rfl (ex_X10_run d (by omega) ((10 : Int32) * x2) m r33 h34) ?_
      show am_Go d 289 (174, [some (.inr (.inr (some (10, 0)))), some (.inl x1), some (.inl x2), some (.inl x3)], [.inl r33.1], am_mk r33.2) _ _ _ _
      by_cases hc35 : 0 ≤ r33.1
      · rw [if_pos hc35] at h
        refine am_Go.c1 htb (S' := (194, [some (.inr (.inr (some (10, 0)))), some (.inl x1), some (.inl x2), some (.inl x3)], [], am_mk r33.2)) (if_pos hc35) ?_
        refine am_Go.n htb 2 (S' := (150, [some (.inr (.inr (some (10, 0)))), some (.inl x1), some (.inl x2), some (.inl (x3 + 1))], [], am_mk r33.2)) rfl ?_
        first | exact ih h | exact ih h hk | exact ih h hr | exact ih h hk hr
      · rw [if_neg hc35] at h
        refine am_Go.c1 htb (S' := (177, [some (.inr (.inr (some (10, 0)))), some (.inl x1), some (.inl x2), some (.inl x3)], [], am_mk r33.2)) (if_neg hc35) ?_
        refine am_Go.n htb 2 (S' := (179, [some (.inr (.inr (some (10, 0)))), some (.inl x1), some (.inl x2), some (.inl x3)], [.inl x1, .inr (.inr (some (10, 0)))], am_mk r33.2)) rfl ?_
        obtain ⟨r36, h37, h⟩ := am_bd h
        refine am_Go.cl htb rfl (ex_X10_giveBack d (by omega) x1 r33.2 r36 h37) ?_
        show am_Go d 289 (182, [some (.inr (.inr (some (10, 0)))), some (.inl x1), some (.inl x2), some (.inl x3)], [], am_mk r36) _ _ _ _
        refine am_Go.n htb 5 (S' := (190, [some (.inr (.inr (some (10, 0)))), some (.inl x1), some (.inl x2), some (.inl x3)], [.inl (-3), .inr (.inr (some (10, 0)))], am_mk (am_si r36 10 0 57 x2))) rfl ?_
        obtain ⟨r38, h39, h⟩ := am_bd h
        refine am_Go.cl htb rfl (ex_X10_tell d (by omega) (-3) (am_si r36 10 0 57 x2) r38 h39) ?_
        show am_Go d 289 (193, [some (.inr (.inr (some (10, 0)))), some (.inl x1), some (.inl x2), some (.inl x3)], [.inl r38.1], am_mk r38.2) _ _ _ _
        cases h
        obtain ⟨rfl, rfl, rfl, rfl⟩ := hr _ rfl
        exact am_Go.rt htb rfl
set_option maxRecDepth 100000 in
theorem lt_X10_orders_140 (d : Nat) (hd : 12 ≤ d + 1) {r : Option am_V} {M' : am_M} {kc ks : Nat} {n : Nat} {x1 : Int32} {x2 : Int32} {m : am_m} {t : Sum (am_m) (Int32 × am_m)} (h : lp_X10_orders_140 n x1 x2 m = some t) (hk : ∀ t', t = .inl t' → am_Go d 289 (206, [some (.inr (.inr (some (10, 0)))), some (.inl x1), none, none], [], am_mk t') r M' kc ks) (hr : ∀ t', t = .inr t' → r = some (.inl t'.1) ∧ M' = am_mk t'.2 ∧ kc = 0 ∧ ks = 0) : am_Go d 289 (140, [some (.inr (.inr (some (10, 0)))), some (.inl x1), some (.inl x2), none], [], am_mk m) r M' kc ks := by
  have htb : am_tab 289 = at_289 := rfl
  induction n generalizing x2 m with
  | zero => cases h
  | succ n ih =>
    unfold lp_X10_orders_140 at h
    refine am_Go.n htb 3 (S' := (145, [some (.inr (.inr (some (10, 0)))), some (.inl x1), some (.inl x2), none], [.inl (m.1 10 0 21), .inl x2], am_mk m)) rfl ?_
    by_cases hc30 : (m.1 10 0 21) ≤ x2
    · rw [if_pos hc30] at h
      refine am_Go.c1 htb (S' := (206, [some (.inr (.inr (some (10, 0)))), some (.inl x1), some (.inl x2), none], [], am_mk m)) (if_pos hc30) ?_
      cases h
      exact am_Go.fg (by exact ⟨rfl, ⟨rfl, trivial⟩⟩) (hk _ rfl)
    · rw [if_neg hc30] at h
      refine am_Go.c1 htb (S' := (148, [some (.inr (.inr (some (10, 0)))), some (.inl x1), some (.inl x2), none], [], am_mk m)) (if_neg hc30) ?_
      refine am_Go.n htb 2 (S' := (150, [some (.inr (.inr (some (10, 0)))), some (.inl x1), some (.inl x2), some (.inl 0)], [], am_mk m)) rfl ?_
      obtain ⟨w43, h41, h⟩ := am_bd h
      refine lt_X10_orders_150 _ hd (h := h41) (hk := ?_) (hr := ?_)
      · intro q40 he
        subst he
        dsimp only at h
        refine am_Go.n htb 2 (S' := (140, [some (.inr (.inr (some (10, 0)))), some (.inl x1), some (.inl (x2 + 1)), none], [], am_mk q40)) rfl ?_
        first | exact ih h | exact ih h hk | exact ih h hr | exact ih h hk hr
      · intro rr42 he
        subst he
        cases h
        exact hr _ rfl
set_option maxRecDepth 100000 in
theorem ex_X10_orders (d : Nat) (hd : 12 ≤ d)  (m : am_m) (t : Int32 × am_m) (h : fn_X10_orders  m = some t) : am_Ex am_cod d 289 [.inr (.inr (some (10, 0)))] (am_mk m) (some (.inl t.1)) (am_mk t.2) 0 0 := by
  obtain ⟨d, rfl⟩ : ∃ e, d = e + 1 := ⟨d - 1, by omega⟩
  have htb : am_tab 289 = at_289 := rfl
  refine ⟨Nat.le_of_ble_eq_true rfl, ?_⟩
  unfold fn_X10_orders at h
  show am_Go d 289 (0, [some (.inr (.inr (some (10, 0)))), none, none, none], [], am_mk m) _ _ 0 0
  refine am_Go.n htb 8 (S' := (12, [some (.inr (.inr (some (10, 0)))), none, none, none], [.inl 1, .inr (.inr (some (10, 0)))], am_mk (am_si (am_si m 10 0 0 0) 10 0 57 (-1)))) rfl ?_
  obtain ⟨r1, h2, h⟩ := am_bd h
  refine am_Go.cl htb rfl (ex_X10_beginText d (by omega) 1 (am_si (am_si m 10 0 0 0) 10 0 57 (-1)) r1 h2) ?_
  show am_Go d 289 (15, [some (.inr (.inr (some (10, 0)))), none, none, none], [], am_mk r1) _ _ _ _
  refine am_Go.n htb 1 (S' := (16, [some (.inr (.inr (some (10, 0)))), none, none, none], [.inr (.inr (some (10, 0)))], am_mk r1)) rfl ?_
  obtain ⟨r3, h4, h⟩ := am_bd h
  refine am_Go.cl htb rfl (ex_X10_readOrder d (by omega)  r1 r3 h4) ?_
  show am_Go d 289 (19, [some (.inr (.inr (some (10, 0)))), none, none, none], [], am_mk r3) _ _ _ _
  obtain ⟨q13, h14, h⟩ := am_bd h
  refine lt_X10_orders_19 _ hd (h := h14) (hk := ?_)
  refine am_Go.n htb 1 (S' := (47, [some (.inr (.inr (some (10, 0)))), none, none, none], [.inr (.inr (some (10, 0)))], am_mk q13)) rfl ?_
  obtain ⟨r15, h16, h⟩ := am_bd h
  refine am_Go.cl htb rfl (ex_X10_endText d (by omega)  q13 r15 h16) ?_
  show am_Go d 289 (50, [some (.inr (.inr (some (10, 0)))), none, none, none], [], am_mk r15) _ _ _ _
  refine am_Go.n htb 2 (S' := (54, [some (.inr (.inr (some (10, 0)))), none, none, none], [.inl (r15.1 10 0 19)], am_mk r15)) rfl ?_
  by_cases hc17 : (r15.1 10 0 19) = 0
  · rw [if_pos hc17] at h
    refine am_Go.c1 htb (S' := (64, [some (.inr (.inr (some (10, 0)))), none, none, none], [], am_mk r15)) (if_pos hc17) ?_
    refine am_Go.n htb 2 (S' := (67, [some (.inr (.inr (some (10, 0)))), none, none, none], [.inl 17, .inr (.inr (some (10, 0)))], am_mk r15)) rfl ?_
    obtain ⟨r18, h19, h⟩ := am_bd h
    refine am_Go.cl htb rfl (ex_X10_keepAll d (by omega) 17 r15 r18 h19) ?_
    show am_Go d 289 (70, [some (.inr (.inr (some (10, 0)))), none, none, none], [], am_mk r18) _ _ _ _
    refine am_Go.n htb 5 (S' := (77, [some (.inr (.inr (some (10, 0)))), some (.inl (r18.1 10 0 8)), some (.inl 0), none], [], am_mk r18)) rfl ?_
    obtain ⟨q23, h24, h⟩ := am_bd h
    refine lt_X10_orders_77 _ hd (h := h24) (hk := ?_)
    refine am_Go.n htb 2 (S' := (104, [some (.inr (.inr (some (10, 0)))), some (.inl (r18.1 10 0 8)), some (.inl 0), none], [], am_mk q23)) rfl ?_
    obtain ⟨q28, h29, h⟩ := am_bd h
    refine lt_X10_orders_104 _ hd (h := h29) (hk := ?_)
    refine am_Go.n htb 8 (S' := (140, [some (.inr (.inr (some (10, 0)))), some (.inl (r18.1 10 0 8)), some (.inl 0), none], [], am_mk (am_si (am_si q28 10 0 55 0) 10 0 56 (-1)))) rfl ?_
    obtain ⟨w49, h45, h⟩ := am_bd h
    refine lt_X10_orders_140 _ hd (h := h45) (hk := ?_) (hr := ?_)
    · intro q44 he
      subst he
      dsimp only at h
      refine am_Go.n htb 3 (S' := (211, [some (.inr (.inr (some (10, 0)))), some (.inl (r18.1 10 0 8)), none, none], [.inl (q44.1 10 0 55), .inr (.inr (some (10, 0)))], am_mk q44)) rfl ?_
      obtain ⟨r46, h47, h⟩ := am_bd h
      refine am_Go.cl htb rfl (ex_X10_tell d (by omega) (q44.1 10 0 55) q44 r46 h47) ?_
      show am_Go d 289 (214, [some (.inr (.inr (some (10, 0)))), some (.inl (r18.1 10 0 8)), none, none], [.inl r46.1], am_mk r46.2) _ _ _ _
      cases h
      exact am_Go.rt htb rfl
    · intro rr48 he
      subst he
      cases h
      exact ⟨rfl, rfl, rfl, rfl⟩
  · rw [if_neg hc17] at h
    refine am_Go.c1 htb (S' := (57, [some (.inr (.inr (some (10, 0)))), none, none, none], [], am_mk r15)) (if_neg hc17) ?_
    refine am_Go.n htb 2 (S' := (60, [some (.inr (.inr (some (10, 0)))), none, none, none], [.inl (-6), .inr (.inr (some (10, 0)))], am_mk r15)) rfl ?_
    obtain ⟨r50, h51, h⟩ := am_bd h
    refine am_Go.cl htb rfl (ex_X10_tell d (by omega) (-6) r15 r50 h51) ?_
    show am_Go d 289 (63, [some (.inr (.inr (some (10, 0)))), none, none, none], [.inl r50.1], am_mk r50.2) _ _ _ _
    cases h
    exact am_Go.rt htb rfl
-- X10_stopped
set_option maxRecDepth 100000 in
theorem ex_X10_stopped (d : Nat) (hd : 1 ≤ d)  (m : am_m) (t : Int32 × am_m) (h : fn_X10_stopped  m = some t) : am_Ex am_cod d 291 [.inr (.inr (some (10, 0)))] (am_mk m) (some (.inl t.1)) (am_mk t.2) 0 0 := by
  obtain ⟨d, rfl⟩ : ∃ e, d = e + 1 := ⟨d - 1, by omega⟩
  have htb : am_tab 291 = at_291 := rfl
  refine ⟨Nat.le_of_ble_eq_true rfl, ?_⟩
  unfold fn_X10_stopped at h
  show am_Go d 291 (0, [some (.inr (.inr (some (10, 0))))], [], am_mk m) _ _ 0 0
  refine am_Go.n htb 5 (S' := (9, [some (.inr (.inr (some (10, 0))))], [.inl (m.1 10 0 57)], am_mk (am_si m 10 0 0 0))) rfl ?_
  cases h
  exact am_Go.rt htb rfl
-- X10_draw
set_option maxRecDepth 100000 in
theorem ex_X10_draw (d : Nat) (hd : 1 ≤ d) (a1 : Int32) (m : am_m) (t : Int32 × am_m) (h : fn_X10_draw a1 m = some t) : am_Ex am_cod d 292 [.inr (.inr (some (10, 0))), .inl a1] (am_mk m) (some (.inl t.1)) (am_mk t.2) 0 0 := by
  obtain ⟨d, rfl⟩ : ∃ e, d = e + 1 := ⟨d - 1, by omega⟩
  have htb : am_tab 292 = at_292 := rfl
  refine ⟨Nat.le_of_ble_eq_true rfl, ?_⟩
  unfold fn_X10_draw at h
  show am_Go d 292 (0, [some (.inr (.inr (some (10, 0)))), some (.inl a1)], [], am_mk m) _ _ 0 0
  refine am_Go.n htb 8 (S' := (16, [some (.inr (.inr (some (10, 0)))), some (.inl a1)], [.inr (.inl 1000003), .inr (.inl (((m.2.1 10 0 59) * (1103 : Int64)) + (12345 : Int64))), .inr (.inr (some (10, 0)))], am_mk m)) rfl ?_
  refine am_Go.c1 htb (S' := (17, [some (.inr (.inr (some (10, 0)))), some (.inl a1)], [.inr (.inl ((((m.2.1 10 0 59) * (1103 : Int64)) + (12345 : Int64)) - (((m.2.1 10 0 59) * (1103 : Int64)) + (12345 : Int64)) / (1000003 : Int64) * (1000003 : Int64))), .inr (.inr (some (10, 0)))], am_mk m)) rfl ?_
  refine am_Go.n htb 5 (S' := (26, [some (.inr (.inr (some (10, 0)))), some (.inl a1)], [.inr (.inl a1.toInt64), .inr (.inl ((((m.2.1 10 0 59) * (1103 : Int64)) + (12345 : Int64)) - (((m.2.1 10 0 59) * (1103 : Int64)) + (12345 : Int64)) / (1000003 : Int64) * (1000003 : Int64)))], am_mk (am_sg m 10 0 59 ((((m.2.1 10 0 59) * (1103 : Int64)) + (12345 : Int64)) - (((m.2.1 10 0 59) * (1103 : Int64)) + (12345 : Int64)) / (1000003 : Int64) * (1000003 : Int64))))) rfl ?_
  obtain ⟨hz1, h⟩ := am_gd_some h
  refine am_Go.c1 htb (S' := (27, [some (.inr (.inr (some (10, 0)))), some (.inl a1)], [.inr (.inl (((((m.2.1 10 0 59) * (1103 : Int64)) + (12345 : Int64)) - (((m.2.1 10 0 59) * (1103 : Int64)) + (12345 : Int64)) / (1000003 : Int64) * (1000003 : Int64)) - ((((m.2.1 10 0 59) * (1103 : Int64)) + (12345 : Int64)) - (((m.2.1 10 0 59) * (1103 : Int64)) + (12345 : Int64)) / (1000003 : Int64) * (1000003 : Int64)) / a1.toInt64 * a1.toInt64))], am_mk (am_sg m 10 0 59 ((((m.2.1 10 0 59) * (1103 : Int64)) + (12345 : Int64)) - (((m.2.1 10 0 59) * (1103 : Int64)) + (12345 : Int64)) / (1000003 : Int64) * (1000003 : Int64))))) (if_neg hz1) ?_
  refine am_Go.n htb 1 (S' := (28, [some (.inr (.inr (some (10, 0)))), some (.inl a1)], [.inl ((((((m.2.1 10 0 59) * (1103 : Int64)) + (12345 : Int64)) - (((m.2.1 10 0 59) * (1103 : Int64)) + (12345 : Int64)) / (1000003 : Int64) * (1000003 : Int64)) - ((((m.2.1 10 0 59) * (1103 : Int64)) + (12345 : Int64)) - (((m.2.1 10 0 59) * (1103 : Int64)) + (12345 : Int64)) / (1000003 : Int64) * (1000003 : Int64)) / a1.toInt64 * a1.toInt64).toInt32)], am_mk (am_sg m 10 0 59 ((((m.2.1 10 0 59) * (1103 : Int64)) + (12345 : Int64)) - (((m.2.1 10 0 59) * (1103 : Int64)) + (12345 : Int64)) / (1000003 : Int64) * (1000003 : Int64))))) rfl ?_
  cases h
  exact am_Go.rt htb rfl
-- X10_seasons
set_option maxHeartbeats 10000000 in
set_option maxRecDepth 100000 in
theorem lt_X10_seasons_65 (d : Nat) (hd : 8 ≤ d + 1) {r : Option am_V} {M' : am_M} {kc ks : Nat} {n : Nat} {x2 : Int32} {x3 : Int32} {m : am_m} {t : am_m} (h : lp_X10_seasons_65 n x2 x3 m = some t) (hk : am_Go d 293 (222, [some (.inr (.inr (some (10, 0)))), none, some (.inl x2), none, none, none, none, none], [], am_mk t) r M' kc ks) : am_Go d 293 (65, [some (.inr (.inr (some (10, 0)))), none, some (.inl x2), some (.inl x3), none, none, none, none], [], am_mk m) r M' kc ks := by
  have htb : am_tab 293 = at_293 := rfl
  induction n generalizing x3 m with
  | zero => cases h
  | succ n ih =>
    unfold lp_X10_seasons_65 at h
    refine am_Go.n htb 2 (S' := (67, [some (.inr (.inr (some (10, 0)))), none, some (.inl x2), some (.inl x3), none, none, none, none], [.inl x2, .inl x3], am_mk m)) rfl ?_
    by_cases hc12 : x2 ≤ x3
    · rw [if_pos hc12] at h
      refine am_Go.c1 htb (S' := (222, [some (.inr (.inr (some (10, 0)))), none, some (.inl x2), some (.inl x3), none, none, none, none], [], am_mk m)) (if_pos hc12) ?_
      cases h
      exact am_Go.fg (by exact ⟨rfl, ⟨rfl, trivial⟩⟩) hk
    · rw [if_neg hc12] at h
      refine am_Go.c1 htb (S' := (70, [some (.inr (.inr (some (10, 0)))), none, some (.inl x2), some (.inl x3), none, none, none, none], [], am_mk m)) (if_neg hc12) ?_
      refine am_Go.n htb 5 (S' := (79, [some (.inr (.inr (some (10, 0)))), none, some (.inl x2), some (.inl x3), none, none, none, none], [.inl 999, .inl (m.1 44 0 4)], am_mk m)) rfl ?_
      by_cases hc13 : (999 : Int32) ≤ (m.1 44 0 4)
      · rw [if_pos hc13] at h
        refine am_Go.c1 htb (S' := (222, [some (.inr (.inr (some (10, 0)))), none, some (.inl x2), some (.inl x3), none, none, none, none], [], am_mk m)) (if_pos hc13) ?_
        cases h
        exact am_Go.fg (by exact ⟨rfl, ⟨rfl, trivial⟩⟩) hk
      · rw [if_neg hc13] at h
        refine am_Go.c1 htb (S' := (82, [some (.inr (.inr (some (10, 0)))), none, some (.inl x2), some (.inl x3), none, none, none, none], [], am_mk m)) (if_neg hc13) ?_
        refine am_Go.n htb 5 (S' := (89, [some (.inr (.inr (some (10, 0)))), none, some (.inl x2), some (.inl x3), none, none, none, none], [.inl (m.1 44 0 0), .inr (.inr (some (10, 0)))], am_mk m)) rfl ?_
        obtain ⟨r14, h15, h⟩ := am_bd h
        refine am_Go.cl htb rfl (ex_X10_draw d (by omega) (m.1 44 0 0) m r14 h15) ?_
        show am_Go d 293 (92, [some (.inr (.inr (some (10, 0)))), none, some (.inl x2), some (.inl x3), none, none, none, none], [.inl r14.1], am_mk r14.2) _ _ _ _
        refine am_Go.n htb 6 (S' := (101, [some (.inr (.inr (some (10, 0)))), none, some (.inl x2), some (.inl x3), some (.inl r14.1), none, none, none], [.inl (r14.2.1 44 0 0), .inr (.inr (some (10, 0)))], am_mk r14.2)) rfl ?_
        obtain ⟨r16, h17, h⟩ := am_bd h
        refine am_Go.cl htb rfl (ex_X10_draw d (by omega) (r14.2.1 44 0 0) r14.2 r16 h17) ?_
        show am_Go d 293 (104, [some (.inr (.inr (some (10, 0)))), none, some (.inl x2), some (.inl x3), some (.inl r14.1), none, none, none], [.inl r16.1], am_mk r16.2) _ _ _ _
        refine am_Go.n htb 3 (S' := (109, [some (.inr (.inr (some (10, 0)))), none, some (.inl x2), some (.inl x3), some (.inl r14.1), some (.inl r16.1), none, none], [.inl 9, .inr (.inr (some (10, 0)))], am_mk r16.2)) rfl ?_
        obtain ⟨r18, h19, h⟩ := am_bd h
        refine am_Go.cl htb rfl (ex_X10_draw d (by omega) 9 r16.2 r18 h19) ?_
        show am_Go d 293 (112, [some (.inr (.inr (some (10, 0)))), none, some (.inl x2), some (.inl x3), some (.inl r14.1), some (.inl r16.1), none, none], [.inl r18.1], am_mk r18.2) _ _ _ _
        refine am_Go.n htb 5 (S' := (118, [some (.inr (.inr (some (10, 0)))), none, some (.inl x2), some (.inl x3), some (.inl r14.1), some (.inl r16.1), some (.inl (r18.1 + (1 : Int32))), none], [.inl 4, .inr (.inr (some (10, 0)))], am_mk r18.2)) rfl ?_
        obtain ⟨r20, h21, h⟩ := am_bd h
        refine am_Go.cl htb rfl (ex_X10_draw d (by omega) 4 r18.2 r20 h21) ?_
        show am_Go d 293 (121, [some (.inr (.inr (some (10, 0)))), none, some (.inl x2), some (.inl x3), some (.inl r14.1), some (.inl r16.1), some (.inl (r18.1 + (1 : Int32))), none], [.inl r20.1], am_mk r20.2) _ _ _ _
        refine am_Go.n htb 3 (S' := (127, [some (.inr (.inr (some (10, 0)))), none, some (.inl x2), some (.inl x3), some (.inl r14.1), some (.inl r16.1), some (.inl (r18.1 + (1 : Int32))), some (.inl r20.1)], [.inl r16.1, .inl r14.1], am_mk r20.2)) rfl ?_
        obtain ⟨q41, h44, h⟩ := am_bd h
        refine am_Go.cut (S := (212, [some (.inr (.inr (some (10, 0)))), none, some (.inl x2), some (.inl x3), some (.inl r14.1), some (.inl r16.1), some (.inl (r18.1 + (1 : Int32))), some (.inl r20.1)], [], am_mk q41)) ?_ (fun key => ?_)
        · refine am_Go.n htb 1 (S' := (213, [some (.inr (.inr (some (10, 0)))), none, some (.inl x2), some (.inl x3), some (.inl r14.1), some (.inl r16.1), some (.inl (r18.1 + (1 : Int32))), some (.inl r20.1)], [.inr (.inr (some (10, 0)))], am_mk q41)) rfl ?_
          obtain ⟨r42, h43, h⟩ := am_bd h
          refine am_Go.cl htb rfl (ex_X10_passIt d (by omega)  q41 r42 h43) ?_
          show am_Go d 293 (216, [some (.inr (.inr (some (10, 0)))), none, some (.inl x2), some (.inl x3), some (.inl r14.1), some (.inl r16.1), some (.inl (r18.1 + (1 : Int32))), some (.inl r20.1)], [], am_mk r42) _ _ _ _
          refine am_Go.n htb 2 (S' := (65, [some (.inr (.inr (some (10, 0)))), none, some (.inl x2), some (.inl (x3 + 1)), some (.inl r14.1), some (.inl r16.1), some (.inl (r18.1 + (1 : Int32))), some (.inl r20.1)], [], am_mk r42)) rfl ?_
          refine am_Go.fg (L0 := [some (.inr (.inr (some (10, 0)))), none, some (.inl x2), some (.inl (x3 + 1)), none, none, none, none]) (by exact ⟨rfl, ⟨rfl, ⟨rfl, trivial⟩⟩⟩) ?_
          first | exact ih h | exact ih h hk
        · have h := h44
          by_cases hc22 : r14.1 = r16.1
          · rw [if_pos hc22] at h
            refine am_Go.c1 htb (S' := (212, [some (.inr (.inr (some (10, 0)))), none, some (.inl x2), some (.inl x3), some (.inl r14.1), some (.inl r16.1), some (.inl (r18.1 + (1 : Int32))), some (.inl r20.1)], [], am_mk r20.2)) (if_pos hc22) ?_
            cases h
            exact am_Go.fg (by exact ⟨rfl, ⟨rfl, ⟨rfl, ⟨rfl, ⟨rfl, ⟨rfl, ⟨rfl, trivial⟩⟩⟩⟩⟩⟩⟩) key
          · rw [if_neg hc22] at h
            refine am_Go.c1 htb (S' := (130, [some (.inr (.inr (some (10, 0)))), none, some (.inl x2), some (.inl x3), some (.inl r14.1), some (.inl r16.1), some (.inl (r18.1 + (1 : Int32))), some (.inl r20.1)], [], am_mk r20.2)) (if_neg hc22) ?_
            refine am_Go.n htb 2 (S' := (133, [some (.inr (.inr (some (10, 0)))), none, some (.inl x2), some (.inl x3), some (.inl r14.1), some (.inl r16.1), some (.inl (r18.1 + (1 : Int32))), some (.inl r20.1)], [.inl 2, .inl r20.1], am_mk r20.2)) rfl ?_
            obtain ⟨q29, h40, h⟩ := am_bd h
            refine am_Go.cut (S := (159, [some (.inr (.inr (some (10, 0)))), none, some (.inl x2), some (.inl x3), some (.inl r14.1), some (.inl r16.1), some (.inl (r18.1 + (1 : Int32))), some (.inl r20.1)], [], am_mk q29)) ?_ (fun key => ?_)
            · refine am_Go.n htb 2 (S' := (162, [some (.inr (.inr (some (10, 0)))), none, some (.inl x2), some (.inl x3), some (.inl r14.1), some (.inl r16.1), some (.inl (r18.1 + (1 : Int32))), some (.inl r20.1)], [.inl 2, .inl r20.1], am_mk q29)) rfl ?_
              obtain ⟨q36, h39, h⟩ := am_bd h
              refine am_Go.cut (S := (189, [some (.inr (.inr (some (10, 0)))), none, some (.inl x2), some (.inl x3), some (.inl r14.1), some (.inl r16.1), some (.inl (r18.1 + (1 : Int32))), some (.inl r20.1)], [], am_mk q36)) ?_ (fun key => ?_)
              · refine am_Go.n htb 2 (S' := (192, [some (.inr (.inr (some (10, 0)))), none, some (.inl x2), some (.inl x3), some (.inl r14.1), some (.inl r16.1), some (.inl (r18.1 + (1 : Int32))), some (.inl r20.1)], [.inl 3, .inl r20.1], am_mk q36)) rfl ?_
                by_cases hc37 : r20.1 ≠ (3 : Int32)
                · rw [if_pos hc37] at h
                  refine am_Go.c1 htb (S' := (212, [some (.inr (.inr (some (10, 0)))), none, some (.inl x2), some (.inl x3), some (.inl r14.1), some (.inl r16.1), some (.inl (r18.1 + (1 : Int32))), some (.inl r20.1)], [], am_mk q36)) (if_pos hc37) ?_
                  cases h
                  exact am_Go.fg (by exact ⟨rfl, ⟨rfl, ⟨rfl, ⟨rfl, ⟨rfl, ⟨rfl, ⟨rfl, trivial⟩⟩⟩⟩⟩⟩⟩) key
                · rw [if_neg hc37] at h
                  refine am_Go.c1 htb (S' := (195, [some (.inr (.inr (some (10, 0)))), none, some (.inl x2), some (.inl x3), some (.inl r14.1), some (.inl r16.1), some (.inl (r18.1 + (1 : Int32))), some (.inl r20.1)], [], am_mk q36)) (if_neg hc37) ?_
                  refine am_Go.n htb 10 (S' := (211, [some (.inr (.inr (some (10, 0)))), none, some (.inl x2), some (.inl x3), some (.inl r14.1), some (.inl r16.1), some (.inl (r18.1 + (1 : Int32))), some (.inl r20.1)], [.inl 0, .inl (((14 : Int32) + ((7 : Int32) * r14.1)) + r16.1), .inr (.inr (some (44, 0)))], am_mk q36)) rfl ?_
                  obtain ⟨hg38, h⟩ := am_ck_some h
                  refine am_Go.c1 htb (S' := (212, [some (.inr (.inr (some (10, 0)))), none, some (.inl x2), some (.inl x3), some (.inl r14.1), some (.inl r16.1), some (.inl (r18.1 + (1 : Int32))), some (.inl r20.1)], [], am_mk (am_si q36 44 0 (((14 : Int32) + ((7 : Int32) * r14.1)) + r16.1).toNatClampNeg 0))) (if_neg hg38) ?_
                  cases h
                  exact am_Go.fg (by exact ⟨rfl, ⟨rfl, ⟨rfl, ⟨rfl, ⟨rfl, ⟨rfl, ⟨rfl, trivial⟩⟩⟩⟩⟩⟩⟩) key
              · have h := h39
                by_cases hc30 : r20.1 ≠ (2 : Int32)
                · rw [if_pos hc30] at h
                  refine am_Go.c1 htb (S' := (189, [some (.inr (.inr (some (10, 0)))), none, some (.inl x2), some (.inl x3), some (.inl r14.1), some (.inl r16.1), some (.inl (r18.1 + (1 : Int32))), some (.inl r20.1)], [], am_mk q29)) (if_pos hc30) ?_
                  cases h
                  exact am_Go.fg (by exact ⟨rfl, ⟨rfl, ⟨rfl, ⟨rfl, ⟨rfl, ⟨rfl, ⟨rfl, trivial⟩⟩⟩⟩⟩⟩⟩) key
                · rw [if_neg hc30] at h
                  refine am_Go.c1 htb (S' := (165, [some (.inr (.inr (some (10, 0)))), none, some (.inl x2), some (.inl x3), some (.inl r14.1), some (.inl r16.1), some (.inl (r18.1 + (1 : Int32))), some (.inl r20.1)], [], am_mk q29)) (if_neg hc30) ?_
                  refine am_Go.n htb 3 (S' := (170, [some (.inr (.inr (some (10, 0)))), none, some (.inl x2), some (.inl x3), some (.inl r14.1), some (.inl r16.1), some (.inl (r18.1 + (1 : Int32))), some (.inl r20.1)], [.inl r16.1, .inl r14.1, .inr (.inr (some (10, 0)))], am_mk q29)) rfl ?_
                  obtain ⟨r31, h32, h⟩ := am_bd h
                  refine am_Go.cl htb rfl (ex_X10_maySit d (by omega) r14.1 r16.1 q29 r31 h32) ?_
                  show am_Go d 293 (173, [some (.inr (.inr (some (10, 0)))), none, some (.inl x2), some (.inl x3), some (.inl r14.1), some (.inl r16.1), some (.inl (r18.1 + (1 : Int32))), some (.inl r20.1)], [.inl r31.1], am_mk r31.2) _ _ _ _
                  by_cases hc33 : r31.1 = 0
                  · rw [if_pos hc33] at h
                    refine am_Go.c1 htb (S' := (189, [some (.inr (.inr (some (10, 0)))), none, some (.inl x2), some (.inl x3), some (.inl r14.1), some (.inl r16.1), some (.inl (r18.1 + (1 : Int32))), some (.inl r20.1)], [], am_mk r31.2)) (if_pos hc33) ?_
                    cases h
                    exact am_Go.fg (by exact ⟨rfl, ⟨rfl, ⟨rfl, ⟨rfl, ⟨rfl, ⟨rfl, ⟨rfl, trivial⟩⟩⟩⟩⟩⟩⟩) key
                  · rw [if_neg hc33] at h
                    refine am_Go.c1 htb (S' := (176, [some (.inr (.inr (some (10, 0)))), none, some (.inl x2), some (.inl x3), some (.inl r14.1), some (.inl r16.1), some (.inl (r18.1 + (1 : Int32))), some (.inl r20.1)], [], am_mk r31.2)) (if_neg hc33) ?_
                    refine am_Go.n htb 8 (S' := (186, [some (.inr (.inr (some (10, 0)))), none, some (.inl x2), some (.inl x3), some (.inl r14.1), some (.inl r16.1), some (.inl (r18.1 + (1 : Int32))), some (.inl r20.1)], [.inl (((1 : Int32) <<< (r14.1 &&& 31)) ||| ((1 : Int32) <<< (r16.1 &&& 31))), .inr (.inr (some (10, 0)))], am_mk r31.2)) rfl ?_
                    obtain ⟨r34, h35, h⟩ := am_bd h
                    refine am_Go.cl htb rfl (ex_X10_feastIt d (by omega) (((1 : Int32) <<< (r14.1 &&& 31)) ||| ((1 : Int32) <<< (r16.1 &&& 31))) r31.2 r34 h35) ?_
                    show am_Go d 293 (189, [some (.inr (.inr (some (10, 0)))), none, some (.inl x2), some (.inl x3), some (.inl r14.1), some (.inl r16.1), some (.inl (r18.1 + (1 : Int32))), some (.inl r20.1)], [], am_mk r34) _ _ _ _
                    cases h
                    exact am_Go.fg (by exact ⟨rfl, ⟨rfl, ⟨rfl, ⟨rfl, ⟨rfl, ⟨rfl, ⟨rfl, trivial⟩⟩⟩⟩⟩⟩⟩) key
            · have h := h40
              by_cases hc23 : (2 : Int32) ≤ r20.1
              · rw [if_pos hc23] at h
                refine am_Go.c1 htb (S' := (159, [some (.inr (.inr (some (10, 0)))), none, some (.inl x2), some (.inl x3), some (.inl r14.1), some (.inl r16.1), some (.inl (r18.1 + (1 : Int32))), some (.inl r20.1)], [], am_mk r20.2)) (if_pos hc23) ?_
                cases h
                exact am_Go.fg (by exact ⟨rfl, ⟨rfl, ⟨rfl, ⟨rfl, ⟨rfl, ⟨rfl, ⟨rfl, trivial⟩⟩⟩⟩⟩⟩⟩) key
              · rw [if_neg hc23] at h
                refine am_Go.c1 htb (S' := (136, [some (.inr (.inr (some (10, 0)))), none, some (.inl x2), some (.inl x3), some (.inl r14.1), some (.inl r16.1), some (.inl (r18.1 + (1 : Int32))), some (.inl r20.1)], [], am_mk r20.2)) (if_neg hc23) ?_
                refine am_Go.n htb 3 (S' := (141, [some (.inr (.inr (some (10, 0)))), none, some (.inl x2), some (.inl x3), some (.inl r14.1), some (.inl r16.1), some (.inl (r18.1 + (1 : Int32))), some (.inl r20.1)], [.inl r16.1, .inl r14.1, .inr (.inr (some (10, 0)))], am_mk r20.2)) rfl ?_
                obtain ⟨r24, h25, h⟩ := am_bd h
                refine am_Go.cl htb rfl (ex_X10_weightOf d (by omega) r14.1 r16.1 r20.2 r24 h25) ?_
                show am_Go d 293 (144, [some (.inr (.inr (some (10, 0)))), none, some (.inl x2), some (.inl x3), some (.inl r14.1), some (.inl r16.1), some (.inl (r18.1 + (1 : Int32))), some (.inl r20.1)], [.inl r24], am_mk r20.2) _ _ _ _
                refine am_Go.n htb 1 (S' := (146, [some (.inr (.inr (some (10, 0)))), none, some (.inl x2), some (.inl x3), some (.inl r14.1), some (.inl r16.1), some (.inl (r18.1 + (1 : Int32))), some (.inl r20.1)], [.inl (r18.1 + (1 : Int32)), .inl r24], am_mk r20.2)) rfl ?_
                by_cases hc26 : r24 = (r18.1 + (1 : Int32))
                · rw [if_pos hc26] at h
                  refine am_Go.c1 htb (S' := (159, [some (.inr (.inr (some (10, 0)))), none, some (.inl x2), some (.inl x3), some (.inl r14.1), some (.inl r16.1), some (.inl (r18.1 + (1 : Int32))), some (.inl r20.1)], [], am_mk r20.2)) (if_pos hc26) ?_
                  cases h
                  exact am_Go.fg (by exact ⟨rfl, ⟨rfl, ⟨rfl, ⟨rfl, ⟨rfl, ⟨rfl, ⟨rfl, trivial⟩⟩⟩⟩⟩⟩⟩) key
                · rw [if_neg hc26] at h
                  refine am_Go.c1 htb (S' := (149, [some (.inr (.inr (some (10, 0)))), none, some (.inl x2), some (.inl x3), some (.inl r14.1), some (.inl r16.1), some (.inl (r18.1 + (1 : Int32))), some (.inl r20.1)], [], am_mk r20.2)) (if_neg hc26) ?_
                  refine am_Go.n htb 4 (S' := (156, [some (.inr (.inr (some (10, 0)))), none, some (.inl x2), some (.inl x3), some (.inl r14.1), some (.inl r16.1), some (.inl (r18.1 + (1 : Int32))), some (.inl r20.1)], [.inl (r18.1 + (1 : Int32)), .inl r16.1, .inl r14.1, .inr (.inr (some (10, 0)))], am_mk r20.2)) rfl ?_
                  obtain ⟨r27, h28, h⟩ := am_bd h
                  refine am_Go.cl htb rfl (ex_X10_setHarm d (by omega) r14.1 r16.1 (r18.1 + (1 : Int32)) r20.2 r27 h28) ?_
                  show am_Go d 293 (159, [some (.inr (.inr (some (10, 0)))), none, some (.inl x2), some (.inl x3), some (.inl r14.1), some (.inl r16.1), some (.inl (r18.1 + (1 : Int32))), some (.inl r20.1)], [], am_mk r27) _ _ _ _
                  cases h
                  exact am_Go.fg (by exact ⟨rfl, ⟨rfl, ⟨rfl, ⟨rfl, ⟨rfl, ⟨rfl, ⟨rfl, trivial⟩⟩⟩⟩⟩⟩⟩) key
set_option maxRecDepth 100000 in
theorem lt_X10_seasons_224 (d : Nat) (hd : 8 ≤ d + 1) {r : Option am_V} {M' : am_M} {kc ks : Nat} {n : Nat} {x3 : Int32} {m : am_m} {t : am_m} (h : lp_X10_seasons_224 n x3 m = some t) (hk : am_Go d 293 (250, [some (.inr (.inr (some (10, 0)))), none, none, none, none, none, none, none], [], am_mk t) r M' kc ks) : am_Go d 293 (224, [some (.inr (.inr (some (10, 0)))), none, none, some (.inl x3), none, none, none, none], [], am_mk m) r M' kc ks := by
  have htb : am_tab 293 = at_293 := rfl
  induction n generalizing x3 m with
  | zero => cases h
  | succ n ih =>
    unfold lp_X10_seasons_224 at h
    refine am_Go.n htb 2 (S' := (227, [some (.inr (.inr (some (10, 0)))), none, none, some (.inl x3), none, none, none, none], [.inl 108, .inl x3], am_mk m)) rfl ?_
    by_cases hc47 : (108 : Int32) ≤ x3
    · rw [if_pos hc47] at h
      refine am_Go.c1 htb (S' := (250, [some (.inr (.inr (some (10, 0)))), none, none, some (.inl x3), none, none, none, none], [], am_mk m)) (if_pos hc47) ?_
      cases h
      exact am_Go.fg (by exact ⟨rfl, trivial⟩) hk
    · rw [if_neg hc47] at h
      refine am_Go.c1 htb (S' := (230, [some (.inr (.inr (some (10, 0)))), none, none, some (.inl x3), none, none, none, none], [], am_mk m)) (if_neg hc47) ?_
      refine am_Go.n htb 8 (S' := (242, [some (.inr (.inr (some (10, 0)))), none, none, some (.inl x3), none, none, none, none], [.inl ((4 : Int32) + x3), .inr (.inr (some (44, 0))), .inl x3, .inr (.inr (some (63, 0)))], am_mk m)) rfl ?_
      obtain ⟨hg48, h⟩ := am_ck_some h
      refine am_Go.c1 htb (S' := (243, [some (.inr (.inr (some (10, 0)))), none, none, some (.inl x3), none, none, none, none], [.inl (m.1 44 0 ((4 : Int32) + x3).toNatClampNeg), .inl x3, .inr (.inr (some (63, 0)))], am_mk m)) (if_neg hg48) ?_
      obtain ⟨hg49, h⟩ := am_ck_some h
      refine am_Go.c1 htb (S' := (244, [some (.inr (.inr (some (10, 0)))), none, none, some (.inl x3), none, none, none, none], [], am_mk (am_si m 63 0 x3.toNatClampNeg (m.1 44 0 ((4 : Int32) + x3).toNatClampNeg)))) (if_neg hg49) ?_
      refine am_Go.n htb 2 (S' := (224, [some (.inr (.inr (some (10, 0)))), none, none, some (.inl (x3 + 1)), none, none, none, none], [], am_mk (am_si m 63 0 x3.toNatClampNeg (m.1 44 0 ((4 : Int32) + x3).toNatClampNeg)))) rfl ?_
      first | exact ih h | exact ih h hk
set_option maxRecDepth 100000 in
theorem ex_X10_seasons (d : Nat) (hd : 8 ≤ d) (a1 : Int32) (a2 : Int32) (m : am_m) (t : Int32 × am_m) (h : fn_X10_seasons a1 a2 m = some t) : am_Ex am_cod d 293 [.inr (.inr (some (10, 0))), .inl a1, .inl a2] (am_mk m) (some (.inl t.1)) (am_mk t.2) 0 0 := by
  obtain ⟨d, rfl⟩ : ∃ e, d = e + 1 := ⟨d - 1, by omega⟩
  have htb : am_tab 293 = at_293 := rfl
  refine ⟨Nat.le_of_ble_eq_true rfl, ?_⟩
  unfold fn_X10_seasons at h
  show am_Go d 293 (0, [some (.inr (.inr (some (10, 0)))), some (.inl a1), some (.inl a2), none, none, none, none, none], [], am_mk m) _ _ 0 0
  refine am_Go.n htb 7 (S' := (11, [some (.inr (.inr (some (10, 0)))), some (.inl a1), some (.inl a2), none, none, none, none, none], [.inr (.inl 1000000), .inr (.inl 0), .inr (.inl a1.toInt64)], am_mk (am_si m 10 0 0 0))) rfl ?_
  obtain ⟨r1, h2, h⟩ := am_bd h
  refine am_Go.cl htb rfl (ex_X10_in d (by omega) a1.toInt64 0 1000000 (am_si m 10 0 0 0) r1 h2) ?_
  show am_Go d 293 (14, [some (.inr (.inr (some (10, 0)))), some (.inl a1), some (.inl a2), none, none, none, none, none], [.inl r1], am_mk (am_si m 10 0 0 0)) _ _ _ _
  by_cases hc3 : r1 = 0
  · rw [if_pos hc3] at h
    refine am_Go.c1 htb (S' := (29, [some (.inr (.inr (some (10, 0)))), some (.inl a1), some (.inl a2), none, none, none, none, none], [], am_mk (am_si m 10 0 0 0))) (if_pos hc3) ?_
    refine am_Go.n htb 2 (S' := (31, [some (.inr (.inr (some (10, 0)))), some (.inl a1), some (.inl a2), none, none, none, none, none], [.inl (-1), .inr (.inr (some (10, 0)))], am_mk (am_si m 10 0 0 0))) rfl ?_
    obtain ⟨r4, h5, h⟩ := am_bd h
    refine am_Go.cl htb rfl (ex_X10_tell d (by omega) (-1) (am_si m 10 0 0 0) r4 h5) ?_
    show am_Go d 293 (34, [some (.inr (.inr (some (10, 0)))), some (.inl a1), some (.inl a2), none, none, none, none, none], [.inl r4.1], am_mk r4.2) _ _ _ _
    cases h
    exact am_Go.rt htb rfl
  · rw [if_neg hc3] at h
    refine am_Go.c1 htb (S' := (17, [some (.inr (.inr (some (10, 0)))), some (.inl a1), some (.inl a2), none, none, none, none, none], [], am_mk (am_si m 10 0 0 0))) (if_neg hc3) ?_
    refine am_Go.n htb 4 (S' := (23, [some (.inr (.inr (some (10, 0)))), some (.inl a1), some (.inl a2), none, none, none, none, none], [.inr (.inl 60), .inr (.inl 1), .inr (.inl a2.toInt64)], am_mk (am_si m 10 0 0 0))) rfl ?_
    obtain ⟨r6, h7, h⟩ := am_bd h
    refine am_Go.cl htb rfl (ex_X10_in d (by omega) a2.toInt64 1 60 (am_si m 10 0 0 0) r6 h7) ?_
    show am_Go d 293 (26, [some (.inr (.inr (some (10, 0)))), some (.inl a1), some (.inl a2), none, none, none, none, none], [.inl r6], am_mk (am_si m 10 0 0 0)) _ _ _ _
    by_cases hc8 : r6 ≠ 0
    · rw [if_pos hc8] at h
      refine am_Go.c1 htb (S' := (35, [some (.inr (.inr (some (10, 0)))), some (.inl a1), some (.inl a2), none, none, none, none, none], [], am_mk (am_si m 10 0 0 0))) (if_pos hc8) ?_
      refine am_Go.n htb 4 (S' := (41, [some (.inr (.inr (some (10, 0)))), some (.inl a1), some (.inl a2), none, none, none, none, none], [.inl (m.1 44 0 0)], am_mk (am_si m 10 0 0 0))) rfl ?_
      by_cases hc9 : (m.1 44 0 0) ≠ 0
      · rw [if_pos hc9] at h
        refine am_Go.c1 htb (S' := (51, [some (.inr (.inr (some (10, 0)))), some (.inl a1), some (.inl a2), none, none, none, none, none], [], am_mk (am_si m 10 0 0 0))) (if_pos hc9) ?_
        refine am_Go.n htb 2 (S' := (54, [some (.inr (.inr (some (10, 0)))), some (.inl a1), some (.inl a2), none, none, none, none, none], [.inl 16, .inr (.inr (some (10, 0)))], am_mk (am_si m 10 0 0 0))) rfl ?_
        obtain ⟨r10, h11, h⟩ := am_bd h
        refine am_Go.cl htb rfl (ex_X10_keepAll d (by omega) 16 (am_si m 10 0 0 0) r10 h11) ?_
        show am_Go d 293 (57, [some (.inr (.inr (some (10, 0)))), some (.inl a1), some (.inl a2), none, none, none, none, none], [], am_mk r10) _ _ _ _
        refine am_Go.n htb 6 (S' := (65, [some (.inr (.inr (some (10, 0)))), some (.inl a1), some (.inl a2), some (.inl 0), none, none, none, none], [], am_mk (am_sg r10 10 0 59 a1.toInt64))) rfl ?_
        refine am_Go.fg (L0 := [some (.inr (.inr (some (10, 0)))), none, some (.inl a2), some (.inl 0), none, none, none, none]) (by exact ⟨rfl, ⟨rfl, ⟨rfl, trivial⟩⟩⟩) ?_
        obtain ⟨q45, h46, h⟩ := am_bd h
        refine lt_X10_seasons_65 _ hd (h := h46) (hk := ?_)
        refine am_Go.n htb 2 (S' := (224, [some (.inr (.inr (some (10, 0)))), none, some (.inl a2), some (.inl 0), none, none, none, none], [], am_mk q45)) rfl ?_
        refine am_Go.fg (L0 := [some (.inr (.inr (some (10, 0)))), none, none, some (.inl 0), none, none, none, none]) (by exact ⟨rfl, ⟨rfl, trivial⟩⟩) ?_
        obtain ⟨q50, h51, h⟩ := am_bd h
        refine lt_X10_seasons_224 _ hd (h := h51) (hk := ?_)
        refine am_Go.n htb 7 (S' := (261, [some (.inr (.inr (some (10, 0)))), none, none, none, none, none, none, none], [.inr (.inr (some (10, 0)))], am_mk (am_si q50 10 0 61 (q50.1 44 0 0)))) rfl ?_
        obtain ⟨r52, h53, h⟩ := am_bd h
        refine am_Go.cl htb rfl (ex_X10_starving d (by omega)  (am_si q50 10 0 61 (q50.1 44 0 0)) r52 h53) ?_
        show am_Go d 293 (264, [some (.inr (.inr (some (10, 0)))), none, none, none, none, none, none, none], [.inl r52], am_mk (am_si q50 10 0 61 (q50.1 44 0 0))) _ _ _ _
        refine am_Go.n htb 3 (S' := (268, [some (.inr (.inr (some (10, 0)))), none, none, some (.inl r52), none, none, none, none], [.inl 16, .inr (.inr (some (10, 0)))], am_mk (am_si q50 10 0 61 (q50.1 44 0 0)))) rfl ?_
        obtain ⟨r54, h55, h⟩ := am_bd h
        refine am_Go.cl htb rfl (ex_X10_putBack d (by omega) 16 (am_si q50 10 0 61 (q50.1 44 0 0)) r54 h55) ?_
        show am_Go d 293 (271, [some (.inr (.inr (some (10, 0)))), none, none, some (.inl r52), none, none, none, none], [], am_mk r54) _ _ _ _
        refine am_Go.n htb 2 (S' := (273, [some (.inr (.inr (some (10, 0)))), none, none, some (.inl r52), none, none, none, none], [.inl r52, .inr (.inr (some (10, 0)))], am_mk r54)) rfl ?_
        obtain ⟨r56, h57, h⟩ := am_bd h
        refine am_Go.cl htb rfl (ex_X10_tell d (by omega) r52 r54 r56 h57) ?_
        show am_Go d 293 (276, [some (.inr (.inr (some (10, 0)))), none, none, some (.inl r52), none, none, none, none], [.inl r56.1], am_mk r56.2) _ _ _ _
        cases h
        exact am_Go.rt htb rfl
      · rw [if_neg hc9] at h
        refine am_Go.c1 htb (S' := (44, [some (.inr (.inr (some (10, 0)))), some (.inl a1), some (.inl a2), none, none, none, none, none], [], am_mk (am_si m 10 0 0 0))) (if_neg hc9) ?_
        refine am_Go.n htb 2 (S' := (47, [some (.inr (.inr (some (10, 0)))), some (.inl a1), some (.inl a2), none, none, none, none, none], [.inl (-3), .inr (.inr (some (10, 0)))], am_mk (am_si m 10 0 0 0))) rfl ?_
        obtain ⟨r58, h59, h⟩ := am_bd h
        refine am_Go.cl htb rfl (ex_X10_tell d (by omega) (-3) (am_si m 10 0 0 0) r58 h59) ?_
        show am_Go d 293 (50, [some (.inr (.inr (some (10, 0)))), some (.inl a1), some (.inl a2), none, none, none, none, none], [.inl r58.1], am_mk r58.2) _ _ _ _
        cases h
        exact am_Go.rt htb rfl
    · rw [if_neg hc8] at h
      refine am_Go.c1 htb (S' := (29, [some (.inr (.inr (some (10, 0)))), some (.inl a1), some (.inl a2), none, none, none, none, none], [], am_mk (am_si m 10 0 0 0))) (if_neg hc8) ?_
      refine am_Go.n htb 2 (S' := (31, [some (.inr (.inr (some (10, 0)))), some (.inl a1), some (.inl a2), none, none, none, none, none], [.inl (-1), .inr (.inr (some (10, 0)))], am_mk (am_si m 10 0 0 0))) rfl ?_
      obtain ⟨r60, h61, h⟩ := am_bd h
      refine am_Go.cl htb rfl (ex_X10_tell d (by omega) (-1) (am_si m 10 0 0 0) r60 h61) ?_
      show am_Go d 293 (34, [some (.inr (.inr (some (10, 0)))), some (.inl a1), some (.inl a2), none, none, none, none, none], [.inl r60.1], am_mk r60.2) _ _ _ _
      cases h
      exact am_Go.rt htb rfl
