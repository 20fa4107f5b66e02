-- X10_lasts
def lp_X10_lasts_23 : Nat → Int32 → Int32 → am_m → Option (Int32 × am_m)
  | 0, _, _, _ => none
  | n + 1, x1, x2, m =>
  (if (100 : Int32) < x2 then some (x2, m) else am_ck ((7 : Int32) + x1) 5518 ((if (m.1 44 0 ((7 : Int32) + x1).toNatClampNeg) ≤ 0 then some (x2, m) else (fn_X10_passIt  m).bind fun r9 => lp_X10_lasts_23 n x1 (x2 + 1) r9)))
set_option maxRecDepth 100000 in
theorem lt_X10_lasts_23 (d : Nat) (hd : 8 ≤ d + 1) {r : Option am_V} {M' : am_M} {kc ks : Nat} {n : Nat} {x1 : Int32} {x2 : Int32} {m : am_m} {t : Int32 × am_m} (h : lp_X10_lasts_23 n x1 x2 m = some t) (hk : am_Go d 279 (51, [some (.inr (.inr (some (10, 0)))), some (.inl x1), some (.inl t.1)], [], am_mk t.2) r M' kc ks) : am_Go d 279 (23, [some (.inr (.inr (some (10, 0)))), some (.inl x1), some (.inl x2)], [], am_mk m) r M' kc ks := by
  have htb : am_tab 279 = at_279 := rfl
  induction n generalizing x2 m with
  | zero => cases h
  | succ n ih =>
    unfold lp_X10_lasts_23 at h
    refine am_Go.n htb 2 (S' := (26, [some (.inr (.inr (some (10, 0)))), some (.inl x1), some (.inl x2)], [.inl 100, .inl x2], am_mk m)) rfl ?_
    by_cases hc6 : (100 : Int32) < x2
    · rw [if_pos hc6] at h
      refine am_Go.c1 htb (S' := (51, [some (.inr (.inr (some (10, 0)))), some (.inl x1), some (.inl x2)], [], am_mk m)) (if_pos hc6) ?_
      cases h
      exact am_Go.fg (by exact ⟨rfl, ⟨rfl, ⟨rfl, trivial⟩⟩⟩) hk
    · rw [if_neg hc6] at h
      refine am_Go.c1 htb (S' := (29, [some (.inr (.inr (some (10, 0)))), some (.inl x1), some (.inl x2)], [], am_mk m)) (if_neg hc6) ?_
      refine am_Go.n htb 5 (S' := (37, [some (.inr (.inr (some (10, 0)))), some (.inl x1), some (.inl x2)], [.inl ((7 : Int32) + x1), .inr (.inr (some (44, 0)))], am_mk m)) rfl ?_
      obtain ⟨hg7, h⟩ := am_ck_some h
      refine am_Go.c1 htb (S' := (38, [some (.inr (.inr (some (10, 0)))), some (.inl x1), some (.inl x2)], [.inl (m.1 44 0 ((7 : Int32) + x1).toNatClampNeg)], am_mk m)) (if_neg hg7) ?_
      by_cases hc8 : (m.1 44 0 ((7 : Int32) + x1).toNatClampNeg) ≤ 0
      · rw [if_pos hc8] at h
        refine am_Go.c1 htb (S' := (51, [some (.inr (.inr (some (10, 0)))), some (.inl x1), some (.inl x2)], [], am_mk m)) (if_pos hc8) ?_
        cases h
        exact am_Go.fg (by exact ⟨rfl, ⟨rfl, ⟨rfl, trivial⟩⟩⟩) hk
      · rw [if_neg hc8] at h
        refine am_Go.c1 htb (S' := (41, [some (.inr (.inr (some (10, 0)))), some (.inl x1), some (.inl x2)], [], am_mk m)) (if_neg hc8) ?_
        refine am_Go.n htb 1 (S' := (42, [some (.inr (.inr (some (10, 0)))), some (.inl x1), some (.inl x2)], [.inr (.inr (some (10, 0)))], am_mk m)) rfl ?_
        obtain ⟨r9, h10, h⟩ := am_bd h
        refine am_Go.cl htb rfl (ex_X10_passIt d (by omega)  m r9 h10) ?_
        show am_Go d 279 (45, [some (.inr (.inr (some (10, 0)))), some (.inl x1), some (.inl x2)], [], am_mk r9) _ _ _ _
        refine am_Go.n htb 2 (S' := (23, [some (.inr (.inr (some (10, 0)))), some (.inl x1), some (.inl (x2 + 1))], [], am_mk r9)) rfl ?_
        first | exact ih h | exact ih h hk
def fn_X10_lasts (a1 : Int32) (m : am_m) : Option (Int32 × am_m) :=
  (fn_X10_isFolk a1 (am_si m 10 0 0 0)).bind fun r1 => (if r1 ≠ 0 then (fn_X10_keepAll 16 (am_si m 10 0 0 0)).bind fun r4 => (lp_X10_lasts_23 1000000 a1 0 r4).bind fun q11 => (fn_X10_putBack 16 q11.2).bind fun r13 => (if q11.1 ≤ (100 : Int32) then some (q11.1, r13) else some ((-1), r13)) else some ((-1), am_si m 10 0 0 0))
set_option maxRecDepth 100000 in
theorem ex_X10_lasts (d : Nat) (hd : 8 ≤ d) (a1 : Int32) (m : am_m) (t : Int32 × am_m) (h : fn_X10_lasts a1 m = some t) : am_Ex am_cod d 279 [.inr (.inr (some (10, 0))), .inl a1] (am_mk m) (some (.inl t.1)) (am_mk t.2) 0 0 := by
  obtain ⟨d, rfl⟩ : ∃ e, d = e + 1 := ⟨d - 1, by omega⟩
  have htb : am_tab 279 = at_279 := rfl
  refine ⟨Nat.le_of_ble_eq_true rfl, ?_⟩
  unfold fn_X10_lasts at h
  show am_Go d 279 (0, [some (.inr (.inr (some (10, 0)))), some (.inl a1), none], [], am_mk m) _ _ 0 0
  refine am_Go.n htb 5 (S' := (7, [some (.inr (.inr (some (10, 0)))), some (.inl a1), none], [.inl a1, .inr (.inr (some (10, 0)))], am_mk (am_si m 10 0 0 0))) rfl ?_
  obtain ⟨r1, h2, h⟩ := am_bd h
  refine am_Go.cl htb rfl (ex_X10_isFolk d (by omega) a1 (am_si m 10 0 0 0) r1 h2) ?_
  show am_Go d 279 (10, [some (.inr (.inr (some (10, 0)))), some (.inl a1), none], [.inl r1], am_mk (am_si m 10 0 0 0)) _ _ _ _
  by_cases hc3 : r1 ≠ 0
  · rw [if_pos hc3] at h
    refine am_Go.c1 htb (S' := (15, [some (.inr (.inr (some (10, 0)))), some (.inl a1), none], [], am_mk (am_si m 10 0 0 0))) (if_pos hc3) ?_
    refine am_Go.n htb 2 (S' := (18, [some (.inr (.inr (some (10, 0)))), some (.inl a1), none], [.inl 16, .inr (.inr (some (10, 0)))], am_mk (am_si m 10 0 0 0))) rfl ?_
    obtain ⟨r4, h5, h⟩ := am_bd h
    refine am_Go.cl htb rfl (ex_X10_keepAll d (by omega) 16 (am_si m 10 0 0 0) r4 h5) ?_
    show am_Go d 279 (21, [some (.inr (.inr (some (10, 0)))), some (.inl a1), none], [], am_mk r4) _ _ _ _
    refine am_Go.n htb 2 (S' := (23, [some (.inr (.inr (some (10, 0)))), some (.inl a1), some (.inl 0)], [], am_mk r4)) rfl ?_
    obtain ⟨q11, h12, h⟩ := am_bd h
    refine lt_X10_lasts_23 _ hd (h := h12) (hk := ?_)
    refine am_Go.n htb 2 (S' := (54, [some (.inr (.inr (some (10, 0)))), some (.inl a1), some (.inl q11.1)], [.inl 16, .inr (.inr (some (10, 0)))], am_mk q11.2)) rfl ?_
    obtain ⟨r13, h14, h⟩ := am_bd h
    refine am_Go.cl htb rfl (ex_X10_putBack d (by omega) 16 q11.2 r13 h14) ?_
    show am_Go d 279 (57, [some (.inr (.inr (some (10, 0)))), some (.inl a1), some (.inl q11.1)], [], am_mk r13) _ _ _ _
    refine am_Go.n htb 2 (S' := (60, [some (.inr (.inr (some (10, 0)))), some (.inl a1), some (.inl q11.1)], [.inl 100, .inl q11.1], am_mk r13)) rfl ?_
    by_cases hc15 : q11.1 ≤ (100 : Int32)
    · rw [if_pos hc15] at h
      refine am_Go.c1 htb (S' := (67, [some (.inr (.inr (some (10, 0)))), some (.inl a1), some (.inl q11.1)], [], am_mk r13)) (if_pos hc15) ?_
      refine am_Go.n htb 1 (S' := (68, [some (.inr (.inr (some (10, 0)))), some (.inl a1), some (.inl q11.1)], [.inl q11.1], am_mk r13)) rfl ?_
      cases h
      exact am_Go.rt htb rfl
    · rw [if_neg hc15] at h
      refine am_Go.c1 htb (S' := (63, [some (.inr (.inr (some (10, 0)))), some (.inl a1), some (.inl q11.1)], [], am_mk r13)) (if_neg hc15) ?_
      refine am_Go.n htb 2 (S' := (68, [some (.inr (.inr (some (10, 0)))), some (.inl a1), some (.inl q11.1)], [.inl (-1)], am_mk r13)) rfl ?_
      cases h
      exact am_Go.rt htb rfl
  · rw [if_neg hc3] at h
    refine am_Go.c1 htb (S' := (13, [some (.inr (.inr (some (10, 0)))), some (.inl a1), none], [], am_mk (am_si m 10 0 0 0))) (if_neg hc3) ?_
    refine am_Go.n htb 1 (S' := (14, [some (.inr (.inr (some (10, 0)))), some (.inl a1), none], [.inl (-1)], am_mk (am_si m 10 0 0 0))) rfl ?_
    cases h
    exact am_Go.rt htb rfl
-- X10_fedBy
def lp_X10_fedBy_27 : Nat → Int32 → Int32 → Int32 → am_m → Option (Int32)
  | 0, _, _, _, _ => none
  | n + 1, x1, x2, x3, m =>
  (if (m.1 44 0 0) ≤ x3 then some x2 else am_ck ((7 : Int32) + x3) 5518 (lp_X10_fedBy_27 n x1 (x2 ||| (if x1 ≤ (m.1 44 0 ((7 : Int32) + x3).toNatClampNeg) then (0 : Int32) else ((1 : Int32) <<< (x3 &&& 31)))) (x3 + 1) m))
set_option maxRecDepth 100000 in
theorem lt_X10_fedBy_27 (d : Nat) (hd : 9 ≤ d + 1) {r : Option am_V} {M' : am_M} {kc ks : Nat} {n : Nat} {x1 : Int32} {x2 : Int32} {x3 : Int32} {m : am_m} {t : Int32} (h : lp_X10_fedBy_27 n x1 x2 x3 m = some t) (hk : am_Go d 280 (66, [some (.inr (.inr (some (10, 0)))), some (.inl x1), some (.inl t), none, none, none], [], am_mk m) r M' kc ks) : am_Go d 280 (27, [some (.inr (.inr (some (10, 0)))), some (.inl x1), some (.inl x2), some (.inl x3), none, none], [], am_mk m) r M' kc ks := by
  have htb : am_tab 280 = at_280 := rfl
  induction n generalizing x2 x3 with
  | zero => cases h
  | succ n ih =>
    unfold lp_X10_fedBy_27 at h
    refine am_Go.n htb 5 (S' := (34, [some (.inr (.inr (some (10, 0)))), some (.inl x1), some (.inl x2), some (.inl x3), none, none], [.inl (m.1 44 0 0), .inl x3], am_mk m)) rfl ?_
    by_cases hc6 : (m.1 44 0 0) ≤ x3
    · rw [if_pos hc6] at h
      refine am_Go.c1 htb (S' := (66, [some (.inr (.inr (some (10, 0)))), some (.inl x1), some (.inl x2), some (.inl x3), none, none], [], am_mk m)) (if_pos hc6) ?_
      cases h
      exact am_Go.fg (by exact ⟨rfl, ⟨rfl, ⟨rfl, trivial⟩⟩⟩) hk
    · rw [if_neg hc6] at h
      refine am_Go.c1 htb (S' := (37, [some (.inr (.inr (some (10, 0)))), some (.inl x1), some (.inl x2), some (.inl x3), none, none], [], am_mk m)) (if_neg hc6) ?_
      refine am_Go.n htb 6 (S' := (46, [some (.inr (.inr (some (10, 0)))), some (.inl x1), some (.inl x2), some (.inl x3), none, none], [.inl ((7 : Int32) + x3), .inr (.inr (some (44, 0))), .inl x2], am_mk m)) rfl ?_
      obtain ⟨hg7, h⟩ := am_ck_some h
      refine am_Go.c1 htb (S' := (47, [some (.inr (.inr (some (10, 0)))), some (.inl x1), some (.inl x2), some (.inl x3), none, none], [.inl (m.1 44 0 ((7 : Int32) + x3).toNatClampNeg), .inl x2], am_mk m)) (if_neg hg7) ?_
      refine am_Go.n htb 1 (S' := (48, [some (.inr (.inr (some (10, 0)))), some (.inl x1), some (.inl x2), some (.inl x3), none, none], [.inl x1, .inl (m.1 44 0 ((7 : Int32) + x3).toNatClampNeg), .inl x2], am_mk m)) rfl ?_
      refine am_Go.cut (S := (58, [some (.inr (.inr (some (10, 0)))), some (.inl x1), some (.inl x2), some (.inl x3), none, none], [.inl (if x1 ≤ (m.1 44 0 ((7 : Int32) + x3).toNatClampNeg) then (0 : Int32) else ((1 : Int32) <<< (x3 &&& 31))), .inl x2], am_mk m)) ?_ (fun key => ?_)
      · refine am_Go.n htb 4 (S' := (27, [some (.inr (.inr (some (10, 0)))), some (.inl x1), some (.inl (x2 ||| (if x1 ≤ (m.1 44 0 ((7 : Int32) + x3).toNatClampNeg) then (0 : Int32) else ((1 : Int32) <<< (x3 &&& 31))))), some (.inl (x3 + 1)), none, none], [], am_mk m)) rfl ?_
        first | exact ih h | exact ih h hk
      · by_cases hc8 : x1 ≤ (m.1 44 0 ((7 : Int32) + x3).toNatClampNeg)
        · refine am_Go.c1 htb (S' := (57, [some (.inr (.inr (some (10, 0)))), some (.inl x1), some (.inl x2), some (.inl x3), none, none], [.inl x2], am_mk m)) (if_pos hc8) ?_
          refine am_Go.n htb 1 (S' := (58, [some (.inr (.inr (some (10, 0)))), some (.inl x1), some (.inl x2), some (.inl x3), none, none], [.inl 0, .inl x2], am_mk m)) rfl ?_
          simp only [if_pos hc8] at key
          exact am_Go.fg (by exact ⟨rfl, ⟨rfl, ⟨rfl, ⟨rfl, trivial⟩⟩⟩⟩) key
        · refine am_Go.c1 htb (S' := (51, [some (.inr (.inr (some (10, 0)))), some (.inl x1), some (.inl x2), some (.inl x3), none, none], [.inl x2], am_mk m)) (if_neg hc8) ?_
          refine am_Go.n htb 4 (S' := (58, [some (.inr (.inr (some (10, 0)))), some (.inl x1), some (.inl x2), some (.inl x3), none, none], [.inl ((1 : Int32) <<< (x3 &&& 31)), .inl x2], am_mk m)) rfl ?_
          simp only [if_neg hc8] at key
          exact am_Go.fg (by exact ⟨rfl, ⟨rfl, ⟨rfl, ⟨rfl, trivial⟩⟩⟩⟩) key
def lp_X10_fedBy_68 : Nat → Int32 → Int32 → am_m → Option (am_m)
  | 0, _, _, _ => none
  | n + 1, x2, x3, m =>
  (fn_X10_all  m).bind fun r11 => (if r11 < x3 then some m else am_ck x3 128 (lp_X10_fedBy_68 n x2 (x3 + 1) (am_si m 60 0 x3.toNatClampNeg (if x3 ≠ 0 then (100000000 : Int32) else (0 : Int32)))))
set_option maxRecDepth 100000 in
theorem lt_X10_fedBy_68 (d : Nat) (hd : 9 ≤ d + 1) {r : Option am_V} {M' : am_M} {kc ks : Nat} {n : Nat} {x2 : Int32} {x3 : Int32} {m : am_m} {t : am_m} (h : lp_X10_fedBy_68 n x2 x3 m = some t) (hk : am_Go d 280 (99, [some (.inr (.inr (some (10, 0)))), none, some (.inl x2), none, none, none], [], am_mk t) r M' kc ks) : am_Go d 280 (68, [some (.inr (.inr (some (10, 0)))), none, some (.inl x2), some (.inl x3), none, none], [], am_mk m) r M' kc ks := by
  have htb : am_tab 280 = at_280 := rfl
  induction n generalizing x3 m with
  | zero => cases h
  | succ n ih =>
    unfold lp_X10_fedBy_68 at h
    refine am_Go.n htb 2 (S' := (70, [some (.inr (.inr (some (10, 0)))), none, some (.inl x2), some (.inl x3), none, none], [.inr (.inr (some (10, 0))), .inl x3], am_mk m)) rfl ?_
    obtain ⟨r11, h12, h⟩ := am_bd h
    refine am_Go.cl htb rfl (ex_X10_all d (by omega)  m r11 h12) ?_
    show am_Go d 280 (73, [some (.inr (.inr (some (10, 0)))), none, some (.inl x2), some (.inl x3), none, none], [.inl r11, .inl x3], am_mk m) _ _ _ _
    by_cases hc13 : r11 < x3
    · rw [if_pos hc13] at h
      refine am_Go.c1 htb (S' := (99, [some (.inr (.inr (some (10, 0)))), none, some (.inl x2), some (.inl x3), none, none], [], am_mk m)) (if_pos hc13) ?_
      cases h
      exact am_Go.fg (by exact ⟨rfl, ⟨rfl, trivial⟩⟩) hk
    · rw [if_neg hc13] at h
      refine am_Go.c1 htb (S' := (76, [some (.inr (.inr (some (10, 0)))), none, some (.inl x2), some (.inl x3), none, none], [], am_mk m)) (if_neg hc13) ?_
      refine am_Go.n htb 4 (S' := (82, [some (.inr (.inr (some (10, 0)))), none, some (.inl x2), some (.inl x3), none, none], [.inl x3, .inl x3, .inr (.inr (some (60, 0)))], am_mk m)) rfl ?_
      refine am_Go.cut (S := (92, [some (.inr (.inr (some (10, 0)))), none, some (.inl x2), some (.inl x3), none, none], [.inl (if x3 ≠ 0 then (100000000 : Int32) else (0 : Int32)), .inl x3, .inr (.inr (some (60, 0)))], am_mk m)) ?_ (fun key => ?_)
      · obtain ⟨hg15, h⟩ := am_ck_some h
        refine am_Go.c1 htb (S' := (93, [some (.inr (.inr (some (10, 0)))), none, some (.inl x2), some (.inl x3), none, none], [], am_mk (am_si m 60 0 x3.toNatClampNeg (if x3 ≠ 0 then (100000000 : Int32) else (0 : Int32))))) (if_neg hg15) ?_
        refine am_Go.n htb 2 (S' := (68, [some (.inr (.inr (some (10, 0)))), none, some (.inl x2), some (.inl (x3 + 1)), none, none], [], am_mk (am_si m 60 0 x3.toNatClampNeg (if x3 ≠ 0 then (100000000 : Int32) else (0 : Int32))))) rfl ?_
        first | exact ih h | exact ih h hk
      · by_cases hc14 : x3 ≠ 0
        · refine am_Go.c1 htb (S' := (89, [some (.inr (.inr (some (10, 0)))), none, some (.inl x2), some (.inl x3), none, none], [.inl x3, .inr (.inr (some (60, 0)))], am_mk m)) (if_pos hc14) ?_
          refine am_Go.n htb 1 (S' := (92, [some (.inr (.inr (some (10, 0)))), none, some (.inl x2), some (.inl x3), none, none], [.inl 100000000, .inl x3, .inr (.inr (some (60, 0)))], am_mk m)) rfl ?_
          simp only [if_pos hc14] at key
          exact am_Go.fg (by exact ⟨rfl, ⟨rfl, ⟨rfl, trivial⟩⟩⟩) key
        · refine am_Go.c1 htb (S' := (85, [some (.inr (.inr (some (10, 0)))), none, some (.inl x2), some (.inl x3), none, none], [.inl x3, .inr (.inr (some (60, 0)))], am_mk m)) (if_neg hc14) ?_
          refine am_Go.n htb 2 (S' := (92, [some (.inr (.inr (some (10, 0)))), none, some (.inl x2), some (.inl x3), none, none], [.inl 0, .inl x3, .inr (.inr (some (60, 0)))], am_mk m)) rfl ?_
          simp only [if_neg hc14] at key
          exact am_Go.fg (by exact ⟨rfl, ⟨rfl, ⟨rfl, trivial⟩⟩⟩) key
def lp_X10_fedBy_112 : Nat → Int32 → Int32 → Int32 → am_m → Option (am_m)
  | 0, _, _, _, _ => none
  | n + 1, x2, x3, x4, m =>
  (fn_X10_all  m).bind fun r21 => (if r21 < x4 then some m else am_ck x3 128 ((if (100000000 : Int32) ≤ (m.1 60 0 x3.toNatClampNeg) then some m else (fn_X10_isTable x4 m).bind fun r26 => (if r26 = 0 then some m else am_ck x3 128 (am_ck (x3 ||| x4) 128 ((if (m.1 60 0 (x3 ||| x4).toNatClampNeg) ≤ ((m.1 60 0 x3.toNatClampNeg) + (1 : Int32)) then am_ck (x3 ||| x4) 128 (some (m.1 60 0 (x3 ||| x4).toNatClampNeg)) else am_ck x3 128 (some ((m.1 60 0 x3.toNatClampNeg) + (1 : Int32)))).bind fun q34 => am_ck (x3 ||| x4) 128 (some (am_si m 60 0 (x3 ||| x4).toNatClampNeg q34))))).bind fun q37 => lp_X10_fedBy_112 n x2 x3 (x4 + 1) q37)))
set_option maxRecDepth 100000 in
theorem lt_X10_fedBy_112 (d : Nat) (hd : 9 ≤ d + 1) {r : Option am_V} {M' : am_M} {kc ks : Nat} {n : Nat} {x2 : Int32} {x3 : Int32} {x4 : Int32} {m : am_m} {t : am_m} (h : lp_X10_fedBy_112 n x2 x3 x4 m = some t) (hk : am_Go d 280 (197, [some (.inr (.inr (some (10, 0)))), none, some (.inl x2), some (.inl x3), none, none], [], am_mk t) r M' kc ks) : am_Go d 280 (112, [some (.inr (.inr (some (10, 0)))), none, some (.inl x2), some (.inl x3), some (.inl x4), none], [], am_mk m) r M' kc ks := by
  have htb : am_tab 280 = at_280 := rfl
  induction n generalizing x4 m with
  | zero => cases h
  | succ n ih =>
    unfold lp_X10_fedBy_112 at h
    refine am_Go.n htb 2 (S' := (115, [some (.inr (.inr (some (10, 0)))), none, some (.inl x2), some (.inl x3), some (.inl x4), none], [.inr (.inr (some (10, 0))), .inl x4], am_mk m)) rfl ?_
    obtain ⟨r21, h22, h⟩ := am_bd h
    refine am_Go.cl htb rfl (ex_X10_all d (by omega)  m r21 h22) ?_
    show am_Go d 280 (118, [some (.inr (.inr (some (10, 0)))), none, some (.inl x2), some (.inl x3), some (.inl x4), none], [.inl r21, .inl x4], am_mk m) _ _ _ _
    by_cases hc23 : r21 < x4
    · rw [if_pos hc23] at h
      refine am_Go.c1 htb (S' := (197, [some (.inr (.inr (some (10, 0)))), none, some (.inl x2), some (.inl x3), some (.inl x4), none], [], am_mk m)) (if_pos hc23) ?_
      cases h
      exact am_Go.fg (by exact ⟨rfl, ⟨rfl, ⟨rfl, trivial⟩⟩⟩) hk
    · rw [if_neg hc23] at h
      refine am_Go.c1 htb (S' := (121, [some (.inr (.inr (some (10, 0)))), none, some (.inl x2), some (.inl x3), some (.inl x4), none], [], am_mk m)) (if_neg hc23) ?_
      refine am_Go.n htb 3 (S' := (126, [some (.inr (.inr (some (10, 0)))), none, some (.inl x2), some (.inl x3), some (.inl x4), none], [.inl x3, .inr (.inr (some (60, 0)))], am_mk m)) rfl ?_
      obtain ⟨hg24, h⟩ := am_ck_some h
      refine am_Go.c1 htb (S' := (127, [some (.inr (.inr (some (10, 0)))), none, some (.inl x2), some (.inl x3), some (.inl x4), none], [.inl (m.1 60 0 x3.toNatClampNeg)], am_mk m)) (if_neg hg24) ?_
      refine am_Go.n htb 1 (S' := (130, [some (.inr (.inr (some (10, 0)))), none, some (.inl x2), some (.inl x3), some (.inl x4), none], [.inl 100000000, .inl (m.1 60 0 x3.toNatClampNeg)], am_mk m)) rfl ?_
      by_cases hc25 : (100000000 : Int32) ≤ (m.1 60 0 x3.toNatClampNeg)
      · rw [if_pos hc25] at h
        refine am_Go.c1 htb (S' := (197, [some (.inr (.inr (some (10, 0)))), none, some (.inl x2), some (.inl x3), some (.inl x4), none], [], am_mk m)) (if_pos hc25) ?_
        cases h
        exact am_Go.fg (by exact ⟨rfl, ⟨rfl, ⟨rfl, trivial⟩⟩⟩) hk
      · rw [if_neg hc25] at h
        refine am_Go.c1 htb (S' := (133, [some (.inr (.inr (some (10, 0)))), none, some (.inl x2), some (.inl x3), some (.inl x4), none], [], am_mk m)) (if_neg hc25) ?_
        refine am_Go.n htb 2 (S' := (136, [some (.inr (.inr (some (10, 0)))), none, some (.inl x2), some (.inl x3), some (.inl x4), none], [.inl x4, .inr (.inr (some (10, 0)))], am_mk m)) rfl ?_
        obtain ⟨r26, h27, h⟩ := am_bd h
        refine am_Go.cl htb rfl (ex_X10_isTable d (by omega) x4 m r26 h27) ?_
        show am_Go d 280 (139, [some (.inr (.inr (some (10, 0)))), none, some (.inl x2), some (.inl x3), some (.inl x4), none], [.inl r26], am_mk m) _ _ _ _
        obtain ⟨q37, h38, h⟩ := am_bd h
        refine am_Go.cut (S := (191, [some (.inr (.inr (some (10, 0)))), none, some (.inl x2), some (.inl x3), some (.inl x4), none], [], am_mk q37)) ?_ (fun key => ?_)
        · refine am_Go.n htb 2 (S' := (112, [some (.inr (.inr (some (10, 0)))), none, some (.inl x2), some (.inl x3), some (.inl (x4 + 1)), none], [], am_mk q37)) rfl ?_
          first | exact ih h | exact ih h hk
        · have h := h38
          by_cases hc28 : r26 = 0
          · rw [if_pos hc28] at h
            refine am_Go.c1 htb (S' := (191, [some (.inr (.inr (some (10, 0)))), none, some (.inl x2), some (.inl x3), some (.inl x4), none], [], am_mk m)) (if_pos hc28) ?_
            cases h
            exact am_Go.fg (by exact ⟨rfl, ⟨rfl, ⟨rfl, ⟨rfl, trivial⟩⟩⟩⟩) key
          · rw [if_neg hc28] at h
            refine am_Go.c1 htb (S' := (142, [some (.inr (.inr (some (10, 0)))), none, some (.inl x2), some (.inl x3), some (.inl x4), none], [], am_mk m)) (if_neg hc28) ?_
            refine am_Go.n htb 10 (S' := (159, [some (.inr (.inr (some (10, 0)))), none, some (.inl x2), some (.inl x3), some (.inl x4), some (.inl (x3 ||| x4))], [.inl x3, .inr (.inr (some (60, 0))), .inl (x3 ||| x4), .inr (.inr (some (60, 0)))], am_mk m)) rfl ?_
            obtain ⟨hg29, h⟩ := am_ck_some h
            refine am_Go.c1 htb (S' := (160, [some (.inr (.inr (some (10, 0)))), none, some (.inl x2), some (.inl x3), some (.inl x4), some (.inl (x3 ||| x4))], [.inl (m.1 60 0 x3.toNatClampNeg), .inl (x3 ||| x4), .inr (.inr (some (60, 0)))], am_mk m)) (if_neg hg29) ?_
            refine am_Go.n htb 5 (S' := (168, [some (.inr (.inr (some (10, 0)))), none, some (.inl x2), some (.inl x3), some (.inl x4), some (.inl (x3 ||| x4))], [.inl (x3 ||| x4), .inr (.inr (some (60, 0))), .inl ((m.1 60 0 x3.toNatClampNeg) + (1 : Int32)), .inl (x3 ||| x4), .inr (.inr (some (60, 0)))], am_mk m)) rfl ?_
            obtain ⟨hg30, h⟩ := am_ck_some h
            refine am_Go.c1 htb (S' := (169, [some (.inr (.inr (some (10, 0)))), none, some (.inl x2), some (.inl x3), some (.inl x4), some (.inl (x3 ||| x4))], [.inl (m.1 60 0 (x3 ||| x4).toNatClampNeg), .inl ((m.1 60 0 x3.toNatClampNeg) + (1 : Int32)), .inl (x3 ||| x4), .inr (.inr (some (60, 0)))], am_mk m)) (if_neg hg30) ?_
            obtain ⟨q34, h36, h⟩ := am_bd h
            refine am_Go.cut (S := (190, [some (.inr (.inr (some (10, 0)))), none, some (.inl x2), some (.inl x3), some (.inl x4), some (.inl (x3 ||| x4))], [.inl q34, .inl (x3 ||| x4), .inr (.inr (some (60, 0)))], am_mk m)) ?_ (fun key => ?_)
            · obtain ⟨hg35, h⟩ := am_ck_some h
              refine am_Go.c1 htb (S' := (191, [some (.inr (.inr (some (10, 0)))), none, some (.inl x2), some (.inl x3), some (.inl x4), some (.inl (x3 ||| x4))], [], am_mk (am_si m 60 0 (x3 ||| x4).toNatClampNeg q34))) (if_neg hg35) ?_
              cases h
              exact am_Go.fg (by exact ⟨rfl, ⟨rfl, ⟨rfl, ⟨rfl, trivial⟩⟩⟩⟩) key
            · have h := h36
              by_cases hc31 : (m.1 60 0 (x3 ||| x4).toNatClampNeg) ≤ ((m.1 60 0 x3.toNatClampNeg) + (1 : Int32))
              · rw [if_pos hc31] at h
                refine am_Go.c1 htb (S' := (183, [some (.inr (.inr (some (10, 0)))), none, some (.inl x2), some (.inl x3), some (.inl x4), some (.inl (x3 ||| x4))], [.inl (x3 ||| x4), .inr (.inr (some (60, 0)))], am_mk m)) (if_pos hc31) ?_
                refine am_Go.n htb 3 (S' := (189, [some (.inr (.inr (some (10, 0)))), none, some (.inl x2), some (.inl x3), some (.inl x4), some (.inl (x3 ||| x4))], [.inl (x3 ||| x4), .inr (.inr (some (60, 0))), .inl (x3 ||| x4), .inr (.inr (some (60, 0)))], am_mk m)) rfl ?_
                obtain ⟨hg32, h⟩ := am_ck_some h
                refine am_Go.c1 htb (S' := (190, [some (.inr (.inr (some (10, 0)))), none, some (.inl x2), some (.inl x3), some (.inl x4), some (.inl (x3 ||| x4))], [.inl (m.1 60 0 (x3 ||| x4).toNatClampNeg), .inl (x3 ||| x4), .inr (.inr (some (60, 0)))], am_mk m)) (if_neg hg32) ?_
                cases h
                exact am_Go.fg (by exact ⟨rfl, ⟨rfl, ⟨rfl, ⟨rfl, ⟨rfl, trivial⟩⟩⟩⟩⟩) key
              · rw [if_neg hc31] at h
                refine am_Go.c1 htb (S' := (172, [some (.inr (.inr (some (10, 0)))), none, some (.inl x2), some (.inl x3), some (.inl x4), some (.inl (x3 ||| x4))], [.inl (x3 ||| x4), .inr (.inr (some (60, 0)))], am_mk m)) (if_neg hc31) ?_
                refine am_Go.n htb 3 (S' := (177, [some (.inr (.inr (some (10, 0)))), none, some (.inl x2), some (.inl x3), some (.inl x4), some (.inl (x3 ||| x4))], [.inl x3, .inr (.inr (some (60, 0))), .inl (x3 ||| x4), .inr (.inr (some (60, 0)))], am_mk m)) rfl ?_
                obtain ⟨hg33, h⟩ := am_ck_some h
                refine am_Go.c1 htb (S' := (178, [some (.inr (.inr (some (10, 0)))), none, some (.inl x2), some (.inl x3), some (.inl x4), some (.inl (x3 ||| x4))], [.inl (m.1 60 0 x3.toNatClampNeg), .inl (x3 ||| x4), .inr (.inr (some (60, 0)))], am_mk m)) (if_neg hg33) ?_
                refine am_Go.n htb 3 (S' := (190, [some (.inr (.inr (some (10, 0)))), none, some (.inl x2), some (.inl x3), some (.inl x4), some (.inl (x3 ||| x4))], [.inl ((m.1 60 0 x3.toNatClampNeg) + (1 : Int32)), .inl (x3 ||| x4), .inr (.inr (some (60, 0)))], am_mk m)) rfl ?_
                cases h
                exact am_Go.fg (by exact ⟨rfl, ⟨rfl, ⟨rfl, ⟨rfl, ⟨rfl, trivial⟩⟩⟩⟩⟩) key
def lp_X10_fedBy_101 : Nat → Int32 → Int32 → am_m → Option (am_m)
  | 0, _, _, _ => none
  | n + 1, x2, x3, m =>
  (fn_X10_all  m).bind fun r18 => (if r18 < x3 then some m else (lp_X10_fedBy_112 1000000 x2 x3 0 m).bind fun q39 => lp_X10_fedBy_101 n x2 (x3 + 1) q39)
set_option maxRecDepth 100000 in
theorem lt_X10_fedBy_101 (d : Nat) (hd : 9 ≤ d + 1) {r : Option am_V} {M' : am_M} {kc ks : Nat} {n : Nat} {x2 : Int32} {x3 : Int32} {m : am_m} {t : am_m} (h : lp_X10_fedBy_101 n x2 x3 m = some t) (hk : am_Go d 280 (203, [some (.inr (.inr (some (10, 0)))), none, some (.inl x2), none, none, none], [], am_mk t) r M' kc ks) : am_Go d 280 (101, [some (.inr (.inr (some (10, 0)))), none, some (.inl x2), some (.inl x3), none, none], [], am_mk m) r M' kc ks := by
  have htb : am_tab 280 = at_280 := rfl
  induction n generalizing x3 m with
  | zero => cases h
  | succ n ih =>
    unfold lp_X10_fedBy_101 at h
    refine am_Go.n htb 2 (S' := (103, [some (.inr (.inr (some (10, 0)))), none, some (.inl x2), some (.inl x3), none, none], [.inr (.inr (some (10, 0))), .inl x3], am_mk m)) rfl ?_
    obtain ⟨r18, h19, h⟩ := am_bd h
    refine am_Go.cl htb rfl (ex_X10_all d (by omega)  m r18 h19) ?_
    show am_Go d 280 (106, [some (.inr (.inr (some (10, 0)))), none, some (.inl x2), some (.inl x3), none, none], [.inl r18, .inl x3], am_mk m) _ _ _ _
    by_cases hc20 : r18 < x3
    · rw [if_pos hc20] at h
      refine am_Go.c1 htb (S' := (203, [some (.inr (.inr (some (10, 0)))), none, some (.inl x2), some (.inl x3), none, none], [], am_mk m)) (if_pos hc20) ?_
      cases h
      exact am_Go.fg (by exact ⟨rfl, ⟨rfl, trivial⟩⟩) hk
    · rw [if_neg hc20] at h
      refine am_Go.c1 htb (S' := (109, [some (.inr (.inr (some (10, 0)))), none, some (.inl x2), some (.inl x3), none, none], [], am_mk m)) (if_neg hc20) ?_
      refine am_Go.n htb 2 (S' := (112, [some (.inr (.inr (some (10, 0)))), none, some (.inl x2), some (.inl x3), some (.inl 0), none], [], am_mk m)) rfl ?_
      obtain ⟨q39, h40, h⟩ := am_bd h
      refine lt_X10_fedBy_112 _ hd (h := h40) (hk := ?_)
      refine am_Go.n htb 2 (S' := (101, [some (.inr (.inr (some (10, 0)))), none, some (.inl x2), some (.inl (x3 + 1)), none, none], [], am_mk q39)) rfl ?_
      first | exact ih h | exact ih h hk
def lp_X10_fedBy_210 : Nat → Int32 → Int32 → Int32 → am_m → Option (Int32)
  | 0, _, _, _, _ => none
  | n + 1, x2, x3, x4, m =>
  (fn_X10_all  m).bind fun r43 => (if r43 < x4 then some x3 else (if (x2 &&& (x4 ^^^ (-1 : Int32))) ≠ 0 then some x3 else am_ck x4 128 ((if x3 ≤ (m.1 60 0 x4.toNatClampNeg) then some x3 else am_ck x4 128 (some (m.1 60 0 x4.toNatClampNeg))))).bind fun q50 => lp_X10_fedBy_210 n x2 q50 (x4 + 1) m)
set_option maxRecDepth 100000 in
theorem lt_X10_fedBy_210 (d : Nat) (hd : 9 ≤ d + 1) {r : Option am_V} {M' : am_M} {kc ks : Nat} {n : Nat} {x2 : Int32} {x3 : Int32} {x4 : Int32} {m : am_m} {t : Int32} (h : lp_X10_fedBy_210 n x2 x3 x4 m = some t) (hk : am_Go d 280 (257, [some (.inr (.inr (some (10, 0)))), none, some (.inl x2), some (.inl t), none, none], [], am_mk m) r M' kc ks) : am_Go d 280 (210, [some (.inr (.inr (some (10, 0)))), none, some (.inl x2), some (.inl x3), some (.inl x4), none], [], am_mk m) r M' kc ks := by
  have htb : am_tab 280 = at_280 := rfl
  induction n generalizing x3 x4 with
  | zero => cases h
  | succ n ih =>
    unfold lp_X10_fedBy_210 at h
    refine am_Go.n htb 2 (S' := (213, [some (.inr (.inr (some (10, 0)))), none, some (.inl x2), some (.inl x3), some (.inl x4), none], [.inr (.inr (some (10, 0))), .inl x4], am_mk m)) rfl ?_
    obtain ⟨r43, h44, h⟩ := am_bd h
    refine am_Go.cl htb rfl (ex_X10_all d (by omega)  m r43 h44) ?_
    show am_Go d 280 (216, [some (.inr (.inr (some (10, 0)))), none, some (.inl x2), some (.inl x3), some (.inl x4), none], [.inl r43, .inl x4], am_mk m) _ _ _ _
    by_cases hc45 : r43 < x4
    · rw [if_pos hc45] at h
      refine am_Go.c1 htb (S' := (257, [some (.inr (.inr (some (10, 0)))), none, some (.inl x2), some (.inl x3), some (.inl x4), none], [], am_mk m)) (if_pos hc45) ?_
      cases h
      exact am_Go.fg (by exact ⟨rfl, ⟨rfl, ⟨rfl, trivial⟩⟩⟩) hk
    · rw [if_neg hc45] at h
      refine am_Go.c1 htb (S' := (219, [some (.inr (.inr (some (10, 0)))), none, some (.inl x2), some (.inl x3), some (.inl x4), none], [], am_mk m)) (if_neg hc45) ?_
      refine am_Go.n htb 5 (S' := (225, [some (.inr (.inr (some (10, 0)))), none, some (.inl x2), some (.inl x3), some (.inl x4), none], [.inl (x2 &&& (x4 ^^^ (-1 : Int32)))], am_mk m)) rfl ?_
      obtain ⟨q50, h51, h⟩ := am_bd h
      refine am_Go.cut (S := (250, [some (.inr (.inr (some (10, 0)))), none, some (.inl x2), some (.inl x3), some (.inl x4), none], [.inl q50], am_mk m)) ?_ (fun key => ?_)
      · refine am_Go.n htb 3 (S' := (210, [some (.inr (.inr (some (10, 0)))), none, some (.inl x2), some (.inl q50), some (.inl (x4 + 1)), none], [], am_mk m)) rfl ?_
        first | exact ih h | exact ih h hk
      · have h := h51
        by_cases hc46 : (x2 &&& (x4 ^^^ (-1 : Int32))) ≠ 0
        · rw [if_pos hc46] at h
          refine am_Go.c1 htb (S' := (249, [some (.inr (.inr (some (10, 0)))), none, some (.inl x2), some (.inl x3), some (.inl x4), none], [], am_mk m)) (if_pos hc46) ?_
          refine am_Go.n htb 1 (S' := (250, [some (.inr (.inr (some (10, 0)))), none, some (.inl x2), some (.inl x3), some (.inl x4), none], [.inl x3], am_mk m)) rfl ?_
          cases h
          exact am_Go.fg (by exact ⟨rfl, ⟨rfl, ⟨rfl, ⟨rfl, trivial⟩⟩⟩⟩) key
        · rw [if_neg hc46] at h
          refine am_Go.c1 htb (S' := (228, [some (.inr (.inr (some (10, 0)))), none, some (.inl x2), some (.inl x3), some (.inl x4), none], [], am_mk m)) (if_neg hc46) ?_
          refine am_Go.n htb 3 (S' := (234, [some (.inr (.inr (some (10, 0)))), none, some (.inl x2), some (.inl x3), some (.inl x4), none], [.inl x4, .inr (.inr (some (60, 0)))], am_mk m)) rfl ?_
          obtain ⟨hg47, h⟩ := am_ck_some h
          refine am_Go.c1 htb (S' := (235, [some (.inr (.inr (some (10, 0)))), none, some (.inl x2), some (.inl x3), some (.inl x4), none], [.inl (m.1 60 0 x4.toNatClampNeg)], am_mk m)) (if_neg hg47) ?_
          refine am_Go.n htb 1 (S' := (236, [some (.inr (.inr (some (10, 0)))), none, some (.inl x2), some (.inl x3), some (.inl x4), none], [.inl x3, .inl (m.1 60 0 x4.toNatClampNeg)], am_mk m)) rfl ?_
          by_cases hc48 : x3 ≤ (m.1 60 0 x4.toNatClampNeg)
          · rw [if_pos hc48] at h
            refine am_Go.c1 htb (S' := (249, [some (.inr (.inr (some (10, 0)))), none, some (.inl x2), some (.inl x3), some (.inl x4), none], [], am_mk m)) (if_pos hc48) ?_
            refine am_Go.n htb 1 (S' := (250, [some (.inr (.inr (some (10, 0)))), none, some (.inl x2), some (.inl x3), some (.inl x4), none], [.inl x3], am_mk m)) rfl ?_
            cases h
            exact am_Go.fg (by exact ⟨rfl, ⟨rfl, ⟨rfl, ⟨rfl, trivial⟩⟩⟩⟩) key
          · rw [if_neg hc48] at h
            refine am_Go.c1 htb (S' := (239, [some (.inr (.inr (some (10, 0)))), none, some (.inl x2), some (.inl x3), some (.inl x4), none], [], am_mk m)) (if_neg hc48) ?_
            refine am_Go.n htb 3 (S' := (245, [some (.inr (.inr (some (10, 0)))), none, some (.inl x2), some (.inl x3), some (.inl x4), none], [.inl x4, .inr (.inr (some (60, 0)))], am_mk m)) rfl ?_
            obtain ⟨hg49, h⟩ := am_ck_some h
            refine am_Go.c1 htb (S' := (246, [some (.inr (.inr (some (10, 0)))), none, some (.inl x2), some (.inl x3), some (.inl x4), none], [.inl (m.1 60 0 x4.toNatClampNeg)], am_mk m)) (if_neg hg49) ?_
            refine am_Go.n htb 1 (S' := (250, [some (.inr (.inr (some (10, 0)))), none, some (.inl x2), some (.inl x3), some (.inl x4), none], [.inl (m.1 60 0 x4.toNatClampNeg)], am_mk m)) rfl ?_
            cases h
            exact am_Go.fg (by exact ⟨rfl, ⟨rfl, ⟨rfl, ⟨rfl, trivial⟩⟩⟩⟩) key
def fn_X10_fedBy (a1 : Int32) (m : am_m) : Option (Int32 × am_m) :=
  (fn_X10_in a1.toInt64 0 10 (am_si m 10 0 0 0)).bind fun r1 => (if r1 ≠ 0 then (fn_X10_layMay  (am_si m 10 0 0 0)).bind fun r4 => (lp_X10_fedBy_27 1000000 a1 0 0 r4).bind fun q9 => (lp_X10_fedBy_68 1000000 q9 0 r4).bind fun q16 => (lp_X10_fedBy_101 1000000 q9 0 q16).bind fun q41 => (lp_X10_fedBy_210 1000000 q9 100000000 0 q41).bind fun q52 => (if q52 ≠ (100000000 : Int32) then some (q52, q41) else some ((-1), q41)) else some ((-1), am_si m 10 0 0 0))
set_option maxRecDepth 100000 in
theorem ex_X10_fedBy (d : Nat) (hd : 9 ≤ d) (a1 : Int32) (m : am_m) (t : Int32 × am_m) (h : fn_X10_fedBy a1 m = some t) : am_Ex am_cod d 280 [.inr (.inr (some (10, 0))), .inl a1] (am_mk m) (some (.inl t.1)) (am_mk t.2) 0 0 := by
  obtain ⟨d, rfl⟩ : ∃ e, d = e + 1 := ⟨d - 1, by omega⟩
  have htb : am_tab 280 = at_280 := rfl
  refine ⟨Nat.le_of_ble_eq_true rfl, ?_⟩
  unfold fn_X10_fedBy at h
  show am_Go d 280 (0, [some (.inr (.inr (some (10, 0)))), some (.inl a1), none, none, none, none], [], am_mk m) _ _ 0 0
  refine am_Go.n htb 7 (S' := (11, [some (.inr (.inr (some (10, 0)))), some (.inl a1), none, none, none, none], [.inr (.inl 10), .inr (.inl 0), .inr (.inl a1.toInt64)], am_mk (am_si m 10 0 0 0))) rfl ?_
  obtain ⟨r1, h2, h⟩ := am_bd h
  refine am_Go.cl htb rfl (ex_X10_in d (by omega) a1.toInt64 0 10 (am_si m 10 0 0 0) r1 h2) ?_
  show am_Go d 280 (14, [some (.inr (.inr (some (10, 0)))), some (.inl a1), none, none, none, none], [.inl r1], am_mk (am_si m 10 0 0 0)) _ _ _ _
  by_cases hc3 : r1 ≠ 0
  · rw [if_pos hc3] at h
    refine am_Go.c1 htb (S' := (19, [some (.inr (.inr (some (10, 0)))), some (.inl a1), none, none, none, none], [], am_mk (am_si m 10 0 0 0))) (if_pos hc3) ?_
    refine am_Go.n htb 1 (S' := (20, [some (.inr (.inr (some (10, 0)))), some (.inl a1), none, none, none, none], [.inr (.inr (some (10, 0)))], am_mk (am_si m 10 0 0 0))) rfl ?_
    obtain ⟨r4, h5, h⟩ := am_bd h
    refine am_Go.cl htb rfl (ex_X10_layMay d (by omega)  (am_si m 10 0 0 0) r4 h5) ?_
    show am_Go d 280 (23, [some (.inr (.inr (some (10, 0)))), some (.inl a1), none, none, none, none], [], am_mk r4) _ _ _ _
    refine am_Go.n htb 4 (S' := (27, [some (.inr (.inr (some (10, 0)))), some (.inl a1), some (.inl 0), some (.inl 0), none, none], [], am_mk r4)) rfl ?_
    obtain ⟨q9, h10, h⟩ := am_bd h
    refine lt_X10_fedBy_27 _ hd (h := h10) (hk := ?_)
    refine am_Go.n htb 2 (S' := (68, [some (.inr (.inr (some (10, 0)))), some (.inl a1), some (.inl q9), some (.inl 0), none, none], [], am_mk r4)) rfl ?_
    refine am_Go.fg (L0 := [some (.inr (.inr (some (10, 0)))), none, some (.inl q9), some (.inl 0), none, none]) (by exact ⟨rfl, ⟨rfl, ⟨rfl, trivial⟩⟩⟩) ?_
    obtain ⟨q16, h17, h⟩ := am_bd h
    refine lt_X10_fedBy_68 _ hd (h := h17) (hk := ?_)
    refine am_Go.n htb 2 (S' := (101, [some (.inr (.inr (some (10, 0)))), none, some (.inl q9), some (.inl 0), none, none], [], am_mk q16)) rfl ?_
    obtain ⟨q41, h42, h⟩ := am_bd h
    refine lt_X10_fedBy_101 _ hd (h := h42) (hk := ?_)
    refine am_Go.n htb 4 (S' := (210, [some (.inr (.inr (some (10, 0)))), none, some (.inl q9), some (.inl 100000000), some (.inl 0), none], [], am_mk q41)) rfl ?_
    obtain ⟨q52, h53, h⟩ := am_bd h
    refine lt_X10_fedBy_210 _ hd (h := h53) (hk := ?_)
    refine am_Go.n htb 2 (S' := (261, [some (.inr (.inr (some (10, 0)))), none, some (.inl q9), some (.inl q52), none, none], [.inl 100000000, .inl q52], am_mk q41)) rfl ?_
    by_cases hc54 : q52 ≠ (100000000 : Int32)
    · rw [if_pos hc54] at h
      refine am_Go.c1 htb (S' := (268, [some (.inr (.inr (some (10, 0)))), none, some (.inl q9), some (.inl q52), none, none], [], am_mk q41)) (if_pos hc54) ?_
      refine am_Go.n htb 1 (S' := (269, [some (.inr (.inr (some (10, 0)))), none, some (.inl q9), some (.inl q52), none, none], [.inl q52], am_mk q41)) rfl ?_
      cases h
      exact am_Go.rt htb rfl
    · rw [if_neg hc54] at h
      refine am_Go.c1 htb (S' := (264, [some (.inr (.inr (some (10, 0)))), none, some (.inl q9), some (.inl q52), none, none], [], am_mk q41)) (if_neg hc54) ?_
      refine am_Go.n htb 2 (S' := (269, [some (.inr (.inr (some (10, 0)))), none, some (.inl q9), some (.inl q52), none, none], [.inl (-1)], am_mk q41)) rfl ?_
      cases h
      exact am_Go.rt htb rfl
  · rw [if_neg hc3] at h
    refine am_Go.c1 htb (S' := (17, [some (.inr (.inr (some (10, 0)))), some (.inl a1), none, none, none, none], [], am_mk (am_si m 10 0 0 0))) (if_neg hc3) ?_
    refine am_Go.n htb 1 (S' := (18, [some (.inr (.inr (some (10, 0)))), some (.inl a1), none, none, none, none], [.inl (-1)], am_mk (am_si m 10 0 0 0))) rfl ?_
    cases h
    exact am_Go.rt htb rfl
-- X10_few
def lp_X10_few_35 : Nat → Int32 → Int32 → Int32 → am_m → Option (am_m)
  | 0, _, _, _, _ => none
  | n + 1, x1, x2, x3, m =>
  (if (21 : Int32) ≤ x3 then some m else am_ck x3 21 (lp_X10_few_35 n x1 x2 (x3 + 1) (am_sg m 88 0 x3.toNatClampNeg (if x3 ≠ 0 then (0 : Int64) else (1000000000000 : Int64)))))
set_option maxRecDepth 100000 in
theorem lt_X10_few_35 (d : Nat) (hd : 2 ≤ d + 1) {r : Option am_V} {M' : am_M} {kc ks : Nat} {n : Nat} {x1 : Int32} {x2 : Int32} {x3 : Int32} {m : am_m} {t : am_m} (h : lp_X10_few_35 n x1 x2 x3 m = some t) (hk : am_Go d 281 (64, [some (.inr (.inr (some (10, 0)))), some (.inl x1), some (.inl x2), none, none, none, none, none], [], am_mk t) r M' kc ks) : am_Go d 281 (35, [some (.inr (.inr (some (10, 0)))), some (.inl x1), some (.inl x2), some (.inl x3), none, none, none, none], [], am_mk m) r M' kc ks := by
  have htb : am_tab 281 = at_281 := rfl
  induction n generalizing x3 m with
  | zero => cases h
  | succ n ih =>
    unfold lp_X10_few_35 at h
    refine am_Go.n htb 2 (S' := (38, [some (.inr (.inr (some (10, 0)))), some (.inl x1), some (.inl x2), some (.inl x3), none, none, none, none], [.inl 21, .inl x3], am_mk m)) rfl ?_
    by_cases hc7 : (21 : Int32) ≤ x3
    · rw [if_pos hc7] at h
      refine am_Go.c1 htb (S' := (64, [some (.inr (.inr (some (10, 0)))), some (.inl x1), some (.inl x2), some (.inl x3), none, none, none, none], [], am_mk m)) (if_pos hc7) ?_
      cases h
      exact am_Go.fg (by exact ⟨rfl, ⟨rfl, ⟨rfl, trivial⟩⟩⟩) hk
    · rw [if_neg hc7] at h
      refine am_Go.c1 htb (S' := (41, [some (.inr (.inr (some (10, 0)))), some (.inl x1), some (.inl x2), some (.inl x3), none, none, none, none], [], am_mk m)) (if_neg hc7) ?_
      refine am_Go.n htb 4 (S' := (47, [some (.inr (.inr (some (10, 0)))), some (.inl x1), some (.inl x2), some (.inl x3), none, none, none, none], [.inl x3, .inl x3, .inr (.inr (some (88, 0)))], am_mk m)) rfl ?_
      refine am_Go.cut (S := (57, [some (.inr (.inr (some (10, 0)))), some (.inl x1), some (.inl x2), some (.inl x3), none, none, none, none], [.inr (.inl (if x3 ≠ 0 then (0 : Int64) else (1000000000000 : Int64))), .inl x3, .inr (.inr (some (88, 0)))], am_mk m)) ?_ (fun key => ?_)
      · obtain ⟨hg9, h⟩ := am_ck_some h
        refine am_Go.c1 htb (S' := (58, [some (.inr (.inr (some (10, 0)))), some (.inl x1), some (.inl x2), some (.inl x3), none, none, none, none], [], am_mk (am_sg m 88 0 x3.toNatClampNeg (if x3 ≠ 0 then (0 : Int64) else (1000000000000 : Int64))))) (if_neg hg9) ?_
        refine am_Go.n htb 2 (S' := (35, [some (.inr (.inr (some (10, 0)))), some (.inl x1), some (.inl x2), some (.inl (x3 + 1)), none, none, none, none], [], am_mk (am_sg m 88 0 x3.toNatClampNeg (if x3 ≠ 0 then (0 : Int64) else (1000000000000 : Int64))))) rfl ?_
        first | exact ih h | exact ih h hk
      · by_cases hc8 : x3 ≠ 0
        · refine am_Go.c1 htb (S' := (56, [some (.inr (.inr (some (10, 0)))), some (.inl x1), some (.inl x2), some (.inl x3), none, none, none, none], [.inl x3, .inr (.inr (some (88, 0)))], am_mk m)) (if_pos hc8) ?_
          refine am_Go.n htb 1 (S' := (57, [some (.inr (.inr (some (10, 0)))), some (.inl x1), some (.inl x2), some (.inl x3), none, none, none, none], [.inr (.inl 0), .inl x3, .inr (.inr (some (88, 0)))], am_mk m)) rfl ?_
          simp only [if_pos hc8] at key
          exact am_Go.fg (by exact ⟨rfl, ⟨rfl, ⟨rfl, ⟨rfl, trivial⟩⟩⟩⟩) key
        · refine am_Go.c1 htb (S' := (50, [some (.inr (.inr (some (10, 0)))), some (.inl x1), some (.inl x2), some (.inl x3), none, none, none, none], [.inl x3, .inr (.inr (some (88, 0)))], am_mk m)) (if_neg hc8) ?_
          refine am_Go.n htb 2 (S' := (57, [some (.inr (.inr (some (10, 0)))), some (.inl x1), some (.inl x2), some (.inl x3), none, none, none, none], [.inr (.inl 1000000000000), .inl x3, .inr (.inr (some (88, 0)))], am_mk m)) rfl ?_
          simp only [if_neg hc8] at key
          exact am_Go.fg (by exact ⟨rfl, ⟨rfl, ⟨rfl, ⟨rfl, trivial⟩⟩⟩⟩) key
def lp_X10_few_85 : Nat → Int32 → Int32 → Int32 → Int32 → Int32 → am_m → Option (am_m)
  | 0, _, _, _, _, _, _ => none
  | n + 1, x1, x2, x3, x4, x5, m =>
  (if x5 < 0 then some m else am_ck x5 21 (am_gd (¬ (10 : Int64) = 0) (am_ck x5 21 (am_ck (x5 + (1 : Int32)) 21 (am_gd (¬ (10 : Int64) = 0) (am_ck (x5 + (1 : Int32)) 21 (lp_X10_few_85 n x1 x2 x3 x4 (x5 - 1) (am_sg (am_sg m 88 0 x5.toNatClampNeg (((m.2.1 88 0 x5.toNatClampNeg) * (((10 : Int32) - x3).toInt64)) / (10 : Int64))) 88 0 (x5 + (1 : Int32)).toNatClampNeg (((am_sg m 88 0 x5.toNatClampNeg (((m.2.1 88 0 x5.toNatClampNeg) * (((10 : Int32) - x3).toInt64)) / (10 : Int64))).2.1 88 0 (x5 + (1 : Int32)).toNatClampNeg) + (((m.2.1 88 0 x5.toNatClampNeg) * x3.toInt64) / (10 : Int64)))))))))))
set_option maxRecDepth 100000 in
theorem lt_X10_few_85 (d : Nat) (hd : 2 ≤ d + 1) {r : Option am_V} {M' : am_M} {kc ks : Nat} {n : Nat} {x1 : Int32} {x2 : Int32} {x3 : Int32} {x4 : Int32} {x5 : Int32} {m : am_m} {t : am_m} (h : lp_X10_few_85 n x1 x2 x3 x4 x5 m = some t) (hk : am_Go d 281 (145, [some (.inr (.inr (some (10, 0)))), some (.inl x1), some (.inl x2), some (.inl x3), some (.inl x4), none, none, none], [], am_mk t) r M' kc ks) : am_Go d 281 (85, [some (.inr (.inr (some (10, 0)))), some (.inl x1), some (.inl x2), some (.inl x3), some (.inl x4), some (.inl x5), none, none], [], am_mk m) r M' kc ks := by
  have htb : am_tab 281 = at_281 := rfl
  induction n generalizing x5 m with
  | zero => cases h
  | succ n ih =>
    unfold lp_X10_few_85 at h
    refine am_Go.n htb 1 (S' := (87, [some (.inr (.inr (some (10, 0)))), some (.inl x1), some (.inl x2), some (.inl x3), some (.inl x4), some (.inl x5), none, none], [.inl x5], am_mk m)) rfl ?_
    by_cases hc13 : x5 < 0
    · rw [if_pos hc13] at h
      refine am_Go.c1 htb (S' := (145, [some (.inr (.inr (some (10, 0)))), some (.inl x1), some (.inl x2), some (.inl x3), some (.inl x4), some (.inl x5), none, none], [], am_mk m)) (if_pos hc13) ?_
      cases h
      exact am_Go.fg (by exact ⟨rfl, ⟨rfl, ⟨rfl, ⟨rfl, ⟨rfl, trivial⟩⟩⟩⟩⟩) hk
    · rw [if_neg hc13] at h
      refine am_Go.c1 htb (S' := (90, [some (.inr (.inr (some (10, 0)))), some (.inl x1), some (.inl x2), some (.inl x3), some (.inl x4), some (.inl x5), none, none], [], am_mk m)) (if_neg hc13) ?_
      refine am_Go.n htb 3 (S' := (96, [some (.inr (.inr (some (10, 0)))), some (.inl x1), some (.inl x2), some (.inl x3), some (.inl x4), some (.inl x5), none, none], [.inl x5, .inr (.inr (some (88, 0)))], am_mk m)) rfl ?_
      obtain ⟨hg14, h⟩ := am_ck_some h
      refine am_Go.c1 htb (S' := (97, [some (.inr (.inr (some (10, 0)))), some (.inl x1), some (.inl x2), some (.inl x3), some (.inl x4), some (.inl x5), none, none], [.inr (.inl (m.2.1 88 0 x5.toNatClampNeg))], am_mk m)) (if_neg hg14) ?_
      refine am_Go.n htb 11 (S' := (116, [some (.inr (.inr (some (10, 0)))), some (.inl x1), some (.inl x2), some (.inl x3), some (.inl x4), some (.inl x5), some (.inr (.inl (m.2.1 88 0 x5.toNatClampNeg))), none], [.inr (.inl 10), .inr (.inl ((m.2.1 88 0 x5.toNatClampNeg) * (((10 : Int32) - x3).toInt64))), .inl x5, .inr (.inr (some (88, 0)))], am_mk m)) rfl ?_
      obtain ⟨hz15, h⟩ := am_gd_some h
      refine am_Go.c1 htb (S' := (117, [some (.inr (.inr (some (10, 0)))), some (.inl x1), some (.inl x2), some (.inl x3), some (.inl x4), some (.inl x5), some (.inr (.inl (m.2.1 88 0 x5.toNatClampNeg))), none], [.inr (.inl (((m.2.1 88 0 x5.toNatClampNeg) * (((10 : Int32) - x3).toInt64)) / (10 : Int64))), .inl x5, .inr (.inr (some (88, 0)))], am_mk m)) (if_neg hz15) ?_
      obtain ⟨hg16, h⟩ := am_ck_some h
      refine am_Go.c1 htb (S' := (118, [some (.inr (.inr (some (10, 0)))), some (.inl x1), some (.inl x2), some (.inl x3), some (.inl x4), some (.inl x5), some (.inr (.inl (m.2.1 88 0 x5.toNatClampNeg))), none], [], am_mk (am_sg m 88 0 x5.toNatClampNeg (((m.2.1 88 0 x5.toNatClampNeg) * (((10 : Int32) - x3).toInt64)) / (10 : Int64))))) (if_neg hg16) ?_
      refine am_Go.n htb 6 (S' := (127, [some (.inr (.inr (some (10, 0)))), some (.inl x1), some (.inl x2), some (.inl x3), some (.inl x4), some (.inl x5), some (.inr (.inl (m.2.1 88 0 x5.toNatClampNeg))), none], [.inl (x5 + (1 : Int32)), .inr (.inr (some (88, 0))), .inl (x5 + (1 : Int32)), .inr (.inr (some (88, 0)))], am_mk (am_sg m 88 0 x5.toNatClampNeg (((m.2.1 88 0 x5.toNatClampNeg) * (((10 : Int32) - x3).toInt64)) / (10 : Int64))))) rfl ?_
      obtain ⟨hg17, h⟩ := am_ck_some h
      refine am_Go.c1 htb (S' := (128, [some (.inr (.inr (some (10, 0)))), some (.inl x1), some (.inl x2), some (.inl x3), some (.inl x4), some (.inl x5), some (.inr (.inl (m.2.1 88 0 x5.toNatClampNeg))), none], [.inr (.inl ((am_sg m 88 0 x5.toNatClampNeg (((m.2.1 88 0 x5.toNatClampNeg) * (((10 : Int32) - x3).toInt64)) / (10 : Int64))).2.1 88 0 (x5 + (1 : Int32)).toNatClampNeg)), .inl (x5 + (1 : Int32)), .inr (.inr (some (88, 0)))], am_mk (am_sg m 88 0 x5.toNatClampNeg (((m.2.1 88 0 x5.toNatClampNeg) * (((10 : Int32) - x3).toInt64)) / (10 : Int64))))) (if_neg hg17) ?_
      refine am_Go.n htb 5 (S' := (136, [some (.inr (.inr (some (10, 0)))), some (.inl x1), some (.inl x2), some (.inl x3), some (.inl x4), some (.inl x5), some (.inr (.inl (m.2.1 88 0 x5.toNatClampNeg))), none], [.inr (.inl 10), .inr (.inl ((m.2.1 88 0 x5.toNatClampNeg) * x3.toInt64)), .inr (.inl ((am_sg m 88 0 x5.toNatClampNeg (((m.2.1 88 0 x5.toNatClampNeg) * (((10 : Int32) - x3).toInt64)) / (10 : Int64))).2.1 88 0 (x5 + (1 : Int32)).toNatClampNeg)), .inl (x5 + (1 : Int32)), .inr (.inr (some (88, 0)))], am_mk (am_sg m 88 0 x5.toNatClampNeg (((m.2.1 88 0 x5.toNatClampNeg) * (((10 : Int32) - x3).toInt64)) / (10 : Int64))))) rfl ?_
      obtain ⟨hz18, h⟩ := am_gd_some h
      refine am_Go.c1 htb (S' := (137, [some (.inr (.inr (some (10, 0)))), some (.inl x1), some (.inl x2), some (.inl x3), some (.inl x4), some (.inl x5), some (.inr (.inl (m.2.1 88 0 x5.toNatClampNeg))), none], [.inr (.inl (((m.2.1 88 0 x5.toNatClampNeg) * x3.toInt64) / (10 : Int64))), .inr (.inl ((am_sg m 88 0 x5.toNatClampNeg (((m.2.1 88 0 x5.toNatClampNeg) * (((10 : Int32) - x3).toInt64)) / (10 : Int64))).2.1 88 0 (x5 + (1 : Int32)).toNatClampNeg)), .inl (x5 + (1 : Int32)), .inr (.inr (some (88, 0)))], am_mk (am_sg m 88 0 x5.toNatClampNeg (((m.2.1 88 0 x5.toNatClampNeg) * (((10 : Int32) - x3).toInt64)) / (10 : Int64))))) (if_neg hz18) ?_
      refine am_Go.n htb 1 (S' := (138, [some (.inr (.inr (some (10, 0)))), some (.inl x1), some (.inl x2), some (.inl x3), some (.inl x4), some (.inl x5), some (.inr (.inl (m.2.1 88 0 x5.toNatClampNeg))), none], [.inr (.inl (((am_sg m 88 0 x5.toNatClampNeg (((m.2.1 88 0 x5.toNatClampNeg) * (((10 : Int32) - x3).toInt64)) / (10 : Int64))).2.1 88 0 (x5 + (1 : Int32)).toNatClampNeg) + (((m.2.1 88 0 x5.toNatClampNeg) * x3.toInt64) / (10 : Int64)))), .inl (x5 + (1 : Int32)), .inr (.inr (some (88, 0)))], am_mk (am_sg m 88 0 x5.toNatClampNeg (((m.2.1 88 0 x5.toNatClampNeg) * (((10 : Int32) - x3).toInt64)) / (10 : Int64))))) rfl ?_
      obtain ⟨hg19, h⟩ := am_ck_some h
      refine am_Go.c1 htb (S' := (139, [some (.inr (.inr (some (10, 0)))), some (.inl x1), some (.inl x2), some (.inl x3), some (.inl x4), some (.inl x5), some (.inr (.inl (m.2.1 88 0 x5.toNatClampNeg))), none], [], am_mk (am_sg (am_sg m 88 0 x5.toNatClampNeg (((m.2.1 88 0 x5.toNatClampNeg) * (((10 : Int32) - x3).toInt64)) / (10 : Int64))) 88 0 (x5 + (1 : Int32)).toNatClampNeg (((am_sg m 88 0 x5.toNatClampNeg (((m.2.1 88 0 x5.toNatClampNeg) * (((10 : Int32) - x3).toInt64)) / (10 : Int64))).2.1 88 0 (x5 + (1 : Int32)).toNatClampNeg) + (((m.2.1 88 0 x5.toNatClampNeg) * x3.toInt64) / (10 : Int64)))))) (if_neg hg19) ?_
      refine am_Go.o htb (am_o_inc 5 (-1)) rfl (S' := (142, [some (.inr (.inr (some (10, 0)))), some (.inl x1), some (.inl x2), some (.inl x3), some (.inl x4), some (.inl (x5 - 1)), some (.inr (.inl (m.2.1 88 0 x5.toNatClampNeg))), none], [], am_mk (am_sg (am_sg m 88 0 x5.toNatClampNeg (((m.2.1 88 0 x5.toNatClampNeg) * (((10 : Int32) - x3).toInt64)) / (10 : Int64))) 88 0 (x5 + (1 : Int32)).toNatClampNeg (((am_sg m 88 0 x5.toNatClampNeg (((m.2.1 88 0 x5.toNatClampNeg) * (((10 : Int32) - x3).toInt64)) / (10 : Int64))).2.1 88 0 (x5 + (1 : Int32)).toNatClampNeg) + (((m.2.1 88 0 x5.toNatClampNeg) * x3.toInt64) / (10 : Int64)))))) (am_incn rfl rfl) ?_
      refine am_Go.n htb 1 (S' := (85, [some (.inr (.inr (some (10, 0)))), some (.inl x1), some (.inl x2), some (.inl x3), some (.inl x4), some (.inl (x5 - 1)), some (.inr (.inl (m.2.1 88 0 x5.toNatClampNeg))), none], [], am_mk (am_sg (am_sg m 88 0 x5.toNatClampNeg (((m.2.1 88 0 x5.toNatClampNeg) * (((10 : Int32) - x3).toInt64)) / (10 : Int64))) 88 0 (x5 + (1 : Int32)).toNatClampNeg (((am_sg m 88 0 x5.toNatClampNeg (((m.2.1 88 0 x5.toNatClampNeg) * (((10 : Int32) - x3).toInt64)) / (10 : Int64))).2.1 88 0 (x5 + (1 : Int32)).toNatClampNeg) + (((m.2.1 88 0 x5.toNatClampNeg) * x3.toInt64) / (10 : Int64)))))) rfl ?_
      refine am_Go.fg (L0 := [some (.inr (.inr (some (10, 0)))), some (.inl x1), some (.inl x2), some (.inl x3), some (.inl x4), some (.inl (x5 - 1)), none, none]) (by exact ⟨rfl, ⟨rfl, ⟨rfl, ⟨rfl, ⟨rfl, ⟨rfl, trivial⟩⟩⟩⟩⟩⟩) ?_
      first | exact ih h | exact ih h hk
def lp_X10_few_74 : Nat → Int32 → Int32 → Int32 → Int32 → am_m → Option (am_m)
  | 0, _, _, _, _, _ => none
  | n + 1, x1, x2, x3, x4, m =>
  (if x2 ≤ x4 then some m else (lp_X10_few_85 1000000 x1 x2 x3 x4 (x1 - (1 : Int32)) m).bind fun q20 => lp_X10_few_74 n x1 x2 x3 (x4 + 1) q20)
set_option maxRecDepth 100000 in
theorem lt_X10_few_74 (d : Nat) (hd : 2 ≤ d + 1) {r : Option am_V} {M' : am_M} {kc ks : Nat} {n : Nat} {x1 : Int32} {x2 : Int32} {x3 : Int32} {x4 : Int32} {m : am_m} {t : am_m} (h : lp_X10_few_74 n x1 x2 x3 x4 m = some t) (hk : am_Go d 281 (151, [some (.inr (.inr (some (10, 0)))), some (.inl x1), some (.inl x2), some (.inl x3), none, none, none, none], [], am_mk t) r M' kc ks) : am_Go d 281 (74, [some (.inr (.inr (some (10, 0)))), some (.inl x1), some (.inl x2), some (.inl x3), some (.inl x4), none, none, none], [], am_mk m) r M' kc ks := by
  have htb : am_tab 281 = at_281 := rfl
  induction n generalizing x4 m with
  | zero => cases h
  | succ n ih =>
    unfold lp_X10_few_74 at h
    refine am_Go.n htb 2 (S' := (77, [some (.inr (.inr (some (10, 0)))), some (.inl x1), some (.inl x2), some (.inl x3), some (.inl x4), none, none, none], [.inl x2, .inl x4], am_mk m)) rfl ?_
    by_cases hc12 : x2 ≤ x4
    · rw [if_pos hc12] at h
      refine am_Go.c1 htb (S' := (151, [some (.inr (.inr (some (10, 0)))), some (.inl x1), some (.inl x2), some (.inl x3), some (.inl x4), none, none, none], [], am_mk m)) (if_pos hc12) ?_
      cases h
      exact am_Go.fg (by exact ⟨rfl, ⟨rfl, ⟨rfl, ⟨rfl, trivial⟩⟩⟩⟩) hk
    · rw [if_neg hc12] at h
      refine am_Go.c1 htb (S' := (80, [some (.inr (.inr (some (10, 0)))), some (.inl x1), some (.inl x2), some (.inl x3), some (.inl x4), none, none, none], [], am_mk m)) (if_neg hc12) ?_
      refine am_Go.n htb 4 (S' := (85, [some (.inr (.inr (some (10, 0)))), some (.inl x1), some (.inl x2), some (.inl x3), some (.inl x4), some (.inl (x1 - (1 : Int32))), none, none], [], am_mk m)) rfl ?_
      obtain ⟨q20, h21, h⟩ := am_bd h
      refine lt_X10_few_85 _ hd (h := h21) (hk := ?_)
      refine am_Go.n htb 2 (S' := (74, [some (.inr (.inr (some (10, 0)))), some (.inl x1), some (.inl x2), some (.inl x3), some (.inl (x4 + 1)), none, none, none], [], am_mk q20)) rfl ?_
      first | exact ih h | exact ih h hk
def lp_X10_few_157 : Nat → Int32 → Int64 → Int32 → am_m → Option (Int64)
  | 0, _, _, _, _ => none
  | n + 1, x1, x4, x6, m =>
  (if x1 ≤ x6 then some x4 else am_ck x6 21 (lp_X10_few_157 n x1 (x4 + (m.2.1 88 0 x6.toNatClampNeg)) (x6 + 1) m))
set_option maxRecDepth 100000 in
theorem lt_X10_few_157 (d : Nat) (hd : 2 ≤ d + 1) {r : Option am_V} {M' : am_M} {kc ks : Nat} {n : Nat} {x1 : Int32} {x4 : Int64} {x6 : Int32} {m : am_m} {t : Int64} (h : lp_X10_few_157 n x1 x4 x6 m = some t) (hk : am_Go d 281 (181, [some (.inr (.inr (some (10, 0)))), some (.inl x1), none, none, some (.inr (.inl t)), none, none, none], [], am_mk m) r M' kc ks) : am_Go d 281 (157, [some (.inr (.inr (some (10, 0)))), some (.inl x1), none, none, some (.inr (.inl x4)), none, some (.inl x6), none], [], am_mk m) r M' kc ks := by
  have htb : am_tab 281 = at_281 := rfl
  induction n generalizing x4 x6 with
  | zero => cases h
  | succ n ih =>
    unfold lp_X10_few_157 at h
    refine am_Go.n htb 2 (S' := (160, [some (.inr (.inr (some (10, 0)))), some (.inl x1), none, none, some (.inr (.inl x4)), none, some (.inl x6), none], [.inl x1, .inl x6], am_mk m)) rfl ?_
    by_cases hc24 : x1 ≤ x6
    · rw [if_pos hc24] at h
      refine am_Go.c1 htb (S' := (181, [some (.inr (.inr (some (10, 0)))), some (.inl x1), none, none, some (.inr (.inl x4)), none, some (.inl x6), none], [], am_mk m)) (if_pos hc24) ?_
      cases h
      exact am_Go.fg (by exact ⟨rfl, ⟨rfl, ⟨rfl, trivial⟩⟩⟩) hk
    · rw [if_neg hc24] at h
      refine am_Go.c1 htb (S' := (163, [some (.inr (.inr (some (10, 0)))), some (.inl x1), none, none, some (.inr (.inl x4)), none, some (.inl x6), none], [], am_mk m)) (if_neg hc24) ?_
      refine am_Go.n htb 4 (S' := (171, [some (.inr (.inr (some (10, 0)))), some (.inl x1), none, none, some (.inr (.inl x4)), none, some (.inl x6), none], [.inl x6, .inr (.inr (some (88, 0))), .inr (.inl x4)], am_mk m)) rfl ?_
      obtain ⟨hg25, h⟩ := am_ck_some h
      refine am_Go.c1 htb (S' := (172, [some (.inr (.inr (some (10, 0)))), some (.inl x1), none, none, some (.inr (.inl x4)), none, some (.inl x6), none], [.inr (.inl (m.2.1 88 0 x6.toNatClampNeg)), .inr (.inl x4)], am_mk m)) (if_neg hg25) ?_
      refine am_Go.n htb 4 (S' := (157, [some (.inr (.inr (some (10, 0)))), some (.inl x1), none, none, some (.inr (.inl (x4 + (m.2.1 88 0 x6.toNatClampNeg)))), none, some (.inl (x6 + 1)), none], [], am_mk m)) rfl ?_
      first | exact ih h | exact ih h hk
def fn_X10_few (a1 : Int32) (a2 : Int32) (m : am_m) : Option (Int64 × am_m) :=
  (fn_X10_in a1.toInt64 1 20 (am_si m 10 0 0 0)).bind fun r1 => (if r1 = 0 then some ((-1), am_si m 10 0 0 0) else (fn_X10_in a2.toInt64 0 99 (am_si m 10 0 0 0)).bind fun r4 => (if r4 ≠ 0 then (lp_X10_few_35 1000000 a1 a2 0 (am_si m 10 0 0 0)).bind fun q10 => (lp_X10_few_74 1000000 a1 a2 (q10.1 44 0 5) 0 q10).bind fun q22 => (lp_X10_few_157 1000000 a1 0 0 q22).bind fun q26 => some (q26, q22) else some ((-1), am_si m 10 0 0 0)))
set_option maxRecDepth 100000 in
theorem ex_X10_few (d : Nat) (hd : 2 ≤ d) (a1 : Int32) (a2 : Int32) (m : am_m) (t : Int64 × am_m) (h : fn_X10_few a1 a2 m = some t) : am_Ex am_cod d 281 [.inr (.inr (some (10, 0))), .inl a1, .inl a2] (am_mk m) (some (.inr (.inl t.1))) (am_mk t.2) 0 0 := by
  obtain ⟨d, rfl⟩ : ∃ e, d = e + 1 := ⟨d - 1, by omega⟩
  have htb : am_tab 281 = at_281 := rfl
  refine ⟨Nat.le_of_ble_eq_true rfl, ?_⟩
  unfold fn_X10_few at h
  show am_Go d 281 (0, [some (.inr (.inr (some (10, 0)))), some (.inl a1), some (.inl a2), none, none, none, none, none], [], am_mk m) _ _ 0 0
  refine am_Go.n htb 7 (S' := (11, [some (.inr (.inr (some (10, 0)))), some (.inl a1), some (.inl a2), none, none, none, none, none], [.inr (.inl 20), .inr (.inl 1), .inr (.inl a1.toInt64)], am_mk (am_si m 10 0 0 0))) rfl ?_
  obtain ⟨r1, h2, h⟩ := am_bd h
  refine am_Go.cl htb rfl (ex_X10_in d (by omega) a1.toInt64 1 20 (am_si m 10 0 0 0) r1 h2) ?_
  show am_Go d 281 (14, [some (.inr (.inr (some (10, 0)))), some (.inl a1), some (.inl a2), none, none, none, none, none], [.inl r1], am_mk (am_si m 10 0 0 0)) _ _ _ _
  by_cases hc3 : r1 = 0
  · rw [if_pos hc3] at h
    refine am_Go.c1 htb (S' := (29, [some (.inr (.inr (some (10, 0)))), some (.inl a1), some (.inl a2), none, none, none, none, none], [], am_mk (am_si m 10 0 0 0))) (if_pos hc3) ?_
    refine am_Go.n htb 1 (S' := (32, [some (.inr (.inr (some (10, 0)))), some (.inl a1), some (.inl a2), none, none, none, none, none], [.inr (.inl (-1))], am_mk (am_si m 10 0 0 0))) rfl ?_
    cases h
    exact am_Go.rt htb rfl
  · rw [if_neg hc3] at h
    refine am_Go.c1 htb (S' := (17, [some (.inr (.inr (some (10, 0)))), some (.inl a1), some (.inl a2), none, none, none, none, none], [], am_mk (am_si m 10 0 0 0))) (if_neg hc3) ?_
    refine am_Go.n htb 4 (S' := (23, [some (.inr (.inr (some (10, 0)))), some (.inl a1), some (.inl a2), none, none, none, none, none], [.inr (.inl 99), .inr (.inl 0), .inr (.inl a2.toInt64)], am_mk (am_si m 10 0 0 0))) rfl ?_
    obtain ⟨r4, h5, h⟩ := am_bd h
    refine am_Go.cl htb rfl (ex_X10_in d (by omega) a2.toInt64 0 99 (am_si m 10 0 0 0) r4 h5) ?_
    show am_Go d 281 (26, [some (.inr (.inr (some (10, 0)))), some (.inl a1), some (.inl a2), none, none, none, none, none], [.inl r4], am_mk (am_si m 10 0 0 0)) _ _ _ _
    by_cases hc6 : r4 ≠ 0
    · rw [if_pos hc6] at h
      refine am_Go.c1 htb (S' := (33, [some (.inr (.inr (some (10, 0)))), some (.inl a1), some (.inl a2), none, none, none, none, none], [], am_mk (am_si m 10 0 0 0))) (if_pos hc6) ?_
      refine am_Go.n htb 2 (S' := (35, [some (.inr (.inr (some (10, 0)))), some (.inl a1), some (.inl a2), some (.inl 0), none, none, none, none], [], am_mk (am_si m 10 0 0 0))) rfl ?_
      obtain ⟨q10, h11, h⟩ := am_bd h
      refine lt_X10_few_35 _ hd (h := h11) (hk := ?_)
      refine am_Go.n htb 7 (S' := (74, [some (.inr (.inr (some (10, 0)))), some (.inl a1), some (.inl a2), some (.inl (q10.1 44 0 5)), some (.inl 0), none, none, none], [], am_mk q10)) rfl ?_
      obtain ⟨q22, h23, h⟩ := am_bd h
      refine lt_X10_few_74 _ hd (h := h23) (hk := ?_)
      refine am_Go.n htb 4 (S' := (157, [some (.inr (.inr (some (10, 0)))), some (.inl a1), some (.inl a2), some (.inl (q10.1 44 0 5)), some (.inr (.inl 0)), none, some (.inl 0), none], [], am_mk q22)) rfl ?_
      refine am_Go.fg (L0 := [some (.inr (.inr (some (10, 0)))), some (.inl a1), none, none, some (.inr (.inl 0)), none, some (.inl 0), none]) (by exact ⟨rfl, ⟨rfl, ⟨rfl, ⟨rfl, trivial⟩⟩⟩⟩) ?_
      obtain ⟨q26, h27, h⟩ := am_bd h
      refine lt_X10_few_157 _ hd (h := h27) (hk := ?_)
      refine am_Go.n htb 1 (S' := (183, [some (.inr (.inr (some (10, 0)))), some (.inl a1), none, none, some (.inr (.inl q26)), none, none, none], [.inr (.inl q26)], am_mk q22)) rfl ?_
      cases h
      exact am_Go.rt htb rfl
    · rw [if_neg hc6] at h
      refine am_Go.c1 htb (S' := (29, [some (.inr (.inr (some (10, 0)))), some (.inl a1), some (.inl a2), none, none, none, none, none], [], am_mk (am_si m 10 0 0 0))) (if_neg hc6) ?_
      refine am_Go.n htb 1 (S' := (32, [some (.inr (.inr (some (10, 0)))), some (.inl a1), some (.inl a2), none, none, none, none, none], [.inr (.inl (-1))], am_mk (am_si m 10 0 0 0))) rfl ?_
      cases h
      exact am_Go.rt htb rfl
-- X10_compare
def fn_X10_compare (a1 : Int32) (m : am_m) : Option (Int32 × am_m) :=
  (fn_X10_isLaw a1 (am_si m 10 0 0 0)).bind fun r1 => (if r1 ≠ 0 then (fn_X10_layMay  (am_si (am_si m 10 0 0 0) 44 0 3 a1)).bind fun r4 => (fn_X10_largestSet  (am_si r4 44 0 3 ((am_si m 10 0 0 0).1 44 0 3))).bind fun r6 => (fn_X10_ones r6 (am_si r4 44 0 3 ((am_si m 10 0 0 0).1 44 0 3))).bind fun r8 => some (r8, am_si r4 44 0 3 ((am_si m 10 0 0 0).1 44 0 3)) else some ((-1), am_si m 10 0 0 0))
set_option maxRecDepth 100000 in
theorem ex_X10_compare (d : Nat) (hd : 9 ≤ d) (a1 : Int32) (m : am_m) (t : Int32 × am_m) (h : fn_X10_compare a1 m = some t) : am_Ex am_cod d 282 [.inr (.inr (some (10, 0))), .inl a1] (am_mk m) (some (.inl t.1)) (am_mk t.2) 0 0 := by
  obtain ⟨d, rfl⟩ : ∃ e, d = e + 1 := ⟨d - 1, by omega⟩
  have htb : am_tab 282 = at_282 := rfl
  refine ⟨Nat.le_of_ble_eq_true rfl, ?_⟩
  unfold fn_X10_compare at h
  show am_Go d 282 (0, [some (.inr (.inr (some (10, 0)))), some (.inl a1), none], [], am_mk m) _ _ 0 0
  refine am_Go.n htb 5 (S' := (7, [some (.inr (.inr (some (10, 0)))), some (.inl a1), none], [.inl a1, .inr (.inr (some (10, 0)))], am_mk (am_si m 10 0 0 0))) rfl ?_
  obtain ⟨r1, h2, h⟩ := am_bd h
  refine am_Go.cl htb rfl (ex_X10_isLaw d (by omega) a1 (am_si m 10 0 0 0) r1 h2) ?_
  show am_Go d 282 (10, [some (.inr (.inr (some (10, 0)))), some (.inl a1), none], [.inl r1], am_mk (am_si m 10 0 0 0)) _ _ _ _
  by_cases hc3 : r1 ≠ 0
  · rw [if_pos hc3] at h
    refine am_Go.c1 htb (S' := (15, [some (.inr (.inr (some (10, 0)))), some (.inl a1), none], [], am_mk (am_si m 10 0 0 0))) (if_pos hc3) ?_
    refine am_Go.n htb 11 (S' := (30, [some (.inr (.inr (some (10, 0)))), some (.inl a1), some (.inl ((am_si m 10 0 0 0).1 44 0 3))], [.inr (.inr (some (10, 0)))], am_mk (am_si (am_si m 10 0 0 0) 44 0 3 a1))) rfl ?_
    obtain ⟨r4, h5, h⟩ := am_bd h
    refine am_Go.cl htb rfl (ex_X10_layMay d (by omega)  (am_si (am_si m 10 0 0 0) 44 0 3 a1) r4 h5) ?_
    show am_Go d 282 (33, [some (.inr (.inr (some (10, 0)))), some (.inl a1), some (.inl ((am_si m 10 0 0 0).1 44 0 3))], [], am_mk r4) _ _ _ _
    refine am_Go.n htb 6 (S' := (41, [some (.inr (.inr (some (10, 0)))), some (.inl a1), some (.inl ((am_si m 10 0 0 0).1 44 0 3))], [.inr (.inr (some (10, 0)))], am_mk (am_si r4 44 0 3 ((am_si m 10 0 0 0).1 44 0 3)))) rfl ?_
    obtain ⟨r6, h7, h⟩ := am_bd h
    refine am_Go.cl htb rfl (ex_X10_largestSet d (by omega)  (am_si r4 44 0 3 ((am_si m 10 0 0 0).1 44 0 3)) r6 h7) ?_
    show am_Go d 282 (44, [some (.inr (.inr (some (10, 0)))), some (.inl a1), some (.inl ((am_si m 10 0 0 0).1 44 0 3))], [.inl r6], am_mk (am_si r4 44 0 3 ((am_si m 10 0 0 0).1 44 0 3))) _ _ _ _
    obtain ⟨r8, h9, h⟩ := am_bd h
    refine am_Go.cl htb rfl (ex_X10_ones d (by omega) r6 (am_si r4 44 0 3 ((am_si m 10 0 0 0).1 44 0 3)) r8 h9) ?_
    show am_Go d 282 (47, [some (.inr (.inr (some (10, 0)))), some (.inl a1), some (.inl ((am_si m 10 0 0 0).1 44 0 3))], [.inl r8], am_mk (am_si r4 44 0 3 ((am_si m 10 0 0 0).1 44 0 3))) _ _ _ _
    cases h
    exact am_Go.rt htb rfl
  · rw [if_neg hc3] at h
    refine am_Go.c1 htb (S' := (13, [some (.inr (.inr (some (10, 0)))), some (.inl a1), none], [], am_mk (am_si m 10 0 0 0))) (if_neg hc3) ?_
    refine am_Go.n htb 1 (S' := (14, [some (.inr (.inr (some (10, 0)))), some (.inl a1), none], [.inl (-1)], am_mk (am_si m 10 0 0 0))) rfl ?_
    cases h
    exact am_Go.rt htb rfl
-- X10_readSum
def fn_X10_readSum (a1 : Int32) (m : am_m) : Option (am_m) :=
  am_ck a1 120 ((if ((am_si m 61 0 a1.toNatClampNeg (m.1 10 0 23)).1 10 0 19) ≠ 0 then some (am_si m 61 0 a1.toNatClampNeg (m.1 10 0 23)) else (fn_X10_readExpression 0 (am_si m 61 0 a1.toNatClampNeg (m.1 10 0 23))).bind fun r3 => some r3).bind fun q5 => am_ck (a1 + (1 : Int32)) 120 (some (am_si q5 61 0 (a1 + (1 : Int32)).toNatClampNeg (q5.1 10 0 23))))
set_option maxRecDepth 100000 in
theorem ex_X10_readSum (d : Nat) (hd : 8 ≤ d) (a1 : Int32) (m : am_m) (t : am_m) (h : fn_X10_readSum a1 m = some t) : am_Ex am_cod d 283 [.inr (.inr (some (10, 0))), .inl a1] (am_mk m) (none) (am_mk t) 0 0 := by
  obtain ⟨d, rfl⟩ : ∃ e, d = e + 1 := ⟨d - 1, by omega⟩
  have htb : am_tab 283 = at_283 := rfl
  refine ⟨Nat.le_of_ble_eq_true rfl, ?_⟩
  unfold fn_X10_readSum at h
  show am_Go d 283 (0, [some (.inr (.inr (some (10, 0)))), some (.inl a1)], [], am_mk m) _ _ 0 0
  refine am_Go.n htb 5 (S' := (9, [some (.inr (.inr (some (10, 0)))), some (.inl a1)], [.inl (m.1 10 0 23), .inl a1, .inr (.inr (some (61, 0)))], am_mk m)) rfl ?_
  obtain ⟨hg1, h⟩ := am_ck_some h
  refine am_Go.c1 htb (S' := (10, [some (.inr (.inr (some (10, 0)))), some (.inl a1)], [], am_mk (am_si m 61 0 a1.toNatClampNeg (m.1 10 0 23)))) (if_neg hg1) ?_
  refine am_Go.n htb 2 (S' := (14, [some (.inr (.inr (some (10, 0)))), some (.inl a1)], [.inl ((am_si m 61 0 a1.toNatClampNeg (m.1 10 0 23)).1 10 0 19)], am_mk (am_si m 61 0 a1.toNatClampNeg (m.1 10 0 23)))) rfl ?_
  obtain ⟨q5, h7, h⟩ := am_bd h
  refine am_Go.cut (S := (22, [some (.inr (.inr (some (10, 0)))), some (.inl a1)], [], am_mk q5)) ?_ (fun key => ?_)
  · refine am_Go.n htb 7 (S' := (33, [some (.inr (.inr (some (10, 0)))), some (.inl a1)], [.inl (q5.1 10 0 23), .inl (a1 + (1 : Int32)), .inr (.inr (some (61, 0)))], am_mk q5)) rfl ?_
    obtain ⟨hg6, h⟩ := am_ck_some h
    refine am_Go.c1 htb (S' := (34, [some (.inr (.inr (some (10, 0)))), some (.inl a1)], [], am_mk (am_si q5 61 0 (a1 + (1 : Int32)).toNatClampNeg (q5.1 10 0 23)))) (if_neg hg6) ?_
    cases h
    exact am_Go.rt htb rfl
  · have h := h7
    by_cases hc2 : ((am_si m 61 0 a1.toNatClampNeg (m.1 10 0 23)).1 10 0 19) ≠ 0
    · rw [if_pos hc2] at h
      refine am_Go.c1 htb (S' := (22, [some (.inr (.inr (some (10, 0)))), some (.inl a1)], [], am_mk (am_si m 61 0 a1.toNatClampNeg (m.1 10 0 23)))) (if_pos hc2) ?_
      cases h
      exact am_Go.fg (by exact ⟨rfl, ⟨rfl, trivial⟩⟩) key
    · rw [if_neg hc2] at h
      refine am_Go.c1 htb (S' := (17, [some (.inr (.inr (some (10, 0)))), some (.inl a1)], [], am_mk (am_si m 61 0 a1.toNatClampNeg (m.1 10 0 23)))) (if_neg hc2) ?_
      refine am_Go.n htb 2 (S' := (19, [some (.inr (.inr (some (10, 0)))), some (.inl a1)], [.inl 0, .inr (.inr (some (10, 0)))], am_mk (am_si m 61 0 a1.toNatClampNeg (m.1 10 0 23)))) rfl ?_
      obtain ⟨r3, h4, h⟩ := am_bd h
      refine am_Go.cl htb rfl (ex_X10_readExpression d (by omega) 0 (am_si m 61 0 a1.toNatClampNeg (m.1 10 0 23)) r3 h4) ?_
      show am_Go d 283 (22, [some (.inr (.inr (some (10, 0)))), some (.inl a1)], [], am_mk r3) _ _ _ _
      cases h
      exact am_Go.fg (by exact ⟨rfl, ⟨rfl, trivial⟩⟩) key
-- X10_readBehind
def fn_X10_readBehind (a1 : Int64) (a2 : Int32) (m : am_m) : Option (am_m) :=
  (if (m.1 10 0 19) ≠ 0 then some m else (fn_X10_isWord a1 m).bind fun r2 => (fn_X10_must r2 m).bind fun r4 => some r4).bind fun q6 => (fn_X10_readSum a2 q6).bind fun r7 => some r7
set_option maxRecDepth 100000 in
theorem ex_X10_readBehind (d : Nat) (hd : 9 ≤ d) (a1 : Int64) (a2 : Int32) (m : am_m) (t : am_m) (h : fn_X10_readBehind a1 a2 m = some t) : am_Ex am_cod d 284 [.inr (.inr (some (10, 0))), .inr (.inl a1), .inl a2] (am_mk m) (none) (am_mk t) 0 0 := by
  obtain ⟨d, rfl⟩ : ∃ e, d = e + 1 := ⟨d - 1, by omega⟩
  have htb : am_tab 284 = at_284 := rfl
  refine ⟨Nat.le_of_ble_eq_true rfl, ?_⟩
  unfold fn_X10_readBehind at h
  show am_Go d 284 (0, [some (.inr (.inr (some (10, 0)))), some (.inr (.inl a1)), none, some (.inl a2)], [], am_mk m) _ _ 0 0
  refine am_Go.n htb 2 (S' := (4, [some (.inr (.inr (some (10, 0)))), some (.inr (.inl a1)), none, some (.inl a2)], [.inl (m.1 10 0 19)], am_mk m)) rfl ?_
  obtain ⟨q6, h9, h⟩ := am_bd h
  refine am_Go.cut (S := (16, [some (.inr (.inr (some (10, 0)))), some (.inr (.inl a1)), none, some (.inl a2)], [], am_mk q6)) ?_ (fun key => ?_)
  · refine am_Go.n htb 2 (S' := (18, [some (.inr (.inr (some (10, 0)))), some (.inr (.inl a1)), none, some (.inl a2)], [.inl a2, .inr (.inr (some (10, 0)))], am_mk q6)) rfl ?_
    obtain ⟨r7, h8, h⟩ := am_bd h
    refine am_Go.cl htb rfl (ex_X10_readSum d (by omega) a2 q6 r7 h8) ?_
    show am_Go d 284 (21, [some (.inr (.inr (some (10, 0)))), some (.inr (.inl a1)), none, some (.inl a2)], [], am_mk r7) _ _ _ _
    cases h
    exact am_Go.rt htb rfl
  · have h := h9
    by_cases hc1 : (m.1 10 0 19) ≠ 0
    · rw [if_pos hc1] at h
      refine am_Go.c1 htb (S' := (16, [some (.inr (.inr (some (10, 0)))), some (.inr (.inl a1)), none, some (.inl a2)], [], am_mk m)) (if_pos hc1) ?_
      cases h
      exact am_Go.fg (by exact ⟨rfl, ⟨rfl, ⟨rfl, trivial⟩⟩⟩) key
    · rw [if_neg hc1] at h
      refine am_Go.c1 htb (S' := (7, [some (.inr (.inr (some (10, 0)))), some (.inr (.inl a1)), none, some (.inl a2)], [], am_mk m)) (if_neg hc1) ?_
      refine am_Go.n htb 3 (S' := (10, [some (.inr (.inr (some (10, 0)))), some (.inr (.inl a1)), none, some (.inl a2)], [.inr (.inl a1), .inr (.inr (some (10, 0))), .inr (.inr (some (10, 0)))], am_mk m)) rfl ?_
      obtain ⟨r2, h3, h⟩ := am_bd h
      refine am_Go.cl htb rfl (ex_X10_isWord d (by omega) a1 m r2 h3) ?_
      show am_Go d 284 (13, [some (.inr (.inr (some (10, 0)))), some (.inr (.inl a1)), none, some (.inl a2)], [.inl r2, .inr (.inr (some (10, 0)))], am_mk m) _ _ _ _
      obtain ⟨r4, h5, h⟩ := am_bd h
      refine am_Go.cl htb rfl (ex_X10_must d (by omega) r2 m r4 h5) ?_
      show am_Go d 284 (16, [some (.inr (.inr (some (10, 0)))), some (.inr (.inl a1)), none, some (.inl a2)], [], am_mk r4) _ _ _ _
      cases h
      exact am_Go.fg (by exact ⟨rfl, ⟨rfl, ⟨rfl, trivial⟩⟩⟩) key
-- X10_readOrder
def lp_X10_readOrder_4 : Nat → Int32 → Int32 → am_m → Option (Int32)
  | 0, _, _, _ => none
  | n + 1, x1, x2, m =>
  (if (4 : Int32) ≤ x2 then some x1 else am_ck x2 4 ((fn_X10_isWord (m.2.1 89 0 x2.toNatClampNeg) m).bind fun r3 => lp_X10_readOrder_4 n (if r3 = 0 then x1 else x2) (x2 + 1) m))
set_option maxRecDepth 100000 in
theorem lt_X10_readOrder_4 (d : Nat) (hd : 10 ≤ d + 1) {r : Option am_V} {M' : am_M} {kc ks : Nat} {n : Nat} {x1 : Int32} {x2 : Int32} {m : am_m} {t : Int32} (h : lp_X10_readOrder_4 n x1 x2 m = some t) (hk : am_Go d 285 (34, [some (.inr (.inr (some (10, 0)))), some (.inl t), none, none], [], am_mk m) r M' kc ks) : am_Go d 285 (4, [some (.inr (.inr (some (10, 0)))), some (.inl x1), some (.inl x2), none], [], am_mk m) r M' kc ks := by
  have htb : am_tab 285 = at_285 := rfl
  induction n generalizing x1 x2 with
  | zero => cases h
  | succ n ih =>
    unfold lp_X10_readOrder_4 at h
    refine am_Go.n htb 2 (S' := (6, [some (.inr (.inr (some (10, 0)))), some (.inl x1), some (.inl x2), none], [.inl 4, .inl x2], am_mk m)) rfl ?_
    by_cases hc1 : (4 : Int32) ≤ x2
    · rw [if_pos hc1] at h
      refine am_Go.c1 htb (S' := (34, [some (.inr (.inr (some (10, 0)))), some (.inl x1), some (.inl x2), none], [], am_mk m)) (if_pos hc1) ?_
      cases h
      exact am_Go.fg (by exact ⟨rfl, ⟨rfl, trivial⟩⟩) hk
    · rw [if_neg hc1] at h
      refine am_Go.c1 htb (S' := (9, [some (.inr (.inr (some (10, 0)))), some (.inl x1), some (.inl x2), none], [], am_mk m)) (if_neg hc1) ?_
      refine am_Go.n htb 4 (S' := (15, [some (.inr (.inr (some (10, 0)))), some (.inl x1), some (.inl x2), none], [.inl x2, .inr (.inr (some (89, 0))), .inr (.inr (some (10, 0)))], am_mk m)) rfl ?_
      obtain ⟨hg2, h⟩ := am_ck_some h
      refine am_Go.c1 htb (S' := (16, [some (.inr (.inr (some (10, 0)))), some (.inl x1), some (.inl x2), none], [.inr (.inl (m.2.1 89 0 x2.toNatClampNeg)), .inr (.inr (some (10, 0)))], am_mk m)) (if_neg hg2) ?_
      obtain ⟨r3, h4, h⟩ := am_bd h
      refine am_Go.cl htb rfl (ex_X10_isWord d (by omega) (m.2.1 89 0 x2.toNatClampNeg) m r3 h4) ?_
      show am_Go d 285 (19, [some (.inr (.inr (some (10, 0)))), some (.inl x1), some (.inl x2), none], [.inl r3], am_mk m) _ _ _ _
      refine am_Go.cut (S := (27, [some (.inr (.inr (some (10, 0)))), some (.inl x1), some (.inl x2), none], [.inl (if r3 = 0 then x1 else x2)], am_mk m)) ?_ (fun key => ?_)
      · refine am_Go.n htb 3 (S' := (4, [some (.inr (.inr (some (10, 0)))), some (.inl (if r3 = 0 then x1 else x2)), some (.inl (x2 + 1)), none], [], am_mk m)) rfl ?_
        first | exact ih h | exact ih h hk
      · by_cases hc5 : r3 = 0
        · refine am_Go.c1 htb (S' := (26, [some (.inr (.inr (some (10, 0)))), some (.inl x1), some (.inl x2), none], [], am_mk m)) (if_pos hc5) ?_
          refine am_Go.n htb 1 (S' := (27, [some (.inr (.inr (some (10, 0)))), some (.inl x1), some (.inl x2), none], [.inl x1], am_mk m)) rfl ?_
          simp only [if_pos hc5] at key
          exact am_Go.fg (by exact ⟨rfl, ⟨rfl, ⟨rfl, trivial⟩⟩⟩) key
        · refine am_Go.c1 htb (S' := (22, [some (.inr (.inr (some (10, 0)))), some (.inl x1), some (.inl x2), none], [], am_mk m)) (if_neg hc5) ?_
          refine am_Go.n htb 2 (S' := (27, [some (.inr (.inr (some (10, 0)))), some (.inl x1), some (.inl x2), none], [.inl x2], am_mk m)) rfl ?_
          simp only [if_neg hc5] at key
          exact am_Go.fg (by exact ⟨rfl, ⟨rfl, ⟨rfl, trivial⟩⟩⟩) key
def lp_X10_readOrder_85 : Nat → Int32 → Int32 → Int32 → am_m → Option (am_m)
  | 0, _, _, _, _ => none
  | n + 1, x1, x2, x3, m =>
  (if (10 : Int32) ≤ x3 then some m else am_ck (x2 + x3) 120 (lp_X10_readOrder_85 n x1 x2 (x3 + 1) (am_si m 61 0 (x2 + x3).toNatClampNeg 0)))
set_option maxRecDepth 100000 in
theorem lt_X10_readOrder_85 (d : Nat) (hd : 10 ≤ d + 1) {r : Option am_V} {M' : am_M} {kc ks : Nat} {n : Nat} {x1 : Int32} {x2 : Int32} {x3 : Int32} {m : am_m} {t : am_m} (h : lp_X10_readOrder_85 n x1 x2 x3 m = some t) (hk : am_Go d 285 (106, [some (.inr (.inr (some (10, 0)))), some (.inl x1), some (.inl x2), none], [], am_mk t) r M' kc ks) : am_Go d 285 (85, [some (.inr (.inr (some (10, 0)))), some (.inl x1), some (.inl x2), some (.inl x3)], [], am_mk m) r M' kc ks := by
  have htb : am_tab 285 = at_285 := rfl
  induction n generalizing x3 m with
  | zero => cases h
  | succ n ih =>
    unfold lp_X10_readOrder_85 at h
    refine am_Go.n htb 2 (S' := (88, [some (.inr (.inr (some (10, 0)))), some (.inl x1), some (.inl x2), some (.inl x3)], [.inl 10, .inl x3], am_mk m)) rfl ?_
    by_cases hc14 : (10 : Int32) ≤ x3
    · rw [if_pos hc14] at h
      refine am_Go.c1 htb (S' := (106, [some (.inr (.inr (some (10, 0)))), some (.inl x1), some (.inl x2), some (.inl x3)], [], am_mk m)) (if_pos hc14) ?_
      cases h
      exact am_Go.fg (by exact ⟨rfl, ⟨rfl, ⟨rfl, trivial⟩⟩⟩) hk
    · rw [if_neg hc14] at h
      refine am_Go.c1 htb (S' := (91, [some (.inr (.inr (some (10, 0)))), some (.inl x1), some (.inl x2), some (.inl x3)], [], am_mk m)) (if_neg hc14) ?_
      refine am_Go.n htb 6 (S' := (99, [some (.inr (.inr (some (10, 0)))), some (.inl x1), some (.inl x2), some (.inl x3)], [.inl 0, .inl (x2 + x3), .inr (.inr (some (61, 0)))], am_mk m)) rfl ?_
      obtain ⟨hg15, h⟩ := am_ck_some h
      refine am_Go.c1 htb (S' := (100, [some (.inr (.inr (some (10, 0)))), some (.inl x1), some (.inl x2), some (.inl x3)], [], am_mk (am_si m 61 0 (x2 + x3).toNatClampNeg 0))) (if_neg hg15) ?_
      refine am_Go.n htb 2 (S' := (85, [some (.inr (.inr (some (10, 0)))), some (.inl x1), some (.inl x2), some (.inl (x3 + 1))], [], am_mk (am_si m 61 0 (x2 + x3).toNatClampNeg 0))) rfl ?_
      first | exact ih h | exact ih h hk
def fn_X10_readOrder  (m : am_m) : Option (am_m) :=
  (lp_X10_readOrder_4 1000000 (-1) 0 m).bind fun q6 => (if q6 = (-1 : Int32) then some 0 else (if (12 : Int32) ≤ (m.1 10 0 21) then some 0 else some 1)).bind fun q10 => (fn_X10_must q10 m).bind fun r11 => (if (r11.1 10 0 19) = 0 then (lp_X10_readOrder_85 1000000 q6 ((10 : Int32) * (r11.1 10 0 21)) 0 (am_si r11 10 0 21 ((r11.1 10 0 21) + (1 : Int32)))).bind fun q16 => am_ck ((10 : Int32) * (r11.1 10 0 21)) 120 ((if q6 = (3 : Int32) then some (am_si q16 61 0 ((10 : Int32) * (r11.1 10 0 21)).toNatClampNeg q6) else (fn_X10_readSum (((10 : Int32) * (r11.1 10 0 21)) + (1 : Int32)) (am_si q16 61 0 ((10 : Int32) * (r11.1 10 0 21)).toNatClampNeg q6)).bind fun r20 => some r20).bind fun q22 => (if q6 = 0 then (fn_X10_readBehind 655 (((10 : Int32) * (r11.1 10 0 21)) + (3 : Int32)) q22).bind fun r24 => some r24 else (if q6 ≠ (2 : Int32) then some q22 else (fn_X10_readBehind 655 (((10 : Int32) * (r11.1 10 0 21)) + (3 : Int32)) q22).bind fun r27 => some r27)).bind fun q29 => (if q6 ≠ 0 then some q29 else (fn_X10_readBehind 89 (((10 : Int32) * (r11.1 10 0 21)) + (5 : Int32)) q29).bind fun r31 => some r31).bind fun q33 => am_ck (((10 : Int32) * (r11.1 10 0 21)) + (9 : Int32)) 120 ((if ((am_si q33 61 0 (((10 : Int32) * (r11.1 10 0 21)) + (9 : Int32)).toNatClampNeg 1).1 10 0 19) ≠ 0 then some (am_si q33 61 0 (((10 : Int32) * (r11.1 10 0 21)) + (9 : Int32)).toNatClampNeg 1) else (fn_X10_isWord 21279923 (am_si q33 61 0 (((10 : Int32) * (r11.1 10 0 21)) + (9 : Int32)).toNatClampNeg 1)).bind fun r36 => (if r36 = 0 then some (am_si q33 61 0 (((10 : Int32) * (r11.1 10 0 21)) + (9 : Int32)).toNatClampNeg 1) else (fn_X10_next  (am_si q33 61 0 (((10 : Int32) * (r11.1 10 0 21)) + (9 : Int32)).toNatClampNeg 1)).bind fun r39 => (fn_X10_number 1 20 r39).bind fun r41 => am_ck (((10 : Int32) * (r11.1 10 0 21)) + (9 : Int32)) 120 (some (am_si r41.2 61 0 (((10 : Int32) * (r11.1 10 0 21)) + (9 : Int32)).toNatClampNeg r41.1)))).bind fun q44 => am_ck (((10 : Int32) * (r11.1 10 0 21)) + (7 : Int32)) 120 ((if ((am_si q44 61 0 (((10 : Int32) * (r11.1 10 0 21)) + (7 : Int32)).toNatClampNeg (q44.1 10 0 23)).1 10 0 19) ≠ 0 then some (am_si q44 61 0 (((10 : Int32) * (r11.1 10 0 21)) + (7 : Int32)).toNatClampNeg (q44.1 10 0 23)) else (fn_X10_isWord 294 (am_si q44 61 0 (((10 : Int32) * (r11.1 10 0 21)) + (7 : Int32)).toNatClampNeg (q44.1 10 0 23))).bind fun r47 => (if r47 = 0 then some (am_si q44 61 0 (((10 : Int32) * (r11.1 10 0 21)) + (7 : Int32)).toNatClampNeg (q44.1 10 0 23)) else (fn_X10_next  (am_si q44 61 0 (((10 : Int32) * (r11.1 10 0 21)) + (7 : Int32)).toNatClampNeg (q44.1 10 0 23))).bind fun r50 => (fn_X10_readExpression 1 r50).bind fun r52 => some r52)).bind fun q54 => am_ck (((10 : Int32) * (r11.1 10 0 21)) + (8 : Int32)) 120 (some (am_si q54 61 0 (((10 : Int32) * (r11.1 10 0 21)) + (8 : Int32)).toNatClampNeg (q54.1 10 0 23)))))) else some r11)
set_option maxRecDepth 100000 in
theorem ex_X10_readOrder (d : Nat) (hd : 10 ≤ d)  (m : am_m) (t : am_m) (h : fn_X10_readOrder  m = some t) : am_Ex am_cod d 285 [.inr (.inr (some (10, 0)))] (am_mk m) (none) (am_mk t) 0 0 := by
  obtain ⟨d, rfl⟩ : ∃ e, d = e + 1 := ⟨d - 1, by omega⟩
  have htb : am_tab 285 = at_285 := rfl
  refine ⟨Nat.le_of_ble_eq_true rfl, ?_⟩
  unfold fn_X10_readOrder at h
  show am_Go d 285 (0, [some (.inr (.inr (some (10, 0)))), none, none, none], [], am_mk m) _ _ 0 0
  refine am_Go.n htb 4 (S' := (4, [some (.inr (.inr (some (10, 0)))), some (.inl (-1)), some (.inl 0), none], [], am_mk m)) rfl ?_
  obtain ⟨q6, h7, h⟩ := am_bd h
  refine lt_X10_readOrder_4 _ hd (h := h7) (hk := ?_)
  refine am_Go.n htb 3 (S' := (37, [some (.inr (.inr (some (10, 0)))), some (.inl q6), none, none], [.inl (-1), .inl q6, .inr (.inr (some (10, 0)))], am_mk m)) rfl ?_
  obtain ⟨q10, h61, h⟩ := am_bd h
  refine am_Go.cut (S := (54, [some (.inr (.inr (some (10, 0)))), some (.inl q6), none, none], [.inl q10, .inr (.inr (some (10, 0)))], am_mk m)) ?_ (fun key => ?_)
  · obtain ⟨r11, h12, h⟩ := am_bd h
    refine am_Go.cl htb rfl (ex_X10_must d (by omega) q10 m r11 h12) ?_
    show am_Go d 285 (57, [some (.inr (.inr (some (10, 0)))), some (.inl q6), none, none], [], am_mk r11) _ _ _ _
    refine am_Go.n htb 2 (S' := (61, [some (.inr (.inr (some (10, 0)))), some (.inl q6), none, none], [.inl (r11.1 10 0 19)], am_mk r11)) rfl ?_
    by_cases hc13 : (r11.1 10 0 19) = 0
    · rw [if_pos hc13] at h
      refine am_Go.c1 htb (S' := (65, [some (.inr (.inr (some (10, 0)))), some (.inl q6), none, none], [], am_mk r11)) (if_pos hc13) ?_
      refine am_Go.n htb 13 (S' := (85, [some (.inr (.inr (some (10, 0)))), some (.inl q6), some (.inl ((10 : Int32) * (r11.1 10 0 21))), some (.inl 0)], [], am_mk (am_si r11 10 0 21 ((r11.1 10 0 21) + (1 : Int32))))) rfl ?_
      obtain ⟨q16, h17, h⟩ := am_bd h
      refine lt_X10_readOrder_85 _ hd (h := h17) (hk := ?_)
      refine am_Go.n htb 4 (S' := (112, [some (.inr (.inr (some (10, 0)))), some (.inl q6), some (.inl ((10 : Int32) * (r11.1 10 0 21))), none], [.inl q6, .inl ((10 : Int32) * (r11.1 10 0 21)), .inr (.inr (some (61, 0)))], am_mk q16)) rfl ?_
      obtain ⟨hg18, h⟩ := am_ck_some h
      refine am_Go.c1 htb (S' := (113, [some (.inr (.inr (some (10, 0)))), some (.inl q6), some (.inl ((10 : Int32) * (r11.1 10 0 21))), none], [], am_mk (am_si q16 61 0 ((10 : Int32) * (r11.1 10 0 21)).toNatClampNeg q6))) (if_neg hg18) ?_
      refine am_Go.n htb 2 (S' := (115, [some (.inr (.inr (some (10, 0)))), some (.inl q6), some (.inl ((10 : Int32) * (r11.1 10 0 21))), none], [.inl 3, .inl q6], am_mk (am_si q16 61 0 ((10 : Int32) * (r11.1 10 0 21)).toNatClampNeg q6))) rfl ?_
      obtain ⟨q22, h60, h⟩ := am_bd h
      refine am_Go.cut (S := (125, [some (.inr (.inr (some (10, 0)))), some (.inl q6), some (.inl ((10 : Int32) * (r11.1 10 0 21))), none], [], am_mk q22)) ?_ (fun key => ?_)
      · refine am_Go.n htb 1 (S' := (126, [some (.inr (.inr (some (10, 0)))), some (.inl q6), some (.inl ((10 : Int32) * (r11.1 10 0 21))), none], [.inl q6], am_mk q22)) rfl ?_
        obtain ⟨q29, h59, h⟩ := am_bd h
        refine am_Go.cut (S := (144, [some (.inr (.inr (some (10, 0)))), some (.inl q6), some (.inl ((10 : Int32) * (r11.1 10 0 21))), none], [], am_mk q29)) ?_ (fun key => ?_)
        · refine am_Go.n htb 1 (S' := (145, [some (.inr (.inr (some (10, 0)))), some (.inl q6), some (.inl ((10 : Int32) * (r11.1 10 0 21))), none], [.inl q6], am_mk q29)) rfl ?_
          obtain ⟨q33, h58, h⟩ := am_bd h
          refine am_Go.cut (S := (158, [some (.inr (.inr (some (10, 0)))), some (.inl q6), some (.inl ((10 : Int32) * (r11.1 10 0 21))), none], [], am_mk q33)) ?_ (fun key => ?_)
          · refine am_Go.n htb 6 (S' := (167, [some (.inr (.inr (some (10, 0)))), some (.inl q6), some (.inl ((10 : Int32) * (r11.1 10 0 21))), none], [.inl 1, .inl (((10 : Int32) * (r11.1 10 0 21)) + (9 : Int32)), .inr (.inr (some (61, 0)))], am_mk q33)) rfl ?_
            obtain ⟨hg34, h⟩ := am_ck_some h
            refine am_Go.c1 htb (S' := (168, [some (.inr (.inr (some (10, 0)))), some (.inl q6), some (.inl ((10 : Int32) * (r11.1 10 0 21))), none], [], am_mk (am_si q33 61 0 (((10 : Int32) * (r11.1 10 0 21)) + (9 : Int32)).toNatClampNeg 1))) (if_neg hg34) ?_
            refine am_Go.n htb 2 (S' := (172, [some (.inr (.inr (some (10, 0)))), some (.inl q6), some (.inl ((10 : Int32) * (r11.1 10 0 21))), none], [.inl ((am_si q33 61 0 (((10 : Int32) * (r11.1 10 0 21)) + (9 : Int32)).toNatClampNeg 1).1 10 0 19)], am_mk (am_si q33 61 0 (((10 : Int32) * (r11.1 10 0 21)) + (9 : Int32)).toNatClampNeg 1))) rfl ?_
            obtain ⟨q44, h57, h⟩ := am_bd h
            refine am_Go.cut (S := (206, [some (.inr (.inr (some (10, 0)))), some (.inl q6), some (.inl ((10 : Int32) * (r11.1 10 0 21))), none], [], am_mk q44)) ?_ (fun key => ?_)
            · refine am_Go.n htb 7 (S' := (218, [some (.inr (.inr (some (10, 0)))), some (.inl q6), some (.inl ((10 : Int32) * (r11.1 10 0 21))), none], [.inl (q44.1 10 0 23), .inl (((10 : Int32) * (r11.1 10 0 21)) + (7 : Int32)), .inr (.inr (some (61, 0)))], am_mk q44)) rfl ?_
              obtain ⟨hg45, h⟩ := am_ck_some h
              refine am_Go.c1 htb (S' := (219, [some (.inr (.inr (some (10, 0)))), some (.inl q6), some (.inl ((10 : Int32) * (r11.1 10 0 21))), none], [], am_mk (am_si q44 61 0 (((10 : Int32) * (r11.1 10 0 21)) + (7 : Int32)).toNatClampNeg (q44.1 10 0 23)))) (if_neg hg45) ?_
              refine am_Go.n htb 2 (S' := (223, [some (.inr (.inr (some (10, 0)))), some (.inl q6), some (.inl ((10 : Int32) * (r11.1 10 0 21))), none], [.inl ((am_si q44 61 0 (((10 : Int32) * (r11.1 10 0 21)) + (7 : Int32)).toNatClampNeg (q44.1 10 0 23)).1 10 0 19)], am_mk (am_si q44 61 0 (((10 : Int32) * (r11.1 10 0 21)) + (7 : Int32)).toNatClampNeg (q44.1 10 0 23)))) rfl ?_
              obtain ⟨q54, h56, h⟩ := am_bd h
              refine am_Go.cut (S := (245, [some (.inr (.inr (some (10, 0)))), some (.inl q6), some (.inl ((10 : Int32) * (r11.1 10 0 21))), none], [], am_mk q54)) ?_ (fun key => ?_)
              · refine am_Go.n htb 7 (S' := (257, [some (.inr (.inr (some (10, 0)))), some (.inl q6), some (.inl ((10 : Int32) * (r11.1 10 0 21))), none], [.inl (q54.1 10 0 23), .inl (((10 : Int32) * (r11.1 10 0 21)) + (8 : Int32)), .inr (.inr (some (61, 0)))], am_mk q54)) rfl ?_
                obtain ⟨hg55, h⟩ := am_ck_some h
                refine am_Go.c1 htb (S' := (258, [some (.inr (.inr (some (10, 0)))), some (.inl q6), some (.inl ((10 : Int32) * (r11.1 10 0 21))), none], [], am_mk (am_si q54 61 0 (((10 : Int32) * (r11.1 10 0 21)) + (8 : Int32)).toNatClampNeg (q54.1 10 0 23)))) (if_neg hg55) ?_
                cases h
                exact am_Go.rt htb rfl
              · have h := h56
                by_cases hc46 : ((am_si q44 61 0 (((10 : Int32) * (r11.1 10 0 21)) + (7 : Int32)).toNatClampNeg (q44.1 10 0 23)).1 10 0 19) ≠ 0
                · rw [if_pos hc46] at h
                  refine am_Go.c1 htb (S' := (245, [some (.inr (.inr (some (10, 0)))), some (.inl q6), some (.inl ((10 : Int32) * (r11.1 10 0 21))), none], [], am_mk (am_si q44 61 0 (((10 : Int32) * (r11.1 10 0 21)) + (7 : Int32)).toNatClampNeg (q44.1 10 0 23)))) (if_pos hc46) ?_
                  cases h
                  exact am_Go.fg (by exact ⟨rfl, ⟨rfl, ⟨rfl, trivial⟩⟩⟩) key
                · rw [if_neg hc46] at h
                  refine am_Go.c1 htb (S' := (226, [some (.inr (.inr (some (10, 0)))), some (.inl q6), some (.inl ((10 : Int32) * (r11.1 10 0 21))), none], [], am_mk (am_si q44 61 0 (((10 : Int32) * (r11.1 10 0 21)) + (7 : Int32)).toNatClampNeg (q44.1 10 0 23)))) (if_neg hc46) ?_
                  refine am_Go.n htb 2 (S' := (230, [some (.inr (.inr (some (10, 0)))), some (.inl q6), some (.inl ((10 : Int32) * (r11.1 10 0 21))), none], [.inr (.inl 294), .inr (.inr (some (10, 0)))], am_mk (am_si q44 61 0 (((10 : Int32) * (r11.1 10 0 21)) + (7 : Int32)).toNatClampNeg (q44.1 10 0 23)))) rfl ?_
                  obtain ⟨r47, h48, h⟩ := am_bd h
                  refine am_Go.cl htb rfl (ex_X10_isWord d (by omega) 294 (am_si q44 61 0 (((10 : Int32) * (r11.1 10 0 21)) + (7 : Int32)).toNatClampNeg (q44.1 10 0 23)) r47 h48) ?_
                  show am_Go d 285 (233, [some (.inr (.inr (some (10, 0)))), some (.inl q6), some (.inl ((10 : Int32) * (r11.1 10 0 21))), none], [.inl r47], am_mk (am_si q44 61 0 (((10 : Int32) * (r11.1 10 0 21)) + (7 : Int32)).toNatClampNeg (q44.1 10 0 23))) _ _ _ _
                  by_cases hc49 : r47 = 0
                  · rw [if_pos hc49] at h
                    refine am_Go.c1 htb (S' := (245, [some (.inr (.inr (some (10, 0)))), some (.inl q6), some (.inl ((10 : Int32) * (r11.1 10 0 21))), none], [], am_mk (am_si q44 61 0 (((10 : Int32) * (r11.1 10 0 21)) + (7 : Int32)).toNatClampNeg (q44.1 10 0 23)))) (if_pos hc49) ?_
                    cases h
                    exact am_Go.fg (by exact ⟨rfl, ⟨rfl, ⟨rfl, trivial⟩⟩⟩) key
                  · rw [if_neg hc49] at h
                    refine am_Go.c1 htb (S' := (236, [some (.inr (.inr (some (10, 0)))), some (.inl q6), some (.inl ((10 : Int32) * (r11.1 10 0 21))), none], [], am_mk (am_si q44 61 0 (((10 : Int32) * (r11.1 10 0 21)) + (7 : Int32)).toNatClampNeg (q44.1 10 0 23)))) (if_neg hc49) ?_
                    refine am_Go.n htb 1 (S' := (237, [some (.inr (.inr (some (10, 0)))), some (.inl q6), some (.inl ((10 : Int32) * (r11.1 10 0 21))), none], [.inr (.inr (some (10, 0)))], am_mk (am_si q44 61 0 (((10 : Int32) * (r11.1 10 0 21)) + (7 : Int32)).toNatClampNeg (q44.1 10 0 23)))) rfl ?_
                    obtain ⟨r50, h51, h⟩ := am_bd h
                    refine am_Go.cl htb rfl (ex_X10_next d (by omega)  (am_si q44 61 0 (((10 : Int32) * (r11.1 10 0 21)) + (7 : Int32)).toNatClampNeg (q44.1 10 0 23)) r50 h51) ?_
                    show am_Go d 285 (240, [some (.inr (.inr (some (10, 0)))), some (.inl q6), some (.inl ((10 : Int32) * (r11.1 10 0 21))), none], [], am_mk r50) _ _ _ _
                    refine am_Go.n htb 2 (S' := (242, [some (.inr (.inr (some (10, 0)))), some (.inl q6), some (.inl ((10 : Int32) * (r11.1 10 0 21))), none], [.inl 1, .inr (.inr (some (10, 0)))], am_mk r50)) rfl ?_
                    obtain ⟨r52, h53, h⟩ := am_bd h
                    refine am_Go.cl htb rfl (ex_X10_readExpression d (by omega) 1 r50 r52 h53) ?_
                    show am_Go d 285 (245, [some (.inr (.inr (some (10, 0)))), some (.inl q6), some (.inl ((10 : Int32) * (r11.1 10 0 21))), none], [], am_mk r52) _ _ _ _
                    cases h
                    exact am_Go.fg (by exact ⟨rfl, ⟨rfl, ⟨rfl, trivial⟩⟩⟩) key
            · have h := h57
              by_cases hc35 : ((am_si q33 61 0 (((10 : Int32) * (r11.1 10 0 21)) + (9 : Int32)).toNatClampNeg 1).1 10 0 19) ≠ 0
              · rw [if_pos hc35] at h
                refine am_Go.c1 htb (S' := (206, [some (.inr (.inr (some (10, 0)))), some (.inl q6), some (.inl ((10 : Int32) * (r11.1 10 0 21))), none], [], am_mk (am_si q33 61 0 (((10 : Int32) * (r11.1 10 0 21)) + (9 : Int32)).toNatClampNeg 1))) (if_pos hc35) ?_
                cases h
                exact am_Go.fg (by exact ⟨rfl, ⟨rfl, ⟨rfl, trivial⟩⟩⟩) key
              · rw [if_neg hc35] at h
                refine am_Go.c1 htb (S' := (175, [some (.inr (.inr (some (10, 0)))), some (.inl q6), some (.inl ((10 : Int32) * (r11.1 10 0 21))), none], [], am_mk (am_si q33 61 0 (((10 : Int32) * (r11.1 10 0 21)) + (9 : Int32)).toNatClampNeg 1))) (if_neg hc35) ?_
                refine am_Go.n htb 2 (S' := (179, [some (.inr (.inr (some (10, 0)))), some (.inl q6), some (.inl ((10 : Int32) * (r11.1 10 0 21))), none], [.inr (.inl 21279923), .inr (.inr (some (10, 0)))], am_mk (am_si q33 61 0 (((10 : Int32) * (r11.1 10 0 21)) + (9 : Int32)).toNatClampNeg 1))) rfl ?_
                obtain ⟨r36, h37, h⟩ := am_bd h
                refine am_Go.cl htb rfl (ex_X10_isWord d (by omega) 21279923 (am_si q33 61 0 (((10 : Int32) * (r11.1 10 0 21)) + (9 : Int32)).toNatClampNeg 1) r36 h37) ?_
                show am_Go d 285 (182, [some (.inr (.inr (some (10, 0)))), some (.inl q6), some (.inl ((10 : Int32) * (r11.1 10 0 21))), none], [.inl r36], am_mk (am_si q33 61 0 (((10 : Int32) * (r11.1 10 0 21)) + (9 : Int32)).toNatClampNeg 1)) _ _ _ _
                by_cases hc38 : r36 = 0
                · rw [if_pos hc38] at h
                  refine am_Go.c1 htb (S' := (206, [some (.inr (.inr (some (10, 0)))), some (.inl q6), some (.inl ((10 : Int32) * (r11.1 10 0 21))), none], [], am_mk (am_si q33 61 0 (((10 : Int32) * (r11.1 10 0 21)) + (9 : Int32)).toNatClampNeg 1))) (if_pos hc38) ?_
                  cases h
                  exact am_Go.fg (by exact ⟨rfl, ⟨rfl, ⟨rfl, trivial⟩⟩⟩) key
                · rw [if_neg hc38] at h
                  refine am_Go.c1 htb (S' := (185, [some (.inr (.inr (some (10, 0)))), some (.inl q6), some (.inl ((10 : Int32) * (r11.1 10 0 21))), none], [], am_mk (am_si q33 61 0 (((10 : Int32) * (r11.1 10 0 21)) + (9 : Int32)).toNatClampNeg 1))) (if_neg hc38) ?_
                  refine am_Go.n htb 1 (S' := (186, [some (.inr (.inr (some (10, 0)))), some (.inl q6), some (.inl ((10 : Int32) * (r11.1 10 0 21))), none], [.inr (.inr (some (10, 0)))], am_mk (am_si q33 61 0 (((10 : Int32) * (r11.1 10 0 21)) + (9 : Int32)).toNatClampNeg 1))) rfl ?_
                  obtain ⟨r39, h40, h⟩ := am_bd h
                  refine am_Go.cl htb rfl (ex_X10_next d (by omega)  (am_si q33 61 0 (((10 : Int32) * (r11.1 10 0 21)) + (9 : Int32)).toNatClampNeg 1) r39 h40) ?_
                  show am_Go d 285 (189, [some (.inr (.inr (some (10, 0)))), some (.inl q6), some (.inl ((10 : Int32) * (r11.1 10 0 21))), none], [], am_mk r39) _ _ _ _
                  refine am_Go.n htb 8 (S' := (202, [some (.inr (.inr (some (10, 0)))), some (.inl q6), some (.inl ((10 : Int32) * (r11.1 10 0 21))), none], [.inr (.inl 20), .inr (.inl 1), .inr (.inr (some (10, 0))), .inl (((10 : Int32) * (r11.1 10 0 21)) + (9 : Int32)), .inr (.inr (some (61, 0)))], am_mk r39)) rfl ?_
                  obtain ⟨r41, h42, h⟩ := am_bd h
                  refine am_Go.cl htb rfl (ex_X10_number d (by omega) 1 20 r39 r41 h42) ?_
                  show am_Go d 285 (205, [some (.inr (.inr (some (10, 0)))), some (.inl q6), some (.inl ((10 : Int32) * (r11.1 10 0 21))), none], [.inl r41.1, .inl (((10 : Int32) * (r11.1 10 0 21)) + (9 : Int32)), .inr (.inr (some (61, 0)))], am_mk r41.2) _ _ _ _
                  obtain ⟨hg43, h⟩ := am_ck_some h
                  refine am_Go.c1 htb (S' := (206, [some (.inr (.inr (some (10, 0)))), some (.inl q6), some (.inl ((10 : Int32) * (r11.1 10 0 21))), none], [], am_mk (am_si r41.2 61 0 (((10 : Int32) * (r11.1 10 0 21)) + (9 : Int32)).toNatClampNeg r41.1))) (if_neg hg43) ?_
                  cases h
                  exact am_Go.fg (by exact ⟨rfl, ⟨rfl, ⟨rfl, trivial⟩⟩⟩) key
          · have h := h58
            by_cases hc30 : q6 ≠ 0
            · rw [if_pos hc30] at h
              refine am_Go.c1 htb (S' := (158, [some (.inr (.inr (some (10, 0)))), some (.inl q6), some (.inl ((10 : Int32) * (r11.1 10 0 21))), none], [], am_mk q29)) (if_pos hc30) ?_
              cases h
              exact am_Go.fg (by exact ⟨rfl, ⟨rfl, ⟨rfl, trivial⟩⟩⟩) key
            · rw [if_neg hc30] at h
              refine am_Go.c1 htb (S' := (148, [some (.inr (.inr (some (10, 0)))), some (.inl q6), some (.inl ((10 : Int32) * (r11.1 10 0 21))), none], [], am_mk q29)) (if_neg hc30) ?_
              refine am_Go.n htb 5 (S' := (155, [some (.inr (.inr (some (10, 0)))), some (.inl q6), some (.inl ((10 : Int32) * (r11.1 10 0 21))), none], [.inl (((10 : Int32) * (r11.1 10 0 21)) + (5 : Int32)), .inr (.inl 89), .inr (.inr (some (10, 0)))], am_mk q29)) rfl ?_
              obtain ⟨r31, h32, h⟩ := am_bd h
              refine am_Go.cl htb rfl (ex_X10_readBehind d (by omega) 89 (((10 : Int32) * (r11.1 10 0 21)) + (5 : Int32)) q29 r31 h32) ?_
              show am_Go d 285 (158, [some (.inr (.inr (some (10, 0)))), some (.inl q6), some (.inl ((10 : Int32) * (r11.1 10 0 21))), none], [], am_mk r31) _ _ _ _
              cases h
              exact am_Go.fg (by exact ⟨rfl, ⟨rfl, ⟨rfl, trivial⟩⟩⟩) key
        · have h := h59
          by_cases hc23 : q6 = 0
          · rw [if_pos hc23] at h
            refine am_Go.c1 htb (S' := (134, [some (.inr (.inr (some (10, 0)))), some (.inl q6), some (.inl ((10 : Int32) * (r11.1 10 0 21))), none], [], am_mk q22)) (if_pos hc23) ?_
            refine am_Go.n htb 5 (S' := (141, [some (.inr (.inr (some (10, 0)))), some (.inl q6), some (.inl ((10 : Int32) * (r11.1 10 0 21))), none], [.inl (((10 : Int32) * (r11.1 10 0 21)) + (3 : Int32)), .inr (.inl 655), .inr (.inr (some (10, 0)))], am_mk q22)) rfl ?_
            obtain ⟨r24, h25, h⟩ := am_bd h
            refine am_Go.cl htb rfl (ex_X10_readBehind d (by omega) 655 (((10 : Int32) * (r11.1 10 0 21)) + (3 : Int32)) q22 r24 h25) ?_
            show am_Go d 285 (144, [some (.inr (.inr (some (10, 0)))), some (.inl q6), some (.inl ((10 : Int32) * (r11.1 10 0 21))), none], [], am_mk r24) _ _ _ _
            cases h
            exact am_Go.fg (by exact ⟨rfl, ⟨rfl, ⟨rfl, trivial⟩⟩⟩) key
          · rw [if_neg hc23] at h
            refine am_Go.c1 htb (S' := (129, [some (.inr (.inr (some (10, 0)))), some (.inl q6), some (.inl ((10 : Int32) * (r11.1 10 0 21))), none], [], am_mk q22)) (if_neg hc23) ?_
            refine am_Go.n htb 2 (S' := (131, [some (.inr (.inr (some (10, 0)))), some (.inl q6), some (.inl ((10 : Int32) * (r11.1 10 0 21))), none], [.inl 2, .inl q6], am_mk q22)) rfl ?_
            by_cases hc26 : q6 ≠ (2 : Int32)
            · rw [if_pos hc26] at h
              refine am_Go.c1 htb (S' := (144, [some (.inr (.inr (some (10, 0)))), some (.inl q6), some (.inl ((10 : Int32) * (r11.1 10 0 21))), none], [], am_mk q22)) (if_pos hc26) ?_
              cases h
              exact am_Go.fg (by exact ⟨rfl, ⟨rfl, ⟨rfl, trivial⟩⟩⟩) key
            · rw [if_neg hc26] at h
              refine am_Go.c1 htb (S' := (134, [some (.inr (.inr (some (10, 0)))), some (.inl q6), some (.inl ((10 : Int32) * (r11.1 10 0 21))), none], [], am_mk q22)) (if_neg hc26) ?_
              refine am_Go.n htb 5 (S' := (141, [some (.inr (.inr (some (10, 0)))), some (.inl q6), some (.inl ((10 : Int32) * (r11.1 10 0 21))), none], [.inl (((10 : Int32) * (r11.1 10 0 21)) + (3 : Int32)), .inr (.inl 655), .inr (.inr (some (10, 0)))], am_mk q22)) rfl ?_
              obtain ⟨r27, h28, h⟩ := am_bd h
              refine am_Go.cl htb rfl (ex_X10_readBehind d (by omega) 655 (((10 : Int32) * (r11.1 10 0 21)) + (3 : Int32)) q22 r27 h28) ?_
              show am_Go d 285 (144, [some (.inr (.inr (some (10, 0)))), some (.inl q6), some (.inl ((10 : Int32) * (r11.1 10 0 21))), none], [], am_mk r27) _ _ _ _
              cases h
              exact am_Go.fg (by exact ⟨rfl, ⟨rfl, ⟨rfl, trivial⟩⟩⟩) key
      · have h := h60
        by_cases hc19 : q6 = (3 : Int32)
        · rw [if_pos hc19] at h
          refine am_Go.c1 htb (S' := (125, [some (.inr (.inr (some (10, 0)))), some (.inl q6), some (.inl ((10 : Int32) * (r11.1 10 0 21))), none], [], am_mk (am_si q16 61 0 ((10 : Int32) * (r11.1 10 0 21)).toNatClampNeg q6))) (if_pos hc19) ?_
          cases h
          exact am_Go.fg (by exact ⟨rfl, ⟨rfl, ⟨rfl, trivial⟩⟩⟩) key
        · rw [if_neg hc19] at h
          refine am_Go.c1 htb (S' := (118, [some (.inr (.inr (some (10, 0)))), some (.inl q6), some (.inl ((10 : Int32) * (r11.1 10 0 21))), none], [], am_mk (am_si q16 61 0 ((10 : Int32) * (r11.1 10 0 21)).toNatClampNeg q6))) (if_neg hc19) ?_
          refine am_Go.n htb 4 (S' := (122, [some (.inr (.inr (some (10, 0)))), some (.inl q6), some (.inl ((10 : Int32) * (r11.1 10 0 21))), none], [.inl (((10 : Int32) * (r11.1 10 0 21)) + (1 : Int32)), .inr (.inr (some (10, 0)))], am_mk (am_si q16 61 0 ((10 : Int32) * (r11.1 10 0 21)).toNatClampNeg q6))) rfl ?_
          obtain ⟨r20, h21, h⟩ := am_bd h
          refine am_Go.cl htb rfl (ex_X10_readSum d (by omega) (((10 : Int32) * (r11.1 10 0 21)) + (1 : Int32)) (am_si q16 61 0 ((10 : Int32) * (r11.1 10 0 21)).toNatClampNeg q6) r20 h21) ?_
          show am_Go d 285 (125, [some (.inr (.inr (some (10, 0)))), some (.inl q6), some (.inl ((10 : Int32) * (r11.1 10 0 21))), none], [], am_mk r20) _ _ _ _
          cases h
          exact am_Go.fg (by exact ⟨rfl, ⟨rfl, ⟨rfl, trivial⟩⟩⟩) key
    · rw [if_neg hc13] at h
      refine am_Go.c1 htb (S' := (64, [some (.inr (.inr (some (10, 0)))), some (.inl q6), none, none], [], am_mk r11)) (if_neg hc13) ?_
      cases h
      exact am_Go.rt htb rfl
  · have h := h61
    by_cases hc8 : q6 = (-1 : Int32)
    · rw [if_pos hc8] at h
      refine am_Go.c1 htb (S' := (53, [some (.inr (.inr (some (10, 0)))), some (.inl q6), none, none], [.inr (.inr (some (10, 0)))], am_mk m)) (if_pos hc8) ?_
      refine am_Go.n htb 1 (S' := (54, [some (.inr (.inr (some (10, 0)))), some (.inl q6), none, none], [.inl 0, .inr (.inr (some (10, 0)))], am_mk m)) rfl ?_
      cases h
      exact am_Go.fg (by exact ⟨rfl, ⟨rfl, trivial⟩⟩) key
    · rw [if_neg hc8] at h
      refine am_Go.c1 htb (S' := (40, [some (.inr (.inr (some (10, 0)))), some (.inl q6), none, none], [.inr (.inr (some (10, 0)))], am_mk m)) (if_neg hc8) ?_
      refine am_Go.n htb 3 (S' := (46, [some (.inr (.inr (some (10, 0)))), some (.inl q6), none, none], [.inl 12, .inl (m.1 10 0 21), .inr (.inr (some (10, 0)))], am_mk m)) rfl ?_
      by_cases hc9 : (12 : Int32) ≤ (m.1 10 0 21)
      · rw [if_pos hc9] at h
        refine am_Go.c1 htb (S' := (53, [some (.inr (.inr (some (10, 0)))), some (.inl q6), none, none], [.inr (.inr (some (10, 0)))], am_mk m)) (if_pos hc9) ?_
        refine am_Go.n htb 1 (S' := (54, [some (.inr (.inr (some (10, 0)))), some (.inl q6), none, none], [.inl 0, .inr (.inr (some (10, 0)))], am_mk m)) rfl ?_
        cases h
        exact am_Go.fg (by exact ⟨rfl, ⟨rfl, trivial⟩⟩) key
      · rw [if_neg hc9] at h
        refine am_Go.c1 htb (S' := (49, [some (.inr (.inr (some (10, 0)))), some (.inl q6), none, none], [.inr (.inr (some (10, 0)))], am_mk m)) (if_neg hc9) ?_
        refine am_Go.n htb 2 (S' := (54, [some (.inr (.inr (some (10, 0)))), some (.inl q6), none, none], [.inl 1, .inr (.inr (some (10, 0)))], am_mk m)) rfl ?_
        cases h
        exact am_Go.fg (by exact ⟨rfl, ⟨rfl, trivial⟩⟩) key
-- X10_sumOf
def fn_X10_sumOf (a1 : Int32) (m : am_m) : Option (Int32 × am_m) :=
  (if (m.1 10 0 58) ≠ 0 then some ((-1), m) else am_ck a1 120 (am_ck (a1 + (1 : Int32)) 120 ((if (m.1 61 0 a1.toNatClampNeg) ≠ (m.1 61 0 (a1 + (1 : Int32)).toNatClampNeg) then am_ck a1 120 (am_ck (a1 + (1 : Int32)) 120 ((fn_X10_reckonAll ((am_si m 10 0 20 1).1 61 0 a1.toNatClampNeg) ((am_si m 10 0 20 1).1 61 0 (a1 + (1 : Int32)).toNatClampNeg) (am_si m 10 0 20 1)).bind fun r7 => am_gd (((am_si r7 10 0 20 0).1 10 0 38) = 0 ∨ ((am_si r7 10 0 20 0).1 10 0 38) = 1) (some (((am_si (am_si r7 10 0 20 0) 10 0 58 ((am_si r7 10 0 20 0).1 10 0 38)).2.1 10 0 39).toInt32, am_si (am_si r7 10 0 20 0) 10 0 58 ((am_si r7 10 0 20 0).1 10 0 38))))) else some ((-1), m)))))
set_option maxRecDepth 100000 in
theorem ex_X10_sumOf (d : Nat) (hd : 4 ≤ d) (a1 : Int32) (m : am_m) (t : Int32 × am_m) (h : fn_X10_sumOf a1 m = some t) : am_Ex am_cod d 286 [.inr (.inr (some (10, 0))), .inl a1] (am_mk m) (some (.inl t.1)) (am_mk t.2) 0 0 := by
  obtain ⟨d, rfl⟩ : ∃ e, d = e + 1 := ⟨d - 1, by omega⟩
  have htb : am_tab 286 = at_286 := rfl
  refine ⟨Nat.le_of_ble_eq_true rfl, ?_⟩
  unfold fn_X10_sumOf at h
  show am_Go d 286 (0, [some (.inr (.inr (some (10, 0)))), some (.inl a1)], [], am_mk m) _ _ 0 0
  refine am_Go.n htb 2 (S' := (4, [some (.inr (.inr (some (10, 0)))), some (.inl a1)], [.inl (m.1 10 0 58)], am_mk m)) rfl ?_
  by_cases hc1 : (m.1 10 0 58) ≠ 0
  · rw [if_pos hc1] at h
    refine am_Go.c1 htb (S' := (24, [some (.inr (.inr (some (10, 0)))), some (.inl a1)], [], am_mk m)) (if_pos hc1) ?_
    refine am_Go.n htb 1 (S' := (25, [some (.inr (.inr (some (10, 0)))), some (.inl a1)], [.inl (-1)], am_mk m)) rfl ?_
    cases h
    exact am_Go.rt htb rfl
  · rw [if_neg hc1] at h
    refine am_Go.c1 htb (S' := (7, [some (.inr (.inr (some (10, 0)))), some (.inl a1)], [], am_mk m)) (if_neg hc1) ?_
    refine am_Go.n htb 3 (S' := (12, [some (.inr (.inr (some (10, 0)))), some (.inl a1)], [.inl a1, .inr (.inr (some (61, 0)))], am_mk m)) rfl ?_
    obtain ⟨hg2, h⟩ := am_ck_some h
    refine am_Go.c1 htb (S' := (13, [some (.inr (.inr (some (10, 0)))), some (.inl a1)], [.inl (m.1 61 0 a1.toNatClampNeg)], am_mk m)) (if_neg hg2) ?_
    refine am_Go.n htb 5 (S' := (20, [some (.inr (.inr (some (10, 0)))), some (.inl a1)], [.inl (a1 + (1 : Int32)), .inr (.inr (some (61, 0))), .inl (m.1 61 0 a1.toNatClampNeg)], am_mk m)) rfl ?_
    obtain ⟨hg3, h⟩ := am_ck_some h
    refine am_Go.c1 htb (S' := (21, [some (.inr (.inr (some (10, 0)))), some (.inl a1)], [.inl (m.1 61 0 (a1 + (1 : Int32)).toNatClampNeg), .inl (m.1 61 0 a1.toNatClampNeg)], am_mk m)) (if_neg hg3) ?_
    by_cases hc4 : (m.1 61 0 a1.toNatClampNeg) ≠ (m.1 61 0 (a1 + (1 : Int32)).toNatClampNeg)
    · rw [if_pos hc4] at h
      refine am_Go.c1 htb (S' := (26, [some (.inr (.inr (some (10, 0)))), some (.inl a1)], [], am_mk m)) (if_pos hc4) ?_
      refine am_Go.n htb 7 (S' := (37, [some (.inr (.inr (some (10, 0)))), some (.inl a1)], [.inl a1, .inr (.inr (some (61, 0))), .inr (.inr (some (10, 0)))], am_mk (am_si m 10 0 20 1))) rfl ?_
      obtain ⟨hg5, h⟩ := am_ck_some h
      refine am_Go.c1 htb (S' := (38, [some (.inr (.inr (some (10, 0)))), some (.inl a1)], [.inl ((am_si m 10 0 20 1).1 61 0 a1.toNatClampNeg), .inr (.inr (some (10, 0)))], am_mk (am_si m 10 0 20 1))) (if_neg hg5) ?_
      refine am_Go.n htb 5 (S' := (45, [some (.inr (.inr (some (10, 0)))), some (.inl a1)], [.inl (a1 + (1 : Int32)), .inr (.inr (some (61, 0))), .inl ((am_si m 10 0 20 1).1 61 0 a1.toNatClampNeg), .inr (.inr (some (10, 0)))], am_mk (am_si m 10 0 20 1))) rfl ?_
      obtain ⟨hg6, h⟩ := am_ck_some h
      refine am_Go.c1 htb (S' := (46, [some (.inr (.inr (some (10, 0)))), some (.inl a1)], [.inl ((am_si m 10 0 20 1).1 61 0 (a1 + (1 : Int32)).toNatClampNeg), .inl ((am_si m 10 0 20 1).1 61 0 a1.toNatClampNeg), .inr (.inr (some (10, 0)))], am_mk (am_si m 10 0 20 1))) (if_neg hg6) ?_
      obtain ⟨r7, h8, h⟩ := am_bd h
      refine am_Go.cl htb rfl (ex_X10_reckonAll d (by omega) ((am_si m 10 0 20 1).1 61 0 a1.toNatClampNeg) ((am_si m 10 0 20 1).1 61 0 (a1 + (1 : Int32)).toNatClampNeg) (am_si m 10 0 20 1) r7 h8) ?_
      show am_Go d 286 (49, [some (.inr (.inr (some (10, 0)))), some (.inl a1)], [], am_mk r7) _ _ _ _
      refine am_Go.n htb 6 (S' := (59, [some (.inr (.inr (some (10, 0)))), some (.inl a1)], [.inl ((am_si r7 10 0 20 0).1 10 0 38), .inr (.inr (some (10, 0)))], am_mk (am_si r7 10 0 20 0))) rfl ?_
      obtain ⟨hz9, h⟩ := am_gd_some h
      refine am_Go.o htb (am_o_pf 10 58 2) rfl (S' := (62, [some (.inr (.inr (some (10, 0)))), some (.inl a1)], [], am_mk (am_si (am_si r7 10 0 20 0) 10 0 58 ((am_si r7 10 0 20 0).1 10 0 38)))) (am_pfz hz9) ?_
      refine am_Go.n htb 3 (S' := (67, [some (.inr (.inr (some (10, 0)))), some (.inl a1)], [.inl (((am_si (am_si r7 10 0 20 0) 10 0 58 ((am_si r7 10 0 20 0).1 10 0 38)).2.1 10 0 39).toInt32)], am_mk (am_si (am_si r7 10 0 20 0) 10 0 58 ((am_si r7 10 0 20 0).1 10 0 38)))) rfl ?_
      cases h
      exact am_Go.rt htb rfl
    · rw [if_neg hc4] at h
      refine am_Go.c1 htb (S' := (24, [some (.inr (.inr (some (10, 0)))), some (.inl a1)], [], am_mk m)) (if_neg hc4) ?_
      refine am_Go.n htb 1 (S' := (25, [some (.inr (.inr (some (10, 0)))), some (.inl a1)], [.inl (-1)], am_mk m)) rfl ?_
      cases h
      exact am_Go.rt htb rfl
-- X10_act
def fn_X10_act (a1 : Int32) (a2 : Int32) (a3 : Int32) (a4 : Int32) (m : am_m) : Option (Int32 × am_m) :=
  (if a1 = 0 then (fn_X10_harmNow a2 a3 a4 m).bind fun r2 => some (r2.1, r2.2) else (if a1 = 1 then (fn_X10_feastNow a2 m).bind fun r5 => some (r5.1, r5.2) else (if a1 = 2 then (fn_X10_pardonNow a2 a3 m).bind fun r8 => some (r8.1, r8.2) else (fn_X10_passNow  m).bind fun r10 => some (r10.1, r10.2))))
set_option maxRecDepth 100000 in
theorem ex_X10_act (d : Nat) (hd : 10 ≤ d) (a1 : Int32) (a2 : Int32) (a3 : Int32) (a4 : Int32) (m : am_m) (t : Int32 × am_m) (h : fn_X10_act a1 a2 a3 a4 m = some t) : am_Ex am_cod d 287 [.inr (.inr (some (10, 0))), .inl a1, .inl a2, .inl a3, .inl a4] (am_mk m) (some (.inl t.1)) (am_mk t.2) 0 0 := by
  obtain ⟨d, rfl⟩ : ∃ e, d = e + 1 := ⟨d - 1, by omega⟩
  have htb : am_tab 287 = at_287 := rfl
  refine ⟨Nat.le_of_ble_eq_true rfl, ?_⟩
  unfold fn_X10_act at h
  show am_Go d 287 (0, [some (.inr (.inr (some (10, 0)))), some (.inl a1), some (.inl a2), some (.inl a3), some (.inl a4)], [], am_mk m) _ _ 0 0
  refine am_Go.n htb 1 (S' := (1, [some (.inr (.inr (some (10, 0)))), some (.inl a1), some (.inl a2), some (.inl a3), some (.inl a4)], [.inl a1], am_mk m)) rfl ?_
  by_cases hs1 : a1 = 0
  · rw [if_pos hs1] at h
    refine am_Go.o htb (am_o_sw [(0, 28), (1, 37), (2, 43)] 50) rfl (S' := (28, [some (.inr (.inr (some (10, 0)))), some (.inl a1), some (.inl a2), some (.inl a3), some (.inl a4)], [], am_mk m)) (am_sw_eq (by simp only [am_sw, if_pos hs1])) ?_
    refine am_Go.n htb 4 (S' := (33, [some (.inr (.inr (some (10, 0)))), some (.inl a1), some (.inl a2), some (.inl a3), some (.inl a4)], [.inl a4, .inl a3, .inl a2, .inr (.inr (some (10, 0)))], am_mk m)) rfl ?_
    obtain ⟨r2, h3, h⟩ := am_bd h
    refine am_Go.cl htb rfl (ex_X10_harmNow d (by omega) a2 a3 a4 m r2 h3) ?_
    show am_Go d 287 (36, [some (.inr (.inr (some (10, 0)))), some (.inl a1), some (.inl a2), some (.inl a3), some (.inl a4)], [.inl r2.1], am_mk r2.2) _ _ _ _
    cases h
    exact am_Go.rt htb rfl
  · rw [if_neg hs1] at h
    by_cases hs4 : a1 = 1
    · rw [if_pos hs4] at h
      refine am_Go.o htb (am_o_sw [(0, 28), (1, 37), (2, 43)] 50) rfl (S' := (37, [some (.inr (.inr (some (10, 0)))), some (.inl a1), some (.inl a2), some (.inl a3), some (.inl a4)], [], am_mk m)) (am_sw_eq (by simp only [am_sw, if_neg hs1, if_pos hs4])) ?_
      refine am_Go.n htb 2 (S' := (39, [some (.inr (.inr (some (10, 0)))), some (.inl a1), some (.inl a2), some (.inl a3), some (.inl a4)], [.inl a2, .inr (.inr (some (10, 0)))], am_mk m)) rfl ?_
      obtain ⟨r5, h6, h⟩ := am_bd h
      refine am_Go.cl htb rfl (ex_X10_feastNow d (by omega) a2 m r5 h6) ?_
      show am_Go d 287 (42, [some (.inr (.inr (some (10, 0)))), some (.inl a1), some (.inl a2), some (.inl a3), some (.inl a4)], [.inl r5.1], am_mk r5.2) _ _ _ _
      cases h
      exact am_Go.rt htb rfl
    · rw [if_neg hs4] at h
      by_cases hs7 : a1 = 2
      · rw [if_pos hs7] at h
        refine am_Go.o htb (am_o_sw [(0, 28), (1, 37), (2, 43)] 50) rfl (S' := (43, [some (.inr (.inr (some (10, 0)))), some (.inl a1), some (.inl a2), some (.inl a3), some (.inl a4)], [], am_mk m)) (am_sw_eq (by simp only [am_sw, if_neg hs1, if_neg hs4, if_pos hs7])) ?_
        refine am_Go.n htb 3 (S' := (46, [some (.inr (.inr (some (10, 0)))), some (.inl a1), some (.inl a2), some (.inl a3), some (.inl a4)], [.inl a3, .inl a2, .inr (.inr (some (10, 0)))], am_mk m)) rfl ?_
        obtain ⟨r8, h9, h⟩ := am_bd h
        refine am_Go.cl htb rfl (ex_X10_pardonNow d (by omega) a2 a3 m r8 h9) ?_
        show am_Go d 287 (49, [some (.inr (.inr (some (10, 0)))), some (.inl a1), some (.inl a2), some (.inl a3), some (.inl a4)], [.inl r8.1], am_mk r8.2) _ _ _ _
        cases h
        exact am_Go.rt htb rfl
      · rw [if_neg hs7] at h
        refine am_Go.o htb (am_o_sw [(0, 28), (1, 37), (2, 43)] 50) rfl (S' := (50, [some (.inr (.inr (some (10, 0)))), some (.inl a1), some (.inl a2), some (.inl a3), some (.inl a4)], [], am_mk m)) (am_sw_eq (by simp only [am_sw, if_neg hs1, if_neg hs4, if_neg hs7, if_false])) ?_
        refine am_Go.n htb 1 (S' := (51, [some (.inr (.inr (some (10, 0)))), some (.inl a1), some (.inl a2), some (.inl a3), some (.inl a4)], [.inr (.inr (some (10, 0)))], am_mk m)) rfl ?_
        obtain ⟨r10, h11, h⟩ := am_bd h
        refine am_Go.cl htb rfl (ex_X10_passNow d (by omega)  m r10 h11) ?_
        show am_Go d 287 (54, [some (.inr (.inr (some (10, 0)))), some (.inl a1), some (.inl a2), some (.inl a3), some (.inl a4)], [.inl r10.1], am_mk r10.2) _ _ _ _
        cases h
        exact am_Go.rt htb rfl
-- X10_run
def lp_X10_run_63 : Nat → Int32 → Int32 → am_m → Option (am_m)
  | 0, _, _, _ => none
  | n + 1, x1, x2, m =>
  (if (m.1 44 0 0) ≤ x2 then some m else (fn_X10_sitsWith x2 m).bind fun r8 => am_ck x2 7 (lp_X10_run_63 n x1 (x2 + 1) (am_si m 62 0 x2.toNatClampNeg r8)))
set_option maxRecDepth 100000 in
theorem lt_X10_run_63 (d : Nat) (hd : 11 ≤ d + 1) {r : Option am_V} {M' : am_M} {kc ks : Nat} {n : Nat} {x1 : Int32} {x2 : Int32} {m : am_m} {t : am_m} (h : lp_X10_run_63 n x1 x2 m = some t) (hk : am_Go d 288 (90, [some (.inr (.inr (some (10, 0)))), some (.inl x1), none, none, none, none], [], am_mk t) r M' kc ks) : am_Go d 288 (63, [some (.inr (.inr (some (10, 0)))), some (.inl x1), some (.inl x2), none, none, none], [], am_mk m) r M' kc ks := by
  have htb : am_tab 288 = at_288 := rfl
  induction n generalizing x2 m with
  | zero => cases h
  | succ n ih =>
    unfold lp_X10_run_63 at h
    refine am_Go.n htb 5 (S' := (70, [some (.inr (.inr (some (10, 0)))), some (.inl x1), some (.inl x2), none, none, none], [.inl (m.1 44 0 0), .inl x2], am_mk m)) rfl ?_
    by_cases hc7 : (m.1 44 0 0) ≤ x2
    · rw [if_pos hc7] at h
      refine am_Go.c1 htb (S' := (90, [some (.inr (.inr (some (10, 0)))), some (.inl x1), some (.inl x2), none, none, none], [], am_mk m)) (if_pos hc7) ?_
      cases h
      exact am_Go.fg (by exact ⟨rfl, ⟨rfl, trivial⟩⟩) hk
    · rw [if_neg hc7] at h
      refine am_Go.c1 htb (S' := (73, [some (.inr (.inr (some (10, 0)))), some (.inl x1), some (.inl x2), none, none, none], [], am_mk m)) (if_neg hc7) ?_
      refine am_Go.n htb 5 (S' := (80, [some (.inr (.inr (some (10, 0)))), some (.inl x1), some (.inl x2), none, none, none], [.inl x2, .inr (.inr (some (10, 0))), .inl x2, .inr (.inr (some (62, 0)))], am_mk m)) rfl ?_
      obtain ⟨r8, h9, h⟩ := am_bd h
      refine am_Go.cl htb rfl (ex_X10_sitsWith d (by omega) x2 m r8 h9) ?_
      show am_Go d 288 (83, [some (.inr (.inr (some (10, 0)))), some (.inl x1), some (.inl x2), none, none, none], [.inl r8, .inl x2, .inr (.inr (some (62, 0)))], am_mk m) _ _ _ _
      obtain ⟨hg10, h⟩ := am_ck_some h
      refine am_Go.c1 htb (S' := (84, [some (.inr (.inr (some (10, 0)))), some (.inl x1), some (.inl x2), none, none, none], [], am_mk (am_si m 62 0 x2.toNatClampNeg r8))) (if_neg hg10) ?_
      refine am_Go.n htb 2 (S' := (63, [some (.inr (.inr (some (10, 0)))), some (.inl x1), some (.inl (x2 + 1)), none, none, none], [], am_mk (am_si m 62 0 x2.toNatClampNeg r8))) rfl ?_
      first | exact ih h | exact ih h hk
def fn_X10_run (a1 : Int32) (m : am_m) : Option (Int32 × am_m) :=
  (fn_X10_harmsOf  (am_sg (am_sg (am_sg m 86 0 1 ((m.1 44 0 4).toInt64)) 86 0 2 (((am_sg m 86 0 1 ((m.1 44 0 4).toInt64)).1 10 0 55).toInt64)) 86 0 3 (((am_sg (am_sg m 86 0 1 ((m.1 44 0 4).toInt64)) 86 0 2 (((am_sg m 86 0 1 ((m.1 44 0 4).toInt64)).1 10 0 55).toInt64)).1 10 0 56).toInt64))).bind fun r1 => (fn_X10_starving  (am_sg (am_sg (am_sg (am_sg m 86 0 1 ((m.1 44 0 4).toInt64)) 86 0 2 (((am_sg m 86 0 1 ((m.1 44 0 4).toInt64)).1 10 0 55).toInt64)) 86 0 3 (((am_sg (am_sg m 86 0 1 ((m.1 44 0 4).toInt64)) 86 0 2 (((am_sg m 86 0 1 ((m.1 44 0 4).toInt64)).1 10 0 55).toInt64)).1 10 0 56).toInt64)) 86 0 4 r1.toInt64)).bind fun r3 => (fn_X10_layMay  (am_sg (am_sg (am_sg (am_sg (am_sg m 86 0 1 ((m.1 44 0 4).toInt64)) 86 0 2 (((am_sg m 86 0 1 ((m.1 44 0 4).toInt64)).1 10 0 55).toInt64)) 86 0 3 (((am_sg (am_sg m 86 0 1 ((m.1 44 0 4).toInt64)) 86 0 2 (((am_sg m 86 0 1 ((m.1 44 0 4).toInt64)).1 10 0 55).toInt64)).1 10 0 56).toInt64)) 86 0 4 r1.toInt64) 86 0 5 r3.toInt64)).bind fun r5 => (lp_X10_run_63 1000000 a1 0 r5).bind fun q11 => am_ck (a1 + (7 : Int32)) 120 (am_ck (a1 + (8 : Int32)) 120 ((if ((am_si q11 10 0 58 0).1 61 0 (a1 + (8 : Int32)).toNatClampNeg) ≤ ((am_si q11 10 0 58 0).1 61 0 (a1 + (7 : Int32)).toNatClampNeg) then (fn_X10_sumOf (a1 + (1 : Int32)) (am_si q11 10 0 58 0)).bind fun r16 => (fn_X10_sumOf (a1 + (3 : Int32)) r16.2).bind fun r18 => (fn_X10_sumOf (a1 + (5 : Int32)) r18.2).bind fun r20 => (if (r20.2.1 10 0 58) = 0 then am_ck a1 120 ((fn_X10_act (r20.2.1 61 0 a1.toNatClampNeg) r16.1 r18.1 r20.1 r20.2).bind fun r24 => (if 0 ≤ r24.1 then am_ck a1 120 (some (0, am_si (am_si r24.2 10 0 56 (if (r24.2.1 61 0 a1.toNatClampNeg) ≠ (1 : Int32) then (r24.2.1 10 0 56) else r24.1)) 10 0 55 (((am_si r24.2 10 0 56 (if (r24.2.1 61 0 a1.toNatClampNeg) ≠ (1 : Int32) then (r24.2.1 10 0 56) else r24.1)).1 10 0 55) + (1 : Int32)))) else some ((-3), r24.2))) else some ((-3), r20.2)) else (fn_X10_sumOf (a1 + (7 : Int32)) (am_si q11 10 0 58 0)).bind fun r29 => (if (r29.2.1 10 0 58) ≠ 0 then some (0, r29.2) else (if r29.1 ≠ 0 then (fn_X10_sumOf (a1 + (1 : Int32)) r29.2).bind fun r33 => (fn_X10_sumOf (a1 + (3 : Int32)) r33.2).bind fun r35 => (fn_X10_sumOf (a1 + (5 : Int32)) r35.2).bind fun r37 => (if (r37.2.1 10 0 58) = 0 then am_ck a1 120 ((fn_X10_act (r37.2.1 61 0 a1.toNatClampNeg) r33.1 r35.1 r37.1 r37.2).bind fun r41 => (if 0 ≤ r41.1 then am_ck a1 120 (some (0, am_si (am_si r41.2 10 0 56 (if (r41.2.1 61 0 a1.toNatClampNeg) ≠ (1 : Int32) then (r41.2.1 10 0 56) else r41.1)) 10 0 55 (((am_si r41.2 10 0 56 (if (r41.2.1 61 0 a1.toNatClampNeg) ≠ (1 : Int32) then (r41.2.1 10 0 56) else r41.1)).1 10 0 55) + (1 : Int32)))) else some ((-3), r41.2))) else some ((-3), r37.2)) else some (0, r29.2))))))
set_option maxRecDepth 100000 in
theorem ex_X10_run (d : Nat) (hd : 11 ≤ d) (a1 : Int32) (m : am_m) (t : Int32 × am_m) (h : fn_X10_run a1 m = some t) : am_Ex am_cod d 288 [.inr (.inr (some (10, 0))), .inl a1] (am_mk m) (some (.inl t.1)) (am_mk t.2) 0 0 := by
  obtain ⟨d, rfl⟩ : ∃ e, d = e + 1 := ⟨d - 1, by omega⟩
  have htb : am_tab 288 = at_288 := rfl
  refine ⟨Nat.le_of_ble_eq_true rfl, ?_⟩
  unfold fn_X10_run at h
  show am_Go d 288 (0, [some (.inr (.inr (some (10, 0)))), some (.inl a1), none, none, none, none], [], am_mk m) _ _ 0 0
  refine am_Go.n htb 27 (S' := (41, [some (.inr (.inr (some (10, 0)))), some (.inl a1), none, none, none, none], [.inr (.inr (some (10, 0))), .inl 4, .inr (.inr (some (86, 0)))], am_mk (am_sg (am_sg (am_sg m 86 0 1 ((m.1 44 0 4).toInt64)) 86 0 2 (((am_sg m 86 0 1 ((m.1 44 0 4).toInt64)).1 10 0 55).toInt64)) 86 0 3 (((am_sg (am_sg m 86 0 1 ((m.1 44 0 4).toInt64)) 86 0 2 (((am_sg m 86 0 1 ((m.1 44 0 4).toInt64)).1 10 0 55).toInt64)).1 10 0 56).toInt64)))) rfl ?_
  obtain ⟨r1, h2, h⟩ := am_bd h
  refine am_Go.cl htb rfl (ex_X10_harmsOf d (by omega)  (am_sg (am_sg (am_sg m 86 0 1 ((m.1 44 0 4).toInt64)) 86 0 2 (((am_sg m 86 0 1 ((m.1 44 0 4).toInt64)).1 10 0 55).toInt64)) 86 0 3 (((am_sg (am_sg m 86 0 1 ((m.1 44 0 4).toInt64)) 86 0 2 (((am_sg m 86 0 1 ((m.1 44 0 4).toInt64)).1 10 0 55).toInt64)).1 10 0 56).toInt64)) r1 h2) ?_
  show am_Go d 288 (44, [some (.inr (.inr (some (10, 0)))), some (.inl a1), none, none, none, none], [.inl r1, .inl 4, .inr (.inr (some (86, 0)))], am_mk (am_sg (am_sg (am_sg m 86 0 1 ((m.1 44 0 4).toInt64)) 86 0 2 (((am_sg m 86 0 1 ((m.1 44 0 4).toInt64)).1 10 0 55).toInt64)) 86 0 3 (((am_sg (am_sg m 86 0 1 ((m.1 44 0 4).toInt64)) 86 0 2 (((am_sg m 86 0 1 ((m.1 44 0 4).toInt64)).1 10 0 55).toInt64)).1 10 0 56).toInt64))) _ _ _ _
  refine am_Go.n htb 6 (S' := (52, [some (.inr (.inr (some (10, 0)))), some (.inl a1), none, none, none, none], [.inr (.inr (some (10, 0))), .inl 5, .inr (.inr (some (86, 0)))], am_mk (am_sg (am_sg (am_sg (am_sg m 86 0 1 ((m.1 44 0 4).toInt64)) 86 0 2 (((am_sg m 86 0 1 ((m.1 44 0 4).toInt64)).1 10 0 55).toInt64)) 86 0 3 (((am_sg (am_sg m 86 0 1 ((m.1 44 0 4).toInt64)) 86 0 2 (((am_sg m 86 0 1 ((m.1 44 0 4).toInt64)).1 10 0 55).toInt64)).1 10 0 56).toInt64)) 86 0 4 r1.toInt64))) rfl ?_
  obtain ⟨r3, h4, h⟩ := am_bd h
  refine am_Go.cl htb rfl (ex_X10_starving d (by omega)  (am_sg (am_sg (am_sg (am_sg m 86 0 1 ((m.1 44 0 4).toInt64)) 86 0 2 (((am_sg m 86 0 1 ((m.1 44 0 4).toInt64)).1 10 0 55).toInt64)) 86 0 3 (((am_sg (am_sg m 86 0 1 ((m.1 44 0 4).toInt64)) 86 0 2 (((am_sg m 86 0 1 ((m.1 44 0 4).toInt64)).1 10 0 55).toInt64)).1 10 0 56).toInt64)) 86 0 4 r1.toInt64) r3 h4) ?_
  show am_Go d 288 (55, [some (.inr (.inr (some (10, 0)))), some (.inl a1), none, none, none, none], [.inl r3, .inl 5, .inr (.inr (some (86, 0)))], am_mk (am_sg (am_sg (am_sg (am_sg m 86 0 1 ((m.1 44 0 4).toInt64)) 86 0 2 (((am_sg m 86 0 1 ((m.1 44 0 4).toInt64)).1 10 0 55).toInt64)) 86 0 3 (((am_sg (am_sg m 86 0 1 ((m.1 44 0 4).toInt64)) 86 0 2 (((am_sg m 86 0 1 ((m.1 44 0 4).toInt64)).1 10 0 55).toInt64)).1 10 0 56).toInt64)) 86 0 4 r1.toInt64)) _ _ _ _
  refine am_Go.n htb 3 (S' := (58, [some (.inr (.inr (some (10, 0)))), some (.inl a1), none, none, none, none], [.inr (.inr (some (10, 0)))], am_mk (am_sg (am_sg (am_sg (am_sg (am_sg m 86 0 1 ((m.1 44 0 4).toInt64)) 86 0 2 (((am_sg m 86 0 1 ((m.1 44 0 4).toInt64)).1 10 0 55).toInt64)) 86 0 3 (((am_sg (am_sg m 86 0 1 ((m.1 44 0 4).toInt64)) 86 0 2 (((am_sg m 86 0 1 ((m.1 44 0 4).toInt64)).1 10 0 55).toInt64)).1 10 0 56).toInt64)) 86 0 4 r1.toInt64) 86 0 5 r3.toInt64))) rfl ?_
  obtain ⟨r5, h6, h⟩ := am_bd h
  refine am_Go.cl htb rfl (ex_X10_layMay d (by omega)  (am_sg (am_sg (am_sg (am_sg (am_sg m 86 0 1 ((m.1 44 0 4).toInt64)) 86 0 2 (((am_sg m 86 0 1 ((m.1 44 0 4).toInt64)).1 10 0 55).toInt64)) 86 0 3 (((am_sg (am_sg m 86 0 1 ((m.1 44 0 4).toInt64)) 86 0 2 (((am_sg m 86 0 1 ((m.1 44 0 4).toInt64)).1 10 0 55).toInt64)).1 10 0 56).toInt64)) 86 0 4 r1.toInt64) 86 0 5 r3.toInt64) r5 h6) ?_
  show am_Go d 288 (61, [some (.inr (.inr (some (10, 0)))), some (.inl a1), none, none, none, none], [], am_mk r5) _ _ _ _
  refine am_Go.n htb 2 (S' := (63, [some (.inr (.inr (some (10, 0)))), some (.inl a1), some (.inl 0), none, none, none], [], am_mk r5)) rfl ?_
  obtain ⟨q11, h12, h⟩ := am_bd h
  refine lt_X10_run_63 _ hd (h := h12) (hk := ?_)
  refine am_Go.n htb 8 (S' := (103, [some (.inr (.inr (some (10, 0)))), some (.inl a1), none, none, none, none], [.inl (a1 + (7 : Int32)), .inr (.inr (some (61, 0)))], am_mk (am_si q11 10 0 58 0))) rfl ?_
  obtain ⟨hg13, h⟩ := am_ck_some h
  refine am_Go.c1 htb (S' := (104, [some (.inr (.inr (some (10, 0)))), some (.inl a1), none, none, none, none], [.inl ((am_si q11 10 0 58 0).1 61 0 (a1 + (7 : Int32)).toNatClampNeg)], am_mk (am_si q11 10 0 58 0))) (if_neg hg13) ?_
  refine am_Go.n htb 5 (S' := (112, [some (.inr (.inr (some (10, 0)))), some (.inl a1), none, none, none, none], [.inl (a1 + (8 : Int32)), .inr (.inr (some (61, 0))), .inl ((am_si q11 10 0 58 0).1 61 0 (a1 + (7 : Int32)).toNatClampNeg)], am_mk (am_si q11 10 0 58 0))) rfl ?_
  obtain ⟨hg14, h⟩ := am_ck_some h
  refine am_Go.c1 htb (S' := (113, [some (.inr (.inr (some (10, 0)))), some (.inl a1), none, none, none, none], [.inl ((am_si q11 10 0 58 0).1 61 0 (a1 + (8 : Int32)).toNatClampNeg), .inl ((am_si q11 10 0 58 0).1 61 0 (a1 + (7 : Int32)).toNatClampNeg)], am_mk (am_si q11 10 0 58 0))) (if_neg hg14) ?_
  by_cases hc15 : ((am_si q11 10 0 58 0).1 61 0 (a1 + (8 : Int32)).toNatClampNeg) ≤ ((am_si q11 10 0 58 0).1 61 0 (a1 + (7 : Int32)).toNatClampNeg)
  · rw [if_pos hc15] at h
    refine am_Go.c1 htb (S' := (138, [some (.inr (.inr (some (10, 0)))), some (.inl a1), none, none, none, none], [], am_mk (am_si q11 10 0 58 0))) (if_pos hc15) ?_
    refine am_Go.n htb 4 (S' := (142, [some (.inr (.inr (some (10, 0)))), some (.inl a1), none, none, none, none], [.inl (a1 + (1 : Int32)), .inr (.inr (some (10, 0)))], am_mk (am_si q11 10 0 58 0))) rfl ?_
    obtain ⟨r16, h17, h⟩ := am_bd h
    refine am_Go.cl htb rfl (ex_X10_sumOf d (by omega) (a1 + (1 : Int32)) (am_si q11 10 0 58 0) r16 h17) ?_
    show am_Go d 288 (145, [some (.inr (.inr (some (10, 0)))), some (.inl a1), none, none, none, none], [.inl r16.1], am_mk r16.2) _ _ _ _
    refine am_Go.n htb 5 (S' := (150, [some (.inr (.inr (some (10, 0)))), some (.inl a1), some (.inl r16.1), none, none, none], [.inl (a1 + (3 : Int32)), .inr (.inr (some (10, 0)))], am_mk r16.2)) rfl ?_
    obtain ⟨r18, h19, h⟩ := am_bd h
    refine am_Go.cl htb rfl (ex_X10_sumOf d (by omega) (a1 + (3 : Int32)) r16.2 r18 h19) ?_
    show am_Go d 288 (153, [some (.inr (.inr (some (10, 0)))), some (.inl a1), some (.inl r16.1), none, none, none], [.inl r18.1], am_mk r18.2) _ _ _ _
    refine am_Go.n htb 5 (S' := (158, [some (.inr (.inr (some (10, 0)))), some (.inl a1), some (.inl r16.1), some (.inl r18.1), none, none], [.inl (a1 + (5 : Int32)), .inr (.inr (some (10, 0)))], am_mk r18.2)) rfl ?_
    obtain ⟨r20, h21, h⟩ := am_bd h
    refine am_Go.cl htb rfl (ex_X10_sumOf d (by omega) (a1 + (5 : Int32)) r18.2 r20 h21) ?_
    show am_Go d 288 (161, [some (.inr (.inr (some (10, 0)))), some (.inl a1), some (.inl r16.1), some (.inl r18.1), none, none], [.inl r20.1], am_mk r20.2) _ _ _ _
    refine am_Go.n htb 3 (S' := (167, [some (.inr (.inr (some (10, 0)))), some (.inl a1), some (.inl r16.1), some (.inl r18.1), some (.inl r20.1), none], [.inl (r20.2.1 10 0 58)], am_mk r20.2)) rfl ?_
    by_cases hc22 : (r20.2.1 10 0 58) = 0
    · rw [if_pos hc22] at h
      refine am_Go.c1 htb (S' := (173, [some (.inr (.inr (some (10, 0)))), some (.inl a1), some (.inl r16.1), some (.inl r18.1), some (.inl r20.1), none], [], am_mk r20.2)) (if_pos hc22) ?_
      refine am_Go.n htb 4 (S' := (179, [some (.inr (.inr (some (10, 0)))), some (.inl a1), some (.inl r16.1), some (.inl r18.1), some (.inl r20.1), none], [.inl a1, .inr (.inr (some (61, 0))), .inr (.inr (some (10, 0)))], am_mk r20.2)) rfl ?_
      obtain ⟨hg23, h⟩ := am_ck_some h
      refine am_Go.c1 htb (S' := (180, [some (.inr (.inr (some (10, 0)))), some (.inl a1), some (.inl r16.1), some (.inl r18.1), some (.inl r20.1), none], [.inl (r20.2.1 61 0 a1.toNatClampNeg), .inr (.inr (some (10, 0)))], am_mk r20.2)) (if_neg hg23) ?_
      refine am_Go.n htb 3 (S' := (184, [some (.inr (.inr (some (10, 0)))), some (.inl a1), some (.inl r16.1), some (.inl r18.1), some (.inl r20.1), none], [.inl r20.1, .inl r18.1, .inl r16.1, .inl (r20.2.1 61 0 a1.toNatClampNeg), .inr (.inr (some (10, 0)))], am_mk r20.2)) rfl ?_
      obtain ⟨r24, h25, h⟩ := am_bd h
      refine am_Go.cl htb rfl (ex_X10_act d (by omega) (r20.2.1 61 0 a1.toNatClampNeg) r16.1 r18.1 r20.1 r20.2 r24 h25) ?_
      show am_Go d 288 (187, [some (.inr (.inr (some (10, 0)))), some (.inl a1), some (.inl r16.1), some (.inl r18.1), some (.inl r20.1), none], [.inl r24.1], am_mk r24.2) _ _ _ _
      refine am_Go.n htb 2 (S' := (191, [some (.inr (.inr (some (10, 0)))), some (.inl a1), some (.inl r16.1), some (.inl r18.1), some (.inl r20.1), some (.inl r24.1)], [.inl r24.1], am_mk r24.2)) rfl ?_
      by_cases hc26 : 0 ≤ r24.1
      · rw [if_pos hc26] at h
        refine am_Go.c1 htb (S' := (197, [some (.inr (.inr (some (10, 0)))), some (.inl a1), some (.inl r16.1), some (.inl r18.1), some (.inl r20.1), some (.inl r24.1)], [], am_mk r24.2)) (if_pos hc26) ?_
        refine am_Go.n htb 4 (S' := (203, [some (.inr (.inr (some (10, 0)))), some (.inl a1), some (.inl r16.1), some (.inl r18.1), some (.inl r20.1), some (.inl r24.1)], [.inl a1, .inr (.inr (some (61, 0))), .inr (.inr (some (10, 0)))], am_mk r24.2)) rfl ?_
        obtain ⟨hg27, h⟩ := am_ck_some h
        refine am_Go.c1 htb (S' := (204, [some (.inr (.inr (some (10, 0)))), some (.inl a1), some (.inl r16.1), some (.inl r18.1), some (.inl r20.1), some (.inl r24.1)], [.inl (r24.2.1 61 0 a1.toNatClampNeg), .inr (.inr (some (10, 0)))], am_mk r24.2)) (if_neg hg27) ?_
        refine am_Go.n htb 1 (S' := (205, [some (.inr (.inr (some (10, 0)))), some (.inl a1), some (.inl r16.1), some (.inl r18.1), some (.inl r20.1), some (.inl r24.1)], [.inl 1, .inl (r24.2.1 61 0 a1.toNatClampNeg), .inr (.inr (some (10, 0)))], am_mk r24.2)) rfl ?_
        refine am_Go.cut (S := (217, [some (.inr (.inr (some (10, 0)))), some (.inl a1), some (.inl r16.1), some (.inl r18.1), some (.inl r20.1), some (.inl r24.1)], [.inl (if (r24.2.1 61 0 a1.toNatClampNeg) ≠ (1 : Int32) then (r24.2.1 10 0 56) else r24.1), .inr (.inr (some (10, 0)))], am_mk r24.2)) ?_ (fun key => ?_)
        · refine am_Go.n htb 8 (S' := (231, [some (.inr (.inr (some (10, 0)))), some (.inl a1), some (.inl r16.1), some (.inl r18.1), some (.inl r20.1), some (.inl r24.1)], [.inl 0], am_mk (am_si (am_si r24.2 10 0 56 (if (r24.2.1 61 0 a1.toNatClampNeg) ≠ (1 : Int32) then (r24.2.1 10 0 56) else r24.1)) 10 0 55 (((am_si r24.2 10 0 56 (if (r24.2.1 61 0 a1.toNatClampNeg) ≠ (1 : Int32) then (r24.2.1 10 0 56) else r24.1)).1 10 0 55) + (1 : Int32))))) rfl ?_
          cases h
          exact am_Go.rt htb rfl
        · by_cases hc28 : (r24.2.1 61 0 a1.toNatClampNeg) ≠ (1 : Int32)
          · refine am_Go.c1 htb (S' := (213, [some (.inr (.inr (some (10, 0)))), some (.inl a1), some (.inl r16.1), some (.inl r18.1), some (.inl r20.1), some (.inl r24.1)], [.inr (.inr (some (10, 0)))], am_mk r24.2)) (if_pos hc28) ?_
            refine am_Go.n htb 2 (S' := (217, [some (.inr (.inr (some (10, 0)))), some (.inl a1), some (.inl r16.1), some (.inl r18.1), some (.inl r20.1), some (.inl r24.1)], [.inl (r24.2.1 10 0 56), .inr (.inr (some (10, 0)))], am_mk r24.2)) rfl ?_
            simp only [if_pos hc28] at key
            exact am_Go.fg (by exact ⟨rfl, ⟨rfl, ⟨rfl, ⟨rfl, ⟨rfl, ⟨rfl, trivial⟩⟩⟩⟩⟩⟩) key
          · refine am_Go.c1 htb (S' := (208, [some (.inr (.inr (some (10, 0)))), some (.inl a1), some (.inl r16.1), some (.inl r18.1), some (.inl r20.1), some (.inl r24.1)], [.inr (.inr (some (10, 0)))], am_mk r24.2)) (if_neg hc28) ?_
            refine am_Go.n htb 2 (S' := (217, [some (.inr (.inr (some (10, 0)))), some (.inl a1), some (.inl r16.1), some (.inl r18.1), some (.inl r20.1), some (.inl r24.1)], [.inl r24.1, .inr (.inr (some (10, 0)))], am_mk r24.2)) rfl ?_
            simp only [if_neg hc28] at key
            exact am_Go.fg (by exact ⟨rfl, ⟨rfl, ⟨rfl, ⟨rfl, ⟨rfl, ⟨rfl, trivial⟩⟩⟩⟩⟩⟩) key
      · rw [if_neg hc26] at h
        refine am_Go.c1 htb (S' := (194, [some (.inr (.inr (some (10, 0)))), some (.inl a1), some (.inl r16.1), some (.inl r18.1), some (.inl r20.1), some (.inl r24.1)], [], am_mk r24.2)) (if_neg hc26) ?_
        refine am_Go.n htb 1 (S' := (196, [some (.inr (.inr (some (10, 0)))), some (.inl a1), some (.inl r16.1), some (.inl r18.1), some (.inl r20.1), some (.inl r24.1)], [.inl (-3)], am_mk r24.2)) rfl ?_
        cases h
        exact am_Go.rt htb rfl
    · rw [if_neg hc22] at h
      refine am_Go.c1 htb (S' := (170, [some (.inr (.inr (some (10, 0)))), some (.inl a1), some (.inl r16.1), some (.inl r18.1), some (.inl r20.1), none], [], am_mk r20.2)) (if_neg hc22) ?_
      refine am_Go.n htb 1 (S' := (172, [some (.inr (.inr (some (10, 0)))), some (.inl a1), some (.inl r16.1), some (.inl r18.1), some (.inl r20.1), none], [.inl (-3)], am_mk r20.2)) rfl ?_
      cases h
      exact am_Go.rt htb rfl
  · rw [if_neg hc15] at h
    refine am_Go.c1 htb (S' := (116, [some (.inr (.inr (some (10, 0)))), some (.inl a1), none, none, none, none], [], am_mk (am_si q11 10 0 58 0))) (if_neg hc15) ?_
    refine am_Go.n htb 4 (S' := (121, [some (.inr (.inr (some (10, 0)))), some (.inl a1), none, none, none, none], [.inl (a1 + (7 : Int32)), .inr (.inr (some (10, 0)))], am_mk (am_si q11 10 0 58 0))) rfl ?_
    obtain ⟨r29, h30, h⟩ := am_bd h
    refine am_Go.cl htb rfl (ex_X10_sumOf d (by omega) (a1 + (7 : Int32)) (am_si q11 10 0 58 0) r29 h30) ?_
    show am_Go d 288 (124, [some (.inr (.inr (some (10, 0)))), some (.inl a1), none, none, none, none], [.inl r29.1], am_mk r29.2) _ _ _ _
    refine am_Go.n htb 3 (S' := (129, [some (.inr (.inr (some (10, 0)))), some (.inl a1), some (.inl r29.1), none, none, none], [.inl (r29.2.1 10 0 58)], am_mk r29.2)) rfl ?_
    by_cases hc31 : (r29.2.1 10 0 58) ≠ 0
    · rw [if_pos hc31] at h
      refine am_Go.c1 htb (S' := (136, [some (.inr (.inr (some (10, 0)))), some (.inl a1), some (.inl r29.1), none, none, none], [], am_mk r29.2)) (if_pos hc31) ?_
      refine am_Go.n htb 1 (S' := (137, [some (.inr (.inr (some (10, 0)))), some (.inl a1), some (.inl r29.1), none, none, none], [.inl 0], am_mk r29.2)) rfl ?_
      cases h
      exact am_Go.rt htb rfl
    · rw [if_neg hc31] at h
      refine am_Go.c1 htb (S' := (132, [some (.inr (.inr (some (10, 0)))), some (.inl a1), some (.inl r29.1), none, none, none], [], am_mk r29.2)) (if_neg hc31) ?_
      refine am_Go.n htb 1 (S' := (133, [some (.inr (.inr (some (10, 0)))), some (.inl a1), some (.inl r29.1), none, none, none], [.inl r29.1], am_mk r29.2)) rfl ?_
      by_cases hc32 : r29.1 ≠ 0
      · rw [if_pos hc32] at h
        refine am_Go.c1 htb (S' := (138, [some (.inr (.inr (some (10, 0)))), some (.inl a1), some (.inl r29.1), none, none, none], [], am_mk r29.2)) (if_pos hc32) ?_
        refine am_Go.n htb 4 (S' := (142, [some (.inr (.inr (some (10, 0)))), some (.inl a1), some (.inl r29.1), none, none, none], [.inl (a1 + (1 : Int32)), .inr (.inr (some (10, 0)))], am_mk r29.2)) rfl ?_
        obtain ⟨r33, h34, h⟩ := am_bd h
        refine am_Go.cl htb rfl (ex_X10_sumOf d (by omega) (a1 + (1 : Int32)) r29.2 r33 h34) ?_
        show am_Go d 288 (145, [some (.inr (.inr (some (10, 0)))), some (.inl a1), some (.inl r29.1), none, none, none], [.inl r33.1], am_mk r33.2) _ _ _ _
        refine am_Go.n htb 5 (S' := (150, [some (.inr (.inr (some (10, 0)))), some (.inl a1), some (.inl r33.1), none, none, none], [.inl (a1 + (3 : Int32)), .inr (.inr (some (10, 0)))], am_mk r33.2)) rfl ?_
        obtain ⟨r35, h36, h⟩ := am_bd h
        refine am_Go.cl htb rfl (ex_X10_sumOf d (by omega) (a1 + (3 : Int32)) r33.2 r35 h36) ?_
        show am_Go d 288 (153, [some (.inr (.inr (some (10, 0)))), some (.inl a1), some (.inl r33.1), none, none, none], [.inl r35.1], am_mk r35.2) _ _ _ _
        refine am_Go.n htb 5 (S' := (158, [some (.inr (.inr (some (10, 0)))), some (.inl a1), some (.inl r33.1), some (.inl r35.1), none, none], [.inl (a1 + (5 : Int32)), .inr (.inr (some (10, 0)))], am_mk r35.2)) rfl ?_
        obtain ⟨r37, h38, h⟩ := am_bd h
        refine am_Go.cl htb rfl (ex_X10_sumOf d (by omega) (a1 + (5 : Int32)) r35.2 r37 h38) ?_
        show am_Go d 288 (161, [some (.inr (.inr (some (10, 0)))), some (.inl a1), some (.inl r33.1), some (.inl r35.1), none, none], [.inl r37.1], am_mk r37.2) _ _ _ _
        refine am_Go.n htb 3 (S' := (167, [some (.inr (.inr (some (10, 0)))), some (.inl a1), some (.inl r33.1), some (.inl r35.1), some (.inl r37.1), none], [.inl (r37.2.1 10 0 58)], am_mk r37.2)) rfl ?_
        by_cases hc39 : (r37.2.1 10 0 58) = 0
        · rw [if_pos hc39] at h
          refine am_Go.c1 htb (S' := (173, [some (.inr (.inr (some (10, 0)))), some (.inl a1), some (.inl r33.1), some (.inl r35.1), some (.inl r37.1), none], [], am_mk r37.2)) (if_pos hc39) ?_
          refine am_Go.n htb 4 (S' := (179, [some (.inr (.inr (some (10, 0)))), some (.inl a1), some (.inl r33.1), some (.inl r35.1), some (.inl r37.1), none], [.inl a1, .inr (.inr (some (61, 0))), .inr (.inr (some (10, 0)))], am_mk r37.2)) rfl ?_
          obtain ⟨hg40, h⟩ := am_ck_some h
          refine am_Go.c1 htb (S' := (180, [some (.inr (.inr (some (10, 0)))), some (.inl a1), some (.inl r33.1), some (.inl r35.1), some (.inl r37.1), none], [.inl (r37.2.1 61 0 a1.toNatClampNeg), .inr (.inr (some (10, 0)))], am_mk r37.2)) (if_neg hg40) ?_
          refine am_Go.n htb 3 (S' := (184, [some (.inr (.inr (some (10, 0)))), some (.inl a1), some (.inl r33.1), some (.inl r35.1), some (.inl r37.1), none], [.inl r37.1, .inl r35.1, .inl r33.1, .inl (r37.2.1 61 0 a1.toNatClampNeg), .inr (.inr (some (10, 0)))], am_mk r37.2)) rfl ?_
          obtain ⟨r41, h42, h⟩ := am_bd h
          refine am_Go.cl htb rfl (ex_X10_act d (by omega) (r37.2.1 61 0 a1.toNatClampNeg) r33.1 r35.1 r37.1 r37.2 r41 h42) ?_
          show am_Go d 288 (187, [some (.inr (.inr (some (10, 0)))), some (.inl a1), some (.inl r33.1), some (.inl r35.1), some (.inl r37.1), none], [.inl r41.1], am_mk r41.2) _ _ _ _
          refine am_Go.n htb 2 (S' := (191, [some (.inr (.inr (some (10, 0)))), some (.inl a1), some (.inl r33.1), some (.inl r35.1), some (.inl r37.1), some (.inl r41.1)], [.inl r41.1], am_mk r41.2)) rfl ?_
          by_cases hc43 : 0 ≤ r41.1
          · rw [if_pos hc43] at h
            refine am_Go.c1 htb (S' := (197, [some (.inr (.inr (some (10, 0)))), some (.inl a1), some (.inl r33.1), some (.inl r35.1), some (.inl r37.1), some (.inl r41.1)], [], am_mk r41.2)) (if_pos hc43) ?_
            refine am_Go.n htb 4 (S' := (203, [some (.inr (.inr (some (10, 0)))), some (.inl a1), some (.inl r33.1), some (.inl r35.1), some (.inl r37.1), some (.inl r41.1)], [.inl a1, .inr (.inr (some (61, 0))), .inr (.inr (some (10, 0)))], am_mk r41.2)) rfl ?_
            obtain ⟨hg44, h⟩ := am_ck_some h
            refine am_Go.c1 htb (S' := (204, [some (.inr (.inr (some (10, 0)))), some (.inl a1), some (.inl r33.1), some (.inl r35.1), some (.inl r37.1), some (.inl r41.1)], [.inl (r41.2.1 61 0 a1.toNatClampNeg), .inr (.inr (some (10, 0)))], am_mk r41.2)) (if_neg hg44) ?_
            refine am_Go.n htb 1 (S' := (205, [some (.inr (.inr (some (10, 0)))), some (.inl a1), some (.inl r33.1), some (.inl r35.1), some (.inl r37.1), some (.inl r41.1)], [.inl 1, .inl (r41.2.1 61 0 a1.toNatClampNeg), .inr (.inr (some (10, 0)))], am_mk r41.2)) rfl ?_
            refine am_Go.cut (S := (217, [some (.inr (.inr (some (10, 0)))), some (.inl a1), some (.inl r33.1), some (.inl r35.1), some (.inl r37.1), some (.inl r41.1)], [.inl (if (r41.2.1 61 0 a1.toNatClampNeg) ≠ (1 : Int32) then (r41.2.1 10 0 56) else r41.1), .inr (.inr (some (10, 0)))], am_mk r41.2)) ?_ (fun key => ?_)
            · refine am_Go.n htb 8 (S' := (231, [some (.inr (.inr (some (10, 0)))), some (.inl a1), some (.inl r33.1), some (.inl r35.1), some (.inl r37.1), some (.inl r41.1)], [.inl 0], am_mk (am_si (am_si r41.2 10 0 56 (if (r41.2.1 61 0 a1.toNatClampNeg) ≠ (1 : Int32) then (r41.2.1 10 0 56) else r41.1)) 10 0 55 (((am_si r41.2 10 0 56 (if (r41.2.1 61 0 a1.toNatClampNeg) ≠ (1 : Int32) then (r41.2.1 10 0 56) else r41.1)).1 10 0 55) + (1 : Int32))))) rfl ?_
              cases h
              exact am_Go.rt htb rfl
            · by_cases hc45 : (r41.2.1 61 0 a1.toNatClampNeg) ≠ (1 : Int32)
              · refine am_Go.c1 htb (S' := (213, [some (.inr (.inr (some (10, 0)))), some (.inl a1), some (.inl r33.1), some (.inl r35.1), some (.inl r37.1), some (.inl r41.1)], [.inr (.inr (some (10, 0)))], am_mk r41.2)) (if_pos hc45) ?_
                refine am_Go.n htb 2 (S' := (217, [some (.inr (.inr (some (10, 0)))), some (.inl a1), some (.inl r33.1), some (.inl r35.1), some (.inl r37.1), some (.inl r41.1)], [.inl (r41.2.1 10 0 56), .inr (.inr (some (10, 0)))], am_mk r41.2)) rfl ?_
                simp only [if_pos hc45] at key
                exact am_Go.fg (by exact ⟨rfl, ⟨rfl, ⟨rfl, ⟨rfl, ⟨rfl, ⟨rfl, trivial⟩⟩⟩⟩⟩⟩) key
              · refine am_Go.c1 htb (S' := (208, [some (.inr (.inr (some (10, 0)))), some (.inl a1), some (.inl r33.1), some (.inl r35.1), some (.inl r37.1), some (.inl r41.1)], [.inr (.inr (some (10, 0)))], am_mk r41.2)) (if_neg hc45) ?_
                refine am_Go.n htb 2 (S' := (217, [some (.inr (.inr (some (10, 0)))), some (.inl a1), some (.inl r33.1), some (.inl r35.1), some (.inl r37.1), some (.inl r41.1)], [.inl r41.1, .inr (.inr (some (10, 0)))], am_mk r41.2)) rfl ?_
                simp only [if_neg hc45] at key
                exact am_Go.fg (by exact ⟨rfl, ⟨rfl, ⟨rfl, ⟨rfl, ⟨rfl, ⟨rfl, trivial⟩⟩⟩⟩⟩⟩) key
          · rw [if_neg hc43] at h
            refine am_Go.c1 htb (S' := (194, [some (.inr (.inr (some (10, 0)))), some (.inl a1), some (.inl r33.1), some (.inl r35.1), some (.inl r37.1), some (.inl r41.1)], [], am_mk r41.2)) (if_neg hc43) ?_
            refine am_Go.n htb 1 (S' := (196, [some (.inr (.inr (some (10, 0)))), some (.inl a1), some (.inl r33.1), some (.inl r35.1), some (.inl r37.1), some (.inl r41.1)], [.inl (-3)], am_mk r41.2)) rfl ?_
            cases h
            exact am_Go.rt htb rfl
        · rw [if_neg hc39] at h
          refine am_Go.c1 htb (S' := (170, [some (.inr (.inr (some (10, 0)))), some (.inl a1), some (.inl r33.1), some (.inl r35.1), some (.inl r37.1), none], [], am_mk r37.2)) (if_neg hc39) ?_
          refine am_Go.n htb 1 (S' := (172, [some (.inr (.inr (some (10, 0)))), some (.inl a1), some (.inl r33.1), some (.inl r35.1), some (.inl r37.1), none], [.inl (-3)], am_mk r37.2)) rfl ?_
          cases h
          exact am_Go.rt htb rfl
      · rw [if_neg hc32] at h
        refine am_Go.c1 htb (S' := (136, [some (.inr (.inr (some (10, 0)))), some (.inl a1), some (.inl r29.1), none, none, none], [], am_mk r29.2)) (if_neg hc32) ?_
        refine am_Go.n htb 1 (S' := (137, [some (.inr (.inr (some (10, 0)))), some (.inl a1), some (.inl r29.1), none, none, none], [.inl 0], am_mk r29.2)) rfl ?_
        cases h
        exact am_Go.rt htb rfl
