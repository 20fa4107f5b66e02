-- X10_terms
def fn_X10_terms (a1 : Int32) (a2 : Int32) (m : am_m) : Option (Int32 × am_m) :=
  (if a1 ≠ 0 then (if a1 ≠ (1 : Int32) then (if a1 ≠ (2 : Int32) then some 0 else (fn_X10_in a2.toInt64 0 9 (am_si m 10 0 0 0)).bind fun r4 => (if r4 = 0 then some 0 else some 1)) else (fn_X10_in a2.toInt64 0 10 (am_si m 10 0 0 0)).bind fun r7 => some r7) else (fn_X10_in a2.toInt64 0 999 (am_si m 10 0 0 0)).bind fun r9 => some r9).bind fun q11 => (if q11 ≠ 0 then (fn_X10_change ((4 : Int32) + a1) a2 (am_si (am_si m 10 0 0 0) 10 0 8 0)).bind fun r13 => some (r13.1, r13.2) else (fn_X10_tell (-1) (am_si m 10 0 0 0)).bind fun r15 => some (r15.1, r15.2))
set_option maxRecDepth 100000 in
theorem ex_X10_terms (d : Nat) (hd : 2 ≤ d) (a1 : Int32) (a2 : Int32) (m : am_m) (t : Int32 × am_m) (h : fn_X10_terms a1 a2 m = some t) : am_Ex am_cod d 195 [.inr (.inr (some (10, 0))), .inl a1, .inl a2] (am_mk m) (some (.inl t.1)) (am_mk t.2) 0 0 := by
  obtain ⟨d, rfl⟩ : ∃ e, d = e + 1 := ⟨d - 1, by omega⟩
  have htb : am_tab 195 = at_195 := rfl
  refine ⟨Nat.le_of_ble_eq_true rfl, ?_⟩
  unfold fn_X10_terms at h
  show am_Go d 195 (0, [some (.inr (.inr (some (10, 0)))), some (.inl a1), some (.inl a2), none], [], am_mk m) _ _ 0 0
  refine am_Go.n htb 4 (S' := (6, [some (.inr (.inr (some (10, 0)))), some (.inl a1), some (.inl a2), none], [.inl a1], am_mk (am_si m 10 0 0 0))) rfl ?_
  obtain ⟨q11, h17, h⟩ := am_bd h
  refine am_Go.cut (S := (60, [some (.inr (.inr (some (10, 0)))), some (.inl a1), some (.inl a2), none], [.inl q11], am_mk (am_si m 10 0 0 0))) ?_ (fun key => ?_)
  · refine am_Go.n htb 2 (S' := (62, [some (.inr (.inr (some (10, 0)))), some (.inl a1), some (.inl a2), some (.inl q11)], [.inl q11], am_mk (am_si m 10 0 0 0))) rfl ?_
    by_cases hc12 : q11 ≠ 0
    · rw [if_pos hc12] at h
      refine am_Go.c1 htb (S' := (71, [some (.inr (.inr (some (10, 0)))), some (.inl a1), some (.inl a2), some (.inl q11)], [], am_mk (am_si m 10 0 0 0))) (if_pos hc12) ?_
      refine am_Go.n htb 8 (S' := (81, [some (.inr (.inr (some (10, 0)))), some (.inl a1), some (.inl a2), some (.inl q11)], [.inl a2, .inl ((4 : Int32) + a1), .inr (.inr (some (10, 0)))], am_mk (am_si (am_si m 10 0 0 0) 10 0 8 0))) rfl ?_
      obtain ⟨r13, h14, h⟩ := am_bd h
      refine am_Go.cl htb rfl (ex_X10_change d (by omega) ((4 : Int32) + a1) a2 (am_si (am_si m 10 0 0 0) 10 0 8 0) r13 h14) ?_
      show am_Go d 195 (84, [some (.inr (.inr (some (10, 0)))), some (.inl a1), some (.inl a2), some (.inl q11)], [.inl r13.1], am_mk r13.2) _ _ _ _
      cases h
      exact am_Go.r htb rfl
    · rw [if_neg hc12] at h
      refine am_Go.c1 htb (S' := (65, [some (.inr (.inr (some (10, 0)))), some (.inl a1), some (.inl a2), some (.inl q11)], [], am_mk (am_si m 10 0 0 0))) (if_neg hc12) ?_
      refine am_Go.n htb 2 (S' := (67, [some (.inr (.inr (some (10, 0)))), some (.inl a1), some (.inl a2), some (.inl q11)], [.inl (-1), .inr (.inr (some (10, 0)))], am_mk (am_si m 10 0 0 0))) rfl ?_
      obtain ⟨r15, h16, h⟩ := am_bd h
      refine am_Go.cl htb rfl (ex_X10_tell d (by omega) (-1) (am_si m 10 0 0 0) r15 h16) ?_
      show am_Go d 195 (70, [some (.inr (.inr (some (10, 0)))), some (.inl a1), some (.inl a2), some (.inl q11)], [.inl r15.1], am_mk r15.2) _ _ _ _
      cases h
      exact am_Go.r htb rfl
  · have h := h17
    by_cases hc1 : a1 ≠ 0
    · rw [if_pos hc1] at h
      refine am_Go.c1 htb (S' := (21, [some (.inr (.inr (some (10, 0)))), some (.inl a1), some (.inl a2), none], [], am_mk (am_si m 10 0 0 0))) (if_pos hc1) ?_
      refine am_Go.n htb 2 (S' := (23, [some (.inr (.inr (some (10, 0)))), some (.inl a1), some (.inl a2), none], [.inl 1, .inl a1], am_mk (am_si m 10 0 0 0))) rfl ?_
      by_cases hc2 : a1 ≠ (1 : Int32)
      · rw [if_pos hc2] at h
        refine am_Go.c1 htb (S' := (38, [some (.inr (.inr (some (10, 0)))), some (.inl a1), some (.inl a2), none], [], am_mk (am_si m 10 0 0 0))) (if_pos hc2) ?_
        refine am_Go.n htb 2 (S' := (40, [some (.inr (.inr (some (10, 0)))), some (.inl a1), some (.inl a2), none], [.inl 2, .inl a1], am_mk (am_si m 10 0 0 0))) rfl ?_
        by_cases hc3 : a1 ≠ (2 : Int32)
        · rw [if_pos hc3] at h
          refine am_Go.c1 htb (S' := (59, [some (.inr (.inr (some (10, 0)))), some (.inl a1), some (.inl a2), none], [], am_mk (am_si m 10 0 0 0))) (if_pos hc3) ?_
          refine am_Go.n htb 1 (S' := (60, [some (.inr (.inr (some (10, 0)))), some (.inl a1), some (.inl a2), none], [.inl 0], am_mk (am_si m 10 0 0 0))) rfl ?_
          cases h
          exact am_Go.fg (by exact ⟨rfl, ⟨rfl, ⟨rfl, trivial⟩⟩⟩) key
        · rw [if_neg hc3] at h
          refine am_Go.c1 htb (S' := (43, [some (.inr (.inr (some (10, 0)))), some (.inl a1), some (.inl a2), none], [], am_mk (am_si m 10 0 0 0))) (if_neg hc3) ?_
          refine am_Go.n htb 4 (S' := (49, [some (.inr (.inr (some (10, 0)))), some (.inl a1), some (.inl a2), none], [.inr (.inl 9), .inr (.inl 0), .inr (.inl a2.toInt64)], am_mk (am_si m 10 0 0 0))) rfl ?_
          obtain ⟨r4, h5, h⟩ := am_bd h
          refine am_Go.cl htb rfl (ex_X10_in d (by omega) a2.toInt64 0 9 (am_si m 10 0 0 0) r4 h5) ?_
          show am_Go d 195 (52, [some (.inr (.inr (some (10, 0)))), some (.inl a1), some (.inl a2), none], [.inl r4], am_mk (am_si m 10 0 0 0)) _ _ _ _
          by_cases hc6 : r4 = 0
          · rw [if_pos hc6] at h
            refine am_Go.c1 htb (S' := (59, [some (.inr (.inr (some (10, 0)))), some (.inl a1), some (.inl a2), none], [], am_mk (am_si m 10 0 0 0))) (if_pos hc6) ?_
            refine am_Go.n htb 1 (S' := (60, [some (.inr (.inr (some (10, 0)))), some (.inl a1), some (.inl a2), none], [.inl 0], am_mk (am_si m 10 0 0 0))) rfl ?_
            cases h
            exact am_Go.fg (by exact ⟨rfl, ⟨rfl, ⟨rfl, trivial⟩⟩⟩) key
          · rw [if_neg hc6] at h
            refine am_Go.c1 htb (S' := (55, [some (.inr (.inr (some (10, 0)))), some (.inl a1), some (.inl a2), none], [], am_mk (am_si m 10 0 0 0))) (if_neg hc6) ?_
            refine am_Go.n htb 2 (S' := (60, [some (.inr (.inr (some (10, 0)))), some (.inl a1), some (.inl a2), none], [.inl 1], am_mk (am_si m 10 0 0 0))) rfl ?_
            cases h
            exact am_Go.fg (by exact ⟨rfl, ⟨rfl, ⟨rfl, trivial⟩⟩⟩) key
      · rw [if_neg hc2] at h
        refine am_Go.c1 htb (S' := (26, [some (.inr (.inr (some (10, 0)))), some (.inl a1), some (.inl a2), none], [], am_mk (am_si m 10 0 0 0))) (if_neg hc2) ?_
        refine am_Go.n htb 4 (S' := (32, [some (.inr (.inr (some (10, 0)))), some (.inl a1), some (.inl a2), none], [.inr (.inl 10), .inr (.inl 0), .inr (.inl a2.toInt64)], am_mk (am_si m 10 0 0 0))) rfl ?_
        obtain ⟨r7, h8, h⟩ := am_bd h
        refine am_Go.cl htb rfl (ex_X10_in d (by omega) a2.toInt64 0 10 (am_si m 10 0 0 0) r7 h8) ?_
        show am_Go d 195 (35, [some (.inr (.inr (some (10, 0)))), some (.inl a1), some (.inl a2), none], [.inl r7], am_mk (am_si m 10 0 0 0)) _ _ _ _
        refine am_Go.n htb 1 (S' := (60, [some (.inr (.inr (some (10, 0)))), some (.inl a1), some (.inl a2), none], [.inl r7], am_mk (am_si m 10 0 0 0))) rfl ?_
        cases h
        exact am_Go.fg (by exact ⟨rfl, ⟨rfl, ⟨rfl, trivial⟩⟩⟩) key
    · rw [if_neg hc1] at h
      refine am_Go.c1 htb (S' := (9, [some (.inr (.inr (some (10, 0)))), some (.inl a1), some (.inl a2), none], [], am_mk (am_si m 10 0 0 0))) (if_neg hc1) ?_
      refine am_Go.n htb 4 (S' := (15, [some (.inr (.inr (some (10, 0)))), some (.inl a1), some (.inl a2), none], [.inr (.inl 999), .inr (.inl 0), .inr (.inl a2.toInt64)], am_mk (am_si m 10 0 0 0))) rfl ?_
      obtain ⟨r9, h10, h⟩ := am_bd h
      refine am_Go.cl htb rfl (ex_X10_in d (by omega) a2.toInt64 0 999 (am_si m 10 0 0 0) r9 h10) ?_
      show am_Go d 195 (18, [some (.inr (.inr (some (10, 0)))), some (.inl a1), some (.inl a2), none], [.inl r9], am_mk (am_si m 10 0 0 0)) _ _ _ _
      refine am_Go.n htb 1 (S' := (60, [some (.inr (.inr (some (10, 0)))), some (.inl a1), some (.inl a2), none], [.inl r9], am_mk (am_si m 10 0 0 0))) rfl ?_
      cases h
      exact am_Go.fg (by exact ⟨rfl, ⟨rfl, ⟨rfl, trivial⟩⟩⟩) key
-- X10_setHarm
def fn_X10_setHarm (a1 : Int32) (a2 : Int32) (a3 : Int32) (m : am_m) : Option (am_m) :=
  am_ck (((14 : Int32) + ((7 : Int32) * a1)) + a2) 5518 (am_ck 4 5518 (am_ck (((63 : Int32) + ((7 : Int32) * a1)) + a2) 5518 (some (am_si (am_si m 44 0 (((14 : Int32) + ((7 : Int32) * a1)) + a2).toNatClampNeg a3) 44 0 (((63 : Int32) + ((7 : Int32) * a1)) + a2).toNatClampNeg ((am_si m 44 0 (((14 : Int32) + ((7 : Int32) * a1)) + a2).toNatClampNeg a3).1 44 0 (4 : Int32).toNatClampNeg)))))
set_option maxRecDepth 100000 in
theorem ex_X10_setHarm (d : Nat) (hd : 1 ≤ d) (a1 : Int32) (a2 : Int32) (a3 : Int32) (m : am_m) (t : am_m) (h : fn_X10_setHarm a1 a2 a3 m = some t) : am_Ex am_cod d 196 [.inr (.inr (some (10, 0))), .inl a1, .inl a2, .inl a3] (am_mk m) (none) (am_mk t) 0 0 := by
  obtain ⟨d, rfl⟩ : ∃ e, d = e + 1 := ⟨d - 1, by omega⟩
  have htb : am_tab 196 = at_196 := rfl
  refine ⟨Nat.le_of_ble_eq_true rfl, ?_⟩
  unfold fn_X10_setHarm at h
  show am_Go d 196 (0, [some (.inr (.inr (some (10, 0)))), some (.inl a1), some (.inl a2), some (.inl a3)], [], am_mk m) _ _ 0 0
  refine am_Go.n htb 10 (S' := (14, [some (.inr (.inr (some (10, 0)))), some (.inl a1), some (.inl a2), some (.inl a3)], [.inl a3, .inl (((14 : Int32) + ((7 : Int32) * a1)) + a2), .inr (.inr (some (44, 0)))], am_mk m)) rfl ?_
  obtain ⟨hg1, h⟩ := am_ck_some h
  refine am_Go.c1 htb (S' := (15, [some (.inr (.inr (some (10, 0)))), some (.inl a1), some (.inl a2), some (.inl a3)], [], am_mk (am_si m 44 0 (((14 : Int32) + ((7 : Int32) * a1)) + a2).toNatClampNeg a3))) (if_neg hg1) ?_
  refine am_Go.n htb 12 (S' := (33, [some (.inr (.inr (some (10, 0)))), some (.inl a1), some (.inl a2), some (.inl a3)], [.inl 4, .inr (.inr (some (44, 0))), .inl (((63 : Int32) + ((7 : Int32) * a1)) + a2), .inr (.inr (some (44, 0)))], am_mk (am_si m 44 0 (((14 : Int32) + ((7 : Int32) * a1)) + a2).toNatClampNeg a3))) rfl ?_
  obtain ⟨hg2, h⟩ := am_ck_some h
  refine am_Go.c1 htb (S' := (34, [some (.inr (.inr (some (10, 0)))), some (.inl a1), some (.inl a2), some (.inl a3)], [.inl ((am_si m 44 0 (((14 : Int32) + ((7 : Int32) * a1)) + a2).toNatClampNeg a3).1 44 0 (4 : Int32).toNatClampNeg), .inl (((63 : Int32) + ((7 : Int32) * a1)) + a2), .inr (.inr (some (44, 0)))], am_mk (am_si m 44 0 (((14 : Int32) + ((7 : Int32) * a1)) + a2).toNatClampNeg a3))) (if_neg hg2) ?_
  obtain ⟨hg3, h⟩ := am_ck_some h
  refine am_Go.c1 htb (S' := (35, [some (.inr (.inr (some (10, 0)))), some (.inl a1), some (.inl a2), some (.inl a3)], [], am_mk (am_si (am_si m 44 0 (((14 : Int32) + ((7 : Int32) * a1)) + a2).toNatClampNeg a3) 44 0 (((63 : Int32) + ((7 : Int32) * a1)) + a2).toNatClampNeg ((am_si m 44 0 (((14 : Int32) + ((7 : Int32) * a1)) + a2).toNatClampNeg a3).1 44 0 (4 : Int32).toNatClampNeg)))) (if_neg hg3) ?_
  cases h
  exact am_Go.r htb rfl
-- X10_row
def lp_X10_row_35 : Nat → Int32 → Int32 → Int32 → am_m → Option (Int32 × am_m)
  | 0, _, _, _, _ => none
  | n + 1, x1, x2, x3, m =>
  (if x1 ≤ x3 then some (x2, m) else (if x1 ≤ (x3 + (2 : Int32)) then some (x2, am_si m 10 0 11 ((m.1 10 0 11) + (1 : Int32))) else am_ck x3 400 ((fn_X10_isFolk (m.1 50 0 x3.toNatClampNeg) m).bind fun r5 => (if r5 = 0 then some (x2, am_si m 10 0 11 ((m.1 10 0 11) + (1 : Int32))) else am_ck (x3 + (1 : Int32)) 400 ((fn_X10_isFolk (m.1 50 0 (x3 + (1 : Int32)).toNatClampNeg) m).bind fun r9 => (if r9 = 0 then some (x2, am_si m 10 0 11 ((m.1 10 0 11) + (1 : Int32))) else am_ck x3 400 (am_ck (x3 + (1 : Int32)) 400 ((if (m.1 50 0 x3.toNatClampNeg) = (m.1 50 0 (x3 + (1 : Int32)).toNatClampNeg) then some (x2, am_si m 10 0 11 ((m.1 10 0 11) + (1 : Int32))) else am_ck (x3 + (2 : Int32)) 400 ((fn_X10_in ((m.1 50 0 (x3 + (2 : Int32)).toNatClampNeg).toInt64) 1 9 m).bind fun r16 => (if r16 = 0 then some (x2, am_si m 10 0 11 ((m.1 10 0 11) + (1 : Int32))) else am_ck x3 400 (am_ck (x3 + (1 : Int32)) 400 (am_ck (x3 + (2 : Int32)) 400 ((fn_X10_setHarm (m.1 50 0 x3.toNatClampNeg) (m.1 50 0 (x3 + (1 : Int32)).toNatClampNeg) (m.1 50 0 (x3 + (2 : Int32)).toNatClampNeg) m).bind fun r22 => some ((x2 + 1), r22)))))))))))))).bind fun q24 => lp_X10_row_35 n x1 q24.1 (x3 + 3) q24.2)
set_option maxRecDepth 100000 in
theorem lt_X10_row_35 (d : Nat) (hd : 3 ≤ d + 1) {r : Option am_V} {M' : am_M} {kc ks : Nat} {n : Nat} {x1 : Int32} {x2 : Int32} {x3 : Int32} {m : am_m} {t : Int32 × am_m} (h : lp_X10_row_35 n x1 x2 x3 m = some t) (hk : am_Go d 197 (159, [some (.inr (.inr (some (10, 0)))), some (.inl x1), some (.inl t.1), none], [], am_mk t.2) r M' kc ks) : am_Go d 197 (35, [some (.inr (.inr (some (10, 0)))), some (.inl x1), some (.inl x2), some (.inl x3)], [], am_mk m) r M' kc ks := by
  have htb : am_tab 197 = at_197 := rfl
  induction n generalizing x2 x3 m with
  | zero => cases h
  | succ n ih =>
    unfold lp_X10_row_35 at h
    refine am_Go.n htb 2 (S' := (37, [some (.inr (.inr (some (10, 0)))), some (.inl x1), some (.inl x2), some (.inl x3)], [.inl x1, .inl x3], am_mk m)) rfl ?_
    by_cases hc2 : x1 ≤ x3
    · rw [if_pos hc2] at h
      refine am_Go.c1 htb (S' := (159, [some (.inr (.inr (some (10, 0)))), some (.inl x1), some (.inl x2), some (.inl x3)], [], am_mk m)) (if_pos hc2) ?_
      cases h
      exact am_Go.fg (by exact ⟨rfl, ⟨rfl, ⟨rfl, trivial⟩⟩⟩) hk
    · rw [if_neg hc2] at h
      refine am_Go.c1 htb (S' := (40, [some (.inr (.inr (some (10, 0)))), some (.inl x1), some (.inl x2), some (.inl x3)], [], am_mk m)) (if_neg hc2) ?_
      refine am_Go.n htb 4 (S' := (44, [some (.inr (.inr (some (10, 0)))), some (.inl x1), some (.inl x2), some (.inl x3)], [.inl x1, .inl (x3 + (2 : Int32))], am_mk m)) rfl ?_
      obtain ⟨q24, h25, h⟩ := am_bd h
      refine am_Go.cut (S := (153, [some (.inr (.inr (some (10, 0)))), some (.inl x1), some (.inl q24.1), some (.inl x3)], [], am_mk q24.2)) ?_ (fun key => ?_)
      · refine am_Go.n htb 2 (S' := (35, [some (.inr (.inr (some (10, 0)))), some (.inl x1), some (.inl q24.1), some (.inl (x3 + 3))], [], am_mk q24.2)) rfl ?_
        exact ih h hk
      · have h := h25
        by_cases hc3 : x1 ≤ (x3 + (2 : Int32))
        · rw [if_pos hc3] at h
          refine am_Go.c1 htb (S' := (143, [some (.inr (.inr (some (10, 0)))), some (.inl x1), some (.inl x2), some (.inl x3)], [], am_mk m)) (if_pos hc3) ?_
          refine am_Go.n htb 6 (S' := (153, [some (.inr (.inr (some (10, 0)))), some (.inl x1), some (.inl x2), some (.inl x3)], [], am_mk (am_si m 10 0 11 ((m.1 10 0 11) + (1 : Int32))))) rfl ?_
          cases h
          exact am_Go.fg (by exact ⟨rfl, ⟨rfl, ⟨rfl, ⟨rfl, trivial⟩⟩⟩⟩) key
        · rw [if_neg hc3] at h
          refine am_Go.c1 htb (S' := (47, [some (.inr (.inr (some (10, 0)))), some (.inl x1), some (.inl x2), some (.inl x3)], [], am_mk m)) (if_neg hc3) ?_
          refine am_Go.n htb 4 (S' := (53, [some (.inr (.inr (some (10, 0)))), some (.inl x1), some (.inl x2), some (.inl x3)], [.inl x3, .inr (.inr (some (50, 0))), .inr (.inr (some (10, 0)))], am_mk m)) rfl ?_
          obtain ⟨hg4, h⟩ := am_ck_some h
          refine am_Go.c1 htb (S' := (54, [some (.inr (.inr (some (10, 0)))), some (.inl x1), some (.inl x2), some (.inl x3)], [.inl (m.1 50 0 x3.toNatClampNeg), .inr (.inr (some (10, 0)))], am_mk m)) (if_neg hg4) ?_
          obtain ⟨r5, h6, h⟩ := am_bd h
          refine am_Go.cl htb rfl (ex_X10_isFolk d (by omega) (m.1 50 0 x3.toNatClampNeg) m r5 h6) ?_
          show am_Go d 197 (57, [some (.inr (.inr (some (10, 0)))), some (.inl x1), some (.inl x2), some (.inl x3)], [.inl r5], am_mk m) _ _ _ _
          by_cases hc7 : r5 = 0
          · rw [if_pos hc7] at h
            refine am_Go.c1 htb (S' := (143, [some (.inr (.inr (some (10, 0)))), some (.inl x1), some (.inl x2), some (.inl x3)], [], am_mk m)) (if_pos hc7) ?_
            refine am_Go.n htb 6 (S' := (153, [some (.inr (.inr (some (10, 0)))), some (.inl x1), some (.inl x2), some (.inl x3)], [], am_mk (am_si m 10 0 11 ((m.1 10 0 11) + (1 : Int32))))) rfl ?_
            cases h
            exact am_Go.fg (by exact ⟨rfl, ⟨rfl, ⟨rfl, ⟨rfl, trivial⟩⟩⟩⟩) key
          · rw [if_neg hc7] at h
            refine am_Go.c1 htb (S' := (60, [some (.inr (.inr (some (10, 0)))), some (.inl x1), some (.inl x2), some (.inl x3)], [], am_mk m)) (if_neg hc7) ?_
            refine am_Go.n htb 6 (S' := (68, [some (.inr (.inr (some (10, 0)))), some (.inl x1), some (.inl x2), some (.inl x3)], [.inl (x3 + (1 : Int32)), .inr (.inr (some (50, 0))), .inr (.inr (some (10, 0)))], am_mk m)) rfl ?_
            obtain ⟨hg8, h⟩ := am_ck_some h
            refine am_Go.c1 htb (S' := (69, [some (.inr (.inr (some (10, 0)))), some (.inl x1), some (.inl x2), some (.inl x3)], [.inl (m.1 50 0 (x3 + (1 : Int32)).toNatClampNeg), .inr (.inr (some (10, 0)))], am_mk m)) (if_neg hg8) ?_
            obtain ⟨r9, h10, h⟩ := am_bd h
            refine am_Go.cl htb rfl (ex_X10_isFolk d (by omega) (m.1 50 0 (x3 + (1 : Int32)).toNatClampNeg) m r9 h10) ?_
            show am_Go d 197 (72, [some (.inr (.inr (some (10, 0)))), some (.inl x1), some (.inl x2), some (.inl x3)], [.inl r9], am_mk m) _ _ _ _
            by_cases hc11 : r9 = 0
            · rw [if_pos hc11] at h
              refine am_Go.c1 htb (S' := (143, [some (.inr (.inr (some (10, 0)))), some (.inl x1), some (.inl x2), some (.inl x3)], [], am_mk m)) (if_pos hc11) ?_
              refine am_Go.n htb 6 (S' := (153, [some (.inr (.inr (some (10, 0)))), some (.inl x1), some (.inl x2), some (.inl x3)], [], am_mk (am_si m 10 0 11 ((m.1 10 0 11) + (1 : Int32))))) rfl ?_
              cases h
              exact am_Go.fg (by exact ⟨rfl, ⟨rfl, ⟨rfl, ⟨rfl, trivial⟩⟩⟩⟩) key
            · rw [if_neg hc11] at h
              refine am_Go.c1 htb (S' := (75, [some (.inr (.inr (some (10, 0)))), some (.inl x1), some (.inl x2), some (.inl x3)], [], am_mk m)) (if_neg hc11) ?_
              refine am_Go.n htb 3 (S' := (80, [some (.inr (.inr (some (10, 0)))), some (.inl x1), some (.inl x2), some (.inl x3)], [.inl x3, .inr (.inr (some (50, 0)))], am_mk m)) rfl ?_
              obtain ⟨hg12, h⟩ := am_ck_some h
              refine am_Go.c1 htb (S' := (81, [some (.inr (.inr (some (10, 0)))), some (.inl x1), some (.inl x2), some (.inl x3)], [.inl (m.1 50 0 x3.toNatClampNeg)], am_mk m)) (if_neg hg12) ?_
              refine am_Go.n htb 5 (S' := (88, [some (.inr (.inr (some (10, 0)))), some (.inl x1), some (.inl x2), some (.inl x3)], [.inl (x3 + (1 : Int32)), .inr (.inr (some (50, 0))), .inl (m.1 50 0 x3.toNatClampNeg)], am_mk m)) rfl ?_
              obtain ⟨hg13, h⟩ := am_ck_some h
              refine am_Go.c1 htb (S' := (89, [some (.inr (.inr (some (10, 0)))), some (.inl x1), some (.inl x2), some (.inl x3)], [.inl (m.1 50 0 (x3 + (1 : Int32)).toNatClampNeg), .inl (m.1 50 0 x3.toNatClampNeg)], am_mk m)) (if_neg hg13) ?_
              by_cases hc14 : (m.1 50 0 x3.toNatClampNeg) = (m.1 50 0 (x3 + (1 : Int32)).toNatClampNeg)
              · rw [if_pos hc14] at h
                refine am_Go.c1 htb (S' := (143, [some (.inr (.inr (some (10, 0)))), some (.inl x1), some (.inl x2), some (.inl x3)], [], am_mk m)) (if_pos hc14) ?_
                refine am_Go.n htb 6 (S' := (153, [some (.inr (.inr (some (10, 0)))), some (.inl x1), some (.inl x2), some (.inl x3)], [], am_mk (am_si m 10 0 11 ((m.1 10 0 11) + (1 : Int32))))) rfl ?_
                cases h
                exact am_Go.fg (by exact ⟨rfl, ⟨rfl, ⟨rfl, ⟨rfl, trivial⟩⟩⟩⟩) key
              · rw [if_neg hc14] at h
                refine am_Go.c1 htb (S' := (92, [some (.inr (.inr (some (10, 0)))), some (.inl x1), some (.inl x2), some (.inl x3)], [], am_mk m)) (if_neg hc14) ?_
                refine am_Go.n htb 5 (S' := (99, [some (.inr (.inr (some (10, 0)))), some (.inl x1), some (.inl x2), some (.inl x3)], [.inl (x3 + (2 : Int32)), .inr (.inr (some (50, 0)))], am_mk m)) rfl ?_
                obtain ⟨hg15, h⟩ := am_ck_some h
                refine am_Go.c1 htb (S' := (100, [some (.inr (.inr (some (10, 0)))), some (.inl x1), some (.inl x2), some (.inl x3)], [.inl (m.1 50 0 (x3 + (2 : Int32)).toNatClampNeg)], am_mk m)) (if_neg hg15) ?_
                refine am_Go.n htb 3 (S' := (105, [some (.inr (.inr (some (10, 0)))), some (.inl x1), some (.inl x2), some (.inl x3)], [.inr (.inl 9), .inr (.inl 1), .inr (.inl ((m.1 50 0 (x3 + (2 : Int32)).toNatClampNeg).toInt64))], am_mk m)) rfl ?_
                obtain ⟨r16, h17, h⟩ := am_bd h
                refine am_Go.cl htb rfl (ex_X10_in d (by omega) ((m.1 50 0 (x3 + (2 : Int32)).toNatClampNeg).toInt64) 1 9 m r16 h17) ?_
                show am_Go d 197 (108, [some (.inr (.inr (some (10, 0)))), some (.inl x1), some (.inl x2), some (.inl x3)], [.inl r16], am_mk m) _ _ _ _
                by_cases hc18 : r16 = 0
                · rw [if_pos hc18] at h
                  refine am_Go.c1 htb (S' := (143, [some (.inr (.inr (some (10, 0)))), some (.inl x1), some (.inl x2), some (.inl x3)], [], am_mk m)) (if_pos hc18) ?_
                  refine am_Go.n htb 6 (S' := (153, [some (.inr (.inr (some (10, 0)))), some (.inl x1), some (.inl x2), some (.inl x3)], [], am_mk (am_si m 10 0 11 ((m.1 10 0 11) + (1 : Int32))))) rfl ?_
                  cases h
                  exact am_Go.fg (by exact ⟨rfl, ⟨rfl, ⟨rfl, ⟨rfl, trivial⟩⟩⟩⟩) key
                · rw [if_neg hc18] at h
                  refine am_Go.c1 htb (S' := (111, [some (.inr (.inr (some (10, 0)))), some (.inl x1), some (.inl x2), some (.inl x3)], [], am_mk m)) (if_neg hc18) ?_
                  refine am_Go.n htb 4 (S' := (117, [some (.inr (.inr (some (10, 0)))), some (.inl x1), some (.inl x2), some (.inl x3)], [.inl x3, .inr (.inr (some (50, 0))), .inr (.inr (some (10, 0)))], am_mk m)) rfl ?_
                  obtain ⟨hg19, h⟩ := am_ck_some h
                  refine am_Go.c1 htb (S' := (118, [some (.inr (.inr (some (10, 0)))), some (.inl x1), some (.inl x2), some (.inl x3)], [.inl (m.1 50 0 x3.toNatClampNeg), .inr (.inr (some (10, 0)))], am_mk m)) (if_neg hg19) ?_
                  refine am_Go.n htb 5 (S' := (125, [some (.inr (.inr (some (10, 0)))), some (.inl x1), some (.inl x2), some (.inl x3)], [.inl (x3 + (1 : Int32)), .inr (.inr (some (50, 0))), .inl (m.1 50 0 x3.toNatClampNeg), .inr (.inr (some (10, 0)))], am_mk m)) rfl ?_
                  obtain ⟨hg20, h⟩ := am_ck_some h
                  refine am_Go.c1 htb (S' := (126, [some (.inr (.inr (some (10, 0)))), some (.inl x1), some (.inl x2), some (.inl x3)], [.inl (m.1 50 0 (x3 + (1 : Int32)).toNatClampNeg), .inl (m.1 50 0 x3.toNatClampNeg), .inr (.inr (some (10, 0)))], am_mk m)) (if_neg hg20) ?_
                  refine am_Go.n htb 5 (S' := (133, [some (.inr (.inr (some (10, 0)))), some (.inl x1), some (.inl x2), some (.inl x3)], [.inl (x3 + (2 : Int32)), .inr (.inr (some (50, 0))), .inl (m.1 50 0 (x3 + (1 : Int32)).toNatClampNeg), .inl (m.1 50 0 x3.toNatClampNeg), .inr (.inr (some (10, 0)))], am_mk m)) rfl ?_
                  obtain ⟨hg21, h⟩ := am_ck_some h
                  refine am_Go.c1 htb (S' := (134, [some (.inr (.inr (some (10, 0)))), some (.inl x1), some (.inl x2), some (.inl x3)], [.inl (m.1 50 0 (x3 + (2 : Int32)).toNatClampNeg), .inl (m.1 50 0 (x3 + (1 : Int32)).toNatClampNeg), .inl (m.1 50 0 x3.toNatClampNeg), .inr (.inr (some (10, 0)))], am_mk m)) (if_neg hg21) ?_
                  obtain ⟨r22, h23, h⟩ := am_bd h
                  refine am_Go.cl htb rfl (ex_X10_setHarm d (by omega) (m.1 50 0 x3.toNatClampNeg) (m.1 50 0 (x3 + (1 : Int32)).toNatClampNeg) (m.1 50 0 (x3 + (2 : Int32)).toNatClampNeg) m r22 h23) ?_
                  show am_Go d 197 (137, [some (.inr (.inr (some (10, 0)))), some (.inl x1), some (.inl x2), some (.inl x3)], [], am_mk r22) _ _ _ _
                  refine am_Go.n htb 2 (S' := (153, [some (.inr (.inr (some (10, 0)))), some (.inl x1), some (.inl (x2 + 1)), some (.inl x3)], [], am_mk r22)) rfl ?_
                  cases h
                  exact am_Go.fg (by exact ⟨rfl, ⟨rfl, ⟨rfl, ⟨rfl, trivial⟩⟩⟩⟩) key
def fn_X10_row  (m : am_m) : Option (Int32 × am_m) :=
  (if ((am_si m 10 0 0 0).1 10 0 13) ≠ 0 then (lp_X10_row_35 1000000 ((am_si m 10 0 0 0).1 10 0 13) 0 0 (am_si (am_si (am_si m 10 0 0 0) 10 0 13 0) 10 0 11 0)).bind fun q26 => (fn_X10_lasting q26.1 q26.2).bind fun r28 => some (r28.1, r28.2) else (fn_X10_tell (-6) (am_si (am_si m 10 0 0 0) 10 0 13 0)).bind fun r30 => some (r30.1, r30.2))
set_option maxRecDepth 100000 in
theorem ex_X10_row (d : Nat) (hd : 3 ≤ d)  (m : am_m) (t : Int32 × am_m) (h : fn_X10_row  m = some t) : am_Ex am_cod d 197 [.inr (.inr (some (10, 0)))] (am_mk m) (some (.inl t.1)) (am_mk t.2) 0 0 := by
  obtain ⟨d, rfl⟩ : ∃ e, d = e + 1 := ⟨d - 1, by omega⟩
  have htb : am_tab 197 = at_197 := rfl
  refine ⟨Nat.le_of_ble_eq_true rfl, ?_⟩
  unfold fn_X10_row at h
  show am_Go d 197 (0, [some (.inr (.inr (some (10, 0)))), none, none, none], [], am_mk m) _ _ 0 0
  refine am_Go.n htb 10 (S' := (16, [some (.inr (.inr (some (10, 0)))), some (.inl ((am_si m 10 0 0 0).1 10 0 13)), none, none], [.inl ((am_si m 10 0 0 0).1 10 0 13)], am_mk (am_si (am_si m 10 0 0 0) 10 0 13 0))) rfl ?_
  by_cases hc1 : ((am_si m 10 0 0 0).1 10 0 13) ≠ 0
  · rw [if_pos hc1] at h
    refine am_Go.c1 htb (S' := (26, [some (.inr (.inr (some (10, 0)))), some (.inl ((am_si m 10 0 0 0).1 10 0 13)), none, none], [], am_mk (am_si (am_si m 10 0 0 0) 10 0 13 0))) (if_pos hc1) ?_
    refine am_Go.n htb 7 (S' := (35, [some (.inr (.inr (some (10, 0)))), some (.inl ((am_si m 10 0 0 0).1 10 0 13)), some (.inl 0), some (.inl 0)], [], am_mk (am_si (am_si (am_si m 10 0 0 0) 10 0 13 0) 10 0 11 0))) rfl ?_
    obtain ⟨q26, h27, h⟩ := am_bd h
    refine lt_X10_row_35 _ hd (h := h27) (hk := ?_)
    refine am_Go.n htb 2 (S' := (161, [some (.inr (.inr (some (10, 0)))), some (.inl ((am_si m 10 0 0 0).1 10 0 13)), some (.inl q26.1), none], [.inl q26.1, .inr (.inr (some (10, 0)))], am_mk q26.2)) rfl ?_
    obtain ⟨r28, h29, h⟩ := am_bd h
    refine am_Go.cl htb rfl (ex_X10_lasting d (by omega) q26.1 q26.2 r28 h29) ?_
    show am_Go d 197 (164, [some (.inr (.inr (some (10, 0)))), some (.inl ((am_si m 10 0 0 0).1 10 0 13)), some (.inl q26.1), none], [.inl r28.1], am_mk r28.2) _ _ _ _
    cases h
    exact am_Go.r htb rfl
  · rw [if_neg hc1] at h
    refine am_Go.c1 htb (S' := (19, [some (.inr (.inr (some (10, 0)))), some (.inl ((am_si m 10 0 0 0).1 10 0 13)), none, none], [], am_mk (am_si (am_si m 10 0 0 0) 10 0 13 0))) (if_neg hc1) ?_
    refine am_Go.n htb 2 (S' := (22, [some (.inr (.inr (some (10, 0)))), some (.inl ((am_si m 10 0 0 0).1 10 0 13)), none, none], [.inl (-6), .inr (.inr (some (10, 0)))], am_mk (am_si (am_si m 10 0 0 0) 10 0 13 0))) rfl ?_
    obtain ⟨r30, h31, h⟩ := am_bd h
    refine am_Go.cl htb rfl (ex_X10_tell d (by omega) (-6) (am_si (am_si m 10 0 0 0) 10 0 13 0) r30 h31) ?_
    show am_Go d 197 (25, [some (.inr (.inr (some (10, 0)))), some (.inl ((am_si m 10 0 0 0).1 10 0 13)), none, none], [.inl r30.1], am_mk r30.2) _ _ _ _
    cases h
    exact am_Go.r htb rfl
-- X10_crumbs
def fn_X10_crumbs  (m : am_m) : Option (Int32 × am_m) :=
  some (((am_si m 10 0 0 0).1 10 0 11), am_si m 10 0 0 0)
set_option maxRecDepth 100000 in
theorem ex_X10_crumbs (d : Nat) (hd : 1 ≤ d)  (m : am_m) (t : Int32 × am_m) (h : fn_X10_crumbs  m = some t) : am_Ex am_cod d 198 [.inr (.inr (some (10, 0)))] (am_mk m) (some (.inl t.1)) (am_mk t.2) 0 0 := by
  obtain ⟨d, rfl⟩ : ∃ e, d = e + 1 := ⟨d - 1, by omega⟩
  have htb : am_tab 198 = at_198 := rfl
  refine ⟨Nat.le_of_ble_eq_true rfl, ?_⟩
  unfold fn_X10_crumbs at h
  show am_Go d 198 (0, [some (.inr (.inr (some (10, 0))))], [], am_mk m) _ _ 0 0
  refine am_Go.n htb 5 (S' := (9, [some (.inr (.inr (some (10, 0))))], [.inl ((am_si m 10 0 0 0).1 10 0 11)], am_mk (am_si m 10 0 0 0))) rfl ?_
  cases h
  exact am_Go.r htb rfl
-- X10_four
def lp_X10_four_3 : Nat → Int32 → Int32 → am_m → Option (am_m)
  | 0, _, _, _ => none
  | n + 1, x1, x2, m =>
  (if x2 < 0 then some m else am_ck (m.1 10 0 13) 400 (lp_X10_four_3 n x1 (x2 + (-8)) (am_si (am_si m 50 0 (m.1 10 0 13).toNatClampNeg ((x1 >>> (x2 &&& 31)) &&& (255 : Int32))) 10 0 13 (((am_si m 50 0 (m.1 10 0 13).toNatClampNeg ((x1 >>> (x2 &&& 31)) &&& (255 : Int32))).1 10 0 13) + (1 : Int32)))))
set_option maxRecDepth 100000 in
theorem lt_X10_four_3 (d : Nat) (hd : 1 ≤ d + 1) {r : Option am_V} {M' : am_M} {kc ks : Nat} {n : Nat} {x1 : Int32} {x2 : Int32} {m : am_m} {t : am_m} (h : lp_X10_four_3 n x1 x2 m = some t) (hk : am_Go d 199 (39, [some (.inr (.inr (some (10, 0)))), some (.inl x1), none], [], am_mk t) r M' kc ks) : am_Go d 199 (3, [some (.inr (.inr (some (10, 0)))), some (.inl x1), some (.inl x2)], [], am_mk m) r M' kc ks := by
  have htb : am_tab 199 = at_199 := rfl
  induction n generalizing x2 m with
  | zero => cases h
  | succ n ih =>
    unfold lp_X10_four_3 at h
    refine am_Go.n htb 1 (S' := (4, [some (.inr (.inr (some (10, 0)))), some (.inl x1), some (.inl x2)], [.inl x2], am_mk m)) rfl ?_
    by_cases hc1 : x2 < 0
    · rw [if_pos hc1] at h
      refine am_Go.c1 htb (S' := (39, [some (.inr (.inr (some (10, 0)))), some (.inl x1), some (.inl x2)], [], am_mk m)) (if_pos hc1) ?_
      cases h
      exact am_Go.fg (by exact ⟨rfl, ⟨rfl, trivial⟩⟩) hk
    · rw [if_neg hc1] at h
      refine am_Go.c1 htb (S' := (7, [some (.inr (.inr (some (10, 0)))), some (.inl x1), some (.inl x2)], [], am_mk m)) (if_neg hc1) ?_
      refine am_Go.n htb 9 (S' := (22, [some (.inr (.inr (some (10, 0)))), some (.inl x1), some (.inl x2)], [.inl ((x1 >>> (x2 &&& 31)) &&& (255 : Int32)), .inl (m.1 10 0 13), .inr (.inr (some (50, 0)))], am_mk m)) rfl ?_
      obtain ⟨hg2, h⟩ := am_ck_some h
      refine am_Go.c1 htb (S' := (23, [some (.inr (.inr (some (10, 0)))), some (.inl x1), some (.inl x2)], [], am_mk (am_si m 50 0 (m.1 10 0 13).toNatClampNeg ((x1 >>> (x2 &&& 31)) &&& (255 : Int32))))) (if_neg hg2) ?_
      refine am_Go.n htb 8 (S' := (3, [some (.inr (.inr (some (10, 0)))), some (.inl x1), some (.inl (x2 + (-8)))], [], am_mk (am_si (am_si m 50 0 (m.1 10 0 13).toNatClampNeg ((x1 >>> (x2 &&& 31)) &&& (255 : Int32))) 10 0 13 (((am_si m 50 0 (m.1 10 0 13).toNatClampNeg ((x1 >>> (x2 &&& 31)) &&& (255 : Int32))).1 10 0 13) + (1 : Int32))))) rfl ?_
      exact ih h hk
def fn_X10_four (a1 : Int32) (m : am_m) : Option (am_m) :=
  (lp_X10_four_3 1000000 a1 24 m).bind fun q3 => some q3
set_option maxRecDepth 100000 in
theorem ex_X10_four (d : Nat) (hd : 1 ≤ d) (a1 : Int32) (m : am_m) (t : am_m) (h : fn_X10_four a1 m = some t) : am_Ex am_cod d 199 [.inr (.inr (some (10, 0))), .inl a1] (am_mk m) (none) (am_mk t) 0 0 := by
  obtain ⟨d, rfl⟩ : ∃ e, d = e + 1 := ⟨d - 1, by omega⟩
  have htb : am_tab 199 = at_199 := rfl
  refine ⟨Nat.le_of_ble_eq_true rfl, ?_⟩
  unfold fn_X10_four at h
  show am_Go d 199 (0, [some (.inr (.inr (some (10, 0)))), some (.inl a1), none], [], am_mk m) _ _ 0 0
  refine am_Go.n htb 2 (S' := (3, [some (.inr (.inr (some (10, 0)))), some (.inl a1), some (.inl 24)], [], am_mk m)) rfl ?_
  obtain ⟨q3, h4, h⟩ := am_bd h
  refine lt_X10_four_3 _ hd (h := h4) (hk := ?_)
  cases h
  exact am_Go.r htb rfl
-- X10_feed
def fn_X10_feed (a1 : Int32) (a2 : Int32) (a3 : Int32) (a4 : Int32) (a5 : Int32) (m : am_m) : Option (Int32 × am_m) :=
  (if (((am_si m 10 0 0 0).1 10 0 13) + (20 : Int32)) ≤ (400 : Int32) then (fn_X10_four a1 (am_si m 10 0 0 0)).bind fun r2 => (fn_X10_four a2 r2).bind fun r4 => (fn_X10_four a3 r4).bind fun r6 => (fn_X10_four a4 r6).bind fun r8 => (fn_X10_four a5 r8).bind fun r10 => some ((r10.1 10 0 13), r10) else some ((-1), am_si m 10 0 0 0))
set_option maxRecDepth 100000 in
theorem ex_X10_feed (d : Nat) (hd : 2 ≤ d) (a1 : Int32) (a2 : Int32) (a3 : Int32) (a4 : Int32) (a5 : Int32) (m : am_m) (t : Int32 × am_m) (h : fn_X10_feed a1 a2 a3 a4 a5 m = some t) : am_Ex am_cod d 200 [.inr (.inr (some (10, 0))), .inl a1, .inl a2, .inl a3, .inl a4, .inl a5] (am_mk m) (some (.inl t.1)) (am_mk t.2) 0 0 := by
  obtain ⟨d, rfl⟩ : ∃ e, d = e + 1 := ⟨d - 1, by omega⟩
  have htb : am_tab 200 = at_200 := rfl
  refine ⟨Nat.le_of_ble_eq_true rfl, ?_⟩
  unfold fn_X10_feed at h
  show am_Go d 200 (0, [some (.inr (.inr (some (10, 0)))), some (.inl a1), some (.inl a2), some (.inl a3), some (.inl a4), some (.inl a5)], [], am_mk m) _ _ 0 0
  refine am_Go.n htb 8 (S' := (15, [some (.inr (.inr (some (10, 0)))), some (.inl a1), some (.inl a2), some (.inl a3), some (.inl a4), some (.inl a5)], [.inl 400, .inl (((am_si m 10 0 0 0).1 10 0 13) + (20 : Int32))], am_mk (am_si m 10 0 0 0))) rfl ?_
  by_cases hc1 : (((am_si m 10 0 0 0).1 10 0 13) + (20 : Int32)) ≤ (400 : Int32)
  · rw [if_pos hc1] at h
    refine am_Go.c1 htb (S' := (20, [some (.inr (.inr (some (10, 0)))), some (.inl a1), some (.inl a2), some (.inl a3), some (.inl a4), some (.inl a5)], [], am_mk (am_si m 10 0 0 0))) (if_pos hc1) ?_
    refine am_Go.n htb 2 (S' := (22, [some (.inr (.inr (some (10, 0)))), some (.inl a1), some (.inl a2), some (.inl a3), some (.inl a4), some (.inl a5)], [.inl a1, .inr (.inr (some (10, 0)))], am_mk (am_si m 10 0 0 0))) rfl ?_
    obtain ⟨r2, h3, h⟩ := am_bd h
    refine am_Go.cl htb rfl (ex_X10_four d (by omega) a1 (am_si m 10 0 0 0) r2 h3) ?_
    show am_Go d 200 (25, [some (.inr (.inr (some (10, 0)))), some (.inl a1), some (.inl a2), some (.inl a3), some (.inl a4), some (.inl a5)], [], am_mk r2) _ _ _ _
    refine am_Go.n htb 2 (S' := (27, [some (.inr (.inr (some (10, 0)))), some (.inl a1), some (.inl a2), some (.inl a3), some (.inl a4), some (.inl a5)], [.inl a2, .inr (.inr (some (10, 0)))], am_mk r2)) rfl ?_
    obtain ⟨r4, h5, h⟩ := am_bd h
    refine am_Go.cl htb rfl (ex_X10_four d (by omega) a2 r2 r4 h5) ?_
    show am_Go d 200 (30, [some (.inr (.inr (some (10, 0)))), some (.inl a1), some (.inl a2), some (.inl a3), some (.inl a4), some (.inl a5)], [], am_mk r4) _ _ _ _
    refine am_Go.n htb 2 (S' := (32, [some (.inr (.inr (some (10, 0)))), some (.inl a1), some (.inl a2), some (.inl a3), some (.inl a4), some (.inl a5)], [.inl a3, .inr (.inr (some (10, 0)))], am_mk r4)) rfl ?_
    obtain ⟨r6, h7, h⟩ := am_bd h
    refine am_Go.cl htb rfl (ex_X10_four d (by omega) a3 r4 r6 h7) ?_
    show am_Go d 200 (35, [some (.inr (.inr (some (10, 0)))), some (.inl a1), some (.inl a2), some (.inl a3), some (.inl a4), some (.inl a5)], [], am_mk r6) _ _ _ _
    refine am_Go.n htb 2 (S' := (38, [some (.inr (.inr (some (10, 0)))), some (.inl a1), some (.inl a2), some (.inl a3), some (.inl a4), some (.inl a5)], [.inl a4, .inr (.inr (some (10, 0)))], am_mk r6)) rfl ?_
    obtain ⟨r8, h9, h⟩ := am_bd h
    refine am_Go.cl htb rfl (ex_X10_four d (by omega) a4 r6 r8 h9) ?_
    show am_Go d 200 (41, [some (.inr (.inr (some (10, 0)))), some (.inl a1), some (.inl a2), some (.inl a3), some (.inl a4), some (.inl a5)], [], am_mk r8) _ _ _ _
    refine am_Go.n htb 2 (S' := (44, [some (.inr (.inr (some (10, 0)))), some (.inl a1), some (.inl a2), some (.inl a3), some (.inl a4), some (.inl a5)], [.inl a5, .inr (.inr (some (10, 0)))], am_mk r8)) rfl ?_
    obtain ⟨r10, h11, h⟩ := am_bd h
    refine am_Go.cl htb rfl (ex_X10_four d (by omega) a5 r8 r10 h11) ?_
    show am_Go d 200 (47, [some (.inr (.inr (some (10, 0)))), some (.inl a1), some (.inl a2), some (.inl a3), some (.inl a4), some (.inl a5)], [], am_mk r10) _ _ _ _
    refine am_Go.n htb 2 (S' := (51, [some (.inr (.inr (some (10, 0)))), some (.inl a1), some (.inl a2), some (.inl a3), some (.inl a4), some (.inl a5)], [.inl (r10.1 10 0 13)], am_mk r10)) rfl ?_
    cases h
    exact am_Go.r htb rfl
  · rw [if_neg hc1] at h
    refine am_Go.c1 htb (S' := (18, [some (.inr (.inr (some (10, 0)))), some (.inl a1), some (.inl a2), some (.inl a3), some (.inl a4), some (.inl a5)], [], am_mk (am_si m 10 0 0 0))) (if_neg hc1) ?_
    refine am_Go.n htb 1 (S' := (19, [some (.inr (.inr (some (10, 0)))), some (.inl a1), some (.inl a2), some (.inl a3), some (.inl a4), some (.inl a5)], [.inl (-1)], am_mk (am_si m 10 0 0 0))) rfl ?_
    cases h
    exact am_Go.r htb rfl
-- X10_end
def fn_X10_end (a1 : Int32) (m : am_m) : Option (Int32 × am_m) :=
  (if a1 < 0 then some ((-1), am_si m 10 0 0 0) else (if a1 ≤ ((am_si m 10 0 0 0).1 10 0 13) then some (a1, am_si (am_si m 10 0 0 0) 10 0 13 a1) else some ((-1), am_si m 10 0 0 0)))
set_option maxRecDepth 100000 in
theorem ex_X10_end (d : Nat) (hd : 1 ≤ d) (a1 : Int32) (m : am_m) (t : Int32 × am_m) (h : fn_X10_end a1 m = some t) : am_Ex am_cod d 201 [.inr (.inr (some (10, 0))), .inl a1] (am_mk m) (some (.inl t.1)) (am_mk t.2) 0 0 := by
  obtain ⟨d, rfl⟩ : ∃ e, d = e + 1 := ⟨d - 1, by omega⟩
  have htb : am_tab 201 = at_201 := rfl
  refine ⟨Nat.le_of_ble_eq_true rfl, ?_⟩
  unfold fn_X10_end at h
  show am_Go d 201 (0, [some (.inr (.inr (some (10, 0)))), some (.inl a1)], [], am_mk m) _ _ 0 0
  refine am_Go.n htb 4 (S' := (6, [some (.inr (.inr (some (10, 0)))), some (.inl a1)], [.inl a1], am_mk (am_si m 10 0 0 0))) rfl ?_
  by_cases hc1 : a1 < 0
  · rw [if_pos hc1] at h
    refine am_Go.c1 htb (S' := (17, [some (.inr (.inr (some (10, 0)))), some (.inl a1)], [], am_mk (am_si m 10 0 0 0))) (if_pos hc1) ?_
    refine am_Go.n htb 1 (S' := (18, [some (.inr (.inr (some (10, 0)))), some (.inl a1)], [.inl (-1)], am_mk (am_si m 10 0 0 0))) rfl ?_
    cases h
    exact am_Go.r htb rfl
  · rw [if_neg hc1] at h
    refine am_Go.c1 htb (S' := (9, [some (.inr (.inr (some (10, 0)))), some (.inl a1)], [], am_mk (am_si m 10 0 0 0))) (if_neg hc1) ?_
    refine am_Go.n htb 3 (S' := (14, [some (.inr (.inr (some (10, 0)))), some (.inl a1)], [.inl ((am_si m 10 0 0 0).1 10 0 13), .inl a1], am_mk (am_si m 10 0 0 0))) rfl ?_
    by_cases hc2 : a1 ≤ ((am_si m 10 0 0 0).1 10 0 13)
    · rw [if_pos hc2] at h
      refine am_Go.c1 htb (S' := (19, [some (.inr (.inr (some (10, 0)))), some (.inl a1)], [], am_mk (am_si m 10 0 0 0))) (if_pos hc2) ?_
      refine am_Go.n htb 4 (S' := (25, [some (.inr (.inr (some (10, 0)))), some (.inl a1)], [.inl a1], am_mk (am_si (am_si m 10 0 0 0) 10 0 13 a1))) rfl ?_
      cases h
      exact am_Go.r htb rfl
    · rw [if_neg hc2] at h
      refine am_Go.c1 htb (S' := (17, [some (.inr (.inr (some (10, 0)))), some (.inl a1)], [], am_mk (am_si m 10 0 0 0))) (if_neg hc2) ?_
      refine am_Go.n htb 1 (S' := (18, [some (.inr (.inr (some (10, 0)))), some (.inl a1)], [.inl (-1)], am_mk (am_si m 10 0 0 0))) rfl ?_
      cases h
      exact am_Go.r htb rfl
-- X10_isSmall
def fn_X10_isSmall (a1 : Int32) (m : am_m) : Option (Int32) :=
  (if a1 < (97 : Int32) then some 0 else (if (122 : Int32) < a1 then some 0 else some 1))
set_option maxRecDepth 100000 in
theorem ex_X10_isSmall (d : Nat) (hd : 1 ≤ d) (a1 : Int32) (m : am_m) (t : Int32) (h : fn_X10_isSmall a1 m = some t) : am_Ex am_cod d 202 [.inl a1] (am_mk m) (some (.inl t)) (am_mk m) 0 0 := by
  obtain ⟨d, rfl⟩ : ∃ e, d = e + 1 := ⟨d - 1, by omega⟩
  have htb : am_tab 202 = at_202 := rfl
  refine ⟨Nat.le_of_ble_eq_true rfl, ?_⟩
  unfold fn_X10_isSmall at h
  show am_Go d 202 (0, [some (.inl a1)], [], am_mk m) _ _ 0 0
  refine am_Go.n htb 2 (S' := (3, [some (.inl a1)], [.inl 97, .inl a1], am_mk m)) rfl ?_
  by_cases hc1 : a1 < (97 : Int32)
  · rw [if_pos hc1] at h
    refine am_Go.c1 htb (S' := (16, [some (.inl a1)], [], am_mk m)) (if_pos hc1) ?_
    refine am_Go.n htb 1 (S' := (17, [some (.inl a1)], [.inl 0], am_mk m)) rfl ?_
    cases h
    exact am_Go.r htb rfl
  · rw [if_neg hc1] at h
    refine am_Go.c1 htb (S' := (6, [some (.inl a1)], [], am_mk m)) (if_neg hc1) ?_
    refine am_Go.n htb 2 (S' := (9, [some (.inl a1)], [.inl 122, .inl a1], am_mk m)) rfl ?_
    by_cases hc2 : (122 : Int32) < a1
    · rw [if_pos hc2] at h
      refine am_Go.c1 htb (S' := (16, [some (.inl a1)], [], am_mk m)) (if_pos hc2) ?_
      refine am_Go.n htb 1 (S' := (17, [some (.inl a1)], [.inl 0], am_mk m)) rfl ?_
      cases h
      exact am_Go.r htb rfl
    · rw [if_neg hc2] at h
      refine am_Go.c1 htb (S' := (12, [some (.inl a1)], [], am_mk m)) (if_neg hc2) ?_
      refine am_Go.n htb 2 (S' := (17, [some (.inl a1)], [.inl 1], am_mk m)) rfl ?_
      cases h
      exact am_Go.r htb rfl
-- X10_isDigit
def fn_X10_isDigit (a1 : Int32) (m : am_m) : Option (Int32) :=
  (if a1 < (48 : Int32) then some 0 else (if (57 : Int32) < a1 then some 0 else some 1))
set_option maxRecDepth 100000 in
theorem ex_X10_isDigit (d : Nat) (hd : 1 ≤ d) (a1 : Int32) (m : am_m) (t : Int32) (h : fn_X10_isDigit a1 m = some t) : am_Ex am_cod d 203 [.inl a1] (am_mk m) (some (.inl t)) (am_mk m) 0 0 := by
  obtain ⟨d, rfl⟩ : ∃ e, d = e + 1 := ⟨d - 1, by omega⟩
  have htb : am_tab 203 = at_203 := rfl
  refine ⟨Nat.le_of_ble_eq_true rfl, ?_⟩
  unfold fn_X10_isDigit at h
  show am_Go d 203 (0, [some (.inl a1)], [], am_mk m) _ _ 0 0
  refine am_Go.n htb 2 (S' := (3, [some (.inl a1)], [.inl 48, .inl a1], am_mk m)) rfl ?_
  by_cases hc1 : a1 < (48 : Int32)
  · rw [if_pos hc1] at h
    refine am_Go.c1 htb (S' := (16, [some (.inl a1)], [], am_mk m)) (if_pos hc1) ?_
    refine am_Go.n htb 1 (S' := (17, [some (.inl a1)], [.inl 0], am_mk m)) rfl ?_
    cases h
    exact am_Go.r htb rfl
  · rw [if_neg hc1] at h
    refine am_Go.c1 htb (S' := (6, [some (.inl a1)], [], am_mk m)) (if_neg hc1) ?_
    refine am_Go.n htb 2 (S' := (9, [some (.inl a1)], [.inl 57, .inl a1], am_mk m)) rfl ?_
    by_cases hc2 : (57 : Int32) < a1
    · rw [if_pos hc2] at h
      refine am_Go.c1 htb (S' := (16, [some (.inl a1)], [], am_mk m)) (if_pos hc2) ?_
      refine am_Go.n htb 1 (S' := (17, [some (.inl a1)], [.inl 0], am_mk m)) rfl ?_
      cases h
      exact am_Go.r htb rfl
    · rw [if_neg hc2] at h
      refine am_Go.c1 htb (S' := (12, [some (.inl a1)], [], am_mk m)) (if_neg hc2) ?_
      refine am_Go.n htb 2 (S' := (17, [some (.inl a1)], [.inl 1], am_mk m)) rfl ?_
      cases h
      exact am_Go.r htb rfl
-- X10_next
def lp_X10_next_8 : Nat → am_m → Option (am_m)
  | 0, _ => none
  | n + 1, m =>
  (if (m.1 10 0 13) ≤ (m.1 10 0 14) then some m else am_ck (m.1 10 0 14) 400 ((if (m.1 50 0 (m.1 10 0 14).toNatClampNeg) ≠ (32 : Int32) then some m else lp_X10_next_8 n  (am_si m 10 0 14 ((m.1 10 0 14) + (1 : Int32))))))
set_option maxRecDepth 100000 in
theorem lt_X10_next_8 (d : Nat) (hd : 2 ≤ d + 1) {r : Option am_V} {M' : am_M} {kc ks : Nat} {n : Nat} {m : am_m} {t : am_m} (h : lp_X10_next_8 n  m = some t) (hk : am_Go d 205 (46, [some (.inr (.inr (some (10, 0))))], [], am_mk t) r M' kc ks) : am_Go d 205 (8, [some (.inr (.inr (some (10, 0))))], [], am_mk m) r M' kc ks := by
  have htb : am_tab 205 = at_205 := rfl
  induction n generalizing m with
  | zero => cases h
  | succ n ih =>
    unfold lp_X10_next_8 at h
    refine am_Go.n htb 4 (S' := (16, [some (.inr (.inr (some (10, 0))))], [.inl (m.1 10 0 13), .inl (m.1 10 0 14)], am_mk m)) rfl ?_
    by_cases hc1 : (m.1 10 0 13) ≤ (m.1 10 0 14)
    · rw [if_pos hc1] at h
      refine am_Go.c1 htb (S' := (46, [some (.inr (.inr (some (10, 0))))], [], am_mk m)) (if_pos hc1) ?_
      cases h
      exact am_Go.fg (by exact ⟨rfl, trivial⟩) hk
    · rw [if_neg hc1] at h
      refine am_Go.c1 htb (S' := (19, [some (.inr (.inr (some (10, 0))))], [], am_mk m)) (if_neg hc1) ?_
      refine am_Go.n htb 4 (S' := (27, [some (.inr (.inr (some (10, 0))))], [.inl (m.1 10 0 14), .inr (.inr (some (50, 0)))], am_mk m)) rfl ?_
      obtain ⟨hg2, h⟩ := am_ck_some h
      refine am_Go.c1 htb (S' := (28, [some (.inr (.inr (some (10, 0))))], [.inl (m.1 50 0 (m.1 10 0 14).toNatClampNeg)], am_mk m)) (if_neg hg2) ?_
      refine am_Go.n htb 1 (S' := (30, [some (.inr (.inr (some (10, 0))))], [.inl 32, .inl (m.1 50 0 (m.1 10 0 14).toNatClampNeg)], am_mk m)) rfl ?_
      by_cases hc3 : (m.1 50 0 (m.1 10 0 14).toNatClampNeg) ≠ (32 : Int32)
      · rw [if_pos hc3] at h
        refine am_Go.c1 htb (S' := (46, [some (.inr (.inr (some (10, 0))))], [], am_mk m)) (if_pos hc3) ?_
        cases h
        exact am_Go.fg (by exact ⟨rfl, trivial⟩) hk
      · rw [if_neg hc3] at h
        refine am_Go.c1 htb (S' := (33, [some (.inr (.inr (some (10, 0))))], [], am_mk m)) (if_neg hc3) ?_
        refine am_Go.n htb 7 (S' := (8, [some (.inr (.inr (some (10, 0))))], [], am_mk (am_si m 10 0 14 ((m.1 10 0 14) + (1 : Int32))))) rfl ?_
        exact ih h hk
def lp_X10_next_149 : Nat → am_m → Option (am_m)
  | 0, _ => none
  | n + 1, m =>
  (if (m.1 10 0 16) ≠ (1 : Int32) then some m else (if (m.1 10 0 13) ≤ (m.1 10 0 15) then some m else am_ck (m.1 10 0 15) 400 ((fn_X10_isSmall (m.1 50 0 (m.1 10 0 15).toNatClampNeg) m).bind fun r22 => (if r22 = 0 then some m else (if (10 : Int32) ≤ ((m.1 10 0 15) - (m.1 10 0 14)) then some (-1) else am_ck (m.1 10 0 15) 400 (some ((((m.2.1 10 0 17) * (32 : Int64)) + ((m.1 50 0 (m.1 10 0 15).toNatClampNeg).toInt64)) - (96 : Int64)))).bind fun q27 => lp_X10_next_149 n  (am_si (am_sg m 10 0 17 q27) 10 0 15 (((am_sg m 10 0 17 q27).1 10 0 15) + (1 : Int32)))))))
set_option maxRecDepth 100000 in
theorem lt_X10_next_149 (d : Nat) (hd : 2 ≤ d + 1) {r : Option am_V} {M' : am_M} {kc ks : Nat} {n : Nat} {m : am_m} {t : am_m} (h : lp_X10_next_149 n  m = some t) (hk : am_Go d 205 (243, [some (.inr (.inr (some (10, 0))))], [], am_mk t) r M' kc ks) : am_Go d 205 (149, [some (.inr (.inr (some (10, 0))))], [], am_mk m) r M' kc ks := by
  have htb : am_tab 205 = at_205 := rfl
  induction n generalizing m with
  | zero => cases h
  | succ n ih =>
    unfold lp_X10_next_149 at h
    refine am_Go.n htb 3 (S' := (154, [some (.inr (.inr (some (10, 0))))], [.inl 1, .inl (m.1 10 0 16)], am_mk m)) rfl ?_
    by_cases hc19 : (m.1 10 0 16) ≠ (1 : Int32)
    · rw [if_pos hc19] at h
      refine am_Go.c1 htb (S' := (243, [some (.inr (.inr (some (10, 0))))], [], am_mk m)) (if_pos hc19) ?_
      cases h
      exact am_Go.fg (by exact ⟨rfl, trivial⟩) hk
    · rw [if_neg hc19] at h
      refine am_Go.c1 htb (S' := (157, [some (.inr (.inr (some (10, 0))))], [], am_mk m)) (if_neg hc19) ?_
      refine am_Go.n htb 4 (S' := (165, [some (.inr (.inr (some (10, 0))))], [.inl (m.1 10 0 13), .inl (m.1 10 0 15)], am_mk m)) rfl ?_
      by_cases hc20 : (m.1 10 0 13) ≤ (m.1 10 0 15)
      · rw [if_pos hc20] at h
        refine am_Go.c1 htb (S' := (243, [some (.inr (.inr (some (10, 0))))], [], am_mk m)) (if_pos hc20) ?_
        cases h
        exact am_Go.fg (by exact ⟨rfl, trivial⟩) hk
      · rw [if_neg hc20] at h
        refine am_Go.c1 htb (S' := (168, [some (.inr (.inr (some (10, 0))))], [], am_mk m)) (if_neg hc20) ?_
        refine am_Go.n htb 4 (S' := (176, [some (.inr (.inr (some (10, 0))))], [.inl (m.1 10 0 15), .inr (.inr (some (50, 0)))], am_mk m)) rfl ?_
        obtain ⟨hg21, h⟩ := am_ck_some h
        refine am_Go.c1 htb (S' := (177, [some (.inr (.inr (some (10, 0))))], [.inl (m.1 50 0 (m.1 10 0 15).toNatClampNeg)], am_mk m)) (if_neg hg21) ?_
        obtain ⟨r22, h23, h⟩ := am_bd h
        refine am_Go.cl htb rfl (ex_X10_isSmall d (by omega) (m.1 50 0 (m.1 10 0 15).toNatClampNeg) m r22 h23) ?_
        show am_Go d 205 (180, [some (.inr (.inr (some (10, 0))))], [.inl r22], am_mk m) _ _ _ _
        by_cases hc24 : r22 = 0
        · rw [if_pos hc24] at h
          refine am_Go.c1 htb (S' := (243, [some (.inr (.inr (some (10, 0))))], [], am_mk m)) (if_pos hc24) ?_
          cases h
          exact am_Go.fg (by exact ⟨rfl, trivial⟩) hk
        · rw [if_neg hc24] at h
          refine am_Go.c1 htb (S' := (183, [some (.inr (.inr (some (10, 0))))], [], am_mk m)) (if_neg hc24) ?_
          refine am_Go.n htb 7 (S' := (195, [some (.inr (.inr (some (10, 0))))], [.inl 10, .inl ((m.1 10 0 15) - (m.1 10 0 14)), .inr (.inr (some (10, 0)))], am_mk m)) rfl ?_
          obtain ⟨q27, h28, h⟩ := am_bd h
          refine am_Go.cut (S := (227, [some (.inr (.inr (some (10, 0))))], [.inr (.inl q27), .inr (.inr (some (10, 0)))], am_mk m)) ?_ (fun key => ?_)
          · refine am_Go.n htb 8 (S' := (149, [some (.inr (.inr (some (10, 0))))], [], am_mk (am_si (am_sg m 10 0 17 q27) 10 0 15 (((am_sg m 10 0 17 q27).1 10 0 15) + (1 : Int32))))) rfl ?_
            exact ih h hk
          · have h := h28
            by_cases hc25 : (10 : Int32) ≤ ((m.1 10 0 15) - (m.1 10 0 14))
            · rw [if_pos hc25] at h
              refine am_Go.c1 htb (S' := (224, [some (.inr (.inr (some (10, 0))))], [.inr (.inr (some (10, 0)))], am_mk m)) (if_pos hc25) ?_
              refine am_Go.n htb 1 (S' := (227, [some (.inr (.inr (some (10, 0))))], [.inr (.inl (-1)), .inr (.inr (some (10, 0)))], am_mk m)) rfl ?_
              cases h
              exact am_Go.fg (by exact ⟨rfl, trivial⟩) key
            · rw [if_neg hc25] at h
              refine am_Go.c1 htb (S' := (198, [some (.inr (.inr (some (10, 0))))], [.inr (.inr (some (10, 0)))], am_mk m)) (if_neg hc25) ?_
              refine am_Go.n htb 8 (S' := (214, [some (.inr (.inr (some (10, 0))))], [.inl (m.1 10 0 15), .inr (.inr (some (50, 0))), .inr (.inl ((m.2.1 10 0 17) * (32 : Int64))), .inr (.inr (some (10, 0)))], am_mk m)) rfl ?_
              obtain ⟨hg26, h⟩ := am_ck_some h
              refine am_Go.c1 htb (S' := (215, [some (.inr (.inr (some (10, 0))))], [.inl (m.1 50 0 (m.1 10 0 15).toNatClampNeg), .inr (.inl ((m.2.1 10 0 17) * (32 : Int64))), .inr (.inr (some (10, 0)))], am_mk m)) (if_neg hg26) ?_
              refine am_Go.n htb 5 (S' := (227, [some (.inr (.inr (some (10, 0))))], [.inr (.inl ((((m.2.1 10 0 17) * (32 : Int64)) + ((m.1 50 0 (m.1 10 0 15).toNatClampNeg).toInt64)) - (96 : Int64))), .inr (.inr (some (10, 0)))], am_mk m)) rfl ?_
              cases h
              exact am_Go.fg (by exact ⟨rfl, trivial⟩) key
def lp_X10_next_243 : Nat → am_m → Option (am_m)
  | 0, _ => none
  | n + 1, m =>
  (if (m.1 10 0 16) ≠ (2 : Int32) then some m else (if (m.1 10 0 13) ≤ (m.1 10 0 15) then some m else am_ck (m.1 10 0 15) 400 ((fn_X10_isDigit (m.1 50 0 (m.1 10 0 15).toNatClampNeg) m).bind fun r34 => (if r34 = 0 then some m else (if (lg_cmp (m.2.1 10 0 17) (1000000 : Int64)) ≤ 0 then am_ck (m.1 10 0 15) 400 (some ((((m.2.1 10 0 17) * (10 : Int64)) + ((m.1 50 0 (m.1 10 0 15).toNatClampNeg).toInt64)) - (48 : Int64))) else some (m.2.1 10 0 17)).bind fun q39 => lp_X10_next_243 n  (am_si (am_sg m 10 0 17 q39) 10 0 15 (((am_sg m 10 0 17 q39).1 10 0 15) + (1 : Int32)))))))
set_option maxRecDepth 100000 in
theorem lt_X10_next_243 (d : Nat) (hd : 2 ≤ d + 1) {r : Option am_V} {M' : am_M} {kc ks : Nat} {n : Nat} {m : am_m} {t : am_m} (h : lp_X10_next_243 n  m = some t) (hk : am_Go d 205 (335, [some (.inr (.inr (some (10, 0))))], [], am_mk t) r M' kc ks) : am_Go d 205 (243, [some (.inr (.inr (some (10, 0))))], [], am_mk m) r M' kc ks := by
  have htb : am_tab 205 = at_205 := rfl
  induction n generalizing m with
  | zero => cases h
  | succ n ih =>
    unfold lp_X10_next_243 at h
    refine am_Go.n htb 3 (S' := (248, [some (.inr (.inr (some (10, 0))))], [.inl 2, .inl (m.1 10 0 16)], am_mk m)) rfl ?_
    by_cases hc31 : (m.1 10 0 16) ≠ (2 : Int32)
    · rw [if_pos hc31] at h
      refine am_Go.c1 htb (S' := (335, [some (.inr (.inr (some (10, 0))))], [], am_mk m)) (if_pos hc31) ?_
      cases h
      exact am_Go.fg (by exact ⟨rfl, trivial⟩) hk
    · rw [if_neg hc31] at h
      refine am_Go.c1 htb (S' := (251, [some (.inr (.inr (some (10, 0))))], [], am_mk m)) (if_neg hc31) ?_
      refine am_Go.n htb 4 (S' := (259, [some (.inr (.inr (some (10, 0))))], [.inl (m.1 10 0 13), .inl (m.1 10 0 15)], am_mk m)) rfl ?_
      by_cases hc32 : (m.1 10 0 13) ≤ (m.1 10 0 15)
      · rw [if_pos hc32] at h
        refine am_Go.c1 htb (S' := (335, [some (.inr (.inr (some (10, 0))))], [], am_mk m)) (if_pos hc32) ?_
        cases h
        exact am_Go.fg (by exact ⟨rfl, trivial⟩) hk
      · rw [if_neg hc32] at h
        refine am_Go.c1 htb (S' := (262, [some (.inr (.inr (some (10, 0))))], [], am_mk m)) (if_neg hc32) ?_
        refine am_Go.n htb 4 (S' := (270, [some (.inr (.inr (some (10, 0))))], [.inl (m.1 10 0 15), .inr (.inr (some (50, 0)))], am_mk m)) rfl ?_
        obtain ⟨hg33, h⟩ := am_ck_some h
        refine am_Go.c1 htb (S' := (271, [some (.inr (.inr (some (10, 0))))], [.inl (m.1 50 0 (m.1 10 0 15).toNatClampNeg)], am_mk m)) (if_neg hg33) ?_
        obtain ⟨r34, h35, h⟩ := am_bd h
        refine am_Go.cl htb rfl (ex_X10_isDigit d (by omega) (m.1 50 0 (m.1 10 0 15).toNatClampNeg) m r34 h35) ?_
        show am_Go d 205 (274, [some (.inr (.inr (some (10, 0))))], [.inl r34], am_mk m) _ _ _ _
        by_cases hc36 : r34 = 0
        · rw [if_pos hc36] at h
          refine am_Go.c1 htb (S' := (335, [some (.inr (.inr (some (10, 0))))], [], am_mk m)) (if_pos hc36) ?_
          cases h
          exact am_Go.fg (by exact ⟨rfl, trivial⟩) hk
        · rw [if_neg hc36] at h
          refine am_Go.c1 htb (S' := (277, [some (.inr (.inr (some (10, 0))))], [], am_mk m)) (if_neg hc36) ?_
          refine am_Go.n htb 5 (S' := (286, [some (.inr (.inr (some (10, 0))))], [.inl (lg_cmp (m.2.1 10 0 17) (1000000 : Int64)), .inr (.inr (some (10, 0)))], am_mk m)) rfl ?_
          obtain ⟨q39, h40, h⟩ := am_bd h
          refine am_Go.cut (S := (319, [some (.inr (.inr (some (10, 0))))], [.inr (.inl q39), .inr (.inr (some (10, 0)))], am_mk m)) ?_ (fun key => ?_)
          · refine am_Go.n htb 8 (S' := (243, [some (.inr (.inr (some (10, 0))))], [], am_mk (am_si (am_sg m 10 0 17 q39) 10 0 15 (((am_sg m 10 0 17 q39).1 10 0 15) + (1 : Int32))))) rfl ?_
            exact ih h hk
          · have h := h40
            by_cases hc37 : (lg_cmp (m.2.1 10 0 17) (1000000 : Int64)) ≤ 0
            · rw [if_pos hc37] at h
              refine am_Go.c1 htb (S' := (296, [some (.inr (.inr (some (10, 0))))], [.inr (.inr (some (10, 0)))], am_mk m)) (if_pos hc37) ?_
              refine am_Go.n htb 8 (S' := (312, [some (.inr (.inr (some (10, 0))))], [.inl (m.1 10 0 15), .inr (.inr (some (50, 0))), .inr (.inl ((m.2.1 10 0 17) * (10 : Int64))), .inr (.inr (some (10, 0)))], am_mk m)) rfl ?_
              obtain ⟨hg38, h⟩ := am_ck_some h
              refine am_Go.c1 htb (S' := (313, [some (.inr (.inr (some (10, 0))))], [.inl (m.1 50 0 (m.1 10 0 15).toNatClampNeg), .inr (.inl ((m.2.1 10 0 17) * (10 : Int64))), .inr (.inr (some (10, 0)))], am_mk m)) (if_neg hg38) ?_
              refine am_Go.n htb 4 (S' := (319, [some (.inr (.inr (some (10, 0))))], [.inr (.inl ((((m.2.1 10 0 17) * (10 : Int64)) + ((m.1 50 0 (m.1 10 0 15).toNatClampNeg).toInt64)) - (48 : Int64))), .inr (.inr (some (10, 0)))], am_mk m)) rfl ?_
              cases h
              exact am_Go.fg (by exact ⟨rfl, trivial⟩) key
            · rw [if_neg hc37] at h
              refine am_Go.c1 htb (S' := (289, [some (.inr (.inr (some (10, 0))))], [.inr (.inr (some (10, 0)))], am_mk m)) (if_neg hc37) ?_
              refine am_Go.n htb 3 (S' := (319, [some (.inr (.inr (some (10, 0))))], [.inr (.inl (m.2.1 10 0 17)), .inr (.inr (some (10, 0)))], am_mk m)) rfl ?_
              cases h
              exact am_Go.fg (by exact ⟨rfl, trivial⟩) key
def fn_X10_next  (m : am_m) : Option (am_m) :=
  (lp_X10_next_8 1000000  (am_si m 10 0 14 (m.1 10 0 15))).bind fun q4 => (if ((am_sg (am_si q4 10 0 15 (q4.1 10 0 14)) 10 0 17 0).1 10 0 14) ≠ ((am_sg (am_si q4 10 0 15 (q4.1 10 0 14)) 10 0 17 0).1 10 0 13) then am_ck ((am_sg (am_si q4 10 0 15 (q4.1 10 0 14)) 10 0 17 0).1 10 0 14) 400 ((fn_X10_isSmall ((am_sg (am_si q4 10 0 15 (q4.1 10 0 14)) 10 0 17 0).1 50 0 ((am_sg (am_si q4 10 0 15 (q4.1 10 0 14)) 10 0 17 0).1 10 0 14).toNatClampNeg) (am_sg (am_si q4 10 0 15 (q4.1 10 0 14)) 10 0 17 0)).bind fun r8 => (if r8 = 0 then am_ck ((am_sg (am_si q4 10 0 15 (q4.1 10 0 14)) 10 0 17 0).1 10 0 14) 400 ((fn_X10_isDigit ((am_sg (am_si q4 10 0 15 (q4.1 10 0 14)) 10 0 17 0).1 50 0 ((am_sg (am_si q4 10 0 15 (q4.1 10 0 14)) 10 0 17 0).1 10 0 14).toNatClampNeg) (am_sg (am_si q4 10 0 15 (q4.1 10 0 14)) 10 0 17 0)).bind fun r12 => (if r12 = 0 then some 3 else some 2)) else some 1)) else some 0).bind fun q15 => (if ((am_si (am_sg (am_si q4 10 0 15 (q4.1 10 0 14)) 10 0 17 0) 10 0 16 q15).1 10 0 16) ≠ (3 : Int32) then some (am_si (am_sg (am_si q4 10 0 15 (q4.1 10 0 14)) 10 0 17 0) 10 0 16 q15) else am_ck ((am_si (am_sg (am_si q4 10 0 15 (q4.1 10 0 14)) 10 0 17 0) 10 0 16 q15).1 10 0 14) 400 (some (am_si (am_sg (am_si (am_sg (am_si q4 10 0 15 (q4.1 10 0 14)) 10 0 17 0) 10 0 16 q15) 10 0 17 (((am_si (am_sg (am_si q4 10 0 15 (q4.1 10 0 14)) 10 0 17 0) 10 0 16 q15).1 50 0 ((am_si (am_sg (am_si q4 10 0 15 (q4.1 10 0 14)) 10 0 17 0) 10 0 16 q15).1 10 0 14).toNatClampNeg).toInt64)) 10 0 15 (((am_sg (am_si (am_sg (am_si q4 10 0 15 (q4.1 10 0 14)) 10 0 17 0) 10 0 16 q15) 10 0 17 (((am_si (am_sg (am_si q4 10 0 15 (q4.1 10 0 14)) 10 0 17 0) 10 0 16 q15).1 50 0 ((am_si (am_sg (am_si q4 10 0 15 (q4.1 10 0 14)) 10 0 17 0) 10 0 16 q15).1 10 0 14).toNatClampNeg).toInt64)).1 10 0 15) + (1 : Int32))))).bind fun q18 => (lp_X10_next_149 1000000  q18).bind fun q29 => (lp_X10_next_243 1000000  q29).bind fun q41 => some q41
set_option maxRecDepth 100000 in
theorem ex_X10_next (d : Nat) (hd : 2 ≤ d)  (m : am_m) (t : am_m) (h : fn_X10_next  m = some t) : am_Ex am_cod d 205 [.inr (.inr (some (10, 0)))] (am_mk m) (none) (am_mk t) 0 0 := by
  obtain ⟨d, rfl⟩ : ∃ e, d = e + 1 := ⟨d - 1, by omega⟩
  have htb : am_tab 205 = at_205 := rfl
  refine ⟨Nat.le_of_ble_eq_true rfl, ?_⟩
  unfold fn_X10_next at h
  show am_Go d 205 (0, [some (.inr (.inr (some (10, 0))))], [], am_mk m) _ _ 0 0
  refine am_Go.n htb 4 (S' := (8, [some (.inr (.inr (some (10, 0))))], [], am_mk (am_si m 10 0 14 (m.1 10 0 15)))) rfl ?_
  obtain ⟨q4, h5, h⟩ := am_bd h
  refine lt_X10_next_8 _ hd (h := h5) (hk := ?_)
  refine am_Go.n htb 12 (S' := (68, [some (.inr (.inr (some (10, 0))))], [.inl ((am_sg (am_si q4 10 0 15 (q4.1 10 0 14)) 10 0 17 0).1 10 0 13), .inl ((am_sg (am_si q4 10 0 15 (q4.1 10 0 14)) 10 0 17 0).1 10 0 14), .inr (.inr (some (10, 0)))], am_mk (am_sg (am_si q4 10 0 15 (q4.1 10 0 14)) 10 0 17 0))) rfl ?_
  obtain ⟨q15, h44, h⟩ := am_bd h
  refine am_Go.cut (S := (114, [some (.inr (.inr (some (10, 0))))], [.inl q15, .inr (.inr (some (10, 0)))], am_mk (am_sg (am_si q4 10 0 15 (q4.1 10 0 14)) 10 0 17 0))) ?_ (fun key => ?_)
  · refine am_Go.n htb 4 (S' := (122, [some (.inr (.inr (some (10, 0))))], [.inl 3, .inl ((am_si (am_sg (am_si q4 10 0 15 (q4.1 10 0 14)) 10 0 17 0) 10 0 16 q15).1 10 0 16)], am_mk (am_si (am_sg (am_si q4 10 0 15 (q4.1 10 0 14)) 10 0 17 0) 10 0 16 q15))) rfl ?_
    obtain ⟨q18, h43, h⟩ := am_bd h
    refine am_Go.cut (S := (149, [some (.inr (.inr (some (10, 0))))], [], am_mk q18)) ?_ (fun key => ?_)
    · obtain ⟨q29, h30, h⟩ := am_bd h
      refine lt_X10_next_149 _ hd (h := h30) (hk := ?_)
      obtain ⟨q41, h42, h⟩ := am_bd h
      refine lt_X10_next_243 _ hd (h := h42) (hk := ?_)
      cases h
      exact am_Go.r htb rfl
    · have h := h43
      by_cases hc16 : ((am_si (am_sg (am_si q4 10 0 15 (q4.1 10 0 14)) 10 0 17 0) 10 0 16 q15).1 10 0 16) ≠ (3 : Int32)
      · rw [if_pos hc16] at h
        refine am_Go.c1 htb (S' := (149, [some (.inr (.inr (some (10, 0))))], [], am_mk (am_si (am_sg (am_si q4 10 0 15 (q4.1 10 0 14)) 10 0 17 0) 10 0 16 q15))) (if_pos hc16) ?_
        cases h
        exact am_Go.fg (by exact ⟨rfl, trivial⟩) key
      · rw [if_neg hc16] at h
        refine am_Go.c1 htb (S' := (125, [some (.inr (.inr (some (10, 0))))], [], am_mk (am_si (am_sg (am_si q4 10 0 15 (q4.1 10 0 14)) 10 0 17 0) 10 0 16 q15))) (if_neg hc16) ?_
        refine am_Go.n htb 5 (S' := (134, [some (.inr (.inr (some (10, 0))))], [.inl ((am_si (am_sg (am_si q4 10 0 15 (q4.1 10 0 14)) 10 0 17 0) 10 0 16 q15).1 10 0 14), .inr (.inr (some (50, 0))), .inr (.inr (some (10, 0)))], am_mk (am_si (am_sg (am_si q4 10 0 15 (q4.1 10 0 14)) 10 0 17 0) 10 0 16 q15))) rfl ?_
        obtain ⟨hg17, h⟩ := am_ck_some h
        refine am_Go.c1 htb (S' := (135, [some (.inr (.inr (some (10, 0))))], [.inl ((am_si (am_sg (am_si q4 10 0 15 (q4.1 10 0 14)) 10 0 17 0) 10 0 16 q15).1 50 0 ((am_si (am_sg (am_si q4 10 0 15 (q4.1 10 0 14)) 10 0 17 0) 10 0 16 q15).1 10 0 14).toNatClampNeg), .inr (.inr (some (10, 0)))], am_mk (am_si (am_sg (am_si q4 10 0 15 (q4.1 10 0 14)) 10 0 17 0) 10 0 16 q15))) (if_neg hg17) ?_
        refine am_Go.n htb 8 (S' := (149, [some (.inr (.inr (some (10, 0))))], [], am_mk (am_si (am_sg (am_si (am_sg (am_si q4 10 0 15 (q4.1 10 0 14)) 10 0 17 0) 10 0 16 q15) 10 0 17 (((am_si (am_sg (am_si q4 10 0 15 (q4.1 10 0 14)) 10 0 17 0) 10 0 16 q15).1 50 0 ((am_si (am_sg (am_si q4 10 0 15 (q4.1 10 0 14)) 10 0 17 0) 10 0 16 q15).1 10 0 14).toNatClampNeg).toInt64)) 10 0 15 (((am_sg (am_si (am_sg (am_si q4 10 0 15 (q4.1 10 0 14)) 10 0 17 0) 10 0 16 q15) 10 0 17 (((am_si (am_sg (am_si q4 10 0 15 (q4.1 10 0 14)) 10 0 17 0) 10 0 16 q15).1 50 0 ((am_si (am_sg (am_si q4 10 0 15 (q4.1 10 0 14)) 10 0 17 0) 10 0 16 q15).1 10 0 14).toNatClampNeg).toInt64)).1 10 0 15) + (1 : Int32))))) rfl ?_
        cases h
        exact am_Go.fg (by exact ⟨rfl, trivial⟩) key
  · have h := h44
    by_cases hc6 : ((am_sg (am_si q4 10 0 15 (q4.1 10 0 14)) 10 0 17 0).1 10 0 14) ≠ ((am_sg (am_si q4 10 0 15 (q4.1 10 0 14)) 10 0 17 0).1 10 0 13)
    · rw [if_pos hc6] at h
      refine am_Go.c1 htb (S' := (75, [some (.inr (.inr (some (10, 0))))], [.inr (.inr (some (10, 0)))], am_mk (am_sg (am_si q4 10 0 15 (q4.1 10 0 14)) 10 0 17 0))) (if_pos hc6) ?_
      refine am_Go.n htb 4 (S' := (83, [some (.inr (.inr (some (10, 0))))], [.inl ((am_sg (am_si q4 10 0 15 (q4.1 10 0 14)) 10 0 17 0).1 10 0 14), .inr (.inr (some (50, 0))), .inr (.inr (some (10, 0)))], am_mk (am_sg (am_si q4 10 0 15 (q4.1 10 0 14)) 10 0 17 0))) rfl ?_
      obtain ⟨hg7, h⟩ := am_ck_some h
      refine am_Go.c1 htb (S' := (84, [some (.inr (.inr (some (10, 0))))], [.inl ((am_sg (am_si q4 10 0 15 (q4.1 10 0 14)) 10 0 17 0).1 50 0 ((am_sg (am_si q4 10 0 15 (q4.1 10 0 14)) 10 0 17 0).1 10 0 14).toNatClampNeg), .inr (.inr (some (10, 0)))], am_mk (am_sg (am_si q4 10 0 15 (q4.1 10 0 14)) 10 0 17 0))) (if_neg hg7) ?_
      obtain ⟨r8, h9, h⟩ := am_bd h
      refine am_Go.cl htb rfl (ex_X10_isSmall d (by omega) ((am_sg (am_si q4 10 0 15 (q4.1 10 0 14)) 10 0 17 0).1 50 0 ((am_sg (am_si q4 10 0 15 (q4.1 10 0 14)) 10 0 17 0).1 10 0 14).toNatClampNeg) (am_sg (am_si q4 10 0 15 (q4.1 10 0 14)) 10 0 17 0) r8 h9) ?_
      show am_Go d 205 (87, [some (.inr (.inr (some (10, 0))))], [.inl r8, .inr (.inr (some (10, 0)))], am_mk (am_sg (am_si q4 10 0 15 (q4.1 10 0 14)) 10 0 17 0)) _ _ _ _
      by_cases hc10 : r8 = 0
      · rw [if_pos hc10] at h
        refine am_Go.c1 htb (S' := (94, [some (.inr (.inr (some (10, 0))))], [.inr (.inr (some (10, 0)))], am_mk (am_sg (am_si q4 10 0 15 (q4.1 10 0 14)) 10 0 17 0))) (if_pos hc10) ?_
        refine am_Go.n htb 4 (S' := (102, [some (.inr (.inr (some (10, 0))))], [.inl ((am_sg (am_si q4 10 0 15 (q4.1 10 0 14)) 10 0 17 0).1 10 0 14), .inr (.inr (some (50, 0))), .inr (.inr (some (10, 0)))], am_mk (am_sg (am_si q4 10 0 15 (q4.1 10 0 14)) 10 0 17 0))) rfl ?_
        obtain ⟨hg11, h⟩ := am_ck_some h
        refine am_Go.c1 htb (S' := (103, [some (.inr (.inr (some (10, 0))))], [.inl ((am_sg (am_si q4 10 0 15 (q4.1 10 0 14)) 10 0 17 0).1 50 0 ((am_sg (am_si q4 10 0 15 (q4.1 10 0 14)) 10 0 17 0).1 10 0 14).toNatClampNeg), .inr (.inr (some (10, 0)))], am_mk (am_sg (am_si q4 10 0 15 (q4.1 10 0 14)) 10 0 17 0))) (if_neg hg11) ?_
        obtain ⟨r12, h13, h⟩ := am_bd h
        refine am_Go.cl htb rfl (ex_X10_isDigit d (by omega) ((am_sg (am_si q4 10 0 15 (q4.1 10 0 14)) 10 0 17 0).1 50 0 ((am_sg (am_si q4 10 0 15 (q4.1 10 0 14)) 10 0 17 0).1 10 0 14).toNatClampNeg) (am_sg (am_si q4 10 0 15 (q4.1 10 0 14)) 10 0 17 0) r12 h13) ?_
        show am_Go d 205 (106, [some (.inr (.inr (some (10, 0))))], [.inl r12, .inr (.inr (some (10, 0)))], am_mk (am_sg (am_si q4 10 0 15 (q4.1 10 0 14)) 10 0 17 0)) _ _ _ _
        by_cases hc14 : r12 = 0
        · rw [if_pos hc14] at h
          refine am_Go.c1 htb (S' := (113, [some (.inr (.inr (some (10, 0))))], [.inr (.inr (some (10, 0)))], am_mk (am_sg (am_si q4 10 0 15 (q4.1 10 0 14)) 10 0 17 0))) (if_pos hc14) ?_
          refine am_Go.n htb 1 (S' := (114, [some (.inr (.inr (some (10, 0))))], [.inl 3, .inr (.inr (some (10, 0)))], am_mk (am_sg (am_si q4 10 0 15 (q4.1 10 0 14)) 10 0 17 0))) rfl ?_
          cases h
          exact am_Go.fg (by exact ⟨rfl, trivial⟩) key
        · rw [if_neg hc14] at h
          refine am_Go.c1 htb (S' := (109, [some (.inr (.inr (some (10, 0))))], [.inr (.inr (some (10, 0)))], am_mk (am_sg (am_si q4 10 0 15 (q4.1 10 0 14)) 10 0 17 0))) (if_neg hc14) ?_
          refine am_Go.n htb 2 (S' := (114, [some (.inr (.inr (some (10, 0))))], [.inl 2, .inr (.inr (some (10, 0)))], am_mk (am_sg (am_si q4 10 0 15 (q4.1 10 0 14)) 10 0 17 0))) rfl ?_
          cases h
          exact am_Go.fg (by exact ⟨rfl, trivial⟩) key
      · rw [if_neg hc10] at h
        refine am_Go.c1 htb (S' := (90, [some (.inr (.inr (some (10, 0))))], [.inr (.inr (some (10, 0)))], am_mk (am_sg (am_si q4 10 0 15 (q4.1 10 0 14)) 10 0 17 0))) (if_neg hc10) ?_
        refine am_Go.n htb 2 (S' := (114, [some (.inr (.inr (some (10, 0))))], [.inl 1, .inr (.inr (some (10, 0)))], am_mk (am_sg (am_si q4 10 0 15 (q4.1 10 0 14)) 10 0 17 0))) rfl ?_
        cases h
        exact am_Go.fg (by exact ⟨rfl, trivial⟩) key
    · rw [if_neg hc6] at h
      refine am_Go.c1 htb (S' := (71, [some (.inr (.inr (some (10, 0))))], [.inr (.inr (some (10, 0)))], am_mk (am_sg (am_si q4 10 0 15 (q4.1 10 0 14)) 10 0 17 0))) (if_neg hc6) ?_
      refine am_Go.n htb 2 (S' := (114, [some (.inr (.inr (some (10, 0))))], [.inl 0, .inr (.inr (some (10, 0)))], am_mk (am_sg (am_si q4 10 0 15 (q4.1 10 0 14)) 10 0 17 0))) rfl ?_
      cases h
      exact am_Go.fg (by exact ⟨rfl, trivial⟩) key
-- X10_begin
def fn_X10_begin  (m : am_m) : Option (am_m) :=
  (fn_X10_next  (am_si (am_si (am_si m 10 0 15 0) 10 0 19 0) 10 0 18 (-1))).bind fun r1 => some r1
set_option maxRecDepth 100000 in
theorem ex_X10_begin (d : Nat) (hd : 3 ≤ d)  (m : am_m) (t : am_m) (h : fn_X10_begin  m = some t) : am_Ex am_cod d 204 [.inr (.inr (some (10, 0)))] (am_mk m) (none) (am_mk t) 0 0 := by
  obtain ⟨d, rfl⟩ : ∃ e, d = e + 1 := ⟨d - 1, by omega⟩
  have htb : am_tab 204 = at_204 := rfl
  refine ⟨Nat.le_of_ble_eq_true rfl, ?_⟩
  unfold fn_X10_begin at h
  show am_Go d 204 (0, [some (.inr (.inr (some (10, 0))))], [], am_mk m) _ _ 0 0
  refine am_Go.n htb 10 (S' := (16, [some (.inr (.inr (some (10, 0))))], [.inr (.inr (some (10, 0)))], am_mk (am_si (am_si (am_si m 10 0 15 0) 10 0 19 0) 10 0 18 (-1)))) rfl ?_
  obtain ⟨r1, h2, h⟩ := am_bd h
  refine am_Go.cl htb rfl (ex_X10_next d (by omega)  (am_si (am_si (am_si m 10 0 15 0) 10 0 19 0) 10 0 18 (-1)) r1 h2) ?_
  show am_Go d 204 (19, [some (.inr (.inr (some (10, 0))))], [], am_mk r1) _ _ _ _
  cases h
  exact am_Go.r htb rfl
-- X10_isWord
def fn_X10_isWord (a1 : Int64) (m : am_m) : Option (Int32) :=
  (if (m.1 10 0 16) ≠ (1 : Int32) then some 0 else (if (lg_cmp (m.2.1 10 0 17) a1) ≠ 0 then some 0 else some 1))
set_option maxRecDepth 100000 in
theorem ex_X10_isWord (d : Nat) (hd : 1 ≤ d) (a1 : Int64) (m : am_m) (t : Int32) (h : fn_X10_isWord a1 m = some t) : am_Ex am_cod d 206 [.inr (.inr (some (10, 0))), .inr (.inl a1)] (am_mk m) (some (.inl t)) (am_mk m) 0 0 := by
  obtain ⟨d, rfl⟩ : ∃ e, d = e + 1 := ⟨d - 1, by omega⟩
  have htb : am_tab 206 = at_206 := rfl
  refine ⟨Nat.le_of_ble_eq_true rfl, ?_⟩
  unfold fn_X10_isWord at h
  show am_Go d 206 (0, [some (.inr (.inr (some (10, 0)))), some (.inr (.inl a1)), none], [], am_mk m) _ _ 0 0
  refine am_Go.n htb 3 (S' := (5, [some (.inr (.inr (some (10, 0)))), some (.inr (.inl a1)), none], [.inl 1, .inl (m.1 10 0 16)], am_mk m)) rfl ?_
  by_cases hc1 : (m.1 10 0 16) ≠ (1 : Int32)
  · rw [if_pos hc1] at h
    refine am_Go.c1 htb (S' := (21, [some (.inr (.inr (some (10, 0)))), some (.inr (.inl a1)), none], [], am_mk m)) (if_pos hc1) ?_
    refine am_Go.n htb 1 (S' := (22, [some (.inr (.inr (some (10, 0)))), some (.inr (.inl a1)), none], [.inl 0], am_mk m)) rfl ?_
    cases h
    exact am_Go.r htb rfl
  · rw [if_neg hc1] at h
    refine am_Go.c1 htb (S' := (8, [some (.inr (.inr (some (10, 0)))), some (.inr (.inl a1)), none], [], am_mk m)) (if_neg hc1) ?_
    refine am_Go.n htb 4 (S' := (14, [some (.inr (.inr (some (10, 0)))), some (.inr (.inl a1)), none], [.inl (lg_cmp (m.2.1 10 0 17) a1)], am_mk m)) rfl ?_
    by_cases hc2 : (lg_cmp (m.2.1 10 0 17) a1) ≠ 0
    · rw [if_pos hc2] at h
      refine am_Go.c1 htb (S' := (21, [some (.inr (.inr (some (10, 0)))), some (.inr (.inl a1)), none], [], am_mk m)) (if_pos hc2) ?_
      refine am_Go.n htb 1 (S' := (22, [some (.inr (.inr (some (10, 0)))), some (.inr (.inl a1)), none], [.inl 0], am_mk m)) rfl ?_
      cases h
      exact am_Go.r htb rfl
    · rw [if_neg hc2] at h
      refine am_Go.c1 htb (S' := (17, [some (.inr (.inr (some (10, 0)))), some (.inr (.inl a1)), none], [], am_mk m)) (if_neg hc2) ?_
      refine am_Go.n htb 2 (S' := (22, [some (.inr (.inr (some (10, 0)))), some (.inr (.inl a1)), none], [.inl 1], am_mk m)) rfl ?_
      cases h
      exact am_Go.r htb rfl
-- X10_isSign
def fn_X10_isSign (a1 : Int32) (m : am_m) : Option (Int32) :=
  (if (m.1 10 0 16) ≠ (3 : Int32) then some 0 else (if (lg_cmp (m.2.1 10 0 17) a1.toInt64) ≠ 0 then some 0 else some 1))
set_option maxRecDepth 100000 in
theorem ex_X10_isSign (d : Nat) (hd : 1 ≤ d) (a1 : Int32) (m : am_m) (t : Int32) (h : fn_X10_isSign a1 m = some t) : am_Ex am_cod d 207 [.inr (.inr (some (10, 0))), .inl a1] (am_mk m) (some (.inl t)) (am_mk m) 0 0 := by
  obtain ⟨d, rfl⟩ : ∃ e, d = e + 1 := ⟨d - 1, by omega⟩
  have htb : am_tab 207 = at_207 := rfl
  refine ⟨Nat.le_of_ble_eq_true rfl, ?_⟩
  unfold fn_X10_isSign at h
  show am_Go d 207 (0, [some (.inr (.inr (some (10, 0)))), some (.inl a1)], [], am_mk m) _ _ 0 0
  refine am_Go.n htb 3 (S' := (5, [some (.inr (.inr (some (10, 0)))), some (.inl a1)], [.inl 3, .inl (m.1 10 0 16)], am_mk m)) rfl ?_
  by_cases hc1 : (m.1 10 0 16) ≠ (3 : Int32)
  · rw [if_pos hc1] at h
    refine am_Go.c1 htb (S' := (22, [some (.inr (.inr (some (10, 0)))), some (.inl a1)], [], am_mk m)) (if_pos hc1) ?_
    refine am_Go.n htb 1 (S' := (23, [some (.inr (.inr (some (10, 0)))), some (.inl a1)], [.inl 0], am_mk m)) rfl ?_
    cases h
    exact am_Go.r htb rfl
  · rw [if_neg hc1] at h
    refine am_Go.c1 htb (S' := (8, [some (.inr (.inr (some (10, 0)))), some (.inl a1)], [], am_mk m)) (if_neg hc1) ?_
    refine am_Go.n htb 5 (S' := (15, [some (.inr (.inr (some (10, 0)))), some (.inl a1)], [.inl (lg_cmp (m.2.1 10 0 17) a1.toInt64)], am_mk m)) rfl ?_
    by_cases hc2 : (lg_cmp (m.2.1 10 0 17) a1.toInt64) ≠ 0
    · rw [if_pos hc2] at h
      refine am_Go.c1 htb (S' := (22, [some (.inr (.inr (some (10, 0)))), some (.inl a1)], [], am_mk m)) (if_pos hc2) ?_
      refine am_Go.n htb 1 (S' := (23, [some (.inr (.inr (some (10, 0)))), some (.inl a1)], [.inl 0], am_mk m)) rfl ?_
      cases h
      exact am_Go.r htb rfl
    · rw [if_neg hc2] at h
      refine am_Go.c1 htb (S' := (18, [some (.inr (.inr (some (10, 0)))), some (.inl a1)], [], am_mk m)) (if_neg hc2) ?_
      refine am_Go.n htb 2 (S' := (23, [some (.inr (.inr (some (10, 0)))), some (.inl a1)], [.inl 1], am_mk m)) rfl ?_
      cases h
      exact am_Go.r htb rfl
-- X10_must
def fn_X10_must (a1 : Int32) (m : am_m) : Option (am_m) :=
  (if (m.1 10 0 19) ≠ 0 then some m else (if a1 ≠ 0 then some m else some (am_si (am_si m 10 0 19 1) 10 0 18 ((am_si m 10 0 19 1).1 10 0 14)))).bind fun q3 => (if (q3.1 10 0 19) ≠ 0 then some q3 else (fn_X10_next  q3).bind fun r5 => some r5)
set_option maxRecDepth 100000 in
theorem ex_X10_must (d : Nat) (hd : 3 ≤ d) (a1 : Int32) (m : am_m) (t : am_m) (h : fn_X10_must a1 m = some t) : am_Ex am_cod d 208 [.inr (.inr (some (10, 0))), .inl a1] (am_mk m) (none) (am_mk t) 0 0 := by
  obtain ⟨d, rfl⟩ : ∃ e, d = e + 1 := ⟨d - 1, by omega⟩
  have htb : am_tab 208 = at_208 := rfl
  refine ⟨Nat.le_of_ble_eq_true rfl, ?_⟩
  unfold fn_X10_must at h
  show am_Go d 208 (0, [some (.inr (.inr (some (10, 0)))), some (.inl a1)], [], am_mk m) _ _ 0 0
  refine am_Go.n htb 2 (S' := (4, [some (.inr (.inr (some (10, 0)))), some (.inl a1)], [.inl (m.1 10 0 19)], am_mk m)) rfl ?_
  obtain ⟨q3, h7, h⟩ := am_bd h
  refine am_Go.cut (S := (24, [some (.inr (.inr (some (10, 0)))), some (.inl a1)], [], am_mk q3)) ?_ (fun key => ?_)
  · refine am_Go.n htb 2 (S' := (28, [some (.inr (.inr (some (10, 0)))), some (.inl a1)], [.inl (q3.1 10 0 19)], am_mk q3)) rfl ?_
    by_cases hc4 : (q3.1 10 0 19) ≠ 0
    · rw [if_pos hc4] at h
      refine am_Go.c1 htb (S' := (35, [some (.inr (.inr (some (10, 0)))), some (.inl a1)], [], am_mk q3)) (if_pos hc4) ?_
      cases h
      exact am_Go.r htb rfl
    · rw [if_neg hc4] at h
      refine am_Go.c1 htb (S' := (31, [some (.inr (.inr (some (10, 0)))), some (.inl a1)], [], am_mk q3)) (if_neg hc4) ?_
      refine am_Go.n htb 1 (S' := (32, [some (.inr (.inr (some (10, 0)))), some (.inl a1)], [.inr (.inr (some (10, 0)))], am_mk q3)) rfl ?_
      obtain ⟨r5, h6, h⟩ := am_bd h
      refine am_Go.cl htb rfl (ex_X10_next d (by omega)  q3 r5 h6) ?_
      show am_Go d 208 (35, [some (.inr (.inr (some (10, 0)))), some (.inl a1)], [], am_mk r5) _ _ _ _
      cases h
      exact am_Go.r htb rfl
  · have h := h7
    by_cases hc1 : (m.1 10 0 19) ≠ 0
    · rw [if_pos hc1] at h
      refine am_Go.c1 htb (S' := (24, [some (.inr (.inr (some (10, 0)))), some (.inl a1)], [], am_mk m)) (if_pos hc1) ?_
      cases h
      exact am_Go.fg (by exact ⟨rfl, ⟨rfl, trivial⟩⟩) key
    · rw [if_neg hc1] at h
      refine am_Go.c1 htb (S' := (7, [some (.inr (.inr (some (10, 0)))), some (.inl a1)], [], am_mk m)) (if_neg hc1) ?_
      refine am_Go.n htb 1 (S' := (8, [some (.inr (.inr (some (10, 0)))), some (.inl a1)], [.inl a1], am_mk m)) rfl ?_
      by_cases hc2 : a1 ≠ 0
      · rw [if_pos hc2] at h
        refine am_Go.c1 htb (S' := (24, [some (.inr (.inr (some (10, 0)))), some (.inl a1)], [], am_mk m)) (if_pos hc2) ?_
        cases h
        exact am_Go.fg (by exact ⟨rfl, ⟨rfl, trivial⟩⟩) key
      · rw [if_neg hc2] at h
        refine am_Go.c1 htb (S' := (11, [some (.inr (.inr (some (10, 0)))), some (.inl a1)], [], am_mk m)) (if_neg hc2) ?_
        refine am_Go.n htb 7 (S' := (24, [some (.inr (.inr (some (10, 0)))), some (.inl a1)], [], am_mk (am_si (am_si m 10 0 19 1) 10 0 18 ((am_si m 10 0 19 1).1 10 0 14)))) rfl ?_
        cases h
        exact am_Go.fg (by exact ⟨rfl, ⟨rfl, trivial⟩⟩) key
-- X10_number
def fn_X10_number (a1 : Int64) (a2 : Int64) (m : am_m) : Option (Int32 × am_m) :=
  (if (m.1 10 0 16) ≠ (2 : Int32) then some 0 else (fn_X10_in (m.2.1 10 0 17) a1 a2 m).bind fun r2 => (if r2 = 0 then some 0 else some 1)).bind fun q5 => (fn_X10_must q5 m).bind fun r6 => some ((m.2.1 10 0 17).toInt32, r6)
set_option maxRecDepth 100000 in
theorem ex_X10_number (d : Nat) (hd : 4 ≤ d) (a1 : Int64) (a2 : Int64) (m : am_m) (t : Int32 × am_m) (h : fn_X10_number a1 a2 m = some t) : am_Ex am_cod d 209 [.inr (.inr (some (10, 0))), .inr (.inl a1), .inr (.inl a2)] (am_mk m) (some (.inl t.1)) (am_mk t.2) 0 0 := by
  obtain ⟨d, rfl⟩ : ∃ e, d = e + 1 := ⟨d - 1, by omega⟩
  have htb : am_tab 209 = at_209 := rfl
  refine ⟨Nat.le_of_ble_eq_true rfl, ?_⟩
  unfold fn_X10_number at h
  show am_Go d 209 (0, [some (.inr (.inr (some (10, 0)))), some (.inr (.inl a1)), none, some (.inr (.inl a2)), none, none], [], am_mk m) _ _ 0 0
  refine am_Go.n htb 8 (S' := (13, [some (.inr (.inr (some (10, 0)))), some (.inr (.inl a1)), none, some (.inr (.inl a2)), none, some (.inl ((m.2.1 10 0 17).toInt32))], [.inl 2, .inl (m.1 10 0 16), .inr (.inr (some (10, 0)))], am_mk m)) rfl ?_
  obtain ⟨q5, h8, h⟩ := am_bd h
  refine am_Go.cut (S := (33, [some (.inr (.inr (some (10, 0)))), some (.inr (.inl a1)), none, some (.inr (.inl a2)), none, some (.inl ((m.2.1 10 0 17).toInt32))], [.inl q5, .inr (.inr (some (10, 0)))], am_mk m)) ?_ (fun key => ?_)
  · obtain ⟨r6, h7, h⟩ := am_bd h
    refine am_Go.cl htb rfl (ex_X10_must d (by omega) q5 m r6 h7) ?_
    show am_Go d 209 (36, [some (.inr (.inr (some (10, 0)))), some (.inr (.inl a1)), none, some (.inr (.inl a2)), none, some (.inl ((m.2.1 10 0 17).toInt32))], [], am_mk r6) _ _ _ _
    refine am_Go.n htb 1 (S' := (38, [some (.inr (.inr (some (10, 0)))), some (.inr (.inl a1)), none, some (.inr (.inl a2)), none, some (.inl ((m.2.1 10 0 17).toInt32))], [.inl ((m.2.1 10 0 17).toInt32)], am_mk r6)) rfl ?_
    cases h
    exact am_Go.r htb rfl
  · have h := h8
    by_cases hc1 : (m.1 10 0 16) ≠ (2 : Int32)
    · rw [if_pos hc1] at h
      refine am_Go.c1 htb (S' := (32, [some (.inr (.inr (some (10, 0)))), some (.inr (.inl a1)), none, some (.inr (.inl a2)), none, some (.inl ((m.2.1 10 0 17).toInt32))], [.inr (.inr (some (10, 0)))], am_mk m)) (if_pos hc1) ?_
      refine am_Go.n htb 1 (S' := (33, [some (.inr (.inr (some (10, 0)))), some (.inr (.inl a1)), none, some (.inr (.inl a2)), none, some (.inl ((m.2.1 10 0 17).toInt32))], [.inl 0, .inr (.inr (some (10, 0)))], am_mk m)) rfl ?_
      cases h
      exact am_Go.fg (by exact ⟨rfl, ⟨rfl, ⟨rfl, ⟨rfl, trivial⟩⟩⟩⟩) key
    · rw [if_neg hc1] at h
      refine am_Go.c1 htb (S' := (16, [some (.inr (.inr (some (10, 0)))), some (.inr (.inl a1)), none, some (.inr (.inl a2)), none, some (.inl ((m.2.1 10 0 17).toInt32))], [.inr (.inr (some (10, 0)))], am_mk m)) (if_neg hc1) ?_
      refine am_Go.n htb 4 (S' := (22, [some (.inr (.inr (some (10, 0)))), some (.inr (.inl a1)), none, some (.inr (.inl a2)), none, some (.inl ((m.2.1 10 0 17).toInt32))], [.inr (.inl a2), .inr (.inl a1), .inr (.inl (m.2.1 10 0 17)), .inr (.inr (some (10, 0)))], am_mk m)) rfl ?_
      obtain ⟨r2, h3, h⟩ := am_bd h
      refine am_Go.cl htb rfl (ex_X10_in d (by omega) (m.2.1 10 0 17) a1 a2 m r2 h3) ?_
      show am_Go d 209 (25, [some (.inr (.inr (some (10, 0)))), some (.inr (.inl a1)), none, some (.inr (.inl a2)), none, some (.inl ((m.2.1 10 0 17).toInt32))], [.inl r2, .inr (.inr (some (10, 0)))], am_mk m) _ _ _ _
      by_cases hc4 : r2 = 0
      · rw [if_pos hc4] at h
        refine am_Go.c1 htb (S' := (32, [some (.inr (.inr (some (10, 0)))), some (.inr (.inl a1)), none, some (.inr (.inl a2)), none, some (.inl ((m.2.1 10 0 17).toInt32))], [.inr (.inr (some (10, 0)))], am_mk m)) (if_pos hc4) ?_
        refine am_Go.n htb 1 (S' := (33, [some (.inr (.inr (some (10, 0)))), some (.inr (.inl a1)), none, some (.inr (.inl a2)), none, some (.inl ((m.2.1 10 0 17).toInt32))], [.inl 0, .inr (.inr (some (10, 0)))], am_mk m)) rfl ?_
        cases h
        exact am_Go.fg (by exact ⟨rfl, ⟨rfl, ⟨rfl, ⟨rfl, trivial⟩⟩⟩⟩) key
      · rw [if_neg hc4] at h
        refine am_Go.c1 htb (S' := (28, [some (.inr (.inr (some (10, 0)))), some (.inr (.inl a1)), none, some (.inr (.inl a2)), none, some (.inl ((m.2.1 10 0 17).toInt32))], [.inr (.inr (some (10, 0)))], am_mk m)) (if_neg hc4) ?_
        refine am_Go.n htb 2 (S' := (33, [some (.inr (.inr (some (10, 0)))), some (.inr (.inl a1)), none, some (.inr (.inl a2)), none, some (.inl ((m.2.1 10 0 17).toInt32))], [.inl 1, .inr (.inr (some (10, 0)))], am_mk m)) rfl ?_
        cases h
        exact am_Go.fg (by exact ⟨rfl, ⟨rfl, ⟨rfl, ⟨rfl, trivial⟩⟩⟩⟩) key
-- X10_fault
def fn_X10_fault  (m : am_m) : Option (Int32 × am_m) :=
  some (((am_si m 10 0 0 0).1 10 0 18), am_si m 10 0 0 0)
set_option maxRecDepth 100000 in
theorem ex_X10_fault (d : Nat) (hd : 1 ≤ d)  (m : am_m) (t : Int32 × am_m) (h : fn_X10_fault  m = some t) : am_Ex am_cod d 210 [.inr (.inr (some (10, 0)))] (am_mk m) (some (.inl t.1)) (am_mk t.2) 0 0 := by
  obtain ⟨d, rfl⟩ : ∃ e, d = e + 1 := ⟨d - 1, by omega⟩
  have htb : am_tab 210 = at_210 := rfl
  refine ⟨Nat.le_of_ble_eq_true rfl, ?_⟩
  unfold fn_X10_fault at h
  show am_Go d 210 (0, [some (.inr (.inr (some (10, 0))))], [], am_mk m) _ _ 0 0
  refine am_Go.n htb 5 (S' := (9, [some (.inr (.inr (some (10, 0))))], [.inl ((am_si m 10 0 0 0).1 10 0 18)], am_mk (am_si m 10 0 0 0))) rfl ?_
  cases h
  exact am_Go.r htb rfl
-- X10_emit
def fn_X10_emit (a1 : Int32) (a2 : Int32) (m : am_m) : Option (am_m) :=
  am_ck (m.1 10 0 23) 400 (am_ck ((am_si m 52 0 (m.1 10 0 23).toNatClampNeg a1).1 10 0 23) 400 (some (am_si (am_si (am_si m 52 0 (m.1 10 0 23).toNatClampNeg a1) 53 0 ((am_si m 52 0 (m.1 10 0 23).toNatClampNeg a1).1 10 0 23).toNatClampNeg a2) 10 0 23 (((am_si (am_si m 52 0 (m.1 10 0 23).toNatClampNeg a1) 53 0 ((am_si m 52 0 (m.1 10 0 23).toNatClampNeg a1).1 10 0 23).toNatClampNeg a2).1 10 0 23) + (1 : Int32)))))
set_option maxRecDepth 100000 in
theorem ex_X10_emit (d : Nat) (hd : 1 ≤ d) (a1 : Int32) (a2 : Int32) (m : am_m) (t : am_m) (h : fn_X10_emit a1 a2 m = some t) : am_Ex am_cod d 211 [.inr (.inr (some (10, 0))), .inl a1, .inl a2] (am_mk m) (none) (am_mk t) 0 0 := by
  obtain ⟨d, rfl⟩ : ∃ e, d = e + 1 := ⟨d - 1, by omega⟩
  have htb : am_tab 211 = at_211 := rfl
  refine ⟨Nat.le_of_ble_eq_true rfl, ?_⟩
  unfold fn_X10_emit at h
  show am_Go d 211 (0, [some (.inr (.inr (some (10, 0)))), some (.inl a1), some (.inl a2)], [], am_mk m) _ _ 0 0
  refine am_Go.n htb 5 (S' := (9, [some (.inr (.inr (some (10, 0)))), some (.inl a1), some (.inl a2)], [.inl a1, .inl (m.1 10 0 23), .inr (.inr (some (52, 0)))], am_mk m)) rfl ?_
  obtain ⟨hg1, h⟩ := am_ck_some h
  refine am_Go.c1 htb (S' := (10, [some (.inr (.inr (some (10, 0)))), some (.inl a1), some (.inl a2)], [], am_mk (am_si m 52 0 (m.1 10 0 23).toNatClampNeg a1))) (if_neg hg1) ?_
  refine am_Go.n htb 5 (S' := (19, [some (.inr (.inr (some (10, 0)))), some (.inl a1), some (.inl a2)], [.inl a2, .inl ((am_si m 52 0 (m.1 10 0 23).toNatClampNeg a1).1 10 0 23), .inr (.inr (some (53, 0)))], am_mk (am_si m 52 0 (m.1 10 0 23).toNatClampNeg a1))) rfl ?_
  obtain ⟨hg2, h⟩ := am_ck_some h
  refine am_Go.c1 htb (S' := (20, [some (.inr (.inr (some (10, 0)))), some (.inl a1), some (.inl a2)], [], am_mk (am_si (am_si m 52 0 (m.1 10 0 23).toNatClampNeg a1) 53 0 ((am_si m 52 0 (m.1 10 0 23).toNatClampNeg a1).1 10 0 23).toNatClampNeg a2))) (if_neg hg2) ?_
  refine am_Go.n htb 6 (S' := (30, [some (.inr (.inr (some (10, 0)))), some (.inl a1), some (.inl a2)], [], am_mk (am_si (am_si (am_si m 52 0 (m.1 10 0 23).toNatClampNeg a1) 53 0 ((am_si m 52 0 (m.1 10 0 23).toNatClampNeg a1).1 10 0 23).toNatClampNeg a2) 10 0 23 (((am_si (am_si m 52 0 (m.1 10 0 23).toNatClampNeg a1) 53 0 ((am_si m 52 0 (m.1 10 0 23).toNatClampNeg a1).1 10 0 23).toNatClampNeg a2).1 10 0 23) + (1 : Int32))))) rfl ?_
  cases h
  exact am_Go.r htb rfl
-- X10_push
def fn_X10_push (a1 : Int32) (a2 : Int32) (m : am_m) : Option (am_m) :=
  am_ck (m.1 10 0 29) 400 (am_ck ((am_si m 54 0 (m.1 10 0 29).toNatClampNeg a1).1 10 0 29) 400 (some (am_si (am_si (am_si m 54 0 (m.1 10 0 29).toNatClampNeg a1) 55 0 ((am_si m 54 0 (m.1 10 0 29).toNatClampNeg a1).1 10 0 29).toNatClampNeg a2) 10 0 29 (((am_si (am_si m 54 0 (m.1 10 0 29).toNatClampNeg a1) 55 0 ((am_si m 54 0 (m.1 10 0 29).toNatClampNeg a1).1 10 0 29).toNatClampNeg a2).1 10 0 29) + (1 : Int32)))))
set_option maxRecDepth 100000 in
theorem ex_X10_push (d : Nat) (hd : 1 ≤ d) (a1 : Int32) (a2 : Int32) (m : am_m) (t : am_m) (h : fn_X10_push a1 a2 m = some t) : am_Ex am_cod d 212 [.inr (.inr (some (10, 0))), .inl a1, .inl a2] (am_mk m) (none) (am_mk t) 0 0 := by
  obtain ⟨d, rfl⟩ : ∃ e, d = e + 1 := ⟨d - 1, by omega⟩
  have htb : am_tab 212 = at_212 := rfl
  refine ⟨Nat.le_of_ble_eq_true rfl, ?_⟩
  unfold fn_X10_push at h
  show am_Go d 212 (0, [some (.inr (.inr (some (10, 0)))), some (.inl a1), some (.inl a2)], [], am_mk m) _ _ 0 0
  refine am_Go.n htb 5 (S' := (9, [some (.inr (.inr (some (10, 0)))), some (.inl a1), some (.inl a2)], [.inl a1, .inl (m.1 10 0 29), .inr (.inr (some (54, 0)))], am_mk m)) rfl ?_
  obtain ⟨hg1, h⟩ := am_ck_some h
  refine am_Go.c1 htb (S' := (10, [some (.inr (.inr (some (10, 0)))), some (.inl a1), some (.inl a2)], [], am_mk (am_si m 54 0 (m.1 10 0 29).toNatClampNeg a1))) (if_neg hg1) ?_
  refine am_Go.n htb 5 (S' := (19, [some (.inr (.inr (some (10, 0)))), some (.inl a1), some (.inl a2)], [.inl a2, .inl ((am_si m 54 0 (m.1 10 0 29).toNatClampNeg a1).1 10 0 29), .inr (.inr (some (55, 0)))], am_mk (am_si m 54 0 (m.1 10 0 29).toNatClampNeg a1))) rfl ?_
  obtain ⟨hg2, h⟩ := am_ck_some h
  refine am_Go.c1 htb (S' := (20, [some (.inr (.inr (some (10, 0)))), some (.inl a1), some (.inl a2)], [], am_mk (am_si (am_si m 54 0 (m.1 10 0 29).toNatClampNeg a1) 55 0 ((am_si m 54 0 (m.1 10 0 29).toNatClampNeg a1).1 10 0 29).toNatClampNeg a2))) (if_neg hg2) ?_
  refine am_Go.n htb 6 (S' := (30, [some (.inr (.inr (some (10, 0)))), some (.inl a1), some (.inl a2)], [], am_mk (am_si (am_si (am_si m 54 0 (m.1 10 0 29).toNatClampNeg a1) 55 0 ((am_si m 54 0 (m.1 10 0 29).toNatClampNeg a1).1 10 0 29).toNatClampNeg a2) 10 0 29 (((am_si (am_si m 54 0 (m.1 10 0 29).toNatClampNeg a1) 55 0 ((am_si m 54 0 (m.1 10 0 29).toNatClampNeg a1).1 10 0 29).toNatClampNeg a2).1 10 0 29) + (1 : Int32))))) rfl ?_
  cases h
  exact am_Go.r htb rfl
-- X10_binds
def fn_X10_binds (a1 : Int32) (m : am_m) : Option (Int32) :=
  (if a1 < (31 : Int32) then (if a1 ≠ (30 : Int32) then (if a1 ≠ (29 : Int32) then (if a1 ≠ (28 : Int32) then (if a1 < (25 : Int32) then (if a1 < (22 : Int32) then some 5 else some 6) else some 4) else some 3) else some 2) else some 1) else some 0)
set_option maxRecDepth 100000 in
theorem ex_X10_binds (d : Nat) (hd : 1 ≤ d) (a1 : Int32) (m : am_m) (t : Int32) (h : fn_X10_binds a1 m = some t) : am_Ex am_cod d 213 [.inl a1] (am_mk m) (some (.inl t)) (am_mk m) 0 0 := by
  obtain ⟨d, rfl⟩ : ∃ e, d = e + 1 := ⟨d - 1, by omega⟩
  have htb : am_tab 213 = at_213 := rfl
  refine ⟨Nat.le_of_ble_eq_true rfl, ?_⟩
  unfold fn_X10_binds at h
  show am_Go d 213 (0, [some (.inl a1)], [], am_mk m) _ _ 0 0
  refine am_Go.n htb 2 (S' := (3, [some (.inl a1)], [.inl 31, .inl a1], am_mk m)) rfl ?_
  by_cases hc1 : a1 < (31 : Int32)
  · rw [if_pos hc1] at h
    refine am_Go.c1 htb (S' := (10, [some (.inl a1)], [], am_mk m)) (if_pos hc1) ?_
    refine am_Go.n htb 2 (S' := (13, [some (.inl a1)], [.inl 30, .inl a1], am_mk m)) rfl ?_
    by_cases hc2 : a1 ≠ (30 : Int32)
    · rw [if_pos hc2] at h
      refine am_Go.c1 htb (S' := (20, [some (.inl a1)], [], am_mk m)) (if_pos hc2) ?_
      refine am_Go.n htb 2 (S' := (23, [some (.inl a1)], [.inl 29, .inl a1], am_mk m)) rfl ?_
      by_cases hc3 : a1 ≠ (29 : Int32)
      · rw [if_pos hc3] at h
        refine am_Go.c1 htb (S' := (30, [some (.inl a1)], [], am_mk m)) (if_pos hc3) ?_
        refine am_Go.n htb 2 (S' := (33, [some (.inl a1)], [.inl 28, .inl a1], am_mk m)) rfl ?_
        by_cases hc4 : a1 ≠ (28 : Int32)
        · rw [if_pos hc4] at h
          refine am_Go.c1 htb (S' := (40, [some (.inl a1)], [], am_mk m)) (if_pos hc4) ?_
          refine am_Go.n htb 2 (S' := (43, [some (.inl a1)], [.inl 25, .inl a1], am_mk m)) rfl ?_
          by_cases hc5 : a1 < (25 : Int32)
          · rw [if_pos hc5] at h
            refine am_Go.c1 htb (S' := (50, [some (.inl a1)], [], am_mk m)) (if_pos hc5) ?_
            refine am_Go.n htb 2 (S' := (53, [some (.inl a1)], [.inl 22, .inl a1], am_mk m)) rfl ?_
            by_cases hc6 : a1 < (22 : Int32)
            · rw [if_pos hc6] at h
              refine am_Go.c1 htb (S' := (61, [some (.inl a1)], [], am_mk m)) (if_pos hc6) ?_
              refine am_Go.n htb 1 (S' := (62, [some (.inl a1)], [.inl 5], am_mk m)) rfl ?_
              cases h
              exact am_Go.r htb rfl
            · rw [if_neg hc6] at h
              refine am_Go.c1 htb (S' := (56, [some (.inl a1)], [], am_mk m)) (if_neg hc6) ?_
              refine am_Go.n htb 2 (S' := (62, [some (.inl a1)], [.inl 6], am_mk m)) rfl ?_
              cases h
              exact am_Go.r htb rfl
          · rw [if_neg hc5] at h
            refine am_Go.c1 htb (S' := (46, [some (.inl a1)], [], am_mk m)) (if_neg hc5) ?_
            refine am_Go.n htb 2 (S' := (62, [some (.inl a1)], [.inl 4], am_mk m)) rfl ?_
            cases h
            exact am_Go.r htb rfl
        · rw [if_neg hc4] at h
          refine am_Go.c1 htb (S' := (36, [some (.inl a1)], [], am_mk m)) (if_neg hc4) ?_
          refine am_Go.n htb 2 (S' := (62, [some (.inl a1)], [.inl 3], am_mk m)) rfl ?_
          cases h
          exact am_Go.r htb rfl
      · rw [if_neg hc3] at h
        refine am_Go.c1 htb (S' := (26, [some (.inl a1)], [], am_mk m)) (if_neg hc3) ?_
        refine am_Go.n htb 2 (S' := (62, [some (.inl a1)], [.inl 2], am_mk m)) rfl ?_
        cases h
        exact am_Go.r htb rfl
    · rw [if_neg hc2] at h
      refine am_Go.c1 htb (S' := (16, [some (.inl a1)], [], am_mk m)) (if_neg hc2) ?_
      refine am_Go.n htb 2 (S' := (62, [some (.inl a1)], [.inl 1], am_mk m)) rfl ?_
      cases h
      exact am_Go.r htb rfl
  · rw [if_neg hc1] at h
    refine am_Go.c1 htb (S' := (6, [some (.inl a1)], [], am_mk m)) (if_neg hc1) ?_
    refine am_Go.n htb 2 (S' := (62, [some (.inl a1)], [.inl 0], am_mk m)) rfl ?_
    cases h
    exact am_Go.r htb rfl
-- X10_settle
def lp_X10_settle_0 : Nat → Int32 → am_m → Option (am_m)
  | 0, _, _ => none
  | n + 1, x1, m =>
  (if (m.1 10 0 29) ≤ 0 then some m else am_ck ((m.1 10 0 29) - (1 : Int32)) 400 ((fn_X10_binds (m.1 54 0 ((m.1 10 0 29) - (1 : Int32)).toNatClampNeg) m).bind fun r3 => (if r3 < x1 then some m else am_ck ((am_si m 10 0 29 ((m.1 10 0 29) - (1 : Int32))).1 10 0 29) 400 ((if ((am_si m 10 0 29 ((m.1 10 0 29) - (1 : Int32))).1 54 0 ((am_si m 10 0 29 ((m.1 10 0 29) - (1 : Int32))).1 10 0 29).toNatClampNeg) = (29 : Int32) then am_ck ((am_si m 10 0 29 ((m.1 10 0 29) - (1 : Int32))).1 10 0 29) 400 (am_ck ((am_si m 10 0 29 ((m.1 10 0 29) - (1 : Int32))).1 55 0 ((am_si m 10 0 29 ((m.1 10 0 29) - (1 : Int32))).1 10 0 29).toNatClampNeg) 400 (lp_X10_settle_0 n x1 (am_si (am_si m 10 0 29 ((m.1 10 0 29) - (1 : Int32))) 53 0 ((am_si m 10 0 29 ((m.1 10 0 29) - (1 : Int32))).1 55 0 ((am_si m 10 0 29 ((m.1 10 0 29) - (1 : Int32))).1 10 0 29).toNatClampNeg).toNatClampNeg ((am_si m 10 0 29 ((m.1 10 0 29) - (1 : Int32))).1 10 0 23)))) else am_ck ((am_si m 10 0 29 ((m.1 10 0 29) - (1 : Int32))).1 10 0 29) 400 ((if ((am_si m 10 0 29 ((m.1 10 0 29) - (1 : Int32))).1 54 0 ((am_si m 10 0 29 ((m.1 10 0 29) - (1 : Int32))).1 10 0 29).toNatClampNeg) ≠ (30 : Int32) then am_ck ((am_si m 10 0 29 ((m.1 10 0 29) - (1 : Int32))).1 10 0 29) 400 ((fn_X10_emit ((am_si m 10 0 29 ((m.1 10 0 29) - (1 : Int32))).1 54 0 ((am_si m 10 0 29 ((m.1 10 0 29) - (1 : Int32))).1 10 0 29).toNatClampNeg) 0 (am_si m 10 0 29 ((m.1 10 0 29) - (1 : Int32)))).bind fun r13 => lp_X10_settle_0 n x1 r13) else am_ck ((am_si m 10 0 29 ((m.1 10 0 29) - (1 : Int32))).1 10 0 29) 400 (am_ck ((am_si m 10 0 29 ((m.1 10 0 29) - (1 : Int32))).1 55 0 ((am_si m 10 0 29 ((m.1 10 0 29) - (1 : Int32))).1 10 0 29).toNatClampNeg) 400 (lp_X10_settle_0 n x1 (am_si (am_si m 10 0 29 ((m.1 10 0 29) - (1 : Int32))) 53 0 ((am_si m 10 0 29 ((m.1 10 0 29) - (1 : Int32))).1 55 0 ((am_si m 10 0 29 ((m.1 10 0 29) - (1 : Int32))).1 10 0 29).toNatClampNeg).toNatClampNeg ((am_si m 10 0 29 ((m.1 10 0 29) - (1 : Int32))).1 10 0 23)))))))))))
set_option maxRecDepth 100000 in
theorem lt_X10_settle_0 (d : Nat) (hd : 2 ≤ d + 1) {r : Option am_V} {M' : am_M} {kc ks : Nat} {n : Nat} {x1 : Int32} {m : am_m} {t : am_m} (h : lp_X10_settle_0 n x1 m = some t) (hk : am_Go d 214 (101, [some (.inr (.inr (some (10, 0)))), some (.inl x1)], [], am_mk t) r M' kc ks) : am_Go d 214 (0, [some (.inr (.inr (some (10, 0)))), some (.inl x1)], [], am_mk m) r M' kc ks := by
  have htb : am_tab 214 = at_214 := rfl
  induction n generalizing m with
  | zero => cases h
  | succ n ih =>
    unfold lp_X10_settle_0 at h
    refine am_Go.n htb 2 (S' := (4, [some (.inr (.inr (some (10, 0)))), some (.inl x1)], [.inl (m.1 10 0 29)], am_mk m)) rfl ?_
    by_cases hc1 : (m.1 10 0 29) ≤ 0
    · rw [if_pos hc1] at h
      refine am_Go.c1 htb (S' := (101, [some (.inr (.inr (some (10, 0)))), some (.inl x1)], [], am_mk m)) (if_pos hc1) ?_
      cases h
      exact am_Go.fg (by exact ⟨rfl, ⟨rfl, trivial⟩⟩) hk
    · rw [if_neg hc1] at h
      refine am_Go.c1 htb (S' := (7, [some (.inr (.inr (some (10, 0)))), some (.inl x1)], [], am_mk m)) (if_neg hc1) ?_
      refine am_Go.n htb 6 (S' := (17, [some (.inr (.inr (some (10, 0)))), some (.inl x1)], [.inl ((m.1 10 0 29) - (1 : Int32)), .inr (.inr (some (54, 0)))], am_mk m)) rfl ?_
      obtain ⟨hg2, h⟩ := am_ck_some h
      refine am_Go.c1 htb (S' := (18, [some (.inr (.inr (some (10, 0)))), some (.inl x1)], [.inl (m.1 54 0 ((m.1 10 0 29) - (1 : Int32)).toNatClampNeg)], am_mk m)) (if_neg hg2) ?_
      obtain ⟨r3, h4, h⟩ := am_bd h
      refine am_Go.cl htb rfl (ex_X10_binds d (by omega) (m.1 54 0 ((m.1 10 0 29) - (1 : Int32)).toNatClampNeg) m r3 h4) ?_
      show am_Go d 214 (21, [some (.inr (.inr (some (10, 0)))), some (.inl x1)], [.inl r3], am_mk m) _ _ _ _
      refine am_Go.n htb 1 (S' := (22, [some (.inr (.inr (some (10, 0)))), some (.inl x1)], [.inl x1, .inl r3], am_mk m)) rfl ?_
      by_cases hc5 : r3 < x1
      · rw [if_pos hc5] at h
        refine am_Go.c1 htb (S' := (101, [some (.inr (.inr (some (10, 0)))), some (.inl x1)], [], am_mk m)) (if_pos hc5) ?_
        cases h
        exact am_Go.fg (by exact ⟨rfl, ⟨rfl, trivial⟩⟩) hk
      · rw [if_neg hc5] at h
        refine am_Go.c1 htb (S' := (25, [some (.inr (.inr (some (10, 0)))), some (.inl x1)], [], am_mk m)) (if_neg hc5) ?_
        refine am_Go.n htb 10 (S' := (43, [some (.inr (.inr (some (10, 0)))), some (.inl x1)], [.inl ((am_si m 10 0 29 ((m.1 10 0 29) - (1 : Int32))).1 10 0 29), .inr (.inr (some (54, 0)))], am_mk (am_si m 10 0 29 ((m.1 10 0 29) - (1 : Int32))))) rfl ?_
        obtain ⟨hg6, h⟩ := am_ck_some h
        refine am_Go.c1 htb (S' := (44, [some (.inr (.inr (some (10, 0)))), some (.inl x1)], [.inl ((am_si m 10 0 29 ((m.1 10 0 29) - (1 : Int32))).1 54 0 ((am_si m 10 0 29 ((m.1 10 0 29) - (1 : Int32))).1 10 0 29).toNatClampNeg)], am_mk (am_si m 10 0 29 ((m.1 10 0 29) - (1 : Int32))))) (if_neg hg6) ?_
        refine am_Go.n htb 1 (S' := (46, [some (.inr (.inr (some (10, 0)))), some (.inl x1)], [.inl 29, .inl ((am_si m 10 0 29 ((m.1 10 0 29) - (1 : Int32))).1 54 0 ((am_si m 10 0 29 ((m.1 10 0 29) - (1 : Int32))).1 10 0 29).toNatClampNeg)], am_mk (am_si m 10 0 29 ((m.1 10 0 29) - (1 : Int32))))) rfl ?_
        by_cases hc7 : ((am_si m 10 0 29 ((m.1 10 0 29) - (1 : Int32))).1 54 0 ((am_si m 10 0 29 ((m.1 10 0 29) - (1 : Int32))).1 10 0 29).toNatClampNeg) = (29 : Int32)
        · rw [if_pos hc7] at h
          refine am_Go.c1 htb (S' := (63, [some (.inr (.inr (some (10, 0)))), some (.inl x1)], [], am_mk (am_si m 10 0 29 ((m.1 10 0 29) - (1 : Int32))))) (if_pos hc7) ?_
          refine am_Go.n htb 6 (S' := (75, [some (.inr (.inr (some (10, 0)))), some (.inl x1)], [.inl ((am_si m 10 0 29 ((m.1 10 0 29) - (1 : Int32))).1 10 0 29), .inr (.inr (some (55, 0))), .inr (.inr (some (53, 0)))], am_mk (am_si m 10 0 29 ((m.1 10 0 29) - (1 : Int32))))) rfl ?_
          obtain ⟨hg8, h⟩ := am_ck_some h
          refine am_Go.c1 htb (S' := (76, [some (.inr (.inr (some (10, 0)))), some (.inl x1)], [.inl ((am_si m 10 0 29 ((m.1 10 0 29) - (1 : Int32))).1 55 0 ((am_si m 10 0 29 ((m.1 10 0 29) - (1 : Int32))).1 10 0 29).toNatClampNeg), .inr (.inr (some (53, 0)))], am_mk (am_si m 10 0 29 ((m.1 10 0 29) - (1 : Int32))))) (if_neg hg8) ?_
          refine am_Go.n htb 2 (S' := (80, [some (.inr (.inr (some (10, 0)))), some (.inl x1)], [.inl ((am_si m 10 0 29 ((m.1 10 0 29) - (1 : Int32))).1 10 0 23), .inl ((am_si m 10 0 29 ((m.1 10 0 29) - (1 : Int32))).1 55 0 ((am_si m 10 0 29 ((m.1 10 0 29) - (1 : Int32))).1 10 0 29).toNatClampNeg), .inr (.inr (some (53, 0)))], am_mk (am_si m 10 0 29 ((m.1 10 0 29) - (1 : Int32))))) rfl ?_
          obtain ⟨hg9, h⟩ := am_ck_some h
          refine am_Go.c1 htb (S' := (81, [some (.inr (.inr (some (10, 0)))), some (.inl x1)], [], am_mk (am_si (am_si m 10 0 29 ((m.1 10 0 29) - (1 : Int32))) 53 0 ((am_si m 10 0 29 ((m.1 10 0 29) - (1 : Int32))).1 55 0 ((am_si m 10 0 29 ((m.1 10 0 29) - (1 : Int32))).1 10 0 29).toNatClampNeg).toNatClampNeg ((am_si m 10 0 29 ((m.1 10 0 29) - (1 : Int32))).1 10 0 23)))) (if_neg hg9) ?_
          refine am_Go.n htb 1 (S' := (0, [some (.inr (.inr (some (10, 0)))), some (.inl x1)], [], am_mk (am_si (am_si m 10 0 29 ((m.1 10 0 29) - (1 : Int32))) 53 0 ((am_si m 10 0 29 ((m.1 10 0 29) - (1 : Int32))).1 55 0 ((am_si m 10 0 29 ((m.1 10 0 29) - (1 : Int32))).1 10 0 29).toNatClampNeg).toNatClampNeg ((am_si m 10 0 29 ((m.1 10 0 29) - (1 : Int32))).1 10 0 23)))) rfl ?_
          exact ih h hk
        · rw [if_neg hc7] at h
          refine am_Go.c1 htb (S' := (49, [some (.inr (.inr (some (10, 0)))), some (.inl x1)], [], am_mk (am_si m 10 0 29 ((m.1 10 0 29) - (1 : Int32))))) (if_neg hc7) ?_
          refine am_Go.n htb 4 (S' := (57, [some (.inr (.inr (some (10, 0)))), some (.inl x1)], [.inl ((am_si m 10 0 29 ((m.1 10 0 29) - (1 : Int32))).1 10 0 29), .inr (.inr (some (54, 0)))], am_mk (am_si m 10 0 29 ((m.1 10 0 29) - (1 : Int32))))) rfl ?_
          obtain ⟨hg10, h⟩ := am_ck_some h
          refine am_Go.c1 htb (S' := (58, [some (.inr (.inr (some (10, 0)))), some (.inl x1)], [.inl ((am_si m 10 0 29 ((m.1 10 0 29) - (1 : Int32))).1 54 0 ((am_si m 10 0 29 ((m.1 10 0 29) - (1 : Int32))).1 10 0 29).toNatClampNeg)], am_mk (am_si m 10 0 29 ((m.1 10 0 29) - (1 : Int32))))) (if_neg hg10) ?_
          refine am_Go.n htb 1 (S' := (60, [some (.inr (.inr (some (10, 0)))), some (.inl x1)], [.inl 30, .inl ((am_si m 10 0 29 ((m.1 10 0 29) - (1 : Int32))).1 54 0 ((am_si m 10 0 29 ((m.1 10 0 29) - (1 : Int32))).1 10 0 29).toNatClampNeg)], am_mk (am_si m 10 0 29 ((m.1 10 0 29) - (1 : Int32))))) rfl ?_
          by_cases hc11 : ((am_si m 10 0 29 ((m.1 10 0 29) - (1 : Int32))).1 54 0 ((am_si m 10 0 29 ((m.1 10 0 29) - (1 : Int32))).1 10 0 29).toNatClampNeg) ≠ (30 : Int32)
          · rw [if_pos hc11] at h
            refine am_Go.c1 htb (S' := (84, [some (.inr (.inr (some (10, 0)))), some (.inl x1)], [], am_mk (am_si m 10 0 29 ((m.1 10 0 29) - (1 : Int32))))) (if_pos hc11) ?_
            refine am_Go.n htb 5 (S' := (93, [some (.inr (.inr (some (10, 0)))), some (.inl x1)], [.inl ((am_si m 10 0 29 ((m.1 10 0 29) - (1 : Int32))).1 10 0 29), .inr (.inr (some (54, 0))), .inr (.inr (some (10, 0)))], am_mk (am_si m 10 0 29 ((m.1 10 0 29) - (1 : Int32))))) rfl ?_
            obtain ⟨hg12, h⟩ := am_ck_some h
            refine am_Go.c1 htb (S' := (94, [some (.inr (.inr (some (10, 0)))), some (.inl x1)], [.inl ((am_si m 10 0 29 ((m.1 10 0 29) - (1 : Int32))).1 54 0 ((am_si m 10 0 29 ((m.1 10 0 29) - (1 : Int32))).1 10 0 29).toNatClampNeg), .inr (.inr (some (10, 0)))], am_mk (am_si m 10 0 29 ((m.1 10 0 29) - (1 : Int32))))) (if_neg hg12) ?_
            refine am_Go.n htb 1 (S' := (95, [some (.inr (.inr (some (10, 0)))), some (.inl x1)], [.inl 0, .inl ((am_si m 10 0 29 ((m.1 10 0 29) - (1 : Int32))).1 54 0 ((am_si m 10 0 29 ((m.1 10 0 29) - (1 : Int32))).1 10 0 29).toNatClampNeg), .inr (.inr (some (10, 0)))], am_mk (am_si m 10 0 29 ((m.1 10 0 29) - (1 : Int32))))) rfl ?_
            obtain ⟨r13, h14, h⟩ := am_bd h
            refine am_Go.cl htb rfl (ex_X10_emit d (by omega) ((am_si m 10 0 29 ((m.1 10 0 29) - (1 : Int32))).1 54 0 ((am_si m 10 0 29 ((m.1 10 0 29) - (1 : Int32))).1 10 0 29).toNatClampNeg) 0 (am_si m 10 0 29 ((m.1 10 0 29) - (1 : Int32))) r13 h14) ?_
            show am_Go d 214 (98, [some (.inr (.inr (some (10, 0)))), some (.inl x1)], [], am_mk r13) _ _ _ _
            refine am_Go.n htb 1 (S' := (0, [some (.inr (.inr (some (10, 0)))), some (.inl x1)], [], am_mk r13)) rfl ?_
            exact ih h hk
          · rw [if_neg hc11] at h
            refine am_Go.c1 htb (S' := (63, [some (.inr (.inr (some (10, 0)))), some (.inl x1)], [], am_mk (am_si m 10 0 29 ((m.1 10 0 29) - (1 : Int32))))) (if_neg hc11) ?_
            refine am_Go.n htb 6 (S' := (75, [some (.inr (.inr (some (10, 0)))), some (.inl x1)], [.inl ((am_si m 10 0 29 ((m.1 10 0 29) - (1 : Int32))).1 10 0 29), .inr (.inr (some (55, 0))), .inr (.inr (some (53, 0)))], am_mk (am_si m 10 0 29 ((m.1 10 0 29) - (1 : Int32))))) rfl ?_
            obtain ⟨hg15, h⟩ := am_ck_some h
            refine am_Go.c1 htb (S' := (76, [some (.inr (.inr (some (10, 0)))), some (.inl x1)], [.inl ((am_si m 10 0 29 ((m.1 10 0 29) - (1 : Int32))).1 55 0 ((am_si m 10 0 29 ((m.1 10 0 29) - (1 : Int32))).1 10 0 29).toNatClampNeg), .inr (.inr (some (53, 0)))], am_mk (am_si m 10 0 29 ((m.1 10 0 29) - (1 : Int32))))) (if_neg hg15) ?_
            refine am_Go.n htb 2 (S' := (80, [some (.inr (.inr (some (10, 0)))), some (.inl x1)], [.inl ((am_si m 10 0 29 ((m.1 10 0 29) - (1 : Int32))).1 10 0 23), .inl ((am_si m 10 0 29 ((m.1 10 0 29) - (1 : Int32))).1 55 0 ((am_si m 10 0 29 ((m.1 10 0 29) - (1 : Int32))).1 10 0 29).toNatClampNeg), .inr (.inr (some (53, 0)))], am_mk (am_si m 10 0 29 ((m.1 10 0 29) - (1 : Int32))))) rfl ?_
            obtain ⟨hg16, h⟩ := am_ck_some h
            refine am_Go.c1 htb (S' := (81, [some (.inr (.inr (some (10, 0)))), some (.inl x1)], [], am_mk (am_si (am_si m 10 0 29 ((m.1 10 0 29) - (1 : Int32))) 53 0 ((am_si m 10 0 29 ((m.1 10 0 29) - (1 : Int32))).1 55 0 ((am_si m 10 0 29 ((m.1 10 0 29) - (1 : Int32))).1 10 0 29).toNatClampNeg).toNatClampNeg ((am_si m 10 0 29 ((m.1 10 0 29) - (1 : Int32))).1 10 0 23)))) (if_neg hg16) ?_
            refine am_Go.n htb 1 (S' := (0, [some (.inr (.inr (some (10, 0)))), some (.inl x1)], [], am_mk (am_si (am_si m 10 0 29 ((m.1 10 0 29) - (1 : Int32))) 53 0 ((am_si m 10 0 29 ((m.1 10 0 29) - (1 : Int32))).1 55 0 ((am_si m 10 0 29 ((m.1 10 0 29) - (1 : Int32))).1 10 0 29).toNatClampNeg).toNatClampNeg ((am_si m 10 0 29 ((m.1 10 0 29) - (1 : Int32))).1 10 0 23)))) rfl ?_
            exact ih h hk
def fn_X10_settle (a1 : Int32) (m : am_m) : Option (am_m) :=
  (lp_X10_settle_0 1000000 a1 m).bind fun q17 => some q17
set_option maxRecDepth 100000 in
theorem ex_X10_settle (d : Nat) (hd : 2 ≤ d) (a1 : Int32) (m : am_m) (t : am_m) (h : fn_X10_settle a1 m = some t) : am_Ex am_cod d 214 [.inr (.inr (some (10, 0))), .inl a1] (am_mk m) (none) (am_mk t) 0 0 := by
  obtain ⟨d, rfl⟩ : ∃ e, d = e + 1 := ⟨d - 1, by omega⟩
  have htb : am_tab 214 = at_214 := rfl
  refine ⟨Nat.le_of_ble_eq_true rfl, ?_⟩
  unfold fn_X10_settle at h
  show am_Go d 214 (0, [some (.inr (.inr (some (10, 0)))), some (.inl a1)], [], am_mk m) _ _ 0 0
  obtain ⟨q17, h18, h⟩ := am_bd h
  refine lt_X10_settle_0 _ hd (h := h18) (hk := ?_)
  cases h
  exact am_Go.r htb rfl
-- X10_inner
def lp_X10_inner_4 : Nat → Int32 → Int32 → am_m → Option (Int32)
  | 0, _, _, _ => none
  | n + 1, x1, x2, m =>
  (if (m.1 10 0 29) ≤ x2 then some x1 else am_ck x2 400 ((if (m.1 54 0 x2.toNatClampNeg) < (31 : Int32) then some x1 else am_ck x2 400 (some (m.1 54 0 x2.toNatClampNeg))).bind fun q5 => lp_X10_inner_4 n q5 (x2 + 1) m))
set_option maxRecDepth 100000 in
theorem lt_X10_inner_4 (d : Nat) (hd : 1 ≤ d + 1) {r : Option am_V} {M' : am_M} {kc ks : Nat} {n : Nat} {x1 : Int32} {x2 : Int32} {m : am_m} {t : Int32} (h : lp_X10_inner_4 n x1 x2 m = some t) (hk : am_Go d 215 (40, [some (.inr (.inr (some (10, 0)))), some (.inl t), none], [], am_mk m) r M' kc ks) : am_Go d 215 (4, [some (.inr (.inr (some (10, 0)))), some (.inl x1), some (.inl x2)], [], am_mk m) r M' kc ks := by
  have htb : am_tab 215 = at_215 := rfl
  induction n generalizing x1 x2 with
  | zero => cases h
  | succ n ih =>
    unfold lp_X10_inner_4 at h
    refine am_Go.n htb 3 (S' := (9, [some (.inr (.inr (some (10, 0)))), some (.inl x1), some (.inl x2)], [.inl (m.1 10 0 29), .inl x2], am_mk m)) rfl ?_
    by_cases hc1 : (m.1 10 0 29) ≤ x2
    · rw [if_pos hc1] at h
      refine am_Go.c1 htb (S' := (40, [some (.inr (.inr (some (10, 0)))), some (.inl x1), some (.inl x2)], [], am_mk m)) (if_pos hc1) ?_
      cases h
      exact am_Go.fg (by exact ⟨rfl, ⟨rfl, trivial⟩⟩) hk
    · rw [if_neg hc1] at h
      refine am_Go.c1 htb (S' := (12, [some (.inr (.inr (some (10, 0)))), some (.inl x1), some (.inl x2)], [], am_mk m)) (if_neg hc1) ?_
      refine am_Go.n htb 3 (S' := (17, [some (.inr (.inr (some (10, 0)))), some (.inl x1), some (.inl x2)], [.inl x2, .inr (.inr (some (54, 0)))], am_mk m)) rfl ?_
      obtain ⟨hg2, h⟩ := am_ck_some h
      refine am_Go.c1 htb (S' := (18, [some (.inr (.inr (some (10, 0)))), some (.inl x1), some (.inl x2)], [.inl (m.1 54 0 x2.toNatClampNeg)], am_mk m)) (if_neg hg2) ?_
      refine am_Go.n htb 1 (S' := (20, [some (.inr (.inr (some (10, 0)))), some (.inl x1), some (.inl x2)], [.inl 31, .inl (m.1 54 0 x2.toNatClampNeg)], am_mk m)) rfl ?_
      obtain ⟨q5, h6, h⟩ := am_bd h
      refine am_Go.cut (S := (33, [some (.inr (.inr (some (10, 0)))), some (.inl x1), some (.inl x2)], [.inl q5], am_mk m)) ?_ (fun key => ?_)
      · refine am_Go.n htb 3 (S' := (4, [some (.inr (.inr (some (10, 0)))), some (.inl q5), some (.inl (x2 + 1))], [], am_mk m)) rfl ?_
        exact ih h hk
      · have h := h6
        by_cases hc3 : (m.1 54 0 x2.toNatClampNeg) < (31 : Int32)
        · rw [if_pos hc3] at h
          refine am_Go.c1 htb (S' := (32, [some (.inr (.inr (some (10, 0)))), some (.inl x1), some (.inl x2)], [], am_mk m)) (if_pos hc3) ?_
          refine am_Go.n htb 1 (S' := (33, [some (.inr (.inr (some (10, 0)))), some (.inl x1), some (.inl x2)], [.inl x1], am_mk m)) rfl ?_
          cases h
          exact am_Go.fg (by exact ⟨rfl, ⟨rfl, ⟨rfl, trivial⟩⟩⟩) key
        · rw [if_neg hc3] at h
          refine am_Go.c1 htb (S' := (23, [some (.inr (.inr (some (10, 0)))), some (.inl x1), some (.inl x2)], [], am_mk m)) (if_neg hc3) ?_
          refine am_Go.n htb 3 (S' := (28, [some (.inr (.inr (some (10, 0)))), some (.inl x1), some (.inl x2)], [.inl x2, .inr (.inr (some (54, 0)))], am_mk m)) rfl ?_
          obtain ⟨hg4, h⟩ := am_ck_some h
          refine am_Go.c1 htb (S' := (29, [some (.inr (.inr (some (10, 0)))), some (.inl x1), some (.inl x2)], [.inl (m.1 54 0 x2.toNatClampNeg)], am_mk m)) (if_neg hg4) ?_
          refine am_Go.n htb 1 (S' := (33, [some (.inr (.inr (some (10, 0)))), some (.inl x1), some (.inl x2)], [.inl (m.1 54 0 x2.toNatClampNeg)], am_mk m)) rfl ?_
          cases h
          exact am_Go.fg (by exact ⟨rfl, ⟨rfl, ⟨rfl, trivial⟩⟩⟩) key
def fn_X10_inner  (m : am_m) : Option (Int32) :=
  (lp_X10_inner_4 1000000 (-1) 0 m).bind fun q7 => some q7
set_option maxRecDepth 100000 in
theorem ex_X10_inner (d : Nat) (hd : 1 ≤ d)  (m : am_m) (t : Int32) (h : fn_X10_inner  m = some t) : am_Ex am_cod d 215 [.inr (.inr (some (10, 0)))] (am_mk m) (some (.inl t)) (am_mk m) 0 0 := by
  obtain ⟨d, rfl⟩ : ∃ e, d = e + 1 := ⟨d - 1, by omega⟩
  have htb : am_tab 215 = at_215 := rfl
  refine ⟨Nat.le_of_ble_eq_true rfl, ?_⟩
  unfold fn_X10_inner at h
  show am_Go d 215 (0, [some (.inr (.inr (some (10, 0)))), none, none], [], am_mk m) _ _ 0 0
  refine am_Go.n htb 4 (S' := (4, [some (.inr (.inr (some (10, 0)))), some (.inl (-1)), some (.inl 0)], [], am_mk m)) rfl ?_
  obtain ⟨q7, h8, h⟩ := am_bd h
  refine lt_X10_inner_4 _ hd (h := h8) (hk := ?_)
  refine am_Go.n htb 1 (S' := (41, [some (.inr (.inr (some (10, 0)))), some (.inl q7), none], [.inl q7], am_mk m)) rfl ?_
  cases h
  exact am_Go.r htb rfl
-- X10_isCompared
def lp_X10_isCompared_7 : Nat → Int32 → am_m → Option (Int32)
  | 0, _, _ => none
  | n + 1, x1, m =>
  (if x1 < 0 then some x1 else am_ck x1 400 ((fn_X10_in ((m.1 54 0 x1.toNatClampNeg).toInt64) 20 24 m).bind fun r3 => (if r3 = 0 then some x1 else lp_X10_isCompared_7 n (x1 + (-1)) m)))
set_option maxRecDepth 100000 in
theorem lt_X10_isCompared_7 (d : Nat) (hd : 2 ≤ d + 1) {r : Option am_V} {M' : am_M} {kc ks : Nat} {n : Nat} {x1 : Int32} {m : am_m} {t : Int32} (h : lp_X10_isCompared_7 n x1 m = some t) (hk : am_Go d 216 (36, [some (.inr (.inr (some (10, 0)))), some (.inl t)], [], am_mk m) r M' kc ks) : am_Go d 216 (7, [some (.inr (.inr (some (10, 0)))), some (.inl x1)], [], am_mk m) r M' kc ks := by
  have htb : am_tab 216 = at_216 := rfl
  induction n generalizing x1 with
  | zero => cases h
  | succ n ih =>
    unfold lp_X10_isCompared_7 at h
    refine am_Go.n htb 1 (S' := (8, [some (.inr (.inr (some (10, 0)))), some (.inl x1)], [.inl x1], am_mk m)) rfl ?_
    by_cases hc1 : x1 < 0
    · rw [if_pos hc1] at h
      refine am_Go.c1 htb (S' := (36, [some (.inr (.inr (some (10, 0)))), some (.inl x1)], [], am_mk m)) (if_pos hc1) ?_
      cases h
      exact am_Go.fg (by exact ⟨rfl, ⟨rfl, trivial⟩⟩) hk
    · rw [if_neg hc1] at h
      refine am_Go.c1 htb (S' := (11, [some (.inr (.inr (some (10, 0)))), some (.inl x1)], [], am_mk m)) (if_neg hc1) ?_
      refine am_Go.n htb 3 (S' := (16, [some (.inr (.inr (some (10, 0)))), some (.inl x1)], [.inl x1, .inr (.inr (some (54, 0)))], am_mk m)) rfl ?_
      obtain ⟨hg2, h⟩ := am_ck_some h
      refine am_Go.c1 htb (S' := (17, [some (.inr (.inr (some (10, 0)))), some (.inl x1)], [.inl (m.1 54 0 x1.toNatClampNeg)], am_mk m)) (if_neg hg2) ?_
      refine am_Go.n htb 3 (S' := (24, [some (.inr (.inr (some (10, 0)))), some (.inl x1)], [.inr (.inl 24), .inr (.inl 20), .inr (.inl ((m.1 54 0 x1.toNatClampNeg).toInt64))], am_mk m)) rfl ?_
      obtain ⟨r3, h4, h⟩ := am_bd h
      refine am_Go.cl htb rfl (ex_X10_in d (by omega) ((m.1 54 0 x1.toNatClampNeg).toInt64) 20 24 m r3 h4) ?_
      show am_Go d 216 (27, [some (.inr (.inr (some (10, 0)))), some (.inl x1)], [.inl r3], am_mk m) _ _ _ _
      by_cases hc5 : r3 = 0
      · rw [if_pos hc5] at h
        refine am_Go.c1 htb (S' := (36, [some (.inr (.inr (some (10, 0)))), some (.inl x1)], [], am_mk m)) (if_pos hc5) ?_
        cases h
        exact am_Go.fg (by exact ⟨rfl, ⟨rfl, trivial⟩⟩) hk
      · rw [if_neg hc5] at h
        refine am_Go.c1 htb (S' := (30, [some (.inr (.inr (some (10, 0)))), some (.inl x1)], [], am_mk m)) (if_neg hc5) ?_
        refine am_Go.n htb 2 (S' := (7, [some (.inr (.inr (some (10, 0)))), some (.inl (x1 + (-1)))], [], am_mk m)) rfl ?_
        exact ih h hk
def fn_X10_isCompared  (m : am_m) : Option (Int32) :=
  (lp_X10_isCompared_7 1000000 ((m.1 10 0 29) - (1 : Int32)) m).bind fun q6 => (if q6 < 0 then some 0 else am_ck q6 400 ((fn_X10_in ((m.1 54 0 q6.toNatClampNeg).toInt64) 25 27 m).bind fun r10 => (if r10 = 0 then some 0 else some 1)))
set_option maxRecDepth 100000 in
theorem ex_X10_isCompared (d : Nat) (hd : 2 ≤ d)  (m : am_m) (t : Int32) (h : fn_X10_isCompared  m = some t) : am_Ex am_cod d 216 [.inr (.inr (some (10, 0)))] (am_mk m) (some (.inl t)) (am_mk m) 0 0 := by
  obtain ⟨d, rfl⟩ : ∃ e, d = e + 1 := ⟨d - 1, by omega⟩
  have htb : am_tab 216 = at_216 := rfl
  refine ⟨Nat.le_of_ble_eq_true rfl, ?_⟩
  unfold fn_X10_isCompared at h
  show am_Go d 216 (0, [some (.inr (.inr (some (10, 0)))), none], [], am_mk m) _ _ 0 0
  refine am_Go.n htb 5 (S' := (7, [some (.inr (.inr (some (10, 0)))), some (.inl ((m.1 10 0 29) - (1 : Int32)))], [], am_mk m)) rfl ?_
  obtain ⟨q6, h7, h⟩ := am_bd h
  refine lt_X10_isCompared_7 _ hd (h := h7) (hk := ?_)
  refine am_Go.n htb 1 (S' := (37, [some (.inr (.inr (some (10, 0)))), some (.inl q6)], [.inl q6], am_mk m)) rfl ?_
  by_cases hc8 : q6 < 0
  · rw [if_pos hc8] at h
    refine am_Go.c1 htb (S' := (63, [some (.inr (.inr (some (10, 0)))), some (.inl q6)], [], am_mk m)) (if_pos hc8) ?_
    refine am_Go.n htb 1 (S' := (64, [some (.inr (.inr (some (10, 0)))), some (.inl q6)], [.inl 0], am_mk m)) rfl ?_
    cases h
    exact am_Go.r htb rfl
  · rw [if_neg hc8] at h
    refine am_Go.c1 htb (S' := (40, [some (.inr (.inr (some (10, 0)))), some (.inl q6)], [], am_mk m)) (if_neg hc8) ?_
    refine am_Go.n htb 3 (S' := (45, [some (.inr (.inr (some (10, 0)))), some (.inl q6)], [.inl q6, .inr (.inr (some (54, 0)))], am_mk m)) rfl ?_
    obtain ⟨hg9, h⟩ := am_ck_some h
    refine am_Go.c1 htb (S' := (46, [some (.inr (.inr (some (10, 0)))), some (.inl q6)], [.inl (m.1 54 0 q6.toNatClampNeg)], am_mk m)) (if_neg hg9) ?_
    refine am_Go.n htb 3 (S' := (53, [some (.inr (.inr (some (10, 0)))), some (.inl q6)], [.inr (.inl 27), .inr (.inl 25), .inr (.inl ((m.1 54 0 q6.toNatClampNeg).toInt64))], am_mk m)) rfl ?_
    obtain ⟨r10, h11, h⟩ := am_bd h
    refine am_Go.cl htb rfl (ex_X10_in d (by omega) ((m.1 54 0 q6.toNatClampNeg).toInt64) 25 27 m r10 h11) ?_
    show am_Go d 216 (56, [some (.inr (.inr (some (10, 0)))), some (.inl q6)], [.inl r10], am_mk m) _ _ _ _
    by_cases hc12 : r10 = 0
    · rw [if_pos hc12] at h
      refine am_Go.c1 htb (S' := (63, [some (.inr (.inr (some (10, 0)))), some (.inl q6)], [], am_mk m)) (if_pos hc12) ?_
      refine am_Go.n htb 1 (S' := (64, [some (.inr (.inr (some (10, 0)))), some (.inl q6)], [.inl 0], am_mk m)) rfl ?_
      cases h
      exact am_Go.r htb rfl
    · rw [if_neg hc12] at h
      refine am_Go.c1 htb (S' := (59, [some (.inr (.inr (some (10, 0)))), some (.inl q6)], [], am_mk m)) (if_neg hc12) ?_
      refine am_Go.n htb 2 (S' := (64, [some (.inr (.inr (some (10, 0)))), some (.inl q6)], [.inl 1], am_mk m)) rfl ?_
      cases h
      exact am_Go.r htb rfl
-- X10_partAt
def lp_X10_partAt_4 : Nat → Int32 → Int32 → am_m → Option (Int32)
  | 0, _, _, _ => none
  | n + 1, x1, x2, m =>
  (if (8 : Int32) ≤ x2 then some x1 else am_ck x2 8 ((fn_X10_isWord (m.2.1 82 0 x2.toNatClampNeg) m).bind fun r3 => lp_X10_partAt_4 n (if r3 = 0 then x1 else (x2 + (1 : Int32))) (x2 + 1) m))
set_option maxRecDepth 100000 in
theorem lt_X10_partAt_4 (d : Nat) (hd : 2 ≤ d + 1) {r : Option am_V} {M' : am_M} {kc ks : Nat} {n : Nat} {x1 : Int32} {x2 : Int32} {m : am_m} {t : Int32} (h : lp_X10_partAt_4 n x1 x2 m = some t) (hk : am_Go d 217 (37, [some (.inr (.inr (some (10, 0)))), some (.inl t), none], [], am_mk m) r M' kc ks) : am_Go d 217 (4, [some (.inr (.inr (some (10, 0)))), some (.inl x1), some (.inl x2)], [], am_mk m) r M' kc ks := by
  have htb : am_tab 217 = at_217 := rfl
  induction n generalizing x1 x2 with
  | zero => cases h
  | succ n ih =>
    unfold lp_X10_partAt_4 at h
    refine am_Go.n htb 2 (S' := (7, [some (.inr (.inr (some (10, 0)))), some (.inl x1), some (.inl x2)], [.inl 8, .inl x2], am_mk m)) rfl ?_
    by_cases hc1 : (8 : Int32) ≤ x2
    · rw [if_pos hc1] at h
      refine am_Go.c1 htb (S' := (37, [some (.inr (.inr (some (10, 0)))), some (.inl x1), some (.inl x2)], [], am_mk m)) (if_pos hc1) ?_
      cases h
      exact am_Go.fg (by exact ⟨rfl, ⟨rfl, trivial⟩⟩) hk
    · rw [if_neg hc1] at h
      refine am_Go.c1 htb (S' := (10, [some (.inr (.inr (some (10, 0)))), some (.inl x1), some (.inl x2)], [], am_mk m)) (if_neg hc1) ?_
      refine am_Go.n htb 4 (S' := (16, [some (.inr (.inr (some (10, 0)))), some (.inl x1), some (.inl x2)], [.inl x2, .inr (.inr (some (82, 0))), .inr (.inr (some (10, 0)))], am_mk m)) rfl ?_
      obtain ⟨hg2, h⟩ := am_ck_some h
      refine am_Go.c1 htb (S' := (17, [some (.inr (.inr (some (10, 0)))), some (.inl x1), some (.inl x2)], [.inr (.inl (m.2.1 82 0 x2.toNatClampNeg)), .inr (.inr (some (10, 0)))], am_mk m)) (if_neg hg2) ?_
      obtain ⟨r3, h4, h⟩ := am_bd h
      refine am_Go.cl htb rfl (ex_X10_isWord d (by omega) (m.2.1 82 0 x2.toNatClampNeg) m r3 h4) ?_
      show am_Go d 217 (20, [some (.inr (.inr (some (10, 0)))), some (.inl x1), some (.inl x2)], [.inl r3], am_mk m) _ _ _ _
      refine am_Go.cut (S := (30, [some (.inr (.inr (some (10, 0)))), some (.inl x1), some (.inl x2)], [.inl (if r3 = 0 then x1 else (x2 + (1 : Int32)))], am_mk m)) ?_ (fun key => ?_)
      · refine am_Go.n htb 3 (S' := (4, [some (.inr (.inr (some (10, 0)))), some (.inl (if r3 = 0 then x1 else (x2 + (1 : Int32)))), some (.inl (x2 + 1))], [], am_mk m)) rfl ?_
        exact ih h hk
      · by_cases hc5 : r3 = 0
        · refine am_Go.c1 htb (S' := (29, [some (.inr (.inr (some (10, 0)))), some (.inl x1), some (.inl x2)], [], am_mk m)) (if_pos hc5) ?_
          refine am_Go.n htb 1 (S' := (30, [some (.inr (.inr (some (10, 0)))), some (.inl x1), some (.inl x2)], [.inl x1], am_mk m)) rfl ?_
          simp only [if_pos hc5] at key
          exact am_Go.fg (by exact ⟨rfl, ⟨rfl, ⟨rfl, trivial⟩⟩⟩) key
        · refine am_Go.c1 htb (S' := (23, [some (.inr (.inr (some (10, 0)))), some (.inl x1), some (.inl x2)], [], am_mk m)) (if_neg hc5) ?_
          refine am_Go.n htb 4 (S' := (30, [some (.inr (.inr (some (10, 0)))), some (.inl x1), some (.inl x2)], [.inl (x2 + (1 : Int32))], am_mk m)) rfl ?_
          simp only [if_neg hc5] at key
          exact am_Go.fg (by exact ⟨rfl, ⟨rfl, ⟨rfl, trivial⟩⟩⟩) key
def fn_X10_partAt  (m : am_m) : Option (Int32) :=
  (lp_X10_partAt_4 1000000 (-1) 0 m).bind fun q6 => some q6
set_option maxRecDepth 100000 in
theorem ex_X10_partAt (d : Nat) (hd : 2 ≤ d)  (m : am_m) (t : Int32) (h : fn_X10_partAt  m = some t) : am_Ex am_cod d 217 [.inr (.inr (some (10, 0)))] (am_mk m) (some (.inl t)) (am_mk m) 0 0 := by
  obtain ⟨d, rfl⟩ : ∃ e, d = e + 1 := ⟨d - 1, by omega⟩
  have htb : am_tab 217 = at_217 := rfl
  refine ⟨Nat.le_of_ble_eq_true rfl, ?_⟩
  unfold fn_X10_partAt at h
  show am_Go d 217 (0, [some (.inr (.inr (some (10, 0)))), none, none], [], am_mk m) _ _ 0 0
  refine am_Go.n htb 4 (S' := (4, [some (.inr (.inr (some (10, 0)))), some (.inl (-1)), some (.inl 0)], [], am_mk m)) rfl ?_
  obtain ⟨q6, h7, h⟩ := am_bd h
  refine lt_X10_partAt_4 _ hd (h := h7) (hk := ?_)
  refine am_Go.n htb 1 (S' := (38, [some (.inr (.inr (some (10, 0)))), some (.inl q6), none], [.inl q6], am_mk m)) rfl ?_
  cases h
  exact am_Go.r htb rfl
-- X10_orderPartAt
def lp_X10_orderPartAt_4 : Nat → Int32 → Int32 → am_m → Option (Int32)
  | 0, _, _, _ => none
  | n + 1, x1, x2, m =>
  (if (7 : Int32) ≤ x2 then some x1 else am_ck x2 7 ((fn_X10_isWord (m.2.1 83 0 x2.toNatClampNeg) m).bind fun r3 => lp_X10_orderPartAt_4 n (if r3 = 0 then x1 else (x2 + (1 : Int32))) (x2 + 1) m))
set_option maxRecDepth 100000 in
theorem lt_X10_orderPartAt_4 (d : Nat) (hd : 2 ≤ d + 1) {r : Option am_V} {M' : am_M} {kc ks : Nat} {n : Nat} {x1 : Int32} {x2 : Int32} {m : am_m} {t : Int32} (h : lp_X10_orderPartAt_4 n x1 x2 m = some t) (hk : am_Go d 218 (37, [some (.inr (.inr (some (10, 0)))), some (.inl t), none], [], am_mk m) r M' kc ks) : am_Go d 218 (4, [some (.inr (.inr (some (10, 0)))), some (.inl x1), some (.inl x2)], [], am_mk m) r M' kc ks := by
  have htb : am_tab 218 = at_218 := rfl
  induction n generalizing x1 x2 with
  | zero => cases h
  | succ n ih =>
    unfold lp_X10_orderPartAt_4 at h
    refine am_Go.n htb 2 (S' := (7, [some (.inr (.inr (some (10, 0)))), some (.inl x1), some (.inl x2)], [.inl 7, .inl x2], am_mk m)) rfl ?_
    by_cases hc1 : (7 : Int32) ≤ x2
    · rw [if_pos hc1] at h
      refine am_Go.c1 htb (S' := (37, [some (.inr (.inr (some (10, 0)))), some (.inl x1), some (.inl x2)], [], am_mk m)) (if_pos hc1) ?_
      cases h
      exact am_Go.fg (by exact ⟨rfl, ⟨rfl, trivial⟩⟩) hk
    · rw [if_neg hc1] at h
      refine am_Go.c1 htb (S' := (10, [some (.inr (.inr (some (10, 0)))), some (.inl x1), some (.inl x2)], [], am_mk m)) (if_neg hc1) ?_
      refine am_Go.n htb 4 (S' := (16, [some (.inr (.inr (some (10, 0)))), some (.inl x1), some (.inl x2)], [.inl x2, .inr (.inr (some (83, 0))), .inr (.inr (some (10, 0)))], am_mk m)) rfl ?_
      obtain ⟨hg2, h⟩ := am_ck_some h
      refine am_Go.c1 htb (S' := (17, [some (.inr (.inr (some (10, 0)))), some (.inl x1), some (.inl x2)], [.inr (.inl (m.2.1 83 0 x2.toNatClampNeg)), .inr (.inr (some (10, 0)))], am_mk m)) (if_neg hg2) ?_
      obtain ⟨r3, h4, h⟩ := am_bd h
      refine am_Go.cl htb rfl (ex_X10_isWord d (by omega) (m.2.1 83 0 x2.toNatClampNeg) m r3 h4) ?_
      show am_Go d 218 (20, [some (.inr (.inr (some (10, 0)))), some (.inl x1), some (.inl x2)], [.inl r3], am_mk m) _ _ _ _
      refine am_Go.cut (S := (30, [some (.inr (.inr (some (10, 0)))), some (.inl x1), some (.inl x2)], [.inl (if r3 = 0 then x1 else (x2 + (1 : Int32)))], am_mk m)) ?_ (fun key => ?_)
      · refine am_Go.n htb 3 (S' := (4, [some (.inr (.inr (some (10, 0)))), some (.inl (if r3 = 0 then x1 else (x2 + (1 : Int32)))), some (.inl (x2 + 1))], [], am_mk m)) rfl ?_
        exact ih h hk
      · by_cases hc5 : r3 = 0
        · refine am_Go.c1 htb (S' := (29, [some (.inr (.inr (some (10, 0)))), some (.inl x1), some (.inl x2)], [], am_mk m)) (if_pos hc5) ?_
          refine am_Go.n htb 1 (S' := (30, [some (.inr (.inr (some (10, 0)))), some (.inl x1), some (.inl x2)], [.inl x1], am_mk m)) rfl ?_
          simp only [if_pos hc5] at key
          exact am_Go.fg (by exact ⟨rfl, ⟨rfl, ⟨rfl, trivial⟩⟩⟩) key
        · refine am_Go.c1 htb (S' := (23, [some (.inr (.inr (some (10, 0)))), some (.inl x1), some (.inl x2)], [], am_mk m)) (if_neg hc5) ?_
          refine am_Go.n htb 4 (S' := (30, [some (.inr (.inr (some (10, 0)))), some (.inl x1), some (.inl x2)], [.inl (x2 + (1 : Int32))], am_mk m)) rfl ?_
          simp only [if_neg hc5] at key
          exact am_Go.fg (by exact ⟨rfl, ⟨rfl, ⟨rfl, trivial⟩⟩⟩) key
def fn_X10_orderPartAt  (m : am_m) : Option (Int32) :=
  (lp_X10_orderPartAt_4 1000000 (-1) 0 m).bind fun q6 => some q6
set_option maxRecDepth 100000 in
theorem ex_X10_orderPartAt (d : Nat) (hd : 2 ≤ d)  (m : am_m) (t : Int32) (h : fn_X10_orderPartAt  m = some t) : am_Ex am_cod d 218 [.inr (.inr (some (10, 0)))] (am_mk m) (some (.inl t)) (am_mk m) 0 0 := by
  obtain ⟨d, rfl⟩ : ∃ e, d = e + 1 := ⟨d - 1, by omega⟩
  have htb : am_tab 218 = at_218 := rfl
  refine ⟨Nat.le_of_ble_eq_true rfl, ?_⟩
  unfold fn_X10_orderPartAt at h
  show am_Go d 218 (0, [some (.inr (.inr (some (10, 0)))), none, none], [], am_mk m) _ _ 0 0
  refine am_Go.n htb 4 (S' := (4, [some (.inr (.inr (some (10, 0)))), some (.inl (-1)), some (.inl 0)], [], am_mk m)) rfl ?_
  obtain ⟨q6, h7, h⟩ := am_bd h
  refine lt_X10_orderPartAt_4 _ hd (h := h7) (hk := ?_)
  refine am_Go.n htb 1 (S' := (38, [some (.inr (.inr (some (10, 0)))), some (.inl q6), none], [.inl q6], am_mk m)) rfl ?_
  cases h
  exact am_Go.r htb rfl
