-- X10_layFar
def lp_X10_layFar_2 : Nat → Int32 → Int32 → am_m → Option (am_m)
  | 0, _, _, _ => none
  | n + 1, x1, x2, m =>
  (if (m.1 44 0 0) ≤ x2 then some m else am_ck x2 7 (lp_X10_layFar_2 n x1 (x2 + 1) (am_si m 59 0 x2.toNatClampNeg (if x2 ≠ x1 then (100000000 : Int32) else (0 : Int32)))))
set_option maxRecDepth 100000 in
theorem lt_X10_layFar_2 (d : Nat) (hd : 1 ≤ d + 1) {r : Option am_V} {M' : am_M} {kc ks : Nat} {n : Nat} {x1 : Int32} {x2 : Int32} {m : am_m} {t : am_m} (h : lp_X10_layFar_2 n x1 x2 m = some t) (hk : am_Go d 266 (36, [some (.inr (.inr (some (10, 0)))), some (.inl x1), none, none, none], [], am_mk t) r M' kc ks) : am_Go d 266 (2, [some (.inr (.inr (some (10, 0)))), some (.inl x1), some (.inl x2), none, none], [], am_mk m) r M' kc ks := by
  have htb : am_tab 266 = at_266 := rfl
  induction n generalizing x2 m with
  | zero => cases h
  | succ n ih =>
    unfold lp_X10_layFar_2 at h
    refine am_Go.n htb 5 (S' := (9, [some (.inr (.inr (some (10, 0)))), some (.inl x1), some (.inl x2), none, none], [.inl (m.1 44 0 0), .inl x2], am_mk m)) rfl ?_
    by_cases hc1 : (m.1 44 0 0) ≤ x2
    · rw [if_pos hc1] at h
      refine am_Go.c1 htb (S' := (36, [some (.inr (.inr (some (10, 0)))), some (.inl x1), some (.inl x2), none, none], [], am_mk m)) (if_pos hc1) ?_
      cases h
      exact am_Go.fg (by exact ⟨rfl, ⟨rfl, trivial⟩⟩) hk
    · rw [if_neg hc1] at h
      refine am_Go.c1 htb (S' := (12, [some (.inr (.inr (some (10, 0)))), some (.inl x1), some (.inl x2), none, none], [], am_mk m)) (if_neg hc1) ?_
      refine am_Go.n htb 5 (S' := (19, [some (.inr (.inr (some (10, 0)))), some (.inl x1), some (.inl x2), none, none], [.inl x1, .inl x2, .inl x2, .inr (.inr (some (59, 0)))], am_mk m)) rfl ?_
      refine am_Go.cut (S := (29, [some (.inr (.inr (some (10, 0)))), some (.inl x1), some (.inl x2), none, none], [.inl (if x2 ≠ x1 then (100000000 : Int32) else (0 : Int32)), .inl x2, .inr (.inr (some (59, 0)))], am_mk m)) ?_ (fun key => ?_)
      · obtain ⟨hg3, h⟩ := am_ck_some h
        refine am_Go.c1 htb (S' := (30, [some (.inr (.inr (some (10, 0)))), some (.inl x1), some (.inl x2), none, none], [], am_mk (am_si m 59 0 x2.toNatClampNeg (if x2 ≠ x1 then (100000000 : Int32) else (0 : Int32))))) (if_neg hg3) ?_
        refine am_Go.n htb 2 (S' := (2, [some (.inr (.inr (some (10, 0)))), some (.inl x1), some (.inl (x2 + 1)), none, none], [], am_mk (am_si m 59 0 x2.toNatClampNeg (if x2 ≠ x1 then (100000000 : Int32) else (0 : Int32))))) rfl ?_
        first | exact ih h | exact ih h hk
      · by_cases hc2 : x2 ≠ x1
        · refine am_Go.c1 htb (S' := (26, [some (.inr (.inr (some (10, 0)))), some (.inl x1), some (.inl x2), none, none], [.inl x2, .inr (.inr (some (59, 0)))], am_mk m)) (if_pos hc2) ?_
          refine am_Go.n htb 1 (S' := (29, [some (.inr (.inr (some (10, 0)))), some (.inl x1), some (.inl x2), none, none], [.inl 100000000, .inl x2, .inr (.inr (some (59, 0)))], am_mk m)) rfl ?_
          simp only [if_pos hc2] at key
          exact am_Go.fg (by exact ⟨rfl, ⟨rfl, ⟨rfl, trivial⟩⟩⟩) key
        · refine am_Go.c1 htb (S' := (22, [some (.inr (.inr (some (10, 0)))), some (.inl x1), some (.inl x2), none, none], [.inl x2, .inr (.inr (some (59, 0)))], am_mk m)) (if_neg hc2) ?_
          refine am_Go.n htb 2 (S' := (29, [some (.inr (.inr (some (10, 0)))), some (.inl x1), some (.inl x2), none, none], [.inl 0, .inl x2, .inr (.inr (some (59, 0)))], am_mk m)) rfl ?_
          simp only [if_neg hc2] at key
          exact am_Go.fg (by exact ⟨rfl, ⟨rfl, ⟨rfl, trivial⟩⟩⟩) key
def lp_X10_layFar_59 : Nat → Int32 → Int32 → Int32 → am_m → Option (am_m)
  | 0, _, _, _, _ => none
  | n + 1, x2, x3, x4, m =>
  (if (m.1 44 0 0) ≤ x4 then some m else am_ck (((7 : Int32) * x3) + x4) 49 ((if (m.1 92 0 (((7 : Int32) * x3) + x4).toNatClampNeg) = 0 then am_ck x3 7 (some (m.1 59 0 x3.toNatClampNeg)) else am_ck x4 7 (am_ck x3 7 ((if (m.1 59 0 x3.toNatClampNeg) ≤ ((m.1 59 0 x4.toNatClampNeg) + (1 : Int32)) then am_ck x3 7 (some (m.1 59 0 x3.toNatClampNeg)) else am_ck x4 7 (some ((m.1 59 0 x4.toNatClampNeg) + (1 : Int32))))))).bind fun q17 => am_ck x3 7 (lp_X10_layFar_59 n x2 x3 (x4 + 1) (am_si m 59 0 x3.toNatClampNeg q17))))
set_option maxRecDepth 100000 in
theorem lt_X10_layFar_59 (d : Nat) (hd : 1 ≤ d + 1) {r : Option am_V} {M' : am_M} {kc ks : Nat} {n : Nat} {x2 : Int32} {x3 : Int32} {x4 : Int32} {m : am_m} {t : am_m} (h : lp_X10_layFar_59 n x2 x3 x4 m = some t) (hk : am_Go d 266 (133, [some (.inr (.inr (some (10, 0)))), none, some (.inl x2), some (.inl x3), none], [], am_mk t) r M' kc ks) : am_Go d 266 (59, [some (.inr (.inr (some (10, 0)))), none, some (.inl x2), some (.inl x3), some (.inl x4)], [], am_mk m) r M' kc ks := by
  have htb : am_tab 266 = at_266 := rfl
  induction n generalizing x4 m with
  | zero => cases h
  | succ n ih =>
    unfold lp_X10_layFar_59 at h
    refine am_Go.n htb 5 (S' := (67, [some (.inr (.inr (some (10, 0)))), none, some (.inl x2), some (.inl x3), some (.inl x4)], [.inl (m.1 44 0 0), .inl x4], am_mk m)) rfl ?_
    by_cases hc8 : (m.1 44 0 0) ≤ x4
    · rw [if_pos hc8] at h
      refine am_Go.c1 htb (S' := (133, [some (.inr (.inr (some (10, 0)))), none, some (.inl x2), some (.inl x3), some (.inl x4)], [], am_mk m)) (if_pos hc8) ?_
      cases h
      exact am_Go.fg (by exact ⟨rfl, ⟨rfl, ⟨rfl, trivial⟩⟩⟩) hk
    · rw [if_neg hc8] at h
      refine am_Go.c1 htb (S' := (70, [some (.inr (.inr (some (10, 0)))), none, some (.inl x2), some (.inl x3), some (.inl x4)], [], am_mk m)) (if_neg hc8) ?_
      refine am_Go.n htb 10 (S' := (86, [some (.inr (.inr (some (10, 0)))), none, some (.inl x2), some (.inl x3), some (.inl x4)], [.inl (((7 : Int32) * x3) + x4), .inr (.inr (some (92, 0))), .inl x3, .inr (.inr (some (59, 0)))], am_mk m)) rfl ?_
      obtain ⟨hg9, h⟩ := am_ck_some h
      refine am_Go.c1 htb (S' := (87, [some (.inr (.inr (some (10, 0)))), none, some (.inl x2), some (.inl x3), some (.inl x4)], [.inl (m.1 92 0 (((7 : Int32) * x3) + x4).toNatClampNeg), .inl x3, .inr (.inr (some (59, 0)))], am_mk m)) (if_neg hg9) ?_
      obtain ⟨q17, h19, h⟩ := am_bd h
      refine am_Go.cut (S := (126, [some (.inr (.inr (some (10, 0)))), none, some (.inl x2), some (.inl x3), some (.inl x4)], [.inl q17, .inl x3, .inr (.inr (some (59, 0)))], am_mk m)) ?_ (fun key => ?_)
      · obtain ⟨hg18, h⟩ := am_ck_some h
        refine am_Go.c1 htb (S' := (127, [some (.inr (.inr (some (10, 0)))), none, some (.inl x2), some (.inl x3), some (.inl x4)], [], am_mk (am_si m 59 0 x3.toNatClampNeg q17))) (if_neg hg18) ?_
        refine am_Go.n htb 2 (S' := (59, [some (.inr (.inr (some (10, 0)))), none, some (.inl x2), some (.inl x3), some (.inl (x4 + 1))], [], am_mk (am_si m 59 0 x3.toNatClampNeg q17))) rfl ?_
        first | exact ih h | exact ih h hk
      · have h := h19
        by_cases hc10 : (m.1 92 0 (((7 : Int32) * x3) + x4).toNatClampNeg) = 0
        · rw [if_pos hc10] at h
          refine am_Go.c1 htb (S' := (120, [some (.inr (.inr (some (10, 0)))), none, some (.inl x2), some (.inl x3), some (.inl x4)], [.inl x3, .inr (.inr (some (59, 0)))], am_mk m)) (if_pos hc10) ?_
          refine am_Go.n htb 3 (S' := (125, [some (.inr (.inr (some (10, 0)))), none, some (.inl x2), some (.inl x3), some (.inl x4)], [.inl x3, .inr (.inr (some (59, 0))), .inl x3, .inr (.inr (some (59, 0)))], am_mk m)) rfl ?_
          obtain ⟨hg11, h⟩ := am_ck_some h
          refine am_Go.c1 htb (S' := (126, [some (.inr (.inr (some (10, 0)))), none, some (.inl x2), some (.inl x3), some (.inl x4)], [.inl (m.1 59 0 x3.toNatClampNeg), .inl x3, .inr (.inr (some (59, 0)))], am_mk m)) (if_neg hg11) ?_
          cases h
          exact am_Go.fg (by exact ⟨rfl, ⟨rfl, ⟨rfl, ⟨rfl, trivial⟩⟩⟩⟩) key
        · rw [if_neg hc10] at h
          refine am_Go.c1 htb (S' := (90, [some (.inr (.inr (some (10, 0)))), none, some (.inl x2), some (.inl x3), some (.inl x4)], [.inl x3, .inr (.inr (some (59, 0)))], am_mk m)) (if_neg hc10) ?_
          refine am_Go.n htb 3 (S' := (96, [some (.inr (.inr (some (10, 0)))), none, some (.inl x2), some (.inl x3), some (.inl x4)], [.inl x4, .inr (.inr (some (59, 0))), .inl x3, .inr (.inr (some (59, 0)))], am_mk m)) rfl ?_
          obtain ⟨hg12, h⟩ := am_ck_some h
          refine am_Go.c1 htb (S' := (97, [some (.inr (.inr (some (10, 0)))), none, some (.inl x2), some (.inl x3), some (.inl x4)], [.inl (m.1 59 0 x4.toNatClampNeg), .inl x3, .inr (.inr (some (59, 0)))], am_mk m)) (if_neg hg12) ?_
          refine am_Go.n htb 5 (S' := (104, [some (.inr (.inr (some (10, 0)))), none, some (.inl x2), some (.inl x3), some (.inl x4)], [.inl x3, .inr (.inr (some (59, 0))), .inl ((m.1 59 0 x4.toNatClampNeg) + (1 : Int32)), .inl x3, .inr (.inr (some (59, 0)))], am_mk m)) rfl ?_
          obtain ⟨hg13, h⟩ := am_ck_some h
          refine am_Go.c1 htb (S' := (105, [some (.inr (.inr (some (10, 0)))), none, some (.inl x2), some (.inl x3), some (.inl x4)], [.inl (m.1 59 0 x3.toNatClampNeg), .inl ((m.1 59 0 x4.toNatClampNeg) + (1 : Int32)), .inl x3, .inr (.inr (some (59, 0)))], am_mk m)) (if_neg hg13) ?_
          by_cases hc14 : (m.1 59 0 x3.toNatClampNeg) ≤ ((m.1 59 0 x4.toNatClampNeg) + (1 : Int32))
          · rw [if_pos hc14] at h
            refine am_Go.c1 htb (S' := (120, [some (.inr (.inr (some (10, 0)))), none, some (.inl x2), some (.inl x3), some (.inl x4)], [.inl x3, .inr (.inr (some (59, 0)))], am_mk m)) (if_pos hc14) ?_
            refine am_Go.n htb 3 (S' := (125, [some (.inr (.inr (some (10, 0)))), none, some (.inl x2), some (.inl x3), some (.inl x4)], [.inl x3, .inr (.inr (some (59, 0))), .inl x3, .inr (.inr (some (59, 0)))], am_mk m)) rfl ?_
            obtain ⟨hg15, h⟩ := am_ck_some h
            refine am_Go.c1 htb (S' := (126, [some (.inr (.inr (some (10, 0)))), none, some (.inl x2), some (.inl x3), some (.inl x4)], [.inl (m.1 59 0 x3.toNatClampNeg), .inl x3, .inr (.inr (some (59, 0)))], am_mk m)) (if_neg hg15) ?_
            cases h
            exact am_Go.fg (by exact ⟨rfl, ⟨rfl, ⟨rfl, ⟨rfl, trivial⟩⟩⟩⟩) key
          · rw [if_neg hc14] at h
            refine am_Go.c1 htb (S' := (108, [some (.inr (.inr (some (10, 0)))), none, some (.inl x2), some (.inl x3), some (.inl x4)], [.inl x3, .inr (.inr (some (59, 0)))], am_mk m)) (if_neg hc14) ?_
            refine am_Go.n htb 3 (S' := (114, [some (.inr (.inr (some (10, 0)))), none, some (.inl x2), some (.inl x3), some (.inl x4)], [.inl x4, .inr (.inr (some (59, 0))), .inl x3, .inr (.inr (some (59, 0)))], am_mk m)) rfl ?_
            obtain ⟨hg16, h⟩ := am_ck_some h
            refine am_Go.c1 htb (S' := (115, [some (.inr (.inr (some (10, 0)))), none, some (.inl x2), some (.inl x3), some (.inl x4)], [.inl (m.1 59 0 x4.toNatClampNeg), .inl x3, .inr (.inr (some (59, 0)))], am_mk m)) (if_neg hg16) ?_
            refine am_Go.n htb 3 (S' := (126, [some (.inr (.inr (some (10, 0)))), none, some (.inl x2), some (.inl x3), some (.inl x4)], [.inl ((m.1 59 0 x4.toNatClampNeg) + (1 : Int32)), .inl x3, .inr (.inr (some (59, 0)))], am_mk m)) rfl ?_
            cases h
            exact am_Go.fg (by exact ⟨rfl, ⟨rfl, ⟨rfl, ⟨rfl, trivial⟩⟩⟩⟩) key
def lp_X10_layFar_46 : Nat → Int32 → Int32 → am_m → Option (am_m)
  | 0, _, _, _ => none
  | n + 1, x2, x3, m =>
  (if (m.1 44 0 0) ≤ x3 then some m else (lp_X10_layFar_59 1000000 x2 x3 0 m).bind fun q20 => lp_X10_layFar_46 n x2 (x3 + 1) q20)
set_option maxRecDepth 100000 in
theorem lt_X10_layFar_46 (d : Nat) (hd : 1 ≤ d + 1) {r : Option am_V} {M' : am_M} {kc ks : Nat} {n : Nat} {x2 : Int32} {x3 : Int32} {m : am_m} {t : am_m} (h : lp_X10_layFar_46 n x2 x3 m = some t) (hk : am_Go d 266 (139, [some (.inr (.inr (some (10, 0)))), none, some (.inl x2), none, none], [], am_mk t) r M' kc ks) : am_Go d 266 (46, [some (.inr (.inr (some (10, 0)))), none, some (.inl x2), some (.inl x3), none], [], am_mk m) r M' kc ks := by
  have htb : am_tab 266 = at_266 := rfl
  induction n generalizing x3 m with
  | zero => cases h
  | succ n ih =>
    unfold lp_X10_layFar_46 at h
    refine am_Go.n htb 5 (S' := (53, [some (.inr (.inr (some (10, 0)))), none, some (.inl x2), some (.inl x3), none], [.inl (m.1 44 0 0), .inl x3], am_mk m)) rfl ?_
    by_cases hc7 : (m.1 44 0 0) ≤ x3
    · rw [if_pos hc7] at h
      refine am_Go.c1 htb (S' := (139, [some (.inr (.inr (some (10, 0)))), none, some (.inl x2), some (.inl x3), none], [], am_mk m)) (if_pos hc7) ?_
      cases h
      exact am_Go.fg (by exact ⟨rfl, ⟨rfl, trivial⟩⟩) hk
    · rw [if_neg hc7] at h
      refine am_Go.c1 htb (S' := (56, [some (.inr (.inr (some (10, 0)))), none, some (.inl x2), some (.inl x3), none], [], am_mk m)) (if_neg hc7) ?_
      refine am_Go.n htb 2 (S' := (59, [some (.inr (.inr (some (10, 0)))), none, some (.inl x2), some (.inl x3), some (.inl 0)], [], am_mk m)) rfl ?_
      obtain ⟨q20, h21, h⟩ := am_bd h
      refine lt_X10_layFar_59 _ hd (h := h21) (hk := ?_)
      refine am_Go.n htb 2 (S' := (46, [some (.inr (.inr (some (10, 0)))), none, some (.inl x2), some (.inl (x3 + 1)), none], [], am_mk q20)) rfl ?_
      first | exact ih h | exact ih h hk
def lp_X10_layFar_38 : Nat → Int32 → am_m → Option (am_m)
  | 0, _, _ => none
  | n + 1, x2, m =>
  (if (7 : Int32) ≤ x2 then some m else (lp_X10_layFar_46 1000000 x2 0 m).bind fun q22 => lp_X10_layFar_38 n (x2 + 1) q22)
set_option maxRecDepth 100000 in
theorem lt_X10_layFar_38 (d : Nat) (hd : 1 ≤ d + 1) {r : Option am_V} {M' : am_M} {kc ks : Nat} {n : Nat} {x2 : Int32} {m : am_m} {t : am_m} (h : lp_X10_layFar_38 n x2 m = some t) (hk : am_Go d 266 (145, [some (.inr (.inr (some (10, 0)))), none, none, none, none], [], am_mk t) r M' kc ks) : am_Go d 266 (38, [some (.inr (.inr (some (10, 0)))), none, some (.inl x2), none, none], [], am_mk m) r M' kc ks := by
  have htb : am_tab 266 = at_266 := rfl
  induction n generalizing x2 m with
  | zero => cases h
  | succ n ih =>
    unfold lp_X10_layFar_38 at h
    refine am_Go.n htb 2 (S' := (41, [some (.inr (.inr (some (10, 0)))), none, some (.inl x2), none, none], [.inl 7, .inl x2], am_mk m)) rfl ?_
    by_cases hc6 : (7 : Int32) ≤ x2
    · rw [if_pos hc6] at h
      refine am_Go.c1 htb (S' := (145, [some (.inr (.inr (some (10, 0)))), none, some (.inl x2), none, none], [], am_mk m)) (if_pos hc6) ?_
      cases h
      exact am_Go.fg (by exact ⟨rfl, trivial⟩) hk
    · rw [if_neg hc6] at h
      refine am_Go.c1 htb (S' := (44, [some (.inr (.inr (some (10, 0)))), none, some (.inl x2), none, none], [], am_mk m)) (if_neg hc6) ?_
      refine am_Go.n htb 2 (S' := (46, [some (.inr (.inr (some (10, 0)))), none, some (.inl x2), some (.inl 0), none], [], am_mk m)) rfl ?_
      obtain ⟨q22, h23, h⟩ := am_bd h
      refine lt_X10_layFar_46 _ hd (h := h23) (hk := ?_)
      refine am_Go.n htb 2 (S' := (38, [some (.inr (.inr (some (10, 0)))), none, some (.inl (x2 + 1)), none, none], [], am_mk q22)) rfl ?_
      first | exact ih h | exact ih h hk
def fn_X10_layFar (a1 : Int32) (m : am_m) : Option (am_m) :=
  (lp_X10_layFar_2 1000000 a1 0 m).bind fun q4 => (lp_X10_layFar_38 1000000 0 q4).bind fun q24 => some q24
set_option maxRecDepth 100000 in
theorem ex_X10_layFar (d : Nat) (hd : 1 ≤ d) (a1 : Int32) (m : am_m) (t : am_m) (h : fn_X10_layFar a1 m = some t) : am_Ex am_cod d 266 [.inr (.inr (some (10, 0))), .inl a1] (am_mk m) (none) (am_mk t) 0 0 := by
  obtain ⟨d, rfl⟩ : ∃ e, d = e + 1 := ⟨d - 1, by omega⟩
  have htb : am_tab 266 = at_266 := rfl
  refine ⟨Nat.le_of_ble_eq_true rfl, ?_⟩
  unfold fn_X10_layFar at h
  show am_Go d 266 (0, [some (.inr (.inr (some (10, 0)))), some (.inl a1), none, none, none], [], am_mk m) _ _ 0 0
  refine am_Go.n htb 2 (S' := (2, [some (.inr (.inr (some (10, 0)))), some (.inl a1), some (.inl 0), none, none], [], am_mk m)) rfl ?_
  obtain ⟨q4, h5, h⟩ := am_bd h
  refine lt_X10_layFar_2 _ hd (h := h5) (hk := ?_)
  refine am_Go.n htb 2 (S' := (38, [some (.inr (.inr (some (10, 0)))), some (.inl a1), some (.inl 0), none, none], [], am_mk q4)) rfl ?_
  refine am_Go.fg (L0 := [some (.inr (.inr (some (10, 0)))), none, some (.inl 0), none, none]) (by exact ⟨rfl, ⟨rfl, trivial⟩⟩) ?_
  obtain ⟨q24, h25, h⟩ := am_bd h
  refine lt_X10_layFar_38 _ hd (h := h25) (hk := ?_)
  cases h
  exact am_Go.rt htb rfl
-- X10_chain
def lp_X10_chain_104 : Nat → Int32 → Int32 → Int32 → Int32 → am_m → Option (Int32)
  | 0, _, _, _, _, _ => none
  | n + 1, x3, x4, x5, x6, m =>
  am_ck (((7 : Int32) * x4) + x6) 49 ((if (m.1 92 0 (((7 : Int32) * x4) + x6).toNatClampNeg) = 0 then lp_X10_chain_104 n x3 x4 x5 (x6 + 1) m else am_ck x6 7 (am_ck x4 7 ((if (m.1 59 0 x6.toNatClampNeg) = ((m.1 59 0 x4.toNatClampNeg) - (1 : Int32)) then some x6 else lp_X10_chain_104 n x3 x4 x5 (x6 + 1) m)))))
set_option maxRecDepth 100000 in
theorem lt_X10_chain_104 (d : Nat) (hd : 9 ≤ d + 1) {r : Option am_V} {M' : am_M} {kc ks : Nat} {n : Nat} {x3 : Int32} {x4 : Int32} {x5 : Int32} {x6 : Int32} {m : am_m} {t : Int32} (h : lp_X10_chain_104 n x3 x4 x5 x6 m = some t) (hk : am_Go d 267 (145, [some (.inr (.inr (some (10, 0)))), none, none, some (.inl x3), some (.inl x4), some (.inl x5), some (.inl t)], [], am_mk m) r M' kc ks) : am_Go d 267 (104, [some (.inr (.inr (some (10, 0)))), none, none, some (.inl x3), some (.inl x4), some (.inl x5), some (.inl x6)], [], am_mk m) r M' kc ks := by
  have htb : am_tab 267 = at_267 := rfl
  induction n generalizing x6 with
  | zero => cases h
  | succ n ih =>
    unfold lp_X10_chain_104 at h
    refine am_Go.n htb 7 (S' := (116, [some (.inr (.inr (some (10, 0)))), none, none, some (.inl x3), some (.inl x4), some (.inl x5), some (.inl x6)], [.inl (((7 : Int32) * x4) + x6), .inr (.inr (some (92, 0)))], am_mk m)) rfl ?_
    obtain ⟨hg21, h⟩ := am_ck_some h
    refine am_Go.c1 htb (S' := (117, [some (.inr (.inr (some (10, 0)))), none, none, some (.inl x3), some (.inl x4), some (.inl x5), some (.inl x6)], [.inl (m.1 92 0 (((7 : Int32) * x4) + x6).toNatClampNeg)], am_mk m)) (if_neg hg21) ?_
    by_cases hc22 : (m.1 92 0 (((7 : Int32) * x4) + x6).toNatClampNeg) = 0
    · rw [if_pos hc22] at h
      refine am_Go.c1 htb (S' := (139, [some (.inr (.inr (some (10, 0)))), none, none, some (.inl x3), some (.inl x4), some (.inl x5), some (.inl x6)], [], am_mk m)) (if_pos hc22) ?_
      refine am_Go.n htb 2 (S' := (104, [some (.inr (.inr (some (10, 0)))), none, none, some (.inl x3), some (.inl x4), some (.inl x5), some (.inl (x6 + 1))], [], am_mk m)) rfl ?_
      first | exact ih h | exact ih h hk
    · rw [if_neg hc22] at h
      refine am_Go.c1 htb (S' := (120, [some (.inr (.inr (some (10, 0)))), none, none, some (.inl x3), some (.inl x4), some (.inl x5), some (.inl x6)], [], am_mk m)) (if_neg hc22) ?_
      refine am_Go.n htb 3 (S' := (126, [some (.inr (.inr (some (10, 0)))), none, none, some (.inl x3), some (.inl x4), some (.inl x5), some (.inl x6)], [.inl x6, .inr (.inr (some (59, 0)))], am_mk m)) rfl ?_
      obtain ⟨hg23, h⟩ := am_ck_some h
      refine am_Go.c1 htb (S' := (127, [some (.inr (.inr (some (10, 0)))), none, none, some (.inl x3), some (.inl x4), some (.inl x5), some (.inl x6)], [.inl (m.1 59 0 x6.toNatClampNeg)], am_mk m)) (if_neg hg23) ?_
      refine am_Go.n htb 3 (S' := (133, [some (.inr (.inr (some (10, 0)))), none, none, some (.inl x3), some (.inl x4), some (.inl x5), some (.inl x6)], [.inl x4, .inr (.inr (some (59, 0))), .inl (m.1 59 0 x6.toNatClampNeg)], am_mk m)) rfl ?_
      obtain ⟨hg24, h⟩ := am_ck_some h
      refine am_Go.c1 htb (S' := (134, [some (.inr (.inr (some (10, 0)))), none, none, some (.inl x3), some (.inl x4), some (.inl x5), some (.inl x6)], [.inl (m.1 59 0 x4.toNatClampNeg), .inl (m.1 59 0 x6.toNatClampNeg)], am_mk m)) (if_neg hg24) ?_
      refine am_Go.n htb 2 (S' := (136, [some (.inr (.inr (some (10, 0)))), none, none, some (.inl x3), some (.inl x4), some (.inl x5), some (.inl x6)], [.inl ((m.1 59 0 x4.toNatClampNeg) - (1 : Int32)), .inl (m.1 59 0 x6.toNatClampNeg)], am_mk m)) rfl ?_
      by_cases hc25 : (m.1 59 0 x6.toNatClampNeg) = ((m.1 59 0 x4.toNatClampNeg) - (1 : Int32))
      · rw [if_pos hc25] at h
        refine am_Go.c1 htb (S' := (145, [some (.inr (.inr (some (10, 0)))), none, none, some (.inl x3), some (.inl x4), some (.inl x5), some (.inl x6)], [], am_mk m)) (if_pos hc25) ?_
        cases h
        exact am_Go.fg (by exact ⟨rfl, ⟨rfl, ⟨rfl, ⟨rfl, ⟨rfl, trivial⟩⟩⟩⟩⟩) hk
      · rw [if_neg hc25] at h
        refine am_Go.c1 htb (S' := (139, [some (.inr (.inr (some (10, 0)))), none, none, some (.inl x3), some (.inl x4), some (.inl x5), some (.inl x6)], [], am_mk m)) (if_neg hc25) ?_
        refine am_Go.n htb 2 (S' := (104, [some (.inr (.inr (some (10, 0)))), none, none, some (.inl x3), some (.inl x4), some (.inl x5), some (.inl (x6 + 1))], [], am_mk m)) rfl ?_
        first | exact ih h | exact ih h hk
def lp_X10_chain_95 : Nat → Int32 → Int32 → Int32 → am_m → Option (Int32)
  | 0, _, _, _, _ => none
  | n + 1, x3, x4, x5, m =>
  (if x3 < x5 then some x4 else (lp_X10_chain_104 1000000 x3 x4 x5 0 m).bind fun q26 => lp_X10_chain_95 n x3 q26 (x5 + 1) m)
set_option maxRecDepth 100000 in
theorem lt_X10_chain_95 (d : Nat) (hd : 9 ≤ d + 1) {r : Option am_V} {M' : am_M} {kc ks : Nat} {n : Nat} {x3 : Int32} {x4 : Int32} {x5 : Int32} {m : am_m} {t : Int32} (h : lp_X10_chain_95 n x3 x4 x5 m = some t) (hk : am_Go d 267 (155, [some (.inr (.inr (some (10, 0)))), none, none, some (.inl x3), some (.inl t), none, none], [], am_mk m) r M' kc ks) : am_Go d 267 (95, [some (.inr (.inr (some (10, 0)))), none, none, some (.inl x3), some (.inl x4), some (.inl x5), none], [], am_mk m) r M' kc ks := by
  have htb : am_tab 267 = at_267 := rfl
  induction n generalizing x4 x5 with
  | zero => cases h
  | succ n ih =>
    unfold lp_X10_chain_95 at h
    refine am_Go.n htb 2 (S' := (98, [some (.inr (.inr (some (10, 0)))), none, none, some (.inl x3), some (.inl x4), some (.inl x5), none], [.inl x3, .inl x5], am_mk m)) rfl ?_
    by_cases hc20 : x3 < x5
    · rw [if_pos hc20] at h
      refine am_Go.c1 htb (S' := (155, [some (.inr (.inr (some (10, 0)))), none, none, some (.inl x3), some (.inl x4), some (.inl x5), none], [], am_mk m)) (if_pos hc20) ?_
      cases h
      exact am_Go.fg (by exact ⟨rfl, ⟨rfl, ⟨rfl, trivial⟩⟩⟩) hk
    · rw [if_neg hc20] at h
      refine am_Go.c1 htb (S' := (101, [some (.inr (.inr (some (10, 0)))), none, none, some (.inl x3), some (.inl x4), some (.inl x5), none], [], am_mk m)) (if_neg hc20) ?_
      refine am_Go.n htb 2 (S' := (104, [some (.inr (.inr (some (10, 0)))), none, none, some (.inl x3), some (.inl x4), some (.inl x5), some (.inl 0)], [], am_mk m)) rfl ?_
      obtain ⟨q26, h27, h⟩ := am_bd h
      refine lt_X10_chain_104 _ hd (h := h27) (hk := ?_)
      refine am_Go.n htb 4 (S' := (95, [some (.inr (.inr (some (10, 0)))), none, none, some (.inl x3), some (.inl q26), some (.inl (x5 + 1)), some (.inl q26)], [], am_mk m)) rfl ?_
      refine am_Go.fg (L0 := [some (.inr (.inr (some (10, 0)))), none, none, some (.inl x3), some (.inl q26), some (.inl (x5 + 1)), none]) (by exact ⟨rfl, ⟨rfl, ⟨rfl, ⟨rfl, trivial⟩⟩⟩⟩) ?_
      first | exact ih h | exact ih h hk
def fn_X10_chain (a1 : Int32) (a2 : Int32) (a3 : Int32) (m : am_m) : Option (Int32 × am_m) :=
  (fn_X10_isFolk a1 (am_si m 10 0 0 0)).bind fun r1 => (if r1 = 0 then some ((-1), am_si m 10 0 0 0) else (fn_X10_isFolk a2 (am_si m 10 0 0 0)).bind fun r4 => (if r4 = 0 then some ((-1), am_si m 10 0 0 0) else (if (-1 : Int32) ≤ a3 then (fn_X10_layMay  (am_si m 10 0 0 0)).bind fun r8 => (fn_X10_layFar a2 r8).bind fun r10 => am_ck a1 7 ((if (r10.1 59 0 a1.toNatClampNeg) = (100000000 : Int32) then am_ck a1 7 ((if (r10.1 59 0 a1.toNatClampNeg) ≠ (100000000 : Int32) then am_ck a1 7 (some ((r10.1 59 0 a1.toNatClampNeg), r10)) else some ((-1), r10))) else (if a3 ≠ (-1 : Int32) then am_ck a1 7 ((if a3 < (r10.1 59 0 a1.toNatClampNeg) then (lp_X10_chain_95 1000000 a3 a1 0 r10).bind fun q28 => some (q28, r10) else some ((-1), r10))) else am_ck a1 7 ((if (r10.1 59 0 a1.toNatClampNeg) ≠ (100000000 : Int32) then am_ck a1 7 (some ((r10.1 59 0 a1.toNatClampNeg), r10)) else some ((-1), r10)))))) else some ((-1), am_si m 10 0 0 0))))
set_option maxRecDepth 100000 in
theorem ex_X10_chain (d : Nat) (hd : 9 ≤ d) (a1 : Int32) (a2 : Int32) (a3 : Int32) (m : am_m) (t : Int32 × am_m) (h : fn_X10_chain a1 a2 a3 m = some t) : am_Ex am_cod d 267 [.inr (.inr (some (10, 0))), .inl a1, .inl a2, .inl a3] (am_mk m) (some (.inl t.1)) (am_mk t.2) 0 0 := by
  obtain ⟨d, rfl⟩ : ∃ e, d = e + 1 := ⟨d - 1, by omega⟩
  have htb : am_tab 267 = at_267 := rfl
  refine ⟨Nat.le_of_ble_eq_true rfl, ?_⟩
  unfold fn_X10_chain at h
  show am_Go d 267 (0, [some (.inr (.inr (some (10, 0)))), some (.inl a1), some (.inl a2), some (.inl a3), none, none, none], [], am_mk m) _ _ 0 0
  refine am_Go.n htb 5 (S' := (7, [some (.inr (.inr (some (10, 0)))), some (.inl a1), some (.inl a2), some (.inl a3), none, none, none], [.inl a1, .inr (.inr (some (10, 0)))], am_mk (am_si m 10 0 0 0))) rfl ?_
  obtain ⟨r1, h2, h⟩ := am_bd h
  refine am_Go.cl htb rfl (ex_X10_isFolk d (by omega) a1 (am_si m 10 0 0 0) r1 h2) ?_
  show am_Go d 267 (10, [some (.inr (.inr (some (10, 0)))), some (.inl a1), some (.inl a2), some (.inl a3), none, none, none], [.inl r1], am_mk (am_si m 10 0 0 0)) _ _ _ _
  by_cases hc3 : r1 = 0
  · rw [if_pos hc3] at h
    refine am_Go.c1 htb (S' := (26, [some (.inr (.inr (some (10, 0)))), some (.inl a1), some (.inl a2), some (.inl a3), none, none, none], [], am_mk (am_si m 10 0 0 0))) (if_pos hc3) ?_
    refine am_Go.n htb 1 (S' := (27, [some (.inr (.inr (some (10, 0)))), some (.inl a1), some (.inl a2), some (.inl a3), none, none, none], [.inl (-1)], am_mk (am_si m 10 0 0 0))) rfl ?_
    cases h
    exact am_Go.rt htb rfl
  · rw [if_neg hc3] at h
    refine am_Go.c1 htb (S' := (13, [some (.inr (.inr (some (10, 0)))), some (.inl a1), some (.inl a2), some (.inl a3), none, none, none], [], am_mk (am_si m 10 0 0 0))) (if_neg hc3) ?_
    refine am_Go.n htb 2 (S' := (15, [some (.inr (.inr (some (10, 0)))), some (.inl a1), some (.inl a2), some (.inl a3), none, none, none], [.inl a2, .inr (.inr (some (10, 0)))], am_mk (am_si m 10 0 0 0))) rfl ?_
    obtain ⟨r4, h5, h⟩ := am_bd h
    refine am_Go.cl htb rfl (ex_X10_isFolk d (by omega) a2 (am_si m 10 0 0 0) r4 h5) ?_
    show am_Go d 267 (18, [some (.inr (.inr (some (10, 0)))), some (.inl a1), some (.inl a2), some (.inl a3), none, none, none], [.inl r4], am_mk (am_si m 10 0 0 0)) _ _ _ _
    by_cases hc6 : r4 = 0
    · rw [if_pos hc6] at h
      refine am_Go.c1 htb (S' := (26, [some (.inr (.inr (some (10, 0)))), some (.inl a1), some (.inl a2), some (.inl a3), none, none, none], [], am_mk (am_si m 10 0 0 0))) (if_pos hc6) ?_
      refine am_Go.n htb 1 (S' := (27, [some (.inr (.inr (some (10, 0)))), some (.inl a1), some (.inl a2), some (.inl a3), none, none, none], [.inl (-1)], am_mk (am_si m 10 0 0 0))) rfl ?_
      cases h
      exact am_Go.rt htb rfl
    · rw [if_neg hc6] at h
      refine am_Go.c1 htb (S' := (21, [some (.inr (.inr (some (10, 0)))), some (.inl a1), some (.inl a2), some (.inl a3), none, none, none], [], am_mk (am_si m 10 0 0 0))) (if_neg hc6) ?_
      refine am_Go.n htb 2 (S' := (23, [some (.inr (.inr (some (10, 0)))), some (.inl a1), some (.inl a2), some (.inl a3), none, none, none], [.inl (-1), .inl a3], am_mk (am_si m 10 0 0 0))) rfl ?_
      by_cases hc7 : (-1 : Int32) ≤ a3
      · rw [if_pos hc7] at h
        refine am_Go.c1 htb (S' := (28, [some (.inr (.inr (some (10, 0)))), some (.inl a1), some (.inl a2), some (.inl a3), none, none, none], [], am_mk (am_si m 10 0 0 0))) (if_pos hc7) ?_
        refine am_Go.n htb 1 (S' := (29, [some (.inr (.inr (some (10, 0)))), some (.inl a1), some (.inl a2), some (.inl a3), none, none, none], [.inr (.inr (some (10, 0)))], am_mk (am_si m 10 0 0 0))) rfl ?_
        obtain ⟨r8, h9, h⟩ := am_bd h
        refine am_Go.cl htb rfl (ex_X10_layMay d (by omega)  (am_si m 10 0 0 0) r8 h9) ?_
        show am_Go d 267 (32, [some (.inr (.inr (some (10, 0)))), some (.inl a1), some (.inl a2), some (.inl a3), none, none, none], [], am_mk r8) _ _ _ _
        refine am_Go.n htb 2 (S' := (34, [some (.inr (.inr (some (10, 0)))), some (.inl a1), some (.inl a2), some (.inl a3), none, none, none], [.inl a2, .inr (.inr (some (10, 0)))], am_mk r8)) rfl ?_
        obtain ⟨r10, h11, h⟩ := am_bd h
        refine am_Go.cl htb rfl (ex_X10_layFar d (by omega) a2 r8 r10 h11) ?_
        show am_Go d 267 (37, [some (.inr (.inr (some (10, 0)))), some (.inl a1), some (.inl a2), some (.inl a3), none, none, none], [], am_mk r10) _ _ _ _
        refine am_Go.n htb 3 (S' := (42, [some (.inr (.inr (some (10, 0)))), some (.inl a1), some (.inl a2), some (.inl a3), none, none, none], [.inl a1, .inr (.inr (some (59, 0)))], am_mk r10)) rfl ?_
        obtain ⟨hg12, h⟩ := am_ck_some h
        refine am_Go.c1 htb (S' := (43, [some (.inr (.inr (some (10, 0)))), some (.inl a1), some (.inl a2), some (.inl a3), none, none, none], [.inl (r10.1 59 0 a1.toNatClampNeg)], am_mk r10)) (if_neg hg12) ?_
        refine am_Go.n htb 1 (S' := (46, [some (.inr (.inr (some (10, 0)))), some (.inl a1), some (.inl a2), some (.inl a3), none, none, none], [.inl 100000000, .inl (r10.1 59 0 a1.toNatClampNeg)], am_mk r10)) rfl ?_
        by_cases hc13 : (r10.1 59 0 a1.toNatClampNeg) = (100000000 : Int32)
        · rw [if_pos hc13] at h
          refine am_Go.c1 htb (S' := (54, [some (.inr (.inr (some (10, 0)))), some (.inl a1), some (.inl a2), some (.inl a3), none, none, none], [], am_mk r10)) (if_pos hc13) ?_
          refine am_Go.n htb 3 (S' := (59, [some (.inr (.inr (some (10, 0)))), some (.inl a1), some (.inl a2), some (.inl a3), none, none, none], [.inl a1, .inr (.inr (some (59, 0)))], am_mk r10)) rfl ?_
          obtain ⟨hg14, h⟩ := am_ck_some h
          refine am_Go.c1 htb (S' := (60, [some (.inr (.inr (some (10, 0)))), some (.inl a1), some (.inl a2), some (.inl a3), none, none, none], [.inl (r10.1 59 0 a1.toNatClampNeg)], am_mk r10)) (if_neg hg14) ?_
          refine am_Go.n htb 1 (S' := (63, [some (.inr (.inr (some (10, 0)))), some (.inl a1), some (.inl a2), some (.inl a3), none, none, none], [.inl 100000000, .inl (r10.1 59 0 a1.toNatClampNeg)], am_mk r10)) rfl ?_
          by_cases hc15 : (r10.1 59 0 a1.toNatClampNeg) ≠ (100000000 : Int32)
          · rw [if_pos hc15] at h
            refine am_Go.c1 htb (S' := (70, [some (.inr (.inr (some (10, 0)))), some (.inl a1), some (.inl a2), some (.inl a3), none, none, none], [], am_mk r10)) (if_pos hc15) ?_
            refine am_Go.n htb 3 (S' := (75, [some (.inr (.inr (some (10, 0)))), some (.inl a1), some (.inl a2), some (.inl a3), none, none, none], [.inl a1, .inr (.inr (some (59, 0)))], am_mk r10)) rfl ?_
            obtain ⟨hg16, h⟩ := am_ck_some h
            refine am_Go.c1 htb (S' := (76, [some (.inr (.inr (some (10, 0)))), some (.inl a1), some (.inl a2), some (.inl a3), none, none, none], [.inl (r10.1 59 0 a1.toNatClampNeg)], am_mk r10)) (if_neg hg16) ?_
            cases h
            exact am_Go.rt htb rfl
          · rw [if_neg hc15] at h
            refine am_Go.c1 htb (S' := (66, [some (.inr (.inr (some (10, 0)))), some (.inl a1), some (.inl a2), some (.inl a3), none, none, none], [], am_mk r10)) (if_neg hc15) ?_
            refine am_Go.n htb 2 (S' := (76, [some (.inr (.inr (some (10, 0)))), some (.inl a1), some (.inl a2), some (.inl a3), none, none, none], [.inl (-1)], am_mk r10)) rfl ?_
            cases h
            exact am_Go.rt htb rfl
        · rw [if_neg hc13] at h
          refine am_Go.c1 htb (S' := (49, [some (.inr (.inr (some (10, 0)))), some (.inl a1), some (.inl a2), some (.inl a3), none, none, none], [], am_mk r10)) (if_neg hc13) ?_
          refine am_Go.n htb 2 (S' := (51, [some (.inr (.inr (some (10, 0)))), some (.inl a1), some (.inl a2), some (.inl a3), none, none, none], [.inl (-1), .inl a3], am_mk r10)) rfl ?_
          by_cases hc17 : a3 ≠ (-1 : Int32)
          · rw [if_pos hc17] at h
            refine am_Go.c1 htb (S' := (77, [some (.inr (.inr (some (10, 0)))), some (.inl a1), some (.inl a2), some (.inl a3), none, none, none], [], am_mk r10)) (if_pos hc17) ?_
            refine am_Go.n htb 4 (S' := (83, [some (.inr (.inr (some (10, 0)))), some (.inl a1), some (.inl a2), some (.inl a3), none, none, none], [.inl a1, .inr (.inr (some (59, 0))), .inl a3], am_mk r10)) rfl ?_
            obtain ⟨hg18, h⟩ := am_ck_some h
            refine am_Go.c1 htb (S' := (84, [some (.inr (.inr (some (10, 0)))), some (.inl a1), some (.inl a2), some (.inl a3), none, none, none], [.inl (r10.1 59 0 a1.toNatClampNeg), .inl a3], am_mk r10)) (if_neg hg18) ?_
            by_cases hc19 : a3 < (r10.1 59 0 a1.toNatClampNeg)
            · rw [if_pos hc19] at h
              refine am_Go.c1 htb (S' := (89, [some (.inr (.inr (some (10, 0)))), some (.inl a1), some (.inl a2), some (.inl a3), none, none, none], [], am_mk r10)) (if_pos hc19) ?_
              refine am_Go.n htb 4 (S' := (95, [some (.inr (.inr (some (10, 0)))), some (.inl a1), some (.inl a2), some (.inl a3), some (.inl a1), some (.inl 0), none], [], am_mk r10)) rfl ?_
              refine am_Go.fg (L0 := [some (.inr (.inr (some (10, 0)))), none, none, some (.inl a3), some (.inl a1), some (.inl 0), none]) (by exact ⟨rfl, ⟨rfl, ⟨rfl, ⟨rfl, trivial⟩⟩⟩⟩) ?_
              obtain ⟨q28, h29, h⟩ := am_bd h
              refine lt_X10_chain_95 _ hd (h := h29) (hk := ?_)
              refine am_Go.n htb 1 (S' := (157, [some (.inr (.inr (some (10, 0)))), none, none, some (.inl a3), some (.inl q28), none, none], [.inl q28], am_mk r10)) rfl ?_
              cases h
              exact am_Go.rt htb rfl
            · rw [if_neg hc19] at h
              refine am_Go.c1 htb (S' := (87, [some (.inr (.inr (some (10, 0)))), some (.inl a1), some (.inl a2), some (.inl a3), none, none, none], [], am_mk r10)) (if_neg hc19) ?_
              refine am_Go.n htb 1 (S' := (88, [some (.inr (.inr (some (10, 0)))), some (.inl a1), some (.inl a2), some (.inl a3), none, none, none], [.inl (-1)], am_mk r10)) rfl ?_
              cases h
              exact am_Go.rt htb rfl
          · rw [if_neg hc17] at h
            refine am_Go.c1 htb (S' := (54, [some (.inr (.inr (some (10, 0)))), some (.inl a1), some (.inl a2), some (.inl a3), none, none, none], [], am_mk r10)) (if_neg hc17) ?_
            refine am_Go.n htb 3 (S' := (59, [some (.inr (.inr (some (10, 0)))), some (.inl a1), some (.inl a2), some (.inl a3), none, none, none], [.inl a1, .inr (.inr (some (59, 0)))], am_mk r10)) rfl ?_
            obtain ⟨hg30, h⟩ := am_ck_some h
            refine am_Go.c1 htb (S' := (60, [some (.inr (.inr (some (10, 0)))), some (.inl a1), some (.inl a2), some (.inl a3), none, none, none], [.inl (r10.1 59 0 a1.toNatClampNeg)], am_mk r10)) (if_neg hg30) ?_
            refine am_Go.n htb 1 (S' := (63, [some (.inr (.inr (some (10, 0)))), some (.inl a1), some (.inl a2), some (.inl a3), none, none, none], [.inl 100000000, .inl (r10.1 59 0 a1.toNatClampNeg)], am_mk r10)) rfl ?_
            by_cases hc31 : (r10.1 59 0 a1.toNatClampNeg) ≠ (100000000 : Int32)
            · rw [if_pos hc31] at h
              refine am_Go.c1 htb (S' := (70, [some (.inr (.inr (some (10, 0)))), some (.inl a1), some (.inl a2), some (.inl a3), none, none, none], [], am_mk r10)) (if_pos hc31) ?_
              refine am_Go.n htb 3 (S' := (75, [some (.inr (.inr (some (10, 0)))), some (.inl a1), some (.inl a2), some (.inl a3), none, none, none], [.inl a1, .inr (.inr (some (59, 0)))], am_mk r10)) rfl ?_
              obtain ⟨hg32, h⟩ := am_ck_some h
              refine am_Go.c1 htb (S' := (76, [some (.inr (.inr (some (10, 0)))), some (.inl a1), some (.inl a2), some (.inl a3), none, none, none], [.inl (r10.1 59 0 a1.toNatClampNeg)], am_mk r10)) (if_neg hg32) ?_
              cases h
              exact am_Go.rt htb rfl
            · rw [if_neg hc31] at h
              refine am_Go.c1 htb (S' := (66, [some (.inr (.inr (some (10, 0)))), some (.inl a1), some (.inl a2), some (.inl a3), none, none, none], [], am_mk r10)) (if_neg hc31) ?_
              refine am_Go.n htb 2 (S' := (76, [some (.inr (.inr (some (10, 0)))), some (.inl a1), some (.inl a2), some (.inl a3), none, none, none], [.inl (-1)], am_mk r10)) rfl ?_
              cases h
              exact am_Go.rt htb rfl
      · rw [if_neg hc7] at h
        refine am_Go.c1 htb (S' := (26, [some (.inr (.inr (some (10, 0)))), some (.inl a1), some (.inl a2), some (.inl a3), none, none, none], [], am_mk (am_si m 10 0 0 0))) (if_neg hc7) ?_
        refine am_Go.n htb 1 (S' := (27, [some (.inr (.inr (some (10, 0)))), some (.inl a1), some (.inl a2), some (.inl a3), none, none, none], [.inl (-1)], am_mk (am_si m 10 0 0 0))) rfl ?_
        cases h
        exact am_Go.rt htb rfl
-- X10_circlesNow
def lp_X10_circlesNow_45 : Nat → Int32 → Int32 → Int32 → Int32 → Int32 → Int32 → am_m → Option (Int32)
  | 0, _, _, _, _, _, _, _ => none
  | n + 1, x1, x2, x3, x4, x5, x6, m =>
  (if (m.1 44 0 0) ≤ x6 then some x4 else (fn_X10_is x4 x6 m).bind fun r7 => (if r7 = 0 then some 0 else (fn_X10_sitsWith x6 m).bind fun r10 => some r10).bind fun q12 => lp_X10_circlesNow_45 n x1 x2 x3 (x4 ||| q12) x5 (x6 + 1) m)
set_option maxRecDepth 100000 in
theorem lt_X10_circlesNow_45 (d : Nat) (hd : 2 ≤ d + 1) {r : Option am_V} {M' : am_M} {kc ks : Nat} {n : Nat} {x1 : Int32} {x2 : Int32} {x3 : Int32} {x4 : Int32} {x5 : Int32} {x6 : Int32} {m : am_m} {t : Int32} (h : lp_X10_circlesNow_45 n x1 x2 x3 x4 x5 x6 m = some t) (hk : am_Go d 268 (87, [some (.inr (.inr (some (10, 0)))), some (.inl x1), some (.inl x2), some (.inl x3), some (.inl t), some (.inl x5), none], [], am_mk m) r M' kc ks) : am_Go d 268 (45, [some (.inr (.inr (some (10, 0)))), some (.inl x1), some (.inl x2), some (.inl x3), some (.inl x4), some (.inl x5), some (.inl x6)], [], am_mk m) r M' kc ks := by
  have htb : am_tab 268 = at_268 := rfl
  induction n generalizing x4 x6 with
  | zero => cases h
  | succ n ih =>
    unfold lp_X10_circlesNow_45 at h
    refine am_Go.n htb 5 (S' := (53, [some (.inr (.inr (some (10, 0)))), some (.inl x1), some (.inl x2), some (.inl x3), some (.inl x4), some (.inl x5), some (.inl x6)], [.inl (m.1 44 0 0), .inl x6], am_mk m)) rfl ?_
    by_cases hc6 : (m.1 44 0 0) ≤ x6
    · rw [if_pos hc6] at h
      refine am_Go.c1 htb (S' := (87, [some (.inr (.inr (some (10, 0)))), some (.inl x1), some (.inl x2), some (.inl x3), some (.inl x4), some (.inl x5), some (.inl x6)], [], am_mk m)) (if_pos hc6) ?_
      cases h
      exact am_Go.fg (by exact ⟨rfl, ⟨rfl, ⟨rfl, ⟨rfl, ⟨rfl, ⟨rfl, trivial⟩⟩⟩⟩⟩⟩) hk
    · rw [if_neg hc6] at h
      refine am_Go.c1 htb (S' := (56, [some (.inr (.inr (some (10, 0)))), some (.inl x1), some (.inl x2), some (.inl x3), some (.inl x4), some (.inl x5), some (.inl x6)], [], am_mk m)) (if_neg hc6) ?_
      refine am_Go.n htb 3 (S' := (62, [some (.inr (.inr (some (10, 0)))), some (.inl x1), some (.inl x2), some (.inl x3), some (.inl x4), some (.inl x5), some (.inl x6)], [.inl x6, .inl x4, .inl x4], am_mk m)) rfl ?_
      obtain ⟨r7, h8, h⟩ := am_bd h
      refine am_Go.cl htb rfl (ex_X10_is d (by omega) x4 x6 m r7 h8) ?_
      show am_Go d 268 (65, [some (.inr (.inr (some (10, 0)))), some (.inl x1), some (.inl x2), some (.inl x3), some (.inl x4), some (.inl x5), some (.inl x6)], [.inl r7, .inl x4], am_mk m) _ _ _ _
      obtain ⟨q12, h13, h⟩ := am_bd h
      refine am_Go.cut (S := (78, [some (.inr (.inr (some (10, 0)))), some (.inl x1), some (.inl x2), some (.inl x3), some (.inl x4), some (.inl x5), some (.inl x6)], [.inl q12, .inl x4], am_mk m)) ?_ (fun key => ?_)
      · refine am_Go.n htb 4 (S' := (45, [some (.inr (.inr (some (10, 0)))), some (.inl x1), some (.inl x2), some (.inl x3), some (.inl (x4 ||| q12)), some (.inl x5), some (.inl (x6 + 1))], [], am_mk m)) rfl ?_
        first | exact ih h | exact ih h hk
      · have h := h13
        by_cases hc9 : r7 = 0
        · rw [if_pos hc9] at h
          refine am_Go.c1 htb (S' := (77, [some (.inr (.inr (some (10, 0)))), some (.inl x1), some (.inl x2), some (.inl x3), some (.inl x4), some (.inl x5), some (.inl x6)], [.inl x4], am_mk m)) (if_pos hc9) ?_
          refine am_Go.n htb 1 (S' := (78, [some (.inr (.inr (some (10, 0)))), some (.inl x1), some (.inl x2), some (.inl x3), some (.inl x4), some (.inl x5), some (.inl x6)], [.inl 0, .inl x4], am_mk m)) rfl ?_
          cases h
          exact am_Go.fg (by exact ⟨rfl, ⟨rfl, ⟨rfl, ⟨rfl, ⟨rfl, ⟨rfl, ⟨rfl, trivial⟩⟩⟩⟩⟩⟩⟩) key
        · rw [if_neg hc9] at h
          refine am_Go.c1 htb (S' := (68, [some (.inr (.inr (some (10, 0)))), some (.inl x1), some (.inl x2), some (.inl x3), some (.inl x4), some (.inl x5), some (.inl x6)], [.inl x4], am_mk m)) (if_neg hc9) ?_
          refine am_Go.n htb 2 (S' := (71, [some (.inr (.inr (some (10, 0)))), some (.inl x1), some (.inl x2), some (.inl x3), some (.inl x4), some (.inl x5), some (.inl x6)], [.inl x6, .inr (.inr (some (10, 0))), .inl x4], am_mk m)) rfl ?_
          obtain ⟨r10, h11, h⟩ := am_bd h
          refine am_Go.cl htb rfl (ex_X10_sitsWith d (by omega) x6 m r10 h11) ?_
          show am_Go d 268 (74, [some (.inr (.inr (some (10, 0)))), some (.inl x1), some (.inl x2), some (.inl x3), some (.inl x4), some (.inl x5), some (.inl x6)], [.inl r10, .inl x4], am_mk m) _ _ _ _
          refine am_Go.n htb 1 (S' := (78, [some (.inr (.inr (some (10, 0)))), some (.inl x1), some (.inl x2), some (.inl x3), some (.inl x4), some (.inl x5), some (.inl x6)], [.inl r10, .inl x4], am_mk m)) rfl ?_
          cases h
          exact am_Go.fg (by exact ⟨rfl, ⟨rfl, ⟨rfl, ⟨rfl, ⟨rfl, ⟨rfl, ⟨rfl, trivial⟩⟩⟩⟩⟩⟩⟩) key
def lp_X10_circlesNow_35 : Nat → Int32 → Int32 → Int32 → Int32 → Int32 → am_m → Option (Int32)
  | 0, _, _, _, _, _, _ => none
  | n + 1, x1, x2, x3, x4, x5, m =>
  (if (7 : Int32) ≤ x5 then some x4 else (lp_X10_circlesNow_45 1000000 x1 x2 x3 x4 x5 0 m).bind fun q14 => lp_X10_circlesNow_35 n x1 x2 x3 q14 (x5 + 1) m)
set_option maxRecDepth 100000 in
theorem lt_X10_circlesNow_35 (d : Nat) (hd : 2 ≤ d + 1) {r : Option am_V} {M' : am_M} {kc ks : Nat} {n : Nat} {x1 : Int32} {x2 : Int32} {x3 : Int32} {x4 : Int32} {x5 : Int32} {m : am_m} {t : Int32} (h : lp_X10_circlesNow_35 n x1 x2 x3 x4 x5 m = some t) (hk : am_Go d 268 (93, [some (.inr (.inr (some (10, 0)))), some (.inl x1), some (.inl x2), some (.inl x3), some (.inl t), none, none], [], am_mk m) r M' kc ks) : am_Go d 268 (35, [some (.inr (.inr (some (10, 0)))), some (.inl x1), some (.inl x2), some (.inl x3), some (.inl x4), some (.inl x5), none], [], am_mk m) r M' kc ks := by
  have htb : am_tab 268 = at_268 := rfl
  induction n generalizing x4 x5 with
  | zero => cases h
  | succ n ih =>
    unfold lp_X10_circlesNow_35 at h
    refine am_Go.n htb 2 (S' := (39, [some (.inr (.inr (some (10, 0)))), some (.inl x1), some (.inl x2), some (.inl x3), some (.inl x4), some (.inl x5), none], [.inl 7, .inl x5], am_mk m)) rfl ?_
    by_cases hc5 : (7 : Int32) ≤ x5
    · rw [if_pos hc5] at h
      refine am_Go.c1 htb (S' := (93, [some (.inr (.inr (some (10, 0)))), some (.inl x1), some (.inl x2), some (.inl x3), some (.inl x4), some (.inl x5), none], [], am_mk m)) (if_pos hc5) ?_
      cases h
      exact am_Go.fg (by exact ⟨rfl, ⟨rfl, ⟨rfl, ⟨rfl, ⟨rfl, trivial⟩⟩⟩⟩⟩) hk
    · rw [if_neg hc5] at h
      refine am_Go.c1 htb (S' := (42, [some (.inr (.inr (some (10, 0)))), some (.inl x1), some (.inl x2), some (.inl x3), some (.inl x4), some (.inl x5), none], [], am_mk m)) (if_neg hc5) ?_
      refine am_Go.n htb 2 (S' := (45, [some (.inr (.inr (some (10, 0)))), some (.inl x1), some (.inl x2), some (.inl x3), some (.inl x4), some (.inl x5), some (.inl 0)], [], am_mk m)) rfl ?_
      obtain ⟨q14, h15, h⟩ := am_bd h
      refine lt_X10_circlesNow_45 _ hd (h := h15) (hk := ?_)
      refine am_Go.n htb 2 (S' := (35, [some (.inr (.inr (some (10, 0)))), some (.inl x1), some (.inl x2), some (.inl x3), some (.inl q14), some (.inl (x5 + 1)), none], [], am_mk m)) rfl ?_
      first | exact ih h | exact ih h hk
def lp_X10_circlesNow_6 : Nat → Int32 → Int32 → Int32 → am_m → Option (Int32)
  | 0, _, _, _, _ => none
  | n + 1, x1, x2, x3, m =>
  (if (m.1 44 0 0) ≤ x3 then some x2 else (fn_X10_is x1 x3 m).bind fun r2 => (if r2 ≠ 0 then some (x1, x2) else (lp_X10_circlesNow_35 1000000 x1 (x2 + 1) x3 ((1 : Int32) <<< (x3 &&& 31)) 0 m).bind fun q16 => some ((x1 ||| q16), (x2 + 1))).bind fun q18 => lp_X10_circlesNow_6 n q18.1 q18.2 (x3 + 1) m)
set_option maxRecDepth 100000 in
theorem lt_X10_circlesNow_6 (d : Nat) (hd : 2 ≤ d + 1) {r : Option am_V} {M' : am_M} {kc ks : Nat} {n : Nat} {x1 : Int32} {x2 : Int32} {x3 : Int32} {m : am_m} {t : Int32} (h : lp_X10_circlesNow_6 n x1 x2 x3 m = some t) (hk : am_Go d 268 (104, [some (.inr (.inr (some (10, 0)))), none, some (.inl t), none, none, none, none], [], am_mk m) r M' kc ks) : am_Go d 268 (6, [some (.inr (.inr (some (10, 0)))), some (.inl x1), some (.inl x2), some (.inl x3), none, none, none], [], am_mk m) r M' kc ks := by
  have htb : am_tab 268 = at_268 := rfl
  induction n generalizing x1 x2 x3 with
  | zero => cases h
  | succ n ih =>
    unfold lp_X10_circlesNow_6 at h
    refine am_Go.n htb 5 (S' := (13, [some (.inr (.inr (some (10, 0)))), some (.inl x1), some (.inl x2), some (.inl x3), none, none, none], [.inl (m.1 44 0 0), .inl x3], am_mk m)) rfl ?_
    by_cases hc1 : (m.1 44 0 0) ≤ x3
    · rw [if_pos hc1] at h
      refine am_Go.c1 htb (S' := (104, [some (.inr (.inr (some (10, 0)))), some (.inl x1), some (.inl x2), some (.inl x3), none, none, none], [], am_mk m)) (if_pos hc1) ?_
      cases h
      exact am_Go.fg (by exact ⟨rfl, ⟨rfl, trivial⟩⟩) hk
    · rw [if_neg hc1] at h
      refine am_Go.c1 htb (S' := (16, [some (.inr (.inr (some (10, 0)))), some (.inl x1), some (.inl x2), some (.inl x3), none, none, none], [], am_mk m)) (if_neg hc1) ?_
      refine am_Go.n htb 2 (S' := (18, [some (.inr (.inr (some (10, 0)))), some (.inl x1), some (.inl x2), some (.inl x3), none, none, none], [.inl x3, .inl x1], am_mk m)) rfl ?_
      obtain ⟨r2, h3, h⟩ := am_bd h
      refine am_Go.cl htb rfl (ex_X10_is d (by omega) x1 x3 m r2 h3) ?_
      show am_Go d 268 (21, [some (.inr (.inr (some (10, 0)))), some (.inl x1), some (.inl x2), some (.inl x3), none, none, none], [.inl r2], am_mk m) _ _ _ _
      obtain ⟨q18, h19, h⟩ := am_bd h
      refine am_Go.cut (S := (98, [some (.inr (.inr (some (10, 0)))), some (.inl q18.1), some (.inl q18.2), some (.inl x3), none, none, none], [], am_mk m)) ?_ (fun key => ?_)
      · refine am_Go.n htb 2 (S' := (6, [some (.inr (.inr (some (10, 0)))), some (.inl q18.1), some (.inl q18.2), some (.inl (x3 + 1)), none, none, none], [], am_mk m)) rfl ?_
        first | exact ih h | exact ih h hk
      · have h := h19
        by_cases hc4 : r2 ≠ 0
        · rw [if_pos hc4] at h
          refine am_Go.c1 htb (S' := (98, [some (.inr (.inr (some (10, 0)))), some (.inl x1), some (.inl x2), some (.inl x3), none, none, none], [], am_mk m)) (if_pos hc4) ?_
          cases h
          exact am_Go.fg (by exact ⟨rfl, ⟨rfl, ⟨rfl, ⟨rfl, trivial⟩⟩⟩⟩) key
        · rw [if_neg hc4] at h
          refine am_Go.c1 htb (S' := (24, [some (.inr (.inr (some (10, 0)))), some (.inl x1), some (.inl x2), some (.inl x3), none, none, none], [], am_mk m)) (if_neg hc4) ?_
          refine am_Go.n htb 7 (S' := (35, [some (.inr (.inr (some (10, 0)))), some (.inl x1), some (.inl (x2 + 1)), some (.inl x3), some (.inl ((1 : Int32) <<< (x3 &&& 31))), some (.inl 0), none], [], am_mk m)) rfl ?_
          obtain ⟨q16, h17, h⟩ := am_bd h
          refine lt_X10_circlesNow_35 _ hd (h := h17) (hk := ?_)
          refine am_Go.n htb 4 (S' := (98, [some (.inr (.inr (some (10, 0)))), some (.inl (x1 ||| q16)), some (.inl (x2 + 1)), some (.inl x3), some (.inl q16), none, none], [], am_mk m)) rfl ?_
          cases h
          exact am_Go.fg (by exact ⟨rfl, ⟨rfl, ⟨rfl, ⟨rfl, trivial⟩⟩⟩⟩) key
def fn_X10_circlesNow  (m : am_m) : Option (Int32) :=
  (lp_X10_circlesNow_6 1000000 0 0 0 m).bind fun q20 => some q20
set_option maxRecDepth 100000 in
theorem ex_X10_circlesNow (d : Nat) (hd : 2 ≤ d)  (m : am_m) (t : Int32) (h : fn_X10_circlesNow  m = some t) : am_Ex am_cod d 268 [.inr (.inr (some (10, 0)))] (am_mk m) (some (.inl t)) (am_mk m) 0 0 := by
  obtain ⟨d, rfl⟩ : ∃ e, d = e + 1 := ⟨d - 1, by omega⟩
  have htb : am_tab 268 = at_268 := rfl
  refine ⟨Nat.le_of_ble_eq_true rfl, ?_⟩
  unfold fn_X10_circlesNow at h
  show am_Go d 268 (0, [some (.inr (.inr (some (10, 0)))), none, none, none, none, none, none], [], am_mk m) _ _ 0 0
  refine am_Go.n htb 6 (S' := (6, [some (.inr (.inr (some (10, 0)))), some (.inl 0), some (.inl 0), some (.inl 0), none, none, none], [], am_mk m)) rfl ?_
  obtain ⟨q20, h21, h⟩ := am_bd h
  refine lt_X10_circlesNow_6 _ hd (h := h21) (hk := ?_)
  refine am_Go.n htb 1 (S' := (105, [some (.inr (.inr (some (10, 0)))), none, some (.inl q20), none, none, none, none], [.inl q20], am_mk m)) rfl ?_
  cases h
  exact am_Go.rt htb rfl
-- X10_circles
def fn_X10_circles  (m : am_m) : Option (Int32 × am_m) :=
  (fn_X10_layMay  (am_si m 10 0 0 0)).bind fun r1 => (fn_X10_circlesNow  r1).bind fun r3 => some (r3, r1)
set_option maxRecDepth 100000 in
theorem ex_X10_circles (d : Nat) (hd : 9 ≤ d)  (m : am_m) (t : Int32 × am_m) (h : fn_X10_circles  m = some t) : am_Ex am_cod d 269 [.inr (.inr (some (10, 0)))] (am_mk m) (some (.inl t.1)) (am_mk t.2) 0 0 := by
  obtain ⟨d, rfl⟩ : ∃ e, d = e + 1 := ⟨d - 1, by omega⟩
  have htb : am_tab 269 = at_269 := rfl
  refine ⟨Nat.le_of_ble_eq_true rfl, ?_⟩
  unfold fn_X10_circles at h
  show am_Go d 269 (0, [some (.inr (.inr (some (10, 0))))], [], am_mk m) _ _ 0 0
  refine am_Go.n htb 4 (S' := (6, [some (.inr (.inr (some (10, 0))))], [.inr (.inr (some (10, 0)))], am_mk (am_si m 10 0 0 0))) rfl ?_
  obtain ⟨r1, h2, h⟩ := am_bd h
  refine am_Go.cl htb rfl (ex_X10_layMay d (by omega)  (am_si m 10 0 0 0) r1 h2) ?_
  show am_Go d 269 (9, [some (.inr (.inr (some (10, 0))))], [], am_mk r1) _ _ _ _
  refine am_Go.n htb 1 (S' := (10, [some (.inr (.inr (some (10, 0))))], [.inr (.inr (some (10, 0)))], am_mk r1)) rfl ?_
  obtain ⟨r3, h4, h⟩ := am_bd h
  refine am_Go.cl htb rfl (ex_X10_circlesNow d (by omega)  r1 r3 h4) ?_
  show am_Go d 269 (13, [some (.inr (.inr (some (10, 0))))], [.inl r3], am_mk r1) _ _ _ _
  cases h
  exact am_Go.rt htb rfl
-- X10_isBridge
def fn_X10_isBridge (a1 : Int32) (a2 : Int32) (m : am_m) : Option (Int32 × am_m) :=
  (fn_X10_circlesNow  m).bind fun r1 => am_ck (((7 : Int32) * a1) + a2) 49 (am_ck (((7 : Int32) * a2) + a1) 49 ((fn_X10_circlesNow  (am_si (am_si m 92 0 (((7 : Int32) * a1) + a2).toNatClampNeg 0) 92 0 (((7 : Int32) * a2) + a1).toNatClampNeg 0)).bind fun r7 => am_ck (((7 : Int32) * a1) + a2) 49 (am_ck (((7 : Int32) * a2) + a1) 49 (am_gd ((if r7 ≤ r1 then (0 : Int32) else (1 : Int32)) = 0 ∨ (if r7 ≤ r1 then (0 : Int32) else (1 : Int32)) = 1) (some ((if r7 ≤ r1 then (0 : Int32) else (1 : Int32)), am_si (am_si (am_si (am_si m 92 0 (((7 : Int32) * a1) + a2).toNatClampNeg 0) 92 0 (((7 : Int32) * a2) + a1).toNatClampNeg 0) 92 0 (((7 : Int32) * a1) + a2).toNatClampNeg 1) 92 0 (((7 : Int32) * a2) + a1).toNatClampNeg 1))))))
set_option maxRecDepth 100000 in
theorem ex_X10_isBridge (d : Nat) (hd : 3 ≤ d) (a1 : Int32) (a2 : Int32) (m : am_m) (t : Int32 × am_m) (h : fn_X10_isBridge a1 a2 m = some t) : am_Ex am_cod d 270 [.inr (.inr (some (10, 0))), .inl a1, .inl a2] (am_mk m) (some (.inl t.1)) (am_mk t.2) 0 0 := by
  obtain ⟨d, rfl⟩ : ∃ e, d = e + 1 := ⟨d - 1, by omega⟩
  have htb : am_tab 270 = at_270 := rfl
  refine ⟨Nat.le_of_ble_eq_true rfl, ?_⟩
  unfold fn_X10_isBridge at h
  show am_Go d 270 (0, [some (.inr (.inr (some (10, 0)))), some (.inl a1), some (.inl a2), none, none], [], am_mk m) _ _ 0 0
  refine am_Go.n htb 1 (S' := (1, [some (.inr (.inr (some (10, 0)))), some (.inl a1), some (.inl a2), none, none], [.inr (.inr (some (10, 0)))], am_mk m)) rfl ?_
  obtain ⟨r1, h2, h⟩ := am_bd h
  refine am_Go.cl htb rfl (ex_X10_circlesNow d (by omega)  m r1 h2) ?_
  show am_Go d 270 (4, [some (.inr (.inr (some (10, 0)))), some (.inl a1), some (.inl a2), none, none], [.inl r1], am_mk m) _ _ _ _
  refine am_Go.n htb 9 (S' := (16, [some (.inr (.inr (some (10, 0)))), some (.inl a1), some (.inl a2), some (.inl r1), none], [.inl 0, .inl (((7 : Int32) * a1) + a2), .inr (.inr (some (92, 0)))], am_mk m)) rfl ?_
  obtain ⟨hg3, h⟩ := am_ck_some h
  refine am_Go.o htb (am_o_zast) rfl (S' := (17, [some (.inr (.inr (some (10, 0)))), some (.inl a1), some (.inl a2), some (.inl r1), none], [], am_mk (am_si m 92 0 (((7 : Int32) * a1) + a2).toNatClampNeg 0))) (am_zs (by decide) (by decide) hg3) ?_
  refine am_Go.n htb 8 (S' := (28, [some (.inr (.inr (some (10, 0)))), some (.inl a1), some (.inl a2), some (.inl r1), none], [.inl 0, .inl (((7 : Int32) * a2) + a1), .inr (.inr (some (92, 0)))], am_mk (am_si m 92 0 (((7 : Int32) * a1) + a2).toNatClampNeg 0))) rfl ?_
  obtain ⟨hg5, h⟩ := am_ck_some h
  refine am_Go.o htb (am_o_zast) rfl (S' := (29, [some (.inr (.inr (some (10, 0)))), some (.inl a1), some (.inl a2), some (.inl r1), none], [], am_mk (am_si (am_si m 92 0 (((7 : Int32) * a1) + a2).toNatClampNeg 0) 92 0 (((7 : Int32) * a2) + a1).toNatClampNeg 0))) (am_zs (by decide) (by decide) hg5) ?_
  refine am_Go.n htb 1 (S' := (30, [some (.inr (.inr (some (10, 0)))), some (.inl a1), some (.inl a2), some (.inl r1), none], [.inr (.inr (some (10, 0)))], am_mk (am_si (am_si m 92 0 (((7 : Int32) * a1) + a2).toNatClampNeg 0) 92 0 (((7 : Int32) * a2) + a1).toNatClampNeg 0))) rfl ?_
  obtain ⟨r7, h8, h⟩ := am_bd h
  refine am_Go.cl htb rfl (ex_X10_circlesNow d (by omega)  (am_si (am_si m 92 0 (((7 : Int32) * a1) + a2).toNatClampNeg 0) 92 0 (((7 : Int32) * a2) + a1).toNatClampNeg 0) r7 h8) ?_
  show am_Go d 270 (33, [some (.inr (.inr (some (10, 0)))), some (.inl a1), some (.inl a2), some (.inl r1), none], [.inl r7], am_mk (am_si (am_si m 92 0 (((7 : Int32) * a1) + a2).toNatClampNeg 0) 92 0 (((7 : Int32) * a2) + a1).toNatClampNeg 0)) _ _ _ _
  refine am_Go.n htb 1 (S' := (34, [some (.inr (.inr (some (10, 0)))), some (.inl a1), some (.inl a2), some (.inl r1), none], [.inl r1, .inl r7], am_mk (am_si (am_si m 92 0 (((7 : Int32) * a1) + a2).toNatClampNeg 0) 92 0 (((7 : Int32) * a2) + a1).toNatClampNeg 0))) rfl ?_
  refine am_Go.cut (S := (42, [some (.inr (.inr (some (10, 0)))), some (.inl a1), some (.inl a2), some (.inl r1), none], [.inl (if r7 ≤ r1 then (0 : Int32) else (1 : Int32))], am_mk (am_si (am_si m 92 0 (((7 : Int32) * a1) + a2).toNatClampNeg 0) 92 0 (((7 : Int32) * a2) + a1).toNatClampNeg 0))) ?_ (fun key => ?_)
  · refine am_Go.n htb 9 (S' := (55, [some (.inr (.inr (some (10, 0)))), some (.inl a1), some (.inl a2), some (.inl r1), some (.inl (if r7 ≤ r1 then (0 : Int32) else (1 : Int32)))], [.inl 1, .inl (((7 : Int32) * a1) + a2), .inr (.inr (some (92, 0)))], am_mk (am_si (am_si m 92 0 (((7 : Int32) * a1) + a2).toNatClampNeg 0) 92 0 (((7 : Int32) * a2) + a1).toNatClampNeg 0))) rfl ?_
    obtain ⟨hg10, h⟩ := am_ck_some h
    refine am_Go.o htb (am_o_zast) rfl (S' := (56, [some (.inr (.inr (some (10, 0)))), some (.inl a1), some (.inl a2), some (.inl r1), some (.inl (if r7 ≤ r1 then (0 : Int32) else (1 : Int32)))], [], am_mk (am_si (am_si (am_si m 92 0 (((7 : Int32) * a1) + a2).toNatClampNeg 0) 92 0 (((7 : Int32) * a2) + a1).toNatClampNeg 0) 92 0 (((7 : Int32) * a1) + a2).toNatClampNeg 1))) (am_zs (by decide) (by decide) hg10) ?_
    refine am_Go.n htb 8 (S' := (67, [some (.inr (.inr (some (10, 0)))), some (.inl a1), some (.inl a2), some (.inl r1), some (.inl (if r7 ≤ r1 then (0 : Int32) else (1 : Int32)))], [.inl 1, .inl (((7 : Int32) * a2) + a1), .inr (.inr (some (92, 0)))], am_mk (am_si (am_si (am_si m 92 0 (((7 : Int32) * a1) + a2).toNatClampNeg 0) 92 0 (((7 : Int32) * a2) + a1).toNatClampNeg 0) 92 0 (((7 : Int32) * a1) + a2).toNatClampNeg 1))) rfl ?_
    obtain ⟨hg12, h⟩ := am_ck_some h
    refine am_Go.o htb (am_o_zast) rfl (S' := (68, [some (.inr (.inr (some (10, 0)))), some (.inl a1), some (.inl a2), some (.inl r1), some (.inl (if r7 ≤ r1 then (0 : Int32) else (1 : Int32)))], [], am_mk (am_si (am_si (am_si (am_si m 92 0 (((7 : Int32) * a1) + a2).toNatClampNeg 0) 92 0 (((7 : Int32) * a2) + a1).toNatClampNeg 0) 92 0 (((7 : Int32) * a1) + a2).toNatClampNeg 1) 92 0 (((7 : Int32) * a2) + a1).toNatClampNeg 1))) (am_zs (by decide) (by decide) hg12) ?_
    refine am_Go.n htb 1 (S' := (70, [some (.inr (.inr (some (10, 0)))), some (.inl a1), some (.inl a2), some (.inl r1), some (.inl (if r7 ≤ r1 then (0 : Int32) else (1 : Int32)))], [.inl (if r7 ≤ r1 then (0 : Int32) else (1 : Int32))], am_mk (am_si (am_si (am_si (am_si m 92 0 (((7 : Int32) * a1) + a2).toNatClampNeg 0) 92 0 (((7 : Int32) * a2) + a1).toNatClampNeg 0) 92 0 (((7 : Int32) * a1) + a2).toNatClampNeg 1) 92 0 (((7 : Int32) * a2) + a1).toNatClampNeg 1))) rfl ?_
    obtain ⟨hz14, h⟩ := am_gd_some h
    cases h
    exact am_Go.rt htb (if_pos hz14)
  · by_cases hc9 : r7 ≤ r1
    · refine am_Go.c1 htb (S' := (41, [some (.inr (.inr (some (10, 0)))), some (.inl a1), some (.inl a2), some (.inl r1), none], [], am_mk (am_si (am_si m 92 0 (((7 : Int32) * a1) + a2).toNatClampNeg 0) 92 0 (((7 : Int32) * a2) + a1).toNatClampNeg 0))) (if_pos hc9) ?_
      refine am_Go.n htb 1 (S' := (42, [some (.inr (.inr (some (10, 0)))), some (.inl a1), some (.inl a2), some (.inl r1), none], [.inl 0], am_mk (am_si (am_si m 92 0 (((7 : Int32) * a1) + a2).toNatClampNeg 0) 92 0 (((7 : Int32) * a2) + a1).toNatClampNeg 0))) rfl ?_
      simp only [if_pos hc9] at key
      exact am_Go.fg (by exact ⟨rfl, ⟨rfl, ⟨rfl, ⟨rfl, trivial⟩⟩⟩⟩) key
    · refine am_Go.c1 htb (S' := (37, [some (.inr (.inr (some (10, 0)))), some (.inl a1), some (.inl a2), some (.inl r1), none], [], am_mk (am_si (am_si m 92 0 (((7 : Int32) * a1) + a2).toNatClampNeg 0) 92 0 (((7 : Int32) * a2) + a1).toNatClampNeg 0))) (if_neg hc9) ?_
      refine am_Go.n htb 2 (S' := (42, [some (.inr (.inr (some (10, 0)))), some (.inl a1), some (.inl a2), some (.inl r1), none], [.inl 1], am_mk (am_si (am_si m 92 0 (((7 : Int32) * a1) + a2).toNatClampNeg 0) 92 0 (((7 : Int32) * a2) + a1).toNatClampNeg 0))) rfl ?_
      simp only [if_neg hc9] at key
      exact am_Go.fg (by exact ⟨rfl, ⟨rfl, ⟨rfl, ⟨rfl, trivial⟩⟩⟩⟩) key
-- X10_bridges
def lp_X10_bridges_33 : Nat → Int32 → Int32 → Int32 → Int32 → Int32 → am_m → Option (Int32 × Int32 × am_m)
  | 0, _, _, _, _, _, _ => none
  | n + 1, x1, x2, x3, x4, x5, m =>
  (if (m.1 44 0 0) ≤ x5 then some (x2, x3, m) else am_ck (((7 : Int32) * x4) + x5) 49 ((if (m.1 92 0 (((7 : Int32) * x4) + x5).toNatClampNeg) = 0 then some (x2, x3, m) else (fn_X10_isBridge x4 x5 m).bind fun r7 => (if r7.1 = 0 then some (x2, x3, r7.2) else some ((x2 + 1), (if x2 ≠ x1 then x3 else (((10 : Int32) * x4) + x5)), r7.2))).bind fun q11 => lp_X10_bridges_33 n x1 q11.1 q11.2.1 x4 (x5 + 1) q11.2.2))
set_option maxRecDepth 100000 in
theorem lt_X10_bridges_33 (d : Nat) (hd : 9 ≤ d + 1) {r : Option am_V} {M' : am_M} {kc ks : Nat} {n : Nat} {x1 : Int32} {x2 : Int32} {x3 : Int32} {x4 : Int32} {x5 : Int32} {m : am_m} {t : Int32 × Int32 × am_m} (h : lp_X10_bridges_33 n x1 x2 x3 x4 x5 m = some t) (hk : am_Go d 271 (98, [some (.inr (.inr (some (10, 0)))), some (.inl x1), some (.inl t.1), some (.inl t.2.1), some (.inl x4), none], [], am_mk t.2.2) r M' kc ks) : am_Go d 271 (33, [some (.inr (.inr (some (10, 0)))), some (.inl x1), some (.inl x2), some (.inl x3), some (.inl x4), some (.inl x5)], [], am_mk m) r M' kc ks := by
  have htb : am_tab 271 = at_271 := rfl
  induction n generalizing x2 x3 x5 m with
  | zero => cases h
  | succ n ih =>
    unfold lp_X10_bridges_33 at h
    refine am_Go.n htb 5 (S' := (41, [some (.inr (.inr (some (10, 0)))), some (.inl x1), some (.inl x2), some (.inl x3), some (.inl x4), some (.inl x5)], [.inl (m.1 44 0 0), .inl x5], am_mk m)) rfl ?_
    by_cases hc4 : (m.1 44 0 0) ≤ x5
    · rw [if_pos hc4] at h
      refine am_Go.c1 htb (S' := (98, [some (.inr (.inr (some (10, 0)))), some (.inl x1), some (.inl x2), some (.inl x3), some (.inl x4), some (.inl x5)], [], am_mk m)) (if_pos hc4) ?_
      cases h
      exact am_Go.fg (by exact ⟨rfl, ⟨rfl, ⟨rfl, ⟨rfl, ⟨rfl, trivial⟩⟩⟩⟩⟩) hk
    · rw [if_neg hc4] at h
      refine am_Go.c1 htb (S' := (44, [some (.inr (.inr (some (10, 0)))), some (.inl x1), some (.inl x2), some (.inl x3), some (.inl x4), some (.inl x5)], [], am_mk m)) (if_neg hc4) ?_
      refine am_Go.n htb 7 (S' := (56, [some (.inr (.inr (some (10, 0)))), some (.inl x1), some (.inl x2), some (.inl x3), some (.inl x4), some (.inl x5)], [.inl (((7 : Int32) * x4) + x5), .inr (.inr (some (92, 0)))], am_mk m)) rfl ?_
      obtain ⟨hg5, h⟩ := am_ck_some h
      refine am_Go.c1 htb (S' := (57, [some (.inr (.inr (some (10, 0)))), some (.inl x1), some (.inl x2), some (.inl x3), some (.inl x4), some (.inl x5)], [.inl (m.1 92 0 (((7 : Int32) * x4) + x5).toNatClampNeg)], am_mk m)) (if_neg hg5) ?_
      obtain ⟨q11, h12, h⟩ := am_bd h
      refine am_Go.cut (S := (92, [some (.inr (.inr (some (10, 0)))), some (.inl x1), some (.inl q11.1), some (.inl q11.2.1), some (.inl x4), some (.inl x5)], [], am_mk q11.2.2)) ?_ (fun key => ?_)
      · refine am_Go.n htb 2 (S' := (33, [some (.inr (.inr (some (10, 0)))), some (.inl x1), some (.inl q11.1), some (.inl q11.2.1), some (.inl x4), some (.inl (x5 + 1))], [], am_mk q11.2.2)) rfl ?_
        first | exact ih h | exact ih h hk
      · have h := h12
        by_cases hc6 : (m.1 92 0 (((7 : Int32) * x4) + x5).toNatClampNeg) = 0
        · rw [if_pos hc6] at h
          refine am_Go.c1 htb (S' := (92, [some (.inr (.inr (some (10, 0)))), some (.inl x1), some (.inl x2), some (.inl x3), some (.inl x4), some (.inl x5)], [], am_mk m)) (if_pos hc6) ?_
          cases h
          exact am_Go.fg (by exact ⟨rfl, ⟨rfl, ⟨rfl, ⟨rfl, ⟨rfl, ⟨rfl, trivial⟩⟩⟩⟩⟩⟩) key
        · rw [if_neg hc6] at h
          refine am_Go.c1 htb (S' := (60, [some (.inr (.inr (some (10, 0)))), some (.inl x1), some (.inl x2), some (.inl x3), some (.inl x4), some (.inl x5)], [], am_mk m)) (if_neg hc6) ?_
          refine am_Go.n htb 3 (S' := (65, [some (.inr (.inr (some (10, 0)))), some (.inl x1), some (.inl x2), some (.inl x3), some (.inl x4), some (.inl x5)], [.inl x5, .inl x4, .inr (.inr (some (10, 0)))], am_mk m)) rfl ?_
          obtain ⟨r7, h8, h⟩ := am_bd h
          refine am_Go.cl htb rfl (ex_X10_isBridge d (by omega) x4 x5 m r7 h8) ?_
          show am_Go d 271 (68, [some (.inr (.inr (some (10, 0)))), some (.inl x1), some (.inl x2), some (.inl x3), some (.inl x4), some (.inl x5)], [.inl r7.1], am_mk r7.2) _ _ _ _
          by_cases hc9 : r7.1 = 0
          · rw [if_pos hc9] at h
            refine am_Go.c1 htb (S' := (92, [some (.inr (.inr (some (10, 0)))), some (.inl x1), some (.inl x2), some (.inl x3), some (.inl x4), some (.inl x5)], [], am_mk r7.2)) (if_pos hc9) ?_
            cases h
            exact am_Go.fg (by exact ⟨rfl, ⟨rfl, ⟨rfl, ⟨rfl, ⟨rfl, ⟨rfl, trivial⟩⟩⟩⟩⟩⟩) key
          · rw [if_neg hc9] at h
            refine am_Go.c1 htb (S' := (71, [some (.inr (.inr (some (10, 0)))), some (.inl x1), some (.inl x2), some (.inl x3), some (.inl x4), some (.inl x5)], [], am_mk r7.2)) (if_neg hc9) ?_
            refine am_Go.n htb 2 (S' := (73, [some (.inr (.inr (some (10, 0)))), some (.inl x1), some (.inl x2), some (.inl x3), some (.inl x4), some (.inl x5)], [.inl x1, .inl x2], am_mk r7.2)) rfl ?_
            refine am_Go.cut (S := (88, [some (.inr (.inr (some (10, 0)))), some (.inl x1), some (.inl x2), some (.inl x3), some (.inl x4), some (.inl x5)], [.inl (if x2 ≠ x1 then x3 else (((10 : Int32) * x4) + x5))], am_mk r7.2)) ?_ (fun key => ?_)
            · refine am_Go.n htb 2 (S' := (92, [some (.inr (.inr (some (10, 0)))), some (.inl x1), some (.inl (x2 + 1)), some (.inl (if x2 ≠ x1 then x3 else (((10 : Int32) * x4) + x5))), some (.inl x4), some (.inl x5)], [], am_mk r7.2)) rfl ?_
              cases h
              exact am_Go.fg (by exact ⟨rfl, ⟨rfl, ⟨rfl, ⟨rfl, ⟨rfl, ⟨rfl, trivial⟩⟩⟩⟩⟩⟩) key
            · by_cases hc10 : x2 ≠ x1
              · refine am_Go.c1 htb (S' := (87, [some (.inr (.inr (some (10, 0)))), some (.inl x1), some (.inl x2), some (.inl x3), some (.inl x4), some (.inl x5)], [], am_mk r7.2)) (if_pos hc10) ?_
                refine am_Go.n htb 1 (S' := (88, [some (.inr (.inr (some (10, 0)))), some (.inl x1), some (.inl x2), some (.inl x3), some (.inl x4), some (.inl x5)], [.inl x3], am_mk r7.2)) rfl ?_
                simp only [if_pos hc10] at key
                exact am_Go.fg (by exact ⟨rfl, ⟨rfl, ⟨rfl, ⟨rfl, ⟨rfl, ⟨rfl, trivial⟩⟩⟩⟩⟩⟩) key
              · refine am_Go.c1 htb (S' := (76, [some (.inr (.inr (some (10, 0)))), some (.inl x1), some (.inl x2), some (.inl x3), some (.inl x4), some (.inl x5)], [], am_mk r7.2)) (if_neg hc10) ?_
                refine am_Go.n htb 6 (S' := (88, [some (.inr (.inr (some (10, 0)))), some (.inl x1), some (.inl x2), some (.inl x3), some (.inl x4), some (.inl x5)], [.inl (((10 : Int32) * x4) + x5)], am_mk r7.2)) rfl ?_
                simp only [if_neg hc10] at key
                exact am_Go.fg (by exact ⟨rfl, ⟨rfl, ⟨rfl, ⟨rfl, ⟨rfl, ⟨rfl, trivial⟩⟩⟩⟩⟩⟩) key
def lp_X10_bridges_16 : Nat → Int32 → Int32 → Int32 → Int32 → am_m → Option (Int32 × Int32 × am_m)
  | 0, _, _, _, _, _ => none
  | n + 1, x1, x2, x3, x4, m =>
  (if (m.1 44 0 0) ≤ x4 then some (x2, x3, m) else (lp_X10_bridges_33 1000000 x1 x2 x3 x4 (x4 + (1 : Int32)) m).bind fun q13 => lp_X10_bridges_16 n x1 q13.1 q13.2.1 (x4 + 1) q13.2.2)
set_option maxRecDepth 100000 in
theorem lt_X10_bridges_16 (d : Nat) (hd : 9 ≤ d + 1) {r : Option am_V} {M' : am_M} {kc ks : Nat} {n : Nat} {x1 : Int32} {x2 : Int32} {x3 : Int32} {x4 : Int32} {m : am_m} {t : Int32 × Int32 × am_m} (h : lp_X10_bridges_16 n x1 x2 x3 x4 m = some t) (hk : am_Go d 271 (104, [some (.inr (.inr (some (10, 0)))), some (.inl x1), some (.inl t.1), some (.inl t.2.1), none, none], [], am_mk t.2.2) r M' kc ks) : am_Go d 271 (16, [some (.inr (.inr (some (10, 0)))), some (.inl x1), some (.inl x2), some (.inl x3), some (.inl x4), none], [], am_mk m) r M' kc ks := by
  have htb : am_tab 271 = at_271 := rfl
  induction n generalizing x2 x3 x4 m with
  | zero => cases h
  | succ n ih =>
    unfold lp_X10_bridges_16 at h
    refine am_Go.n htb 5 (S' := (24, [some (.inr (.inr (some (10, 0)))), some (.inl x1), some (.inl x2), some (.inl x3), some (.inl x4), none], [.inl (m.1 44 0 0), .inl x4], am_mk m)) rfl ?_
    by_cases hc3 : (m.1 44 0 0) ≤ x4
    · rw [if_pos hc3] at h
      refine am_Go.c1 htb (S' := (104, [some (.inr (.inr (some (10, 0)))), some (.inl x1), some (.inl x2), some (.inl x3), some (.inl x4), none], [], am_mk m)) (if_pos hc3) ?_
      cases h
      exact am_Go.fg (by exact ⟨rfl, ⟨rfl, ⟨rfl, ⟨rfl, trivial⟩⟩⟩⟩) hk
    · rw [if_neg hc3] at h
      refine am_Go.c1 htb (S' := (27, [some (.inr (.inr (some (10, 0)))), some (.inl x1), some (.inl x2), some (.inl x3), some (.inl x4), none], [], am_mk m)) (if_neg hc3) ?_
      refine am_Go.n htb 4 (S' := (33, [some (.inr (.inr (some (10, 0)))), some (.inl x1), some (.inl x2), some (.inl x3), some (.inl x4), some (.inl (x4 + (1 : Int32)))], [], am_mk m)) rfl ?_
      obtain ⟨q13, h14, h⟩ := am_bd h
      refine lt_X10_bridges_33 _ hd (h := h14) (hk := ?_)
      refine am_Go.n htb 2 (S' := (16, [some (.inr (.inr (some (10, 0)))), some (.inl x1), some (.inl q13.1), some (.inl q13.2.1), some (.inl (x4 + 1)), none], [], am_mk q13.2.2)) rfl ?_
      first | exact ih h | exact ih h hk
def fn_X10_bridges (a1 : Int32) (m : am_m) : Option (Int32 × am_m) :=
  (fn_X10_layMay  (am_si m 10 0 0 0)).bind fun r1 => (lp_X10_bridges_16 1000000 a1 0 (-1) 0 r1).bind fun q15 => (if a1 ≠ (-1 : Int32) then some (q15.2.1, q15.2.2) else some (q15.1, q15.2.2))
set_option maxRecDepth 100000 in
theorem ex_X10_bridges (d : Nat) (hd : 9 ≤ d) (a1 : Int32) (m : am_m) (t : Int32 × am_m) (h : fn_X10_bridges a1 m = some t) : am_Ex am_cod d 271 [.inr (.inr (some (10, 0))), .inl a1] (am_mk m) (some (.inl t.1)) (am_mk t.2) 0 0 := by
  obtain ⟨d, rfl⟩ : ∃ e, d = e + 1 := ⟨d - 1, by omega⟩
  have htb : am_tab 271 = at_271 := rfl
  refine ⟨Nat.le_of_ble_eq_true rfl, ?_⟩
  unfold fn_X10_bridges at h
  show am_Go d 271 (0, [some (.inr (.inr (some (10, 0)))), some (.inl a1), none, none, none, none], [], am_mk m) _ _ 0 0
  refine am_Go.n htb 4 (S' := (6, [some (.inr (.inr (some (10, 0)))), some (.inl a1), none, none, none, none], [.inr (.inr (some (10, 0)))], am_mk (am_si m 10 0 0 0))) rfl ?_
  obtain ⟨r1, h2, h⟩ := am_bd h
  refine am_Go.cl htb rfl (ex_X10_layMay d (by omega)  (am_si m 10 0 0 0) r1 h2) ?_
  show am_Go d 271 (9, [some (.inr (.inr (some (10, 0)))), some (.inl a1), none, none, none, none], [], am_mk r1) _ _ _ _
  refine am_Go.n htb 6 (S' := (16, [some (.inr (.inr (some (10, 0)))), some (.inl a1), some (.inl 0), some (.inl (-1)), some (.inl 0), none], [], am_mk r1)) rfl ?_
  obtain ⟨q15, h16, h⟩ := am_bd h
  refine lt_X10_bridges_16 _ hd (h := h16) (hk := ?_)
  refine am_Go.n htb 2 (S' := (106, [some (.inr (.inr (some (10, 0)))), some (.inl a1), some (.inl q15.1), some (.inl q15.2.1), none, none], [.inl (-1), .inl a1], am_mk q15.2.2)) rfl ?_
  by_cases hc17 : a1 ≠ (-1 : Int32)
  · rw [if_pos hc17] at h
    refine am_Go.c1 htb (S' := (113, [some (.inr (.inr (some (10, 0)))), some (.inl a1), some (.inl q15.1), some (.inl q15.2.1), none, none], [], am_mk q15.2.2)) (if_pos hc17) ?_
    refine am_Go.n htb 1 (S' := (114, [some (.inr (.inr (some (10, 0)))), some (.inl a1), some (.inl q15.1), some (.inl q15.2.1), none, none], [.inl q15.2.1], am_mk q15.2.2)) rfl ?_
    cases h
    exact am_Go.rt htb rfl
  · rw [if_neg hc17] at h
    refine am_Go.c1 htb (S' := (109, [some (.inr (.inr (some (10, 0)))), some (.inl a1), some (.inl q15.1), some (.inl q15.2.1), none, none], [], am_mk q15.2.2)) (if_neg hc17) ?_
    refine am_Go.n htb 2 (S' := (114, [some (.inr (.inr (some (10, 0)))), some (.inl a1), some (.inl q15.1), some (.inl q15.2.1), none, none], [.inl q15.1], am_mk q15.2.2)) rfl ?_
    cases h
    exact am_Go.rt htb rfl
-- X10_sat
def fn_X10_sat (a1 : Int32) (m : am_m) : Option (Int32 × am_m) :=
  (fn_X10_isSet a1 (am_si m 10 0 0 0)).bind fun r1 => (if r1 = 0 then (fn_X10_tell (-1) (am_si m 10 0 0 0)).bind fun r4 => some (r4.1, r4.2) else (fn_X10_ones a1 (am_si m 10 0 0 0)).bind fun r6 => (if (2 : Int32) ≤ r6 then (fn_X10_areThere a1 (am_si m 10 0 0 0)).bind fun r9 => (if r9 ≠ 0 then (if ((am_si m 10 0 0 0).1 44 0 1) ≠ (6 : Int32) then am_ck ((112 : Int32) + ((am_si m 10 0 0 0).1 44 0 1)) 5518 ((fn_X10_tell (((am_si m 10 0 0 0).1 44 0 1) + (1 : Int32)) (am_si (am_si (am_si m 10 0 0 0) 44 0 ((112 : Int32) + ((am_si m 10 0 0 0).1 44 0 1)).toNatClampNeg a1) 44 0 1 (((am_si (am_si m 10 0 0 0) 44 0 ((112 : Int32) + ((am_si m 10 0 0 0).1 44 0 1)).toNatClampNeg a1).1 44 0 1) + (1 : Int32)))).bind fun r14 => some (r14.1, r14.2)) else (fn_X10_tell (-5) (am_si m 10 0 0 0)).bind fun r16 => some (r16.1, r16.2)) else (fn_X10_tell (-2) (am_si m 10 0 0 0)).bind fun r18 => some (r18.1, r18.2)) else (fn_X10_tell (-1) (am_si m 10 0 0 0)).bind fun r20 => some (r20.1, r20.2)))
set_option maxRecDepth 100000 in
theorem ex_X10_sat (d : Nat) (hd : 3 ≤ d) (a1 : Int32) (m : am_m) (t : Int32 × am_m) (h : fn_X10_sat a1 m = some t) : am_Ex am_cod d 272 [.inr (.inr (some (10, 0))), .inl a1] (am_mk m) (some (.inl t.1)) (am_mk t.2) 0 0 := by
  obtain ⟨d, rfl⟩ : ∃ e, d = e + 1 := ⟨d - 1, by omega⟩
  have htb : am_tab 272 = at_272 := rfl
  refine ⟨Nat.le_of_ble_eq_true rfl, ?_⟩
  unfold fn_X10_sat at h
  show am_Go d 272 (0, [some (.inr (.inr (some (10, 0)))), some (.inl a1), none], [], am_mk m) _ _ 0 0
  refine am_Go.n htb 4 (S' := (6, [some (.inr (.inr (some (10, 0)))), some (.inl a1), none], [.inl a1], am_mk (am_si m 10 0 0 0))) rfl ?_
  obtain ⟨r1, h2, h⟩ := am_bd h
  refine am_Go.cl htb rfl (ex_X10_isSet d (by omega) a1 (am_si m 10 0 0 0) r1 h2) ?_
  show am_Go d 272 (9, [some (.inr (.inr (some (10, 0)))), some (.inl a1), none], [.inl r1], am_mk (am_si m 10 0 0 0)) _ _ _ _
  by_cases hc3 : r1 = 0
  · rw [if_pos hc3] at h
    refine am_Go.c1 htb (S' := (20, [some (.inr (.inr (some (10, 0)))), some (.inl a1), none], [], am_mk (am_si m 10 0 0 0))) (if_pos hc3) ?_
    refine am_Go.n htb 2 (S' := (22, [some (.inr (.inr (some (10, 0)))), some (.inl a1), none], [.inl (-1), .inr (.inr (some (10, 0)))], am_mk (am_si m 10 0 0 0))) rfl ?_
    obtain ⟨r4, h5, h⟩ := am_bd h
    refine am_Go.cl htb rfl (ex_X10_tell d (by omega) (-1) (am_si m 10 0 0 0) r4 h5) ?_
    show am_Go d 272 (25, [some (.inr (.inr (some (10, 0)))), some (.inl a1), none], [.inl r4.1], am_mk r4.2) _ _ _ _
    cases h
    exact am_Go.rt htb rfl
  · rw [if_neg hc3] at h
    refine am_Go.c1 htb (S' := (12, [some (.inr (.inr (some (10, 0)))), some (.inl a1), none], [], am_mk (am_si m 10 0 0 0))) (if_neg hc3) ?_
    refine am_Go.n htb 1 (S' := (13, [some (.inr (.inr (some (10, 0)))), some (.inl a1), none], [.inl a1], am_mk (am_si m 10 0 0 0))) rfl ?_
    obtain ⟨r6, h7, h⟩ := am_bd h
    refine am_Go.cl htb rfl (ex_X10_ones d (by omega) a1 (am_si m 10 0 0 0) r6 h7) ?_
    show am_Go d 272 (16, [some (.inr (.inr (some (10, 0)))), some (.inl a1), none], [.inl r6], am_mk (am_si m 10 0 0 0)) _ _ _ _
    refine am_Go.n htb 1 (S' := (17, [some (.inr (.inr (some (10, 0)))), some (.inl a1), none], [.inl 2, .inl r6], am_mk (am_si m 10 0 0 0))) rfl ?_
    by_cases hc8 : (2 : Int32) ≤ r6
    · rw [if_pos hc8] at h
      refine am_Go.c1 htb (S' := (26, [some (.inr (.inr (some (10, 0)))), some (.inl a1), none], [], am_mk (am_si m 10 0 0 0))) (if_pos hc8) ?_
      refine am_Go.n htb 2 (S' := (28, [some (.inr (.inr (some (10, 0)))), some (.inl a1), none], [.inl a1, .inr (.inr (some (10, 0)))], am_mk (am_si m 10 0 0 0))) rfl ?_
      obtain ⟨r9, h10, h⟩ := am_bd h
      refine am_Go.cl htb rfl (ex_X10_areThere d (by omega) a1 (am_si m 10 0 0 0) r9 h10) ?_
      show am_Go d 272 (31, [some (.inr (.inr (some (10, 0)))), some (.inl a1), none], [.inl r9], am_mk (am_si m 10 0 0 0)) _ _ _ _
      by_cases hc11 : r9 ≠ 0
      · rw [if_pos hc11] at h
        refine am_Go.c1 htb (S' := (41, [some (.inr (.inr (some (10, 0)))), some (.inl a1), none], [], am_mk (am_si m 10 0 0 0))) (if_pos hc11) ?_
        refine am_Go.n htb 7 (S' := (51, [some (.inr (.inr (some (10, 0)))), some (.inl a1), some (.inl ((am_si m 10 0 0 0).1 44 0 1))], [.inl 6, .inl ((am_si m 10 0 0 0).1 44 0 1)], am_mk (am_si m 10 0 0 0))) rfl ?_
        by_cases hc12 : ((am_si m 10 0 0 0).1 44 0 1) ≠ (6 : Int32)
        · rw [if_pos hc12] at h
          refine am_Go.c1 htb (S' := (61, [some (.inr (.inr (some (10, 0)))), some (.inl a1), some (.inl ((am_si m 10 0 0 0).1 44 0 1))], [], am_mk (am_si m 10 0 0 0))) (if_pos hc12) ?_
          refine am_Go.n htb 6 (S' := (70, [some (.inr (.inr (some (10, 0)))), some (.inl a1), some (.inl ((am_si m 10 0 0 0).1 44 0 1))], [.inl a1, .inl ((112 : Int32) + ((am_si m 10 0 0 0).1 44 0 1)), .inr (.inr (some (44, 0)))], am_mk (am_si m 10 0 0 0))) rfl ?_
          obtain ⟨hg13, h⟩ := am_ck_some h
          refine am_Go.c1 htb (S' := (71, [some (.inr (.inr (some (10, 0)))), some (.inl a1), some (.inl ((am_si m 10 0 0 0).1 44 0 1))], [], am_mk (am_si (am_si m 10 0 0 0) 44 0 ((112 : Int32) + ((am_si m 10 0 0 0).1 44 0 1)).toNatClampNeg a1))) (if_neg hg13) ?_
          refine am_Go.n htb 12 (S' := (85, [some (.inr (.inr (some (10, 0)))), some (.inl a1), some (.inl ((am_si m 10 0 0 0).1 44 0 1))], [.inl (((am_si m 10 0 0 0).1 44 0 1) + (1 : Int32)), .inr (.inr (some (10, 0)))], am_mk (am_si (am_si (am_si m 10 0 0 0) 44 0 ((112 : Int32) + ((am_si m 10 0 0 0).1 44 0 1)).toNatClampNeg a1) 44 0 1 (((am_si (am_si m 10 0 0 0) 44 0 ((112 : Int32) + ((am_si m 10 0 0 0).1 44 0 1)).toNatClampNeg a1).1 44 0 1) + (1 : Int32))))) rfl ?_
          obtain ⟨r14, h15, h⟩ := am_bd h
          refine am_Go.cl htb rfl (ex_X10_tell d (by omega) (((am_si m 10 0 0 0).1 44 0 1) + (1 : Int32)) (am_si (am_si (am_si m 10 0 0 0) 44 0 ((112 : Int32) + ((am_si m 10 0 0 0).1 44 0 1)).toNatClampNeg a1) 44 0 1 (((am_si (am_si m 10 0 0 0) 44 0 ((112 : Int32) + ((am_si m 10 0 0 0).1 44 0 1)).toNatClampNeg a1).1 44 0 1) + (1 : Int32))) r14 h15) ?_
          show am_Go d 272 (88, [some (.inr (.inr (some (10, 0)))), some (.inl a1), some (.inl ((am_si m 10 0 0 0).1 44 0 1))], [.inl r14.1], am_mk r14.2) _ _ _ _
          cases h
          exact am_Go.rt htb rfl
        · rw [if_neg hc12] at h
          refine am_Go.c1 htb (S' := (54, [some (.inr (.inr (some (10, 0)))), some (.inl a1), some (.inl ((am_si m 10 0 0 0).1 44 0 1))], [], am_mk (am_si m 10 0 0 0))) (if_neg hc12) ?_
          refine am_Go.n htb 2 (S' := (57, [some (.inr (.inr (some (10, 0)))), some (.inl a1), some (.inl ((am_si m 10 0 0 0).1 44 0 1))], [.inl (-5), .inr (.inr (some (10, 0)))], am_mk (am_si m 10 0 0 0))) rfl ?_
          obtain ⟨r16, h17, h⟩ := am_bd h
          refine am_Go.cl htb rfl (ex_X10_tell d (by omega) (-5) (am_si m 10 0 0 0) r16 h17) ?_
          show am_Go d 272 (60, [some (.inr (.inr (some (10, 0)))), some (.inl a1), some (.inl ((am_si m 10 0 0 0).1 44 0 1))], [.inl r16.1], am_mk r16.2) _ _ _ _
          cases h
          exact am_Go.rt htb rfl
      · rw [if_neg hc11] at h
        refine am_Go.c1 htb (S' := (34, [some (.inr (.inr (some (10, 0)))), some (.inl a1), none], [], am_mk (am_si m 10 0 0 0))) (if_neg hc11) ?_
        refine am_Go.n htb 2 (S' := (37, [some (.inr (.inr (some (10, 0)))), some (.inl a1), none], [.inl (-2), .inr (.inr (some (10, 0)))], am_mk (am_si m 10 0 0 0))) rfl ?_
        obtain ⟨r18, h19, h⟩ := am_bd h
        refine am_Go.cl htb rfl (ex_X10_tell d (by omega) (-2) (am_si m 10 0 0 0) r18 h19) ?_
        show am_Go d 272 (40, [some (.inr (.inr (some (10, 0)))), some (.inl a1), none], [.inl r18.1], am_mk r18.2) _ _ _ _
        cases h
        exact am_Go.rt htb rfl
    · rw [if_neg hc8] at h
      refine am_Go.c1 htb (S' := (20, [some (.inr (.inr (some (10, 0)))), some (.inl a1), none], [], am_mk (am_si m 10 0 0 0))) (if_neg hc8) ?_
      refine am_Go.n htb 2 (S' := (22, [some (.inr (.inr (some (10, 0)))), some (.inl a1), none], [.inl (-1), .inr (.inr (some (10, 0)))], am_mk (am_si m 10 0 0 0))) rfl ?_
      obtain ⟨r20, h21, h⟩ := am_bd h
      refine am_Go.cl htb rfl (ex_X10_tell d (by omega) (-1) (am_si m 10 0 0 0) r20 h21) ?_
      show am_Go d 272 (25, [some (.inr (.inr (some (10, 0)))), some (.inl a1), none], [.inl r20.1], am_mk r20.2) _ _ _ _
      cases h
      exact am_Go.rt htb rfl
-- X10_forget
def fn_X10_forget  (m : am_m) : Option (Int32 × am_m) :=
  some (((am_si m 10 0 0 0).1 44 0 1), am_si (am_si m 10 0 0 0) 44 0 1 0)
set_option maxRecDepth 100000 in
theorem ex_X10_forget (d : Nat) (hd : 1 ≤ d)  (m : am_m) (t : Int32 × am_m) (h : fn_X10_forget  m = some t) : am_Ex am_cod d 273 [.inr (.inr (some (10, 0)))] (am_mk m) (some (.inl t.1)) (am_mk t.2) 0 0 := by
  obtain ⟨d, rfl⟩ : ∃ e, d = e + 1 := ⟨d - 1, by omega⟩
  have htb : am_tab 273 = at_273 := rfl
  refine ⟨Nat.le_of_ble_eq_true rfl, ?_⟩
  unfold fn_X10_forget at h
  show am_Go d 273 (0, [some (.inr (.inr (some (10, 0)))), none], [], am_mk m) _ _ 0 0
  refine am_Go.n htb 14 (S' := (20, [some (.inr (.inr (some (10, 0)))), some (.inl ((am_si m 10 0 0 0).1 44 0 1))], [.inl ((am_si m 10 0 0 0).1 44 0 1)], am_mk (am_si (am_si m 10 0 0 0) 44 0 1 0))) rfl ?_
  cases h
  exact am_Go.rt htb rfl
-- X10_satBoth
def lp_X10_satBoth_5 : Nat → Int32 → Int32 → Int32 → Int32 → am_m → Option (Int32)
  | 0, _, _, _, _, _ => none
  | n + 1, x1, x2, x3, x4, m =>
  (if (m.1 44 0 1) ≤ x4 then some x3 else (if x3 ≠ 0 then some 1 else am_ck ((112 : Int32) + x4) 5518 ((fn_X10_is (m.1 44 0 ((112 : Int32) + x4).toNatClampNeg) x1 m).bind fun r4 => (if r4 = 0 then some 0 else am_ck ((112 : Int32) + x4) 5518 ((fn_X10_is (m.1 44 0 ((112 : Int32) + x4).toNatClampNeg) x2 m).bind fun r8 => (if r8 = 0 then some 0 else some 1))))).bind fun q11 => lp_X10_satBoth_5 n x1 x2 q11 (x4 + 1) m)
set_option maxRecDepth 100000 in
theorem lt_X10_satBoth_5 (d : Nat) (hd : 2 ≤ d + 1) {r : Option am_V} {M' : am_M} {kc ks : Nat} {n : Nat} {x1 : Int32} {x2 : Int32} {x3 : Int32} {x4 : Int32} {m : am_m} {t : Int32} (h : lp_X10_satBoth_5 n x1 x2 x3 x4 m = some t) (hk : am_Go d 274 (66, [some (.inr (.inr (some (10, 0)))), some (.inl x1), some (.inl x2), some (.inl t), none], [], am_mk m) r M' kc ks) : am_Go d 274 (5, [some (.inr (.inr (some (10, 0)))), some (.inl x1), some (.inl x2), some (.inl x3), some (.inl x4)], [], am_mk m) r M' kc ks := by
  have htb : am_tab 274 = at_274 := rfl
  induction n generalizing x3 x4 with
  | zero => cases h
  | succ n ih =>
    unfold lp_X10_satBoth_5 at h
    refine am_Go.n htb 5 (S' := (13, [some (.inr (.inr (some (10, 0)))), some (.inl x1), some (.inl x2), some (.inl x3), some (.inl x4)], [.inl (m.1 44 0 1), .inl x4], am_mk m)) rfl ?_
    by_cases hc1 : (m.1 44 0 1) ≤ x4
    · rw [if_pos hc1] at h
      refine am_Go.c1 htb (S' := (66, [some (.inr (.inr (some (10, 0)))), some (.inl x1), some (.inl x2), some (.inl x3), some (.inl x4)], [], am_mk m)) (if_pos hc1) ?_
      cases h
      exact am_Go.fg (by exact ⟨rfl, ⟨rfl, ⟨rfl, ⟨rfl, trivial⟩⟩⟩⟩) hk
    · rw [if_neg hc1] at h
      refine am_Go.c1 htb (S' := (16, [some (.inr (.inr (some (10, 0)))), some (.inl x1), some (.inl x2), some (.inl x3), some (.inl x4)], [], am_mk m)) (if_neg hc1) ?_
      refine am_Go.n htb 1 (S' := (17, [some (.inr (.inr (some (10, 0)))), some (.inl x1), some (.inl x2), some (.inl x3), some (.inl x4)], [.inl x3], am_mk m)) rfl ?_
      obtain ⟨q11, h12, h⟩ := am_bd h
      refine am_Go.cut (S := (59, [some (.inr (.inr (some (10, 0)))), some (.inl x1), some (.inl x2), some (.inl x3), some (.inl x4)], [.inl q11], am_mk m)) ?_ (fun key => ?_)
      · refine am_Go.n htb 3 (S' := (5, [some (.inr (.inr (some (10, 0)))), some (.inl x1), some (.inl x2), some (.inl q11), some (.inl (x4 + 1))], [], am_mk m)) rfl ?_
        first | exact ih h | exact ih h hk
      · have h := h12
        by_cases hc2 : x3 ≠ 0
        · rw [if_pos hc2] at h
          refine am_Go.c1 htb (S' := (54, [some (.inr (.inr (some (10, 0)))), some (.inl x1), some (.inl x2), some (.inl x3), some (.inl x4)], [], am_mk m)) (if_pos hc2) ?_
          refine am_Go.n htb 2 (S' := (59, [some (.inr (.inr (some (10, 0)))), some (.inl x1), some (.inl x2), some (.inl x3), some (.inl x4)], [.inl 1], am_mk m)) rfl ?_
          cases h
          exact am_Go.fg (by exact ⟨rfl, ⟨rfl, ⟨rfl, ⟨rfl, ⟨rfl, trivial⟩⟩⟩⟩⟩) key
        · rw [if_neg hc2] at h
          refine am_Go.c1 htb (S' := (20, [some (.inr (.inr (some (10, 0)))), some (.inl x1), some (.inl x2), some (.inl x3), some (.inl x4)], [], am_mk m)) (if_neg hc2) ?_
          refine am_Go.n htb 5 (S' := (29, [some (.inr (.inr (some (10, 0)))), some (.inl x1), some (.inl x2), some (.inl x3), some (.inl x4)], [.inl ((112 : Int32) + x4), .inr (.inr (some (44, 0)))], am_mk m)) rfl ?_
          obtain ⟨hg3, h⟩ := am_ck_some h
          refine am_Go.c1 htb (S' := (30, [some (.inr (.inr (some (10, 0)))), some (.inl x1), some (.inl x2), some (.inl x3), some (.inl x4)], [.inl (m.1 44 0 ((112 : Int32) + x4).toNatClampNeg)], am_mk m)) (if_neg hg3) ?_
          refine am_Go.n htb 1 (S' := (31, [some (.inr (.inr (some (10, 0)))), some (.inl x1), some (.inl x2), some (.inl x3), some (.inl x4)], [.inl x1, .inl (m.1 44 0 ((112 : Int32) + x4).toNatClampNeg)], am_mk m)) rfl ?_
          obtain ⟨r4, h5, h⟩ := am_bd h
          refine am_Go.cl htb rfl (ex_X10_is d (by omega) (m.1 44 0 ((112 : Int32) + x4).toNatClampNeg) x1 m r4 h5) ?_
          show am_Go d 274 (34, [some (.inr (.inr (some (10, 0)))), some (.inl x1), some (.inl x2), some (.inl x3), some (.inl x4)], [.inl r4], am_mk m) _ _ _ _
          by_cases hc6 : r4 = 0
          · rw [if_pos hc6] at h
            refine am_Go.c1 htb (S' := (58, [some (.inr (.inr (some (10, 0)))), some (.inl x1), some (.inl x2), some (.inl x3), some (.inl x4)], [], am_mk m)) (if_pos hc6) ?_
            refine am_Go.n htb 1 (S' := (59, [some (.inr (.inr (some (10, 0)))), some (.inl x1), some (.inl x2), some (.inl x3), some (.inl x4)], [.inl 0], am_mk m)) rfl ?_
            cases h
            exact am_Go.fg (by exact ⟨rfl, ⟨rfl, ⟨rfl, ⟨rfl, ⟨rfl, trivial⟩⟩⟩⟩⟩) key
          · rw [if_neg hc6] at h
            refine am_Go.c1 htb (S' := (37, [some (.inr (.inr (some (10, 0)))), some (.inl x1), some (.inl x2), some (.inl x3), some (.inl x4)], [], am_mk m)) (if_neg hc6) ?_
            refine am_Go.n htb 5 (S' := (46, [some (.inr (.inr (some (10, 0)))), some (.inl x1), some (.inl x2), some (.inl x3), some (.inl x4)], [.inl ((112 : Int32) + x4), .inr (.inr (some (44, 0)))], am_mk m)) rfl ?_
            obtain ⟨hg7, h⟩ := am_ck_some h
            refine am_Go.c1 htb (S' := (47, [some (.inr (.inr (some (10, 0)))), some (.inl x1), some (.inl x2), some (.inl x3), some (.inl x4)], [.inl (m.1 44 0 ((112 : Int32) + x4).toNatClampNeg)], am_mk m)) (if_neg hg7) ?_
            refine am_Go.n htb 1 (S' := (48, [some (.inr (.inr (some (10, 0)))), some (.inl x1), some (.inl x2), some (.inl x3), some (.inl x4)], [.inl x2, .inl (m.1 44 0 ((112 : Int32) + x4).toNatClampNeg)], am_mk m)) rfl ?_
            obtain ⟨r8, h9, h⟩ := am_bd h
            refine am_Go.cl htb rfl (ex_X10_is d (by omega) (m.1 44 0 ((112 : Int32) + x4).toNatClampNeg) x2 m r8 h9) ?_
            show am_Go d 274 (51, [some (.inr (.inr (some (10, 0)))), some (.inl x1), some (.inl x2), some (.inl x3), some (.inl x4)], [.inl r8], am_mk m) _ _ _ _
            by_cases hc10 : r8 = 0
            · rw [if_pos hc10] at h
              refine am_Go.c1 htb (S' := (58, [some (.inr (.inr (some (10, 0)))), some (.inl x1), some (.inl x2), some (.inl x3), some (.inl x4)], [], am_mk m)) (if_pos hc10) ?_
              refine am_Go.n htb 1 (S' := (59, [some (.inr (.inr (some (10, 0)))), some (.inl x1), some (.inl x2), some (.inl x3), some (.inl x4)], [.inl 0], am_mk m)) rfl ?_
              cases h
              exact am_Go.fg (by exact ⟨rfl, ⟨rfl, ⟨rfl, ⟨rfl, ⟨rfl, trivial⟩⟩⟩⟩⟩) key
            · rw [if_neg hc10] at h
              refine am_Go.c1 htb (S' := (54, [some (.inr (.inr (some (10, 0)))), some (.inl x1), some (.inl x2), some (.inl x3), some (.inl x4)], [], am_mk m)) (if_neg hc10) ?_
              refine am_Go.n htb 2 (S' := (59, [some (.inr (.inr (some (10, 0)))), some (.inl x1), some (.inl x2), some (.inl x3), some (.inl x4)], [.inl 1], am_mk m)) rfl ?_
              cases h
              exact am_Go.fg (by exact ⟨rfl, ⟨rfl, ⟨rfl, ⟨rfl, ⟨rfl, trivial⟩⟩⟩⟩⟩) key
def fn_X10_satBoth (a1 : Int32) (a2 : Int32) (m : am_m) : Option (Int32) :=
  (lp_X10_satBoth_5 1000000 a1 a2 0 0 m).bind fun q13 => am_gd (q13 = 0 ∨ q13 = 1) (some q13)
set_option maxRecDepth 100000 in
theorem ex_X10_satBoth (d : Nat) (hd : 2 ≤ d) (a1 : Int32) (a2 : Int32) (m : am_m) (t : Int32) (h : fn_X10_satBoth a1 a2 m = some t) : am_Ex am_cod d 274 [.inr (.inr (some (10, 0))), .inl a1, .inl a2] (am_mk m) (some (.inl t)) (am_mk m) 0 0 := by
  obtain ⟨d, rfl⟩ : ∃ e, d = e + 1 := ⟨d - 1, by omega⟩
  have htb : am_tab 274 = at_274 := rfl
  refine ⟨Nat.le_of_ble_eq_true rfl, ?_⟩
  unfold fn_X10_satBoth at h
  show am_Go d 274 (0, [some (.inr (.inr (some (10, 0)))), some (.inl a1), some (.inl a2), none, none], [], am_mk m) _ _ 0 0
  refine am_Go.n htb 4 (S' := (5, [some (.inr (.inr (some (10, 0)))), some (.inl a1), some (.inl a2), some (.inl 0), some (.inl 0)], [], am_mk m)) rfl ?_
  obtain ⟨q13, h14, h⟩ := am_bd h
  refine lt_X10_satBoth_5 _ hd (h := h14) (hk := ?_)
  refine am_Go.n htb 1 (S' := (67, [some (.inr (.inr (some (10, 0)))), some (.inl a1), some (.inl a2), some (.inl q13), none], [.inl q13], am_mk m)) rfl ?_
  obtain ⟨hz15, h⟩ := am_gd_some h
  cases h
  exact am_Go.rt htb (if_pos hz15)
-- X10_doubted
def lp_X10_doubted_33 : Nat → Int32 → Int32 → Int32 → Int32 → Int32 → am_m → Option (Int32 × Int32)
  | 0, _, _, _, _, _, _ => none
  | n + 1, x1, x2, x3, x4, x5, m =>
  (if (m.1 44 0 0) ≤ x5 then some (x2, x3) else (fn_X10_satBoth x4 x5 m).bind fun r5 => (if r5 = 0 then some (x2, x3) else am_ck (((7 : Int32) * x4) + x5) 49 ((if (m.1 92 0 (((7 : Int32) * x4) + x5).toNatClampNeg) ≠ 0 then some (x2, x3) else some ((x2 + 1), (if x2 ≠ x1 then x3 else (((10 : Int32) * x4) + x5)))))).bind fun q11 => lp_X10_doubted_33 n x1 q11.1 q11.2 x4 (x5 + 1) m)
set_option maxRecDepth 100000 in
theorem lt_X10_doubted_33 (d : Nat) (hd : 9 ≤ d + 1) {r : Option am_V} {M' : am_M} {kc ks : Nat} {n : Nat} {x1 : Int32} {x2 : Int32} {x3 : Int32} {x4 : Int32} {x5 : Int32} {m : am_m} {t : Int32 × Int32} (h : lp_X10_doubted_33 n x1 x2 x3 x4 x5 m = some t) (hk : am_Go d 275 (98, [some (.inr (.inr (some (10, 0)))), some (.inl x1), some (.inl t.1), some (.inl t.2), some (.inl x4), none], [], am_mk m) r M' kc ks) : am_Go d 275 (33, [some (.inr (.inr (some (10, 0)))), some (.inl x1), some (.inl x2), some (.inl x3), some (.inl x4), some (.inl x5)], [], am_mk m) r M' kc ks := by
  have htb : am_tab 275 = at_275 := rfl
  induction n generalizing x2 x3 x5 with
  | zero => cases h
  | succ n ih =>
    unfold lp_X10_doubted_33 at h
    refine am_Go.n htb 5 (S' := (41, [some (.inr (.inr (some (10, 0)))), some (.inl x1), some (.inl x2), some (.inl x3), some (.inl x4), some (.inl x5)], [.inl (m.1 44 0 0), .inl x5], am_mk m)) rfl ?_
    by_cases hc4 : (m.1 44 0 0) ≤ x5
    · rw [if_pos hc4] at h
      refine am_Go.c1 htb (S' := (98, [some (.inr (.inr (some (10, 0)))), some (.inl x1), some (.inl x2), some (.inl x3), some (.inl x4), some (.inl x5)], [], am_mk m)) (if_pos hc4) ?_
      cases h
      exact am_Go.fg (by exact ⟨rfl, ⟨rfl, ⟨rfl, ⟨rfl, ⟨rfl, trivial⟩⟩⟩⟩⟩) hk
    · rw [if_neg hc4] at h
      refine am_Go.c1 htb (S' := (44, [some (.inr (.inr (some (10, 0)))), some (.inl x1), some (.inl x2), some (.inl x3), some (.inl x4), some (.inl x5)], [], am_mk m)) (if_neg hc4) ?_
      refine am_Go.n htb 3 (S' := (49, [some (.inr (.inr (some (10, 0)))), some (.inl x1), some (.inl x2), some (.inl x3), some (.inl x4), some (.inl x5)], [.inl x5, .inl x4, .inr (.inr (some (10, 0)))], am_mk m)) rfl ?_
      obtain ⟨r5, h6, h⟩ := am_bd h
      refine am_Go.cl htb rfl (ex_X10_satBoth d (by omega) x4 x5 m r5 h6) ?_
      show am_Go d 275 (52, [some (.inr (.inr (some (10, 0)))), some (.inl x1), some (.inl x2), some (.inl x3), some (.inl x4), some (.inl x5)], [.inl r5], am_mk m) _ _ _ _
      obtain ⟨q11, h12, h⟩ := am_bd h
      refine am_Go.cut (S := (92, [some (.inr (.inr (some (10, 0)))), some (.inl x1), some (.inl q11.1), some (.inl q11.2), some (.inl x4), some (.inl x5)], [], am_mk m)) ?_ (fun key => ?_)
      · refine am_Go.n htb 2 (S' := (33, [some (.inr (.inr (some (10, 0)))), some (.inl x1), some (.inl q11.1), some (.inl q11.2), some (.inl x4), some (.inl (x5 + 1))], [], am_mk m)) rfl ?_
        first | exact ih h | exact ih h hk
      · have h := h12
        by_cases hc7 : r5 = 0
        · rw [if_pos hc7] at h
          refine am_Go.c1 htb (S' := (92, [some (.inr (.inr (some (10, 0)))), some (.inl x1), some (.inl x2), some (.inl x3), some (.inl x4), some (.inl x5)], [], am_mk m)) (if_pos hc7) ?_
          cases h
          exact am_Go.fg (by exact ⟨rfl, ⟨rfl, ⟨rfl, ⟨rfl, ⟨rfl, ⟨rfl, trivial⟩⟩⟩⟩⟩⟩) key
        · rw [if_neg hc7] at h
          refine am_Go.c1 htb (S' := (55, [some (.inr (.inr (some (10, 0)))), some (.inl x1), some (.inl x2), some (.inl x3), some (.inl x4), some (.inl x5)], [], am_mk m)) (if_neg hc7) ?_
          refine am_Go.n htb 7 (S' := (67, [some (.inr (.inr (some (10, 0)))), some (.inl x1), some (.inl x2), some (.inl x3), some (.inl x4), some (.inl x5)], [.inl (((7 : Int32) * x4) + x5), .inr (.inr (some (92, 0)))], am_mk m)) rfl ?_
          obtain ⟨hg8, h⟩ := am_ck_some h
          refine am_Go.c1 htb (S' := (68, [some (.inr (.inr (some (10, 0)))), some (.inl x1), some (.inl x2), some (.inl x3), some (.inl x4), some (.inl x5)], [.inl (m.1 92 0 (((7 : Int32) * x4) + x5).toNatClampNeg)], am_mk m)) (if_neg hg8) ?_
          by_cases hc9 : (m.1 92 0 (((7 : Int32) * x4) + x5).toNatClampNeg) ≠ 0
          · rw [if_pos hc9] at h
            refine am_Go.c1 htb (S' := (92, [some (.inr (.inr (some (10, 0)))), some (.inl x1), some (.inl x2), some (.inl x3), some (.inl x4), some (.inl x5)], [], am_mk m)) (if_pos hc9) ?_
            cases h
            exact am_Go.fg (by exact ⟨rfl, ⟨rfl, ⟨rfl, ⟨rfl, ⟨rfl, ⟨rfl, trivial⟩⟩⟩⟩⟩⟩) key
          · rw [if_neg hc9] at h
            refine am_Go.c1 htb (S' := (71, [some (.inr (.inr (some (10, 0)))), some (.inl x1), some (.inl x2), some (.inl x3), some (.inl x4), some (.inl x5)], [], am_mk m)) (if_neg hc9) ?_
            refine am_Go.n htb 2 (S' := (73, [some (.inr (.inr (some (10, 0)))), some (.inl x1), some (.inl x2), some (.inl x3), some (.inl x4), some (.inl x5)], [.inl x1, .inl x2], am_mk m)) rfl ?_
            refine am_Go.cut (S := (88, [some (.inr (.inr (some (10, 0)))), some (.inl x1), some (.inl x2), some (.inl x3), some (.inl x4), some (.inl x5)], [.inl (if x2 ≠ x1 then x3 else (((10 : Int32) * x4) + x5))], am_mk m)) ?_ (fun key => ?_)
            · refine am_Go.n htb 2 (S' := (92, [some (.inr (.inr (some (10, 0)))), some (.inl x1), some (.inl (x2 + 1)), some (.inl (if x2 ≠ x1 then x3 else (((10 : Int32) * x4) + x5))), some (.inl x4), some (.inl x5)], [], am_mk m)) rfl ?_
              cases h
              exact am_Go.fg (by exact ⟨rfl, ⟨rfl, ⟨rfl, ⟨rfl, ⟨rfl, ⟨rfl, trivial⟩⟩⟩⟩⟩⟩) key
            · by_cases hc10 : x2 ≠ x1
              · refine am_Go.c1 htb (S' := (87, [some (.inr (.inr (some (10, 0)))), some (.inl x1), some (.inl x2), some (.inl x3), some (.inl x4), some (.inl x5)], [], am_mk m)) (if_pos hc10) ?_
                refine am_Go.n htb 1 (S' := (88, [some (.inr (.inr (some (10, 0)))), some (.inl x1), some (.inl x2), some (.inl x3), some (.inl x4), some (.inl x5)], [.inl x3], am_mk m)) rfl ?_
                simp only [if_pos hc10] at key
                exact am_Go.fg (by exact ⟨rfl, ⟨rfl, ⟨rfl, ⟨rfl, ⟨rfl, ⟨rfl, trivial⟩⟩⟩⟩⟩⟩) key
              · refine am_Go.c1 htb (S' := (76, [some (.inr (.inr (some (10, 0)))), some (.inl x1), some (.inl x2), some (.inl x3), some (.inl x4), some (.inl x5)], [], am_mk m)) (if_neg hc10) ?_
                refine am_Go.n htb 6 (S' := (88, [some (.inr (.inr (some (10, 0)))), some (.inl x1), some (.inl x2), some (.inl x3), some (.inl x4), some (.inl x5)], [.inl (((10 : Int32) * x4) + x5)], am_mk m)) rfl ?_
                simp only [if_neg hc10] at key
                exact am_Go.fg (by exact ⟨rfl, ⟨rfl, ⟨rfl, ⟨rfl, ⟨rfl, ⟨rfl, trivial⟩⟩⟩⟩⟩⟩) key
def lp_X10_doubted_16 : Nat → Int32 → Int32 → Int32 → Int32 → am_m → Option (Int32 × Int32)
  | 0, _, _, _, _, _ => none
  | n + 1, x1, x2, x3, x4, m =>
  (if (m.1 44 0 0) ≤ x4 then some (x2, x3) else (lp_X10_doubted_33 1000000 x1 x2 x3 x4 (x4 + (1 : Int32)) m).bind fun q13 => lp_X10_doubted_16 n x1 q13.1 q13.2 (x4 + 1) m)
set_option maxRecDepth 100000 in
theorem lt_X10_doubted_16 (d : Nat) (hd : 9 ≤ d + 1) {r : Option am_V} {M' : am_M} {kc ks : Nat} {n : Nat} {x1 : Int32} {x2 : Int32} {x3 : Int32} {x4 : Int32} {m : am_m} {t : Int32 × Int32} (h : lp_X10_doubted_16 n x1 x2 x3 x4 m = some t) (hk : am_Go d 275 (104, [some (.inr (.inr (some (10, 0)))), some (.inl x1), some (.inl t.1), some (.inl t.2), none, none], [], am_mk m) r M' kc ks) : am_Go d 275 (16, [some (.inr (.inr (some (10, 0)))), some (.inl x1), some (.inl x2), some (.inl x3), some (.inl x4), none], [], am_mk m) r M' kc ks := by
  have htb : am_tab 275 = at_275 := rfl
  induction n generalizing x2 x3 x4 with
  | zero => cases h
  | succ n ih =>
    unfold lp_X10_doubted_16 at h
    refine am_Go.n htb 5 (S' := (24, [some (.inr (.inr (some (10, 0)))), some (.inl x1), some (.inl x2), some (.inl x3), some (.inl x4), none], [.inl (m.1 44 0 0), .inl x4], am_mk m)) rfl ?_
    by_cases hc3 : (m.1 44 0 0) ≤ x4
    · rw [if_pos hc3] at h
      refine am_Go.c1 htb (S' := (104, [some (.inr (.inr (some (10, 0)))), some (.inl x1), some (.inl x2), some (.inl x3), some (.inl x4), none], [], am_mk m)) (if_pos hc3) ?_
      cases h
      exact am_Go.fg (by exact ⟨rfl, ⟨rfl, ⟨rfl, ⟨rfl, trivial⟩⟩⟩⟩) hk
    · rw [if_neg hc3] at h
      refine am_Go.c1 htb (S' := (27, [some (.inr (.inr (some (10, 0)))), some (.inl x1), some (.inl x2), some (.inl x3), some (.inl x4), none], [], am_mk m)) (if_neg hc3) ?_
      refine am_Go.n htb 4 (S' := (33, [some (.inr (.inr (some (10, 0)))), some (.inl x1), some (.inl x2), some (.inl x3), some (.inl x4), some (.inl (x4 + (1 : Int32)))], [], am_mk m)) rfl ?_
      obtain ⟨q13, h14, h⟩ := am_bd h
      refine lt_X10_doubted_33 _ hd (h := h14) (hk := ?_)
      refine am_Go.n htb 2 (S' := (16, [some (.inr (.inr (some (10, 0)))), some (.inl x1), some (.inl q13.1), some (.inl q13.2), some (.inl (x4 + 1)), none], [], am_mk m)) rfl ?_
      first | exact ih h | exact ih h hk
def fn_X10_doubted (a1 : Int32) (m : am_m) : Option (Int32 × am_m) :=
  (fn_X10_layMay  (am_si m 10 0 0 0)).bind fun r1 => (lp_X10_doubted_16 1000000 a1 0 (-1) 0 r1).bind fun q15 => (if a1 ≠ (-1 : Int32) then some (q15.2, r1) else some (q15.1, r1))
set_option maxRecDepth 100000 in
theorem ex_X10_doubted (d : Nat) (hd : 9 ≤ d) (a1 : Int32) (m : am_m) (t : Int32 × am_m) (h : fn_X10_doubted a1 m = some t) : am_Ex am_cod d 275 [.inr (.inr (some (10, 0))), .inl a1] (am_mk m) (some (.inl t.1)) (am_mk t.2) 0 0 := by
  obtain ⟨d, rfl⟩ : ∃ e, d = e + 1 := ⟨d - 1, by omega⟩
  have htb : am_tab 275 = at_275 := rfl
  refine ⟨Nat.le_of_ble_eq_true rfl, ?_⟩
  unfold fn_X10_doubted at h
  show am_Go d 275 (0, [some (.inr (.inr (some (10, 0)))), some (.inl a1), none, none, none, none], [], am_mk m) _ _ 0 0
  refine am_Go.n htb 4 (S' := (6, [some (.inr (.inr (some (10, 0)))), some (.inl a1), none, none, none, none], [.inr (.inr (some (10, 0)))], am_mk (am_si m 10 0 0 0))) rfl ?_
  obtain ⟨r1, h2, h⟩ := am_bd h
  refine am_Go.cl htb rfl (ex_X10_layMay d (by omega)  (am_si m 10 0 0 0) r1 h2) ?_
  show am_Go d 275 (9, [some (.inr (.inr (some (10, 0)))), some (.inl a1), none, none, none, none], [], am_mk r1) _ _ _ _
  refine am_Go.n htb 6 (S' := (16, [some (.inr (.inr (some (10, 0)))), some (.inl a1), some (.inl 0), some (.inl (-1)), some (.inl 0), none], [], am_mk r1)) rfl ?_
  obtain ⟨q15, h16, h⟩ := am_bd h
  refine lt_X10_doubted_16 _ hd (h := h16) (hk := ?_)
  refine am_Go.n htb 2 (S' := (106, [some (.inr (.inr (some (10, 0)))), some (.inl a1), some (.inl q15.1), some (.inl q15.2), none, none], [.inl (-1), .inl a1], am_mk r1)) rfl ?_
  by_cases hc17 : a1 ≠ (-1 : Int32)
  · rw [if_pos hc17] at h
    refine am_Go.c1 htb (S' := (113, [some (.inr (.inr (some (10, 0)))), some (.inl a1), some (.inl q15.1), some (.inl q15.2), none, none], [], am_mk r1)) (if_pos hc17) ?_
    refine am_Go.n htb 1 (S' := (114, [some (.inr (.inr (some (10, 0)))), some (.inl a1), some (.inl q15.1), some (.inl q15.2), none, none], [.inl q15.2], am_mk r1)) rfl ?_
    cases h
    exact am_Go.rt htb rfl
  · rw [if_neg hc17] at h
    refine am_Go.c1 htb (S' := (109, [some (.inr (.inr (some (10, 0)))), some (.inl a1), some (.inl q15.1), some (.inl q15.2), none, none], [], am_mk r1)) (if_neg hc17) ?_
    refine am_Go.n htb 2 (S' := (114, [some (.inr (.inr (some (10, 0)))), some (.inl a1), some (.inl q15.1), some (.inl q15.2), none, none], [.inl q15.1], am_mk r1)) rfl ?_
    cases h
    exact am_Go.rt htb rfl
-- X10_fittingFor
def lp_X10_fittingFor_4 : Nat → Int32 → Int32 → Int32 → am_m → Option (Int32)
  | 0, _, _, _, _ => none
  | n + 1, x1, x2, x3, m =>
  (if (m.1 44 0 0) ≤ x3 then some x2 else (fn_X10_is x1 x3 m).bind fun r2 => (if r2 ≠ 0 then some 0 else (fn_X10_sitsWith x3 m).bind fun r5 => (if (x1 &&& (r5 ^^^ (-1 : Int32))) ≠ 0 then some 0 else some ((1 : Int32) <<< (x3 &&& 31)))).bind fun q8 => lp_X10_fittingFor_4 n x1 (x2 ||| q8) (x3 + 1) m)
set_option maxRecDepth 100000 in
theorem lt_X10_fittingFor_4 (d : Nat) (hd : 2 ≤ d + 1) {r : Option am_V} {M' : am_M} {kc ks : Nat} {n : Nat} {x1 : Int32} {x2 : Int32} {x3 : Int32} {m : am_m} {t : Int32} (h : lp_X10_fittingFor_4 n x1 x2 x3 m = some t) (hk : am_Go d 276 (50, [some (.inr (.inr (some (10, 0)))), some (.inl x1), some (.inl t), none], [], am_mk m) r M' kc ks) : am_Go d 276 (4, [some (.inr (.inr (some (10, 0)))), some (.inl x1), some (.inl x2), some (.inl x3)], [], am_mk m) r M' kc ks := by
  have htb : am_tab 276 = at_276 := rfl
  induction n generalizing x2 x3 with
  | zero => cases h
  | succ n ih =>
    unfold lp_X10_fittingFor_4 at h
    refine am_Go.n htb 5 (S' := (11, [some (.inr (.inr (some (10, 0)))), some (.inl x1), some (.inl x2), some (.inl x3)], [.inl (m.1 44 0 0), .inl x3], am_mk m)) rfl ?_
    by_cases hc1 : (m.1 44 0 0) ≤ x3
    · rw [if_pos hc1] at h
      refine am_Go.c1 htb (S' := (50, [some (.inr (.inr (some (10, 0)))), some (.inl x1), some (.inl x2), some (.inl x3)], [], am_mk m)) (if_pos hc1) ?_
      cases h
      exact am_Go.fg (by exact ⟨rfl, ⟨rfl, ⟨rfl, trivial⟩⟩⟩) hk
    · rw [if_neg hc1] at h
      refine am_Go.c1 htb (S' := (14, [some (.inr (.inr (some (10, 0)))), some (.inl x1), some (.inl x2), some (.inl x3)], [], am_mk m)) (if_neg hc1) ?_
      refine am_Go.n htb 3 (S' := (17, [some (.inr (.inr (some (10, 0)))), some (.inl x1), some (.inl x2), some (.inl x3)], [.inl x3, .inl x1, .inl x2], am_mk m)) rfl ?_
      obtain ⟨r2, h3, h⟩ := am_bd h
      refine am_Go.cl htb rfl (ex_X10_is d (by omega) x1 x3 m r2 h3) ?_
      show am_Go d 276 (20, [some (.inr (.inr (some (10, 0)))), some (.inl x1), some (.inl x2), some (.inl x3)], [.inl r2, .inl x2], am_mk m) _ _ _ _
      obtain ⟨q8, h9, h⟩ := am_bd h
      refine am_Go.cut (S := (42, [some (.inr (.inr (some (10, 0)))), some (.inl x1), some (.inl x2), some (.inl x3)], [.inl q8, .inl x2], am_mk m)) ?_ (fun key => ?_)
      · refine am_Go.n htb 4 (S' := (4, [some (.inr (.inr (some (10, 0)))), some (.inl x1), some (.inl (x2 ||| q8)), some (.inl (x3 + 1))], [], am_mk m)) rfl ?_
        first | exact ih h | exact ih h hk
      · have h := h9
        by_cases hc4 : r2 ≠ 0
        · rw [if_pos hc4] at h
          refine am_Go.c1 htb (S' := (41, [some (.inr (.inr (some (10, 0)))), some (.inl x1), some (.inl x2), some (.inl x3)], [.inl x2], am_mk m)) (if_pos hc4) ?_
          refine am_Go.n htb 1 (S' := (42, [some (.inr (.inr (some (10, 0)))), some (.inl x1), some (.inl x2), some (.inl x3)], [.inl 0, .inl x2], am_mk m)) rfl ?_
          cases h
          exact am_Go.fg (by exact ⟨rfl, ⟨rfl, ⟨rfl, ⟨rfl, trivial⟩⟩⟩⟩) key
        · rw [if_neg hc4] at h
          refine am_Go.c1 htb (S' := (23, [some (.inr (.inr (some (10, 0)))), some (.inl x1), some (.inl x2), some (.inl x3)], [.inl x2], am_mk m)) (if_neg hc4) ?_
          refine am_Go.n htb 3 (S' := (26, [some (.inr (.inr (some (10, 0)))), some (.inl x1), some (.inl x2), some (.inl x3)], [.inl x3, .inr (.inr (some (10, 0))), .inl x1, .inl x2], am_mk m)) rfl ?_
          obtain ⟨r5, h6, h⟩ := am_bd h
          refine am_Go.cl htb rfl (ex_X10_sitsWith d (by omega) x3 m r5 h6) ?_
          show am_Go d 276 (29, [some (.inr (.inr (some (10, 0)))), some (.inl x1), some (.inl x2), some (.inl x3)], [.inl r5, .inl x1, .inl x2], am_mk m) _ _ _ _
          refine am_Go.n htb 3 (S' := (32, [some (.inr (.inr (some (10, 0)))), some (.inl x1), some (.inl x2), some (.inl x3)], [.inl (x1 &&& (r5 ^^^ (-1 : Int32))), .inl x2], am_mk m)) rfl ?_
          by_cases hc7 : (x1 &&& (r5 ^^^ (-1 : Int32))) ≠ 0
          · rw [if_pos hc7] at h
            refine am_Go.c1 htb (S' := (41, [some (.inr (.inr (some (10, 0)))), some (.inl x1), some (.inl x2), some (.inl x3)], [.inl x2], am_mk m)) (if_pos hc7) ?_
            refine am_Go.n htb 1 (S' := (42, [some (.inr (.inr (some (10, 0)))), some (.inl x1), some (.inl x2), some (.inl x3)], [.inl 0, .inl x2], am_mk m)) rfl ?_
            cases h
            exact am_Go.fg (by exact ⟨rfl, ⟨rfl, ⟨rfl, ⟨rfl, trivial⟩⟩⟩⟩) key
          · rw [if_neg hc7] at h
            refine am_Go.c1 htb (S' := (35, [some (.inr (.inr (some (10, 0)))), some (.inl x1), some (.inl x2), some (.inl x3)], [.inl x2], am_mk m)) (if_neg hc7) ?_
            refine am_Go.n htb 4 (S' := (42, [some (.inr (.inr (some (10, 0)))), some (.inl x1), some (.inl x2), some (.inl x3)], [.inl ((1 : Int32) <<< (x3 &&& 31)), .inl x2], am_mk m)) rfl ?_
            cases h
            exact am_Go.fg (by exact ⟨rfl, ⟨rfl, ⟨rfl, ⟨rfl, trivial⟩⟩⟩⟩) key
def fn_X10_fittingFor (a1 : Int32) (m : am_m) : Option (Int32) :=
  (lp_X10_fittingFor_4 1000000 a1 0 0 m).bind fun q10 => some q10
set_option maxRecDepth 100000 in
theorem ex_X10_fittingFor (d : Nat) (hd : 2 ≤ d) (a1 : Int32) (m : am_m) (t : Int32) (h : fn_X10_fittingFor a1 m = some t) : am_Ex am_cod d 276 [.inr (.inr (some (10, 0))), .inl a1] (am_mk m) (some (.inl t)) (am_mk m) 0 0 := by
  obtain ⟨d, rfl⟩ : ∃ e, d = e + 1 := ⟨d - 1, by omega⟩
  have htb : am_tab 276 = at_276 := rfl
  refine ⟨Nat.le_of_ble_eq_true rfl, ?_⟩
  unfold fn_X10_fittingFor at h
  show am_Go d 276 (0, [some (.inr (.inr (some (10, 0)))), some (.inl a1), none, none], [], am_mk m) _ _ 0 0
  refine am_Go.n htb 4 (S' := (4, [some (.inr (.inr (some (10, 0)))), some (.inl a1), some (.inl 0), some (.inl 0)], [], am_mk m)) rfl ?_
  obtain ⟨q10, h11, h⟩ := am_bd h
  refine lt_X10_fittingFor_4 _ hd (h := h11) (hk := ?_)
  refine am_Go.n htb 1 (S' := (51, [some (.inr (.inr (some (10, 0)))), some (.inl a1), some (.inl q10), none], [.inl q10], am_mk m)) rfl ?_
  cases h
  exact am_Go.rt htb rfl
-- X10_fitting
def fn_X10_fitting (a1 : Int32) (m : am_m) : Option (Int32 × am_m) :=
  (fn_X10_isSet a1 (am_si m 10 0 0 0)).bind fun r1 => (if r1 = 0 then some ((-1), am_si m 10 0 0 0) else (fn_X10_areThere a1 (am_si m 10 0 0 0)).bind fun r4 => (if r4 ≠ 0 then (fn_X10_layMay  (am_si m 10 0 0 0)).bind fun r7 => (fn_X10_fittingFor a1 r7).bind fun r9 => some (r9, r7) else some ((-1), am_si m 10 0 0 0)))
set_option maxRecDepth 100000 in
theorem ex_X10_fitting (d : Nat) (hd : 9 ≤ d) (a1 : Int32) (m : am_m) (t : Int32 × am_m) (h : fn_X10_fitting a1 m = some t) : am_Ex am_cod d 277 [.inr (.inr (some (10, 0))), .inl a1] (am_mk m) (some (.inl t.1)) (am_mk t.2) 0 0 := by
  obtain ⟨d, rfl⟩ : ∃ e, d = e + 1 := ⟨d - 1, by omega⟩
  have htb : am_tab 277 = at_277 := rfl
  refine ⟨Nat.le_of_ble_eq_true rfl, ?_⟩
  unfold fn_X10_fitting at h
  show am_Go d 277 (0, [some (.inr (.inr (some (10, 0)))), some (.inl a1)], [], am_mk m) _ _ 0 0
  refine am_Go.n htb 4 (S' := (6, [some (.inr (.inr (some (10, 0)))), some (.inl a1)], [.inl a1], am_mk (am_si m 10 0 0 0))) rfl ?_
  obtain ⟨r1, h2, h⟩ := am_bd h
  refine am_Go.cl htb rfl (ex_X10_isSet d (by omega) a1 (am_si m 10 0 0 0) r1 h2) ?_
  show am_Go d 277 (9, [some (.inr (.inr (some (10, 0)))), some (.inl a1)], [.inl r1], am_mk (am_si m 10 0 0 0)) _ _ _ _
  by_cases hc3 : r1 = 0
  · rw [if_pos hc3] at h
    refine am_Go.c1 htb (S' := (20, [some (.inr (.inr (some (10, 0)))), some (.inl a1)], [], am_mk (am_si m 10 0 0 0))) (if_pos hc3) ?_
    refine am_Go.n htb 1 (S' := (21, [some (.inr (.inr (some (10, 0)))), some (.inl a1)], [.inl (-1)], am_mk (am_si m 10 0 0 0))) rfl ?_
    cases h
    exact am_Go.rt htb rfl
  · rw [if_neg hc3] at h
    refine am_Go.c1 htb (S' := (12, [some (.inr (.inr (some (10, 0)))), some (.inl a1)], [], am_mk (am_si m 10 0 0 0))) (if_neg hc3) ?_
    refine am_Go.n htb 2 (S' := (14, [some (.inr (.inr (some (10, 0)))), some (.inl a1)], [.inl a1, .inr (.inr (some (10, 0)))], am_mk (am_si m 10 0 0 0))) rfl ?_
    obtain ⟨r4, h5, h⟩ := am_bd h
    refine am_Go.cl htb rfl (ex_X10_areThere d (by omega) a1 (am_si m 10 0 0 0) r4 h5) ?_
    show am_Go d 277 (17, [some (.inr (.inr (some (10, 0)))), some (.inl a1)], [.inl r4], am_mk (am_si m 10 0 0 0)) _ _ _ _
    by_cases hc6 : r4 ≠ 0
    · rw [if_pos hc6] at h
      refine am_Go.c1 htb (S' := (22, [some (.inr (.inr (some (10, 0)))), some (.inl a1)], [], am_mk (am_si m 10 0 0 0))) (if_pos hc6) ?_
      refine am_Go.n htb 1 (S' := (23, [some (.inr (.inr (some (10, 0)))), some (.inl a1)], [.inr (.inr (some (10, 0)))], am_mk (am_si m 10 0 0 0))) rfl ?_
      obtain ⟨r7, h8, h⟩ := am_bd h
      refine am_Go.cl htb rfl (ex_X10_layMay d (by omega)  (am_si m 10 0 0 0) r7 h8) ?_
      show am_Go d 277 (26, [some (.inr (.inr (some (10, 0)))), some (.inl a1)], [], am_mk r7) _ _ _ _
      refine am_Go.n htb 2 (S' := (28, [some (.inr (.inr (some (10, 0)))), some (.inl a1)], [.inl a1, .inr (.inr (some (10, 0)))], am_mk r7)) rfl ?_
      obtain ⟨r9, h10, h⟩ := am_bd h
      refine am_Go.cl htb rfl (ex_X10_fittingFor d (by omega) a1 r7 r9 h10) ?_
      show am_Go d 277 (31, [some (.inr (.inr (some (10, 0)))), some (.inl a1)], [.inl r9], am_mk r7) _ _ _ _
      cases h
      exact am_Go.rt htb rfl
    · rw [if_neg hc6] at h
      refine am_Go.c1 htb (S' := (20, [some (.inr (.inr (some (10, 0)))), some (.inl a1)], [], am_mk (am_si m 10 0 0 0))) (if_neg hc6) ?_
      refine am_Go.n htb 1 (S' := (21, [some (.inr (.inr (some (10, 0)))), some (.inl a1)], [.inl (-1)], am_mk (am_si m 10 0 0 0))) rfl ?_
      cases h
      exact am_Go.rt htb rfl
-- X10_ask
def lp_X10_ask_53 : Nat → Int32 → Int32 → Int32 → Int32 → Int32 → am_m → Option (Int32)
  | 0, _, _, _, _, _, _ => none
  | n + 1, x2, x3, x4, x5, x6, m =>
  (if (m.1 44 0 0) ≤ x6 then some x5 else (if x3 = 0 then some x5 else (fn_X10_sitsWith x6 m).bind fun r16 => (fn_X10_ones (x3 &&& r16) m).bind fun r18 => (fn_X10_ones x3 m).bind fun r20 => lp_X10_ask_53 n x2 x3 (if x4 ≤ (if 0 ≤ (((2 : Int32) * r18) - r20) then (((2 : Int32) * r18) - r20) else (-(((2 : Int32) * r18) - r20))) then x4 else (if 0 ≤ (((2 : Int32) * r18) - r20) then (((2 : Int32) * r18) - r20) else (-(((2 : Int32) * r18) - r20)))) (if x4 ≤ (if 0 ≤ (((2 : Int32) * r18) - r20) then (((2 : Int32) * r18) - r20) else (-(((2 : Int32) * r18) - r20))) then x5 else x6) (x6 + 1) m))
set_option maxRecDepth 100000 in
theorem lt_X10_ask_53 (d : Nat) (hd : 9 ≤ d + 1) {r : Option am_V} {M' : am_M} {kc ks : Nat} {n : Nat} {x2 : Int32} {x3 : Int32} {x4 : Int32} {x5 : Int32} {x6 : Int32} {m : am_m} {t : Int32} (h : lp_X10_ask_53 n x2 x3 x4 x5 x6 m = some t) (hk : am_Go d 278 (141, [some (.inr (.inr (some (10, 0)))), none, some (.inl x2), some (.inl x3), none, some (.inl t), none, none], [], am_mk m) r M' kc ks) : am_Go d 278 (53, [some (.inr (.inr (some (10, 0)))), none, some (.inl x2), some (.inl x3), some (.inl x4), some (.inl x5), some (.inl x6), none], [], am_mk m) r M' kc ks := by
  have htb : am_tab 278 = at_278 := rfl
  induction n generalizing x4 x5 x6 with
  | zero => cases h
  | succ n ih =>
    unfold lp_X10_ask_53 at h
    refine am_Go.n htb 5 (S' := (61, [some (.inr (.inr (some (10, 0)))), none, some (.inl x2), some (.inl x3), some (.inl x4), some (.inl x5), some (.inl x6), none], [.inl (m.1 44 0 0), .inl x6], am_mk m)) rfl ?_
    by_cases hc14 : (m.1 44 0 0) ≤ x6
    · rw [if_pos hc14] at h
      refine am_Go.c1 htb (S' := (141, [some (.inr (.inr (some (10, 0)))), none, some (.inl x2), some (.inl x3), some (.inl x4), some (.inl x5), some (.inl x6), none], [], am_mk m)) (if_pos hc14) ?_
      cases h
      exact am_Go.fg (by exact ⟨rfl, ⟨rfl, ⟨rfl, ⟨rfl, trivial⟩⟩⟩⟩) hk
    · rw [if_neg hc14] at h
      refine am_Go.c1 htb (S' := (64, [some (.inr (.inr (some (10, 0)))), none, some (.inl x2), some (.inl x3), some (.inl x4), some (.inl x5), some (.inl x6), none], [], am_mk m)) (if_neg hc14) ?_
      refine am_Go.n htb 1 (S' := (65, [some (.inr (.inr (some (10, 0)))), none, some (.inl x2), some (.inl x3), some (.inl x4), some (.inl x5), some (.inl x6), none], [.inl x3], am_mk m)) rfl ?_
      by_cases hc15 : x3 = 0
      · rw [if_pos hc15] at h
        refine am_Go.c1 htb (S' := (141, [some (.inr (.inr (some (10, 0)))), none, some (.inl x2), some (.inl x3), some (.inl x4), some (.inl x5), some (.inl x6), none], [], am_mk m)) (if_pos hc15) ?_
        cases h
        exact am_Go.fg (by exact ⟨rfl, ⟨rfl, ⟨rfl, ⟨rfl, trivial⟩⟩⟩⟩) hk
      · rw [if_neg hc15] at h
        refine am_Go.c1 htb (S' := (68, [some (.inr (.inr (some (10, 0)))), none, some (.inl x2), some (.inl x3), some (.inl x4), some (.inl x5), some (.inl x6), none], [], am_mk m)) (if_neg hc15) ?_
        refine am_Go.n htb 4 (S' := (73, [some (.inr (.inr (some (10, 0)))), none, some (.inl x2), some (.inl x3), some (.inl x4), some (.inl x5), some (.inl x6), none], [.inl x6, .inr (.inr (some (10, 0))), .inl x3, .inl 2], am_mk m)) rfl ?_
        obtain ⟨r16, h17, h⟩ := am_bd h
        refine am_Go.cl htb rfl (ex_X10_sitsWith d (by omega) x6 m r16 h17) ?_
        show am_Go d 278 (76, [some (.inr (.inr (some (10, 0)))), none, some (.inl x2), some (.inl x3), some (.inl x4), some (.inl x5), some (.inl x6), none], [.inl r16, .inl x3, .inl 2], am_mk m) _ _ _ _
        refine am_Go.n htb 1 (S' := (77, [some (.inr (.inr (some (10, 0)))), none, some (.inl x2), some (.inl x3), some (.inl x4), some (.inl x5), some (.inl x6), none], [.inl (x3 &&& r16), .inl 2], am_mk m)) rfl ?_
        obtain ⟨r18, h19, h⟩ := am_bd h
        refine am_Go.cl htb rfl (ex_X10_ones d (by omega) (x3 &&& r16) m r18 h19) ?_
        show am_Go d 278 (80, [some (.inr (.inr (some (10, 0)))), none, some (.inl x2), some (.inl x3), some (.inl x4), some (.inl x5), some (.inl x6), none], [.inl r18, .inl 2], am_mk m) _ _ _ _
        refine am_Go.n htb 2 (S' := (82, [some (.inr (.inr (some (10, 0)))), none, some (.inl x2), some (.inl x3), some (.inl x4), some (.inl x5), some (.inl x6), none], [.inl x3, .inl ((2 : Int32) * r18)], am_mk m)) rfl ?_
        obtain ⟨r20, h21, h⟩ := am_bd h
        refine am_Go.cl htb rfl (ex_X10_ones d (by omega) x3 m r20 h21) ?_
        show am_Go d 278 (85, [some (.inr (.inr (some (10, 0)))), none, some (.inl x2), some (.inl x3), some (.inl x4), some (.inl x5), some (.inl x6), none], [.inl r20, .inl ((2 : Int32) * r18)], am_mk m) _ _ _ _
        refine am_Go.n htb 3 (S' := (90, [some (.inr (.inr (some (10, 0)))), none, some (.inl x2), some (.inl x3), some (.inl x4), some (.inl x5), some (.inl x6), some (.inl (((2 : Int32) * r18) - r20))], [.inl (((2 : Int32) * r18) - r20)], am_mk m)) rfl ?_
        refine am_Go.cut (S := (101, [some (.inr (.inr (some (10, 0)))), none, some (.inl x2), some (.inl x3), some (.inl x4), some (.inl x5), some (.inl x6), some (.inl (((2 : Int32) * r18) - r20))], [.inl (if 0 ≤ (((2 : Int32) * r18) - r20) then (((2 : Int32) * r18) - r20) else (-(((2 : Int32) * r18) - r20)))], am_mk m)) ?_ (fun key => ?_)
        · refine am_Go.n htb 3 (S' := (107, [some (.inr (.inr (some (10, 0)))), none, some (.inl x2), some (.inl x3), some (.inl x4), some (.inl x5), some (.inl x6), some (.inl (if 0 ≤ (((2 : Int32) * r18) - r20) then (((2 : Int32) * r18) - r20) else (-(((2 : Int32) * r18) - r20))))], [.inl x4, .inl (if 0 ≤ (((2 : Int32) * r18) - r20) then (((2 : Int32) * r18) - r20) else (-(((2 : Int32) * r18) - r20)))], am_mk m)) rfl ?_
          refine am_Go.cut (S := (117, [some (.inr (.inr (some (10, 0)))), none, some (.inl x2), some (.inl x3), some (.inl x4), some (.inl x5), some (.inl x6), some (.inl (if 0 ≤ (((2 : Int32) * r18) - r20) then (((2 : Int32) * r18) - r20) else (-(((2 : Int32) * r18) - r20))))], [.inl (if x4 ≤ (if 0 ≤ (((2 : Int32) * r18) - r20) then (((2 : Int32) * r18) - r20) else (-(((2 : Int32) * r18) - r20))) then x5 else x6)], am_mk m)) ?_ (fun key => ?_)
          · refine am_Go.n htb 3 (S' := (123, [some (.inr (.inr (some (10, 0)))), none, some (.inl x2), some (.inl x3), some (.inl x4), some (.inl (if x4 ≤ (if 0 ≤ (((2 : Int32) * r18) - r20) then (((2 : Int32) * r18) - r20) else (-(((2 : Int32) * r18) - r20))) then x5 else x6)), some (.inl x6), some (.inl (if 0 ≤ (((2 : Int32) * r18) - r20) then (((2 : Int32) * r18) - r20) else (-(((2 : Int32) * r18) - r20))))], [.inl x4, .inl (if 0 ≤ (((2 : Int32) * r18) - r20) then (((2 : Int32) * r18) - r20) else (-(((2 : Int32) * r18) - r20)))], am_mk m)) rfl ?_
            refine am_Go.cut (S := (133, [some (.inr (.inr (some (10, 0)))), none, some (.inl x2), some (.inl x3), some (.inl x4), some (.inl (if x4 ≤ (if 0 ≤ (((2 : Int32) * r18) - r20) then (((2 : Int32) * r18) - r20) else (-(((2 : Int32) * r18) - r20))) then x5 else x6)), some (.inl x6), some (.inl (if 0 ≤ (((2 : Int32) * r18) - r20) then (((2 : Int32) * r18) - r20) else (-(((2 : Int32) * r18) - r20))))], [.inl (if x4 ≤ (if 0 ≤ (((2 : Int32) * r18) - r20) then (((2 : Int32) * r18) - r20) else (-(((2 : Int32) * r18) - r20))) then x4 else (if 0 ≤ (((2 : Int32) * r18) - r20) then (((2 : Int32) * r18) - r20) else (-(((2 : Int32) * r18) - r20))))], am_mk m)) ?_ (fun key => ?_)
            · refine am_Go.n htb 3 (S' := (53, [some (.inr (.inr (some (10, 0)))), none, some (.inl x2), some (.inl x3), some (.inl (if x4 ≤ (if 0 ≤ (((2 : Int32) * r18) - r20) then (((2 : Int32) * r18) - r20) else (-(((2 : Int32) * r18) - r20))) then x4 else (if 0 ≤ (((2 : Int32) * r18) - r20) then (((2 : Int32) * r18) - r20) else (-(((2 : Int32) * r18) - r20))))), some (.inl (if x4 ≤ (if 0 ≤ (((2 : Int32) * r18) - r20) then (((2 : Int32) * r18) - r20) else (-(((2 : Int32) * r18) - r20))) then x5 else x6)), some (.inl (x6 + 1)), some (.inl (if 0 ≤ (((2 : Int32) * r18) - r20) then (((2 : Int32) * r18) - r20) else (-(((2 : Int32) * r18) - r20))))], [], am_mk m)) rfl ?_
              refine am_Go.fg (L0 := [some (.inr (.inr (some (10, 0)))), none, some (.inl x2), some (.inl x3), some (.inl (if x4 ≤ (if 0 ≤ (((2 : Int32) * r18) - r20) then (((2 : Int32) * r18) - r20) else (-(((2 : Int32) * r18) - r20))) then x4 else (if 0 ≤ (((2 : Int32) * r18) - r20) then (((2 : Int32) * r18) - r20) else (-(((2 : Int32) * r18) - r20))))), some (.inl (if x4 ≤ (if 0 ≤ (((2 : Int32) * r18) - r20) then (((2 : Int32) * r18) - r20) else (-(((2 : Int32) * r18) - r20))) then x5 else x6)), some (.inl (x6 + 1)), none]) (by exact ⟨rfl, ⟨rfl, ⟨rfl, ⟨rfl, ⟨rfl, ⟨rfl, trivial⟩⟩⟩⟩⟩⟩) ?_
              first | exact ih h | exact ih h hk
            · by_cases hc24 : x4 ≤ (if 0 ≤ (((2 : Int32) * r18) - r20) then (((2 : Int32) * r18) - r20) else (-(((2 : Int32) * r18) - r20)))
              · refine am_Go.c1 htb (S' := (131, [some (.inr (.inr (some (10, 0)))), none, some (.inl x2), some (.inl x3), some (.inl x4), some (.inl (if x4 ≤ (if 0 ≤ (((2 : Int32) * r18) - r20) then (((2 : Int32) * r18) - r20) else (-(((2 : Int32) * r18) - r20))) then x5 else x6)), some (.inl x6), some (.inl (if 0 ≤ (((2 : Int32) * r18) - r20) then (((2 : Int32) * r18) - r20) else (-(((2 : Int32) * r18) - r20))))], [], am_mk m)) (if_pos hc24) ?_
                refine am_Go.n htb 1 (S' := (133, [some (.inr (.inr (some (10, 0)))), none, some (.inl x2), some (.inl x3), some (.inl x4), some (.inl (if x4 ≤ (if 0 ≤ (((2 : Int32) * r18) - r20) then (((2 : Int32) * r18) - r20) else (-(((2 : Int32) * r18) - r20))) then x5 else x6)), some (.inl x6), some (.inl (if 0 ≤ (((2 : Int32) * r18) - r20) then (((2 : Int32) * r18) - r20) else (-(((2 : Int32) * r18) - r20))))], [.inl x4], am_mk m)) rfl ?_
                simp only [if_pos hc24] at key
                exact am_Go.fg (by exact ⟨rfl, ⟨rfl, ⟨rfl, ⟨rfl, ⟨rfl, ⟨rfl, ⟨rfl, trivial⟩⟩⟩⟩⟩⟩⟩) key
              · refine am_Go.c1 htb (S' := (126, [some (.inr (.inr (some (10, 0)))), none, some (.inl x2), some (.inl x3), some (.inl x4), some (.inl (if x4 ≤ (if 0 ≤ (((2 : Int32) * r18) - r20) then (((2 : Int32) * r18) - r20) else (-(((2 : Int32) * r18) - r20))) then x5 else x6)), some (.inl x6), some (.inl (if 0 ≤ (((2 : Int32) * r18) - r20) then (((2 : Int32) * r18) - r20) else (-(((2 : Int32) * r18) - r20))))], [], am_mk m)) (if_neg hc24) ?_
                refine am_Go.n htb 2 (S' := (133, [some (.inr (.inr (some (10, 0)))), none, some (.inl x2), some (.inl x3), some (.inl x4), some (.inl (if x4 ≤ (if 0 ≤ (((2 : Int32) * r18) - r20) then (((2 : Int32) * r18) - r20) else (-(((2 : Int32) * r18) - r20))) then x5 else x6)), some (.inl x6), some (.inl (if 0 ≤ (((2 : Int32) * r18) - r20) then (((2 : Int32) * r18) - r20) else (-(((2 : Int32) * r18) - r20))))], [.inl (if 0 ≤ (((2 : Int32) * r18) - r20) then (((2 : Int32) * r18) - r20) else (-(((2 : Int32) * r18) - r20)))], am_mk m)) rfl ?_
                simp only [if_neg hc24] at key
                exact am_Go.fg (by exact ⟨rfl, ⟨rfl, ⟨rfl, ⟨rfl, ⟨rfl, ⟨rfl, ⟨rfl, trivial⟩⟩⟩⟩⟩⟩⟩) key
          · by_cases hc23 : x4 ≤ (if 0 ≤ (((2 : Int32) * r18) - r20) then (((2 : Int32) * r18) - r20) else (-(((2 : Int32) * r18) - r20)))
            · refine am_Go.c1 htb (S' := (115, [some (.inr (.inr (some (10, 0)))), none, some (.inl x2), some (.inl x3), some (.inl x4), some (.inl x5), some (.inl x6), some (.inl (if 0 ≤ (((2 : Int32) * r18) - r20) then (((2 : Int32) * r18) - r20) else (-(((2 : Int32) * r18) - r20))))], [], am_mk m)) (if_pos hc23) ?_
              refine am_Go.n htb 1 (S' := (117, [some (.inr (.inr (some (10, 0)))), none, some (.inl x2), some (.inl x3), some (.inl x4), some (.inl x5), some (.inl x6), some (.inl (if 0 ≤ (((2 : Int32) * r18) - r20) then (((2 : Int32) * r18) - r20) else (-(((2 : Int32) * r18) - r20))))], [.inl x5], am_mk m)) rfl ?_
              simp only [if_pos hc23] at key
              exact am_Go.fg (by exact ⟨rfl, ⟨rfl, ⟨rfl, ⟨rfl, ⟨rfl, ⟨rfl, ⟨rfl, trivial⟩⟩⟩⟩⟩⟩⟩) key
            · refine am_Go.c1 htb (S' := (110, [some (.inr (.inr (some (10, 0)))), none, some (.inl x2), some (.inl x3), some (.inl x4), some (.inl x5), some (.inl x6), some (.inl (if 0 ≤ (((2 : Int32) * r18) - r20) then (((2 : Int32) * r18) - r20) else (-(((2 : Int32) * r18) - r20))))], [], am_mk m)) (if_neg hc23) ?_
              refine am_Go.n htb 2 (S' := (117, [some (.inr (.inr (some (10, 0)))), none, some (.inl x2), some (.inl x3), some (.inl x4), some (.inl x5), some (.inl x6), some (.inl (if 0 ≤ (((2 : Int32) * r18) - r20) then (((2 : Int32) * r18) - r20) else (-(((2 : Int32) * r18) - r20))))], [.inl x6], am_mk m)) rfl ?_
              simp only [if_neg hc23] at key
              exact am_Go.fg (by exact ⟨rfl, ⟨rfl, ⟨rfl, ⟨rfl, ⟨rfl, ⟨rfl, ⟨rfl, trivial⟩⟩⟩⟩⟩⟩⟩) key
        · by_cases hc22 : 0 ≤ (((2 : Int32) * r18) - r20)
          · refine am_Go.c1 htb (S' := (99, [some (.inr (.inr (some (10, 0)))), none, some (.inl x2), some (.inl x3), some (.inl x4), some (.inl x5), some (.inl x6), some (.inl (((2 : Int32) * r18) - r20))], [], am_mk m)) (if_pos hc22) ?_
            refine am_Go.n htb 1 (S' := (101, [some (.inr (.inr (some (10, 0)))), none, some (.inl x2), some (.inl x3), some (.inl x4), some (.inl x5), some (.inl x6), some (.inl (((2 : Int32) * r18) - r20))], [.inl (((2 : Int32) * r18) - r20)], am_mk m)) rfl ?_
            simp only [if_pos hc22] at key
            exact am_Go.fg (by exact ⟨rfl, ⟨rfl, ⟨rfl, ⟨rfl, ⟨rfl, ⟨rfl, ⟨rfl, trivial⟩⟩⟩⟩⟩⟩⟩) key
          · refine am_Go.c1 htb (S' := (93, [some (.inr (.inr (some (10, 0)))), none, some (.inl x2), some (.inl x3), some (.inl x4), some (.inl x5), some (.inl x6), some (.inl (((2 : Int32) * r18) - r20))], [], am_mk m)) (if_neg hc22) ?_
            refine am_Go.n htb 3 (S' := (101, [some (.inr (.inr (some (10, 0)))), none, some (.inl x2), some (.inl x3), some (.inl x4), some (.inl x5), some (.inl x6), some (.inl (((2 : Int32) * r18) - r20))], [.inl (-(((2 : Int32) * r18) - r20))], am_mk m)) rfl ?_
            simp only [if_neg hc22] at key
            exact am_Go.fg (by exact ⟨rfl, ⟨rfl, ⟨rfl, ⟨rfl, ⟨rfl, ⟨rfl, ⟨rfl, trivial⟩⟩⟩⟩⟩⟩⟩) key
def fn_X10_ask (a1 : Int32) (a2 : Int32) (m : am_m) : Option (Int32 × am_m) :=
  (fn_X10_isSet a1 (am_si m 10 0 0 0)).bind fun r1 => (if r1 = 0 then some ((-1), am_si m 10 0 0 0) else (fn_X10_areThere a1 (am_si m 10 0 0 0)).bind fun r4 => (if r4 = 0 then some ((-1), am_si m 10 0 0 0) else (fn_X10_in a2.toInt64 0 1 (am_si m 10 0 0 0)).bind fun r7 => (if r7 ≠ 0 then (fn_X10_layMay  (am_si m 10 0 0 0)).bind fun r10 => (fn_X10_fittingFor a1 r10).bind fun r12 => (lp_X10_ask_53 1000000 a2 r12 100000000 (-1) 0 r10).bind fun q25 => (if q25 = (-1 : Int32) then some (q25, r10) else (if a2 ≠ 0 then (fn_X10_sitsWith q25 r10).bind fun r29 => (fn_X10_ones (r12 &&& r29) r10).bind fun r31 => some (r31, r10) else some (q25, r10))) else some ((-1), am_si m 10 0 0 0))))
set_option maxRecDepth 100000 in
theorem ex_X10_ask (d : Nat) (hd : 9 ≤ d) (a1 : Int32) (a2 : Int32) (m : am_m) (t : Int32 × am_m) (h : fn_X10_ask a1 a2 m = some t) : am_Ex am_cod d 278 [.inr (.inr (some (10, 0))), .inl a1, .inl a2] (am_mk m) (some (.inl t.1)) (am_mk t.2) 0 0 := by
  obtain ⟨d, rfl⟩ : ∃ e, d = e + 1 := ⟨d - 1, by omega⟩
  have htb : am_tab 278 = at_278 := rfl
  refine ⟨Nat.le_of_ble_eq_true rfl, ?_⟩
  unfold fn_X10_ask at h
  show am_Go d 278 (0, [some (.inr (.inr (some (10, 0)))), some (.inl a1), some (.inl a2), none, none, none, none, none], [], am_mk m) _ _ 0 0
  refine am_Go.n htb 4 (S' := (6, [some (.inr (.inr (some (10, 0)))), some (.inl a1), some (.inl a2), none, none, none, none, none], [.inl a1], am_mk (am_si m 10 0 0 0))) rfl ?_
  obtain ⟨r1, h2, h⟩ := am_bd h
  refine am_Go.cl htb rfl (ex_X10_isSet d (by omega) a1 (am_si m 10 0 0 0) r1 h2) ?_
  show am_Go d 278 (9, [some (.inr (.inr (some (10, 0)))), some (.inl a1), some (.inl a2), none, none, none, none, none], [.inl r1], am_mk (am_si m 10 0 0 0)) _ _ _ _
  by_cases hc3 : r1 = 0
  · rw [if_pos hc3] at h
    refine am_Go.c1 htb (S' := (30, [some (.inr (.inr (some (10, 0)))), some (.inl a1), some (.inl a2), none, none, none, none, none], [], am_mk (am_si m 10 0 0 0))) (if_pos hc3) ?_
    refine am_Go.n htb 1 (S' := (31, [some (.inr (.inr (some (10, 0)))), some (.inl a1), some (.inl a2), none, none, none, none, none], [.inl (-1)], am_mk (am_si m 10 0 0 0))) rfl ?_
    cases h
    exact am_Go.rt htb rfl
  · rw [if_neg hc3] at h
    refine am_Go.c1 htb (S' := (12, [some (.inr (.inr (some (10, 0)))), some (.inl a1), some (.inl a2), none, none, none, none, none], [], am_mk (am_si m 10 0 0 0))) (if_neg hc3) ?_
    refine am_Go.n htb 2 (S' := (14, [some (.inr (.inr (some (10, 0)))), some (.inl a1), some (.inl a2), none, none, none, none, none], [.inl a1, .inr (.inr (some (10, 0)))], am_mk (am_si m 10 0 0 0))) rfl ?_
    obtain ⟨r4, h5, h⟩ := am_bd h
    refine am_Go.cl htb rfl (ex_X10_areThere d (by omega) a1 (am_si m 10 0 0 0) r4 h5) ?_
    show am_Go d 278 (17, [some (.inr (.inr (some (10, 0)))), some (.inl a1), some (.inl a2), none, none, none, none, none], [.inl r4], am_mk (am_si m 10 0 0 0)) _ _ _ _
    by_cases hc6 : r4 = 0
    · rw [if_pos hc6] at h
      refine am_Go.c1 htb (S' := (30, [some (.inr (.inr (some (10, 0)))), some (.inl a1), some (.inl a2), none, none, none, none, none], [], am_mk (am_si m 10 0 0 0))) (if_pos hc6) ?_
      refine am_Go.n htb 1 (S' := (31, [some (.inr (.inr (some (10, 0)))), some (.inl a1), some (.inl a2), none, none, none, none, none], [.inl (-1)], am_mk (am_si m 10 0 0 0))) rfl ?_
      cases h
      exact am_Go.rt htb rfl
    · rw [if_neg hc6] at h
      refine am_Go.c1 htb (S' := (20, [some (.inr (.inr (some (10, 0)))), some (.inl a1), some (.inl a2), none, none, none, none, none], [], am_mk (am_si m 10 0 0 0))) (if_neg hc6) ?_
      refine am_Go.n htb 4 (S' := (24, [some (.inr (.inr (some (10, 0)))), some (.inl a1), some (.inl a2), none, none, none, none, none], [.inr (.inl 1), .inr (.inl 0), .inr (.inl a2.toInt64)], am_mk (am_si m 10 0 0 0))) rfl ?_
      obtain ⟨r7, h8, h⟩ := am_bd h
      refine am_Go.cl htb rfl (ex_X10_in d (by omega) a2.toInt64 0 1 (am_si m 10 0 0 0) r7 h8) ?_
      show am_Go d 278 (27, [some (.inr (.inr (some (10, 0)))), some (.inl a1), some (.inl a2), none, none, none, none, none], [.inl r7], am_mk (am_si m 10 0 0 0)) _ _ _ _
      by_cases hc9 : r7 ≠ 0
      · rw [if_pos hc9] at h
        refine am_Go.c1 htb (S' := (32, [some (.inr (.inr (some (10, 0)))), some (.inl a1), some (.inl a2), none, none, none, none, none], [], am_mk (am_si m 10 0 0 0))) (if_pos hc9) ?_
        refine am_Go.n htb 1 (S' := (33, [some (.inr (.inr (some (10, 0)))), some (.inl a1), some (.inl a2), none, none, none, none, none], [.inr (.inr (some (10, 0)))], am_mk (am_si m 10 0 0 0))) rfl ?_
        obtain ⟨r10, h11, h⟩ := am_bd h
        refine am_Go.cl htb rfl (ex_X10_layMay d (by omega)  (am_si m 10 0 0 0) r10 h11) ?_
        show am_Go d 278 (36, [some (.inr (.inr (some (10, 0)))), some (.inl a1), some (.inl a2), none, none, none, none, none], [], am_mk r10) _ _ _ _
        refine am_Go.n htb 2 (S' := (38, [some (.inr (.inr (some (10, 0)))), some (.inl a1), some (.inl a2), none, none, none, none, none], [.inl a1, .inr (.inr (some (10, 0)))], am_mk r10)) rfl ?_
        obtain ⟨r12, h13, h⟩ := am_bd h
        refine am_Go.cl htb rfl (ex_X10_fittingFor d (by omega) a1 r10 r12 h13) ?_
        show am_Go d 278 (41, [some (.inr (.inr (some (10, 0)))), some (.inl a1), some (.inl a2), none, none, none, none, none], [.inl r12], am_mk r10) _ _ _ _
        refine am_Go.n htb 7 (S' := (53, [some (.inr (.inr (some (10, 0)))), some (.inl a1), some (.inl a2), some (.inl r12), some (.inl 100000000), some (.inl (-1)), some (.inl 0), none], [], am_mk r10)) rfl ?_
        refine am_Go.fg (L0 := [some (.inr (.inr (some (10, 0)))), none, some (.inl a2), some (.inl r12), some (.inl 100000000), some (.inl (-1)), some (.inl 0), none]) (by exact ⟨rfl, ⟨rfl, ⟨rfl, ⟨rfl, ⟨rfl, ⟨rfl, trivial⟩⟩⟩⟩⟩⟩) ?_
        obtain ⟨q25, h26, h⟩ := am_bd h
        refine lt_X10_ask_53 _ hd (h := h26) (hk := ?_)
        refine am_Go.n htb 2 (S' := (144, [some (.inr (.inr (some (10, 0)))), none, some (.inl a2), some (.inl r12), none, some (.inl q25), none, none], [.inl (-1), .inl q25], am_mk r10)) rfl ?_
        by_cases hc27 : q25 = (-1 : Int32)
        · rw [if_pos hc27] at h
          refine am_Go.c1 htb (S' := (151, [some (.inr (.inr (some (10, 0)))), none, some (.inl a2), some (.inl r12), none, some (.inl q25), none, none], [], am_mk r10)) (if_pos hc27) ?_
          refine am_Go.n htb 2 (S' := (167, [some (.inr (.inr (some (10, 0)))), none, some (.inl a2), some (.inl r12), none, some (.inl q25), none, none], [.inl q25], am_mk r10)) rfl ?_
          cases h
          exact am_Go.rt htb rfl
        · rw [if_neg hc27] at h
          refine am_Go.c1 htb (S' := (147, [some (.inr (.inr (some (10, 0)))), none, some (.inl a2), some (.inl r12), none, some (.inl q25), none, none], [], am_mk r10)) (if_neg hc27) ?_
          refine am_Go.n htb 1 (S' := (148, [some (.inr (.inr (some (10, 0)))), none, some (.inl a2), some (.inl r12), none, some (.inl q25), none, none], [.inl a2], am_mk r10)) rfl ?_
          by_cases hc28 : a2 ≠ 0
          · rw [if_pos hc28] at h
            refine am_Go.c1 htb (S' := (156, [some (.inr (.inr (some (10, 0)))), none, some (.inl a2), some (.inl r12), none, some (.inl q25), none, none], [], am_mk r10)) (if_pos hc28) ?_
            refine am_Go.n htb 3 (S' := (160, [some (.inr (.inr (some (10, 0)))), none, some (.inl a2), some (.inl r12), none, some (.inl q25), none, none], [.inl q25, .inr (.inr (some (10, 0))), .inl r12], am_mk r10)) rfl ?_
            obtain ⟨r29, h30, h⟩ := am_bd h
            refine am_Go.cl htb rfl (ex_X10_sitsWith d (by omega) q25 r10 r29 h30) ?_
            show am_Go d 278 (163, [some (.inr (.inr (some (10, 0)))), none, some (.inl a2), some (.inl r12), none, some (.inl q25), none, none], [.inl r29, .inl r12], am_mk r10) _ _ _ _
            refine am_Go.n htb 1 (S' := (164, [some (.inr (.inr (some (10, 0)))), none, some (.inl a2), some (.inl r12), none, some (.inl q25), none, none], [.inl (r12 &&& r29)], am_mk r10)) rfl ?_
            obtain ⟨r31, h32, h⟩ := am_bd h
            refine am_Go.cl htb rfl (ex_X10_ones d (by omega) (r12 &&& r29) r10 r31 h32) ?_
            show am_Go d 278 (167, [some (.inr (.inr (some (10, 0)))), none, some (.inl a2), some (.inl r12), none, some (.inl q25), none, none], [.inl r31], am_mk r10) _ _ _ _
            cases h
            exact am_Go.rt htb rfl
          · rw [if_neg hc28] at h
            refine am_Go.c1 htb (S' := (151, [some (.inr (.inr (some (10, 0)))), none, some (.inl a2), some (.inl r12), none, some (.inl q25), none, none], [], am_mk r10)) (if_neg hc28) ?_
            refine am_Go.n htb 2 (S' := (167, [some (.inr (.inr (some (10, 0)))), none, some (.inl a2), some (.inl r12), none, some (.inl q25), none, none], [.inl q25], am_mk r10)) rfl ?_
            cases h
            exact am_Go.rt htb rfl
      · rw [if_neg hc9] at h
        refine am_Go.c1 htb (S' := (30, [some (.inr (.inr (some (10, 0)))), some (.inl a1), some (.inl a2), none, none, none, none, none], [], am_mk (am_si m 10 0 0 0))) (if_neg hc9) ?_
        refine am_Go.n htb 1 (S' := (31, [some (.inr (.inr (some (10, 0)))), some (.inl a1), some (.inl a2), none, none, none, none, none], [.inl (-1)], am_mk (am_si m 10 0 0 0))) rfl ?_
        cases h
        exact am_Go.rt htb rfl
