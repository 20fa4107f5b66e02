-- X10_isSo
set_option maxRecDepth 100000 in
theorem ex_X10_isSo (d : Nat) (hd : 4 ≤ d) (a1 : Int32) (m : am_m) (t : Int32 × am_m) (h : fn_X10_isSo a1 m = some t) : am_Ex am_cod d 234 [.inr (.inr (some (10, 0))), .inl a1] (am_mk m) (some (.inl t.1)) (am_mk t.2) 0 0 := by
  obtain ⟨d, rfl⟩ : ∃ e, d = e + 1 := ⟨d - 1, by omega⟩
  have htb : am_tab 234 = at_234 := rfl
  refine ⟨Nat.le_of_ble_eq_true rfl, ?_⟩
  unfold fn_X10_isSo at h
  show am_Go d 234 (0, [some (.inr (.inr (some (10, 0)))), some (.inl a1)], [], am_mk m) _ _ 0 0
  refine am_Go.n htb 5 (S' := (7, [some (.inr (.inr (some (10, 0)))), some (.inl a1)], [.inl (a1 + (5 : Int32)), .inr (.inr (some (44, 0)))], am_mk m)) rfl ?_
  obtain ⟨hg1, h⟩ := am_ck_some h
  refine am_Go.c1 htb (S' := (8, [some (.inr (.inr (some (10, 0)))), some (.inl a1)], [.inl (m.1 44 0 (a1 + (5 : Int32)).toNatClampNeg)], am_mk m)) (if_neg hg1) ?_
  refine am_Go.n htb 5 (S' := (16, [some (.inr (.inr (some (10, 0)))), some (.inl a1)], [.inl (a1 + (6 : Int32)), .inr (.inr (some (44, 0))), .inl (m.1 44 0 (a1 + (5 : Int32)).toNatClampNeg)], am_mk m)) rfl ?_
  obtain ⟨hg2, h⟩ := am_ck_some h
  refine am_Go.c1 htb (S' := (17, [some (.inr (.inr (some (10, 0)))), some (.inl a1)], [.inl (m.1 44 0 (a1 + (6 : Int32)).toNatClampNeg), .inl (m.1 44 0 (a1 + (5 : Int32)).toNatClampNeg)], am_mk m)) (if_neg hg2) ?_
  by_cases hc3 : (m.1 44 0 (a1 + (6 : Int32)).toNatClampNeg) ≤ (m.1 44 0 (a1 + (5 : Int32)).toNatClampNeg)
  · rw [if_pos hc3] at h
    refine am_Go.c1 htb (S' := (59, [some (.inr (.inr (some (10, 0)))), some (.inl a1)], [], am_mk m)) (if_pos hc3) ?_
    refine am_Go.n htb 3 (S' := (64, [some (.inr (.inr (some (10, 0)))), some (.inl a1)], [.inl a1, .inr (.inr (some (44, 0)))], am_mk m)) rfl ?_
    obtain ⟨hg4, h⟩ := am_ck_some h
    refine am_Go.c1 htb (S' := (65, [some (.inr (.inr (some (10, 0)))), some (.inl a1)], [.inl (m.1 44 0 a1.toNatClampNeg)], am_mk m)) (if_neg hg4) ?_
    refine am_Go.n htb 1 (S' := (66, [some (.inr (.inr (some (10, 0)))), some (.inl a1)], [.inl 3, .inl (m.1 44 0 a1.toNatClampNeg)], am_mk m)) rfl ?_
    by_cases hc5 : (m.1 44 0 a1.toNatClampNeg) = (3 : Int32)
    · rw [if_pos hc5] at h
      refine am_Go.c1 htb (S' := (110, [some (.inr (.inr (some (10, 0)))), some (.inl a1)], [], am_mk m)) (if_pos hc5) ?_
      refine am_Go.n htb 1 (S' := (111, [some (.inr (.inr (some (10, 0)))), some (.inl a1)], [.inl 1], am_mk m)) rfl ?_
      cases h
      exact am_Go.rt htb rfl
    · rw [if_neg hc5] at h
      refine am_Go.c1 htb (S' := (69, [some (.inr (.inr (some (10, 0)))), some (.inl a1)], [], am_mk m)) (if_neg hc5) ?_
      refine am_Go.n htb 6 (S' := (77, [some (.inr (.inr (some (10, 0)))), some (.inl a1)], [.inl (a1 + (3 : Int32)), .inr (.inr (some (44, 0))), .inr (.inr (some (10, 0)))], am_mk m)) rfl ?_
      obtain ⟨hg6, h⟩ := am_ck_some h
      refine am_Go.c1 htb (S' := (78, [some (.inr (.inr (some (10, 0)))), some (.inl a1)], [.inl (m.1 44 0 (a1 + (3 : Int32)).toNatClampNeg), .inr (.inr (some (10, 0)))], am_mk m)) (if_neg hg6) ?_
      refine am_Go.n htb 5 (S' := (85, [some (.inr (.inr (some (10, 0)))), some (.inl a1)], [.inl (a1 + (4 : Int32)), .inr (.inr (some (44, 0))), .inl (m.1 44 0 (a1 + (3 : Int32)).toNatClampNeg), .inr (.inr (some (10, 0)))], am_mk m)) rfl ?_
      obtain ⟨hg7, h⟩ := am_ck_some h
      refine am_Go.c1 htb (S' := (86, [some (.inr (.inr (some (10, 0)))), some (.inl a1)], [.inl (m.1 44 0 (a1 + (4 : Int32)).toNatClampNeg), .inl (m.1 44 0 (a1 + (3 : Int32)).toNatClampNeg), .inr (.inr (some (10, 0)))], am_mk m)) (if_neg hg7) ?_
      obtain ⟨r8, h9, h⟩ := am_bd h
      refine am_Go.cl htb rfl (ex_X10_reckonAll d (by omega) (m.1 44 0 (a1 + (3 : Int32)).toNatClampNeg) (m.1 44 0 (a1 + (4 : Int32)).toNatClampNeg) m r8 h9) ?_
      show am_Go d 234 (89, [some (.inr (.inr (some (10, 0)))), some (.inl a1)], [], am_mk r8) _ _ _ _
      refine am_Go.n htb 6 (S' := (101, [some (.inr (.inr (some (10, 0)))), some (.inl a1)], [.inl (r8.1 10 0 38)], am_mk (am_sg r8 10 0 40 (r8.2.1 10 0 39)))) rfl ?_
      by_cases hc10 : (r8.1 10 0 38) ≠ 0
      · rw [if_pos hc10] at h
        refine am_Go.c1 htb (S' := (108, [some (.inr (.inr (some (10, 0)))), some (.inl a1)], [], am_mk (am_sg r8 10 0 40 (r8.2.1 10 0 39)))) (if_pos hc10) ?_
        refine am_Go.n htb 1 (S' := (109, [some (.inr (.inr (some (10, 0)))), some (.inl a1)], [.inl 0], am_mk (am_sg r8 10 0 40 (r8.2.1 10 0 39)))) rfl ?_
        cases h
        exact am_Go.rt htb rfl
      · rw [if_neg hc10] at h
        refine am_Go.c1 htb (S' := (104, [some (.inr (.inr (some (10, 0)))), some (.inl a1)], [], am_mk (am_sg r8 10 0 40 (r8.2.1 10 0 39)))) (if_neg hc10) ?_
        refine am_Go.n htb 2 (S' := (109, [some (.inr (.inr (some (10, 0)))), some (.inl a1)], [.inl 1], am_mk (am_sg r8 10 0 40 (r8.2.1 10 0 39)))) rfl ?_
        cases h
        exact am_Go.rt htb rfl
  · rw [if_neg hc3] at h
    refine am_Go.c1 htb (S' := (20, [some (.inr (.inr (some (10, 0)))), some (.inl a1)], [], am_mk m)) (if_neg hc3) ?_
    refine am_Go.n htb 6 (S' := (28, [some (.inr (.inr (some (10, 0)))), some (.inl a1)], [.inl (a1 + (5 : Int32)), .inr (.inr (some (44, 0))), .inr (.inr (some (10, 0)))], am_mk m)) rfl ?_
    obtain ⟨hg11, h⟩ := am_ck_some h
    refine am_Go.c1 htb (S' := (29, [some (.inr (.inr (some (10, 0)))), some (.inl a1)], [.inl (m.1 44 0 (a1 + (5 : Int32)).toNatClampNeg), .inr (.inr (some (10, 0)))], am_mk m)) (if_neg hg11) ?_
    refine am_Go.n htb 5 (S' := (37, [some (.inr (.inr (some (10, 0)))), some (.inl a1)], [.inl (a1 + (6 : Int32)), .inr (.inr (some (44, 0))), .inl (m.1 44 0 (a1 + (5 : Int32)).toNatClampNeg), .inr (.inr (some (10, 0)))], am_mk m)) rfl ?_
    obtain ⟨hg12, h⟩ := am_ck_some h
    refine am_Go.c1 htb (S' := (38, [some (.inr (.inr (some (10, 0)))), some (.inl a1)], [.inl (m.1 44 0 (a1 + (6 : Int32)).toNatClampNeg), .inl (m.1 44 0 (a1 + (5 : Int32)).toNatClampNeg), .inr (.inr (some (10, 0)))], am_mk m)) (if_neg hg12) ?_
    obtain ⟨r13, h14, h⟩ := am_bd h
    refine am_Go.cl htb rfl (ex_X10_reckonAll d (by omega) (m.1 44 0 (a1 + (5 : Int32)).toNatClampNeg) (m.1 44 0 (a1 + (6 : Int32)).toNatClampNeg) m r13 h14) ?_
    show am_Go d 234 (41, [some (.inr (.inr (some (10, 0)))), some (.inl a1)], [], am_mk r13) _ _ _ _
    refine am_Go.n htb 2 (S' := (45, [some (.inr (.inr (some (10, 0)))), some (.inl a1)], [.inl (r13.1 10 0 38)], am_mk r13)) rfl ?_
    by_cases hc15 : (r13.1 10 0 38) ≠ 0
    · rw [if_pos hc15] at h
      refine am_Go.c1 htb (S' := (57, [some (.inr (.inr (some (10, 0)))), some (.inl a1)], [], am_mk r13)) (if_pos hc15) ?_
      refine am_Go.n htb 1 (S' := (58, [some (.inr (.inr (some (10, 0)))), some (.inl a1)], [.inl 0], am_mk r13)) rfl ?_
      cases h
      exact am_Go.rt htb rfl
    · rw [if_neg hc15] at h
      refine am_Go.c1 htb (S' := (48, [some (.inr (.inr (some (10, 0)))), some (.inl a1)], [], am_mk r13)) (if_neg hc15) ?_
      refine am_Go.n htb 4 (S' := (54, [some (.inr (.inr (some (10, 0)))), some (.inl a1)], [.inl (lg_cmp (r13.2.1 10 0 39) (0 : Int64))], am_mk r13)) rfl ?_
      by_cases hc16 : (lg_cmp (r13.2.1 10 0 39) (0 : Int64)) ≠ 0
      · rw [if_pos hc16] at h
        refine am_Go.c1 htb (S' := (59, [some (.inr (.inr (some (10, 0)))), some (.inl a1)], [], am_mk r13)) (if_pos hc16) ?_
        refine am_Go.n htb 3 (S' := (64, [some (.inr (.inr (some (10, 0)))), some (.inl a1)], [.inl a1, .inr (.inr (some (44, 0)))], am_mk r13)) rfl ?_
        obtain ⟨hg17, h⟩ := am_ck_some h
        refine am_Go.c1 htb (S' := (65, [some (.inr (.inr (some (10, 0)))), some (.inl a1)], [.inl (r13.1 44 0 a1.toNatClampNeg)], am_mk r13)) (if_neg hg17) ?_
        refine am_Go.n htb 1 (S' := (66, [some (.inr (.inr (some (10, 0)))), some (.inl a1)], [.inl 3, .inl (r13.1 44 0 a1.toNatClampNeg)], am_mk r13)) rfl ?_
        by_cases hc18 : (r13.1 44 0 a1.toNatClampNeg) = (3 : Int32)
        · rw [if_pos hc18] at h
          refine am_Go.c1 htb (S' := (110, [some (.inr (.inr (some (10, 0)))), some (.inl a1)], [], am_mk r13)) (if_pos hc18) ?_
          refine am_Go.n htb 1 (S' := (111, [some (.inr (.inr (some (10, 0)))), some (.inl a1)], [.inl 1], am_mk r13)) rfl ?_
          cases h
          exact am_Go.rt htb rfl
        · rw [if_neg hc18] at h
          refine am_Go.c1 htb (S' := (69, [some (.inr (.inr (some (10, 0)))), some (.inl a1)], [], am_mk r13)) (if_neg hc18) ?_
          refine am_Go.n htb 6 (S' := (77, [some (.inr (.inr (some (10, 0)))), some (.inl a1)], [.inl (a1 + (3 : Int32)), .inr (.inr (some (44, 0))), .inr (.inr (some (10, 0)))], am_mk r13)) rfl ?_
          obtain ⟨hg19, h⟩ := am_ck_some h
          refine am_Go.c1 htb (S' := (78, [some (.inr (.inr (some (10, 0)))), some (.inl a1)], [.inl (r13.1 44 0 (a1 + (3 : Int32)).toNatClampNeg), .inr (.inr (some (10, 0)))], am_mk r13)) (if_neg hg19) ?_
          refine am_Go.n htb 5 (S' := (85, [some (.inr (.inr (some (10, 0)))), some (.inl a1)], [.inl (a1 + (4 : Int32)), .inr (.inr (some (44, 0))), .inl (r13.1 44 0 (a1 + (3 : Int32)).toNatClampNeg), .inr (.inr (some (10, 0)))], am_mk r13)) rfl ?_
          obtain ⟨hg20, h⟩ := am_ck_some h
          refine am_Go.c1 htb (S' := (86, [some (.inr (.inr (some (10, 0)))), some (.inl a1)], [.inl (r13.1 44 0 (a1 + (4 : Int32)).toNatClampNeg), .inl (r13.1 44 0 (a1 + (3 : Int32)).toNatClampNeg), .inr (.inr (some (10, 0)))], am_mk r13)) (if_neg hg20) ?_
          obtain ⟨r21, h22, h⟩ := am_bd h
          refine am_Go.cl htb rfl (ex_X10_reckonAll d (by omega) (r13.1 44 0 (a1 + (3 : Int32)).toNatClampNeg) (r13.1 44 0 (a1 + (4 : Int32)).toNatClampNeg) r13 r21 h22) ?_
          show am_Go d 234 (89, [some (.inr (.inr (some (10, 0)))), some (.inl a1)], [], am_mk r21) _ _ _ _
          refine am_Go.n htb 6 (S' := (101, [some (.inr (.inr (some (10, 0)))), some (.inl a1)], [.inl (r21.1 10 0 38)], am_mk (am_sg r21 10 0 40 (r21.2.1 10 0 39)))) rfl ?_
          by_cases hc23 : (r21.1 10 0 38) ≠ 0
          · rw [if_pos hc23] at h
            refine am_Go.c1 htb (S' := (108, [some (.inr (.inr (some (10, 0)))), some (.inl a1)], [], am_mk (am_sg r21 10 0 40 (r21.2.1 10 0 39)))) (if_pos hc23) ?_
            refine am_Go.n htb 1 (S' := (109, [some (.inr (.inr (some (10, 0)))), some (.inl a1)], [.inl 0], am_mk (am_sg r21 10 0 40 (r21.2.1 10 0 39)))) rfl ?_
            cases h
            exact am_Go.rt htb rfl
          · rw [if_neg hc23] at h
            refine am_Go.c1 htb (S' := (104, [some (.inr (.inr (some (10, 0)))), some (.inl a1)], [], am_mk (am_sg r21 10 0 40 (r21.2.1 10 0 39)))) (if_neg hc23) ?_
            refine am_Go.n htb 2 (S' := (109, [some (.inr (.inr (some (10, 0)))), some (.inl a1)], [.inl 1], am_mk (am_sg r21 10 0 40 (r21.2.1 10 0 39)))) rfl ?_
            cases h
            exact am_Go.rt htb rfl
      · rw [if_neg hc16] at h
        refine am_Go.c1 htb (S' := (57, [some (.inr (.inr (some (10, 0)))), some (.inl a1)], [], am_mk r13)) (if_neg hc16) ?_
        refine am_Go.n htb 1 (S' := (58, [some (.inr (.inr (some (10, 0)))), some (.inl a1)], [.inl 0], am_mk r13)) rfl ?_
        cases h
        exact am_Go.rt htb rfl
-- X10_tells
set_option maxRecDepth 100000 in
theorem lt_X10_tells_180 (d : Nat) (hd : 5 ≤ d + 1) {r : Option am_V} {M' : am_M} {kc ks : Nat} {n : Nat} {x1 : Int32} {x7 : Int64} {x9 : Int32} {m : am_m} {t : Int64 × am_m} (h : lp_X10_tells_180 n x1 x7 x9 m = some t) (hk : am_Go d 235 (251, [some (.inr (.inr (some (10, 0)))), some (.inl x1), none, none, none, none, none, some (.inr (.inl t.1)), none, none, none], [], am_mk t.2) r M' kc ks) : am_Go d 235 (180, [some (.inr (.inr (some (10, 0)))), some (.inl x1), none, none, none, none, none, some (.inr (.inl x7)), none, some (.inl x9), none], [], am_mk m) r M' kc ks := by
  have htb : am_tab 235 = at_235 := rfl
  induction n generalizing x7 x9 m with
  | zero => cases h
  | succ n ih =>
    unfold lp_X10_tells_180 at h
    refine am_Go.n htb 7 (S' := (192, [some (.inr (.inr (some (10, 0)))), some (.inl x1), none, none, none, none, none, some (.inr (.inl x7)), none, some (.inl x9), none], [.inl ((m.1 10 0 34) + (1 : Int32)), .inr (.inr (some (44, 0))), .inl x9], am_mk m)) rfl ?_
    obtain ⟨hg13, h⟩ := am_ck_some h
    refine am_Go.c1 htb (S' := (193, [some (.inr (.inr (some (10, 0)))), some (.inl x1), none, none, none, none, none, some (.inr (.inl x7)), none, some (.inl x9), none], [.inl (m.1 44 0 ((m.1 10 0 34) + (1 : Int32)).toNatClampNeg), .inl x9], am_mk m)) (if_neg hg13) ?_
    by_cases hc14 : (m.1 44 0 ((m.1 10 0 34) + (1 : Int32)).toNatClampNeg) ≤ x9
    · rw [if_pos hc14] at h
      refine am_Go.c1 htb (S' := (251, [some (.inr (.inr (some (10, 0)))), some (.inl x1), none, none, none, none, none, some (.inr (.inl x7)), none, some (.inl x9), none], [], am_mk m)) (if_pos hc14) ?_
      cases h
      exact am_Go.fg (by exact ⟨rfl, ⟨rfl, ⟨rfl, trivial⟩⟩⟩) hk
    · rw [if_neg hc14] at h
      refine am_Go.c1 htb (S' := (196, [some (.inr (.inr (some (10, 0)))), some (.inl x1), none, none, none, none, none, some (.inr (.inl x7)), none, some (.inl x9), none], [], am_mk m)) (if_neg hc14) ?_
      refine am_Go.n htb 12 (S' := (216, [some (.inr (.inr (some (10, 0)))), some (.inl x1), none, none, none, none, none, some (.inr (.inl x7)), none, some (.inl x9), some (.inl (((m.1 10 0 34) + (2 : Int32)) + ((8 : Int32) * x9)))], [.inl (((m.1 10 0 34) + (2 : Int32)) + ((8 : Int32) * x9)), .inr (.inr (some (44, 0)))], am_mk m)) rfl ?_
      obtain ⟨hg15, h⟩ := am_ck_some h
      refine am_Go.c1 htb (S' := (217, [some (.inr (.inr (some (10, 0)))), some (.inl x1), none, none, none, none, none, some (.inr (.inl x7)), none, some (.inl x9), some (.inl (((m.1 10 0 34) + (2 : Int32)) + ((8 : Int32) * x9)))], [.inl (m.1 44 0 (((m.1 10 0 34) + (2 : Int32)) + ((8 : Int32) * x9)).toNatClampNeg)], am_mk m)) (if_neg hg15) ?_
      refine am_Go.n htb 1 (S' := (218, [some (.inr (.inr (some (10, 0)))), some (.inl x1), none, none, none, none, none, some (.inr (.inl x7)), none, some (.inl x9), some (.inl (((m.1 10 0 34) + (2 : Int32)) + ((8 : Int32) * x9)))], [.inl x1, .inl (m.1 44 0 (((m.1 10 0 34) + (2 : Int32)) + ((8 : Int32) * x9)).toNatClampNeg)], am_mk m)) rfl ?_
      obtain ⟨q21, h22, h⟩ := am_bd h
      refine am_Go.cut (S := (245, [some (.inr (.inr (some (10, 0)))), some (.inl x1), none, none, none, none, none, some (.inr (.inl q21.1)), none, some (.inl x9), some (.inl (((m.1 10 0 34) + (2 : Int32)) + ((8 : Int32) * x9)))], [], am_mk q21.2)) ?_ (fun key => ?_)
      · refine am_Go.n htb 2 (S' := (180, [some (.inr (.inr (some (10, 0)))), some (.inl x1), none, none, none, none, none, some (.inr (.inl q21.1)), none, some (.inl (x9 + 1)), some (.inl (((m.1 10 0 34) + (2 : Int32)) + ((8 : Int32) * x9)))], [], am_mk q21.2)) rfl ?_
        refine am_Go.fg (L0 := [some (.inr (.inr (some (10, 0)))), some (.inl x1), none, none, none, none, none, some (.inr (.inl q21.1)), none, some (.inl (x9 + 1)), none]) (by exact ⟨rfl, ⟨rfl, ⟨rfl, ⟨rfl, trivial⟩⟩⟩⟩) ?_
        first | exact ih h | exact ih h hk
      · have h := h22
        by_cases hc16 : (m.1 44 0 (((m.1 10 0 34) + (2 : Int32)) + ((8 : Int32) * x9)).toNatClampNeg) ≠ x1
        · rw [if_pos hc16] at h
          refine am_Go.c1 htb (S' := (245, [some (.inr (.inr (some (10, 0)))), some (.inl x1), none, none, none, none, none, some (.inr (.inl x7)), none, some (.inl x9), some (.inl (((m.1 10 0 34) + (2 : Int32)) + ((8 : Int32) * x9)))], [], am_mk m)) (if_pos hc16) ?_
          cases h
          exact am_Go.fg (by exact ⟨rfl, ⟨rfl, ⟨rfl, ⟨rfl, ⟨rfl, trivial⟩⟩⟩⟩⟩) key
        · rw [if_neg hc16] at h
          refine am_Go.c1 htb (S' := (221, [some (.inr (.inr (some (10, 0)))), some (.inl x1), none, none, none, none, none, some (.inr (.inl x7)), none, some (.inl x9), some (.inl (((m.1 10 0 34) + (2 : Int32)) + ((8 : Int32) * x9)))], [], am_mk m)) (if_neg hc16) ?_
          refine am_Go.n htb 2 (S' := (224, [some (.inr (.inr (some (10, 0)))), some (.inl x1), none, none, none, none, none, some (.inr (.inl x7)), none, some (.inl x9), some (.inl (((m.1 10 0 34) + (2 : Int32)) + ((8 : Int32) * x9)))], [.inl (((m.1 10 0 34) + (2 : Int32)) + ((8 : Int32) * x9)), .inr (.inr (some (10, 0)))], am_mk m)) rfl ?_
          obtain ⟨r17, h18, h⟩ := am_bd h
          refine am_Go.cl htb rfl (ex_X10_isSo d (by omega) (((m.1 10 0 34) + (2 : Int32)) + ((8 : Int32) * x9)) m r17 h18) ?_
          show am_Go d 235 (227, [some (.inr (.inr (some (10, 0)))), some (.inl x1), none, none, none, none, none, some (.inr (.inl x7)), none, some (.inl x9), some (.inl (((m.1 10 0 34) + (2 : Int32)) + ((8 : Int32) * x9)))], [.inl r17.1], am_mk r17.2) _ _ _ _
          by_cases hc19 : r17.1 = 0
          · rw [if_pos hc19] at h
            refine am_Go.c1 htb (S' := (245, [some (.inr (.inr (some (10, 0)))), some (.inl x1), none, none, none, none, none, some (.inr (.inl x7)), none, some (.inl x9), some (.inl (((m.1 10 0 34) + (2 : Int32)) + ((8 : Int32) * x9)))], [], am_mk r17.2)) (if_pos hc19) ?_
            cases h
            exact am_Go.fg (by exact ⟨rfl, ⟨rfl, ⟨rfl, ⟨rfl, ⟨rfl, trivial⟩⟩⟩⟩⟩) key
          · rw [if_neg hc19] at h
            refine am_Go.c1 htb (S' := (230, [some (.inr (.inr (some (10, 0)))), some (.inl x1), none, none, none, none, none, some (.inr (.inl x7)), none, some (.inl x9), some (.inl (((m.1 10 0 34) + (2 : Int32)) + ((8 : Int32) * x9)))], [], am_mk r17.2)) (if_neg hc19) ?_
            refine am_Go.n htb 2 (S' := (232, [some (.inr (.inr (some (10, 0)))), some (.inl x1), none, none, none, none, none, some (.inr (.inl x7)), none, some (.inl x9), some (.inl (((m.1 10 0 34) + (2 : Int32)) + ((8 : Int32) * x9)))], [.inl 3, .inl x1], am_mk r17.2)) rfl ?_
            refine am_Go.cut (S := (243, [some (.inr (.inr (some (10, 0)))), some (.inl x1), none, none, none, none, none, some (.inr (.inl x7)), none, some (.inl x9), some (.inl (((m.1 10 0 34) + (2 : Int32)) + ((8 : Int32) * x9)))], [.inr (.inl (if x1 ≠ (3 : Int32) then (r17.2.2.1 10 0 40) else (1 : Int64)))], am_mk r17.2)) ?_ (fun key => ?_)
            · refine am_Go.n htb 1 (S' := (245, [some (.inr (.inr (some (10, 0)))), some (.inl x1), none, none, none, none, none, some (.inr (.inl (if x1 ≠ (3 : Int32) then (r17.2.2.1 10 0 40) else (1 : Int64)))), none, some (.inl x9), some (.inl (((m.1 10 0 34) + (2 : Int32)) + ((8 : Int32) * x9)))], [], am_mk r17.2)) rfl ?_
              cases h
              exact am_Go.fg (by exact ⟨rfl, ⟨rfl, ⟨rfl, ⟨rfl, ⟨rfl, trivial⟩⟩⟩⟩⟩) key
            · by_cases hc20 : x1 ≠ (3 : Int32)
              · refine am_Go.c1 htb (S' := (239, [some (.inr (.inr (some (10, 0)))), some (.inl x1), none, none, none, none, none, some (.inr (.inl x7)), none, some (.inl x9), some (.inl (((m.1 10 0 34) + (2 : Int32)) + ((8 : Int32) * x9)))], [], am_mk r17.2)) (if_pos hc20) ?_
                refine am_Go.n htb 2 (S' := (243, [some (.inr (.inr (some (10, 0)))), some (.inl x1), none, none, none, none, none, some (.inr (.inl x7)), none, some (.inl x9), some (.inl (((m.1 10 0 34) + (2 : Int32)) + ((8 : Int32) * x9)))], [.inr (.inl (r17.2.2.1 10 0 40))], am_mk r17.2)) rfl ?_
                simp only [if_pos hc20] at key
                exact am_Go.fg (by exact ⟨rfl, ⟨rfl, ⟨rfl, ⟨rfl, ⟨rfl, trivial⟩⟩⟩⟩⟩) key
              · refine am_Go.c1 htb (S' := (235, [some (.inr (.inr (some (10, 0)))), some (.inl x1), none, none, none, none, none, some (.inr (.inl x7)), none, some (.inl x9), some (.inl (((m.1 10 0 34) + (2 : Int32)) + ((8 : Int32) * x9)))], [], am_mk r17.2)) (if_neg hc20) ?_
                refine am_Go.n htb 2 (S' := (243, [some (.inr (.inr (some (10, 0)))), some (.inl x1), none, none, none, none, none, some (.inr (.inl x7)), none, some (.inl x9), some (.inl (((m.1 10 0 34) + (2 : Int32)) + ((8 : Int32) * x9)))], [.inr (.inl 1)], am_mk r17.2)) rfl ?_
                simp only [if_neg hc20] at key
                exact am_Go.fg (by exact ⟨rfl, ⟨rfl, ⟨rfl, ⟨rfl, ⟨rfl, trivial⟩⟩⟩⟩⟩) key
set_option maxRecDepth 100000 in
theorem ex_X10_tells (d : Nat) (hd : 5 ≤ d) (a1 : Int32) (a2 : Int32) (a3 : Int32) (a4 : Int32) (a5 : Int64) (m : am_m) (t : Int64 × am_m) (h : fn_X10_tells a1 a2 a3 a4 a5 m = some t) : am_Ex am_cod d 235 [.inr (.inr (some (10, 0))), .inl a1, .inl a2, .inl a3, .inl a4, .inr (.inl a5)] (am_mk m) (some (.inr (.inl t.1))) (am_mk t.2) 0 0 := by
  obtain ⟨d, rfl⟩ : ∃ e, d = e + 1 := ⟨d - 1, by omega⟩
  have htb : am_tab 235 = at_235 := rfl
  refine ⟨Nat.le_of_ble_eq_true rfl, ?_⟩
  unfold fn_X10_tells at h
  show am_Go d 235 (0, [some (.inr (.inr (some (10, 0)))), some (.inl a1), some (.inl a2), some (.inl a3), some (.inl a4), some (.inr (.inl a5)), none, none, none, none, none], [], am_mk m) _ _ 0 0
  refine am_Go.n htb 5 (S' := (7, [some (.inr (.inr (some (10, 0)))), some (.inl a1), some (.inl a2), some (.inl a3), some (.inl a4), some (.inr (.inl a5)), none, none, none, none, none], [.inl (-1), .inl (m.1 44 0 3)], am_mk m)) rfl ?_
  by_cases hc1 : (m.1 44 0 3) ≠ (-1 : Int32)
  · rw [if_pos hc1] at h
    refine am_Go.c1 htb (S' := (13, [some (.inr (.inr (some (10, 0)))), some (.inl a1), some (.inl a2), some (.inl a3), some (.inl a4), some (.inr (.inl a5)), none, none, none, none, none], [], am_mk m)) (if_pos hc1) ?_
    refine am_Go.n htb 27 (S' := (53, [some (.inr (.inr (some (10, 0)))), some (.inl a1), some (.inl a2), some (.inl a3), some (.inl a4), some (.inr (.inl a5)), none, none, none, none, none], [.inl (-1), .inl a3, .inl 3, .inr (.inr (some (85, 0)))], am_mk (am_sg (am_sg (am_si m 10 0 34 ((118 : Int32) + ((900 : Int32) * (m.1 44 0 3)))) 85 0 1 a2.toInt64) 85 0 2 a3.toInt64))) rfl ?_
    obtain ⟨q5, h26, h⟩ := am_bd h
    refine am_Go.cut (S := (69, [some (.inr (.inr (some (10, 0)))), some (.inl a1), some (.inl a2), some (.inl a3), some (.inl a4), some (.inr (.inl a5)), none, none, none, none, none], [.inr (.inl q5), .inl 3, .inr (.inr (some (85, 0)))], am_mk (am_sg (am_sg (am_si m 10 0 34 ((118 : Int32) + ((900 : Int32) * (m.1 44 0 3)))) 85 0 1 a2.toInt64) 85 0 2 a3.toInt64))) ?_ (fun key => ?_)
    · refine am_Go.n htb 6 (S' := (77, [some (.inr (.inr (some (10, 0)))), some (.inl a1), some (.inl a2), some (.inl a3), some (.inl a4), some (.inr (.inl a5)), none, none, none, none, none], [.inl (-1), .inl a3, .inl 4, .inr (.inr (some (85, 0)))], am_mk (am_sg (am_sg (am_sg (am_si m 10 0 34 ((118 : Int32) + ((900 : Int32) * (m.1 44 0 3)))) 85 0 1 a2.toInt64) 85 0 2 a3.toInt64) 85 0 3 q5))) rfl ?_
      obtain ⟨q11, h25, h⟩ := am_bd h
      refine am_Go.cut (S := (117, [some (.inr (.inr (some (10, 0)))), some (.inl a1), some (.inl a2), some (.inl a3), some (.inl a4), some (.inr (.inl a5)), none, none, none, none, none], [.inr (.inl q11), .inl 4, .inr (.inr (some (85, 0)))], am_mk (am_sg (am_sg (am_sg (am_si m 10 0 34 ((118 : Int32) + ((900 : Int32) * (m.1 44 0 3)))) 85 0 1 a2.toInt64) 85 0 2 a3.toInt64) 85 0 3 q5))) ?_ (fun key => ?_)
      · refine am_Go.n htb 9 (S' := (131, [some (.inr (.inr (some (10, 0)))), some (.inl a1), some (.inl a2), some (.inl a3), some (.inl a4), some (.inr (.inl a5)), none, none, none, none, none], [.inl ((7 : Int32) + a2), .inr (.inr (some (44, 0))), .inl 5, .inr (.inr (some (85, 0)))], am_mk (am_sg (am_sg (am_sg (am_sg (am_si m 10 0 34 ((118 : Int32) + ((900 : Int32) * (m.1 44 0 3)))) 85 0 1 a2.toInt64) 85 0 2 a3.toInt64) 85 0 3 q5) 85 0 4 q11))) rfl ?_
        obtain ⟨hg12, h⟩ := am_ck_some h
        refine am_Go.c1 htb (S' := (132, [some (.inr (.inr (some (10, 0)))), some (.inl a1), some (.inl a2), some (.inl a3), some (.inl a4), some (.inr (.inl a5)), none, none, none, none, none], [.inl (m.1 44 0 ((7 : Int32) + a2).toNatClampNeg), .inl 5, .inr (.inr (some (85, 0)))], am_mk (am_sg (am_sg (am_sg (am_sg (am_si m 10 0 34 ((118 : Int32) + ((900 : Int32) * (m.1 44 0 3)))) 85 0 1 a2.toInt64) 85 0 2 a3.toInt64) 85 0 3 q5) 85 0 4 q11))) (if_neg hg12) ?_
        refine am_Go.n htb 30 (S' := (180, [some (.inr (.inr (some (10, 0)))), some (.inl a1), some (.inl a2), some (.inl a3), some (.inl a4), some (.inr (.inl a5)), none, some (.inr (.inl a5)), none, some (.inl 0), none], [], am_mk (am_sg (am_sg (am_sg (am_sg (am_sg (am_sg (am_sg (am_sg (am_si m 10 0 34 ((118 : Int32) + ((900 : Int32) * (m.1 44 0 3)))) 85 0 1 a2.toInt64) 85 0 2 a3.toInt64) 85 0 3 q5) 85 0 4 q11) 85 0 5 ((m.1 44 0 ((7 : Int32) + a2).toNatClampNeg).toInt64)) 85 0 6 a4.toInt64) 85 0 7 ((m.1 44 0 4).toInt64)) 85 0 8 ((m.1 44 0 6).toInt64)))) rfl ?_
        refine am_Go.fg (L0 := [some (.inr (.inr (some (10, 0)))), some (.inl a1), none, none, none, none, none, some (.inr (.inl a5)), none, some (.inl 0), none]) (by exact ⟨rfl, ⟨rfl, ⟨rfl, ⟨rfl, trivial⟩⟩⟩⟩) ?_
        obtain ⟨q23, h24, h⟩ := am_bd h
        refine lt_X10_tells_180 _ hd (h := h24) (hk := ?_)
        refine am_Go.n htb 1 (S' := (253, [some (.inr (.inr (some (10, 0)))), some (.inl a1), none, none, none, none, none, some (.inr (.inl q23.1)), none, none, none], [.inr (.inl q23.1)], am_mk q23.2)) rfl ?_
        cases h
        exact am_Go.rt htb rfl
      · have h := h25
        by_cases hc6 : a3 = (-1 : Int32)
        · rw [if_pos hc6] at h
          refine am_Go.c1 htb (S' := (89, [some (.inr (.inr (some (10, 0)))), some (.inl a1), some (.inl a2), some (.inl a3), some (.inl a4), some (.inr (.inl a5)), none, none, none, none, none], [.inl 4, .inr (.inr (some (85, 0)))], am_mk (am_sg (am_sg (am_sg (am_si m 10 0 34 ((118 : Int32) + ((900 : Int32) * (m.1 44 0 3)))) 85 0 1 a2.toInt64) 85 0 2 a3.toInt64) 85 0 3 q5))) (if_pos hc6) ?_
          refine am_Go.n htb 2 (S' := (117, [some (.inr (.inr (some (10, 0)))), some (.inl a1), some (.inl a2), some (.inl a3), some (.inl a4), some (.inr (.inl a5)), none, none, none, none, none], [.inr (.inl (-1)), .inl 4, .inr (.inr (some (85, 0)))], am_mk (am_sg (am_sg (am_sg (am_si m 10 0 34 ((118 : Int32) + ((900 : Int32) * (m.1 44 0 3)))) 85 0 1 a2.toInt64) 85 0 2 a3.toInt64) 85 0 3 q5))) rfl ?_
          cases h
          exact am_Go.fg (by exact ⟨rfl, ⟨rfl, ⟨rfl, ⟨rfl, ⟨rfl, ⟨rfl, trivial⟩⟩⟩⟩⟩⟩) key
        · rw [if_neg hc6] at h
          refine am_Go.c1 htb (S' := (80, [some (.inr (.inr (some (10, 0)))), some (.inl a1), some (.inl a2), some (.inl a3), some (.inl a4), some (.inr (.inl a5)), none, none, none, none, none], [.inl 4, .inr (.inr (some (85, 0)))], am_mk (am_sg (am_sg (am_sg (am_si m 10 0 34 ((118 : Int32) + ((900 : Int32) * (m.1 44 0 3)))) 85 0 1 a2.toInt64) 85 0 2 a3.toInt64) 85 0 3 q5))) (if_neg hc6) ?_
          refine am_Go.n htb 3 (S' := (83, [some (.inr (.inr (some (10, 0)))), some (.inl a1), some (.inl a2), some (.inl a3), some (.inl a4), some (.inr (.inl a5)), none, none, none, none, none], [.inl a3, .inl a2, .inr (.inr (some (10, 0))), .inl 4, .inr (.inr (some (85, 0)))], am_mk (am_sg (am_sg (am_sg (am_si m 10 0 34 ((118 : Int32) + ((900 : Int32) * (m.1 44 0 3)))) 85 0 1 a2.toInt64) 85 0 2 a3.toInt64) 85 0 3 q5))) rfl ?_
          obtain ⟨r7, h8, h⟩ := am_bd h
          refine am_Go.cl htb rfl (ex_X10_weightOf d (by omega) a2 a3 (am_sg (am_sg (am_sg (am_si m 10 0 34 ((118 : Int32) + ((900 : Int32) * (m.1 44 0 3)))) 85 0 1 a2.toInt64) 85 0 2 a3.toInt64) 85 0 3 q5) r7 h8) ?_
          show am_Go d 235 (86, [some (.inr (.inr (some (10, 0)))), some (.inl a1), some (.inl a2), some (.inl a3), some (.inl a4), some (.inr (.inl a5)), none, none, none, none, none], [.inl r7, .inl 4, .inr (.inr (some (85, 0)))], am_mk (am_sg (am_sg (am_sg (am_si m 10 0 34 ((118 : Int32) + ((900 : Int32) * (m.1 44 0 3)))) 85 0 1 a2.toInt64) 85 0 2 a3.toInt64) 85 0 3 q5)) _ _ _ _
          by_cases hc9 : r7 ≠ 0
          · rw [if_pos hc9] at h
            refine am_Go.c1 htb (S' := (95, [some (.inr (.inr (some (10, 0)))), some (.inl a1), some (.inl a2), some (.inl a3), some (.inl a4), some (.inr (.inl a5)), none, none, none, none, none], [.inl 4, .inr (.inr (some (85, 0)))], am_mk (am_sg (am_sg (am_sg (am_si m 10 0 34 ((118 : Int32) + ((900 : Int32) * (m.1 44 0 3)))) 85 0 1 a2.toInt64) 85 0 2 a3.toInt64) 85 0 3 q5))) (if_pos hc9) ?_
            refine am_Go.n htb 13 (S' := (114, [some (.inr (.inr (some (10, 0)))), some (.inl a1), some (.inl a2), some (.inl a3), some (.inl a4), some (.inr (.inl a5)), none, none, none, none, none], [.inl (((63 : Int32) + ((7 : Int32) * a2)) + a3), .inr (.inr (some (44, 0))), .inl (m.1 44 0 4), .inl 4, .inr (.inr (some (85, 0)))], am_mk (am_sg (am_sg (am_sg (am_si m 10 0 34 ((118 : Int32) + ((900 : Int32) * (m.1 44 0 3)))) 85 0 1 a2.toInt64) 85 0 2 a3.toInt64) 85 0 3 q5))) rfl ?_
            obtain ⟨hg10, h⟩ := am_ck_some h
            refine am_Go.c1 htb (S' := (115, [some (.inr (.inr (some (10, 0)))), some (.inl a1), some (.inl a2), some (.inl a3), some (.inl a4), some (.inr (.inl a5)), none, none, none, none, none], [.inl (m.1 44 0 (((63 : Int32) + ((7 : Int32) * a2)) + a3).toNatClampNeg), .inl (m.1 44 0 4), .inl 4, .inr (.inr (some (85, 0)))], am_mk (am_sg (am_sg (am_sg (am_si m 10 0 34 ((118 : Int32) + ((900 : Int32) * (m.1 44 0 3)))) 85 0 1 a2.toInt64) 85 0 2 a3.toInt64) 85 0 3 q5))) (if_neg hg10) ?_
            refine am_Go.n htb 2 (S' := (117, [some (.inr (.inr (some (10, 0)))), some (.inl a1), some (.inl a2), some (.inl a3), some (.inl a4), some (.inr (.inl a5)), none, none, none, none, none], [.inr (.inl (((m.1 44 0 4) - (m.1 44 0 (((63 : Int32) + ((7 : Int32) * a2)) + a3).toNatClampNeg)).toInt64)), .inl 4, .inr (.inr (some (85, 0)))], am_mk (am_sg (am_sg (am_sg (am_si m 10 0 34 ((118 : Int32) + ((900 : Int32) * (m.1 44 0 3)))) 85 0 1 a2.toInt64) 85 0 2 a3.toInt64) 85 0 3 q5))) rfl ?_
            cases h
            exact am_Go.fg (by exact ⟨rfl, ⟨rfl, ⟨rfl, ⟨rfl, ⟨rfl, ⟨rfl, trivial⟩⟩⟩⟩⟩⟩) key
          · rw [if_neg hc9] at h
            refine am_Go.c1 htb (S' := (89, [some (.inr (.inr (some (10, 0)))), some (.inl a1), some (.inl a2), some (.inl a3), some (.inl a4), some (.inr (.inl a5)), none, none, none, none, none], [.inl 4, .inr (.inr (some (85, 0)))], am_mk (am_sg (am_sg (am_sg (am_si m 10 0 34 ((118 : Int32) + ((900 : Int32) * (m.1 44 0 3)))) 85 0 1 a2.toInt64) 85 0 2 a3.toInt64) 85 0 3 q5))) (if_neg hc9) ?_
            refine am_Go.n htb 2 (S' := (117, [some (.inr (.inr (some (10, 0)))), some (.inl a1), some (.inl a2), some (.inl a3), some (.inl a4), some (.inr (.inl a5)), none, none, none, none, none], [.inr (.inl (-1)), .inl 4, .inr (.inr (some (85, 0)))], am_mk (am_sg (am_sg (am_sg (am_si m 10 0 34 ((118 : Int32) + ((900 : Int32) * (m.1 44 0 3)))) 85 0 1 a2.toInt64) 85 0 2 a3.toInt64) 85 0 3 q5))) rfl ?_
            cases h
            exact am_Go.fg (by exact ⟨rfl, ⟨rfl, ⟨rfl, ⟨rfl, ⟨rfl, ⟨rfl, trivial⟩⟩⟩⟩⟩⟩) key
    · have h := h26
      by_cases hc2 : a3 ≠ (-1 : Int32)
      · rw [if_pos hc2] at h
        refine am_Go.c1 htb (S' := (62, [some (.inr (.inr (some (10, 0)))), some (.inl a1), some (.inl a2), some (.inl a3), some (.inl a4), some (.inr (.inl a5)), none, none, none, none, none], [.inl 3, .inr (.inr (some (85, 0)))], am_mk (am_sg (am_sg (am_si m 10 0 34 ((118 : Int32) + ((900 : Int32) * (m.1 44 0 3)))) 85 0 1 a2.toInt64) 85 0 2 a3.toInt64))) (if_pos hc2) ?_
        refine am_Go.n htb 3 (S' := (65, [some (.inr (.inr (some (10, 0)))), some (.inl a1), some (.inl a2), some (.inl a3), some (.inl a4), some (.inr (.inl a5)), none, none, none, none, none], [.inl a3, .inl a2, .inr (.inr (some (10, 0))), .inl 3, .inr (.inr (some (85, 0)))], am_mk (am_sg (am_sg (am_si m 10 0 34 ((118 : Int32) + ((900 : Int32) * (m.1 44 0 3)))) 85 0 1 a2.toInt64) 85 0 2 a3.toInt64))) rfl ?_
        obtain ⟨r3, h4, h⟩ := am_bd h
        refine am_Go.cl htb rfl (ex_X10_weightOf d (by omega) a2 a3 (am_sg (am_sg (am_si m 10 0 34 ((118 : Int32) + ((900 : Int32) * (m.1 44 0 3)))) 85 0 1 a2.toInt64) 85 0 2 a3.toInt64) r3 h4) ?_
        show am_Go d 235 (68, [some (.inr (.inr (some (10, 0)))), some (.inl a1), some (.inl a2), some (.inl a3), some (.inl a4), some (.inr (.inl a5)), none, none, none, none, none], [.inl r3, .inl 3, .inr (.inr (some (85, 0)))], am_mk (am_sg (am_sg (am_si m 10 0 34 ((118 : Int32) + ((900 : Int32) * (m.1 44 0 3)))) 85 0 1 a2.toInt64) 85 0 2 a3.toInt64)) _ _ _ _
        refine am_Go.n htb 1 (S' := (69, [some (.inr (.inr (some (10, 0)))), some (.inl a1), some (.inl a2), some (.inl a3), some (.inl a4), some (.inr (.inl a5)), none, none, none, none, none], [.inr (.inl r3.toInt64), .inl 3, .inr (.inr (some (85, 0)))], am_mk (am_sg (am_sg (am_si m 10 0 34 ((118 : Int32) + ((900 : Int32) * (m.1 44 0 3)))) 85 0 1 a2.toInt64) 85 0 2 a3.toInt64))) rfl ?_
        cases h
        exact am_Go.fg (by exact ⟨rfl, ⟨rfl, ⟨rfl, ⟨rfl, ⟨rfl, ⟨rfl, trivial⟩⟩⟩⟩⟩⟩) key
      · rw [if_neg hc2] at h
        refine am_Go.c1 htb (S' := (56, [some (.inr (.inr (some (10, 0)))), some (.inl a1), some (.inl a2), some (.inl a3), some (.inl a4), some (.inr (.inl a5)), none, none, none, none, none], [.inl 3, .inr (.inr (some (85, 0)))], am_mk (am_sg (am_sg (am_si m 10 0 34 ((118 : Int32) + ((900 : Int32) * (m.1 44 0 3)))) 85 0 1 a2.toInt64) 85 0 2 a3.toInt64))) (if_neg hc2) ?_
        refine am_Go.n htb 2 (S' := (69, [some (.inr (.inr (some (10, 0)))), some (.inl a1), some (.inl a2), some (.inl a3), some (.inl a4), some (.inr (.inl a5)), none, none, none, none, none], [.inr (.inl (-1)), .inl 3, .inr (.inr (some (85, 0)))], am_mk (am_sg (am_sg (am_si m 10 0 34 ((118 : Int32) + ((900 : Int32) * (m.1 44 0 3)))) 85 0 1 a2.toInt64) 85 0 2 a3.toInt64))) rfl ?_
        cases h
        exact am_Go.fg (by exact ⟨rfl, ⟨rfl, ⟨rfl, ⟨rfl, ⟨rfl, ⟨rfl, trivial⟩⟩⟩⟩⟩⟩) key
  · rw [if_neg hc1] at h
    refine am_Go.c1 htb (S' := (10, [some (.inr (.inr (some (10, 0)))), some (.inl a1), some (.inl a2), some (.inl a3), some (.inl a4), some (.inr (.inl a5)), none, none, none, none, none], [], am_mk m)) (if_neg hc1) ?_
    refine am_Go.n htb 1 (S' := (12, [some (.inr (.inr (some (10, 0)))), some (.inl a1), some (.inl a2), some (.inl a3), some (.inl a4), some (.inr (.inl a5)), none, none, none, none, none], [.inr (.inl a5)], am_mk m)) rfl ?_
    cases h
    exact am_Go.rt htb rfl
-- X10_hungersBy
set_option maxRecDepth 100000 in
theorem ex_X10_hungersBy (d : Nat) (hd : 6 ≤ d) (a1 : Int32) (m : am_m) (t : Int32 × am_m) (h : fn_X10_hungersBy a1 m = some t) : am_Ex am_cod d 238 [.inr (.inr (some (10, 0))), .inl a1] (am_mk m) (some (.inl t.1)) (am_mk t.2) 0 0 := by
  obtain ⟨d, rfl⟩ : ∃ e, d = e + 1 := ⟨d - 1, by omega⟩
  have htb : am_tab 238 = at_238 := rfl
  refine ⟨Nat.le_of_ble_eq_true rfl, ?_⟩
  unfold fn_X10_hungersBy at h
  show am_Go d 238 (0, [some (.inr (.inr (some (10, 0)))), some (.inl a1)], [], am_mk m) _ _ 0 0
  refine am_Go.n htb 6 (S' := (6, [some (.inr (.inr (some (10, 0)))), some (.inl a1)], [.inr (.inl 1), .inl (-1), .inl (-1), .inl a1, .inl 2, .inr (.inr (some (10, 0)))], am_mk m)) rfl ?_
  obtain ⟨r1, h2, h⟩ := am_bd h
  refine am_Go.cl htb rfl (ex_X10_tells d (by omega) 2 a1 (-1) (-1) 1 m r1 h2) ?_
  show am_Go d 238 (9, [some (.inr (.inr (some (10, 0)))), some (.inl a1)], [.inr (.inl r1.1)], am_mk r1.2) _ _ _ _
  refine am_Go.n htb 2 (S' := (12, [some (.inr (.inr (some (10, 0)))), some (.inl a1)], [.inl 9, .inl 0, .inr (.inl r1.1)], am_mk r1.2)) rfl ?_
  obtain ⟨r3, h4, h⟩ := am_bd h
  refine am_Go.cl htb rfl (ex_X10_bounded d (by omega) r1.1 0 9 r1.2 r3 h4) ?_
  show am_Go d 238 (15, [some (.inr (.inr (some (10, 0)))), some (.inl a1)], [.inl r3], am_mk r1.2) _ _ _ _
  cases h
  exact am_Go.rt htb rfl
-- X10_barsOff
set_option maxRecDepth 100000 in
theorem ex_X10_barsOff (d : Nat) (hd : 6 ≤ d) (a1 : Int32) (a2 : Int32) (m : am_m) (t : Int32 × am_m) (h : fn_X10_barsOff a1 a2 m = some t) : am_Ex am_cod d 239 [.inr (.inr (some (10, 0))), .inl a1, .inl a2] (am_mk m) (some (.inl t.1)) (am_mk t.2) 0 0 := by
  obtain ⟨d, rfl⟩ : ∃ e, d = e + 1 := ⟨d - 1, by omega⟩
  have htb : am_tab 239 = at_239 := rfl
  refine ⟨Nat.le_of_ble_eq_true rfl, ?_⟩
  unfold fn_X10_barsOff at h
  show am_Go d 239 (0, [some (.inr (.inr (some (10, 0)))), some (.inl a1), some (.inl a2)], [], am_mk m) _ _ 0 0
  refine am_Go.n htb 6 (S' := (6, [some (.inr (.inr (some (10, 0)))), some (.inl a1), some (.inl a2)], [.inr (.inl 0), .inl (-1), .inl a2, .inl a1, .inl 3, .inr (.inr (some (10, 0)))], am_mk m)) rfl ?_
  obtain ⟨r1, h2, h⟩ := am_bd h
  refine am_Go.cl htb rfl (ex_X10_tells d (by omega) 3 a1 a2 (-1) 0 m r1 h2) ?_
  show am_Go d 239 (9, [some (.inr (.inr (some (10, 0)))), some (.inl a1), some (.inl a2)], [.inr (.inl r1.1)], am_mk r1.2) _ _ _ _
  refine am_Go.n htb 2 (S' := (11, [some (.inr (.inr (some (10, 0)))), some (.inl a1), some (.inl a2)], [.inl (lg_cmp r1.1 (1 : Int64))], am_mk r1.2)) rfl ?_
  by_cases hc3 : (lg_cmp r1.1 (1 : Int64)) ≠ 0
  · rw [if_pos hc3] at h
    refine am_Go.c1 htb (S' := (18, [some (.inr (.inr (some (10, 0)))), some (.inl a1), some (.inl a2)], [], am_mk r1.2)) (if_pos hc3) ?_
    refine am_Go.n htb 1 (S' := (19, [some (.inr (.inr (some (10, 0)))), some (.inl a1), some (.inl a2)], [.inl 0], am_mk r1.2)) rfl ?_
    cases h
    exact am_Go.rt htb rfl
  · rw [if_neg hc3] at h
    refine am_Go.c1 htb (S' := (14, [some (.inr (.inr (some (10, 0)))), some (.inl a1), some (.inl a2)], [], am_mk r1.2)) (if_neg hc3) ?_
    refine am_Go.n htb 2 (S' := (19, [some (.inr (.inr (some (10, 0)))), some (.inl a1), some (.inl a2)], [.inl 1], am_mk r1.2)) rfl ?_
    cases h
    exact am_Go.rt htb rfl
-- X10_countsAs
set_option maxRecDepth 100000 in
theorem ex_X10_countsAs (d : Nat) (hd : 6 ≤ d) (a1 : Int32) (a2 : Int32) (m : am_m) (t : Int32 × am_m) (h : fn_X10_countsAs a1 a2 m = some t) : am_Ex am_cod d 236 [.inr (.inr (some (10, 0))), .inl a1, .inl a2] (am_mk m) (some (.inl t.1)) (am_mk t.2) 0 0 := by
  obtain ⟨d, rfl⟩ : ∃ e, d = e + 1 := ⟨d - 1, by omega⟩
  have htb : am_tab 236 = at_236 := rfl
  refine ⟨Nat.le_of_ble_eq_true rfl, ?_⟩
  unfold fn_X10_countsAs at h
  show am_Go d 236 (0, [some (.inr (.inr (some (10, 0)))), some (.inl a1), some (.inl a2)], [], am_mk m) _ _ 0 0
  refine am_Go.n htb 8 (S' := (8, [some (.inr (.inr (some (10, 0)))), some (.inl a1), some (.inl a2)], [.inl a2, .inl a1, .inr (.inr (some (10, 0))), .inl (-1), .inl a2, .inl a1, .inl 0, .inr (.inr (some (10, 0)))], am_mk m)) rfl ?_
  obtain ⟨r1, h2, h⟩ := am_bd h
  refine am_Go.cl htb rfl (ex_X10_weightOf d (by omega) a1 a2 m r1 h2) ?_
  show am_Go d 236 (11, [some (.inr (.inr (some (10, 0)))), some (.inl a1), some (.inl a2)], [.inl r1, .inl (-1), .inl a2, .inl a1, .inl 0, .inr (.inr (some (10, 0)))], am_mk m) _ _ _ _
  refine am_Go.n htb 1 (S' := (12, [some (.inr (.inr (some (10, 0)))), some (.inl a1), some (.inl a2)], [.inr (.inl r1.toInt64), .inl (-1), .inl a2, .inl a1, .inl 0, .inr (.inr (some (10, 0)))], am_mk m)) rfl ?_
  obtain ⟨r3, h4, h⟩ := am_bd h
  refine am_Go.cl htb rfl (ex_X10_tells d (by omega) 0 a1 a2 (-1) r1.toInt64 m r3 h4) ?_
  show am_Go d 236 (15, [some (.inr (.inr (some (10, 0)))), some (.inl a1), some (.inl a2)], [.inr (.inl r3.1)], am_mk r3.2) _ _ _ _
  refine am_Go.n htb 2 (S' := (18, [some (.inr (.inr (some (10, 0)))), some (.inl a1), some (.inl a2)], [.inl 9, .inl 0, .inr (.inl r3.1)], am_mk r3.2)) rfl ?_
  obtain ⟨r5, h6, h⟩ := am_bd h
  refine am_Go.cl htb rfl (ex_X10_bounded d (by omega) r3.1 0 9 r3.2 r5 h6) ?_
  show am_Go d 236 (21, [some (.inr (.inr (some (10, 0)))), some (.inl a1), some (.inl a2)], [.inl r5], am_mk r3.2) _ _ _ _
  cases h
  exact am_Go.rt htb rfl
-- X10_maySit
set_option maxRecDepth 100000 in
theorem ex_X10_maySit (d : Nat) (hd : 7 ≤ d) (a1 : Int32) (a2 : Int32) (m : am_m) (t : Int32 × am_m) (h : fn_X10_maySit a1 a2 m = some t) : am_Ex am_cod d 240 [.inr (.inr (some (10, 0))), .inl a1, .inl a2] (am_mk m) (some (.inl t.1)) (am_mk t.2) 0 0 := by
  obtain ⟨d, rfl⟩ : ∃ e, d = e + 1 := ⟨d - 1, by omega⟩
  have htb : am_tab 240 = at_240 := rfl
  refine ⟨Nat.le_of_ble_eq_true rfl, ?_⟩
  unfold fn_X10_maySit at h
  show am_Go d 240 (0, [some (.inr (.inr (some (10, 0)))), some (.inl a1), some (.inl a2)], [], am_mk m) _ _ 0 0
  refine am_Go.n htb 3 (S' := (3, [some (.inr (.inr (some (10, 0)))), some (.inl a1), some (.inl a2)], [.inl a2, .inl a1, .inr (.inr (some (10, 0)))], am_mk m)) rfl ?_
  obtain ⟨r1, h2, h⟩ := am_bd h
  refine am_Go.cl htb rfl (ex_X10_countsAs d (by omega) a1 a2 m r1 h2) ?_
  show am_Go d 240 (6, [some (.inr (.inr (some (10, 0)))), some (.inl a1), some (.inl a2)], [.inl r1.1], am_mk r1.2) _ _ _ _
  refine am_Go.n htb 3 (S' := (9, [some (.inr (.inr (some (10, 0)))), some (.inl a1), some (.inl a2)], [.inl a1, .inl a2, .inr (.inr (some (10, 0))), .inl r1.1], am_mk r1.2)) rfl ?_
  obtain ⟨r3, h4, h⟩ := am_bd h
  refine am_Go.cl htb rfl (ex_X10_countsAs d (by omega) a2 a1 r1.2 r3 h4) ?_
  show am_Go d 240 (12, [some (.inr (.inr (some (10, 0)))), some (.inl a1), some (.inl a2)], [.inl r3.1, .inl r1.1], am_mk r3.2) _ _ _ _
  refine am_Go.n htb 1 (S' := (13, [some (.inr (.inr (some (10, 0)))), some (.inl a1), some (.inl a2)], [.inl (r1.1 + r3.1)], am_mk r3.2)) rfl ?_
  by_cases hc5 : (r1.1 + r3.1) ≤ 0
  · rw [if_pos hc5] at h
    refine am_Go.c1 htb (S' := (38, [some (.inr (.inr (some (10, 0)))), some (.inl a1), some (.inl a2)], [], am_mk r3.2)) (if_pos hc5) ?_
    refine am_Go.n htb 1 (S' := (39, [some (.inr (.inr (some (10, 0)))), some (.inl a1), some (.inl a2)], [.inl 0], am_mk r3.2)) rfl ?_
    cases h
    exact am_Go.rt htb rfl
  · rw [if_neg hc5] at h
    refine am_Go.c1 htb (S' := (16, [some (.inr (.inr (some (10, 0)))), some (.inl a1), some (.inl a2)], [], am_mk r3.2)) (if_neg hc5) ?_
    refine am_Go.n htb 3 (S' := (19, [some (.inr (.inr (some (10, 0)))), some (.inl a1), some (.inl a2)], [.inl a2, .inl a1, .inr (.inr (some (10, 0)))], am_mk r3.2)) rfl ?_
    obtain ⟨r6, h7, h⟩ := am_bd h
    refine am_Go.cl htb rfl (ex_X10_barsOff d (by omega) a1 a2 r3.2 r6 h7) ?_
    show am_Go d 240 (22, [some (.inr (.inr (some (10, 0)))), some (.inl a1), some (.inl a2)], [.inl r6.1], am_mk r6.2) _ _ _ _
    by_cases hc8 : r6.1 ≠ 0
    · rw [if_pos hc8] at h
      refine am_Go.c1 htb (S' := (38, [some (.inr (.inr (some (10, 0)))), some (.inl a1), some (.inl a2)], [], am_mk r6.2)) (if_pos hc8) ?_
      refine am_Go.n htb 1 (S' := (39, [some (.inr (.inr (some (10, 0)))), some (.inl a1), some (.inl a2)], [.inl 0], am_mk r6.2)) rfl ?_
      cases h
      exact am_Go.rt htb rfl
    · rw [if_neg hc8] at h
      refine am_Go.c1 htb (S' := (25, [some (.inr (.inr (some (10, 0)))), some (.inl a1), some (.inl a2)], [], am_mk r6.2)) (if_neg hc8) ?_
      refine am_Go.n htb 3 (S' := (28, [some (.inr (.inr (some (10, 0)))), some (.inl a1), some (.inl a2)], [.inl a1, .inl a2, .inr (.inr (some (10, 0)))], am_mk r6.2)) rfl ?_
      obtain ⟨r9, h10, h⟩ := am_bd h
      refine am_Go.cl htb rfl (ex_X10_barsOff d (by omega) a2 a1 r6.2 r9 h10) ?_
      show am_Go d 240 (31, [some (.inr (.inr (some (10, 0)))), some (.inl a1), some (.inl a2)], [.inl r9.1], am_mk r9.2) _ _ _ _
      by_cases hc11 : r9.1 ≠ 0
      · rw [if_pos hc11] at h
        refine am_Go.c1 htb (S' := (38, [some (.inr (.inr (some (10, 0)))), some (.inl a1), some (.inl a2)], [], am_mk r9.2)) (if_pos hc11) ?_
        refine am_Go.n htb 1 (S' := (39, [some (.inr (.inr (some (10, 0)))), some (.inl a1), some (.inl a2)], [.inl 0], am_mk r9.2)) rfl ?_
        cases h
        exact am_Go.rt htb rfl
      · rw [if_neg hc11] at h
        refine am_Go.c1 htb (S' := (34, [some (.inr (.inr (some (10, 0)))), some (.inl a1), some (.inl a2)], [], am_mk r9.2)) (if_neg hc11) ?_
        refine am_Go.n htb 2 (S' := (39, [some (.inr (.inr (some (10, 0)))), some (.inl a1), some (.inl a2)], [.inl 1], am_mk r9.2)) rfl ?_
        cases h
        exact am_Go.rt htb rfl
-- X10_layMay
set_option maxRecDepth 100000 in
theorem lt_X10_layMay_14 (d : Nat) (hd : 8 ≤ d + 1) {r : Option am_V} {M' : am_M} {kc ks : Nat} {n : Nat} {x1 : Int32} {x2 : Int32} {m : am_m} {t : am_m} (h : lp_X10_layMay_14 n x1 x2 m = some t) (hk : am_Go d 241 (99, [some (.inr (.inr (some (10, 0)))), some (.inl x1), none], [], am_mk t) r M' kc ks) : am_Go d 241 (14, [some (.inr (.inr (some (10, 0)))), some (.inl x1), some (.inl x2)], [], am_mk m) r M' kc ks := by
  have htb : am_tab 241 = at_241 := rfl
  induction n generalizing x2 m with
  | zero => cases h
  | succ n ih =>
    unfold lp_X10_layMay_14 at h
    refine am_Go.n htb 5 (S' := (21, [some (.inr (.inr (some (10, 0)))), some (.inl x1), some (.inl x2)], [.inl (m.1 44 0 0), .inl x2], am_mk m)) rfl ?_
    by_cases hc2 : (m.1 44 0 0) ≤ x2
    · rw [if_pos hc2] at h
      refine am_Go.c1 htb (S' := (99, [some (.inr (.inr (some (10, 0)))), some (.inl x1), some (.inl x2)], [], am_mk m)) (if_pos hc2) ?_
      cases h
      exact am_Go.fg (by exact ⟨rfl, ⟨rfl, trivial⟩⟩) hk
    · rw [if_neg hc2] at h
      refine am_Go.c1 htb (S' := (24, [some (.inr (.inr (some (10, 0)))), some (.inl x1), some (.inl x2)], [], am_mk m)) (if_neg hc2) ?_
      refine am_Go.n htb 9 (S' := (36, [some (.inr (.inr (some (10, 0)))), some (.inl x1), some (.inl x2)], [.inl x2, .inl x1, .inl (((7 : Int32) * x1) + x2), .inr (.inr (some (92, 0)))], am_mk m)) rfl ?_
      obtain ⟨q7, h21, h⟩ := am_bd h
      refine am_Go.cut (S := (53, [some (.inr (.inr (some (10, 0)))), some (.inl x1), some (.inl x2)], [.inl q7.1, .inl (((7 : Int32) * x1) + x2), .inr (.inr (some (92, 0)))], am_mk q7.2)) ?_ (fun key => ?_)
      · obtain ⟨hz9, h⟩ := am_gd_some h
        obtain ⟨hg8, h⟩ := am_ck_some h
        refine am_Go.o htb (am_o_zast) rfl (S' := (54, [some (.inr (.inr (some (10, 0)))), some (.inl x1), some (.inl x2)], [], am_mk (am_si q7.2 92 0 (((7 : Int32) * x1) + x2).toNatClampNeg q7.1))) (am_zs (by decide) hz9 hg8) ?_
        refine am_Go.n htb 9 (S' := (66, [some (.inr (.inr (some (10, 0)))), some (.inl x1), some (.inl x2)], [.inl x2, .inl x1, .inl (((7 : Int32) * x1) + x2), .inr (.inr (some (93, 0)))], am_mk (am_si q7.2 92 0 (((7 : Int32) * x1) + x2).toNatClampNeg q7.1))) rfl ?_
        obtain ⟨q17, h20, h⟩ := am_bd h
        refine am_Go.cut (S := (92, [some (.inr (.inr (some (10, 0)))), some (.inl x1), some (.inl x2)], [.inl q17.1, .inl (((7 : Int32) * x1) + x2), .inr (.inr (some (93, 0)))], am_mk q17.2)) ?_ (fun key => ?_)
        · obtain ⟨hz19, h⟩ := am_gd_some h
          obtain ⟨hg18, h⟩ := am_ck_some h
          refine am_Go.o htb (am_o_zast) rfl (S' := (93, [some (.inr (.inr (some (10, 0)))), some (.inl x1), some (.inl x2)], [], am_mk (am_si q17.2 93 0 (((7 : Int32) * x1) + x2).toNatClampNeg q17.1))) (am_zs (by decide) hz19 hg18) ?_
          refine am_Go.n htb 2 (S' := (14, [some (.inr (.inr (some (10, 0)))), some (.inl x1), some (.inl (x2 + 1))], [], am_mk (am_si q17.2 93 0 (((7 : Int32) * x1) + x2).toNatClampNeg q17.1))) rfl ?_
          first | exact ih h | exact ih h hk
        · have h := h20
          by_cases hc10 : x1 = x2
          · rw [if_pos hc10] at h
            refine am_Go.c1 htb (S' := (91, [some (.inr (.inr (some (10, 0)))), some (.inl x1), some (.inl x2)], [.inl (((7 : Int32) * x1) + x2), .inr (.inr (some (93, 0)))], am_mk (am_si q7.2 92 0 (((7 : Int32) * x1) + x2).toNatClampNeg q7.1))) (if_pos hc10) ?_
            refine am_Go.n htb 1 (S' := (92, [some (.inr (.inr (some (10, 0)))), some (.inl x1), some (.inl x2)], [.inl 0, .inl (((7 : Int32) * x1) + x2), .inr (.inr (some (93, 0)))], am_mk (am_si q7.2 92 0 (((7 : Int32) * x1) + x2).toNatClampNeg q7.1))) rfl ?_
            cases h
            exact am_Go.fg (by exact ⟨rfl, ⟨rfl, ⟨rfl, trivial⟩⟩⟩) key
          · rw [if_neg hc10] at h
            refine am_Go.c1 htb (S' := (69, [some (.inr (.inr (some (10, 0)))), some (.inl x1), some (.inl x2)], [.inl (((7 : Int32) * x1) + x2), .inr (.inr (some (93, 0)))], am_mk (am_si q7.2 92 0 (((7 : Int32) * x1) + x2).toNatClampNeg q7.1))) (if_neg hc10) ?_
            refine am_Go.n htb 3 (S' := (72, [some (.inr (.inr (some (10, 0)))), some (.inl x1), some (.inl x2)], [.inl x2, .inl x1, .inr (.inr (some (10, 0))), .inl (((7 : Int32) * x1) + x2), .inr (.inr (some (93, 0)))], am_mk (am_si q7.2 92 0 (((7 : Int32) * x1) + x2).toNatClampNeg q7.1))) rfl ?_
            obtain ⟨r11, h12, h⟩ := am_bd h
            refine am_Go.cl htb rfl (ex_X10_barsOff d (by omega) x1 x2 (am_si q7.2 92 0 (((7 : Int32) * x1) + x2).toNatClampNeg q7.1) r11 h12) ?_
            show am_Go d 241 (75, [some (.inr (.inr (some (10, 0)))), some (.inl x1), some (.inl x2)], [.inl r11.1, .inl (((7 : Int32) * x1) + x2), .inr (.inr (some (93, 0)))], am_mk r11.2) _ _ _ _
            by_cases hc13 : r11.1 ≠ 0
            · rw [if_pos hc13] at h
              refine am_Go.c1 htb (S' := (87, [some (.inr (.inr (some (10, 0)))), some (.inl x1), some (.inl x2)], [.inl (((7 : Int32) * x1) + x2), .inr (.inr (some (93, 0)))], am_mk r11.2)) (if_pos hc13) ?_
              refine am_Go.n htb 2 (S' := (92, [some (.inr (.inr (some (10, 0)))), some (.inl x1), some (.inl x2)], [.inl 1, .inl (((7 : Int32) * x1) + x2), .inr (.inr (some (93, 0)))], am_mk r11.2)) rfl ?_
              cases h
              exact am_Go.fg (by exact ⟨rfl, ⟨rfl, ⟨rfl, trivial⟩⟩⟩) key
            · rw [if_neg hc13] at h
              refine am_Go.c1 htb (S' := (78, [some (.inr (.inr (some (10, 0)))), some (.inl x1), some (.inl x2)], [.inl (((7 : Int32) * x1) + x2), .inr (.inr (some (93, 0)))], am_mk r11.2)) (if_neg hc13) ?_
              refine am_Go.n htb 3 (S' := (81, [some (.inr (.inr (some (10, 0)))), some (.inl x1), some (.inl x2)], [.inl x1, .inl x2, .inr (.inr (some (10, 0))), .inl (((7 : Int32) * x1) + x2), .inr (.inr (some (93, 0)))], am_mk r11.2)) rfl ?_
              obtain ⟨r14, h15, h⟩ := am_bd h
              refine am_Go.cl htb rfl (ex_X10_barsOff d (by omega) x2 x1 r11.2 r14 h15) ?_
              show am_Go d 241 (84, [some (.inr (.inr (some (10, 0)))), some (.inl x1), some (.inl x2)], [.inl r14.1, .inl (((7 : Int32) * x1) + x2), .inr (.inr (some (93, 0)))], am_mk r14.2) _ _ _ _
              by_cases hc16 : r14.1 = 0
              · rw [if_pos hc16] at h
                refine am_Go.c1 htb (S' := (91, [some (.inr (.inr (some (10, 0)))), some (.inl x1), some (.inl x2)], [.inl (((7 : Int32) * x1) + x2), .inr (.inr (some (93, 0)))], am_mk r14.2)) (if_pos hc16) ?_
                refine am_Go.n htb 1 (S' := (92, [some (.inr (.inr (some (10, 0)))), some (.inl x1), some (.inl x2)], [.inl 0, .inl (((7 : Int32) * x1) + x2), .inr (.inr (some (93, 0)))], am_mk r14.2)) rfl ?_
                cases h
                exact am_Go.fg (by exact ⟨rfl, ⟨rfl, ⟨rfl, trivial⟩⟩⟩) key
              · rw [if_neg hc16] at h
                refine am_Go.c1 htb (S' := (87, [some (.inr (.inr (some (10, 0)))), some (.inl x1), some (.inl x2)], [.inl (((7 : Int32) * x1) + x2), .inr (.inr (some (93, 0)))], am_mk r14.2)) (if_neg hc16) ?_
                refine am_Go.n htb 2 (S' := (92, [some (.inr (.inr (some (10, 0)))), some (.inl x1), some (.inl x2)], [.inl 1, .inl (((7 : Int32) * x1) + x2), .inr (.inr (some (93, 0)))], am_mk r14.2)) rfl ?_
                cases h
                exact am_Go.fg (by exact ⟨rfl, ⟨rfl, ⟨rfl, trivial⟩⟩⟩) key
      · have h := h21
        by_cases hc3 : x1 = x2
        · rw [if_pos hc3] at h
          refine am_Go.c1 htb (S' := (52, [some (.inr (.inr (some (10, 0)))), some (.inl x1), some (.inl x2)], [.inl (((7 : Int32) * x1) + x2), .inr (.inr (some (92, 0)))], am_mk m)) (if_pos hc3) ?_
          refine am_Go.n htb 1 (S' := (53, [some (.inr (.inr (some (10, 0)))), some (.inl x1), some (.inl x2)], [.inl 0, .inl (((7 : Int32) * x1) + x2), .inr (.inr (some (92, 0)))], am_mk m)) rfl ?_
          cases h
          exact am_Go.fg (by exact ⟨rfl, ⟨rfl, ⟨rfl, trivial⟩⟩⟩) key
        · rw [if_neg hc3] at h
          refine am_Go.c1 htb (S' := (39, [some (.inr (.inr (some (10, 0)))), some (.inl x1), some (.inl x2)], [.inl (((7 : Int32) * x1) + x2), .inr (.inr (some (92, 0)))], am_mk m)) (if_neg hc3) ?_
          refine am_Go.n htb 3 (S' := (42, [some (.inr (.inr (some (10, 0)))), some (.inl x1), some (.inl x2)], [.inl x2, .inl x1, .inr (.inr (some (10, 0))), .inl (((7 : Int32) * x1) + x2), .inr (.inr (some (92, 0)))], am_mk m)) rfl ?_
          obtain ⟨r4, h5, h⟩ := am_bd h
          refine am_Go.cl htb rfl (ex_X10_maySit d (by omega) x1 x2 m r4 h5) ?_
          show am_Go d 241 (45, [some (.inr (.inr (some (10, 0)))), some (.inl x1), some (.inl x2)], [.inl r4.1, .inl (((7 : Int32) * x1) + x2), .inr (.inr (some (92, 0)))], am_mk r4.2) _ _ _ _
          by_cases hc6 : r4.1 = 0
          · rw [if_pos hc6] at h
            refine am_Go.c1 htb (S' := (52, [some (.inr (.inr (some (10, 0)))), some (.inl x1), some (.inl x2)], [.inl (((7 : Int32) * x1) + x2), .inr (.inr (some (92, 0)))], am_mk r4.2)) (if_pos hc6) ?_
            refine am_Go.n htb 1 (S' := (53, [some (.inr (.inr (some (10, 0)))), some (.inl x1), some (.inl x2)], [.inl 0, .inl (((7 : Int32) * x1) + x2), .inr (.inr (some (92, 0)))], am_mk r4.2)) rfl ?_
            cases h
            exact am_Go.fg (by exact ⟨rfl, ⟨rfl, ⟨rfl, trivial⟩⟩⟩) key
          · rw [if_neg hc6] at h
            refine am_Go.c1 htb (S' := (48, [some (.inr (.inr (some (10, 0)))), some (.inl x1), some (.inl x2)], [.inl (((7 : Int32) * x1) + x2), .inr (.inr (some (92, 0)))], am_mk r4.2)) (if_neg hc6) ?_
            refine am_Go.n htb 2 (S' := (53, [some (.inr (.inr (some (10, 0)))), some (.inl x1), some (.inl x2)], [.inl 1, .inl (((7 : Int32) * x1) + x2), .inr (.inr (some (92, 0)))], am_mk r4.2)) rfl ?_
            cases h
            exact am_Go.fg (by exact ⟨rfl, ⟨rfl, ⟨rfl, trivial⟩⟩⟩) key
set_option maxRecDepth 100000 in
theorem lt_X10_layMay_2 (d : Nat) (hd : 8 ≤ d + 1) {r : Option am_V} {M' : am_M} {kc ks : Nat} {n : Nat} {x1 : Int32} {m : am_m} {t : am_m} (h : lp_X10_layMay_2 n x1 m = some t) (hk : am_Go d 241 (105, [some (.inr (.inr (some (10, 0)))), none, none], [], am_mk t) r M' kc ks) : am_Go d 241 (2, [some (.inr (.inr (some (10, 0)))), some (.inl x1), none], [], am_mk m) r M' kc ks := by
  have htb : am_tab 241 = at_241 := rfl
  induction n generalizing x1 m with
  | zero => cases h
  | succ n ih =>
    unfold lp_X10_layMay_2 at h
    refine am_Go.n htb 5 (S' := (9, [some (.inr (.inr (some (10, 0)))), some (.inl x1), none], [.inl (m.1 44 0 0), .inl x1], am_mk m)) rfl ?_
    by_cases hc1 : (m.1 44 0 0) ≤ x1
    · rw [if_pos hc1] at h
      refine am_Go.c1 htb (S' := (105, [some (.inr (.inr (some (10, 0)))), some (.inl x1), none], [], am_mk m)) (if_pos hc1) ?_
      cases h
      exact am_Go.fg (by exact ⟨rfl, trivial⟩) hk
    · rw [if_neg hc1] at h
      refine am_Go.c1 htb (S' := (12, [some (.inr (.inr (some (10, 0)))), some (.inl x1), none], [], am_mk m)) (if_neg hc1) ?_
      refine am_Go.n htb 2 (S' := (14, [some (.inr (.inr (some (10, 0)))), some (.inl x1), some (.inl 0)], [], am_mk m)) rfl ?_
      obtain ⟨q22, h23, h⟩ := am_bd h
      refine lt_X10_layMay_14 _ hd (h := h23) (hk := ?_)
      refine am_Go.n htb 2 (S' := (2, [some (.inr (.inr (some (10, 0)))), some (.inl (x1 + 1)), none], [], am_mk q22)) rfl ?_
      first | exact ih h | exact ih h hk
set_option maxRecDepth 100000 in
theorem ex_X10_layMay (d : Nat) (hd : 8 ≤ d)  (m : am_m) (t : am_m) (h : fn_X10_layMay  m = some t) : am_Ex am_cod d 241 [.inr (.inr (some (10, 0)))] (am_mk m) (none) (am_mk t) 0 0 := by
  obtain ⟨d, rfl⟩ : ∃ e, d = e + 1 := ⟨d - 1, by omega⟩
  have htb : am_tab 241 = at_241 := rfl
  refine ⟨Nat.le_of_ble_eq_true rfl, ?_⟩
  unfold fn_X10_layMay at h
  show am_Go d 241 (0, [some (.inr (.inr (some (10, 0)))), none, none], [], am_mk m) _ _ 0 0
  refine am_Go.n htb 2 (S' := (2, [some (.inr (.inr (some (10, 0)))), some (.inl 0), none], [], am_mk m)) rfl ?_
  obtain ⟨q24, h25, h⟩ := am_bd h
  refine lt_X10_layMay_2 _ hd (h := h25) (hk := ?_)
  cases h
  exact am_Go.rt htb rfl
-- X10_sitsWith
set_option maxRecDepth 100000 in
theorem lt_X10_sitsWith_4 (d : Nat) (hd : 1 ≤ d + 1) {r : Option am_V} {M' : am_M} {kc ks : Nat} {n : Nat} {x1 : Int32} {x2 : Int32} {x3 : Int32} {m : am_m} {t : Int32} (h : lp_X10_sitsWith_4 n x1 x2 x3 m = some t) (hk : am_Go d 242 (44, [some (.inr (.inr (some (10, 0)))), some (.inl x1), some (.inl t), none], [], am_mk m) r M' kc ks) : am_Go d 242 (4, [some (.inr (.inr (some (10, 0)))), some (.inl x1), some (.inl x2), some (.inl x3)], [], am_mk m) r M' kc ks := by
  have htb : am_tab 242 = at_242 := rfl
  induction n generalizing x2 x3 with
  | zero => cases h
  | succ n ih =>
    unfold lp_X10_sitsWith_4 at h
    refine am_Go.n htb 5 (S' := (11, [some (.inr (.inr (some (10, 0)))), some (.inl x1), some (.inl x2), some (.inl x3)], [.inl (m.1 44 0 0), .inl x3], am_mk m)) rfl ?_
    by_cases hc1 : (m.1 44 0 0) ≤ x3
    · rw [if_pos hc1] at h
      refine am_Go.c1 htb (S' := (44, [some (.inr (.inr (some (10, 0)))), some (.inl x1), some (.inl x2), some (.inl x3)], [], am_mk m)) (if_pos hc1) ?_
      cases h
      exact am_Go.fg (by exact ⟨rfl, ⟨rfl, ⟨rfl, trivial⟩⟩⟩) hk
    · rw [if_neg hc1] at h
      refine am_Go.c1 htb (S' := (14, [some (.inr (.inr (some (10, 0)))), some (.inl x1), some (.inl x2), some (.inl x3)], [], am_mk m)) (if_neg hc1) ?_
      refine am_Go.n htb 8 (S' := (25, [some (.inr (.inr (some (10, 0)))), some (.inl x1), some (.inl x2), some (.inl x3)], [.inl (((7 : Int32) * x1) + x3), .inr (.inr (some (92, 0))), .inl x2], am_mk m)) rfl ?_
      obtain ⟨hg2, h⟩ := am_ck_some h
      refine am_Go.c1 htb (S' := (26, [some (.inr (.inr (some (10, 0)))), some (.inl x1), some (.inl x2), some (.inl x3)], [.inl (m.1 92 0 (((7 : Int32) * x1) + x3).toNatClampNeg), .inl x2], am_mk m)) (if_neg hg2) ?_
      refine am_Go.cut (S := (36, [some (.inr (.inr (some (10, 0)))), some (.inl x1), some (.inl x2), some (.inl x3)], [.inl (if (m.1 92 0 (((7 : Int32) * x1) + x3).toNatClampNeg) = 0 then (0 : Int32) else ((1 : Int32) <<< (x3 &&& 31))), .inl x2], am_mk m)) ?_ (fun key => ?_)
      · refine am_Go.n htb 4 (S' := (4, [some (.inr (.inr (some (10, 0)))), some (.inl x1), some (.inl (x2 ||| (if (m.1 92 0 (((7 : Int32) * x1) + x3).toNatClampNeg) = 0 then (0 : Int32) else ((1 : Int32) <<< (x3 &&& 31))))), some (.inl (x3 + 1))], [], am_mk m)) rfl ?_
        first | exact ih h | exact ih h hk
      · by_cases hc3 : (m.1 92 0 (((7 : Int32) * x1) + x3).toNatClampNeg) = 0
        · refine am_Go.c1 htb (S' := (35, [some (.inr (.inr (some (10, 0)))), some (.inl x1), some (.inl x2), some (.inl x3)], [.inl x2], am_mk m)) (if_pos hc3) ?_
          refine am_Go.n htb 1 (S' := (36, [some (.inr (.inr (some (10, 0)))), some (.inl x1), some (.inl x2), some (.inl x3)], [.inl 0, .inl x2], am_mk m)) rfl ?_
          simp only [if_pos hc3] at key
          exact am_Go.fg (by exact ⟨rfl, ⟨rfl, ⟨rfl, ⟨rfl, trivial⟩⟩⟩⟩) key
        · refine am_Go.c1 htb (S' := (29, [some (.inr (.inr (some (10, 0)))), some (.inl x1), some (.inl x2), some (.inl x3)], [.inl x2], am_mk m)) (if_neg hc3) ?_
          refine am_Go.n htb 4 (S' := (36, [some (.inr (.inr (some (10, 0)))), some (.inl x1), some (.inl x2), some (.inl x3)], [.inl ((1 : Int32) <<< (x3 &&& 31)), .inl x2], am_mk m)) rfl ?_
          simp only [if_neg hc3] at key
          exact am_Go.fg (by exact ⟨rfl, ⟨rfl, ⟨rfl, ⟨rfl, trivial⟩⟩⟩⟩) key
set_option maxRecDepth 100000 in
theorem ex_X10_sitsWith (d : Nat) (hd : 1 ≤ d) (a1 : Int32) (m : am_m) (t : Int32) (h : fn_X10_sitsWith a1 m = some t) : am_Ex am_cod d 242 [.inr (.inr (some (10, 0))), .inl a1] (am_mk m) (some (.inl t)) (am_mk m) 0 0 := by
  obtain ⟨d, rfl⟩ : ∃ e, d = e + 1 := ⟨d - 1, by omega⟩
  have htb : am_tab 242 = at_242 := rfl
  refine ⟨Nat.le_of_ble_eq_true rfl, ?_⟩
  unfold fn_X10_sitsWith at h
  show am_Go d 242 (0, [some (.inr (.inr (some (10, 0)))), some (.inl a1), none, none], [], am_mk m) _ _ 0 0
  refine am_Go.n htb 4 (S' := (4, [some (.inr (.inr (some (10, 0)))), some (.inl a1), some (.inl 0), some (.inl 0)], [], am_mk m)) rfl ?_
  obtain ⟨q4, h5, h⟩ := am_bd h
  refine lt_X10_sitsWith_4 _ hd (h := h5) (hk := ?_)
  refine am_Go.n htb 1 (S' := (45, [some (.inr (.inr (some (10, 0)))), some (.inl a1), some (.inl q4), none], [.inl q4], am_mk m)) rfl ?_
  cases h
  exact am_Go.rt htb rfl
-- X10_of
set_option maxRecDepth 100000 in
theorem ex_X10_of (d : Nat) (hd : 9 ≤ d) (a1 : Int32) (a2 : Int32) (m : am_m) (t : Int32 × am_m) (h : fn_X10_of a1 a2 m = some t) : am_Ex am_cod d 193 [.inr (.inr (some (10, 0))), .inl a1, .inl a2] (am_mk m) (some (.inl t.1)) (am_mk t.2) 0 0 := by
  obtain ⟨d, rfl⟩ : ∃ e, d = e + 1 := ⟨d - 1, by omega⟩
  have htb : am_tab 193 = at_193 := rfl
  refine ⟨Nat.le_of_ble_eq_true rfl, ?_⟩
  unfold fn_X10_of at h
  show am_Go d 193 (0, [some (.inr (.inr (some (10, 0)))), some (.inl a1), some (.inl a2)], [], am_mk m) _ _ 0 0
  refine am_Go.n htb 5 (S' := (7, [some (.inr (.inr (some (10, 0)))), some (.inl a1), some (.inl a2)], [.inl a1, .inr (.inr (some (10, 0)))], am_mk (am_si m 10 0 0 0))) rfl ?_
  obtain ⟨r1, h2, h⟩ := am_bd h
  refine am_Go.cl htb rfl (ex_X10_isFolk d (by omega) a1 (am_si m 10 0 0 0) r1 h2) ?_
  show am_Go d 193 (10, [some (.inr (.inr (some (10, 0)))), some (.inl a1), some (.inl a2)], [.inl r1], am_mk (am_si m 10 0 0 0)) _ _ _ _
  by_cases hc3 : r1 ≠ 0
  · rw [if_pos hc3] at h
    refine am_Go.c1 htb (S' := (15, [some (.inr (.inr (some (10, 0)))), some (.inl a1), some (.inl a2)], [], am_mk (am_si m 10 0 0 0))) (if_pos hc3) ?_
    refine am_Go.n htb 1 (S' := (16, [some (.inr (.inr (some (10, 0)))), some (.inl a1), some (.inl a2)], [.inl a2], am_mk (am_si m 10 0 0 0))) rfl ?_
    by_cases hs4 : a2 = 0
    · rw [if_pos hs4] at h
      refine am_Go.o htb (am_o_sw [(0, 52), (1, 62), (2, 72), (3, 78), (4, 85)] 92) rfl (S' := (52, [some (.inr (.inr (some (10, 0)))), some (.inl a1), some (.inl a2)], [], am_mk (am_si m 10 0 0 0))) (am_sw_eq (by simp only [am_sw, if_pos hs4])) ?_
      refine am_Go.n htb 5 (S' := (60, [some (.inr (.inr (some (10, 0)))), some (.inl a1), some (.inl a2)], [.inl ((7 : Int32) + a1), .inr (.inr (some (44, 0)))], am_mk (am_si m 10 0 0 0))) rfl ?_
      obtain ⟨hg5, h⟩ := am_ck_some h
      refine am_Go.c1 htb (S' := (61, [some (.inr (.inr (some (10, 0)))), some (.inl a1), some (.inl a2)], [.inl (m.1 44 0 ((7 : Int32) + a1).toNatClampNeg)], am_mk (am_si m 10 0 0 0))) (if_neg hg5) ?_
      cases h
      exact am_Go.rt htb rfl
    · rw [if_neg hs4] at h
      by_cases hs6 : a2 = 1
      · rw [if_pos hs6] at h
        refine am_Go.o htb (am_o_sw [(0, 52), (1, 62), (2, 72), (3, 78), (4, 85)] 92) rfl (S' := (62, [some (.inr (.inr (some (10, 0)))), some (.inl a1), some (.inl a2)], [], am_mk (am_si m 10 0 0 0))) (am_sw_eq (by simp only [am_sw, if_neg hs4, if_pos hs6])) ?_
        refine am_Go.n htb 1 (S' := (63, [some (.inr (.inr (some (10, 0)))), some (.inl a1), some (.inl a2)], [.inr (.inr (some (10, 0)))], am_mk (am_si m 10 0 0 0))) rfl ?_
        obtain ⟨r7, h8, h⟩ := am_bd h
        refine am_Go.cl htb rfl (ex_X10_layMay d (by omega)  (am_si m 10 0 0 0) r7 h8) ?_
        show am_Go d 193 (66, [some (.inr (.inr (some (10, 0)))), some (.inl a1), some (.inl a2)], [], am_mk r7) _ _ _ _
        refine am_Go.n htb 2 (S' := (68, [some (.inr (.inr (some (10, 0)))), some (.inl a1), some (.inl a2)], [.inl a1, .inr (.inr (some (10, 0)))], am_mk r7)) rfl ?_
        obtain ⟨r9, h10, h⟩ := am_bd h
        refine am_Go.cl htb rfl (ex_X10_sitsWith d (by omega) a1 r7 r9 h10) ?_
        show am_Go d 193 (71, [some (.inr (.inr (some (10, 0)))), some (.inl a1), some (.inl a2)], [.inl r9], am_mk r7) _ _ _ _
        cases h
        exact am_Go.rt htb rfl
      · rw [if_neg hs6] at h
        by_cases hs11 : a2 = 2
        · rw [if_pos hs11] at h
          refine am_Go.o htb (am_o_sw [(0, 52), (1, 62), (2, 72), (3, 78), (4, 85)] 92) rfl (S' := (72, [some (.inr (.inr (some (10, 0)))), some (.inl a1), some (.inl a2)], [], am_mk (am_si m 10 0 0 0))) (am_sw_eq (by simp only [am_sw, if_neg hs4, if_neg hs6, if_pos hs11])) ?_
          refine am_Go.n htb 2 (S' := (74, [some (.inr (.inr (some (10, 0)))), some (.inl a1), some (.inl a2)], [.inl a1, .inr (.inr (some (10, 0)))], am_mk (am_si m 10 0 0 0))) rfl ?_
          obtain ⟨r12, h13, h⟩ := am_bd h
          refine am_Go.cl htb rfl (ex_X10_hungersBy d (by omega) a1 (am_si m 10 0 0 0) r12 h13) ?_
          show am_Go d 193 (77, [some (.inr (.inr (some (10, 0)))), some (.inl a1), some (.inl a2)], [.inl r12.1], am_mk r12.2) _ _ _ _
          cases h
          exact am_Go.rt htb rfl
        · rw [if_neg hs11] at h
          by_cases hs14 : a2 = 3
          · rw [if_pos hs14] at h
            refine am_Go.o htb (am_o_sw [(0, 52), (1, 62), (2, 72), (3, 78), (4, 85)] 92) rfl (S' := (78, [some (.inr (.inr (some (10, 0)))), some (.inl a1), some (.inl a2)], [], am_mk (am_si m 10 0 0 0))) (am_sw_eq (by simp only [am_sw, if_neg hs4, if_neg hs6, if_neg hs11, if_pos hs14])) ?_
            refine am_Go.n htb 3 (S' := (81, [some (.inr (.inr (some (10, 0)))), some (.inl a1), some (.inl a2)], [.inl 1, .inl a1, .inr (.inr (some (10, 0)))], am_mk (am_si m 10 0 0 0))) rfl ?_
            obtain ⟨r15, h16, h⟩ := am_bd h
            refine am_Go.cl htb rfl (ex_X10_harmsBy d (by omega) a1 1 (am_si m 10 0 0 0) r15 h16) ?_
            show am_Go d 193 (84, [some (.inr (.inr (some (10, 0)))), some (.inl a1), some (.inl a2)], [.inl r15], am_mk (am_si m 10 0 0 0)) _ _ _ _
            cases h
            exact am_Go.rt htb rfl
          · rw [if_neg hs14] at h
            by_cases hs17 : a2 = 4
            · rw [if_pos hs17] at h
              refine am_Go.o htb (am_o_sw [(0, 52), (1, 62), (2, 72), (3, 78), (4, 85)] 92) rfl (S' := (85, [some (.inr (.inr (some (10, 0)))), some (.inl a1), some (.inl a2)], [], am_mk (am_si m 10 0 0 0))) (am_sw_eq (by simp only [am_sw, if_neg hs4, if_neg hs6, if_neg hs11, if_neg hs14, if_pos hs17])) ?_
              refine am_Go.n htb 3 (S' := (88, [some (.inr (.inr (some (10, 0)))), some (.inl a1), some (.inl a2)], [.inl 0, .inl a1, .inr (.inr (some (10, 0)))], am_mk (am_si m 10 0 0 0))) rfl ?_
              obtain ⟨r18, h19, h⟩ := am_bd h
              refine am_Go.cl htb rfl (ex_X10_harmsBy d (by omega) a1 0 (am_si m 10 0 0 0) r18 h19) ?_
              show am_Go d 193 (91, [some (.inr (.inr (some (10, 0)))), some (.inl a1), some (.inl a2)], [.inl r18], am_mk (am_si m 10 0 0 0)) _ _ _ _
              cases h
              exact am_Go.rt htb rfl
            · rw [if_neg hs17] at h
              refine am_Go.o htb (am_o_sw [(0, 52), (1, 62), (2, 72), (3, 78), (4, 85)] 92) rfl (S' := (92, [some (.inr (.inr (some (10, 0)))), some (.inl a1), some (.inl a2)], [], am_mk (am_si m 10 0 0 0))) (am_sw_eq (by simp only [am_sw, if_neg hs4, if_neg hs6, if_neg hs11, if_neg hs14, if_neg hs17, if_false])) ?_
              refine am_Go.n htb 1 (S' := (93, [some (.inr (.inr (some (10, 0)))), some (.inl a1), some (.inl a2)], [.inl (-1)], am_mk (am_si m 10 0 0 0))) rfl ?_
              cases h
              exact am_Go.rt htb rfl
  · rw [if_neg hc3] at h
    refine am_Go.c1 htb (S' := (13, [some (.inr (.inr (some (10, 0)))), some (.inl a1), some (.inl a2)], [], am_mk (am_si m 10 0 0 0))) (if_neg hc3) ?_
    refine am_Go.n htb 1 (S' := (14, [some (.inr (.inr (some (10, 0)))), some (.inl a1), some (.inl a2)], [.inl (-1)], am_mk (am_si m 10 0 0 0))) rfl ?_
    cases h
    exact am_Go.rt htb rfl
-- X10_asks
set_option maxRecDepth 100000 in
theorem ex_X10_asks (d : Nat) (hd : 8 ≤ d) (a1 : Int32) (a2 : Int32) (a3 : Int32) (m : am_m) (t : Int32 × am_m) (h : fn_X10_asks a1 a2 a3 m = some t) : am_Ex am_cod d 194 [.inr (.inr (some (10, 0))), .inl a1, .inl a2, .inl a3] (am_mk m) (some (.inl t.1)) (am_mk t.2) 0 0 := by
  obtain ⟨d, rfl⟩ : ∃ e, d = e + 1 := ⟨d - 1, by omega⟩
  have htb : am_tab 194 = at_194 := rfl
  refine ⟨Nat.le_of_ble_eq_true rfl, ?_⟩
  unfold fn_X10_asks at h
  show am_Go d 194 (0, [some (.inr (.inr (some (10, 0)))), some (.inl a1), some (.inl a2), some (.inl a3)], [], am_mk m) _ _ 0 0
  refine am_Go.n htb 5 (S' := (7, [some (.inr (.inr (some (10, 0)))), some (.inl a1), some (.inl a2), some (.inl a3)], [.inl a1, .inr (.inr (some (10, 0)))], am_mk (am_si m 10 0 0 0))) rfl ?_
  obtain ⟨r1, h2, h⟩ := am_bd h
  refine am_Go.cl htb rfl (ex_X10_isFolk d (by omega) a1 (am_si m 10 0 0 0) r1 h2) ?_
  show am_Go d 194 (10, [some (.inr (.inr (some (10, 0)))), some (.inl a1), some (.inl a2), some (.inl a3)], [.inl r1], am_mk (am_si m 10 0 0 0)) _ _ _ _
  by_cases hc3 : r1 = 0
  · rw [if_pos hc3] at h
    refine am_Go.c1 htb (S' := (26, [some (.inr (.inr (some (10, 0)))), some (.inl a1), some (.inl a2), some (.inl a3)], [], am_mk (am_si m 10 0 0 0))) (if_pos hc3) ?_
    refine am_Go.n htb 1 (S' := (27, [some (.inr (.inr (some (10, 0)))), some (.inl a1), some (.inl a2), some (.inl a3)], [.inl (-1)], am_mk (am_si m 10 0 0 0))) rfl ?_
    cases h
    exact am_Go.rt htb rfl
  · rw [if_neg hc3] at h
    refine am_Go.c1 htb (S' := (13, [some (.inr (.inr (some (10, 0)))), some (.inl a1), some (.inl a2), some (.inl a3)], [], am_mk (am_si m 10 0 0 0))) (if_neg hc3) ?_
    refine am_Go.n htb 2 (S' := (15, [some (.inr (.inr (some (10, 0)))), some (.inl a1), some (.inl a2), some (.inl a3)], [.inl a2, .inr (.inr (some (10, 0)))], am_mk (am_si m 10 0 0 0))) rfl ?_
    obtain ⟨r4, h5, h⟩ := am_bd h
    refine am_Go.cl htb rfl (ex_X10_isFolk d (by omega) a2 (am_si m 10 0 0 0) r4 h5) ?_
    show am_Go d 194 (18, [some (.inr (.inr (some (10, 0)))), some (.inl a1), some (.inl a2), some (.inl a3)], [.inl r4], am_mk (am_si m 10 0 0 0)) _ _ _ _
    by_cases hc6 : r4 = 0
    · rw [if_pos hc6] at h
      refine am_Go.c1 htb (S' := (26, [some (.inr (.inr (some (10, 0)))), some (.inl a1), some (.inl a2), some (.inl a3)], [], am_mk (am_si m 10 0 0 0))) (if_pos hc6) ?_
      refine am_Go.n htb 1 (S' := (27, [some (.inr (.inr (some (10, 0)))), some (.inl a1), some (.inl a2), some (.inl a3)], [.inl (-1)], am_mk (am_si m 10 0 0 0))) rfl ?_
      cases h
      exact am_Go.rt htb rfl
    · rw [if_neg hc6] at h
      refine am_Go.c1 htb (S' := (21, [some (.inr (.inr (some (10, 0)))), some (.inl a1), some (.inl a2), some (.inl a3)], [], am_mk (am_si m 10 0 0 0))) (if_neg hc6) ?_
      refine am_Go.n htb 2 (S' := (23, [some (.inr (.inr (some (10, 0)))), some (.inl a1), some (.inl a2), some (.inl a3)], [.inl a2, .inl a1], am_mk (am_si m 10 0 0 0))) rfl ?_
      by_cases hc7 : a1 ≠ a2
      · rw [if_pos hc7] at h
        refine am_Go.c1 htb (S' := (28, [some (.inr (.inr (some (10, 0)))), some (.inl a1), some (.inl a2), some (.inl a3)], [], am_mk (am_si m 10 0 0 0))) (if_pos hc7) ?_
        refine am_Go.n htb 1 (S' := (29, [some (.inr (.inr (some (10, 0)))), some (.inl a1), some (.inl a2), some (.inl a3)], [.inl a3], am_mk (am_si m 10 0 0 0))) rfl ?_
        by_cases hs8 : a3 = 0
        · rw [if_pos hs8] at h
          refine am_Go.o htb (am_o_sw [(0, 64), (1, 71), (2, 99), (3, 106), (4, 121)] 136) rfl (S' := (64, [some (.inr (.inr (some (10, 0)))), some (.inl a1), some (.inl a2), some (.inl a3)], [], am_mk (am_si m 10 0 0 0))) (am_sw_eq (by simp only [am_sw, if_pos hs8])) ?_
          refine am_Go.n htb 3 (S' := (67, [some (.inr (.inr (some (10, 0)))), some (.inl a1), some (.inl a2), some (.inl a3)], [.inl a2, .inl a1, .inr (.inr (some (10, 0)))], am_mk (am_si m 10 0 0 0))) rfl ?_
          obtain ⟨r9, h10, h⟩ := am_bd h
          refine am_Go.cl htb rfl (ex_X10_weightOf d (by omega) a1 a2 (am_si m 10 0 0 0) r9 h10) ?_
          show am_Go d 194 (70, [some (.inr (.inr (some (10, 0)))), some (.inl a1), some (.inl a2), some (.inl a3)], [.inl r9], am_mk (am_si m 10 0 0 0)) _ _ _ _
          cases h
          exact am_Go.rt htb rfl
        · rw [if_neg hs8] at h
          by_cases hs11 : a3 = 1
          · rw [if_pos hs11] at h
            refine am_Go.o htb (am_o_sw [(0, 64), (1, 71), (2, 99), (3, 106), (4, 121)] 136) rfl (S' := (71, [some (.inr (.inr (some (10, 0)))), some (.inl a1), some (.inl a2), some (.inl a3)], [], am_mk (am_si m 10 0 0 0))) (am_sw_eq (by simp only [am_sw, if_neg hs8, if_pos hs11])) ?_
            refine am_Go.n htb 3 (S' := (74, [some (.inr (.inr (some (10, 0)))), some (.inl a1), some (.inl a2), some (.inl a3)], [.inl a2, .inl a1, .inr (.inr (some (10, 0)))], am_mk (am_si m 10 0 0 0))) rfl ?_
            obtain ⟨r12, h13, h⟩ := am_bd h
            refine am_Go.cl htb rfl (ex_X10_weightOf d (by omega) a1 a2 (am_si m 10 0 0 0) r12 h13) ?_
            show am_Go d 194 (77, [some (.inr (.inr (some (10, 0)))), some (.inl a1), some (.inl a2), some (.inl a3)], [.inl r12], am_mk (am_si m 10 0 0 0)) _ _ _ _
            by_cases hc14 : r12 ≠ 0
            · rw [if_pos hc14] at h
              refine am_Go.c1 htb (S' := (84, [some (.inr (.inr (some (10, 0)))), some (.inl a1), some (.inl a2), some (.inl a3)], [], am_mk (am_si m 10 0 0 0))) (if_pos hc14) ?_
              refine am_Go.n htb 9 (S' := (97, [some (.inr (.inr (some (10, 0)))), some (.inl a1), some (.inl a2), some (.inl a3)], [.inl (((63 : Int32) + ((7 : Int32) * a1)) + a2), .inr (.inr (some (44, 0)))], am_mk (am_si m 10 0 0 0))) rfl ?_
              obtain ⟨hg15, h⟩ := am_ck_some h
              refine am_Go.c1 htb (S' := (98, [some (.inr (.inr (some (10, 0)))), some (.inl a1), some (.inl a2), some (.inl a3)], [.inl (m.1 44 0 (((63 : Int32) + ((7 : Int32) * a1)) + a2).toNatClampNeg)], am_mk (am_si m 10 0 0 0))) (if_neg hg15) ?_
              cases h
              exact am_Go.rt htb rfl
            · rw [if_neg hc14] at h
              refine am_Go.c1 htb (S' := (80, [some (.inr (.inr (some (10, 0)))), some (.inl a1), some (.inl a2), some (.inl a3)], [], am_mk (am_si m 10 0 0 0))) (if_neg hc14) ?_
              refine am_Go.n htb 2 (S' := (98, [some (.inr (.inr (some (10, 0)))), some (.inl a1), some (.inl a2), some (.inl a3)], [.inl (-1)], am_mk (am_si m 10 0 0 0))) rfl ?_
              cases h
              exact am_Go.rt htb rfl
          · rw [if_neg hs11] at h
            by_cases hs16 : a3 = 2
            · rw [if_pos hs16] at h
              refine am_Go.o htb (am_o_sw [(0, 64), (1, 71), (2, 99), (3, 106), (4, 121)] 136) rfl (S' := (99, [some (.inr (.inr (some (10, 0)))), some (.inl a1), some (.inl a2), some (.inl a3)], [], am_mk (am_si m 10 0 0 0))) (am_sw_eq (by simp only [am_sw, if_neg hs8, if_neg hs11, if_pos hs16])) ?_
              refine am_Go.n htb 3 (S' := (102, [some (.inr (.inr (some (10, 0)))), some (.inl a1), some (.inl a2), some (.inl a3)], [.inl a2, .inl a1, .inr (.inr (some (10, 0)))], am_mk (am_si m 10 0 0 0))) rfl ?_
              obtain ⟨r17, h18, h⟩ := am_bd h
              refine am_Go.cl htb rfl (ex_X10_countsAs d (by omega) a1 a2 (am_si m 10 0 0 0) r17 h18) ?_
              show am_Go d 194 (105, [some (.inr (.inr (some (10, 0)))), some (.inl a1), some (.inl a2), some (.inl a3)], [.inl r17.1], am_mk r17.2) _ _ _ _
              cases h
              exact am_Go.rt htb rfl
            · rw [if_neg hs16] at h
              by_cases hs19 : a3 = 3
              · rw [if_pos hs19] at h
                refine am_Go.o htb (am_o_sw [(0, 64), (1, 71), (2, 99), (3, 106), (4, 121)] 136) rfl (S' := (106, [some (.inr (.inr (some (10, 0)))), some (.inl a1), some (.inl a2), some (.inl a3)], [], am_mk (am_si m 10 0 0 0))) (am_sw_eq (by simp only [am_sw, if_neg hs8, if_neg hs11, if_neg hs16, if_pos hs19])) ?_
                refine am_Go.n htb 3 (S' := (109, [some (.inr (.inr (some (10, 0)))), some (.inl a1), some (.inl a2), some (.inl a3)], [.inl a2, .inl a1, .inr (.inr (some (10, 0)))], am_mk (am_si m 10 0 0 0))) rfl ?_
                obtain ⟨r20, h21, h⟩ := am_bd h
                refine am_Go.cl htb rfl (ex_X10_barsOff d (by omega) a1 a2 (am_si m 10 0 0 0) r20 h21) ?_
                show am_Go d 194 (112, [some (.inr (.inr (some (10, 0)))), some (.inl a1), some (.inl a2), some (.inl a3)], [.inl r20.1], am_mk r20.2) _ _ _ _
                by_cases hc22 : r20.1 = 0
                · rw [if_pos hc22] at h
                  refine am_Go.c1 htb (S' := (119, [some (.inr (.inr (some (10, 0)))), some (.inl a1), some (.inl a2), some (.inl a3)], [], am_mk r20.2)) (if_pos hc22) ?_
                  refine am_Go.n htb 1 (S' := (120, [some (.inr (.inr (some (10, 0)))), some (.inl a1), some (.inl a2), some (.inl a3)], [.inl 0], am_mk r20.2)) rfl ?_
                  cases h
                  exact am_Go.rt htb rfl
                · rw [if_neg hc22] at h
                  refine am_Go.c1 htb (S' := (115, [some (.inr (.inr (some (10, 0)))), some (.inl a1), some (.inl a2), some (.inl a3)], [], am_mk r20.2)) (if_neg hc22) ?_
                  refine am_Go.n htb 2 (S' := (120, [some (.inr (.inr (some (10, 0)))), some (.inl a1), some (.inl a2), some (.inl a3)], [.inl 1], am_mk r20.2)) rfl ?_
                  cases h
                  exact am_Go.rt htb rfl
              · rw [if_neg hs19] at h
                by_cases hs23 : a3 = 4
                · rw [if_pos hs23] at h
                  refine am_Go.o htb (am_o_sw [(0, 64), (1, 71), (2, 99), (3, 106), (4, 121)] 136) rfl (S' := (121, [some (.inr (.inr (some (10, 0)))), some (.inl a1), some (.inl a2), some (.inl a3)], [], am_mk (am_si m 10 0 0 0))) (am_sw_eq (by simp only [am_sw, if_neg hs8, if_neg hs11, if_neg hs16, if_neg hs19, if_pos hs23])) ?_
                  refine am_Go.n htb 3 (S' := (124, [some (.inr (.inr (some (10, 0)))), some (.inl a1), some (.inl a2), some (.inl a3)], [.inl a2, .inl a1, .inr (.inr (some (10, 0)))], am_mk (am_si m 10 0 0 0))) rfl ?_
                  obtain ⟨r24, h25, h⟩ := am_bd h
                  refine am_Go.cl htb rfl (ex_X10_maySit d (by omega) a1 a2 (am_si m 10 0 0 0) r24 h25) ?_
                  show am_Go d 194 (127, [some (.inr (.inr (some (10, 0)))), some (.inl a1), some (.inl a2), some (.inl a3)], [.inl r24.1], am_mk r24.2) _ _ _ _
                  by_cases hc26 : r24.1 = 0
                  · rw [if_pos hc26] at h
                    refine am_Go.c1 htb (S' := (134, [some (.inr (.inr (some (10, 0)))), some (.inl a1), some (.inl a2), some (.inl a3)], [], am_mk r24.2)) (if_pos hc26) ?_
                    refine am_Go.n htb 1 (S' := (135, [some (.inr (.inr (some (10, 0)))), some (.inl a1), some (.inl a2), some (.inl a3)], [.inl 0], am_mk r24.2)) rfl ?_
                    cases h
                    exact am_Go.rt htb rfl
                  · rw [if_neg hc26] at h
                    refine am_Go.c1 htb (S' := (130, [some (.inr (.inr (some (10, 0)))), some (.inl a1), some (.inl a2), some (.inl a3)], [], am_mk r24.2)) (if_neg hc26) ?_
                    refine am_Go.n htb 2 (S' := (135, [some (.inr (.inr (some (10, 0)))), some (.inl a1), some (.inl a2), some (.inl a3)], [.inl 1], am_mk r24.2)) rfl ?_
                    cases h
                    exact am_Go.rt htb rfl
                · rw [if_neg hs23] at h
                  refine am_Go.o htb (am_o_sw [(0, 64), (1, 71), (2, 99), (3, 106), (4, 121)] 136) rfl (S' := (136, [some (.inr (.inr (some (10, 0)))), some (.inl a1), some (.inl a2), some (.inl a3)], [], am_mk (am_si m 10 0 0 0))) (am_sw_eq (by simp only [am_sw, if_neg hs8, if_neg hs11, if_neg hs16, if_neg hs19, if_neg hs23, if_false])) ?_
                  refine am_Go.n htb 1 (S' := (137, [some (.inr (.inr (some (10, 0)))), some (.inl a1), some (.inl a2), some (.inl a3)], [.inl (-1)], am_mk (am_si m 10 0 0 0))) rfl ?_
                  cases h
                  exact am_Go.rt htb rfl
      · rw [if_neg hc7] at h
        refine am_Go.c1 htb (S' := (26, [some (.inr (.inr (some (10, 0)))), some (.inl a1), some (.inl a2), some (.inl a3)], [], am_mk (am_si m 10 0 0 0))) (if_neg hc7) ?_
        refine am_Go.n htb 1 (S' := (27, [some (.inr (.inr (some (10, 0)))), some (.inl a1), some (.inl a2), some (.inl a3)], [.inl (-1)], am_mk (am_si m 10 0 0 0))) rfl ?_
        cases h
        exact am_Go.rt htb rfl
-- X10_terms
set_option maxRecDepth 100000 in
theorem ex_X10_terms (d : Nat) (hd : 2 ≤ d) (a1 : Int32) (a2 : Int32) (m : am_m) (t : Int32 × am_m) (h : fn_X10_terms a1 a2 m = some t) : am_Ex am_cod d 195 [.inr (.inr (some (10, 0))), .inl a1, .inl a2] (am_mk m) (some (.inl t.1)) (am_mk t.2) 0 0 := by
  obtain ⟨d, rfl⟩ : ∃ e, d = e + 1 := ⟨d - 1, by omega⟩
  have htb : am_tab 195 = at_195 := rfl
  refine ⟨Nat.le_of_ble_eq_true rfl, ?_⟩
  unfold fn_X10_terms at h
  show am_Go d 195 (0, [some (.inr (.inr (some (10, 0)))), some (.inl a1), some (.inl a2), none], [], am_mk m) _ _ 0 0
  refine am_Go.n htb 4 (S' := (6, [some (.inr (.inr (some (10, 0)))), some (.inl a1), some (.inl a2), none], [.inl a1], am_mk (am_si m 10 0 0 0))) rfl ?_
  obtain ⟨q11, h17, h⟩ := am_bd h
  refine am_Go.cut (S := (60, [some (.inr (.inr (some (10, 0)))), some (.inl a1), some (.inl a2), none], [.inl q11], am_mk (am_si m 10 0 0 0))) ?_ (fun key => ?_)
  · refine am_Go.n htb 2 (S' := (62, [some (.inr (.inr (some (10, 0)))), some (.inl a1), some (.inl a2), some (.inl q11)], [.inl q11], am_mk (am_si m 10 0 0 0))) rfl ?_
    by_cases hc12 : q11 ≠ 0
    · rw [if_pos hc12] at h
      refine am_Go.c1 htb (S' := (71, [some (.inr (.inr (some (10, 0)))), some (.inl a1), some (.inl a2), some (.inl q11)], [], am_mk (am_si m 10 0 0 0))) (if_pos hc12) ?_
      refine am_Go.n htb 8 (S' := (81, [some (.inr (.inr (some (10, 0)))), some (.inl a1), some (.inl a2), some (.inl q11)], [.inl a2, .inl ((4 : Int32) + a1), .inr (.inr (some (10, 0)))], am_mk (am_si (am_si m 10 0 0 0) 10 0 8 0))) rfl ?_
      obtain ⟨r13, h14, h⟩ := am_bd h
      refine am_Go.cl htb rfl (ex_X10_change d (by omega) ((4 : Int32) + a1) a2 (am_si (am_si m 10 0 0 0) 10 0 8 0) r13 h14) ?_
      show am_Go d 195 (84, [some (.inr (.inr (some (10, 0)))), some (.inl a1), some (.inl a2), some (.inl q11)], [.inl r13.1], am_mk r13.2) _ _ _ _
      cases h
      exact am_Go.rt htb rfl
    · rw [if_neg hc12] at h
      refine am_Go.c1 htb (S' := (65, [some (.inr (.inr (some (10, 0)))), some (.inl a1), some (.inl a2), some (.inl q11)], [], am_mk (am_si m 10 0 0 0))) (if_neg hc12) ?_
      refine am_Go.n htb 2 (S' := (67, [some (.inr (.inr (some (10, 0)))), some (.inl a1), some (.inl a2), some (.inl q11)], [.inl (-1), .inr (.inr (some (10, 0)))], am_mk (am_si m 10 0 0 0))) rfl ?_
      obtain ⟨r15, h16, h⟩ := am_bd h
      refine am_Go.cl htb rfl (ex_X10_tell d (by omega) (-1) (am_si m 10 0 0 0) r15 h16) ?_
      show am_Go d 195 (70, [some (.inr (.inr (some (10, 0)))), some (.inl a1), some (.inl a2), some (.inl q11)], [.inl r15.1], am_mk r15.2) _ _ _ _
      cases h
      exact am_Go.rt htb rfl
  · have h := h17
    by_cases hc1 : a1 ≠ 0
    · rw [if_pos hc1] at h
      refine am_Go.c1 htb (S' := (21, [some (.inr (.inr (some (10, 0)))), some (.inl a1), some (.inl a2), none], [], am_mk (am_si m 10 0 0 0))) (if_pos hc1) ?_
      refine am_Go.n htb 2 (S' := (23, [some (.inr (.inr (some (10, 0)))), some (.inl a1), some (.inl a2), none], [.inl 1, .inl a1], am_mk (am_si m 10 0 0 0))) rfl ?_
      by_cases hc2 : a1 ≠ (1 : Int32)
      · rw [if_pos hc2] at h
        refine am_Go.c1 htb (S' := (38, [some (.inr (.inr (some (10, 0)))), some (.inl a1), some (.inl a2), none], [], am_mk (am_si m 10 0 0 0))) (if_pos hc2) ?_
        refine am_Go.n htb 2 (S' := (40, [some (.inr (.inr (some (10, 0)))), some (.inl a1), some (.inl a2), none], [.inl 2, .inl a1], am_mk (am_si m 10 0 0 0))) rfl ?_
        by_cases hc3 : a1 ≠ (2 : Int32)
        · rw [if_pos hc3] at h
          refine am_Go.c1 htb (S' := (59, [some (.inr (.inr (some (10, 0)))), some (.inl a1), some (.inl a2), none], [], am_mk (am_si m 10 0 0 0))) (if_pos hc3) ?_
          refine am_Go.n htb 1 (S' := (60, [some (.inr (.inr (some (10, 0)))), some (.inl a1), some (.inl a2), none], [.inl 0], am_mk (am_si m 10 0 0 0))) rfl ?_
          cases h
          exact am_Go.fg (by exact ⟨rfl, ⟨rfl, ⟨rfl, trivial⟩⟩⟩) key
        · rw [if_neg hc3] at h
          refine am_Go.c1 htb (S' := (43, [some (.inr (.inr (some (10, 0)))), some (.inl a1), some (.inl a2), none], [], am_mk (am_si m 10 0 0 0))) (if_neg hc3) ?_
          refine am_Go.n htb 4 (S' := (49, [some (.inr (.inr (some (10, 0)))), some (.inl a1), some (.inl a2), none], [.inr (.inl 9), .inr (.inl 0), .inr (.inl a2.toInt64)], am_mk (am_si m 10 0 0 0))) rfl ?_
          obtain ⟨r4, h5, h⟩ := am_bd h
          refine am_Go.cl htb rfl (ex_X10_in d (by omega) a2.toInt64 0 9 (am_si m 10 0 0 0) r4 h5) ?_
          show am_Go d 195 (52, [some (.inr (.inr (some (10, 0)))), some (.inl a1), some (.inl a2), none], [.inl r4], am_mk (am_si m 10 0 0 0)) _ _ _ _
          by_cases hc6 : r4 = 0
          · rw [if_pos hc6] at h
            refine am_Go.c1 htb (S' := (59, [some (.inr (.inr (some (10, 0)))), some (.inl a1), some (.inl a2), none], [], am_mk (am_si m 10 0 0 0))) (if_pos hc6) ?_
            refine am_Go.n htb 1 (S' := (60, [some (.inr (.inr (some (10, 0)))), some (.inl a1), some (.inl a2), none], [.inl 0], am_mk (am_si m 10 0 0 0))) rfl ?_
            cases h
            exact am_Go.fg (by exact ⟨rfl, ⟨rfl, ⟨rfl, trivial⟩⟩⟩) key
          · rw [if_neg hc6] at h
            refine am_Go.c1 htb (S' := (55, [some (.inr (.inr (some (10, 0)))), some (.inl a1), some (.inl a2), none], [], am_mk (am_si m 10 0 0 0))) (if_neg hc6) ?_
            refine am_Go.n htb 2 (S' := (60, [some (.inr (.inr (some (10, 0)))), some (.inl a1), some (.inl a2), none], [.inl 1], am_mk (am_si m 10 0 0 0))) rfl ?_
            cases h
            exact am_Go.fg (by exact ⟨rfl, ⟨rfl, ⟨rfl, trivial⟩⟩⟩) key
      · rw [if_neg hc2] at h
        refine am_Go.c1 htb (S' := (26, [some (.inr (.inr (some (10, 0)))), some (.inl a1), some (.inl a2), none], [], am_mk (am_si m 10 0 0 0))) (if_neg hc2) ?_
        refine am_Go.n htb 4 (S' := (32, [some (.inr (.inr (some (10, 0)))), some (.inl a1), some (.inl a2), none], [.inr (.inl 10), .inr (.inl 0), .inr (.inl a2.toInt64)], am_mk (am_si m 10 0 0 0))) rfl ?_
        obtain ⟨r7, h8, h⟩ := am_bd h
        refine am_Go.cl htb rfl (ex_X10_in d (by omega) a2.toInt64 0 10 (am_si m 10 0 0 0) r7 h8) ?_
        show am_Go d 195 (35, [some (.inr (.inr (some (10, 0)))), some (.inl a1), some (.inl a2), none], [.inl r7], am_mk (am_si m 10 0 0 0)) _ _ _ _
        refine am_Go.n htb 1 (S' := (60, [some (.inr (.inr (some (10, 0)))), some (.inl a1), some (.inl a2), none], [.inl r7], am_mk (am_si m 10 0 0 0))) rfl ?_
        cases h
        exact am_Go.fg (by exact ⟨rfl, ⟨rfl, ⟨rfl, trivial⟩⟩⟩) key
    · rw [if_neg hc1] at h
      refine am_Go.c1 htb (S' := (9, [some (.inr (.inr (some (10, 0)))), some (.inl a1), some (.inl a2), none], [], am_mk (am_si m 10 0 0 0))) (if_neg hc1) ?_
      refine am_Go.n htb 4 (S' := (15, [some (.inr (.inr (some (10, 0)))), some (.inl a1), some (.inl a2), none], [.inr (.inl 999), .inr (.inl 0), .inr (.inl a2.toInt64)], am_mk (am_si m 10 0 0 0))) rfl ?_
      obtain ⟨r9, h10, h⟩ := am_bd h
      refine am_Go.cl htb rfl (ex_X10_in d (by omega) a2.toInt64 0 999 (am_si m 10 0 0 0) r9 h10) ?_
      show am_Go d 195 (18, [some (.inr (.inr (some (10, 0)))), some (.inl a1), some (.inl a2), none], [.inl r9], am_mk (am_si m 10 0 0 0)) _ _ _ _
      refine am_Go.n htb 1 (S' := (60, [some (.inr (.inr (some (10, 0)))), some (.inl a1), some (.inl a2), none], [.inl r9], am_mk (am_si m 10 0 0 0))) rfl ?_
      cases h
      exact am_Go.fg (by exact ⟨rfl, ⟨rfl, ⟨rfl, trivial⟩⟩⟩) key
-- X10_setHarm
set_option maxRecDepth 100000 in
theorem ex_X10_setHarm (d : Nat) (hd : 1 ≤ d) (a1 : Int32) (a2 : Int32) (a3 : Int32) (m : am_m) (t : am_m) (h : fn_X10_setHarm a1 a2 a3 m = some t) : am_Ex am_cod d 196 [.inr (.inr (some (10, 0))), .inl a1, .inl a2, .inl a3] (am_mk m) (none) (am_mk t) 0 0 := by
  obtain ⟨d, rfl⟩ : ∃ e, d = e + 1 := ⟨d - 1, by omega⟩
  have htb : am_tab 196 = at_196 := rfl
  refine ⟨Nat.le_of_ble_eq_true rfl, ?_⟩
  unfold fn_X10_setHarm at h
  show am_Go d 196 (0, [some (.inr (.inr (some (10, 0)))), some (.inl a1), some (.inl a2), some (.inl a3)], [], am_mk m) _ _ 0 0
  refine am_Go.n htb 10 (S' := (14, [some (.inr (.inr (some (10, 0)))), some (.inl a1), some (.inl a2), some (.inl a3)], [.inl a3, .inl (((14 : Int32) + ((7 : Int32) * a1)) + a2), .inr (.inr (some (44, 0)))], am_mk m)) rfl ?_
  obtain ⟨hg1, h⟩ := am_ck_some h
  refine am_Go.c1 htb (S' := (15, [some (.inr (.inr (some (10, 0)))), some (.inl a1), some (.inl a2), some (.inl a3)], [], am_mk (am_si m 44 0 (((14 : Int32) + ((7 : Int32) * a1)) + a2).toNatClampNeg a3))) (if_neg hg1) ?_
  refine am_Go.n htb 13 (S' := (34, [some (.inr (.inr (some (10, 0)))), some (.inl a1), some (.inl a2), some (.inl a3)], [.inl ((am_si m 44 0 (((14 : Int32) + ((7 : Int32) * a1)) + a2).toNatClampNeg a3).1 44 0 4), .inl (((63 : Int32) + ((7 : Int32) * a1)) + a2), .inr (.inr (some (44, 0)))], am_mk (am_si m 44 0 (((14 : Int32) + ((7 : Int32) * a1)) + a2).toNatClampNeg a3))) rfl ?_
  obtain ⟨hg2, h⟩ := am_ck_some h
  refine am_Go.c1 htb (S' := (35, [some (.inr (.inr (some (10, 0)))), some (.inl a1), some (.inl a2), some (.inl a3)], [], am_mk (am_si (am_si m 44 0 (((14 : Int32) + ((7 : Int32) * a1)) + a2).toNatClampNeg a3) 44 0 (((63 : Int32) + ((7 : Int32) * a1)) + a2).toNatClampNeg ((am_si m 44 0 (((14 : Int32) + ((7 : Int32) * a1)) + a2).toNatClampNeg a3).1 44 0 4)))) (if_neg hg2) ?_
  cases h
  exact am_Go.rt htb rfl
-- X10_row
set_option maxRecDepth 100000 in
theorem lt_X10_row_35 (d : Nat) (hd : 3 ≤ d + 1) {r : Option am_V} {M' : am_M} {kc ks : Nat} {n : Nat} {x1 : Int32} {x2 : Int32} {x3 : Int32} {m : am_m} {t : Int32 × am_m} (h : lp_X10_row_35 n x1 x2 x3 m = some t) (hk : am_Go d 197 (159, [some (.inr (.inr (some (10, 0)))), some (.inl x1), some (.inl t.1), none], [], am_mk t.2) r M' kc ks) : am_Go d 197 (35, [some (.inr (.inr (some (10, 0)))), some (.inl x1), some (.inl x2), some (.inl x3)], [], am_mk m) r M' kc ks := by
  have htb : am_tab 197 = at_197 := rfl
  induction n generalizing x2 x3 m with
  | zero => cases h
  | succ n ih =>
    unfold lp_X10_row_35 at h
    refine am_Go.n htb 2 (S' := (37, [some (.inr (.inr (some (10, 0)))), some (.inl x1), some (.inl x2), some (.inl x3)], [.inl x1, .inl x3], am_mk m)) rfl ?_
    by_cases hc2 : x1 ≤ x3
    · rw [if_pos hc2] at h
      refine am_Go.c1 htb (S' := (159, [some (.inr (.inr (some (10, 0)))), some (.inl x1), some (.inl x2), some (.inl x3)], [], am_mk m)) (if_pos hc2) ?_
      cases h
      exact am_Go.fg (by exact ⟨rfl, ⟨rfl, ⟨rfl, trivial⟩⟩⟩) hk
    · rw [if_neg hc2] at h
      refine am_Go.c1 htb (S' := (40, [some (.inr (.inr (some (10, 0)))), some (.inl x1), some (.inl x2), some (.inl x3)], [], am_mk m)) (if_neg hc2) ?_
      refine am_Go.n htb 4 (S' := (44, [some (.inr (.inr (some (10, 0)))), some (.inl x1), some (.inl x2), some (.inl x3)], [.inl x1, .inl (x3 + (2 : Int32))], am_mk m)) rfl ?_
      obtain ⟨q24, h25, h⟩ := am_bd h
      refine am_Go.cut (S := (153, [some (.inr (.inr (some (10, 0)))), some (.inl x1), some (.inl q24.1), some (.inl x3)], [], am_mk q24.2)) ?_ (fun key => ?_)
      · refine am_Go.n htb 2 (S' := (35, [some (.inr (.inr (some (10, 0)))), some (.inl x1), some (.inl q24.1), some (.inl (x3 + 3))], [], am_mk q24.2)) rfl ?_
        first | exact ih h | exact ih h hk
      · have h := h25
        by_cases hc3 : x1 ≤ (x3 + (2 : Int32))
        · rw [if_pos hc3] at h
          refine am_Go.c1 htb (S' := (143, [some (.inr (.inr (some (10, 0)))), some (.inl x1), some (.inl x2), some (.inl x3)], [], am_mk m)) (if_pos hc3) ?_
          refine am_Go.n htb 6 (S' := (153, [some (.inr (.inr (some (10, 0)))), some (.inl x1), some (.inl x2), some (.inl x3)], [], am_mk (am_si m 10 0 11 ((m.1 10 0 11) + (1 : Int32))))) rfl ?_
          cases h
          exact am_Go.fg (by exact ⟨rfl, ⟨rfl, ⟨rfl, ⟨rfl, trivial⟩⟩⟩⟩) key
        · rw [if_neg hc3] at h
          refine am_Go.c1 htb (S' := (47, [some (.inr (.inr (some (10, 0)))), some (.inl x1), some (.inl x2), some (.inl x3)], [], am_mk m)) (if_neg hc3) ?_
          refine am_Go.n htb 4 (S' := (53, [some (.inr (.inr (some (10, 0)))), some (.inl x1), some (.inl x2), some (.inl x3)], [.inl x3, .inr (.inr (some (50, 0))), .inr (.inr (some (10, 0)))], am_mk m)) rfl ?_
          obtain ⟨hg4, h⟩ := am_ck_some h
          refine am_Go.c1 htb (S' := (54, [some (.inr (.inr (some (10, 0)))), some (.inl x1), some (.inl x2), some (.inl x3)], [.inl (m.1 50 0 x3.toNatClampNeg), .inr (.inr (some (10, 0)))], am_mk m)) (if_neg hg4) ?_
          obtain ⟨r5, h6, h⟩ := am_bd h
          refine am_Go.cl htb rfl (ex_X10_isFolk d (by omega) (m.1 50 0 x3.toNatClampNeg) m r5 h6) ?_
          show am_Go d 197 (57, [some (.inr (.inr (some (10, 0)))), some (.inl x1), some (.inl x2), some (.inl x3)], [.inl r5], am_mk m) _ _ _ _
          by_cases hc7 : r5 = 0
          · rw [if_pos hc7] at h
            refine am_Go.c1 htb (S' := (143, [some (.inr (.inr (some (10, 0)))), some (.inl x1), some (.inl x2), some (.inl x3)], [], am_mk m)) (if_pos hc7) ?_
            refine am_Go.n htb 6 (S' := (153, [some (.inr (.inr (some (10, 0)))), some (.inl x1), some (.inl x2), some (.inl x3)], [], am_mk (am_si m 10 0 11 ((m.1 10 0 11) + (1 : Int32))))) rfl ?_
            cases h
            exact am_Go.fg (by exact ⟨rfl, ⟨rfl, ⟨rfl, ⟨rfl, trivial⟩⟩⟩⟩) key
          · rw [if_neg hc7] at h
            refine am_Go.c1 htb (S' := (60, [some (.inr (.inr (some (10, 0)))), some (.inl x1), some (.inl x2), some (.inl x3)], [], am_mk m)) (if_neg hc7) ?_
            refine am_Go.n htb 6 (S' := (68, [some (.inr (.inr (some (10, 0)))), some (.inl x1), some (.inl x2), some (.inl x3)], [.inl (x3 + (1 : Int32)), .inr (.inr (some (50, 0))), .inr (.inr (some (10, 0)))], am_mk m)) rfl ?_
            obtain ⟨hg8, h⟩ := am_ck_some h
            refine am_Go.c1 htb (S' := (69, [some (.inr (.inr (some (10, 0)))), some (.inl x1), some (.inl x2), some (.inl x3)], [.inl (m.1 50 0 (x3 + (1 : Int32)).toNatClampNeg), .inr (.inr (some (10, 0)))], am_mk m)) (if_neg hg8) ?_
            obtain ⟨r9, h10, h⟩ := am_bd h
            refine am_Go.cl htb rfl (ex_X10_isFolk d (by omega) (m.1 50 0 (x3 + (1 : Int32)).toNatClampNeg) m r9 h10) ?_
            show am_Go d 197 (72, [some (.inr (.inr (some (10, 0)))), some (.inl x1), some (.inl x2), some (.inl x3)], [.inl r9], am_mk m) _ _ _ _
            by_cases hc11 : r9 = 0
            · rw [if_pos hc11] at h
              refine am_Go.c1 htb (S' := (143, [some (.inr (.inr (some (10, 0)))), some (.inl x1), some (.inl x2), some (.inl x3)], [], am_mk m)) (if_pos hc11) ?_
              refine am_Go.n htb 6 (S' := (153, [some (.inr (.inr (some (10, 0)))), some (.inl x1), some (.inl x2), some (.inl x3)], [], am_mk (am_si m 10 0 11 ((m.1 10 0 11) + (1 : Int32))))) rfl ?_
              cases h
              exact am_Go.fg (by exact ⟨rfl, ⟨rfl, ⟨rfl, ⟨rfl, trivial⟩⟩⟩⟩) key
            · rw [if_neg hc11] at h
              refine am_Go.c1 htb (S' := (75, [some (.inr (.inr (some (10, 0)))), some (.inl x1), some (.inl x2), some (.inl x3)], [], am_mk m)) (if_neg hc11) ?_
              refine am_Go.n htb 3 (S' := (80, [some (.inr (.inr (some (10, 0)))), some (.inl x1), some (.inl x2), some (.inl x3)], [.inl x3, .inr (.inr (some (50, 0)))], am_mk m)) rfl ?_
              obtain ⟨hg12, h⟩ := am_ck_some h
              refine am_Go.c1 htb (S' := (81, [some (.inr (.inr (some (10, 0)))), some (.inl x1), some (.inl x2), some (.inl x3)], [.inl (m.1 50 0 x3.toNatClampNeg)], am_mk m)) (if_neg hg12) ?_
              refine am_Go.n htb 5 (S' := (88, [some (.inr (.inr (some (10, 0)))), some (.inl x1), some (.inl x2), some (.inl x3)], [.inl (x3 + (1 : Int32)), .inr (.inr (some (50, 0))), .inl (m.1 50 0 x3.toNatClampNeg)], am_mk m)) rfl ?_
              obtain ⟨hg13, h⟩ := am_ck_some h
              refine am_Go.c1 htb (S' := (89, [some (.inr (.inr (some (10, 0)))), some (.inl x1), some (.inl x2), some (.inl x3)], [.inl (m.1 50 0 (x3 + (1 : Int32)).toNatClampNeg), .inl (m.1 50 0 x3.toNatClampNeg)], am_mk m)) (if_neg hg13) ?_
              by_cases hc14 : (m.1 50 0 x3.toNatClampNeg) = (m.1 50 0 (x3 + (1 : Int32)).toNatClampNeg)
              · rw [if_pos hc14] at h
                refine am_Go.c1 htb (S' := (143, [some (.inr (.inr (some (10, 0)))), some (.inl x1), some (.inl x2), some (.inl x3)], [], am_mk m)) (if_pos hc14) ?_
                refine am_Go.n htb 6 (S' := (153, [some (.inr (.inr (some (10, 0)))), some (.inl x1), some (.inl x2), some (.inl x3)], [], am_mk (am_si m 10 0 11 ((m.1 10 0 11) + (1 : Int32))))) rfl ?_
                cases h
                exact am_Go.fg (by exact ⟨rfl, ⟨rfl, ⟨rfl, ⟨rfl, trivial⟩⟩⟩⟩) key
              · rw [if_neg hc14] at h
                refine am_Go.c1 htb (S' := (92, [some (.inr (.inr (some (10, 0)))), some (.inl x1), some (.inl x2), some (.inl x3)], [], am_mk m)) (if_neg hc14) ?_
                refine am_Go.n htb 5 (S' := (99, [some (.inr (.inr (some (10, 0)))), some (.inl x1), some (.inl x2), some (.inl x3)], [.inl (x3 + (2 : Int32)), .inr (.inr (some (50, 0)))], am_mk m)) rfl ?_
                obtain ⟨hg15, h⟩ := am_ck_some h
                refine am_Go.c1 htb (S' := (100, [some (.inr (.inr (some (10, 0)))), some (.inl x1), some (.inl x2), some (.inl x3)], [.inl (m.1 50 0 (x3 + (2 : Int32)).toNatClampNeg)], am_mk m)) (if_neg hg15) ?_
                refine am_Go.n htb 3 (S' := (105, [some (.inr (.inr (some (10, 0)))), some (.inl x1), some (.inl x2), some (.inl x3)], [.inr (.inl 9), .inr (.inl 1), .inr (.inl ((m.1 50 0 (x3 + (2 : Int32)).toNatClampNeg).toInt64))], am_mk m)) rfl ?_
                obtain ⟨r16, h17, h⟩ := am_bd h
                refine am_Go.cl htb rfl (ex_X10_in d (by omega) ((m.1 50 0 (x3 + (2 : Int32)).toNatClampNeg).toInt64) 1 9 m r16 h17) ?_
                show am_Go d 197 (108, [some (.inr (.inr (some (10, 0)))), some (.inl x1), some (.inl x2), some (.inl x3)], [.inl r16], am_mk m) _ _ _ _
                by_cases hc18 : r16 = 0
                · rw [if_pos hc18] at h
                  refine am_Go.c1 htb (S' := (143, [some (.inr (.inr (some (10, 0)))), some (.inl x1), some (.inl x2), some (.inl x3)], [], am_mk m)) (if_pos hc18) ?_
                  refine am_Go.n htb 6 (S' := (153, [some (.inr (.inr (some (10, 0)))), some (.inl x1), some (.inl x2), some (.inl x3)], [], am_mk (am_si m 10 0 11 ((m.1 10 0 11) + (1 : Int32))))) rfl ?_
                  cases h
                  exact am_Go.fg (by exact ⟨rfl, ⟨rfl, ⟨rfl, ⟨rfl, trivial⟩⟩⟩⟩) key
                · rw [if_neg hc18] at h
                  refine am_Go.c1 htb (S' := (111, [some (.inr (.inr (some (10, 0)))), some (.inl x1), some (.inl x2), some (.inl x3)], [], am_mk m)) (if_neg hc18) ?_
                  refine am_Go.n htb 4 (S' := (117, [some (.inr (.inr (some (10, 0)))), some (.inl x1), some (.inl x2), some (.inl x3)], [.inl x3, .inr (.inr (some (50, 0))), .inr (.inr (some (10, 0)))], am_mk m)) rfl ?_
                  obtain ⟨hg19, h⟩ := am_ck_some h
                  refine am_Go.c1 htb (S' := (118, [some (.inr (.inr (some (10, 0)))), some (.inl x1), some (.inl x2), some (.inl x3)], [.inl (m.1 50 0 x3.toNatClampNeg), .inr (.inr (some (10, 0)))], am_mk m)) (if_neg hg19) ?_
                  refine am_Go.n htb 5 (S' := (125, [some (.inr (.inr (some (10, 0)))), some (.inl x1), some (.inl x2), some (.inl x3)], [.inl (x3 + (1 : Int32)), .inr (.inr (some (50, 0))), .inl (m.1 50 0 x3.toNatClampNeg), .inr (.inr (some (10, 0)))], am_mk m)) rfl ?_
                  obtain ⟨hg20, h⟩ := am_ck_some h
                  refine am_Go.c1 htb (S' := (126, [some (.inr (.inr (some (10, 0)))), some (.inl x1), some (.inl x2), some (.inl x3)], [.inl (m.1 50 0 (x3 + (1 : Int32)).toNatClampNeg), .inl (m.1 50 0 x3.toNatClampNeg), .inr (.inr (some (10, 0)))], am_mk m)) (if_neg hg20) ?_
                  refine am_Go.n htb 5 (S' := (133, [some (.inr (.inr (some (10, 0)))), some (.inl x1), some (.inl x2), some (.inl x3)], [.inl (x3 + (2 : Int32)), .inr (.inr (some (50, 0))), .inl (m.1 50 0 (x3 + (1 : Int32)).toNatClampNeg), .inl (m.1 50 0 x3.toNatClampNeg), .inr (.inr (some (10, 0)))], am_mk m)) rfl ?_
                  obtain ⟨hg21, h⟩ := am_ck_some h
                  refine am_Go.c1 htb (S' := (134, [some (.inr (.inr (some (10, 0)))), some (.inl x1), some (.inl x2), some (.inl x3)], [.inl (m.1 50 0 (x3 + (2 : Int32)).toNatClampNeg), .inl (m.1 50 0 (x3 + (1 : Int32)).toNatClampNeg), .inl (m.1 50 0 x3.toNatClampNeg), .inr (.inr (some (10, 0)))], am_mk m)) (if_neg hg21) ?_
                  obtain ⟨r22, h23, h⟩ := am_bd h
                  refine am_Go.cl htb rfl (ex_X10_setHarm d (by omega) (m.1 50 0 x3.toNatClampNeg) (m.1 50 0 (x3 + (1 : Int32)).toNatClampNeg) (m.1 50 0 (x3 + (2 : Int32)).toNatClampNeg) m r22 h23) ?_
                  show am_Go d 197 (137, [some (.inr (.inr (some (10, 0)))), some (.inl x1), some (.inl x2), some (.inl x3)], [], am_mk r22) _ _ _ _
                  refine am_Go.n htb 2 (S' := (153, [some (.inr (.inr (some (10, 0)))), some (.inl x1), some (.inl (x2 + 1)), some (.inl x3)], [], am_mk r22)) rfl ?_
                  cases h
                  exact am_Go.fg (by exact ⟨rfl, ⟨rfl, ⟨rfl, ⟨rfl, trivial⟩⟩⟩⟩) key
set_option maxRecDepth 100000 in
theorem ex_X10_row (d : Nat) (hd : 3 ≤ d)  (m : am_m) (t : Int32 × am_m) (h : fn_X10_row  m = some t) : am_Ex am_cod d 197 [.inr (.inr (some (10, 0)))] (am_mk m) (some (.inl t.1)) (am_mk t.2) 0 0 := by
  obtain ⟨d, rfl⟩ : ∃ e, d = e + 1 := ⟨d - 1, by omega⟩
  have htb : am_tab 197 = at_197 := rfl
  refine ⟨Nat.le_of_ble_eq_true rfl, ?_⟩
  unfold fn_X10_row at h
  show am_Go d 197 (0, [some (.inr (.inr (some (10, 0)))), none, none, none], [], am_mk m) _ _ 0 0
  refine am_Go.n htb 10 (S' := (16, [some (.inr (.inr (some (10, 0)))), some (.inl (m.1 10 0 13)), none, none], [.inl (m.1 10 0 13)], am_mk (am_si (am_si m 10 0 0 0) 10 0 13 0))) rfl ?_
  by_cases hc1 : (m.1 10 0 13) ≠ 0
  · rw [if_pos hc1] at h
    refine am_Go.c1 htb (S' := (26, [some (.inr (.inr (some (10, 0)))), some (.inl (m.1 10 0 13)), none, none], [], am_mk (am_si (am_si m 10 0 0 0) 10 0 13 0))) (if_pos hc1) ?_
    refine am_Go.n htb 7 (S' := (35, [some (.inr (.inr (some (10, 0)))), some (.inl (m.1 10 0 13)), some (.inl 0), some (.inl 0)], [], am_mk (am_si (am_si (am_si m 10 0 0 0) 10 0 13 0) 10 0 11 0))) rfl ?_
    obtain ⟨q26, h27, h⟩ := am_bd h
    refine lt_X10_row_35 _ hd (h := h27) (hk := ?_)
    refine am_Go.n htb 2 (S' := (161, [some (.inr (.inr (some (10, 0)))), some (.inl (m.1 10 0 13)), some (.inl q26.1), none], [.inl q26.1, .inr (.inr (some (10, 0)))], am_mk q26.2)) rfl ?_
    obtain ⟨r28, h29, h⟩ := am_bd h
    refine am_Go.cl htb rfl (ex_X10_lasting d (by omega) q26.1 q26.2 r28 h29) ?_
    show am_Go d 197 (164, [some (.inr (.inr (some (10, 0)))), some (.inl (m.1 10 0 13)), some (.inl q26.1), none], [.inl r28.1], am_mk r28.2) _ _ _ _
    cases h
    exact am_Go.rt htb rfl
  · rw [if_neg hc1] at h
    refine am_Go.c1 htb (S' := (19, [some (.inr (.inr (some (10, 0)))), some (.inl (m.1 10 0 13)), none, none], [], am_mk (am_si (am_si m 10 0 0 0) 10 0 13 0))) (if_neg hc1) ?_
    refine am_Go.n htb 2 (S' := (22, [some (.inr (.inr (some (10, 0)))), some (.inl (m.1 10 0 13)), none, none], [.inl (-6), .inr (.inr (some (10, 0)))], am_mk (am_si (am_si m 10 0 0 0) 10 0 13 0))) rfl ?_
    obtain ⟨r30, h31, h⟩ := am_bd h
    refine am_Go.cl htb rfl (ex_X10_tell d (by omega) (-6) (am_si (am_si m 10 0 0 0) 10 0 13 0) r30 h31) ?_
    show am_Go d 197 (25, [some (.inr (.inr (some (10, 0)))), some (.inl (m.1 10 0 13)), none, none], [.inl r30.1], am_mk r30.2) _ _ _ _
    cases h
    exact am_Go.rt htb rfl
-- X10_crumbs
set_option maxRecDepth 100000 in
theorem ex_X10_crumbs (d : Nat) (hd : 1 ≤ d)  (m : am_m) (t : Int32 × am_m) (h : fn_X10_crumbs  m = some t) : am_Ex am_cod d 198 [.inr (.inr (some (10, 0)))] (am_mk m) (some (.inl t.1)) (am_mk t.2) 0 0 := by
  obtain ⟨d, rfl⟩ : ∃ e, d = e + 1 := ⟨d - 1, by omega⟩
  have htb : am_tab 198 = at_198 := rfl
  refine ⟨Nat.le_of_ble_eq_true rfl, ?_⟩
  unfold fn_X10_crumbs at h
  show am_Go d 198 (0, [some (.inr (.inr (some (10, 0))))], [], am_mk m) _ _ 0 0
  refine am_Go.n htb 5 (S' := (9, [some (.inr (.inr (some (10, 0))))], [.inl (m.1 10 0 11)], am_mk (am_si m 10 0 0 0))) rfl ?_
  cases h
  exact am_Go.rt htb rfl
-- X10_four
set_option maxRecDepth 100000 in
theorem lt_X10_four_3 (d : Nat) (hd : 1 ≤ d + 1) {r : Option am_V} {M' : am_M} {kc ks : Nat} {n : Nat} {x1 : Int32} {x2 : Int32} {m : am_m} {t : am_m} (h : lp_X10_four_3 n x1 x2 m = some t) (hk : am_Go d 199 (39, [some (.inr (.inr (some (10, 0)))), some (.inl x1), none], [], am_mk t) r M' kc ks) : am_Go d 199 (3, [some (.inr (.inr (some (10, 0)))), some (.inl x1), some (.inl x2)], [], am_mk m) r M' kc ks := by
  have htb : am_tab 199 = at_199 := rfl
  induction n generalizing x2 m with
  | zero => cases h
  | succ n ih =>
    unfold lp_X10_four_3 at h
    refine am_Go.n htb 1 (S' := (4, [some (.inr (.inr (some (10, 0)))), some (.inl x1), some (.inl x2)], [.inl x2], am_mk m)) rfl ?_
    by_cases hc1 : x2 < 0
    · rw [if_pos hc1] at h
      refine am_Go.c1 htb (S' := (39, [some (.inr (.inr (some (10, 0)))), some (.inl x1), some (.inl x2)], [], am_mk m)) (if_pos hc1) ?_
      cases h
      exact am_Go.fg (by exact ⟨rfl, ⟨rfl, trivial⟩⟩) hk
    · rw [if_neg hc1] at h
      refine am_Go.c1 htb (S' := (7, [some (.inr (.inr (some (10, 0)))), some (.inl x1), some (.inl x2)], [], am_mk m)) (if_neg hc1) ?_
      refine am_Go.n htb 9 (S' := (22, [some (.inr (.inr (some (10, 0)))), some (.inl x1), some (.inl x2)], [.inl ((x1 >>> (x2 &&& 31)) &&& (255 : Int32)), .inl (m.1 10 0 13), .inr (.inr (some (50, 0)))], am_mk m)) rfl ?_
      obtain ⟨hg2, h⟩ := am_ck_some h
      refine am_Go.c1 htb (S' := (23, [some (.inr (.inr (some (10, 0)))), some (.inl x1), some (.inl x2)], [], am_mk (am_si m 50 0 (m.1 10 0 13).toNatClampNeg ((x1 >>> (x2 &&& 31)) &&& (255 : Int32))))) (if_neg hg2) ?_
      refine am_Go.n htb 6 (S' := (33, [some (.inr (.inr (some (10, 0)))), some (.inl x1), some (.inl x2)], [], am_mk (am_si (am_si m 50 0 (m.1 10 0 13).toNatClampNeg ((x1 >>> (x2 &&& 31)) &&& (255 : Int32))) 10 0 13 ((m.1 10 0 13) + (1 : Int32))))) rfl ?_
      refine am_Go.o htb (am_o_inc 2 (-8)) rfl (S' := (36, [some (.inr (.inr (some (10, 0)))), some (.inl x1), some (.inl (x2 - 8))], [], am_mk (am_si (am_si m 50 0 (m.1 10 0 13).toNatClampNeg ((x1 >>> (x2 &&& 31)) &&& (255 : Int32))) 10 0 13 ((m.1 10 0 13) + (1 : Int32))))) (am_incn rfl rfl) ?_
      refine am_Go.n htb 1 (S' := (3, [some (.inr (.inr (some (10, 0)))), some (.inl x1), some (.inl (x2 - 8))], [], am_mk (am_si (am_si m 50 0 (m.1 10 0 13).toNatClampNeg ((x1 >>> (x2 &&& 31)) &&& (255 : Int32))) 10 0 13 ((m.1 10 0 13) + (1 : Int32))))) rfl ?_
      first | exact ih h | exact ih h hk
set_option maxRecDepth 100000 in
theorem ex_X10_four (d : Nat) (hd : 1 ≤ d) (a1 : Int32) (m : am_m) (t : am_m) (h : fn_X10_four a1 m = some t) : am_Ex am_cod d 199 [.inr (.inr (some (10, 0))), .inl a1] (am_mk m) (none) (am_mk t) 0 0 := by
  obtain ⟨d, rfl⟩ : ∃ e, d = e + 1 := ⟨d - 1, by omega⟩
  have htb : am_tab 199 = at_199 := rfl
  refine ⟨Nat.le_of_ble_eq_true rfl, ?_⟩
  unfold fn_X10_four at h
  show am_Go d 199 (0, [some (.inr (.inr (some (10, 0)))), some (.inl a1), none], [], am_mk m) _ _ 0 0
  refine am_Go.n htb 2 (S' := (3, [some (.inr (.inr (some (10, 0)))), some (.inl a1), some (.inl 24)], [], am_mk m)) rfl ?_
  obtain ⟨q3, h4, h⟩ := am_bd h
  refine lt_X10_four_3 _ hd (h := h4) (hk := ?_)
  cases h
  exact am_Go.rt htb rfl
-- X10_feed
set_option maxRecDepth 100000 in
theorem ex_X10_feed (d : Nat) (hd : 2 ≤ d) (a1 : Int32) (a2 : Int32) (a3 : Int32) (a4 : Int32) (a5 : Int32) (m : am_m) (t : Int32 × am_m) (h : fn_X10_feed a1 a2 a3 a4 a5 m = some t) : am_Ex am_cod d 200 [.inr (.inr (some (10, 0))), .inl a1, .inl a2, .inl a3, .inl a4, .inl a5] (am_mk m) (some (.inl t.1)) (am_mk t.2) 0 0 := by
  obtain ⟨d, rfl⟩ : ∃ e, d = e + 1 := ⟨d - 1, by omega⟩
  have htb : am_tab 200 = at_200 := rfl
  refine ⟨Nat.le_of_ble_eq_true rfl, ?_⟩
  unfold fn_X10_feed at h
  show am_Go d 200 (0, [some (.inr (.inr (some (10, 0)))), some (.inl a1), some (.inl a2), some (.inl a3), some (.inl a4), some (.inl a5)], [], am_mk m) _ _ 0 0
  refine am_Go.n htb 8 (S' := (15, [some (.inr (.inr (some (10, 0)))), some (.inl a1), some (.inl a2), some (.inl a3), some (.inl a4), some (.inl a5)], [.inl 400, .inl ((m.1 10 0 13) + (20 : Int32))], am_mk (am_si m 10 0 0 0))) rfl ?_
  by_cases hc1 : ((m.1 10 0 13) + (20 : Int32)) ≤ (400 : Int32)
  · rw [if_pos hc1] at h
    refine am_Go.c1 htb (S' := (20, [some (.inr (.inr (some (10, 0)))), some (.inl a1), some (.inl a2), some (.inl a3), some (.inl a4), some (.inl a5)], [], am_mk (am_si m 10 0 0 0))) (if_pos hc1) ?_
    refine am_Go.n htb 2 (S' := (22, [some (.inr (.inr (some (10, 0)))), some (.inl a1), some (.inl a2), some (.inl a3), some (.inl a4), some (.inl a5)], [.inl a1, .inr (.inr (some (10, 0)))], am_mk (am_si m 10 0 0 0))) rfl ?_
    obtain ⟨r2, h3, h⟩ := am_bd h
    refine am_Go.cl htb rfl (ex_X10_four d (by omega) a1 (am_si m 10 0 0 0) r2 h3) ?_
    show am_Go d 200 (25, [some (.inr (.inr (some (10, 0)))), some (.inl a1), some (.inl a2), some (.inl a3), some (.inl a4), some (.inl a5)], [], am_mk r2) _ _ _ _
    refine am_Go.n htb 2 (S' := (27, [some (.inr (.inr (some (10, 0)))), some (.inl a1), some (.inl a2), some (.inl a3), some (.inl a4), some (.inl a5)], [.inl a2, .inr (.inr (some (10, 0)))], am_mk r2)) rfl ?_
    obtain ⟨r4, h5, h⟩ := am_bd h
    refine am_Go.cl htb rfl (ex_X10_four d (by omega) a2 r2 r4 h5) ?_
    show am_Go d 200 (30, [some (.inr (.inr (some (10, 0)))), some (.inl a1), some (.inl a2), some (.inl a3), some (.inl a4), some (.inl a5)], [], am_mk r4) _ _ _ _
    refine am_Go.n htb 2 (S' := (32, [some (.inr (.inr (some (10, 0)))), some (.inl a1), some (.inl a2), some (.inl a3), some (.inl a4), some (.inl a5)], [.inl a3, .inr (.inr (some (10, 0)))], am_mk r4)) rfl ?_
    obtain ⟨r6, h7, h⟩ := am_bd h
    refine am_Go.cl htb rfl (ex_X10_four d (by omega) a3 r4 r6 h7) ?_
    show am_Go d 200 (35, [some (.inr (.inr (some (10, 0)))), some (.inl a1), some (.inl a2), some (.inl a3), some (.inl a4), some (.inl a5)], [], am_mk r6) _ _ _ _
    refine am_Go.n htb 2 (S' := (38, [some (.inr (.inr (some (10, 0)))), some (.inl a1), some (.inl a2), some (.inl a3), some (.inl a4), some (.inl a5)], [.inl a4, .inr (.inr (some (10, 0)))], am_mk r6)) rfl ?_
    obtain ⟨r8, h9, h⟩ := am_bd h
    refine am_Go.cl htb rfl (ex_X10_four d (by omega) a4 r6 r8 h9) ?_
    show am_Go d 200 (41, [some (.inr (.inr (some (10, 0)))), some (.inl a1), some (.inl a2), some (.inl a3), some (.inl a4), some (.inl a5)], [], am_mk r8) _ _ _ _
    refine am_Go.n htb 2 (S' := (44, [some (.inr (.inr (some (10, 0)))), some (.inl a1), some (.inl a2), some (.inl a3), some (.inl a4), some (.inl a5)], [.inl a5, .inr (.inr (some (10, 0)))], am_mk r8)) rfl ?_
    obtain ⟨r10, h11, h⟩ := am_bd h
    refine am_Go.cl htb rfl (ex_X10_four d (by omega) a5 r8 r10 h11) ?_
    show am_Go d 200 (47, [some (.inr (.inr (some (10, 0)))), some (.inl a1), some (.inl a2), some (.inl a3), some (.inl a4), some (.inl a5)], [], am_mk r10) _ _ _ _
    refine am_Go.n htb 2 (S' := (51, [some (.inr (.inr (some (10, 0)))), some (.inl a1), some (.inl a2), some (.inl a3), some (.inl a4), some (.inl a5)], [.inl (r10.1 10 0 13)], am_mk r10)) rfl ?_
    cases h
    exact am_Go.rt htb rfl
  · rw [if_neg hc1] at h
    refine am_Go.c1 htb (S' := (18, [some (.inr (.inr (some (10, 0)))), some (.inl a1), some (.inl a2), some (.inl a3), some (.inl a4), some (.inl a5)], [], am_mk (am_si m 10 0 0 0))) (if_neg hc1) ?_
    refine am_Go.n htb 1 (S' := (19, [some (.inr (.inr (some (10, 0)))), some (.inl a1), some (.inl a2), some (.inl a3), some (.inl a4), some (.inl a5)], [.inl (-1)], am_mk (am_si m 10 0 0 0))) rfl ?_
    cases h
    exact am_Go.rt htb rfl
-- X10_end
set_option maxRecDepth 100000 in
theorem ex_X10_end (d : Nat) (hd : 1 ≤ d) (a1 : Int32) (m : am_m) (t : Int32 × am_m) (h : fn_X10_end a1 m = some t) : am_Ex am_cod d 201 [.inr (.inr (some (10, 0))), .inl a1] (am_mk m) (some (.inl t.1)) (am_mk t.2) 0 0 := by
  obtain ⟨d, rfl⟩ : ∃ e, d = e + 1 := ⟨d - 1, by omega⟩
  have htb : am_tab 201 = at_201 := rfl
  refine ⟨Nat.le_of_ble_eq_true rfl, ?_⟩
  unfold fn_X10_end at h
  show am_Go d 201 (0, [some (.inr (.inr (some (10, 0)))), some (.inl a1)], [], am_mk m) _ _ 0 0
  refine am_Go.n htb 4 (S' := (6, [some (.inr (.inr (some (10, 0)))), some (.inl a1)], [.inl a1], am_mk (am_si m 10 0 0 0))) rfl ?_
  by_cases hc1 : a1 < 0
  · rw [if_pos hc1] at h
    refine am_Go.c1 htb (S' := (17, [some (.inr (.inr (some (10, 0)))), some (.inl a1)], [], am_mk (am_si m 10 0 0 0))) (if_pos hc1) ?_
    refine am_Go.n htb 1 (S' := (18, [some (.inr (.inr (some (10, 0)))), some (.inl a1)], [.inl (-1)], am_mk (am_si m 10 0 0 0))) rfl ?_
    cases h
    exact am_Go.rt htb rfl
  · rw [if_neg hc1] at h
    refine am_Go.c1 htb (S' := (9, [some (.inr (.inr (some (10, 0)))), some (.inl a1)], [], am_mk (am_si m 10 0 0 0))) (if_neg hc1) ?_
    refine am_Go.n htb 3 (S' := (14, [some (.inr (.inr (some (10, 0)))), some (.inl a1)], [.inl (m.1 10 0 13), .inl a1], am_mk (am_si m 10 0 0 0))) rfl ?_
    by_cases hc2 : a1 ≤ (m.1 10 0 13)
    · rw [if_pos hc2] at h
      refine am_Go.c1 htb (S' := (19, [some (.inr (.inr (some (10, 0)))), some (.inl a1)], [], am_mk (am_si m 10 0 0 0))) (if_pos hc2) ?_
      refine am_Go.n htb 4 (S' := (25, [some (.inr (.inr (some (10, 0)))), some (.inl a1)], [.inl a1], am_mk (am_si (am_si m 10 0 0 0) 10 0 13 a1))) rfl ?_
      cases h
      exact am_Go.rt htb rfl
    · rw [if_neg hc2] at h
      refine am_Go.c1 htb (S' := (17, [some (.inr (.inr (some (10, 0)))), some (.inl a1)], [], am_mk (am_si m 10 0 0 0))) (if_neg hc2) ?_
      refine am_Go.n htb 1 (S' := (18, [some (.inr (.inr (some (10, 0)))), some (.inl a1)], [.inl (-1)], am_mk (am_si m 10 0 0 0))) rfl ?_
      cases h
      exact am_Go.rt htb rfl
-- X10_isSmall
set_option maxRecDepth 100000 in
theorem ex_X10_isSmall (d : Nat) (hd : 1 ≤ d) (a1 : Int32) (m : am_m) (t : Int32) (h : fn_X10_isSmall a1 m = some t) : am_Ex am_cod d 202 [.inl a1] (am_mk m) (some (.inl t)) (am_mk m) 0 0 := by
  obtain ⟨d, rfl⟩ : ∃ e, d = e + 1 := ⟨d - 1, by omega⟩
  have htb : am_tab 202 = at_202 := rfl
  refine ⟨Nat.le_of_ble_eq_true rfl, ?_⟩
  unfold fn_X10_isSmall at h
  show am_Go d 202 (0, [some (.inl a1)], [], am_mk m) _ _ 0 0
  refine am_Go.n htb 2 (S' := (3, [some (.inl a1)], [.inl 97, .inl a1], am_mk m)) rfl ?_
  by_cases hc1 : a1 < (97 : Int32)
  · rw [if_pos hc1] at h
    refine am_Go.c1 htb (S' := (16, [some (.inl a1)], [], am_mk m)) (if_pos hc1) ?_
    refine am_Go.n htb 1 (S' := (17, [some (.inl a1)], [.inl 0], am_mk m)) rfl ?_
    cases h
    exact am_Go.rt htb rfl
  · rw [if_neg hc1] at h
    refine am_Go.c1 htb (S' := (6, [some (.inl a1)], [], am_mk m)) (if_neg hc1) ?_
    refine am_Go.n htb 2 (S' := (9, [some (.inl a1)], [.inl 122, .inl a1], am_mk m)) rfl ?_
    by_cases hc2 : (122 : Int32) < a1
    · rw [if_pos hc2] at h
      refine am_Go.c1 htb (S' := (16, [some (.inl a1)], [], am_mk m)) (if_pos hc2) ?_
      refine am_Go.n htb 1 (S' := (17, [some (.inl a1)], [.inl 0], am_mk m)) rfl ?_
      cases h
      exact am_Go.rt htb rfl
    · rw [if_neg hc2] at h
      refine am_Go.c1 htb (S' := (12, [some (.inl a1)], [], am_mk m)) (if_neg hc2) ?_
      refine am_Go.n htb 2 (S' := (17, [some (.inl a1)], [.inl 1], am_mk m)) rfl ?_
      cases h
      exact am_Go.rt htb rfl
-- X10_isDigit
set_option maxRecDepth 100000 in
theorem ex_X10_isDigit (d : Nat) (hd : 1 ≤ d) (a1 : Int32) (m : am_m) (t : Int32) (h : fn_X10_isDigit a1 m = some t) : am_Ex am_cod d 203 [.inl a1] (am_mk m) (some (.inl t)) (am_mk m) 0 0 := by
  obtain ⟨d, rfl⟩ : ∃ e, d = e + 1 := ⟨d - 1, by omega⟩
  have htb : am_tab 203 = at_203 := rfl
  refine ⟨Nat.le_of_ble_eq_true rfl, ?_⟩
  unfold fn_X10_isDigit at h
  show am_Go d 203 (0, [some (.inl a1)], [], am_mk m) _ _ 0 0
  refine am_Go.n htb 2 (S' := (3, [some (.inl a1)], [.inl 48, .inl a1], am_mk m)) rfl ?_
  by_cases hc1 : a1 < (48 : Int32)
  · rw [if_pos hc1] at h
    refine am_Go.c1 htb (S' := (16, [some (.inl a1)], [], am_mk m)) (if_pos hc1) ?_
    refine am_Go.n htb 1 (S' := (17, [some (.inl a1)], [.inl 0], am_mk m)) rfl ?_
    cases h
    exact am_Go.rt htb rfl
  · rw [if_neg hc1] at h
    refine am_Go.c1 htb (S' := (6, [some (.inl a1)], [], am_mk m)) (if_neg hc1) ?_
    refine am_Go.n htb 2 (S' := (9, [some (.inl a1)], [.inl 57, .inl a1], am_mk m)) rfl ?_
    by_cases hc2 : (57 : Int32) < a1
    · rw [if_pos hc2] at h
      refine am_Go.c1 htb (S' := (16, [some (.inl a1)], [], am_mk m)) (if_pos hc2) ?_
      refine am_Go.n htb 1 (S' := (17, [some (.inl a1)], [.inl 0], am_mk m)) rfl ?_
      cases h
      exact am_Go.rt htb rfl
    · rw [if_neg hc2] at h
      refine am_Go.c1 htb (S' := (12, [some (.inl a1)], [], am_mk m)) (if_neg hc2) ?_
      refine am_Go.n htb 2 (S' := (17, [some (.inl a1)], [.inl 1], am_mk m)) rfl ?_
      cases h
      exact am_Go.rt htb rfl
-- X10_next
set_option maxRecDepth 100000 in
theorem lt_X10_next_8 (d : Nat) (hd : 2 ≤ d + 1) {r : Option am_V} {M' : am_M} {kc ks : Nat} {n : Nat} {m : am_m} {t : am_m} (h : lp_X10_next_8 n  m = some t) (hk : am_Go d 205 (46, [some (.inr (.inr (some (10, 0))))], [], am_mk t) r M' kc ks) : am_Go d 205 (8, [some (.inr (.inr (some (10, 0))))], [], am_mk m) r M' kc ks := by
  have htb : am_tab 205 = at_205 := rfl
  induction n generalizing m with
  | zero => cases h
  | succ n ih =>
    unfold lp_X10_next_8 at h
    refine am_Go.n htb 4 (S' := (16, [some (.inr (.inr (some (10, 0))))], [.inl (m.1 10 0 13), .inl (m.1 10 0 14)], am_mk m)) rfl ?_
    by_cases hc1 : (m.1 10 0 13) ≤ (m.1 10 0 14)
    · rw [if_pos hc1] at h
      refine am_Go.c1 htb (S' := (46, [some (.inr (.inr (some (10, 0))))], [], am_mk m)) (if_pos hc1) ?_
      cases h
      exact am_Go.fg (by exact ⟨rfl, trivial⟩) hk
    · rw [if_neg hc1] at h
      refine am_Go.c1 htb (S' := (19, [some (.inr (.inr (some (10, 0))))], [], am_mk m)) (if_neg hc1) ?_
      refine am_Go.n htb 4 (S' := (27, [some (.inr (.inr (some (10, 0))))], [.inl (m.1 10 0 14), .inr (.inr (some (50, 0)))], am_mk m)) rfl ?_
      obtain ⟨hg2, h⟩ := am_ck_some h
      refine am_Go.c1 htb (S' := (28, [some (.inr (.inr (some (10, 0))))], [.inl (m.1 50 0 (m.1 10 0 14).toNatClampNeg)], am_mk m)) (if_neg hg2) ?_
      refine am_Go.n htb 1 (S' := (30, [some (.inr (.inr (some (10, 0))))], [.inl 32, .inl (m.1 50 0 (m.1 10 0 14).toNatClampNeg)], am_mk m)) rfl ?_
      by_cases hc3 : (m.1 50 0 (m.1 10 0 14).toNatClampNeg) ≠ (32 : Int32)
      · rw [if_pos hc3] at h
        refine am_Go.c1 htb (S' := (46, [some (.inr (.inr (some (10, 0))))], [], am_mk m)) (if_pos hc3) ?_
        cases h
        exact am_Go.fg (by exact ⟨rfl, trivial⟩) hk
      · rw [if_neg hc3] at h
        refine am_Go.c1 htb (S' := (33, [some (.inr (.inr (some (10, 0))))], [], am_mk m)) (if_neg hc3) ?_
        refine am_Go.n htb 7 (S' := (8, [some (.inr (.inr (some (10, 0))))], [], am_mk (am_si m 10 0 14 ((m.1 10 0 14) + (1 : Int32))))) rfl ?_
        first | exact ih h | exact ih h hk
set_option maxRecDepth 100000 in
theorem lt_X10_next_149 (d : Nat) (hd : 2 ≤ d + 1) {r : Option am_V} {M' : am_M} {kc ks : Nat} {n : Nat} {m : am_m} {t : am_m} (h : lp_X10_next_149 n  m = some t) (hk : am_Go d 205 (243, [some (.inr (.inr (some (10, 0))))], [], am_mk t) r M' kc ks) : am_Go d 205 (149, [some (.inr (.inr (some (10, 0))))], [], am_mk m) r M' kc ks := by
  have htb : am_tab 205 = at_205 := rfl
  induction n generalizing m with
  | zero => cases h
  | succ n ih =>
    unfold lp_X10_next_149 at h
    refine am_Go.n htb 3 (S' := (154, [some (.inr (.inr (some (10, 0))))], [.inl 1, .inl (m.1 10 0 16)], am_mk m)) rfl ?_
    by_cases hc19 : (m.1 10 0 16) ≠ (1 : Int32)
    · rw [if_pos hc19] at h
      refine am_Go.c1 htb (S' := (243, [some (.inr (.inr (some (10, 0))))], [], am_mk m)) (if_pos hc19) ?_
      cases h
      exact am_Go.fg (by exact ⟨rfl, trivial⟩) hk
    · rw [if_neg hc19] at h
      refine am_Go.c1 htb (S' := (157, [some (.inr (.inr (some (10, 0))))], [], am_mk m)) (if_neg hc19) ?_
      refine am_Go.n htb 4 (S' := (165, [some (.inr (.inr (some (10, 0))))], [.inl (m.1 10 0 13), .inl (m.1 10 0 15)], am_mk m)) rfl ?_
      by_cases hc20 : (m.1 10 0 13) ≤ (m.1 10 0 15)
      · rw [if_pos hc20] at h
        refine am_Go.c1 htb (S' := (243, [some (.inr (.inr (some (10, 0))))], [], am_mk m)) (if_pos hc20) ?_
        cases h
        exact am_Go.fg (by exact ⟨rfl, trivial⟩) hk
      · rw [if_neg hc20] at h
        refine am_Go.c1 htb (S' := (168, [some (.inr (.inr (some (10, 0))))], [], am_mk m)) (if_neg hc20) ?_
        refine am_Go.n htb 4 (S' := (176, [some (.inr (.inr (some (10, 0))))], [.inl (m.1 10 0 15), .inr (.inr (some (50, 0)))], am_mk m)) rfl ?_
        obtain ⟨hg21, h⟩ := am_ck_some h
        refine am_Go.c1 htb (S' := (177, [some (.inr (.inr (some (10, 0))))], [.inl (m.1 50 0 (m.1 10 0 15).toNatClampNeg)], am_mk m)) (if_neg hg21) ?_
        obtain ⟨r22, h23, h⟩ := am_bd h
        refine am_Go.cl htb rfl (ex_X10_isSmall d (by omega) (m.1 50 0 (m.1 10 0 15).toNatClampNeg) m r22 h23) ?_
        show am_Go d 205 (180, [some (.inr (.inr (some (10, 0))))], [.inl r22], am_mk m) _ _ _ _
        by_cases hc24 : r22 = 0
        · rw [if_pos hc24] at h
          refine am_Go.c1 htb (S' := (243, [some (.inr (.inr (some (10, 0))))], [], am_mk m)) (if_pos hc24) ?_
          cases h
          exact am_Go.fg (by exact ⟨rfl, trivial⟩) hk
        · rw [if_neg hc24] at h
          refine am_Go.c1 htb (S' := (183, [some (.inr (.inr (some (10, 0))))], [], am_mk m)) (if_neg hc24) ?_
          refine am_Go.n htb 7 (S' := (195, [some (.inr (.inr (some (10, 0))))], [.inl 10, .inl ((m.1 10 0 15) - (m.1 10 0 14)), .inr (.inr (some (10, 0)))], am_mk m)) rfl ?_
          obtain ⟨q27, h28, h⟩ := am_bd h
          refine am_Go.cut (S := (227, [some (.inr (.inr (some (10, 0))))], [.inr (.inl q27), .inr (.inr (some (10, 0)))], am_mk m)) ?_ (fun key => ?_)
          · refine am_Go.n htb 8 (S' := (149, [some (.inr (.inr (some (10, 0))))], [], am_mk (am_si (am_sg m 10 0 17 q27) 10 0 15 ((m.1 10 0 15) + (1 : Int32))))) rfl ?_
            first | exact ih h | exact ih h hk
          · have h := h28
            by_cases hc25 : (10 : Int32) ≤ ((m.1 10 0 15) - (m.1 10 0 14))
            · rw [if_pos hc25] at h
              refine am_Go.c1 htb (S' := (224, [some (.inr (.inr (some (10, 0))))], [.inr (.inr (some (10, 0)))], am_mk m)) (if_pos hc25) ?_
              refine am_Go.n htb 1 (S' := (227, [some (.inr (.inr (some (10, 0))))], [.inr (.inl (-1)), .inr (.inr (some (10, 0)))], am_mk m)) rfl ?_
              cases h
              exact am_Go.fg (by exact ⟨rfl, trivial⟩) key
            · rw [if_neg hc25] at h
              refine am_Go.c1 htb (S' := (198, [some (.inr (.inr (some (10, 0))))], [.inr (.inr (some (10, 0)))], am_mk m)) (if_neg hc25) ?_
              refine am_Go.n htb 8 (S' := (214, [some (.inr (.inr (some (10, 0))))], [.inl (m.1 10 0 15), .inr (.inr (some (50, 0))), .inr (.inl ((m.2.1 10 0 17) * (32 : Int64))), .inr (.inr (some (10, 0)))], am_mk m)) rfl ?_
              obtain ⟨hg26, h⟩ := am_ck_some h
              refine am_Go.c1 htb (S' := (215, [some (.inr (.inr (some (10, 0))))], [.inl (m.1 50 0 (m.1 10 0 15).toNatClampNeg), .inr (.inl ((m.2.1 10 0 17) * (32 : Int64))), .inr (.inr (some (10, 0)))], am_mk m)) (if_neg hg26) ?_
              refine am_Go.n htb 5 (S' := (227, [some (.inr (.inr (some (10, 0))))], [.inr (.inl ((((m.2.1 10 0 17) * (32 : Int64)) + ((m.1 50 0 (m.1 10 0 15).toNatClampNeg).toInt64)) - (96 : Int64))), .inr (.inr (some (10, 0)))], am_mk m)) rfl ?_
              cases h
              exact am_Go.fg (by exact ⟨rfl, trivial⟩) key
set_option maxRecDepth 100000 in
theorem lt_X10_next_243 (d : Nat) (hd : 2 ≤ d + 1) {r : Option am_V} {M' : am_M} {kc ks : Nat} {n : Nat} {m : am_m} {t : am_m} (h : lp_X10_next_243 n  m = some t) (hk : am_Go d 205 (335, [some (.inr (.inr (some (10, 0))))], [], am_mk t) r M' kc ks) : am_Go d 205 (243, [some (.inr (.inr (some (10, 0))))], [], am_mk m) r M' kc ks := by
  have htb : am_tab 205 = at_205 := rfl
  induction n generalizing m with
  | zero => cases h
  | succ n ih =>
    unfold lp_X10_next_243 at h
    refine am_Go.n htb 3 (S' := (248, [some (.inr (.inr (some (10, 0))))], [.inl 2, .inl (m.1 10 0 16)], am_mk m)) rfl ?_
    by_cases hc31 : (m.1 10 0 16) ≠ (2 : Int32)
    · rw [if_pos hc31] at h
      refine am_Go.c1 htb (S' := (335, [some (.inr (.inr (some (10, 0))))], [], am_mk m)) (if_pos hc31) ?_
      cases h
      exact am_Go.fg (by exact ⟨rfl, trivial⟩) hk
    · rw [if_neg hc31] at h
      refine am_Go.c1 htb (S' := (251, [some (.inr (.inr (some (10, 0))))], [], am_mk m)) (if_neg hc31) ?_
      refine am_Go.n htb 4 (S' := (259, [some (.inr (.inr (some (10, 0))))], [.inl (m.1 10 0 13), .inl (m.1 10 0 15)], am_mk m)) rfl ?_
      by_cases hc32 : (m.1 10 0 13) ≤ (m.1 10 0 15)
      · rw [if_pos hc32] at h
        refine am_Go.c1 htb (S' := (335, [some (.inr (.inr (some (10, 0))))], [], am_mk m)) (if_pos hc32) ?_
        cases h
        exact am_Go.fg (by exact ⟨rfl, trivial⟩) hk
      · rw [if_neg hc32] at h
        refine am_Go.c1 htb (S' := (262, [some (.inr (.inr (some (10, 0))))], [], am_mk m)) (if_neg hc32) ?_
        refine am_Go.n htb 4 (S' := (270, [some (.inr (.inr (some (10, 0))))], [.inl (m.1 10 0 15), .inr (.inr (some (50, 0)))], am_mk m)) rfl ?_
        obtain ⟨hg33, h⟩ := am_ck_some h
        refine am_Go.c1 htb (S' := (271, [some (.inr (.inr (some (10, 0))))], [.inl (m.1 50 0 (m.1 10 0 15).toNatClampNeg)], am_mk m)) (if_neg hg33) ?_
        obtain ⟨r34, h35, h⟩ := am_bd h
        refine am_Go.cl htb rfl (ex_X10_isDigit d (by omega) (m.1 50 0 (m.1 10 0 15).toNatClampNeg) m r34 h35) ?_
        show am_Go d 205 (274, [some (.inr (.inr (some (10, 0))))], [.inl r34], am_mk m) _ _ _ _
        by_cases hc36 : r34 = 0
        · rw [if_pos hc36] at h
          refine am_Go.c1 htb (S' := (335, [some (.inr (.inr (some (10, 0))))], [], am_mk m)) (if_pos hc36) ?_
          cases h
          exact am_Go.fg (by exact ⟨rfl, trivial⟩) hk
        · rw [if_neg hc36] at h
          refine am_Go.c1 htb (S' := (277, [some (.inr (.inr (some (10, 0))))], [], am_mk m)) (if_neg hc36) ?_
          refine am_Go.n htb 5 (S' := (286, [some (.inr (.inr (some (10, 0))))], [.inl (lg_cmp (m.2.1 10 0 17) (1000000 : Int64)), .inr (.inr (some (10, 0)))], am_mk m)) rfl ?_
          obtain ⟨q39, h40, h⟩ := am_bd h
          refine am_Go.cut (S := (319, [some (.inr (.inr (some (10, 0))))], [.inr (.inl q39), .inr (.inr (some (10, 0)))], am_mk m)) ?_ (fun key => ?_)
          · refine am_Go.n htb 8 (S' := (243, [some (.inr (.inr (some (10, 0))))], [], am_mk (am_si (am_sg m 10 0 17 q39) 10 0 15 ((m.1 10 0 15) + (1 : Int32))))) rfl ?_
            first | exact ih h | exact ih h hk
          · have h := h40
            by_cases hc37 : (lg_cmp (m.2.1 10 0 17) (1000000 : Int64)) ≤ 0
            · rw [if_pos hc37] at h
              refine am_Go.c1 htb (S' := (296, [some (.inr (.inr (some (10, 0))))], [.inr (.inr (some (10, 0)))], am_mk m)) (if_pos hc37) ?_
              refine am_Go.n htb 8 (S' := (312, [some (.inr (.inr (some (10, 0))))], [.inl (m.1 10 0 15), .inr (.inr (some (50, 0))), .inr (.inl ((m.2.1 10 0 17) * (10 : Int64))), .inr (.inr (some (10, 0)))], am_mk m)) rfl ?_
              obtain ⟨hg38, h⟩ := am_ck_some h
              refine am_Go.c1 htb (S' := (313, [some (.inr (.inr (some (10, 0))))], [.inl (m.1 50 0 (m.1 10 0 15).toNatClampNeg), .inr (.inl ((m.2.1 10 0 17) * (10 : Int64))), .inr (.inr (some (10, 0)))], am_mk m)) (if_neg hg38) ?_
              refine am_Go.n htb 4 (S' := (319, [some (.inr (.inr (some (10, 0))))], [.inr (.inl ((((m.2.1 10 0 17) * (10 : Int64)) + ((m.1 50 0 (m.1 10 0 15).toNatClampNeg).toInt64)) - (48 : Int64))), .inr (.inr (some (10, 0)))], am_mk m)) rfl ?_
              cases h
              exact am_Go.fg (by exact ⟨rfl, trivial⟩) key
            · rw [if_neg hc37] at h
              refine am_Go.c1 htb (S' := (289, [some (.inr (.inr (some (10, 0))))], [.inr (.inr (some (10, 0)))], am_mk m)) (if_neg hc37) ?_
              refine am_Go.n htb 3 (S' := (319, [some (.inr (.inr (some (10, 0))))], [.inr (.inl (m.2.1 10 0 17)), .inr (.inr (some (10, 0)))], am_mk m)) rfl ?_
              cases h
              exact am_Go.fg (by exact ⟨rfl, trivial⟩) key
set_option maxRecDepth 100000 in
theorem ex_X10_next (d : Nat) (hd : 2 ≤ d)  (m : am_m) (t : am_m) (h : fn_X10_next  m = some t) : am_Ex am_cod d 205 [.inr (.inr (some (10, 0)))] (am_mk m) (none) (am_mk t) 0 0 := by
  obtain ⟨d, rfl⟩ : ∃ e, d = e + 1 := ⟨d - 1, by omega⟩
  have htb : am_tab 205 = at_205 := rfl
  refine ⟨Nat.le_of_ble_eq_true rfl, ?_⟩
  unfold fn_X10_next at h
  show am_Go d 205 (0, [some (.inr (.inr (some (10, 0))))], [], am_mk m) _ _ 0 0
  refine am_Go.n htb 4 (S' := (8, [some (.inr (.inr (some (10, 0))))], [], am_mk (am_si m 10 0 14 (m.1 10 0 15)))) rfl ?_
  obtain ⟨q4, h5, h⟩ := am_bd h
  refine lt_X10_next_8 _ hd (h := h5) (hk := ?_)
  refine am_Go.n htb 12 (S' := (68, [some (.inr (.inr (some (10, 0))))], [.inl (q4.1 10 0 13), .inl (q4.1 10 0 14), .inr (.inr (some (10, 0)))], am_mk (am_sg (am_si q4 10 0 15 (q4.1 10 0 14)) 10 0 17 0))) rfl ?_
  obtain ⟨q15, h44, h⟩ := am_bd h
  refine am_Go.cut (S := (114, [some (.inr (.inr (some (10, 0))))], [.inl q15, .inr (.inr (some (10, 0)))], am_mk (am_sg (am_si q4 10 0 15 (q4.1 10 0 14)) 10 0 17 0))) ?_ (fun key => ?_)
  · refine am_Go.n htb 4 (S' := (122, [some (.inr (.inr (some (10, 0))))], [.inl 3, .inl q15], am_mk (am_si (am_sg (am_si q4 10 0 15 (q4.1 10 0 14)) 10 0 17 0) 10 0 16 q15))) rfl ?_
    obtain ⟨q18, h43, h⟩ := am_bd h
    refine am_Go.cut (S := (149, [some (.inr (.inr (some (10, 0))))], [], am_mk q18)) ?_ (fun key => ?_)
    · obtain ⟨q29, h30, h⟩ := am_bd h
      refine lt_X10_next_149 _ hd (h := h30) (hk := ?_)
      obtain ⟨q41, h42, h⟩ := am_bd h
      refine lt_X10_next_243 _ hd (h := h42) (hk := ?_)
      cases h
      exact am_Go.rt htb rfl
    · have h := h43
      by_cases hc16 : q15 ≠ (3 : Int32)
      · rw [if_pos hc16] at h
        refine am_Go.c1 htb (S' := (149, [some (.inr (.inr (some (10, 0))))], [], am_mk (am_si (am_sg (am_si q4 10 0 15 (q4.1 10 0 14)) 10 0 17 0) 10 0 16 q15))) (if_pos hc16) ?_
        cases h
        exact am_Go.fg (by exact ⟨rfl, trivial⟩) key
      · rw [if_neg hc16] at h
        refine am_Go.c1 htb (S' := (125, [some (.inr (.inr (some (10, 0))))], [], am_mk (am_si (am_sg (am_si q4 10 0 15 (q4.1 10 0 14)) 10 0 17 0) 10 0 16 q15))) (if_neg hc16) ?_
        refine am_Go.n htb 5 (S' := (134, [some (.inr (.inr (some (10, 0))))], [.inl (q4.1 10 0 14), .inr (.inr (some (50, 0))), .inr (.inr (some (10, 0)))], am_mk (am_si (am_sg (am_si q4 10 0 15 (q4.1 10 0 14)) 10 0 17 0) 10 0 16 q15))) rfl ?_
        obtain ⟨hg17, h⟩ := am_ck_some h
        refine am_Go.c1 htb (S' := (135, [some (.inr (.inr (some (10, 0))))], [.inl (q4.1 50 0 (q4.1 10 0 14).toNatClampNeg), .inr (.inr (some (10, 0)))], am_mk (am_si (am_sg (am_si q4 10 0 15 (q4.1 10 0 14)) 10 0 17 0) 10 0 16 q15))) (if_neg hg17) ?_
        refine am_Go.n htb 8 (S' := (149, [some (.inr (.inr (some (10, 0))))], [], am_mk (am_si (am_sg (am_si (am_sg (am_si q4 10 0 15 (q4.1 10 0 14)) 10 0 17 0) 10 0 16 q15) 10 0 17 ((q4.1 50 0 (q4.1 10 0 14).toNatClampNeg).toInt64)) 10 0 15 ((q4.1 10 0 14) + (1 : Int32))))) rfl ?_
        cases h
        exact am_Go.fg (by exact ⟨rfl, trivial⟩) key
  · have h := h44
    by_cases hc6 : (q4.1 10 0 14) ≠ (q4.1 10 0 13)
    · rw [if_pos hc6] at h
      refine am_Go.c1 htb (S' := (75, [some (.inr (.inr (some (10, 0))))], [.inr (.inr (some (10, 0)))], am_mk (am_sg (am_si q4 10 0 15 (q4.1 10 0 14)) 10 0 17 0))) (if_pos hc6) ?_
      refine am_Go.n htb 4 (S' := (83, [some (.inr (.inr (some (10, 0))))], [.inl (q4.1 10 0 14), .inr (.inr (some (50, 0))), .inr (.inr (some (10, 0)))], am_mk (am_sg (am_si q4 10 0 15 (q4.1 10 0 14)) 10 0 17 0))) rfl ?_
      obtain ⟨hg7, h⟩ := am_ck_some h
      refine am_Go.c1 htb (S' := (84, [some (.inr (.inr (some (10, 0))))], [.inl (q4.1 50 0 (q4.1 10 0 14).toNatClampNeg), .inr (.inr (some (10, 0)))], am_mk (am_sg (am_si q4 10 0 15 (q4.1 10 0 14)) 10 0 17 0))) (if_neg hg7) ?_
      obtain ⟨r8, h9, h⟩ := am_bd h
      refine am_Go.cl htb rfl (ex_X10_isSmall d (by omega) (q4.1 50 0 (q4.1 10 0 14).toNatClampNeg) (am_sg (am_si q4 10 0 15 (q4.1 10 0 14)) 10 0 17 0) r8 h9) ?_
      show am_Go d 205 (87, [some (.inr (.inr (some (10, 0))))], [.inl r8, .inr (.inr (some (10, 0)))], am_mk (am_sg (am_si q4 10 0 15 (q4.1 10 0 14)) 10 0 17 0)) _ _ _ _
      by_cases hc10 : r8 = 0
      · rw [if_pos hc10] at h
        refine am_Go.c1 htb (S' := (94, [some (.inr (.inr (some (10, 0))))], [.inr (.inr (some (10, 0)))], am_mk (am_sg (am_si q4 10 0 15 (q4.1 10 0 14)) 10 0 17 0))) (if_pos hc10) ?_
        refine am_Go.n htb 4 (S' := (102, [some (.inr (.inr (some (10, 0))))], [.inl (q4.1 10 0 14), .inr (.inr (some (50, 0))), .inr (.inr (some (10, 0)))], am_mk (am_sg (am_si q4 10 0 15 (q4.1 10 0 14)) 10 0 17 0))) rfl ?_
        obtain ⟨hg11, h⟩ := am_ck_some h
        refine am_Go.c1 htb (S' := (103, [some (.inr (.inr (some (10, 0))))], [.inl (q4.1 50 0 (q4.1 10 0 14).toNatClampNeg), .inr (.inr (some (10, 0)))], am_mk (am_sg (am_si q4 10 0 15 (q4.1 10 0 14)) 10 0 17 0))) (if_neg hg11) ?_
        obtain ⟨r12, h13, h⟩ := am_bd h
        refine am_Go.cl htb rfl (ex_X10_isDigit d (by omega) (q4.1 50 0 (q4.1 10 0 14).toNatClampNeg) (am_sg (am_si q4 10 0 15 (q4.1 10 0 14)) 10 0 17 0) r12 h13) ?_
        show am_Go d 205 (106, [some (.inr (.inr (some (10, 0))))], [.inl r12, .inr (.inr (some (10, 0)))], am_mk (am_sg (am_si q4 10 0 15 (q4.1 10 0 14)) 10 0 17 0)) _ _ _ _
        by_cases hc14 : r12 = 0
        · rw [if_pos hc14] at h
          refine am_Go.c1 htb (S' := (113, [some (.inr (.inr (some (10, 0))))], [.inr (.inr (some (10, 0)))], am_mk (am_sg (am_si q4 10 0 15 (q4.1 10 0 14)) 10 0 17 0))) (if_pos hc14) ?_
          refine am_Go.n htb 1 (S' := (114, [some (.inr (.inr (some (10, 0))))], [.inl 3, .inr (.inr (some (10, 0)))], am_mk (am_sg (am_si q4 10 0 15 (q4.1 10 0 14)) 10 0 17 0))) rfl ?_
          cases h
          exact am_Go.fg (by exact ⟨rfl, trivial⟩) key
        · rw [if_neg hc14] at h
          refine am_Go.c1 htb (S' := (109, [some (.inr (.inr (some (10, 0))))], [.inr (.inr (some (10, 0)))], am_mk (am_sg (am_si q4 10 0 15 (q4.1 10 0 14)) 10 0 17 0))) (if_neg hc14) ?_
          refine am_Go.n htb 2 (S' := (114, [some (.inr (.inr (some (10, 0))))], [.inl 2, .inr (.inr (some (10, 0)))], am_mk (am_sg (am_si q4 10 0 15 (q4.1 10 0 14)) 10 0 17 0))) rfl ?_
          cases h
          exact am_Go.fg (by exact ⟨rfl, trivial⟩) key
      · rw [if_neg hc10] at h
        refine am_Go.c1 htb (S' := (90, [some (.inr (.inr (some (10, 0))))], [.inr (.inr (some (10, 0)))], am_mk (am_sg (am_si q4 10 0 15 (q4.1 10 0 14)) 10 0 17 0))) (if_neg hc10) ?_
        refine am_Go.n htb 2 (S' := (114, [some (.inr (.inr (some (10, 0))))], [.inl 1, .inr (.inr (some (10, 0)))], am_mk (am_sg (am_si q4 10 0 15 (q4.1 10 0 14)) 10 0 17 0))) rfl ?_
        cases h
        exact am_Go.fg (by exact ⟨rfl, trivial⟩) key
    · rw [if_neg hc6] at h
      refine am_Go.c1 htb (S' := (71, [some (.inr (.inr (some (10, 0))))], [.inr (.inr (some (10, 0)))], am_mk (am_sg (am_si q4 10 0 15 (q4.1 10 0 14)) 10 0 17 0))) (if_neg hc6) ?_
      refine am_Go.n htb 2 (S' := (114, [some (.inr (.inr (some (10, 0))))], [.inl 0, .inr (.inr (some (10, 0)))], am_mk (am_sg (am_si q4 10 0 15 (q4.1 10 0 14)) 10 0 17 0))) rfl ?_
      cases h
      exact am_Go.fg (by exact ⟨rfl, trivial⟩) key
