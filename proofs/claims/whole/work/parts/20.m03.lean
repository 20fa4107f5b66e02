-- X10_openBracket
def fn_X10_openBracket (a1 : Int32) (m : am_m) : Option (am_m) :=
  (fn_X10_must (if (8 : Int32) ≤ (m.1 10 0 30) then (0 : Int32) else (1 : Int32)) m).bind fun r2 => (if (r2.1 10 0 19) ≠ 0 then some r2 else (fn_X10_push a1 0 (am_si r2 10 0 30 ((r2.1 10 0 30) + (1 : Int32)))).bind fun r5 => some r5)
set_option maxRecDepth 100000 in
theorem ex_X10_openBracket (d : Nat) (hd : 4 ≤ d) (a1 : Int32) (m : am_m) (t : am_m) (h : fn_X10_openBracket a1 m = some t) : am_Ex am_cod d 219 [.inr (.inr (some (10, 0))), .inl a1] (am_mk m) (none) (am_mk t) 0 0 := by
  obtain ⟨d, rfl⟩ : ∃ e, d = e + 1 := ⟨d - 1, by omega⟩
  have htb : am_tab 219 = at_219 := rfl
  refine ⟨Nat.le_of_ble_eq_true rfl, ?_⟩
  unfold fn_X10_openBracket at h
  show am_Go d 219 (0, [some (.inr (.inr (some (10, 0)))), some (.inl a1)], [], am_mk m) _ _ 0 0
  refine am_Go.n htb 4 (S' := (7, [some (.inr (.inr (some (10, 0)))), some (.inl a1)], [.inl 8, .inl (m.1 10 0 30), .inr (.inr (some (10, 0)))], am_mk m)) rfl ?_
  refine am_Go.cut (S := (15, [some (.inr (.inr (some (10, 0)))), some (.inl a1)], [.inl (if (8 : Int32) ≤ (m.1 10 0 30) then (0 : Int32) else (1 : Int32)), .inr (.inr (some (10, 0)))], am_mk m)) ?_ (fun key => ?_)
  · obtain ⟨r2, h3, h⟩ := am_bd h
    refine am_Go.cl htb rfl (ex_X10_must d (by omega) (if (8 : Int32) ≤ (m.1 10 0 30) then (0 : Int32) else (1 : Int32)) m r2 h3) ?_
    show am_Go d 219 (18, [some (.inr (.inr (some (10, 0)))), some (.inl a1)], [], am_mk r2) _ _ _ _
    refine am_Go.n htb 2 (S' := (22, [some (.inr (.inr (some (10, 0)))), some (.inl a1)], [.inl (r2.1 10 0 19)], am_mk r2)) rfl ?_
    by_cases hc4 : (r2.1 10 0 19) ≠ 0
    · rw [if_pos hc4] at h
      refine am_Go.c1 htb (S' := (41, [some (.inr (.inr (some (10, 0)))), some (.inl a1)], [], am_mk r2)) (if_pos hc4) ?_
      cases h
      exact am_Go.r htb rfl
    · rw [if_neg hc4] at h
      refine am_Go.c1 htb (S' := (25, [some (.inr (.inr (some (10, 0)))), some (.inl a1)], [], am_mk r2)) (if_neg hc4) ?_
      refine am_Go.n htb 9 (S' := (38, [some (.inr (.inr (some (10, 0)))), some (.inl a1)], [.inl 0, .inl a1, .inr (.inr (some (10, 0)))], am_mk (am_si r2 10 0 30 ((r2.1 10 0 30) + (1 : Int32))))) rfl ?_
      obtain ⟨r5, h6, h⟩ := am_bd h
      refine am_Go.cl htb rfl (ex_X10_push d (by omega) a1 0 (am_si r2 10 0 30 ((r2.1 10 0 30) + (1 : Int32))) r5 h6) ?_
      show am_Go d 219 (41, [some (.inr (.inr (some (10, 0)))), some (.inl a1)], [], am_mk r5) _ _ _ _
      cases h
      exact am_Go.r htb rfl
  · by_cases hc1 : (8 : Int32) ≤ (m.1 10 0 30)
    · refine am_Go.c1 htb (S' := (14, [some (.inr (.inr (some (10, 0)))), some (.inl a1)], [.inr (.inr (some (10, 0)))], am_mk m)) (if_pos hc1) ?_
      refine am_Go.n htb 1 (S' := (15, [some (.inr (.inr (some (10, 0)))), some (.inl a1)], [.inl 0, .inr (.inr (some (10, 0)))], am_mk m)) rfl ?_
      simp only [if_pos hc1] at key
      exact am_Go.fg (by exact ⟨rfl, ⟨rfl, trivial⟩⟩) key
    · refine am_Go.c1 htb (S' := (10, [some (.inr (.inr (some (10, 0)))), some (.inl a1)], [.inr (.inr (some (10, 0)))], am_mk m)) (if_neg hc1) ?_
      refine am_Go.n htb 2 (S' := (15, [some (.inr (.inr (some (10, 0)))), some (.inl a1)], [.inl 1, .inr (.inr (some (10, 0)))], am_mk m)) rfl ?_
      simp only [if_neg hc1] at key
      exact am_Go.fg (by exact ⟨rfl, ⟨rfl, trivial⟩⟩) key
-- X10_leaf
def fn_X10_leaf (a1 : Int32) (a2 : Int32) (a3 : Int32) (m : am_m) : Option (am_m) :=
  (if a1 = 0 then some 0 else (if (50 : Int32) ≤ (m.1 10 0 26) then some 0 else some 1)).bind fun q3 => (fn_X10_must q3 m).bind fun r4 => (if (r4.1 10 0 19) ≠ 0 then some r4 else (fn_X10_emit a2 a3 r4).bind fun r7 => some (am_si r7 10 0 26 ((r7.1 10 0 26) + (1 : Int32))))
set_option maxRecDepth 100000 in
theorem ex_X10_leaf (d : Nat) (hd : 4 ≤ d) (a1 : Int32) (a2 : Int32) (a3 : Int32) (m : am_m) (t : am_m) (h : fn_X10_leaf a1 a2 a3 m = some t) : am_Ex am_cod d 220 [.inr (.inr (some (10, 0))), .inl a1, .inl a2, .inl a3] (am_mk m) (none) (am_mk t) 0 0 := by
  obtain ⟨d, rfl⟩ : ∃ e, d = e + 1 := ⟨d - 1, by omega⟩
  have htb : am_tab 220 = at_220 := rfl
  refine ⟨Nat.le_of_ble_eq_true rfl, ?_⟩
  unfold fn_X10_leaf at h
  show am_Go d 220 (0, [some (.inr (.inr (some (10, 0)))), some (.inl a1), some (.inl a2), some (.inl a3)], [], am_mk m) _ _ 0 0
  refine am_Go.n htb 2 (S' := (2, [some (.inr (.inr (some (10, 0)))), some (.inl a1), some (.inl a2), some (.inl a3)], [.inl a1, .inr (.inr (some (10, 0)))], am_mk m)) rfl ?_
  obtain ⟨q3, h9, h⟩ := am_bd h
  refine am_Go.cut (S := (19, [some (.inr (.inr (some (10, 0)))), some (.inl a1), some (.inl a2), some (.inl a3)], [.inl q3, .inr (.inr (some (10, 0)))], am_mk m)) ?_ (fun key => ?_)
  · obtain ⟨r4, h5, h⟩ := am_bd h
    refine am_Go.cl htb rfl (ex_X10_must d (by omega) q3 m r4 h5) ?_
    show am_Go d 220 (22, [some (.inr (.inr (some (10, 0)))), some (.inl a1), some (.inl a2), some (.inl a3)], [], am_mk r4) _ _ _ _
    refine am_Go.n htb 2 (S' := (26, [some (.inr (.inr (some (10, 0)))), some (.inl a1), some (.inl a2), some (.inl a3)], [.inl (r4.1 10 0 19)], am_mk r4)) rfl ?_
    by_cases hc6 : (r4.1 10 0 19) ≠ 0
    · rw [if_pos hc6] at h
      refine am_Go.c1 htb (S' := (45, [some (.inr (.inr (some (10, 0)))), some (.inl a1), some (.inl a2), some (.inl a3)], [], am_mk r4)) (if_pos hc6) ?_
      cases h
      exact am_Go.r htb rfl
    · rw [if_neg hc6] at h
      refine am_Go.c1 htb (S' := (29, [some (.inr (.inr (some (10, 0)))), some (.inl a1), some (.inl a2), some (.inl a3)], [], am_mk r4)) (if_neg hc6) ?_
      refine am_Go.n htb 3 (S' := (32, [some (.inr (.inr (some (10, 0)))), some (.inl a1), some (.inl a2), some (.inl a3)], [.inl a3, .inl a2, .inr (.inr (some (10, 0)))], am_mk r4)) rfl ?_
      obtain ⟨r7, h8, h⟩ := am_bd h
      refine am_Go.cl htb rfl (ex_X10_emit d (by omega) a2 a3 r4 r7 h8) ?_
      show am_Go d 220 (35, [some (.inr (.inr (some (10, 0)))), some (.inl a1), some (.inl a2), some (.inl a3)], [], am_mk r7) _ _ _ _
      refine am_Go.n htb 6 (S' := (45, [some (.inr (.inr (some (10, 0)))), some (.inl a1), some (.inl a2), some (.inl a3)], [], am_mk (am_si r7 10 0 26 ((r7.1 10 0 26) + (1 : Int32))))) rfl ?_
      cases h
      exact am_Go.r htb rfl
  · have h := h9
    by_cases hc1 : a1 = 0
    · rw [if_pos hc1] at h
      refine am_Go.c1 htb (S' := (18, [some (.inr (.inr (some (10, 0)))), some (.inl a1), some (.inl a2), some (.inl a3)], [.inr (.inr (some (10, 0)))], am_mk m)) (if_pos hc1) ?_
      refine am_Go.n htb 1 (S' := (19, [some (.inr (.inr (some (10, 0)))), some (.inl a1), some (.inl a2), some (.inl a3)], [.inl 0, .inr (.inr (some (10, 0)))], am_mk m)) rfl ?_
      cases h
      exact am_Go.fg (by exact ⟨rfl, ⟨rfl, ⟨rfl, ⟨rfl, trivial⟩⟩⟩⟩) key
    · rw [if_neg hc1] at h
      refine am_Go.c1 htb (S' := (5, [some (.inr (.inr (some (10, 0)))), some (.inl a1), some (.inl a2), some (.inl a3)], [.inr (.inr (some (10, 0)))], am_mk m)) (if_neg hc1) ?_
      refine am_Go.n htb 3 (S' := (11, [some (.inr (.inr (some (10, 0)))), some (.inl a1), some (.inl a2), some (.inl a3)], [.inl 50, .inl (m.1 10 0 26), .inr (.inr (some (10, 0)))], am_mk m)) rfl ?_
      by_cases hc2 : (50 : Int32) ≤ (m.1 10 0 26)
      · rw [if_pos hc2] at h
        refine am_Go.c1 htb (S' := (18, [some (.inr (.inr (some (10, 0)))), some (.inl a1), some (.inl a2), some (.inl a3)], [.inr (.inr (some (10, 0)))], am_mk m)) (if_pos hc2) ?_
        refine am_Go.n htb 1 (S' := (19, [some (.inr (.inr (some (10, 0)))), some (.inl a1), some (.inl a2), some (.inl a3)], [.inl 0, .inr (.inr (some (10, 0)))], am_mk m)) rfl ?_
        cases h
        exact am_Go.fg (by exact ⟨rfl, ⟨rfl, ⟨rfl, ⟨rfl, trivial⟩⟩⟩⟩) key
      · rw [if_neg hc2] at h
        refine am_Go.c1 htb (S' := (14, [some (.inr (.inr (some (10, 0)))), some (.inl a1), some (.inl a2), some (.inl a3)], [.inr (.inr (some (10, 0)))], am_mk m)) (if_neg hc2) ?_
        refine am_Go.n htb 2 (S' := (19, [some (.inr (.inr (some (10, 0)))), some (.inl a1), some (.inl a2), some (.inl a3)], [.inl 1, .inr (.inr (some (10, 0)))], am_mk m)) rfl ?_
        cases h
        exact am_Go.fg (by exact ⟨rfl, ⟨rfl, ⟨rfl, ⟨rfl, trivial⟩⟩⟩⟩) key
-- X10_readPart
def fn_X10_readPart  (m : am_m) : Option (Int32 × am_m) :=
  (fn_X10_isSign 91 m).bind fun r1 => (if r1 = 0 then (if (m.1 10 0 20) = 0 then (fn_X10_partAt  m).bind fun r5 => some r5 else (fn_X10_orderPartAt  m).bind fun r7 => some r7).bind fun q9 => (if (m.1 10 0 16) ≠ (2 : Int32) then some 0 else (if 0 < (lg_cmp (m.2.1 10 0 17) (1000 : Int64)) then some 0 else some 1)).bind fun q12 => (if q9 ≠ (-1 : Int32) then some 1 else (if q12 = 0 then some 0 else some 1)).bind fun q15 => (fn_X10_leaf q15 (if q9 ≠ (-1 : Int32) then q9 else (0 : Int32)) (if q12 = 0 then (0 : Int32) else ((m.2.1 10 0 17).toInt32)) m).bind fun r18 => (if (r18.1 10 0 20) = 0 then some (3, r18) else (if q9 < (6 : Int32) then some (3, r18) else (if (r18.1 10 0 19) ≠ 0 then some (3, r18) else (fn_X10_number 0 6 r18).bind fun r23 => am_ck ((r18.1 10 0 23) - (1 : Int32)) 400 (some (3, am_si r23.2 53 0 ((r18.1 10 0 23) - (1 : Int32)).toNatClampNeg r23.1))))) else (fn_X10_openBracket 32 m).bind fun r29 => some (1, r29))
set_option maxRecDepth 100000 in
theorem ex_X10_readPart (d : Nat) (hd : 5 ≤ d)  (m : am_m) (t : Int32 × am_m) (h : fn_X10_readPart  m = some t) : am_Ex am_cod d 221 [.inr (.inr (some (10, 0)))] (am_mk m) (some (.inl t.1)) (am_mk t.2) 0 0 := by
  obtain ⟨d, rfl⟩ : ∃ e, d = e + 1 := ⟨d - 1, by omega⟩
  have htb : am_tab 221 = at_221 := rfl
  refine ⟨Nat.le_of_ble_eq_true rfl, ?_⟩
  unfold fn_X10_readPart at h
  show am_Go d 221 (0, [some (.inr (.inr (some (10, 0)))), none, none, none], [], am_mk m) _ _ 0 0
  refine am_Go.n htb 2 (S' := (3, [some (.inr (.inr (some (10, 0)))), none, none, none], [.inl 91, .inr (.inr (some (10, 0)))], am_mk m)) rfl ?_
  obtain ⟨r1, h2, h⟩ := am_bd h
  refine am_Go.cl htb rfl (ex_X10_isSign d (by omega) 91 m r1 h2) ?_
  show am_Go d 221 (6, [some (.inr (.inr (some (10, 0)))), none, none, none], [.inl r1], am_mk m) _ _ _ _
  by_cases hc3 : r1 = 0
  · rw [if_pos hc3] at h
    refine am_Go.c1 htb (S' := (17, [some (.inr (.inr (some (10, 0)))), none, none, none], [], am_mk m)) (if_pos hc3) ?_
    refine am_Go.n htb 2 (S' := (21, [some (.inr (.inr (some (10, 0)))), none, none, none], [.inl (m.1 10 0 20)], am_mk m)) rfl ?_
    obtain ⟨q9, h28, h⟩ := am_bd h
    refine am_Go.cut (S := (35, [some (.inr (.inr (some (10, 0)))), none, none, none], [.inl q9], am_mk m)) ?_ (fun key => ?_)
    · refine am_Go.n htb 4 (S' := (41, [some (.inr (.inr (some (10, 0)))), some (.inl q9), none, none], [.inl 2, .inl (m.1 10 0 16)], am_mk m)) rfl ?_
      obtain ⟨q12, h27, h⟩ := am_bd h
      refine am_Go.cut (S := (60, [some (.inr (.inr (some (10, 0)))), some (.inl q9), none, none], [.inl q12], am_mk m)) ?_ (fun key => ?_)
      · refine am_Go.n htb 4 (S' := (64, [some (.inr (.inr (some (10, 0)))), some (.inl q9), some (.inl q12), none], [.inl (-1), .inl q9, .inr (.inr (some (10, 0)))], am_mk m)) rfl ?_
        obtain ⟨q15, h26, h⟩ := am_bd h
        refine am_Go.cut (S := (76, [some (.inr (.inr (some (10, 0)))), some (.inl q9), some (.inl q12), none], [.inl q15, .inr (.inr (some (10, 0)))], am_mk m)) ?_ (fun key => ?_)
        · refine am_Go.n htb 2 (S' := (78, [some (.inr (.inr (some (10, 0)))), some (.inl q9), some (.inl q12), none], [.inl (-1), .inl q9, .inl q15, .inr (.inr (some (10, 0)))], am_mk m)) rfl ?_
          refine am_Go.cut (S := (86, [some (.inr (.inr (some (10, 0)))), some (.inl q9), some (.inl q12), none], [.inl (if q9 ≠ (-1 : Int32) then q9 else (0 : Int32)), .inl q15, .inr (.inr (some (10, 0)))], am_mk m)) ?_ (fun key => ?_)
          · refine am_Go.n htb 1 (S' := (87, [some (.inr (.inr (some (10, 0)))), some (.inl q9), some (.inl q12), none], [.inl q12, .inl (if q9 ≠ (-1 : Int32) then q9 else (0 : Int32)), .inl q15, .inr (.inr (some (10, 0)))], am_mk m)) rfl ?_
            refine am_Go.cut (S := (99, [some (.inr (.inr (some (10, 0)))), some (.inl q9), some (.inl q12), none], [.inl (if q12 = 0 then (0 : Int32) else ((m.2.1 10 0 17).toInt32)), .inl (if q9 ≠ (-1 : Int32) then q9 else (0 : Int32)), .inl q15, .inr (.inr (some (10, 0)))], am_mk m)) ?_ (fun key => ?_)
            · obtain ⟨r18, h19, h⟩ := am_bd h
              refine am_Go.cl htb rfl (ex_X10_leaf d (by omega) q15 (if q9 ≠ (-1 : Int32) then q9 else (0 : Int32)) (if q12 = 0 then (0 : Int32) else ((m.2.1 10 0 17).toInt32)) m r18 h19) ?_
              show am_Go d 221 (102, [some (.inr (.inr (some (10, 0)))), some (.inl q9), some (.inl q12), none], [], am_mk r18) _ _ _ _
              refine am_Go.n htb 2 (S' := (106, [some (.inr (.inr (some (10, 0)))), some (.inl q9), some (.inl q12), none], [.inl (r18.1 10 0 20)], am_mk r18)) rfl ?_
              by_cases hc20 : (r18.1 10 0 20) = 0
              · rw [if_pos hc20] at h
                refine am_Go.c1 htb (S' := (143, [some (.inr (.inr (some (10, 0)))), some (.inl q9), some (.inl q12), none], [], am_mk r18)) (if_pos hc20) ?_
                refine am_Go.n htb 1 (S' := (144, [some (.inr (.inr (some (10, 0)))), some (.inl q9), some (.inl q12), none], [.inl 3], am_mk r18)) rfl ?_
                cases h
                exact am_Go.r htb rfl
              · rw [if_neg hc20] at h
                refine am_Go.c1 htb (S' := (109, [some (.inr (.inr (some (10, 0)))), some (.inl q9), some (.inl q12), none], [], am_mk r18)) (if_neg hc20) ?_
                refine am_Go.n htb 2 (S' := (112, [some (.inr (.inr (some (10, 0)))), some (.inl q9), some (.inl q12), none], [.inl 6, .inl q9], am_mk r18)) rfl ?_
                by_cases hc21 : q9 < (6 : Int32)
                · rw [if_pos hc21] at h
                  refine am_Go.c1 htb (S' := (143, [some (.inr (.inr (some (10, 0)))), some (.inl q9), some (.inl q12), none], [], am_mk r18)) (if_pos hc21) ?_
                  refine am_Go.n htb 1 (S' := (144, [some (.inr (.inr (some (10, 0)))), some (.inl q9), some (.inl q12), none], [.inl 3], am_mk r18)) rfl ?_
                  cases h
                  exact am_Go.r htb rfl
                · rw [if_neg hc21] at h
                  refine am_Go.c1 htb (S' := (115, [some (.inr (.inr (some (10, 0)))), some (.inl q9), some (.inl q12), none], [], am_mk r18)) (if_neg hc21) ?_
                  refine am_Go.n htb 2 (S' := (119, [some (.inr (.inr (some (10, 0)))), some (.inl q9), some (.inl q12), none], [.inl (r18.1 10 0 19)], am_mk r18)) rfl ?_
                  by_cases hc22 : (r18.1 10 0 19) ≠ 0
                  · rw [if_pos hc22] at h
                    refine am_Go.c1 htb (S' := (143, [some (.inr (.inr (some (10, 0)))), some (.inl q9), some (.inl q12), none], [], am_mk r18)) (if_pos hc22) ?_
                    refine am_Go.n htb 1 (S' := (144, [some (.inr (.inr (some (10, 0)))), some (.inl q9), some (.inl q12), none], [.inl 3], am_mk r18)) rfl ?_
                    cases h
                    exact am_Go.r htb rfl
                  · rw [if_neg hc22] at h
                    refine am_Go.c1 htb (S' := (122, [some (.inr (.inr (some (10, 0)))), some (.inl q9), some (.inl q12), none], [], am_mk r18)) (if_neg hc22) ?_
                    refine am_Go.n htb 11 (S' := (139, [some (.inr (.inr (some (10, 0)))), some (.inl q9), some (.inl q12), some (.inl ((r18.1 10 0 23) - (1 : Int32)))], [.inr (.inl 6), .inr (.inl 0), .inr (.inr (some (10, 0))), .inl ((r18.1 10 0 23) - (1 : Int32)), .inr (.inr (some (53, 0)))], am_mk r18)) rfl ?_
                    obtain ⟨r23, h24, h⟩ := am_bd h
                    refine am_Go.cl htb rfl (ex_X10_number d (by omega) 0 6 r18 r23 h24) ?_
                    show am_Go d 221 (142, [some (.inr (.inr (some (10, 0)))), some (.inl q9), some (.inl q12), some (.inl ((r18.1 10 0 23) - (1 : Int32)))], [.inl r23.1, .inl ((r18.1 10 0 23) - (1 : Int32)), .inr (.inr (some (53, 0)))], am_mk r23.2) _ _ _ _
                    obtain ⟨hg25, h⟩ := am_ck_some h
                    refine am_Go.c1 htb (S' := (143, [some (.inr (.inr (some (10, 0)))), some (.inl q9), some (.inl q12), some (.inl ((r18.1 10 0 23) - (1 : Int32)))], [], am_mk (am_si r23.2 53 0 ((r18.1 10 0 23) - (1 : Int32)).toNatClampNeg r23.1))) (if_neg hg25) ?_
                    refine am_Go.n htb 1 (S' := (144, [some (.inr (.inr (some (10, 0)))), some (.inl q9), some (.inl q12), some (.inl ((r18.1 10 0 23) - (1 : Int32)))], [.inl 3], am_mk (am_si r23.2 53 0 ((r18.1 10 0 23) - (1 : Int32)).toNatClampNeg r23.1))) rfl ?_
                    cases h
                    exact am_Go.r htb rfl
            · by_cases hc17 : q12 = 0
              · refine am_Go.c1 htb (S' := (98, [some (.inr (.inr (some (10, 0)))), some (.inl q9), some (.inl q12), none], [.inl (if q9 ≠ (-1 : Int32) then q9 else (0 : Int32)), .inl q15, .inr (.inr (some (10, 0)))], am_mk m)) (if_pos hc17) ?_
                refine am_Go.n htb 1 (S' := (99, [some (.inr (.inr (some (10, 0)))), some (.inl q9), some (.inl q12), none], [.inl 0, .inl (if q9 ≠ (-1 : Int32) then q9 else (0 : Int32)), .inl q15, .inr (.inr (some (10, 0)))], am_mk m)) rfl ?_
                simp only [if_pos hc17] at key
                exact am_Go.fg (by exact ⟨rfl, ⟨rfl, ⟨rfl, trivial⟩⟩⟩) key
              · refine am_Go.c1 htb (S' := (90, [some (.inr (.inr (some (10, 0)))), some (.inl q9), some (.inl q12), none], [.inl (if q9 ≠ (-1 : Int32) then q9 else (0 : Int32)), .inl q15, .inr (.inr (some (10, 0)))], am_mk m)) (if_neg hc17) ?_
                refine am_Go.n htb 4 (S' := (99, [some (.inr (.inr (some (10, 0)))), some (.inl q9), some (.inl q12), none], [.inl ((m.2.1 10 0 17).toInt32), .inl (if q9 ≠ (-1 : Int32) then q9 else (0 : Int32)), .inl q15, .inr (.inr (some (10, 0)))], am_mk m)) rfl ?_
                simp only [if_neg hc17] at key
                exact am_Go.fg (by exact ⟨rfl, ⟨rfl, ⟨rfl, trivial⟩⟩⟩) key
          · by_cases hc16 : q9 ≠ (-1 : Int32)
            · refine am_Go.c1 htb (S' := (85, [some (.inr (.inr (some (10, 0)))), some (.inl q9), some (.inl q12), none], [.inl q15, .inr (.inr (some (10, 0)))], am_mk m)) (if_pos hc16) ?_
              refine am_Go.n htb 1 (S' := (86, [some (.inr (.inr (some (10, 0)))), some (.inl q9), some (.inl q12), none], [.inl q9, .inl q15, .inr (.inr (some (10, 0)))], am_mk m)) rfl ?_
              simp only [if_pos hc16] at key
              exact am_Go.fg (by exact ⟨rfl, ⟨rfl, ⟨rfl, trivial⟩⟩⟩) key
            · refine am_Go.c1 htb (S' := (81, [some (.inr (.inr (some (10, 0)))), some (.inl q9), some (.inl q12), none], [.inl q15, .inr (.inr (some (10, 0)))], am_mk m)) (if_neg hc16) ?_
              refine am_Go.n htb 2 (S' := (86, [some (.inr (.inr (some (10, 0)))), some (.inl q9), some (.inl q12), none], [.inl 0, .inl q15, .inr (.inr (some (10, 0)))], am_mk m)) rfl ?_
              simp only [if_neg hc16] at key
              exact am_Go.fg (by exact ⟨rfl, ⟨rfl, ⟨rfl, trivial⟩⟩⟩) key
        · have h := h26
          by_cases hc13 : q9 ≠ (-1 : Int32)
          · rw [if_pos hc13] at h
            refine am_Go.c1 htb (S' := (71, [some (.inr (.inr (some (10, 0)))), some (.inl q9), some (.inl q12), none], [.inr (.inr (some (10, 0)))], am_mk m)) (if_pos hc13) ?_
            refine am_Go.n htb 2 (S' := (76, [some (.inr (.inr (some (10, 0)))), some (.inl q9), some (.inl q12), none], [.inl 1, .inr (.inr (some (10, 0)))], am_mk m)) rfl ?_
            cases h
            exact am_Go.fg (by exact ⟨rfl, ⟨rfl, ⟨rfl, trivial⟩⟩⟩) key
          · rw [if_neg hc13] at h
            refine am_Go.c1 htb (S' := (67, [some (.inr (.inr (some (10, 0)))), some (.inl q9), some (.inl q12), none], [.inr (.inr (some (10, 0)))], am_mk m)) (if_neg hc13) ?_
            refine am_Go.n htb 1 (S' := (68, [some (.inr (.inr (some (10, 0)))), some (.inl q9), some (.inl q12), none], [.inl q12, .inr (.inr (some (10, 0)))], am_mk m)) rfl ?_
            by_cases hc14 : q12 = 0
            · rw [if_pos hc14] at h
              refine am_Go.c1 htb (S' := (75, [some (.inr (.inr (some (10, 0)))), some (.inl q9), some (.inl q12), none], [.inr (.inr (some (10, 0)))], am_mk m)) (if_pos hc14) ?_
              refine am_Go.n htb 1 (S' := (76, [some (.inr (.inr (some (10, 0)))), some (.inl q9), some (.inl q12), none], [.inl 0, .inr (.inr (some (10, 0)))], am_mk m)) rfl ?_
              cases h
              exact am_Go.fg (by exact ⟨rfl, ⟨rfl, ⟨rfl, trivial⟩⟩⟩) key
            · rw [if_neg hc14] at h
              refine am_Go.c1 htb (S' := (71, [some (.inr (.inr (some (10, 0)))), some (.inl q9), some (.inl q12), none], [.inr (.inr (some (10, 0)))], am_mk m)) (if_neg hc14) ?_
              refine am_Go.n htb 2 (S' := (76, [some (.inr (.inr (some (10, 0)))), some (.inl q9), some (.inl q12), none], [.inl 1, .inr (.inr (some (10, 0)))], am_mk m)) rfl ?_
              cases h
              exact am_Go.fg (by exact ⟨rfl, ⟨rfl, ⟨rfl, trivial⟩⟩⟩) key
      · have h := h27
        by_cases hc10 : (m.1 10 0 16) ≠ (2 : Int32)
        · rw [if_pos hc10] at h
          refine am_Go.c1 htb (S' := (59, [some (.inr (.inr (some (10, 0)))), some (.inl q9), none, none], [], am_mk m)) (if_pos hc10) ?_
          refine am_Go.n htb 1 (S' := (60, [some (.inr (.inr (some (10, 0)))), some (.inl q9), none, none], [.inl 0], am_mk m)) rfl ?_
          cases h
          exact am_Go.fg (by exact ⟨rfl, ⟨rfl, trivial⟩⟩) key
        · rw [if_neg hc10] at h
          refine am_Go.c1 htb (S' := (44, [some (.inr (.inr (some (10, 0)))), some (.inl q9), none, none], [], am_mk m)) (if_neg hc10) ?_
          refine am_Go.n htb 4 (S' := (52, [some (.inr (.inr (some (10, 0)))), some (.inl q9), none, none], [.inl (lg_cmp (m.2.1 10 0 17) (1000 : Int64))], am_mk m)) rfl ?_
          by_cases hc11 : 0 < (lg_cmp (m.2.1 10 0 17) (1000 : Int64))
          · rw [if_pos hc11] at h
            refine am_Go.c1 htb (S' := (59, [some (.inr (.inr (some (10, 0)))), some (.inl q9), none, none], [], am_mk m)) (if_pos hc11) ?_
            refine am_Go.n htb 1 (S' := (60, [some (.inr (.inr (some (10, 0)))), some (.inl q9), none, none], [.inl 0], am_mk m)) rfl ?_
            cases h
            exact am_Go.fg (by exact ⟨rfl, ⟨rfl, trivial⟩⟩) key
          · rw [if_neg hc11] at h
            refine am_Go.c1 htb (S' := (55, [some (.inr (.inr (some (10, 0)))), some (.inl q9), none, none], [], am_mk m)) (if_neg hc11) ?_
            refine am_Go.n htb 2 (S' := (60, [some (.inr (.inr (some (10, 0)))), some (.inl q9), none, none], [.inl 1], am_mk m)) rfl ?_
            cases h
            exact am_Go.fg (by exact ⟨rfl, ⟨rfl, trivial⟩⟩) key
    · have h := h28
      by_cases hc4 : (m.1 10 0 20) = 0
      · rw [if_pos hc4] at h
        refine am_Go.c1 htb (S' := (31, [some (.inr (.inr (some (10, 0)))), none, none, none], [], am_mk m)) (if_pos hc4) ?_
        refine am_Go.n htb 1 (S' := (32, [some (.inr (.inr (some (10, 0)))), none, none, none], [.inr (.inr (some (10, 0)))], am_mk m)) rfl ?_
        obtain ⟨r5, h6, h⟩ := am_bd h
        refine am_Go.cl htb rfl (ex_X10_partAt d (by omega)  m r5 h6) ?_
        show am_Go d 221 (35, [some (.inr (.inr (some (10, 0)))), none, none, none], [.inl r5], am_mk m) _ _ _ _
        cases h
        exact am_Go.fg (by exact ⟨rfl, trivial⟩) key
      · rw [if_neg hc4] at h
        refine am_Go.c1 htb (S' := (24, [some (.inr (.inr (some (10, 0)))), none, none, none], [], am_mk m)) (if_neg hc4) ?_
        refine am_Go.n htb 1 (S' := (25, [some (.inr (.inr (some (10, 0)))), none, none, none], [.inr (.inr (some (10, 0)))], am_mk m)) rfl ?_
        obtain ⟨r7, h8, h⟩ := am_bd h
        refine am_Go.cl htb rfl (ex_X10_orderPartAt d (by omega)  m r7 h8) ?_
        show am_Go d 221 (28, [some (.inr (.inr (some (10, 0)))), none, none, none], [.inl r7], am_mk m) _ _ _ _
        refine am_Go.n htb 1 (S' := (35, [some (.inr (.inr (some (10, 0)))), none, none, none], [.inl r7], am_mk m)) rfl ?_
        cases h
        exact am_Go.fg (by exact ⟨rfl, trivial⟩) key
  · rw [if_neg hc3] at h
    refine am_Go.c1 htb (S' := (9, [some (.inr (.inr (some (10, 0)))), none, none, none], [], am_mk m)) (if_neg hc3) ?_
    refine am_Go.n htb 2 (S' := (12, [some (.inr (.inr (some (10, 0)))), none, none, none], [.inl 32, .inr (.inr (some (10, 0)))], am_mk m)) rfl ?_
    obtain ⟨r29, h30, h⟩ := am_bd h
    refine am_Go.cl htb rfl (ex_X10_openBracket d (by omega) 32 m r29 h30) ?_
    show am_Go d 221 (15, [some (.inr (.inr (some (10, 0)))), none, none, none], [], am_mk r29) _ _ _ _
    refine am_Go.n htb 1 (S' := (16, [some (.inr (.inr (some (10, 0)))), none, none, none], [.inl 1], am_mk r29)) rfl ?_
    cases h
    exact am_Go.r htb rfl
-- X10_readPlain
def fn_X10_readPlain  (m : am_m) : Option (Int32 × am_m) :=
  (fn_X10_isWord 14836 m).bind fun r1 => (if r1 = 0 then (fn_X10_isSign 40 m).bind fun r4 => (if r4 = 0 then (fn_X10_readPart  m).bind fun r7 => some (r7.1, r7.2) else (fn_X10_openBracket 31 m).bind fun r9 => some (0, r9)) else (fn_X10_push 28 0 m).bind fun r11 => (fn_X10_next  r11).bind fun r13 => some (0, r13))
set_option maxRecDepth 100000 in
theorem ex_X10_readPlain (d : Nat) (hd : 6 ≤ d)  (m : am_m) (t : Int32 × am_m) (h : fn_X10_readPlain  m = some t) : am_Ex am_cod d 222 [.inr (.inr (some (10, 0)))] (am_mk m) (some (.inl t.1)) (am_mk t.2) 0 0 := by
  obtain ⟨d, rfl⟩ : ∃ e, d = e + 1 := ⟨d - 1, by omega⟩
  have htb : am_tab 222 = at_222 := rfl
  refine ⟨Nat.le_of_ble_eq_true rfl, ?_⟩
  unfold fn_X10_readPlain at h
  show am_Go d 222 (0, [some (.inr (.inr (some (10, 0))))], [], am_mk m) _ _ 0 0
  refine am_Go.n htb 2 (S' := (4, [some (.inr (.inr (some (10, 0))))], [.inr (.inl 14836), .inr (.inr (some (10, 0)))], am_mk m)) rfl ?_
  obtain ⟨r1, h2, h⟩ := am_bd h
  refine am_Go.cl htb rfl (ex_X10_isWord d (by omega) 14836 m r1 h2) ?_
  show am_Go d 222 (7, [some (.inr (.inr (some (10, 0))))], [.inl r1], am_mk m) _ _ _ _
  by_cases hc3 : r1 = 0
  · rw [if_pos hc3] at h
    refine am_Go.c1 htb (S' := (23, [some (.inr (.inr (some (10, 0))))], [], am_mk m)) (if_pos hc3) ?_
    refine am_Go.n htb 2 (S' := (26, [some (.inr (.inr (some (10, 0))))], [.inl 40, .inr (.inr (some (10, 0)))], am_mk m)) rfl ?_
    obtain ⟨r4, h5, h⟩ := am_bd h
    refine am_Go.cl htb rfl (ex_X10_isSign d (by omega) 40 m r4 h5) ?_
    show am_Go d 222 (29, [some (.inr (.inr (some (10, 0))))], [.inl r4], am_mk m) _ _ _ _
    by_cases hc6 : r4 = 0
    · rw [if_pos hc6] at h
      refine am_Go.c1 htb (S' := (40, [some (.inr (.inr (some (10, 0))))], [], am_mk m)) (if_pos hc6) ?_
      refine am_Go.n htb 1 (S' := (41, [some (.inr (.inr (some (10, 0))))], [.inr (.inr (some (10, 0)))], am_mk m)) rfl ?_
      obtain ⟨r7, h8, h⟩ := am_bd h
      refine am_Go.cl htb rfl (ex_X10_readPart d (by omega)  m r7 h8) ?_
      show am_Go d 222 (44, [some (.inr (.inr (some (10, 0))))], [.inl r7.1], am_mk r7.2) _ _ _ _
      cases h
      exact am_Go.r htb rfl
    · rw [if_neg hc6] at h
      refine am_Go.c1 htb (S' := (32, [some (.inr (.inr (some (10, 0))))], [], am_mk m)) (if_neg hc6) ?_
      refine am_Go.n htb 2 (S' := (35, [some (.inr (.inr (some (10, 0))))], [.inl 31, .inr (.inr (some (10, 0)))], am_mk m)) rfl ?_
      obtain ⟨r9, h10, h⟩ := am_bd h
      refine am_Go.cl htb rfl (ex_X10_openBracket d (by omega) 31 m r9 h10) ?_
      show am_Go d 222 (38, [some (.inr (.inr (some (10, 0))))], [], am_mk r9) _ _ _ _
      refine am_Go.n htb 1 (S' := (39, [some (.inr (.inr (some (10, 0))))], [.inl 0], am_mk r9)) rfl ?_
      cases h
      exact am_Go.r htb rfl
  · rw [if_neg hc3] at h
    refine am_Go.c1 htb (S' := (10, [some (.inr (.inr (some (10, 0))))], [], am_mk m)) (if_neg hc3) ?_
    refine am_Go.n htb 3 (S' := (14, [some (.inr (.inr (some (10, 0))))], [.inl 0, .inl 28, .inr (.inr (some (10, 0)))], am_mk m)) rfl ?_
    obtain ⟨r11, h12, h⟩ := am_bd h
    refine am_Go.cl htb rfl (ex_X10_push d (by omega) 28 0 m r11 h12) ?_
    show am_Go d 222 (17, [some (.inr (.inr (some (10, 0))))], [], am_mk r11) _ _ _ _
    refine am_Go.n htb 1 (S' := (18, [some (.inr (.inr (some (10, 0))))], [.inr (.inr (some (10, 0)))], am_mk r11)) rfl ?_
    obtain ⟨r13, h14, h⟩ := am_bd h
    refine am_Go.cl htb rfl (ex_X10_next d (by omega)  r11 r13 h14) ?_
    show am_Go d 222 (21, [some (.inr (.inr (some (10, 0))))], [], am_mk r13) _ _ _ _
    refine am_Go.n htb 1 (S' := (22, [some (.inr (.inr (some (10, 0))))], [.inl 0], am_mk r13)) rfl ?_
    cases h
    exact am_Go.r htb rfl
-- X10_behindSum
def fn_X10_behindSum (a1 : Int32) (m : am_m) : Option (Int32 × am_m) :=
  (fn_X10_isSign 43 m).bind fun r1 => (if r1 = 0 then (fn_X10_isSign 45 m).bind fun r4 => (if r4 = 0 then (fn_X10_isSign 42 m).bind fun r7 => (if r7 = 0 then (fn_X10_isSign 47 m).bind fun r10 => (if r10 = 0 then (fn_X10_isSign 37 m).bind fun r13 => (if r13 = 0 then some (-1) else some 24) else some 23) else some 22) else some 21) else some 20).bind fun q16 => (if q16 = (-1 : Int32) then (fn_X10_inner  m).bind fun r18 => (if r18 ≠ (32 : Int32) then (if r18 ≠ (-1 : Int32) then (fn_X10_isCompared  m).bind fun r22 => (if r22 = 0 then (fn_X10_isSign 60 m).bind fun r25 => (if r25 = 0 then (fn_X10_isSign 62 m).bind fun r28 => (if r28 = 0 then some 27 else some 26) else some 25).bind fun q31 => (if q31 ≠ (27 : Int32) then some 1 else (fn_X10_isSign 61 m).bind fun r33 => (if r33 = 0 then some 0 else some 1)).bind fun q36 => (fn_X10_must q36 m).bind fun r37 => (if (r37.1 10 0 19) ≠ 0 then some (1, r37) else (fn_X10_settle 5 r37).bind fun r40 => (fn_X10_push q31 0 r40).bind fun r42 => some (1, r42)) else some (2, m)) else (if a1 ≠ 0 then (fn_X10_isCompared  m).bind fun r47 => (if r47 = 0 then (fn_X10_isSign 60 m).bind fun r50 => (if r50 = 0 then (fn_X10_isSign 62 m).bind fun r53 => (if r53 = 0 then some 27 else some 26) else some 25).bind fun q56 => (if q56 ≠ (27 : Int32) then some 1 else (fn_X10_isSign 61 m).bind fun r58 => (if r58 = 0 then some 0 else some 1)).bind fun q61 => (fn_X10_must q61 m).bind fun r62 => (if (r62.1 10 0 19) ≠ 0 then some (1, r62) else (fn_X10_settle 5 r62).bind fun r65 => (fn_X10_push q56 0 r65).bind fun r67 => some (1, r67)) else some (2, m)) else some (4, m))) else (fn_X10_isSign 93 m).bind fun r71 => (fn_X10_must r71 m).bind fun r73 => (if (r73.1 10 0 19) ≠ 0 then some (3, r73) else (fn_X10_settle 5 r73).bind fun r76 => some (3, am_si (am_si r76 10 0 29 ((r76.1 10 0 29) - (1 : Int32))) 10 0 30 (((am_si r76 10 0 29 ((r76.1 10 0 29) - (1 : Int32))).1 10 0 30) - (1 : Int32))))) else (fn_X10_binds q16 m).bind fun r78 => (fn_X10_settle r78 m).bind fun r80 => (fn_X10_push q16 0 r80).bind fun r82 => (fn_X10_next  r82).bind fun r84 => some (1, r84))
set_option maxRecDepth 100000 in
theorem ex_X10_behindSum (d : Nat) (hd : 4 ≤ d) (a1 : Int32) (m : am_m) (t : Int32 × am_m) (h : fn_X10_behindSum a1 m = some t) : am_Ex am_cod d 223 [.inr (.inr (some (10, 0))), .inl a1] (am_mk m) (some (.inl t.1)) (am_mk t.2) 0 0 := by
  obtain ⟨d, rfl⟩ : ∃ e, d = e + 1 := ⟨d - 1, by omega⟩
  have htb : am_tab 223 = at_223 := rfl
  refine ⟨Nat.le_of_ble_eq_true rfl, ?_⟩
  unfold fn_X10_behindSum at h
  show am_Go d 223 (0, [some (.inr (.inr (some (10, 0)))), some (.inl a1), none, none], [], am_mk m) _ _ 0 0
  refine am_Go.n htb 2 (S' := (3, [some (.inr (.inr (some (10, 0)))), some (.inl a1), none, none], [.inl 43, .inr (.inr (some (10, 0)))], am_mk m)) rfl ?_
  obtain ⟨r1, h2, h⟩ := am_bd h
  refine am_Go.cl htb rfl (ex_X10_isSign d (by omega) 43 m r1 h2) ?_
  show am_Go d 223 (6, [some (.inr (.inr (some (10, 0)))), some (.inl a1), none, none], [.inl r1], am_mk m) _ _ _ _
  obtain ⟨q16, h86, h⟩ := am_bd h
  refine am_Go.cut (S := (71, [some (.inr (.inr (some (10, 0)))), some (.inl a1), none, none], [.inl q16], am_mk m)) ?_ (fun key => ?_)
  · refine am_Go.n htb 3 (S' := (74, [some (.inr (.inr (some (10, 0)))), some (.inl a1), some (.inl q16), none], [.inl (-1), .inl q16], am_mk m)) rfl ?_
    by_cases hc17 : q16 = (-1 : Int32)
    · rw [if_pos hc17] at h
      refine am_Go.c1 htb (S' := (97, [some (.inr (.inr (some (10, 0)))), some (.inl a1), some (.inl q16), none], [], am_mk m)) (if_pos hc17) ?_
      refine am_Go.n htb 1 (S' := (98, [some (.inr (.inr (some (10, 0)))), some (.inl a1), some (.inl q16), none], [.inr (.inr (some (10, 0)))], am_mk m)) rfl ?_
      obtain ⟨r18, h19, h⟩ := am_bd h
      refine am_Go.cl htb rfl (ex_X10_inner d (by omega)  m r18 h19) ?_
      show am_Go d 223 (101, [some (.inr (.inr (some (10, 0)))), some (.inl a1), some (.inl q16), none], [.inl r18], am_mk m) _ _ _ _
      refine am_Go.n htb 3 (S' := (105, [some (.inr (.inr (some (10, 0)))), some (.inl a1), some (.inl q16), some (.inl r18)], [.inl 32, .inl r18], am_mk m)) rfl ?_
      by_cases hc20 : r18 ≠ (32 : Int32)
      · rw [if_pos hc20] at h
        refine am_Go.c1 htb (S' := (152, [some (.inr (.inr (some (10, 0)))), some (.inl a1), some (.inl q16), some (.inl r18)], [], am_mk m)) (if_pos hc20) ?_
        refine am_Go.n htb 2 (S' := (154, [some (.inr (.inr (some (10, 0)))), some (.inl a1), some (.inl q16), some (.inl r18)], [.inl (-1), .inl r18], am_mk m)) rfl ?_
        by_cases hc21 : r18 ≠ (-1 : Int32)
        · rw [if_pos hc21] at h
          refine am_Go.c1 htb (S' := (163, [some (.inr (.inr (some (10, 0)))), some (.inl a1), some (.inl q16), some (.inl r18)], [], am_mk m)) (if_pos hc21) ?_
          refine am_Go.n htb 1 (S' := (164, [some (.inr (.inr (some (10, 0)))), some (.inl a1), some (.inl q16), some (.inl r18)], [.inr (.inr (some (10, 0)))], am_mk m)) rfl ?_
          obtain ⟨r22, h23, h⟩ := am_bd h
          refine am_Go.cl htb rfl (ex_X10_isCompared d (by omega)  m r22 h23) ?_
          show am_Go d 223 (167, [some (.inr (.inr (some (10, 0)))), some (.inl a1), some (.inl q16), some (.inl r18)], [.inl r22], am_mk m) _ _ _ _
          by_cases hc24 : r22 = 0
          · rw [if_pos hc24] at h
            refine am_Go.c1 htb (S' := (172, [some (.inr (.inr (some (10, 0)))), some (.inl a1), some (.inl q16), some (.inl r18)], [], am_mk m)) (if_pos hc24) ?_
            refine am_Go.n htb 2 (S' := (175, [some (.inr (.inr (some (10, 0)))), some (.inl a1), some (.inl q16), some (.inl r18)], [.inl 60, .inr (.inr (some (10, 0)))], am_mk m)) rfl ?_
            obtain ⟨r25, h26, h⟩ := am_bd h
            refine am_Go.cl htb rfl (ex_X10_isSign d (by omega) 60 m r25 h26) ?_
            show am_Go d 223 (178, [some (.inr (.inr (some (10, 0)))), some (.inl a1), some (.inl q16), some (.inl r18)], [.inl r25], am_mk m) _ _ _ _
            obtain ⟨q31, h45, h⟩ := am_bd h
            refine am_Go.cut (S := (202, [some (.inr (.inr (some (10, 0)))), some (.inl a1), some (.inl q16), some (.inl r18)], [.inl q31], am_mk m)) ?_ (fun key => ?_)
            · refine am_Go.n htb 4 (S' := (207, [some (.inr (.inr (some (10, 0)))), some (.inl a1), some (.inl q31), some (.inl r18)], [.inl 27, .inl q31, .inr (.inr (some (10, 0)))], am_mk m)) rfl ?_
              obtain ⟨q36, h44, h⟩ := am_bd h
              refine am_Go.cut (S := (224, [some (.inr (.inr (some (10, 0)))), some (.inl a1), some (.inl q31), some (.inl r18)], [.inl q36, .inr (.inr (some (10, 0)))], am_mk m)) ?_ (fun key => ?_)
              · obtain ⟨r37, h38, h⟩ := am_bd h
                refine am_Go.cl htb rfl (ex_X10_must d (by omega) q36 m r37 h38) ?_
                show am_Go d 223 (227, [some (.inr (.inr (some (10, 0)))), some (.inl a1), some (.inl q31), some (.inl r18)], [], am_mk r37) _ _ _ _
                refine am_Go.n htb 2 (S' := (231, [some (.inr (.inr (some (10, 0)))), some (.inl a1), some (.inl q31), some (.inl r18)], [.inl (r37.1 10 0 19)], am_mk r37)) rfl ?_
                by_cases hc39 : (r37.1 10 0 19) ≠ 0
                · rw [if_pos hc39] at h
                  refine am_Go.c1 htb (S' := (245, [some (.inr (.inr (some (10, 0)))), some (.inl a1), some (.inl q31), some (.inl r18)], [], am_mk r37)) (if_pos hc39) ?_
                  refine am_Go.n htb 1 (S' := (246, [some (.inr (.inr (some (10, 0)))), some (.inl a1), some (.inl q31), some (.inl r18)], [.inl 1], am_mk r37)) rfl ?_
                  cases h
                  exact am_Go.r htb rfl
                · rw [if_neg hc39] at h
                  refine am_Go.c1 htb (S' := (234, [some (.inr (.inr (some (10, 0)))), some (.inl a1), some (.inl q31), some (.inl r18)], [], am_mk r37)) (if_neg hc39) ?_
                  refine am_Go.n htb 2 (S' := (236, [some (.inr (.inr (some (10, 0)))), some (.inl a1), some (.inl q31), some (.inl r18)], [.inl 5, .inr (.inr (some (10, 0)))], am_mk r37)) rfl ?_
                  obtain ⟨r40, h41, h⟩ := am_bd h
                  refine am_Go.cl htb rfl (ex_X10_settle d (by omega) 5 r37 r40 h41) ?_
                  show am_Go d 223 (239, [some (.inr (.inr (some (10, 0)))), some (.inl a1), some (.inl q31), some (.inl r18)], [], am_mk r40) _ _ _ _
                  refine am_Go.n htb 3 (S' := (242, [some (.inr (.inr (some (10, 0)))), some (.inl a1), some (.inl q31), some (.inl r18)], [.inl 0, .inl q31, .inr (.inr (some (10, 0)))], am_mk r40)) rfl ?_
                  obtain ⟨r42, h43, h⟩ := am_bd h
                  refine am_Go.cl htb rfl (ex_X10_push d (by omega) q31 0 r40 r42 h43) ?_
                  show am_Go d 223 (245, [some (.inr (.inr (some (10, 0)))), some (.inl a1), some (.inl q31), some (.inl r18)], [], am_mk r42) _ _ _ _
                  refine am_Go.n htb 1 (S' := (246, [some (.inr (.inr (some (10, 0)))), some (.inl a1), some (.inl q31), some (.inl r18)], [.inl 1], am_mk r42)) rfl ?_
                  cases h
                  exact am_Go.r htb rfl
              · have h := h44
                by_cases hc32 : q31 ≠ (27 : Int32)
                · rw [if_pos hc32] at h
                  refine am_Go.c1 htb (S' := (219, [some (.inr (.inr (some (10, 0)))), some (.inl a1), some (.inl q31), some (.inl r18)], [.inr (.inr (some (10, 0)))], am_mk m)) (if_pos hc32) ?_
                  refine am_Go.n htb 2 (S' := (224, [some (.inr (.inr (some (10, 0)))), some (.inl a1), some (.inl q31), some (.inl r18)], [.inl 1, .inr (.inr (some (10, 0)))], am_mk m)) rfl ?_
                  cases h
                  exact am_Go.fg (by exact ⟨rfl, ⟨rfl, ⟨rfl, ⟨rfl, trivial⟩⟩⟩⟩) key
                · rw [if_neg hc32] at h
                  refine am_Go.c1 htb (S' := (210, [some (.inr (.inr (some (10, 0)))), some (.inl a1), some (.inl q31), some (.inl r18)], [.inr (.inr (some (10, 0)))], am_mk m)) (if_neg hc32) ?_
                  refine am_Go.n htb 2 (S' := (213, [some (.inr (.inr (some (10, 0)))), some (.inl a1), some (.inl q31), some (.inl r18)], [.inl 61, .inr (.inr (some (10, 0))), .inr (.inr (some (10, 0)))], am_mk m)) rfl ?_
                  obtain ⟨r33, h34, h⟩ := am_bd h
                  refine am_Go.cl htb rfl (ex_X10_isSign d (by omega) 61 m r33 h34) ?_
                  show am_Go d 223 (216, [some (.inr (.inr (some (10, 0)))), some (.inl a1), some (.inl q31), some (.inl r18)], [.inl r33, .inr (.inr (some (10, 0)))], am_mk m) _ _ _ _
                  by_cases hc35 : r33 = 0
                  · rw [if_pos hc35] at h
                    refine am_Go.c1 htb (S' := (223, [some (.inr (.inr (some (10, 0)))), some (.inl a1), some (.inl q31), some (.inl r18)], [.inr (.inr (some (10, 0)))], am_mk m)) (if_pos hc35) ?_
                    refine am_Go.n htb 1 (S' := (224, [some (.inr (.inr (some (10, 0)))), some (.inl a1), some (.inl q31), some (.inl r18)], [.inl 0, .inr (.inr (some (10, 0)))], am_mk m)) rfl ?_
                    cases h
                    exact am_Go.fg (by exact ⟨rfl, ⟨rfl, ⟨rfl, ⟨rfl, trivial⟩⟩⟩⟩) key
                  · rw [if_neg hc35] at h
                    refine am_Go.c1 htb (S' := (219, [some (.inr (.inr (some (10, 0)))), some (.inl a1), some (.inl q31), some (.inl r18)], [.inr (.inr (some (10, 0)))], am_mk m)) (if_neg hc35) ?_
                    refine am_Go.n htb 2 (S' := (224, [some (.inr (.inr (some (10, 0)))), some (.inl a1), some (.inl q31), some (.inl r18)], [.inl 1, .inr (.inr (some (10, 0)))], am_mk m)) rfl ?_
                    cases h
                    exact am_Go.fg (by exact ⟨rfl, ⟨rfl, ⟨rfl, ⟨rfl, trivial⟩⟩⟩⟩) key
            · have h := h45
              by_cases hc27 : r25 = 0
              · rw [if_pos hc27] at h
                refine am_Go.c1 htb (S' := (186, [some (.inr (.inr (some (10, 0)))), some (.inl a1), some (.inl q16), some (.inl r18)], [], am_mk m)) (if_pos hc27) ?_
                refine am_Go.n htb 2 (S' := (189, [some (.inr (.inr (some (10, 0)))), some (.inl a1), some (.inl q16), some (.inl r18)], [.inl 62, .inr (.inr (some (10, 0)))], am_mk m)) rfl ?_
                obtain ⟨r28, h29, h⟩ := am_bd h
                refine am_Go.cl htb rfl (ex_X10_isSign d (by omega) 62 m r28 h29) ?_
                show am_Go d 223 (192, [some (.inr (.inr (some (10, 0)))), some (.inl a1), some (.inl q16), some (.inl r18)], [.inl r28], am_mk m) _ _ _ _
                by_cases hc30 : r28 = 0
                · rw [if_pos hc30] at h
                  refine am_Go.c1 htb (S' := (200, [some (.inr (.inr (some (10, 0)))), some (.inl a1), some (.inl q16), some (.inl r18)], [], am_mk m)) (if_pos hc30) ?_
                  refine am_Go.n htb 1 (S' := (202, [some (.inr (.inr (some (10, 0)))), some (.inl a1), some (.inl q16), some (.inl r18)], [.inl 27], am_mk m)) rfl ?_
                  cases h
                  exact am_Go.fg (by exact ⟨rfl, ⟨rfl, ⟨rfl, ⟨rfl, trivial⟩⟩⟩⟩) key
                · rw [if_neg hc30] at h
                  refine am_Go.c1 htb (S' := (195, [some (.inr (.inr (some (10, 0)))), some (.inl a1), some (.inl q16), some (.inl r18)], [], am_mk m)) (if_neg hc30) ?_
                  refine am_Go.n htb 2 (S' := (202, [some (.inr (.inr (some (10, 0)))), some (.inl a1), some (.inl q16), some (.inl r18)], [.inl 26], am_mk m)) rfl ?_
                  cases h
                  exact am_Go.fg (by exact ⟨rfl, ⟨rfl, ⟨rfl, ⟨rfl, trivial⟩⟩⟩⟩) key
              · rw [if_neg hc27] at h
                refine am_Go.c1 htb (S' := (181, [some (.inr (.inr (some (10, 0)))), some (.inl a1), some (.inl q16), some (.inl r18)], [], am_mk m)) (if_neg hc27) ?_
                refine am_Go.n htb 2 (S' := (202, [some (.inr (.inr (some (10, 0)))), some (.inl a1), some (.inl q16), some (.inl r18)], [.inl 25], am_mk m)) rfl ?_
                cases h
                exact am_Go.fg (by exact ⟨rfl, ⟨rfl, ⟨rfl, ⟨rfl, trivial⟩⟩⟩⟩) key
          · rw [if_neg hc24] at h
            refine am_Go.c1 htb (S' := (170, [some (.inr (.inr (some (10, 0)))), some (.inl a1), some (.inl q16), some (.inl r18)], [], am_mk m)) (if_neg hc24) ?_
            refine am_Go.n htb 1 (S' := (171, [some (.inr (.inr (some (10, 0)))), some (.inl a1), some (.inl q16), some (.inl r18)], [.inl 2], am_mk m)) rfl ?_
            cases h
            exact am_Go.r htb rfl
        · rw [if_neg hc21] at h
          refine am_Go.c1 htb (S' := (157, [some (.inr (.inr (some (10, 0)))), some (.inl a1), some (.inl q16), some (.inl r18)], [], am_mk m)) (if_neg hc21) ?_
          refine am_Go.n htb 1 (S' := (158, [some (.inr (.inr (some (10, 0)))), some (.inl a1), some (.inl q16), some (.inl r18)], [.inl a1], am_mk m)) rfl ?_
          by_cases hc46 : a1 ≠ 0
          · rw [if_pos hc46] at h
            refine am_Go.c1 htb (S' := (163, [some (.inr (.inr (some (10, 0)))), some (.inl a1), some (.inl q16), some (.inl r18)], [], am_mk m)) (if_pos hc46) ?_
            refine am_Go.n htb 1 (S' := (164, [some (.inr (.inr (some (10, 0)))), some (.inl a1), some (.inl q16), some (.inl r18)], [.inr (.inr (some (10, 0)))], am_mk m)) rfl ?_
            obtain ⟨r47, h48, h⟩ := am_bd h
            refine am_Go.cl htb rfl (ex_X10_isCompared d (by omega)  m r47 h48) ?_
            show am_Go d 223 (167, [some (.inr (.inr (some (10, 0)))), some (.inl a1), some (.inl q16), some (.inl r18)], [.inl r47], am_mk m) _ _ _ _
            by_cases hc49 : r47 = 0
            · rw [if_pos hc49] at h
              refine am_Go.c1 htb (S' := (172, [some (.inr (.inr (some (10, 0)))), some (.inl a1), some (.inl q16), some (.inl r18)], [], am_mk m)) (if_pos hc49) ?_
              refine am_Go.n htb 2 (S' := (175, [some (.inr (.inr (some (10, 0)))), some (.inl a1), some (.inl q16), some (.inl r18)], [.inl 60, .inr (.inr (some (10, 0)))], am_mk m)) rfl ?_
              obtain ⟨r50, h51, h⟩ := am_bd h
              refine am_Go.cl htb rfl (ex_X10_isSign d (by omega) 60 m r50 h51) ?_
              show am_Go d 223 (178, [some (.inr (.inr (some (10, 0)))), some (.inl a1), some (.inl q16), some (.inl r18)], [.inl r50], am_mk m) _ _ _ _
              obtain ⟨q56, h70, h⟩ := am_bd h
              refine am_Go.cut (S := (202, [some (.inr (.inr (some (10, 0)))), some (.inl a1), some (.inl q16), some (.inl r18)], [.inl q56], am_mk m)) ?_ (fun key => ?_)
              · refine am_Go.n htb 4 (S' := (207, [some (.inr (.inr (some (10, 0)))), some (.inl a1), some (.inl q56), some (.inl r18)], [.inl 27, .inl q56, .inr (.inr (some (10, 0)))], am_mk m)) rfl ?_
                obtain ⟨q61, h69, h⟩ := am_bd h
                refine am_Go.cut (S := (224, [some (.inr (.inr (some (10, 0)))), some (.inl a1), some (.inl q56), some (.inl r18)], [.inl q61, .inr (.inr (some (10, 0)))], am_mk m)) ?_ (fun key => ?_)
                · obtain ⟨r62, h63, h⟩ := am_bd h
                  refine am_Go.cl htb rfl (ex_X10_must d (by omega) q61 m r62 h63) ?_
                  show am_Go d 223 (227, [some (.inr (.inr (some (10, 0)))), some (.inl a1), some (.inl q56), some (.inl r18)], [], am_mk r62) _ _ _ _
                  refine am_Go.n htb 2 (S' := (231, [some (.inr (.inr (some (10, 0)))), some (.inl a1), some (.inl q56), some (.inl r18)], [.inl (r62.1 10 0 19)], am_mk r62)) rfl ?_
                  by_cases hc64 : (r62.1 10 0 19) ≠ 0
                  · rw [if_pos hc64] at h
                    refine am_Go.c1 htb (S' := (245, [some (.inr (.inr (some (10, 0)))), some (.inl a1), some (.inl q56), some (.inl r18)], [], am_mk r62)) (if_pos hc64) ?_
                    refine am_Go.n htb 1 (S' := (246, [some (.inr (.inr (some (10, 0)))), some (.inl a1), some (.inl q56), some (.inl r18)], [.inl 1], am_mk r62)) rfl ?_
                    cases h
                    exact am_Go.r htb rfl
                  · rw [if_neg hc64] at h
                    refine am_Go.c1 htb (S' := (234, [some (.inr (.inr (some (10, 0)))), some (.inl a1), some (.inl q56), some (.inl r18)], [], am_mk r62)) (if_neg hc64) ?_
                    refine am_Go.n htb 2 (S' := (236, [some (.inr (.inr (some (10, 0)))), some (.inl a1), some (.inl q56), some (.inl r18)], [.inl 5, .inr (.inr (some (10, 0)))], am_mk r62)) rfl ?_
                    obtain ⟨r65, h66, h⟩ := am_bd h
                    refine am_Go.cl htb rfl (ex_X10_settle d (by omega) 5 r62 r65 h66) ?_
                    show am_Go d 223 (239, [some (.inr (.inr (some (10, 0)))), some (.inl a1), some (.inl q56), some (.inl r18)], [], am_mk r65) _ _ _ _
                    refine am_Go.n htb 3 (S' := (242, [some (.inr (.inr (some (10, 0)))), some (.inl a1), some (.inl q56), some (.inl r18)], [.inl 0, .inl q56, .inr (.inr (some (10, 0)))], am_mk r65)) rfl ?_
                    obtain ⟨r67, h68, h⟩ := am_bd h
                    refine am_Go.cl htb rfl (ex_X10_push d (by omega) q56 0 r65 r67 h68) ?_
                    show am_Go d 223 (245, [some (.inr (.inr (some (10, 0)))), some (.inl a1), some (.inl q56), some (.inl r18)], [], am_mk r67) _ _ _ _
                    refine am_Go.n htb 1 (S' := (246, [some (.inr (.inr (some (10, 0)))), some (.inl a1), some (.inl q56), some (.inl r18)], [.inl 1], am_mk r67)) rfl ?_
                    cases h
                    exact am_Go.r htb rfl
                · have h := h69
                  by_cases hc57 : q56 ≠ (27 : Int32)
                  · rw [if_pos hc57] at h
                    refine am_Go.c1 htb (S' := (219, [some (.inr (.inr (some (10, 0)))), some (.inl a1), some (.inl q56), some (.inl r18)], [.inr (.inr (some (10, 0)))], am_mk m)) (if_pos hc57) ?_
                    refine am_Go.n htb 2 (S' := (224, [some (.inr (.inr (some (10, 0)))), some (.inl a1), some (.inl q56), some (.inl r18)], [.inl 1, .inr (.inr (some (10, 0)))], am_mk m)) rfl ?_
                    cases h
                    exact am_Go.fg (by exact ⟨rfl, ⟨rfl, ⟨rfl, ⟨rfl, trivial⟩⟩⟩⟩) key
                  · rw [if_neg hc57] at h
                    refine am_Go.c1 htb (S' := (210, [some (.inr (.inr (some (10, 0)))), some (.inl a1), some (.inl q56), some (.inl r18)], [.inr (.inr (some (10, 0)))], am_mk m)) (if_neg hc57) ?_
                    refine am_Go.n htb 2 (S' := (213, [some (.inr (.inr (some (10, 0)))), some (.inl a1), some (.inl q56), some (.inl r18)], [.inl 61, .inr (.inr (some (10, 0))), .inr (.inr (some (10, 0)))], am_mk m)) rfl ?_
                    obtain ⟨r58, h59, h⟩ := am_bd h
                    refine am_Go.cl htb rfl (ex_X10_isSign d (by omega) 61 m r58 h59) ?_
                    show am_Go d 223 (216, [some (.inr (.inr (some (10, 0)))), some (.inl a1), some (.inl q56), some (.inl r18)], [.inl r58, .inr (.inr (some (10, 0)))], am_mk m) _ _ _ _
                    by_cases hc60 : r58 = 0
                    · rw [if_pos hc60] at h
                      refine am_Go.c1 htb (S' := (223, [some (.inr (.inr (some (10, 0)))), some (.inl a1), some (.inl q56), some (.inl r18)], [.inr (.inr (some (10, 0)))], am_mk m)) (if_pos hc60) ?_
                      refine am_Go.n htb 1 (S' := (224, [some (.inr (.inr (some (10, 0)))), some (.inl a1), some (.inl q56), some (.inl r18)], [.inl 0, .inr (.inr (some (10, 0)))], am_mk m)) rfl ?_
                      cases h
                      exact am_Go.fg (by exact ⟨rfl, ⟨rfl, ⟨rfl, ⟨rfl, trivial⟩⟩⟩⟩) key
                    · rw [if_neg hc60] at h
                      refine am_Go.c1 htb (S' := (219, [some (.inr (.inr (some (10, 0)))), some (.inl a1), some (.inl q56), some (.inl r18)], [.inr (.inr (some (10, 0)))], am_mk m)) (if_neg hc60) ?_
                      refine am_Go.n htb 2 (S' := (224, [some (.inr (.inr (some (10, 0)))), some (.inl a1), some (.inl q56), some (.inl r18)], [.inl 1, .inr (.inr (some (10, 0)))], am_mk m)) rfl ?_
                      cases h
                      exact am_Go.fg (by exact ⟨rfl, ⟨rfl, ⟨rfl, ⟨rfl, trivial⟩⟩⟩⟩) key
              · have h := h70
                by_cases hc52 : r50 = 0
                · rw [if_pos hc52] at h
                  refine am_Go.c1 htb (S' := (186, [some (.inr (.inr (some (10, 0)))), some (.inl a1), some (.inl q16), some (.inl r18)], [], am_mk m)) (if_pos hc52) ?_
                  refine am_Go.n htb 2 (S' := (189, [some (.inr (.inr (some (10, 0)))), some (.inl a1), some (.inl q16), some (.inl r18)], [.inl 62, .inr (.inr (some (10, 0)))], am_mk m)) rfl ?_
                  obtain ⟨r53, h54, h⟩ := am_bd h
                  refine am_Go.cl htb rfl (ex_X10_isSign d (by omega) 62 m r53 h54) ?_
                  show am_Go d 223 (192, [some (.inr (.inr (some (10, 0)))), some (.inl a1), some (.inl q16), some (.inl r18)], [.inl r53], am_mk m) _ _ _ _
                  by_cases hc55 : r53 = 0
                  · rw [if_pos hc55] at h
                    refine am_Go.c1 htb (S' := (200, [some (.inr (.inr (some (10, 0)))), some (.inl a1), some (.inl q16), some (.inl r18)], [], am_mk m)) (if_pos hc55) ?_
                    refine am_Go.n htb 1 (S' := (202, [some (.inr (.inr (some (10, 0)))), some (.inl a1), some (.inl q16), some (.inl r18)], [.inl 27], am_mk m)) rfl ?_
                    cases h
                    exact am_Go.fg (by exact ⟨rfl, ⟨rfl, ⟨rfl, ⟨rfl, trivial⟩⟩⟩⟩) key
                  · rw [if_neg hc55] at h
                    refine am_Go.c1 htb (S' := (195, [some (.inr (.inr (some (10, 0)))), some (.inl a1), some (.inl q16), some (.inl r18)], [], am_mk m)) (if_neg hc55) ?_
                    refine am_Go.n htb 2 (S' := (202, [some (.inr (.inr (some (10, 0)))), some (.inl a1), some (.inl q16), some (.inl r18)], [.inl 26], am_mk m)) rfl ?_
                    cases h
                    exact am_Go.fg (by exact ⟨rfl, ⟨rfl, ⟨rfl, ⟨rfl, trivial⟩⟩⟩⟩) key
                · rw [if_neg hc52] at h
                  refine am_Go.c1 htb (S' := (181, [some (.inr (.inr (some (10, 0)))), some (.inl a1), some (.inl q16), some (.inl r18)], [], am_mk m)) (if_neg hc52) ?_
                  refine am_Go.n htb 2 (S' := (202, [some (.inr (.inr (some (10, 0)))), some (.inl a1), some (.inl q16), some (.inl r18)], [.inl 25], am_mk m)) rfl ?_
                  cases h
                  exact am_Go.fg (by exact ⟨rfl, ⟨rfl, ⟨rfl, ⟨rfl, trivial⟩⟩⟩⟩) key
            · rw [if_neg hc49] at h
              refine am_Go.c1 htb (S' := (170, [some (.inr (.inr (some (10, 0)))), some (.inl a1), some (.inl q16), some (.inl r18)], [], am_mk m)) (if_neg hc49) ?_
              refine am_Go.n htb 1 (S' := (171, [some (.inr (.inr (some (10, 0)))), some (.inl a1), some (.inl q16), some (.inl r18)], [.inl 2], am_mk m)) rfl ?_
              cases h
              exact am_Go.r htb rfl
          · rw [if_neg hc46] at h
            refine am_Go.c1 htb (S' := (161, [some (.inr (.inr (some (10, 0)))), some (.inl a1), some (.inl q16), some (.inl r18)], [], am_mk m)) (if_neg hc46) ?_
            refine am_Go.n htb 1 (S' := (162, [some (.inr (.inr (some (10, 0)))), some (.inl a1), some (.inl q16), some (.inl r18)], [.inl 4], am_mk m)) rfl ?_
            cases h
            exact am_Go.r htb rfl
      · rw [if_neg hc20] at h
        refine am_Go.c1 htb (S' := (108, [some (.inr (.inr (some (10, 0)))), some (.inl a1), some (.inl q16), some (.inl r18)], [], am_mk m)) (if_neg hc20) ?_
        refine am_Go.n htb 3 (S' := (112, [some (.inr (.inr (some (10, 0)))), some (.inl a1), some (.inl q16), some (.inl r18)], [.inl 93, .inr (.inr (some (10, 0))), .inr (.inr (some (10, 0)))], am_mk m)) rfl ?_
        obtain ⟨r71, h72, h⟩ := am_bd h
        refine am_Go.cl htb rfl (ex_X10_isSign d (by omega) 93 m r71 h72) ?_
        show am_Go d 223 (115, [some (.inr (.inr (some (10, 0)))), some (.inl a1), some (.inl q16), some (.inl r18)], [.inl r71, .inr (.inr (some (10, 0)))], am_mk m) _ _ _ _
        obtain ⟨r73, h74, h⟩ := am_bd h
        refine am_Go.cl htb rfl (ex_X10_must d (by omega) r71 m r73 h74) ?_
        show am_Go d 223 (118, [some (.inr (.inr (some (10, 0)))), some (.inl a1), some (.inl q16), some (.inl r18)], [], am_mk r73) _ _ _ _
        refine am_Go.n htb 2 (S' := (122, [some (.inr (.inr (some (10, 0)))), some (.inl a1), some (.inl q16), some (.inl r18)], [.inl (r73.1 10 0 19)], am_mk r73)) rfl ?_
        by_cases hc75 : (r73.1 10 0 19) ≠ 0
        · rw [if_pos hc75] at h
          refine am_Go.c1 htb (S' := (150, [some (.inr (.inr (some (10, 0)))), some (.inl a1), some (.inl q16), some (.inl r18)], [], am_mk r73)) (if_pos hc75) ?_
          refine am_Go.n htb 1 (S' := (151, [some (.inr (.inr (some (10, 0)))), some (.inl a1), some (.inl q16), some (.inl r18)], [.inl 3], am_mk r73)) rfl ?_
          cases h
          exact am_Go.r htb rfl
        · rw [if_neg hc75] at h
          refine am_Go.c1 htb (S' := (125, [some (.inr (.inr (some (10, 0)))), some (.inl a1), some (.inl q16), some (.inl r18)], [], am_mk r73)) (if_neg hc75) ?_
          refine am_Go.n htb 2 (S' := (127, [some (.inr (.inr (some (10, 0)))), some (.inl a1), some (.inl q16), some (.inl r18)], [.inl 5, .inr (.inr (some (10, 0)))], am_mk r73)) rfl ?_
          obtain ⟨r76, h77, h⟩ := am_bd h
          refine am_Go.cl htb rfl (ex_X10_settle d (by omega) 5 r73 r76 h77) ?_
          show am_Go d 223 (130, [some (.inr (.inr (some (10, 0)))), some (.inl a1), some (.inl q16), some (.inl r18)], [], am_mk r76) _ _ _ _
          refine am_Go.n htb 13 (S' := (151, [some (.inr (.inr (some (10, 0)))), some (.inl a1), some (.inl q16), some (.inl r18)], [.inl 3], am_mk (am_si (am_si r76 10 0 29 ((r76.1 10 0 29) - (1 : Int32))) 10 0 30 (((am_si r76 10 0 29 ((r76.1 10 0 29) - (1 : Int32))).1 10 0 30) - (1 : Int32))))) rfl ?_
          cases h
          exact am_Go.r htb rfl
    · rw [if_neg hc17] at h
      refine am_Go.c1 htb (S' := (77, [some (.inr (.inr (some (10, 0)))), some (.inl a1), some (.inl q16), none], [], am_mk m)) (if_neg hc17) ?_
      refine am_Go.n htb 2 (S' := (79, [some (.inr (.inr (some (10, 0)))), some (.inl a1), some (.inl q16), none], [.inl q16, .inr (.inr (some (10, 0)))], am_mk m)) rfl ?_
      obtain ⟨r78, h79, h⟩ := am_bd h
      refine am_Go.cl htb rfl (ex_X10_binds d (by omega) q16 m r78 h79) ?_
      show am_Go d 223 (82, [some (.inr (.inr (some (10, 0)))), some (.inl a1), some (.inl q16), none], [.inl r78, .inr (.inr (some (10, 0)))], am_mk m) _ _ _ _
      obtain ⟨r80, h81, h⟩ := am_bd h
      refine am_Go.cl htb rfl (ex_X10_settle d (by omega) r78 m r80 h81) ?_
      show am_Go d 223 (85, [some (.inr (.inr (some (10, 0)))), some (.inl a1), some (.inl q16), none], [], am_mk r80) _ _ _ _
      refine am_Go.n htb 3 (S' := (88, [some (.inr (.inr (some (10, 0)))), some (.inl a1), some (.inl q16), none], [.inl 0, .inl q16, .inr (.inr (some (10, 0)))], am_mk r80)) rfl ?_
      obtain ⟨r82, h83, h⟩ := am_bd h
      refine am_Go.cl htb rfl (ex_X10_push d (by omega) q16 0 r80 r82 h83) ?_
      show am_Go d 223 (91, [some (.inr (.inr (some (10, 0)))), some (.inl a1), some (.inl q16), none], [], am_mk r82) _ _ _ _
      refine am_Go.n htb 1 (S' := (92, [some (.inr (.inr (some (10, 0)))), some (.inl a1), some (.inl q16), none], [.inr (.inr (some (10, 0)))], am_mk r82)) rfl ?_
      obtain ⟨r84, h85, h⟩ := am_bd h
      refine am_Go.cl htb rfl (ex_X10_next d (by omega)  r82 r84 h85) ?_
      show am_Go d 223 (95, [some (.inr (.inr (some (10, 0)))), some (.inl a1), some (.inl q16), none], [], am_mk r84) _ _ _ _
      refine am_Go.n htb 1 (S' := (96, [some (.inr (.inr (some (10, 0)))), some (.inl a1), some (.inl q16), none], [.inl 1], am_mk r84)) rfl ?_
      cases h
      exact am_Go.r htb rfl
  · have h := h86
    by_cases hc3 : r1 = 0
    · rw [if_pos hc3] at h
      refine am_Go.c1 htb (S' := (14, [some (.inr (.inr (some (10, 0)))), some (.inl a1), none, none], [], am_mk m)) (if_pos hc3) ?_
      refine am_Go.n htb 2 (S' := (17, [some (.inr (.inr (some (10, 0)))), some (.inl a1), none, none], [.inl 45, .inr (.inr (some (10, 0)))], am_mk m)) rfl ?_
      obtain ⟨r4, h5, h⟩ := am_bd h
      refine am_Go.cl htb rfl (ex_X10_isSign d (by omega) 45 m r4 h5) ?_
      show am_Go d 223 (20, [some (.inr (.inr (some (10, 0)))), some (.inl a1), none, none], [.inl r4], am_mk m) _ _ _ _
      by_cases hc6 : r4 = 0
      · rw [if_pos hc6] at h
        refine am_Go.c1 htb (S' := (28, [some (.inr (.inr (some (10, 0)))), some (.inl a1), none, none], [], am_mk m)) (if_pos hc6) ?_
        refine am_Go.n htb 2 (S' := (31, [some (.inr (.inr (some (10, 0)))), some (.inl a1), none, none], [.inl 42, .inr (.inr (some (10, 0)))], am_mk m)) rfl ?_
        obtain ⟨r7, h8, h⟩ := am_bd h
        refine am_Go.cl htb rfl (ex_X10_isSign d (by omega) 42 m r7 h8) ?_
        show am_Go d 223 (34, [some (.inr (.inr (some (10, 0)))), some (.inl a1), none, none], [.inl r7], am_mk m) _ _ _ _
        by_cases hc9 : r7 = 0
        · rw [if_pos hc9] at h
          refine am_Go.c1 htb (S' := (42, [some (.inr (.inr (some (10, 0)))), some (.inl a1), none, none], [], am_mk m)) (if_pos hc9) ?_
          refine am_Go.n htb 2 (S' := (45, [some (.inr (.inr (some (10, 0)))), some (.inl a1), none, none], [.inl 47, .inr (.inr (some (10, 0)))], am_mk m)) rfl ?_
          obtain ⟨r10, h11, h⟩ := am_bd h
          refine am_Go.cl htb rfl (ex_X10_isSign d (by omega) 47 m r10 h11) ?_
          show am_Go d 223 (48, [some (.inr (.inr (some (10, 0)))), some (.inl a1), none, none], [.inl r10], am_mk m) _ _ _ _
          by_cases hc12 : r10 = 0
          · rw [if_pos hc12] at h
            refine am_Go.c1 htb (S' := (56, [some (.inr (.inr (some (10, 0)))), some (.inl a1), none, none], [], am_mk m)) (if_pos hc12) ?_
            refine am_Go.n htb 2 (S' := (59, [some (.inr (.inr (some (10, 0)))), some (.inl a1), none, none], [.inl 37, .inr (.inr (some (10, 0)))], am_mk m)) rfl ?_
            obtain ⟨r13, h14, h⟩ := am_bd h
            refine am_Go.cl htb rfl (ex_X10_isSign d (by omega) 37 m r13 h14) ?_
            show am_Go d 223 (62, [some (.inr (.inr (some (10, 0)))), some (.inl a1), none, none], [.inl r13], am_mk m) _ _ _ _
            by_cases hc15 : r13 = 0
            · rw [if_pos hc15] at h
              refine am_Go.c1 htb (S' := (70, [some (.inr (.inr (some (10, 0)))), some (.inl a1), none, none], [], am_mk m)) (if_pos hc15) ?_
              refine am_Go.n htb 1 (S' := (71, [some (.inr (.inr (some (10, 0)))), some (.inl a1), none, none], [.inl (-1)], am_mk m)) rfl ?_
              cases h
              exact am_Go.fg (by exact ⟨rfl, ⟨rfl, trivial⟩⟩) key
            · rw [if_neg hc15] at h
              refine am_Go.c1 htb (S' := (65, [some (.inr (.inr (some (10, 0)))), some (.inl a1), none, none], [], am_mk m)) (if_neg hc15) ?_
              refine am_Go.n htb 2 (S' := (71, [some (.inr (.inr (some (10, 0)))), some (.inl a1), none, none], [.inl 24], am_mk m)) rfl ?_
              cases h
              exact am_Go.fg (by exact ⟨rfl, ⟨rfl, trivial⟩⟩) key
          · rw [if_neg hc12] at h
            refine am_Go.c1 htb (S' := (51, [some (.inr (.inr (some (10, 0)))), some (.inl a1), none, none], [], am_mk m)) (if_neg hc12) ?_
            refine am_Go.n htb 2 (S' := (71, [some (.inr (.inr (some (10, 0)))), some (.inl a1), none, none], [.inl 23], am_mk m)) rfl ?_
            cases h
            exact am_Go.fg (by exact ⟨rfl, ⟨rfl, trivial⟩⟩) key
        · rw [if_neg hc9] at h
          refine am_Go.c1 htb (S' := (37, [some (.inr (.inr (some (10, 0)))), some (.inl a1), none, none], [], am_mk m)) (if_neg hc9) ?_
          refine am_Go.n htb 2 (S' := (71, [some (.inr (.inr (some (10, 0)))), some (.inl a1), none, none], [.inl 22], am_mk m)) rfl ?_
          cases h
          exact am_Go.fg (by exact ⟨rfl, ⟨rfl, trivial⟩⟩) key
      · rw [if_neg hc6] at h
        refine am_Go.c1 htb (S' := (23, [some (.inr (.inr (some (10, 0)))), some (.inl a1), none, none], [], am_mk m)) (if_neg hc6) ?_
        refine am_Go.n htb 2 (S' := (71, [some (.inr (.inr (some (10, 0)))), some (.inl a1), none, none], [.inl 21], am_mk m)) rfl ?_
        cases h
        exact am_Go.fg (by exact ⟨rfl, ⟨rfl, trivial⟩⟩) key
    · rw [if_neg hc3] at h
      refine am_Go.c1 htb (S' := (9, [some (.inr (.inr (some (10, 0)))), some (.inl a1), none, none], [], am_mk m)) (if_neg hc3) ?_
      refine am_Go.n htb 2 (S' := (71, [some (.inr (.inr (some (10, 0)))), some (.inl a1), none, none], [.inl 20], am_mk m)) rfl ?_
      cases h
      exact am_Go.fg (by exact ⟨rfl, ⟨rfl, trivial⟩⟩) key
-- X10_behindTest
def fn_X10_behindTest  (m : am_m) : Option (Int32 × am_m) :=
  (fn_X10_isWord 1476 m).bind fun r1 => (if r1 ≠ 0 then (fn_X10_settle (if r1 = 0 then (1 : Int32) else (2 : Int32)) m).bind fun r5 => (fn_X10_push (if r1 = 0 then (30 : Int32) else (29 : Int32)) (r5.1 10 0 23) r5).bind fun r8 => (fn_X10_emit (if r1 = 0 then (30 : Int32) else (29 : Int32)) 0 r8).bind fun r11 => (fn_X10_next  r11).bind fun r13 => some (0, r13) else (fn_X10_isWord 498 m).bind fun r15 => (if r15 = 0 then (fn_X10_inner  m).bind fun r18 => (if r18 ≠ (-1 : Int32) then (fn_X10_isSign 41 m).bind fun r21 => (fn_X10_must r21 m).bind fun r23 => (if (r23.1 10 0 19) ≠ 0 then some (2, r23) else (fn_X10_settle 1 r23).bind fun r26 => some (2, am_si (am_si r26 10 0 29 ((r26.1 10 0 29) - (1 : Int32))) 10 0 30 (((am_si r26 10 0 29 ((r26.1 10 0 29) - (1 : Int32))).1 10 0 30) - (1 : Int32)))) else some (4, m)) else (fn_X10_settle (if r1 = 0 then (1 : Int32) else (2 : Int32)) m).bind fun r29 => (fn_X10_push (if r1 = 0 then (30 : Int32) else (29 : Int32)) (r29.1 10 0 23) r29).bind fun r32 => (fn_X10_emit (if r1 = 0 then (30 : Int32) else (29 : Int32)) 0 r32).bind fun r35 => (fn_X10_next  r35).bind fun r37 => some (0, r37)))
set_option maxRecDepth 100000 in
theorem ex_X10_behindTest (d : Nat) (hd : 4 ≤ d)  (m : am_m) (t : Int32 × am_m) (h : fn_X10_behindTest  m = some t) : am_Ex am_cod d 224 [.inr (.inr (some (10, 0)))] (am_mk m) (some (.inl t.1)) (am_mk t.2) 0 0 := by
  obtain ⟨d, rfl⟩ : ∃ e, d = e + 1 := ⟨d - 1, by omega⟩
  have htb : am_tab 224 = at_224 := rfl
  refine ⟨Nat.le_of_ble_eq_true rfl, ?_⟩
  unfold fn_X10_behindTest at h
  show am_Go d 224 (0, [some (.inr (.inr (some (10, 0)))), none], [], am_mk m) _ _ 0 0
  refine am_Go.n htb 2 (S' := (4, [some (.inr (.inr (some (10, 0)))), none], [.inr (.inl 1476), .inr (.inr (some (10, 0)))], am_mk m)) rfl ?_
  obtain ⟨r1, h2, h⟩ := am_bd h
  refine am_Go.cl htb rfl (ex_X10_isWord d (by omega) 1476 m r1 h2) ?_
  show am_Go d 224 (7, [some (.inr (.inr (some (10, 0)))), none], [.inl r1], am_mk m) _ _ _ _
  refine am_Go.n htb 2 (S' := (9, [some (.inr (.inr (some (10, 0)))), some (.inl r1)], [.inl r1], am_mk m)) rfl ?_
  by_cases hc3 : r1 ≠ 0
  · rw [if_pos hc3] at h
    refine am_Go.c1 htb (S' := (22, [some (.inr (.inr (some (10, 0)))), some (.inl r1)], [], am_mk m)) (if_pos hc3) ?_
    refine am_Go.n htb 2 (S' := (24, [some (.inr (.inr (some (10, 0)))), some (.inl r1)], [.inl r1, .inr (.inr (some (10, 0)))], am_mk m)) rfl ?_
    refine am_Go.cut (S := (32, [some (.inr (.inr (some (10, 0)))), some (.inl r1)], [.inl (if r1 = 0 then (1 : Int32) else (2 : Int32)), .inr (.inr (some (10, 0)))], am_mk m)) ?_ (fun key => ?_)
    · obtain ⟨r5, h6, h⟩ := am_bd h
      refine am_Go.cl htb rfl (ex_X10_settle d (by omega) (if r1 = 0 then (1 : Int32) else (2 : Int32)) m r5 h6) ?_
      show am_Go d 224 (35, [some (.inr (.inr (some (10, 0)))), some (.inl r1)], [], am_mk r5) _ _ _ _
      refine am_Go.n htb 2 (S' := (37, [some (.inr (.inr (some (10, 0)))), some (.inl r1)], [.inl r1, .inr (.inr (some (10, 0)))], am_mk r5)) rfl ?_
      refine am_Go.cut (S := (47, [some (.inr (.inr (some (10, 0)))), some (.inl r1)], [.inl (if r1 = 0 then (30 : Int32) else (29 : Int32)), .inr (.inr (some (10, 0)))], am_mk r5)) ?_ (fun key => ?_)
      · refine am_Go.n htb 2 (S' := (51, [some (.inr (.inr (some (10, 0)))), some (.inl r1)], [.inl (r5.1 10 0 23), .inl (if r1 = 0 then (30 : Int32) else (29 : Int32)), .inr (.inr (some (10, 0)))], am_mk r5)) rfl ?_
        obtain ⟨r8, h9, h⟩ := am_bd h
        refine am_Go.cl htb rfl (ex_X10_push d (by omega) (if r1 = 0 then (30 : Int32) else (29 : Int32)) (r5.1 10 0 23) r5 r8 h9) ?_
        show am_Go d 224 (54, [some (.inr (.inr (some (10, 0)))), some (.inl r1)], [], am_mk r8) _ _ _ _
        refine am_Go.n htb 2 (S' := (56, [some (.inr (.inr (some (10, 0)))), some (.inl r1)], [.inl r1, .inr (.inr (some (10, 0)))], am_mk r8)) rfl ?_
        refine am_Go.cut (S := (66, [some (.inr (.inr (some (10, 0)))), some (.inl r1)], [.inl (if r1 = 0 then (30 : Int32) else (29 : Int32)), .inr (.inr (some (10, 0)))], am_mk r8)) ?_ (fun key => ?_)
        · refine am_Go.n htb 1 (S' := (67, [some (.inr (.inr (some (10, 0)))), some (.inl r1)], [.inl 0, .inl (if r1 = 0 then (30 : Int32) else (29 : Int32)), .inr (.inr (some (10, 0)))], am_mk r8)) rfl ?_
          obtain ⟨r11, h12, h⟩ := am_bd h
          refine am_Go.cl htb rfl (ex_X10_emit d (by omega) (if r1 = 0 then (30 : Int32) else (29 : Int32)) 0 r8 r11 h12) ?_
          show am_Go d 224 (70, [some (.inr (.inr (some (10, 0)))), some (.inl r1)], [], am_mk r11) _ _ _ _
          refine am_Go.n htb 1 (S' := (71, [some (.inr (.inr (some (10, 0)))), some (.inl r1)], [.inr (.inr (some (10, 0)))], am_mk r11)) rfl ?_
          obtain ⟨r13, h14, h⟩ := am_bd h
          refine am_Go.cl htb rfl (ex_X10_next d (by omega)  r11 r13 h14) ?_
          show am_Go d 224 (74, [some (.inr (.inr (some (10, 0)))), some (.inl r1)], [], am_mk r13) _ _ _ _
          refine am_Go.n htb 1 (S' := (75, [some (.inr (.inr (some (10, 0)))), some (.inl r1)], [.inl 0], am_mk r13)) rfl ?_
          cases h
          exact am_Go.r htb rfl
        · by_cases hc10 : r1 = 0
          · refine am_Go.c1 htb (S' := (64, [some (.inr (.inr (some (10, 0)))), some (.inl r1)], [.inr (.inr (some (10, 0)))], am_mk r8)) (if_pos hc10) ?_
            refine am_Go.n htb 1 (S' := (66, [some (.inr (.inr (some (10, 0)))), some (.inl r1)], [.inl 30, .inr (.inr (some (10, 0)))], am_mk r8)) rfl ?_
            simp only [if_pos hc10] at key
            exact am_Go.fg (by exact ⟨rfl, ⟨rfl, trivial⟩⟩) key
          · refine am_Go.c1 htb (S' := (59, [some (.inr (.inr (some (10, 0)))), some (.inl r1)], [.inr (.inr (some (10, 0)))], am_mk r8)) (if_neg hc10) ?_
            refine am_Go.n htb 2 (S' := (66, [some (.inr (.inr (some (10, 0)))), some (.inl r1)], [.inl 29, .inr (.inr (some (10, 0)))], am_mk r8)) rfl ?_
            simp only [if_neg hc10] at key
            exact am_Go.fg (by exact ⟨rfl, ⟨rfl, trivial⟩⟩) key
      · by_cases hc7 : r1 = 0
        · refine am_Go.c1 htb (S' := (45, [some (.inr (.inr (some (10, 0)))), some (.inl r1)], [.inr (.inr (some (10, 0)))], am_mk r5)) (if_pos hc7) ?_
          refine am_Go.n htb 1 (S' := (47, [some (.inr (.inr (some (10, 0)))), some (.inl r1)], [.inl 30, .inr (.inr (some (10, 0)))], am_mk r5)) rfl ?_
          simp only [if_pos hc7] at key
          exact am_Go.fg (by exact ⟨rfl, ⟨rfl, trivial⟩⟩) key
        · refine am_Go.c1 htb (S' := (40, [some (.inr (.inr (some (10, 0)))), some (.inl r1)], [.inr (.inr (some (10, 0)))], am_mk r5)) (if_neg hc7) ?_
          refine am_Go.n htb 2 (S' := (47, [some (.inr (.inr (some (10, 0)))), some (.inl r1)], [.inl 29, .inr (.inr (some (10, 0)))], am_mk r5)) rfl ?_
          simp only [if_neg hc7] at key
          exact am_Go.fg (by exact ⟨rfl, ⟨rfl, trivial⟩⟩) key
    · by_cases hc4 : r1 = 0
      · refine am_Go.c1 htb (S' := (31, [some (.inr (.inr (some (10, 0)))), some (.inl r1)], [.inr (.inr (some (10, 0)))], am_mk m)) (if_pos hc4) ?_
        refine am_Go.n htb 1 (S' := (32, [some (.inr (.inr (some (10, 0)))), some (.inl r1)], [.inl 1, .inr (.inr (some (10, 0)))], am_mk m)) rfl ?_
        simp only [if_pos hc4] at key
        exact am_Go.fg (by exact ⟨rfl, ⟨rfl, trivial⟩⟩) key
      · refine am_Go.c1 htb (S' := (27, [some (.inr (.inr (some (10, 0)))), some (.inl r1)], [.inr (.inr (some (10, 0)))], am_mk m)) (if_neg hc4) ?_
        refine am_Go.n htb 2 (S' := (32, [some (.inr (.inr (some (10, 0)))), some (.inl r1)], [.inl 2, .inr (.inr (some (10, 0)))], am_mk m)) rfl ?_
        simp only [if_neg hc4] at key
        exact am_Go.fg (by exact ⟨rfl, ⟨rfl, trivial⟩⟩) key
  · rw [if_neg hc3] at h
    refine am_Go.c1 htb (S' := (12, [some (.inr (.inr (some (10, 0)))), some (.inl r1)], [], am_mk m)) (if_neg hc3) ?_
    refine am_Go.n htb 2 (S' := (16, [some (.inr (.inr (some (10, 0)))), some (.inl r1)], [.inr (.inl 498), .inr (.inr (some (10, 0)))], am_mk m)) rfl ?_
    obtain ⟨r15, h16, h⟩ := am_bd h
    refine am_Go.cl htb rfl (ex_X10_isWord d (by omega) 498 m r15 h16) ?_
    show am_Go d 224 (19, [some (.inr (.inr (some (10, 0)))), some (.inl r1)], [.inl r15], am_mk m) _ _ _ _
    by_cases hc17 : r15 = 0
    · rw [if_pos hc17] at h
      refine am_Go.c1 htb (S' := (76, [some (.inr (.inr (some (10, 0)))), some (.inl r1)], [], am_mk m)) (if_pos hc17) ?_
      refine am_Go.n htb 1 (S' := (77, [some (.inr (.inr (some (10, 0)))), some (.inl r1)], [.inr (.inr (some (10, 0)))], am_mk m)) rfl ?_
      obtain ⟨r18, h19, h⟩ := am_bd h
      refine am_Go.cl htb rfl (ex_X10_inner d (by omega)  m r18 h19) ?_
      show am_Go d 224 (80, [some (.inr (.inr (some (10, 0)))), some (.inl r1)], [.inl r18], am_mk m) _ _ _ _
      refine am_Go.n htb 1 (S' := (81, [some (.inr (.inr (some (10, 0)))), some (.inl r1)], [.inl (-1), .inl r18], am_mk m)) rfl ?_
      by_cases hc20 : r18 ≠ (-1 : Int32)
      · rw [if_pos hc20] at h
        refine am_Go.c1 htb (S' := (86, [some (.inr (.inr (some (10, 0)))), some (.inl r1)], [], am_mk m)) (if_pos hc20) ?_
        refine am_Go.n htb 3 (S' := (90, [some (.inr (.inr (some (10, 0)))), some (.inl r1)], [.inl 41, .inr (.inr (some (10, 0))), .inr (.inr (some (10, 0)))], am_mk m)) rfl ?_
        obtain ⟨r21, h22, h⟩ := am_bd h
        refine am_Go.cl htb rfl (ex_X10_isSign d (by omega) 41 m r21 h22) ?_
        show am_Go d 224 (93, [some (.inr (.inr (some (10, 0)))), some (.inl r1)], [.inl r21, .inr (.inr (some (10, 0)))], am_mk m) _ _ _ _
        obtain ⟨r23, h24, h⟩ := am_bd h
        refine am_Go.cl htb rfl (ex_X10_must d (by omega) r21 m r23 h24) ?_
        show am_Go d 224 (96, [some (.inr (.inr (some (10, 0)))), some (.inl r1)], [], am_mk r23) _ _ _ _
        refine am_Go.n htb 2 (S' := (100, [some (.inr (.inr (some (10, 0)))), some (.inl r1)], [.inl (r23.1 10 0 19)], am_mk r23)) rfl ?_
        by_cases hc25 : (r23.1 10 0 19) ≠ 0
        · rw [if_pos hc25] at h
          refine am_Go.c1 htb (S' := (128, [some (.inr (.inr (some (10, 0)))), some (.inl r1)], [], am_mk r23)) (if_pos hc25) ?_
          refine am_Go.n htb 1 (S' := (129, [some (.inr (.inr (some (10, 0)))), some (.inl r1)], [.inl 2], am_mk r23)) rfl ?_
          cases h
          exact am_Go.r htb rfl
        · rw [if_neg hc25] at h
          refine am_Go.c1 htb (S' := (103, [some (.inr (.inr (some (10, 0)))), some (.inl r1)], [], am_mk r23)) (if_neg hc25) ?_
          refine am_Go.n htb 2 (S' := (105, [some (.inr (.inr (some (10, 0)))), some (.inl r1)], [.inl 1, .inr (.inr (some (10, 0)))], am_mk r23)) rfl ?_
          obtain ⟨r26, h27, h⟩ := am_bd h
          refine am_Go.cl htb rfl (ex_X10_settle d (by omega) 1 r23 r26 h27) ?_
          show am_Go d 224 (108, [some (.inr (.inr (some (10, 0)))), some (.inl r1)], [], am_mk r26) _ _ _ _
          refine am_Go.n htb 13 (S' := (129, [some (.inr (.inr (some (10, 0)))), some (.inl r1)], [.inl 2], am_mk (am_si (am_si r26 10 0 29 ((r26.1 10 0 29) - (1 : Int32))) 10 0 30 (((am_si r26 10 0 29 ((r26.1 10 0 29) - (1 : Int32))).1 10 0 30) - (1 : Int32))))) rfl ?_
          cases h
          exact am_Go.r htb rfl
      · rw [if_neg hc20] at h
        refine am_Go.c1 htb (S' := (84, [some (.inr (.inr (some (10, 0)))), some (.inl r1)], [], am_mk m)) (if_neg hc20) ?_
        refine am_Go.n htb 1 (S' := (85, [some (.inr (.inr (some (10, 0)))), some (.inl r1)], [.inl 4], am_mk m)) rfl ?_
        cases h
        exact am_Go.r htb rfl
    · rw [if_neg hc17] at h
      refine am_Go.c1 htb (S' := (22, [some (.inr (.inr (some (10, 0)))), some (.inl r1)], [], am_mk m)) (if_neg hc17) ?_
      refine am_Go.n htb 2 (S' := (24, [some (.inr (.inr (some (10, 0)))), some (.inl r1)], [.inl r1, .inr (.inr (some (10, 0)))], am_mk m)) rfl ?_
      refine am_Go.cut (S := (32, [some (.inr (.inr (some (10, 0)))), some (.inl r1)], [.inl (if r1 = 0 then (1 : Int32) else (2 : Int32)), .inr (.inr (some (10, 0)))], am_mk m)) ?_ (fun key => ?_)
      · obtain ⟨r29, h30, h⟩ := am_bd h
        refine am_Go.cl htb rfl (ex_X10_settle d (by omega) (if r1 = 0 then (1 : Int32) else (2 : Int32)) m r29 h30) ?_
        show am_Go d 224 (35, [some (.inr (.inr (some (10, 0)))), some (.inl r1)], [], am_mk r29) _ _ _ _
        refine am_Go.n htb 2 (S' := (37, [some (.inr (.inr (some (10, 0)))), some (.inl r1)], [.inl r1, .inr (.inr (some (10, 0)))], am_mk r29)) rfl ?_
        refine am_Go.cut (S := (47, [some (.inr (.inr (some (10, 0)))), some (.inl r1)], [.inl (if r1 = 0 then (30 : Int32) else (29 : Int32)), .inr (.inr (some (10, 0)))], am_mk r29)) ?_ (fun key => ?_)
        · refine am_Go.n htb 2 (S' := (51, [some (.inr (.inr (some (10, 0)))), some (.inl r1)], [.inl (r29.1 10 0 23), .inl (if r1 = 0 then (30 : Int32) else (29 : Int32)), .inr (.inr (some (10, 0)))], am_mk r29)) rfl ?_
          obtain ⟨r32, h33, h⟩ := am_bd h
          refine am_Go.cl htb rfl (ex_X10_push d (by omega) (if r1 = 0 then (30 : Int32) else (29 : Int32)) (r29.1 10 0 23) r29 r32 h33) ?_
          show am_Go d 224 (54, [some (.inr (.inr (some (10, 0)))), some (.inl r1)], [], am_mk r32) _ _ _ _
          refine am_Go.n htb 2 (S' := (56, [some (.inr (.inr (some (10, 0)))), some (.inl r1)], [.inl r1, .inr (.inr (some (10, 0)))], am_mk r32)) rfl ?_
          refine am_Go.cut (S := (66, [some (.inr (.inr (some (10, 0)))), some (.inl r1)], [.inl (if r1 = 0 then (30 : Int32) else (29 : Int32)), .inr (.inr (some (10, 0)))], am_mk r32)) ?_ (fun key => ?_)
          · refine am_Go.n htb 1 (S' := (67, [some (.inr (.inr (some (10, 0)))), some (.inl r1)], [.inl 0, .inl (if r1 = 0 then (30 : Int32) else (29 : Int32)), .inr (.inr (some (10, 0)))], am_mk r32)) rfl ?_
            obtain ⟨r35, h36, h⟩ := am_bd h
            refine am_Go.cl htb rfl (ex_X10_emit d (by omega) (if r1 = 0 then (30 : Int32) else (29 : Int32)) 0 r32 r35 h36) ?_
            show am_Go d 224 (70, [some (.inr (.inr (some (10, 0)))), some (.inl r1)], [], am_mk r35) _ _ _ _
            refine am_Go.n htb 1 (S' := (71, [some (.inr (.inr (some (10, 0)))), some (.inl r1)], [.inr (.inr (some (10, 0)))], am_mk r35)) rfl ?_
            obtain ⟨r37, h38, h⟩ := am_bd h
            refine am_Go.cl htb rfl (ex_X10_next d (by omega)  r35 r37 h38) ?_
            show am_Go d 224 (74, [some (.inr (.inr (some (10, 0)))), some (.inl r1)], [], am_mk r37) _ _ _ _
            refine am_Go.n htb 1 (S' := (75, [some (.inr (.inr (some (10, 0)))), some (.inl r1)], [.inl 0], am_mk r37)) rfl ?_
            cases h
            exact am_Go.r htb rfl
          · by_cases hc34 : r1 = 0
            · refine am_Go.c1 htb (S' := (64, [some (.inr (.inr (some (10, 0)))), some (.inl r1)], [.inr (.inr (some (10, 0)))], am_mk r32)) (if_pos hc34) ?_
              refine am_Go.n htb 1 (S' := (66, [some (.inr (.inr (some (10, 0)))), some (.inl r1)], [.inl 30, .inr (.inr (some (10, 0)))], am_mk r32)) rfl ?_
              simp only [if_pos hc34] at key
              exact am_Go.fg (by exact ⟨rfl, ⟨rfl, trivial⟩⟩) key
            · refine am_Go.c1 htb (S' := (59, [some (.inr (.inr (some (10, 0)))), some (.inl r1)], [.inr (.inr (some (10, 0)))], am_mk r32)) (if_neg hc34) ?_
              refine am_Go.n htb 2 (S' := (66, [some (.inr (.inr (some (10, 0)))), some (.inl r1)], [.inl 29, .inr (.inr (some (10, 0)))], am_mk r32)) rfl ?_
              simp only [if_neg hc34] at key
              exact am_Go.fg (by exact ⟨rfl, ⟨rfl, trivial⟩⟩) key
        · by_cases hc31 : r1 = 0
          · refine am_Go.c1 htb (S' := (45, [some (.inr (.inr (some (10, 0)))), some (.inl r1)], [.inr (.inr (some (10, 0)))], am_mk r29)) (if_pos hc31) ?_
            refine am_Go.n htb 1 (S' := (47, [some (.inr (.inr (some (10, 0)))), some (.inl r1)], [.inl 30, .inr (.inr (some (10, 0)))], am_mk r29)) rfl ?_
            simp only [if_pos hc31] at key
            exact am_Go.fg (by exact ⟨rfl, ⟨rfl, trivial⟩⟩) key
          · refine am_Go.c1 htb (S' := (40, [some (.inr (.inr (some (10, 0)))), some (.inl r1)], [.inr (.inr (some (10, 0)))], am_mk r29)) (if_neg hc31) ?_
            refine am_Go.n htb 2 (S' := (47, [some (.inr (.inr (some (10, 0)))), some (.inl r1)], [.inl 29, .inr (.inr (some (10, 0)))], am_mk r29)) rfl ?_
            simp only [if_neg hc31] at key
            exact am_Go.fg (by exact ⟨rfl, ⟨rfl, trivial⟩⟩) key
      · by_cases hc28 : r1 = 0
        · refine am_Go.c1 htb (S' := (31, [some (.inr (.inr (some (10, 0)))), some (.inl r1)], [.inr (.inr (some (10, 0)))], am_mk m)) (if_pos hc28) ?_
          refine am_Go.n htb 1 (S' := (32, [some (.inr (.inr (some (10, 0)))), some (.inl r1)], [.inl 1, .inr (.inr (some (10, 0)))], am_mk m)) rfl ?_
          simp only [if_pos hc28] at key
          exact am_Go.fg (by exact ⟨rfl, ⟨rfl, trivial⟩⟩) key
        · refine am_Go.c1 htb (S' := (27, [some (.inr (.inr (some (10, 0)))), some (.inl r1)], [.inr (.inr (some (10, 0)))], am_mk m)) (if_neg hc28) ?_
          refine am_Go.n htb 2 (S' := (32, [some (.inr (.inr (some (10, 0)))), some (.inl r1)], [.inl 2, .inr (.inr (some (10, 0)))], am_mk m)) rfl ?_
          simp only [if_neg hc28] at key
          exact am_Go.fg (by exact ⟨rfl, ⟨rfl, trivial⟩⟩) key
-- X10_readExpression
def lp_X10_readExpression_20 : Nat → Int32 → Int32 → am_m → Option (am_m)
  | 0, _, _, _ => none
  | n + 1, x1, x2, m =>
  (if (m.1 10 0 19) ≠ 0 then some m else (if x2 = (4 : Int32) then some m else (if x2 ≠ 0 then (if x2 ≠ (1 : Int32) then (if x2 ≠ (3 : Int32) then (fn_X10_behindTest  m).bind fun r7 => some (r7.1, r7.2) else (fn_X10_behindSum x1 m).bind fun r9 => some (r9.1, r9.2)) else (fn_X10_readPart  m).bind fun r11 => some (r11.1, r11.2)) else (fn_X10_readPlain  m).bind fun r13 => some (r13.1, r13.2)).bind fun q15 => lp_X10_readExpression_20 n x1 q15.1 q15.2))
set_option maxRecDepth 100000 in
theorem lt_X10_readExpression_20 (d : Nat) (hd : 7 ≤ d + 1) {r : Option am_V} {M' : am_M} {kc ks : Nat} {n : Nat} {x1 : Int32} {x2 : Int32} {m : am_m} {t : am_m} (h : lp_X10_readExpression_20 n x1 x2 m = some t) (hk : am_Go d 225 (76, [some (.inr (.inr (some (10, 0)))), some (.inl x1), none], [], am_mk t) r M' kc ks) : am_Go d 225 (20, [some (.inr (.inr (some (10, 0)))), some (.inl x1), some (.inl x2)], [], am_mk m) r M' kc ks := by
  have htb : am_tab 225 = at_225 := rfl
  induction n generalizing x2 m with
  | zero => cases h
  | succ n ih =>
    unfold lp_X10_readExpression_20 at h
    refine am_Go.n htb 2 (S' := (24, [some (.inr (.inr (some (10, 0)))), some (.inl x1), some (.inl x2)], [.inl (m.1 10 0 19)], am_mk m)) rfl ?_
    by_cases hc2 : (m.1 10 0 19) ≠ 0
    · rw [if_pos hc2] at h
      refine am_Go.c1 htb (S' := (76, [some (.inr (.inr (some (10, 0)))), some (.inl x1), some (.inl x2)], [], am_mk m)) (if_pos hc2) ?_
      cases h
      exact am_Go.fg (by exact ⟨rfl, ⟨rfl, trivial⟩⟩) hk
    · rw [if_neg hc2] at h
      refine am_Go.c1 htb (S' := (27, [some (.inr (.inr (some (10, 0)))), some (.inl x1), some (.inl x2)], [], am_mk m)) (if_neg hc2) ?_
      refine am_Go.n htb 2 (S' := (29, [some (.inr (.inr (some (10, 0)))), some (.inl x1), some (.inl x2)], [.inl 4, .inl x2], am_mk m)) rfl ?_
      by_cases hc3 : x2 = (4 : Int32)
      · rw [if_pos hc3] at h
        refine am_Go.c1 htb (S' := (76, [some (.inr (.inr (some (10, 0)))), some (.inl x1), some (.inl x2)], [], am_mk m)) (if_pos hc3) ?_
        cases h
        exact am_Go.fg (by exact ⟨rfl, ⟨rfl, trivial⟩⟩) hk
      · rw [if_neg hc3] at h
        refine am_Go.c1 htb (S' := (32, [some (.inr (.inr (some (10, 0)))), some (.inl x1), some (.inl x2)], [], am_mk m)) (if_neg hc3) ?_
        refine am_Go.n htb 1 (S' := (33, [some (.inr (.inr (some (10, 0)))), some (.inl x1), some (.inl x2)], [.inl x2], am_mk m)) rfl ?_
        obtain ⟨q15, h16, h⟩ := am_bd h
        refine am_Go.cut (S := (72, [some (.inr (.inr (some (10, 0)))), some (.inl x1), some (.inl x2)], [.inl q15.1], am_mk q15.2)) ?_ (fun key => ?_)
        · refine am_Go.n htb 2 (S' := (20, [some (.inr (.inr (some (10, 0)))), some (.inl x1), some (.inl q15.1)], [], am_mk q15.2)) rfl ?_
          exact ih h hk
        · have h := h16
          by_cases hc4 : x2 ≠ 0
          · rw [if_pos hc4] at h
            refine am_Go.c1 htb (S' := (43, [some (.inr (.inr (some (10, 0)))), some (.inl x1), some (.inl x2)], [], am_mk m)) (if_pos hc4) ?_
            refine am_Go.n htb 2 (S' := (45, [some (.inr (.inr (some (10, 0)))), some (.inl x1), some (.inl x2)], [.inl 1, .inl x2], am_mk m)) rfl ?_
            by_cases hc5 : x2 ≠ (1 : Int32)
            · rw [if_pos hc5] at h
              refine am_Go.c1 htb (S' := (55, [some (.inr (.inr (some (10, 0)))), some (.inl x1), some (.inl x2)], [], am_mk m)) (if_pos hc5) ?_
              refine am_Go.n htb 2 (S' := (57, [some (.inr (.inr (some (10, 0)))), some (.inl x1), some (.inl x2)], [.inl 3, .inl x2], am_mk m)) rfl ?_
              by_cases hc6 : x2 ≠ (3 : Int32)
              · rw [if_pos hc6] at h
                refine am_Go.c1 htb (S' := (68, [some (.inr (.inr (some (10, 0)))), some (.inl x1), some (.inl x2)], [], am_mk m)) (if_pos hc6) ?_
                refine am_Go.n htb 1 (S' := (69, [some (.inr (.inr (some (10, 0)))), some (.inl x1), some (.inl x2)], [.inr (.inr (some (10, 0)))], am_mk m)) rfl ?_
                obtain ⟨r7, h8, h⟩ := am_bd h
                refine am_Go.cl htb rfl (ex_X10_behindTest d (by omega)  m r7 h8) ?_
                show am_Go d 225 (72, [some (.inr (.inr (some (10, 0)))), some (.inl x1), some (.inl x2)], [.inl r7.1], am_mk r7.2) _ _ _ _
                cases h
                exact am_Go.fg (by exact ⟨rfl, ⟨rfl, ⟨rfl, trivial⟩⟩⟩) key
              · rw [if_neg hc6] at h
                refine am_Go.c1 htb (S' := (60, [some (.inr (.inr (some (10, 0)))), some (.inl x1), some (.inl x2)], [], am_mk m)) (if_neg hc6) ?_
                refine am_Go.n htb 2 (S' := (62, [some (.inr (.inr (some (10, 0)))), some (.inl x1), some (.inl x2)], [.inl x1, .inr (.inr (some (10, 0)))], am_mk m)) rfl ?_
                obtain ⟨r9, h10, h⟩ := am_bd h
                refine am_Go.cl htb rfl (ex_X10_behindSum d (by omega) x1 m r9 h10) ?_
                show am_Go d 225 (65, [some (.inr (.inr (some (10, 0)))), some (.inl x1), some (.inl x2)], [.inl r9.1], am_mk r9.2) _ _ _ _
                refine am_Go.n htb 1 (S' := (72, [some (.inr (.inr (some (10, 0)))), some (.inl x1), some (.inl x2)], [.inl r9.1], am_mk r9.2)) rfl ?_
                cases h
                exact am_Go.fg (by exact ⟨rfl, ⟨rfl, ⟨rfl, trivial⟩⟩⟩) key
            · rw [if_neg hc5] at h
              refine am_Go.c1 htb (S' := (48, [some (.inr (.inr (some (10, 0)))), some (.inl x1), some (.inl x2)], [], am_mk m)) (if_neg hc5) ?_
              refine am_Go.n htb 1 (S' := (49, [some (.inr (.inr (some (10, 0)))), some (.inl x1), some (.inl x2)], [.inr (.inr (some (10, 0)))], am_mk m)) rfl ?_
              obtain ⟨r11, h12, h⟩ := am_bd h
              refine am_Go.cl htb rfl (ex_X10_readPart d (by omega)  m r11 h12) ?_
              show am_Go d 225 (52, [some (.inr (.inr (some (10, 0)))), some (.inl x1), some (.inl x2)], [.inl r11.1], am_mk r11.2) _ _ _ _
              refine am_Go.n htb 1 (S' := (72, [some (.inr (.inr (some (10, 0)))), some (.inl x1), some (.inl x2)], [.inl r11.1], am_mk r11.2)) rfl ?_
              cases h
              exact am_Go.fg (by exact ⟨rfl, ⟨rfl, ⟨rfl, trivial⟩⟩⟩) key
          · rw [if_neg hc4] at h
            refine am_Go.c1 htb (S' := (36, [some (.inr (.inr (some (10, 0)))), some (.inl x1), some (.inl x2)], [], am_mk m)) (if_neg hc4) ?_
            refine am_Go.n htb 1 (S' := (37, [some (.inr (.inr (some (10, 0)))), some (.inl x1), some (.inl x2)], [.inr (.inr (some (10, 0)))], am_mk m)) rfl ?_
            obtain ⟨r13, h14, h⟩ := am_bd h
            refine am_Go.cl htb rfl (ex_X10_readPlain d (by omega)  m r13 h14) ?_
            show am_Go d 225 (40, [some (.inr (.inr (some (10, 0)))), some (.inl x1), some (.inl x2)], [.inl r13.1], am_mk r13.2) _ _ _ _
            refine am_Go.n htb 1 (S' := (72, [some (.inr (.inr (some (10, 0)))), some (.inl x1), some (.inl x2)], [.inl r13.1], am_mk r13.2)) rfl ?_
            cases h
            exact am_Go.fg (by exact ⟨rfl, ⟨rfl, ⟨rfl, trivial⟩⟩⟩) key
def fn_X10_readExpression (a1 : Int32) (m : am_m) : Option (am_m) :=
  (lp_X10_readExpression_20 1000000 a1 (if a1 = 0 then (1 : Int32) else (0 : Int32)) (am_si (am_si m 10 0 29 0) 10 0 30 0)).bind fun q17 => (fn_X10_settle 1 q17).bind fun r19 => some r19
set_option maxRecDepth 100000 in
theorem ex_X10_readExpression (d : Nat) (hd : 7 ≤ d) (a1 : Int32) (m : am_m) (t : am_m) (h : fn_X10_readExpression a1 m = some t) : am_Ex am_cod d 225 [.inr (.inr (some (10, 0))), .inl a1] (am_mk m) (none) (am_mk t) 0 0 := by
  obtain ⟨d, rfl⟩ : ∃ e, d = e + 1 := ⟨d - 1, by omega⟩
  have htb : am_tab 225 = at_225 := rfl
  refine ⟨Nat.le_of_ble_eq_true rfl, ?_⟩
  unfold fn_X10_readExpression at h
  show am_Go d 225 (0, [some (.inr (.inr (some (10, 0)))), some (.inl a1), none], [], am_mk m) _ _ 0 0
  refine am_Go.n htb 7 (S' := (11, [some (.inr (.inr (some (10, 0)))), some (.inl a1), none], [.inl a1], am_mk (am_si (am_si m 10 0 29 0) 10 0 30 0))) rfl ?_
  refine am_Go.cut (S := (19, [some (.inr (.inr (some (10, 0)))), some (.inl a1), none], [.inl (if a1 = 0 then (1 : Int32) else (0 : Int32))], am_mk (am_si (am_si m 10 0 29 0) 10 0 30 0))) ?_ (fun key => ?_)
  · refine am_Go.n htb 1 (S' := (20, [some (.inr (.inr (some (10, 0)))), some (.inl a1), some (.inl (if a1 = 0 then (1 : Int32) else (0 : Int32)))], [], am_mk (am_si (am_si m 10 0 29 0) 10 0 30 0))) rfl ?_
    obtain ⟨q17, h18, h⟩ := am_bd h
    refine lt_X10_readExpression_20 _ hd (h := h18) (hk := ?_)
    refine am_Go.n htb 2 (S' := (78, [some (.inr (.inr (some (10, 0)))), some (.inl a1), none], [.inl 1, .inr (.inr (some (10, 0)))], am_mk q17)) rfl ?_
    obtain ⟨r19, h20, h⟩ := am_bd h
    refine am_Go.cl htb rfl (ex_X10_settle d (by omega) 1 q17 r19 h20) ?_
    show am_Go d 225 (81, [some (.inr (.inr (some (10, 0)))), some (.inl a1), none], [], am_mk r19) _ _ _ _
    cases h
    exact am_Go.r htb rfl
  · by_cases hc1 : a1 = 0
    · refine am_Go.c1 htb (S' := (18, [some (.inr (.inr (some (10, 0)))), some (.inl a1), none], [], am_mk (am_si (am_si m 10 0 29 0) 10 0 30 0))) (if_pos hc1) ?_
      refine am_Go.n htb 1 (S' := (19, [some (.inr (.inr (some (10, 0)))), some (.inl a1), none], [.inl 1], am_mk (am_si (am_si m 10 0 29 0) 10 0 30 0))) rfl ?_
      simp only [if_pos hc1] at key
      exact am_Go.fg (by exact ⟨rfl, ⟨rfl, trivial⟩⟩) key
    · refine am_Go.c1 htb (S' := (14, [some (.inr (.inr (some (10, 0)))), some (.inl a1), none], [], am_mk (am_si (am_si m 10 0 29 0) 10 0 30 0))) (if_neg hc1) ?_
      refine am_Go.n htb 2 (S' := (19, [some (.inr (.inr (some (10, 0)))), some (.inl a1), none], [.inl 0], am_mk (am_si (am_si m 10 0 29 0) 10 0 30 0))) rfl ?_
      simp only [if_neg hc1] at key
      exact am_Go.fg (by exact ⟨rfl, ⟨rfl, trivial⟩⟩) key
-- X10_beginText
def fn_X10_beginText (a1 : Int32) (m : am_m) : Option (am_m) :=
  am_gd (a1 = 0 ∨ a1 = 1) ((fn_X10_begin  (am_si m 10 0 20 a1)).bind fun r2 => some (am_si (am_si (am_si r2 10 0 21 0) 10 0 23 0) 10 0 26 0))
set_option maxRecDepth 100000 in
theorem ex_X10_beginText (d : Nat) (hd : 4 ≤ d) (a1 : Int32) (m : am_m) (t : am_m) (h : fn_X10_beginText a1 m = some t) : am_Ex am_cod d 226 [.inr (.inr (some (10, 0))), .inl a1] (am_mk m) (none) (am_mk t) 0 0 := by
  obtain ⟨d, rfl⟩ : ∃ e, d = e + 1 := ⟨d - 1, by omega⟩
  have htb : am_tab 226 = at_226 := rfl
  refine ⟨Nat.le_of_ble_eq_true rfl, ?_⟩
  unfold fn_X10_beginText at h
  show am_Go d 226 (0, [some (.inr (.inr (some (10, 0)))), some (.inl a1)], [], am_mk m) _ _ 0 0
  refine am_Go.n htb 2 (S' := (2, [some (.inr (.inr (some (10, 0)))), some (.inl a1)], [.inl a1, .inr (.inr (some (10, 0)))], am_mk m)) rfl ?_
  obtain ⟨hz1, h⟩ := am_gd_some h
  refine am_Go.c1 htb (S' := (5, [some (.inr (.inr (some (10, 0)))), some (.inl a1)], [], am_mk (am_si m 10 0 20 a1))) (am_pfz hz1) ?_
  refine am_Go.n htb 1 (S' := (6, [some (.inr (.inr (some (10, 0)))), some (.inl a1)], [.inr (.inr (some (10, 0)))], am_mk (am_si m 10 0 20 a1))) rfl ?_
  obtain ⟨r2, h3, h⟩ := am_bd h
  refine am_Go.cl htb rfl (ex_X10_begin d (by omega)  (am_si m 10 0 20 a1) r2 h3) ?_
  show am_Go d 226 (9, [some (.inr (.inr (some (10, 0)))), some (.inl a1)], [], am_mk r2) _ _ _ _
  refine am_Go.n htb 9 (S' := (24, [some (.inr (.inr (some (10, 0)))), some (.inl a1)], [], am_mk (am_si (am_si (am_si r2 10 0 21 0) 10 0 23 0) 10 0 26 0))) rfl ?_
  cases h
  exact am_Go.r htb rfl
-- X10_endText
def fn_X10_endText  (m : am_m) : Option (am_m) :=
  (if (m.1 10 0 19) ≠ 0 then some m else (if (m.1 10 0 16) = 0 then some m else (fn_X10_must 0 m).bind fun r3 => some r3)).bind fun q5 => some (am_si (am_si q5 10 0 20 0) 10 0 13 0)
set_option maxRecDepth 100000 in
theorem ex_X10_endText (d : Nat) (hd : 4 ≤ d)  (m : am_m) (t : am_m) (h : fn_X10_endText  m = some t) : am_Ex am_cod d 227 [.inr (.inr (some (10, 0)))] (am_mk m) (none) (am_mk t) 0 0 := by
  obtain ⟨d, rfl⟩ : ∃ e, d = e + 1 := ⟨d - 1, by omega⟩
  have htb : am_tab 227 = at_227 := rfl
  refine ⟨Nat.le_of_ble_eq_true rfl, ?_⟩
  unfold fn_X10_endText at h
  show am_Go d 227 (0, [some (.inr (.inr (some (10, 0))))], [], am_mk m) _ _ 0 0
  refine am_Go.n htb 2 (S' := (4, [some (.inr (.inr (some (10, 0))))], [.inl (m.1 10 0 19)], am_mk m)) rfl ?_
  obtain ⟨q5, h6, h⟩ := am_bd h
  refine am_Go.cut (S := (19, [some (.inr (.inr (some (10, 0))))], [], am_mk q5)) ?_ (fun key => ?_)
  · refine am_Go.n htb 6 (S' := (29, [some (.inr (.inr (some (10, 0))))], [], am_mk (am_si (am_si q5 10 0 20 0) 10 0 13 0))) rfl ?_
    cases h
    exact am_Go.r htb rfl
  · have h := h6
    by_cases hc1 : (m.1 10 0 19) ≠ 0
    · rw [if_pos hc1] at h
      refine am_Go.c1 htb (S' := (19, [some (.inr (.inr (some (10, 0))))], [], am_mk m)) (if_pos hc1) ?_
      cases h
      exact am_Go.fg (by exact ⟨rfl, trivial⟩) key
    · rw [if_neg hc1] at h
      refine am_Go.c1 htb (S' := (7, [some (.inr (.inr (some (10, 0))))], [], am_mk m)) (if_neg hc1) ?_
      refine am_Go.n htb 2 (S' := (11, [some (.inr (.inr (some (10, 0))))], [.inl (m.1 10 0 16)], am_mk m)) rfl ?_
      by_cases hc2 : (m.1 10 0 16) = 0
      · rw [if_pos hc2] at h
        refine am_Go.c1 htb (S' := (19, [some (.inr (.inr (some (10, 0))))], [], am_mk m)) (if_pos hc2) ?_
        cases h
        exact am_Go.fg (by exact ⟨rfl, trivial⟩) key
      · rw [if_neg hc2] at h
        refine am_Go.c1 htb (S' := (14, [some (.inr (.inr (some (10, 0))))], [], am_mk m)) (if_neg hc2) ?_
        refine am_Go.n htb 2 (S' := (16, [some (.inr (.inr (some (10, 0))))], [.inl 0, .inr (.inr (some (10, 0)))], am_mk m)) rfl ?_
        obtain ⟨r3, h4, h⟩ := am_bd h
        refine am_Go.cl htb rfl (ex_X10_must d (by omega) 0 m r3 h4) ?_
        show am_Go d 227 (19, [some (.inr (.inr (some (10, 0))))], [], am_mk r3) _ _ _ _
        cases h
        exact am_Go.fg (by exact ⟨rfl, trivial⟩) key
-- X10_readLaw
def lp_X10_readLaw_4 : Nat → Int32 → Int32 → am_m → Option (Int32)
  | 0, _, _, _ => none
  | n + 1, x1, x2, m =>
  (if (4 : Int32) ≤ x2 then some x1 else am_ck x2 4 ((fn_X10_isWord (m.2.1 84 0 x2.toNatClampNeg) m).bind fun r3 => lp_X10_readLaw_4 n (if r3 = 0 then x1 else x2) (x2 + 1) m))
set_option maxRecDepth 100000 in
theorem lt_X10_readLaw_4 (d : Nat) (hd : 8 ≤ d + 1) {r : Option am_V} {M' : am_M} {kc ks : Nat} {n : Nat} {x1 : Int32} {x2 : Int32} {m : am_m} {t : Int32} (h : lp_X10_readLaw_4 n x1 x2 m = some t) (hk : am_Go d 228 (34, [some (.inr (.inr (some (10, 0)))), some (.inl t), none, none], [], am_mk m) r M' kc ks) : am_Go d 228 (4, [some (.inr (.inr (some (10, 0)))), some (.inl x1), some (.inl x2), none], [], am_mk m) r M' kc ks := by
  have htb : am_tab 228 = at_228 := rfl
  induction n generalizing x1 x2 with
  | zero => cases h
  | succ n ih =>
    unfold lp_X10_readLaw_4 at h
    refine am_Go.n htb 2 (S' := (6, [some (.inr (.inr (some (10, 0)))), some (.inl x1), some (.inl x2), none], [.inl 4, .inl x2], am_mk m)) rfl ?_
    by_cases hc1 : (4 : Int32) ≤ x2
    · rw [if_pos hc1] at h
      refine am_Go.c1 htb (S' := (34, [some (.inr (.inr (some (10, 0)))), some (.inl x1), some (.inl x2), none], [], am_mk m)) (if_pos hc1) ?_
      cases h
      exact am_Go.fg (by exact ⟨rfl, ⟨rfl, trivial⟩⟩) hk
    · rw [if_neg hc1] at h
      refine am_Go.c1 htb (S' := (9, [some (.inr (.inr (some (10, 0)))), some (.inl x1), some (.inl x2), none], [], am_mk m)) (if_neg hc1) ?_
      refine am_Go.n htb 4 (S' := (15, [some (.inr (.inr (some (10, 0)))), some (.inl x1), some (.inl x2), none], [.inl x2, .inr (.inr (some (84, 0))), .inr (.inr (some (10, 0)))], am_mk m)) rfl ?_
      obtain ⟨hg2, h⟩ := am_ck_some h
      refine am_Go.c1 htb (S' := (16, [some (.inr (.inr (some (10, 0)))), some (.inl x1), some (.inl x2), none], [.inr (.inl (m.2.1 84 0 x2.toNatClampNeg)), .inr (.inr (some (10, 0)))], am_mk m)) (if_neg hg2) ?_
      obtain ⟨r3, h4, h⟩ := am_bd h
      refine am_Go.cl htb rfl (ex_X10_isWord d (by omega) (m.2.1 84 0 x2.toNatClampNeg) m r3 h4) ?_
      show am_Go d 228 (19, [some (.inr (.inr (some (10, 0)))), some (.inl x1), some (.inl x2), none], [.inl r3], am_mk m) _ _ _ _
      refine am_Go.cut (S := (27, [some (.inr (.inr (some (10, 0)))), some (.inl x1), some (.inl x2), none], [.inl (if r3 = 0 then x1 else x2)], am_mk m)) ?_ (fun key => ?_)
      · refine am_Go.n htb 3 (S' := (4, [some (.inr (.inr (some (10, 0)))), some (.inl (if r3 = 0 then x1 else x2)), some (.inl (x2 + 1)), none], [], am_mk m)) rfl ?_
        exact ih h hk
      · by_cases hc5 : r3 = 0
        · refine am_Go.c1 htb (S' := (26, [some (.inr (.inr (some (10, 0)))), some (.inl x1), some (.inl x2), none], [], am_mk m)) (if_pos hc5) ?_
          refine am_Go.n htb 1 (S' := (27, [some (.inr (.inr (some (10, 0)))), some (.inl x1), some (.inl x2), none], [.inl x1], am_mk m)) rfl ?_
          simp only [if_pos hc5] at key
          exact am_Go.fg (by exact ⟨rfl, ⟨rfl, ⟨rfl, trivial⟩⟩⟩) key
        · refine am_Go.c1 htb (S' := (22, [some (.inr (.inr (some (10, 0)))), some (.inl x1), some (.inl x2), none], [], am_mk m)) (if_neg hc5) ?_
          refine am_Go.n htb 2 (S' := (27, [some (.inr (.inr (some (10, 0)))), some (.inl x1), some (.inl x2), none], [.inl x2], am_mk m)) rfl ?_
          simp only [if_neg hc5] at key
          exact am_Go.fg (by exact ⟨rfl, ⟨rfl, ⟨rfl, trivial⟩⟩⟩) key
def lp_X10_readLaw_75 : Nat → Int32 → Int32 → Int32 → am_m → Option (am_m)
  | 0, _, _, _, _ => none
  | n + 1, x1, x2, x3, m =>
  (if (8 : Int32) ≤ x3 then some m else am_ck (x2 + x3) 96 (lp_X10_readLaw_75 n x1 x2 (x3 + 1) (am_si m 51 0 (x2 + x3).toNatClampNeg 0)))
set_option maxRecDepth 100000 in
theorem lt_X10_readLaw_75 (d : Nat) (hd : 8 ≤ d + 1) {r : Option am_V} {M' : am_M} {kc ks : Nat} {n : Nat} {x1 : Int32} {x2 : Int32} {x3 : Int32} {m : am_m} {t : am_m} (h : lp_X10_readLaw_75 n x1 x2 x3 m = some t) (hk : am_Go d 228 (96, [some (.inr (.inr (some (10, 0)))), some (.inl x1), some (.inl x2), none], [], am_mk t) r M' kc ks) : am_Go d 228 (75, [some (.inr (.inr (some (10, 0)))), some (.inl x1), some (.inl x2), some (.inl x3)], [], am_mk m) r M' kc ks := by
  have htb : am_tab 228 = at_228 := rfl
  induction n generalizing x3 m with
  | zero => cases h
  | succ n ih =>
    unfold lp_X10_readLaw_75 at h
    refine am_Go.n htb 2 (S' := (78, [some (.inr (.inr (some (10, 0)))), some (.inl x1), some (.inl x2), some (.inl x3)], [.inl 8, .inl x3], am_mk m)) rfl ?_
    by_cases hc14 : (8 : Int32) ≤ x3
    · rw [if_pos hc14] at h
      refine am_Go.c1 htb (S' := (96, [some (.inr (.inr (some (10, 0)))), some (.inl x1), some (.inl x2), some (.inl x3)], [], am_mk m)) (if_pos hc14) ?_
      cases h
      exact am_Go.fg (by exact ⟨rfl, ⟨rfl, ⟨rfl, trivial⟩⟩⟩) hk
    · rw [if_neg hc14] at h
      refine am_Go.c1 htb (S' := (81, [some (.inr (.inr (some (10, 0)))), some (.inl x1), some (.inl x2), some (.inl x3)], [], am_mk m)) (if_neg hc14) ?_
      refine am_Go.n htb 6 (S' := (89, [some (.inr (.inr (some (10, 0)))), some (.inl x1), some (.inl x2), some (.inl x3)], [.inl 0, .inl (x2 + x3), .inr (.inr (some (51, 0)))], am_mk m)) rfl ?_
      obtain ⟨hg15, h⟩ := am_ck_some h
      refine am_Go.c1 htb (S' := (90, [some (.inr (.inr (some (10, 0)))), some (.inl x1), some (.inl x2), some (.inl x3)], [], am_mk (am_si m 51 0 (x2 + x3).toNatClampNeg 0))) (if_neg hg15) ?_
      refine am_Go.n htb 2 (S' := (75, [some (.inr (.inr (some (10, 0)))), some (.inl x1), some (.inl x2), some (.inl (x3 + 1))], [], am_mk (am_si m 51 0 (x2 + x3).toNatClampNeg 0))) rfl ?_
      exact ih h hk
def fn_X10_readLaw  (m : am_m) : Option (am_m) :=
  (lp_X10_readLaw_4 1000000 (-1) 0 m).bind fun q6 => (if q6 = (-1 : Int32) then some 0 else (if (12 : Int32) ≤ (m.1 10 0 21) then some 0 else some 1)).bind fun q10 => (fn_X10_must q10 m).bind fun r11 => (if (r11.1 10 0 19) = 0 then (lp_X10_readLaw_75 1000000 q6 ((8 : Int32) * (r11.1 10 0 21)) 0 r11).bind fun q16 => am_ck ((8 : Int32) * (r11.1 10 0 21)) 96 (am_ck (((8 : Int32) * (r11.1 10 0 21)) + (3 : Int32)) 96 ((if q6 = (3 : Int32) then some (am_si (am_si (am_si q16 51 0 ((8 : Int32) * (r11.1 10 0 21)).toNatClampNeg q6) 10 0 21 (((am_si q16 51 0 ((8 : Int32) * (r11.1 10 0 21)).toNatClampNeg q6).1 10 0 21) + (1 : Int32))) 51 0 (((8 : Int32) * (r11.1 10 0 21)) + (3 : Int32)).toNatClampNeg ((am_si (am_si q16 51 0 ((8 : Int32) * (r11.1 10 0 21)).toNatClampNeg q6) 10 0 21 (((am_si q16 51 0 ((8 : Int32) * (r11.1 10 0 21)).toNatClampNeg q6).1 10 0 21) + (1 : Int32))).1 10 0 23)) else (fn_X10_readExpression 0 (am_si (am_si (am_si q16 51 0 ((8 : Int32) * (r11.1 10 0 21)).toNatClampNeg q6) 10 0 21 (((am_si q16 51 0 ((8 : Int32) * (r11.1 10 0 21)).toNatClampNeg q6).1 10 0 21) + (1 : Int32))) 51 0 (((8 : Int32) * (r11.1 10 0 21)) + (3 : Int32)).toNatClampNeg ((am_si (am_si q16 51 0 ((8 : Int32) * (r11.1 10 0 21)).toNatClampNeg q6) 10 0 21 (((am_si q16 51 0 ((8 : Int32) * (r11.1 10 0 21)).toNatClampNeg q6).1 10 0 21) + (1 : Int32))).1 10 0 23))).bind fun r21 => some r21).bind fun q23 => am_ck (((8 : Int32) * (r11.1 10 0 21)) + (4 : Int32)) 96 (am_ck (((8 : Int32) * (r11.1 10 0 21)) + (5 : Int32)) 96 ((if ((am_si (am_si q23 51 0 (((8 : Int32) * (r11.1 10 0 21)) + (4 : Int32)).toNatClampNeg (q23.1 10 0 23)) 51 0 (((8 : Int32) * (r11.1 10 0 21)) + (5 : Int32)).toNatClampNeg ((am_si q23 51 0 (((8 : Int32) * (r11.1 10 0 21)) + (4 : Int32)).toNatClampNeg (q23.1 10 0 23)).1 10 0 23)).1 10 0 19) ≠ 0 then some (am_si (am_si q23 51 0 (((8 : Int32) * (r11.1 10 0 21)) + (4 : Int32)).toNatClampNeg (q23.1 10 0 23)) 51 0 (((8 : Int32) * (r11.1 10 0 21)) + (5 : Int32)).toNatClampNeg ((am_si q23 51 0 (((8 : Int32) * (r11.1 10 0 21)) + (4 : Int32)).toNatClampNeg (q23.1 10 0 23)).1 10 0 23)) else (fn_X10_isWord 294 (am_si (am_si q23 51 0 (((8 : Int32) * (r11.1 10 0 21)) + (4 : Int32)).toNatClampNeg (q23.1 10 0 23)) 51 0 (((8 : Int32) * (r11.1 10 0 21)) + (5 : Int32)).toNatClampNeg ((am_si q23 51 0 (((8 : Int32) * (r11.1 10 0 21)) + (4 : Int32)).toNatClampNeg (q23.1 10 0 23)).1 10 0 23))).bind fun r27 => (if r27 = 0 then some (am_si (am_si q23 51 0 (((8 : Int32) * (r11.1 10 0 21)) + (4 : Int32)).toNatClampNeg (q23.1 10 0 23)) 51 0 (((8 : Int32) * (r11.1 10 0 21)) + (5 : Int32)).toNatClampNeg ((am_si q23 51 0 (((8 : Int32) * (r11.1 10 0 21)) + (4 : Int32)).toNatClampNeg (q23.1 10 0 23)).1 10 0 23)) else (fn_X10_next  (am_si (am_si q23 51 0 (((8 : Int32) * (r11.1 10 0 21)) + (4 : Int32)).toNatClampNeg (q23.1 10 0 23)) 51 0 (((8 : Int32) * (r11.1 10 0 21)) + (5 : Int32)).toNatClampNeg ((am_si q23 51 0 (((8 : Int32) * (r11.1 10 0 21)) + (4 : Int32)).toNatClampNeg (q23.1 10 0 23)).1 10 0 23))).bind fun r30 => (fn_X10_readExpression 1 r30).bind fun r32 => some r32)).bind fun q34 => am_ck (((8 : Int32) * (r11.1 10 0 21)) + (6 : Int32)) 96 (some (am_si q34 51 0 (((8 : Int32) * (r11.1 10 0 21)) + (6 : Int32)).toNatClampNeg (q34.1 10 0 23))))))) else some r11)
set_option maxRecDepth 100000 in
theorem ex_X10_readLaw (d : Nat) (hd : 8 ≤ d)  (m : am_m) (t : am_m) (h : fn_X10_readLaw  m = some t) : am_Ex am_cod d 228 [.inr (.inr (some (10, 0)))] (am_mk m) (none) (am_mk t) 0 0 := by
  obtain ⟨d, rfl⟩ : ∃ e, d = e + 1 := ⟨d - 1, by omega⟩
  have htb : am_tab 228 = at_228 := rfl
  refine ⟨Nat.le_of_ble_eq_true rfl, ?_⟩
  unfold fn_X10_readLaw at h
  show am_Go d 228 (0, [some (.inr (.inr (some (10, 0)))), none, none, none], [], am_mk m) _ _ 0 0
  refine am_Go.n htb 4 (S' := (4, [some (.inr (.inr (some (10, 0)))), some (.inl (-1)), some (.inl 0), none], [], am_mk m)) rfl ?_
  obtain ⟨q6, h7, h⟩ := am_bd h
  refine lt_X10_readLaw_4 _ hd (h := h7) (hk := ?_)
  refine am_Go.n htb 3 (S' := (37, [some (.inr (.inr (some (10, 0)))), some (.inl q6), none, none], [.inl (-1), .inl q6, .inr (.inr (some (10, 0)))], am_mk m)) rfl ?_
  obtain ⟨q10, h38, h⟩ := am_bd h
  refine am_Go.cut (S := (54, [some (.inr (.inr (some (10, 0)))), some (.inl q6), none, none], [.inl q10, .inr (.inr (some (10, 0)))], am_mk m)) ?_ (fun key => ?_)
  · obtain ⟨r11, h12, h⟩ := am_bd h
    refine am_Go.cl htb rfl (ex_X10_must d (by omega) q10 m r11 h12) ?_
    show am_Go d 228 (57, [some (.inr (.inr (some (10, 0)))), some (.inl q6), none, none], [], am_mk r11) _ _ _ _
    refine am_Go.n htb 2 (S' := (61, [some (.inr (.inr (some (10, 0)))), some (.inl q6), none, none], [.inl (r11.1 10 0 19)], am_mk r11)) rfl ?_
    by_cases hc13 : (r11.1 10 0 19) = 0
    · rw [if_pos hc13] at h
      refine am_Go.c1 htb (S' := (65, [some (.inr (.inr (some (10, 0)))), some (.inl q6), none, none], [], am_mk r11)) (if_pos hc13) ?_
      refine am_Go.n htb 7 (S' := (75, [some (.inr (.inr (some (10, 0)))), some (.inl q6), some (.inl ((8 : Int32) * (r11.1 10 0 21))), some (.inl 0)], [], am_mk r11)) rfl ?_
      obtain ⟨q16, h17, h⟩ := am_bd h
      refine lt_X10_readLaw_75 _ hd (h := h17) (hk := ?_)
      refine am_Go.n htb 4 (S' := (102, [some (.inr (.inr (some (10, 0)))), some (.inl q6), some (.inl ((8 : Int32) * (r11.1 10 0 21))), none], [.inl q6, .inl ((8 : Int32) * (r11.1 10 0 21)), .inr (.inr (some (51, 0)))], am_mk q16)) rfl ?_
      obtain ⟨hg18, h⟩ := am_ck_some h
      refine am_Go.c1 htb (S' := (103, [some (.inr (.inr (some (10, 0)))), some (.inl q6), some (.inl ((8 : Int32) * (r11.1 10 0 21))), none], [], am_mk (am_si q16 51 0 ((8 : Int32) * (r11.1 10 0 21)).toNatClampNeg q6))) (if_neg hg18) ?_
      refine am_Go.n htb 13 (S' := (124, [some (.inr (.inr (some (10, 0)))), some (.inl q6), some (.inl ((8 : Int32) * (r11.1 10 0 21))), none], [.inl ((am_si (am_si q16 51 0 ((8 : Int32) * (r11.1 10 0 21)).toNatClampNeg q6) 10 0 21 (((am_si q16 51 0 ((8 : Int32) * (r11.1 10 0 21)).toNatClampNeg q6).1 10 0 21) + (1 : Int32))).1 10 0 23), .inl (((8 : Int32) * (r11.1 10 0 21)) + (3 : Int32)), .inr (.inr (some (51, 0)))], am_mk (am_si (am_si q16 51 0 ((8 : Int32) * (r11.1 10 0 21)).toNatClampNeg q6) 10 0 21 (((am_si q16 51 0 ((8 : Int32) * (r11.1 10 0 21)).toNatClampNeg q6).1 10 0 21) + (1 : Int32))))) rfl ?_
      obtain ⟨hg19, h⟩ := am_ck_some h
      refine am_Go.c1 htb (S' := (125, [some (.inr (.inr (some (10, 0)))), some (.inl q6), some (.inl ((8 : Int32) * (r11.1 10 0 21))), none], [], am_mk (am_si (am_si (am_si q16 51 0 ((8 : Int32) * (r11.1 10 0 21)).toNatClampNeg q6) 10 0 21 (((am_si q16 51 0 ((8 : Int32) * (r11.1 10 0 21)).toNatClampNeg q6).1 10 0 21) + (1 : Int32))) 51 0 (((8 : Int32) * (r11.1 10 0 21)) + (3 : Int32)).toNatClampNeg ((am_si (am_si q16 51 0 ((8 : Int32) * (r11.1 10 0 21)).toNatClampNeg q6) 10 0 21 (((am_si q16 51 0 ((8 : Int32) * (r11.1 10 0 21)).toNatClampNeg q6).1 10 0 21) + (1 : Int32))).1 10 0 23)))) (if_neg hg19) ?_
      refine am_Go.n htb 2 (S' := (127, [some (.inr (.inr (some (10, 0)))), some (.inl q6), some (.inl ((8 : Int32) * (r11.1 10 0 21))), none], [.inl 3, .inl q6], am_mk (am_si (am_si (am_si q16 51 0 ((8 : Int32) * (r11.1 10 0 21)).toNatClampNeg q6) 10 0 21 (((am_si q16 51 0 ((8 : Int32) * (r11.1 10 0 21)).toNatClampNeg q6).1 10 0 21) + (1 : Int32))) 51 0 (((8 : Int32) * (r11.1 10 0 21)) + (3 : Int32)).toNatClampNeg ((am_si (am_si q16 51 0 ((8 : Int32) * (r11.1 10 0 21)).toNatClampNeg q6) 10 0 21 (((am_si q16 51 0 ((8 : Int32) * (r11.1 10 0 21)).toNatClampNeg q6).1 10 0 21) + (1 : Int32))).1 10 0 23)))) rfl ?_
      obtain ⟨q23, h37, h⟩ := am_bd h
      refine am_Go.cut (S := (135, [some (.inr (.inr (some (10, 0)))), some (.inl q6), some (.inl ((8 : Int32) * (r11.1 10 0 21))), none], [], am_mk q23)) ?_ (fun key => ?_)
      · refine am_Go.n htb 7 (S' := (146, [some (.inr (.inr (some (10, 0)))), some (.inl q6), some (.inl ((8 : Int32) * (r11.1 10 0 21))), none], [.inl (q23.1 10 0 23), .inl (((8 : Int32) * (r11.1 10 0 21)) + (4 : Int32)), .inr (.inr (some (51, 0)))], am_mk q23)) rfl ?_
        obtain ⟨hg24, h⟩ := am_ck_some h
        refine am_Go.c1 htb (S' := (147, [some (.inr (.inr (some (10, 0)))), some (.inl q6), some (.inl ((8 : Int32) * (r11.1 10 0 21))), none], [], am_mk (am_si q23 51 0 (((8 : Int32) * (r11.1 10 0 21)) + (4 : Int32)).toNatClampNeg (q23.1 10 0 23)))) (if_neg hg24) ?_
        refine am_Go.n htb 7 (S' := (158, [some (.inr (.inr (some (10, 0)))), some (.inl q6), some (.inl ((8 : Int32) * (r11.1 10 0 21))), none], [.inl ((am_si q23 51 0 (((8 : Int32) * (r11.1 10 0 21)) + (4 : Int32)).toNatClampNeg (q23.1 10 0 23)).1 10 0 23), .inl (((8 : Int32) * (r11.1 10 0 21)) + (5 : Int32)), .inr (.inr (some (51, 0)))], am_mk (am_si q23 51 0 (((8 : Int32) * (r11.1 10 0 21)) + (4 : Int32)).toNatClampNeg (q23.1 10 0 23)))) rfl ?_
        obtain ⟨hg25, h⟩ := am_ck_some h
        refine am_Go.c1 htb (S' := (159, [some (.inr (.inr (some (10, 0)))), some (.inl q6), some (.inl ((8 : Int32) * (r11.1 10 0 21))), none], [], am_mk (am_si (am_si q23 51 0 (((8 : Int32) * (r11.1 10 0 21)) + (4 : Int32)).toNatClampNeg (q23.1 10 0 23)) 51 0 (((8 : Int32) * (r11.1 10 0 21)) + (5 : Int32)).toNatClampNeg ((am_si q23 51 0 (((8 : Int32) * (r11.1 10 0 21)) + (4 : Int32)).toNatClampNeg (q23.1 10 0 23)).1 10 0 23)))) (if_neg hg25) ?_
        refine am_Go.n htb 2 (S' := (163, [some (.inr (.inr (some (10, 0)))), some (.inl q6), some (.inl ((8 : Int32) * (r11.1 10 0 21))), none], [.inl ((am_si (am_si q23 51 0 (((8 : Int32) * (r11.1 10 0 21)) + (4 : Int32)).toNatClampNeg (q23.1 10 0 23)) 51 0 (((8 : Int32) * (r11.1 10 0 21)) + (5 : Int32)).toNatClampNeg ((am_si q23 51 0 (((8 : Int32) * (r11.1 10 0 21)) + (4 : Int32)).toNatClampNeg (q23.1 10 0 23)).1 10 0 23)).1 10 0 19)], am_mk (am_si (am_si q23 51 0 (((8 : Int32) * (r11.1 10 0 21)) + (4 : Int32)).toNatClampNeg (q23.1 10 0 23)) 51 0 (((8 : Int32) * (r11.1 10 0 21)) + (5 : Int32)).toNatClampNeg ((am_si q23 51 0 (((8 : Int32) * (r11.1 10 0 21)) + (4 : Int32)).toNatClampNeg (q23.1 10 0 23)).1 10 0 23)))) rfl ?_
        obtain ⟨q34, h36, h⟩ := am_bd h
        refine am_Go.cut (S := (185, [some (.inr (.inr (some (10, 0)))), some (.inl q6), some (.inl ((8 : Int32) * (r11.1 10 0 21))), none], [], am_mk q34)) ?_ (fun key => ?_)
        · refine am_Go.n htb 7 (S' := (197, [some (.inr (.inr (some (10, 0)))), some (.inl q6), some (.inl ((8 : Int32) * (r11.1 10 0 21))), none], [.inl (q34.1 10 0 23), .inl (((8 : Int32) * (r11.1 10 0 21)) + (6 : Int32)), .inr (.inr (some (51, 0)))], am_mk q34)) rfl ?_
          obtain ⟨hg35, h⟩ := am_ck_some h
          refine am_Go.c1 htb (S' := (198, [some (.inr (.inr (some (10, 0)))), some (.inl q6), some (.inl ((8 : Int32) * (r11.1 10 0 21))), none], [], am_mk (am_si q34 51 0 (((8 : Int32) * (r11.1 10 0 21)) + (6 : Int32)).toNatClampNeg (q34.1 10 0 23)))) (if_neg hg35) ?_
          cases h
          exact am_Go.r htb rfl
        · have h := h36
          by_cases hc26 : ((am_si (am_si q23 51 0 (((8 : Int32) * (r11.1 10 0 21)) + (4 : Int32)).toNatClampNeg (q23.1 10 0 23)) 51 0 (((8 : Int32) * (r11.1 10 0 21)) + (5 : Int32)).toNatClampNeg ((am_si q23 51 0 (((8 : Int32) * (r11.1 10 0 21)) + (4 : Int32)).toNatClampNeg (q23.1 10 0 23)).1 10 0 23)).1 10 0 19) ≠ 0
          · rw [if_pos hc26] at h
            refine am_Go.c1 htb (S' := (185, [some (.inr (.inr (some (10, 0)))), some (.inl q6), some (.inl ((8 : Int32) * (r11.1 10 0 21))), none], [], am_mk (am_si (am_si q23 51 0 (((8 : Int32) * (r11.1 10 0 21)) + (4 : Int32)).toNatClampNeg (q23.1 10 0 23)) 51 0 (((8 : Int32) * (r11.1 10 0 21)) + (5 : Int32)).toNatClampNeg ((am_si q23 51 0 (((8 : Int32) * (r11.1 10 0 21)) + (4 : Int32)).toNatClampNeg (q23.1 10 0 23)).1 10 0 23)))) (if_pos hc26) ?_
            cases h
            exact am_Go.fg (by exact ⟨rfl, ⟨rfl, ⟨rfl, trivial⟩⟩⟩) key
          · rw [if_neg hc26] at h
            refine am_Go.c1 htb (S' := (166, [some (.inr (.inr (some (10, 0)))), some (.inl q6), some (.inl ((8 : Int32) * (r11.1 10 0 21))), none], [], am_mk (am_si (am_si q23 51 0 (((8 : Int32) * (r11.1 10 0 21)) + (4 : Int32)).toNatClampNeg (q23.1 10 0 23)) 51 0 (((8 : Int32) * (r11.1 10 0 21)) + (5 : Int32)).toNatClampNeg ((am_si q23 51 0 (((8 : Int32) * (r11.1 10 0 21)) + (4 : Int32)).toNatClampNeg (q23.1 10 0 23)).1 10 0 23)))) (if_neg hc26) ?_
            refine am_Go.n htb 2 (S' := (170, [some (.inr (.inr (some (10, 0)))), some (.inl q6), some (.inl ((8 : Int32) * (r11.1 10 0 21))), none], [.inr (.inl 294), .inr (.inr (some (10, 0)))], am_mk (am_si (am_si q23 51 0 (((8 : Int32) * (r11.1 10 0 21)) + (4 : Int32)).toNatClampNeg (q23.1 10 0 23)) 51 0 (((8 : Int32) * (r11.1 10 0 21)) + (5 : Int32)).toNatClampNeg ((am_si q23 51 0 (((8 : Int32) * (r11.1 10 0 21)) + (4 : Int32)).toNatClampNeg (q23.1 10 0 23)).1 10 0 23)))) rfl ?_
            obtain ⟨r27, h28, h⟩ := am_bd h
            refine am_Go.cl htb rfl (ex_X10_isWord d (by omega) 294 (am_si (am_si q23 51 0 (((8 : Int32) * (r11.1 10 0 21)) + (4 : Int32)).toNatClampNeg (q23.1 10 0 23)) 51 0 (((8 : Int32) * (r11.1 10 0 21)) + (5 : Int32)).toNatClampNeg ((am_si q23 51 0 (((8 : Int32) * (r11.1 10 0 21)) + (4 : Int32)).toNatClampNeg (q23.1 10 0 23)).1 10 0 23)) r27 h28) ?_
            show am_Go d 228 (173, [some (.inr (.inr (some (10, 0)))), some (.inl q6), some (.inl ((8 : Int32) * (r11.1 10 0 21))), none], [.inl r27], am_mk (am_si (am_si q23 51 0 (((8 : Int32) * (r11.1 10 0 21)) + (4 : Int32)).toNatClampNeg (q23.1 10 0 23)) 51 0 (((8 : Int32) * (r11.1 10 0 21)) + (5 : Int32)).toNatClampNeg ((am_si q23 51 0 (((8 : Int32) * (r11.1 10 0 21)) + (4 : Int32)).toNatClampNeg (q23.1 10 0 23)).1 10 0 23))) _ _ _ _
            by_cases hc29 : r27 = 0
            · rw [if_pos hc29] at h
              refine am_Go.c1 htb (S' := (185, [some (.inr (.inr (some (10, 0)))), some (.inl q6), some (.inl ((8 : Int32) * (r11.1 10 0 21))), none], [], am_mk (am_si (am_si q23 51 0 (((8 : Int32) * (r11.1 10 0 21)) + (4 : Int32)).toNatClampNeg (q23.1 10 0 23)) 51 0 (((8 : Int32) * (r11.1 10 0 21)) + (5 : Int32)).toNatClampNeg ((am_si q23 51 0 (((8 : Int32) * (r11.1 10 0 21)) + (4 : Int32)).toNatClampNeg (q23.1 10 0 23)).1 10 0 23)))) (if_pos hc29) ?_
              cases h
              exact am_Go.fg (by exact ⟨rfl, ⟨rfl, ⟨rfl, trivial⟩⟩⟩) key
            · rw [if_neg hc29] at h
              refine am_Go.c1 htb (S' := (176, [some (.inr (.inr (some (10, 0)))), some (.inl q6), some (.inl ((8 : Int32) * (r11.1 10 0 21))), none], [], am_mk (am_si (am_si q23 51 0 (((8 : Int32) * (r11.1 10 0 21)) + (4 : Int32)).toNatClampNeg (q23.1 10 0 23)) 51 0 (((8 : Int32) * (r11.1 10 0 21)) + (5 : Int32)).toNatClampNeg ((am_si q23 51 0 (((8 : Int32) * (r11.1 10 0 21)) + (4 : Int32)).toNatClampNeg (q23.1 10 0 23)).1 10 0 23)))) (if_neg hc29) ?_
              refine am_Go.n htb 1 (S' := (177, [some (.inr (.inr (some (10, 0)))), some (.inl q6), some (.inl ((8 : Int32) * (r11.1 10 0 21))), none], [.inr (.inr (some (10, 0)))], am_mk (am_si (am_si q23 51 0 (((8 : Int32) * (r11.1 10 0 21)) + (4 : Int32)).toNatClampNeg (q23.1 10 0 23)) 51 0 (((8 : Int32) * (r11.1 10 0 21)) + (5 : Int32)).toNatClampNeg ((am_si q23 51 0 (((8 : Int32) * (r11.1 10 0 21)) + (4 : Int32)).toNatClampNeg (q23.1 10 0 23)).1 10 0 23)))) rfl ?_
              obtain ⟨r30, h31, h⟩ := am_bd h
              refine am_Go.cl htb rfl (ex_X10_next d (by omega)  (am_si (am_si q23 51 0 (((8 : Int32) * (r11.1 10 0 21)) + (4 : Int32)).toNatClampNeg (q23.1 10 0 23)) 51 0 (((8 : Int32) * (r11.1 10 0 21)) + (5 : Int32)).toNatClampNeg ((am_si q23 51 0 (((8 : Int32) * (r11.1 10 0 21)) + (4 : Int32)).toNatClampNeg (q23.1 10 0 23)).1 10 0 23)) r30 h31) ?_
              show am_Go d 228 (180, [some (.inr (.inr (some (10, 0)))), some (.inl q6), some (.inl ((8 : Int32) * (r11.1 10 0 21))), none], [], am_mk r30) _ _ _ _
              refine am_Go.n htb 2 (S' := (182, [some (.inr (.inr (some (10, 0)))), some (.inl q6), some (.inl ((8 : Int32) * (r11.1 10 0 21))), none], [.inl 1, .inr (.inr (some (10, 0)))], am_mk r30)) rfl ?_
              obtain ⟨r32, h33, h⟩ := am_bd h
              refine am_Go.cl htb rfl (ex_X10_readExpression d (by omega) 1 r30 r32 h33) ?_
              show am_Go d 228 (185, [some (.inr (.inr (some (10, 0)))), some (.inl q6), some (.inl ((8 : Int32) * (r11.1 10 0 21))), none], [], am_mk r32) _ _ _ _
              cases h
              exact am_Go.fg (by exact ⟨rfl, ⟨rfl, ⟨rfl, trivial⟩⟩⟩) key
      · have h := h37
        by_cases hc20 : q6 = (3 : Int32)
        · rw [if_pos hc20] at h
          refine am_Go.c1 htb (S' := (135, [some (.inr (.inr (some (10, 0)))), some (.inl q6), some (.inl ((8 : Int32) * (r11.1 10 0 21))), none], [], am_mk (am_si (am_si (am_si q16 51 0 ((8 : Int32) * (r11.1 10 0 21)).toNatClampNeg q6) 10 0 21 (((am_si q16 51 0 ((8 : Int32) * (r11.1 10 0 21)).toNatClampNeg q6).1 10 0 21) + (1 : Int32))) 51 0 (((8 : Int32) * (r11.1 10 0 21)) + (3 : Int32)).toNatClampNeg ((am_si (am_si q16 51 0 ((8 : Int32) * (r11.1 10 0 21)).toNatClampNeg q6) 10 0 21 (((am_si q16 51 0 ((8 : Int32) * (r11.1 10 0 21)).toNatClampNeg q6).1 10 0 21) + (1 : Int32))).1 10 0 23)))) (if_pos hc20) ?_
          cases h
          exact am_Go.fg (by exact ⟨rfl, ⟨rfl, ⟨rfl, trivial⟩⟩⟩) key
        · rw [if_neg hc20] at h
          refine am_Go.c1 htb (S' := (130, [some (.inr (.inr (some (10, 0)))), some (.inl q6), some (.inl ((8 : Int32) * (r11.1 10 0 21))), none], [], am_mk (am_si (am_si (am_si q16 51 0 ((8 : Int32) * (r11.1 10 0 21)).toNatClampNeg q6) 10 0 21 (((am_si q16 51 0 ((8 : Int32) * (r11.1 10 0 21)).toNatClampNeg q6).1 10 0 21) + (1 : Int32))) 51 0 (((8 : Int32) * (r11.1 10 0 21)) + (3 : Int32)).toNatClampNeg ((am_si (am_si q16 51 0 ((8 : Int32) * (r11.1 10 0 21)).toNatClampNeg q6) 10 0 21 (((am_si q16 51 0 ((8 : Int32) * (r11.1 10 0 21)).toNatClampNeg q6).1 10 0 21) + (1 : Int32))).1 10 0 23)))) (if_neg hc20) ?_
          refine am_Go.n htb 2 (S' := (132, [some (.inr (.inr (some (10, 0)))), some (.inl q6), some (.inl ((8 : Int32) * (r11.1 10 0 21))), none], [.inl 0, .inr (.inr (some (10, 0)))], am_mk (am_si (am_si (am_si q16 51 0 ((8 : Int32) * (r11.1 10 0 21)).toNatClampNeg q6) 10 0 21 (((am_si q16 51 0 ((8 : Int32) * (r11.1 10 0 21)).toNatClampNeg q6).1 10 0 21) + (1 : Int32))) 51 0 (((8 : Int32) * (r11.1 10 0 21)) + (3 : Int32)).toNatClampNeg ((am_si (am_si q16 51 0 ((8 : Int32) * (r11.1 10 0 21)).toNatClampNeg q6) 10 0 21 (((am_si q16 51 0 ((8 : Int32) * (r11.1 10 0 21)).toNatClampNeg q6).1 10 0 21) + (1 : Int32))).1 10 0 23)))) rfl ?_
          obtain ⟨r21, h22, h⟩ := am_bd h
          refine am_Go.cl htb rfl (ex_X10_readExpression d (by omega) 0 (am_si (am_si (am_si q16 51 0 ((8 : Int32) * (r11.1 10 0 21)).toNatClampNeg q6) 10 0 21 (((am_si q16 51 0 ((8 : Int32) * (r11.1 10 0 21)).toNatClampNeg q6).1 10 0 21) + (1 : Int32))) 51 0 (((8 : Int32) * (r11.1 10 0 21)) + (3 : Int32)).toNatClampNeg ((am_si (am_si q16 51 0 ((8 : Int32) * (r11.1 10 0 21)).toNatClampNeg q6) 10 0 21 (((am_si q16 51 0 ((8 : Int32) * (r11.1 10 0 21)).toNatClampNeg q6).1 10 0 21) + (1 : Int32))).1 10 0 23)) r21 h22) ?_
          show am_Go d 228 (135, [some (.inr (.inr (some (10, 0)))), some (.inl q6), some (.inl ((8 : Int32) * (r11.1 10 0 21))), none], [], am_mk r21) _ _ _ _
          cases h
          exact am_Go.fg (by exact ⟨rfl, ⟨rfl, ⟨rfl, trivial⟩⟩⟩) key
    · rw [if_neg hc13] at h
      refine am_Go.c1 htb (S' := (64, [some (.inr (.inr (some (10, 0)))), some (.inl q6), none, none], [], am_mk r11)) (if_neg hc13) ?_
      cases h
      exact am_Go.r htb rfl
  · have h := h38
    by_cases hc8 : q6 = (-1 : Int32)
    · rw [if_pos hc8] at h
      refine am_Go.c1 htb (S' := (53, [some (.inr (.inr (some (10, 0)))), some (.inl q6), none, none], [.inr (.inr (some (10, 0)))], am_mk m)) (if_pos hc8) ?_
      refine am_Go.n htb 1 (S' := (54, [some (.inr (.inr (some (10, 0)))), some (.inl q6), none, none], [.inl 0, .inr (.inr (some (10, 0)))], am_mk m)) rfl ?_
      cases h
      exact am_Go.fg (by exact ⟨rfl, ⟨rfl, trivial⟩⟩) key
    · rw [if_neg hc8] at h
      refine am_Go.c1 htb (S' := (40, [some (.inr (.inr (some (10, 0)))), some (.inl q6), none, none], [.inr (.inr (some (10, 0)))], am_mk m)) (if_neg hc8) ?_
      refine am_Go.n htb 3 (S' := (46, [some (.inr (.inr (some (10, 0)))), some (.inl q6), none, none], [.inl 12, .inl (m.1 10 0 21), .inr (.inr (some (10, 0)))], am_mk m)) rfl ?_
      by_cases hc9 : (12 : Int32) ≤ (m.1 10 0 21)
      · rw [if_pos hc9] at h
        refine am_Go.c1 htb (S' := (53, [some (.inr (.inr (some (10, 0)))), some (.inl q6), none, none], [.inr (.inr (some (10, 0)))], am_mk m)) (if_pos hc9) ?_
        refine am_Go.n htb 1 (S' := (54, [some (.inr (.inr (some (10, 0)))), some (.inl q6), none, none], [.inl 0, .inr (.inr (some (10, 0)))], am_mk m)) rfl ?_
        cases h
        exact am_Go.fg (by exact ⟨rfl, ⟨rfl, trivial⟩⟩) key
      · rw [if_neg hc9] at h
        refine am_Go.c1 htb (S' := (49, [some (.inr (.inr (some (10, 0)))), some (.inl q6), none, none], [.inr (.inr (some (10, 0)))], am_mk m)) (if_neg hc9) ?_
        refine am_Go.n htb 2 (S' := (54, [some (.inr (.inr (some (10, 0)))), some (.inl q6), none, none], [.inl 1, .inr (.inr (some (10, 0)))], am_mk m)) rfl ?_
        cases h
        exact am_Go.fg (by exact ⟨rfl, ⟨rfl, trivial⟩⟩) key
-- X10_law
def lp_X10_law_37 : Nat → am_m → Option (am_m)
  | 0, _ => none
  | n + 1, m =>
  (if (m.1 10 0 19) ≠ 0 then some m else (fn_X10_isSign 59 m).bind fun r8 => (if r8 = 0 then some m else (fn_X10_next  m).bind fun r11 => (fn_X10_readLaw  r11).bind fun r13 => lp_X10_law_37 n  r13))
set_option maxRecDepth 100000 in
theorem lt_X10_law_37 (d : Nat) (hd : 9 ≤ d + 1) {r : Option am_V} {M' : am_M} {kc ks : Nat} {n : Nat} {m : am_m} {t : am_m} (h : lp_X10_law_37 n  m = some t) (hk : am_Go d 229 (64, [some (.inr (.inr (some (10, 0)))), none, none], [], am_mk t) r M' kc ks) : am_Go d 229 (37, [some (.inr (.inr (some (10, 0)))), none, none], [], am_mk m) r M' kc ks := by
  have htb : am_tab 229 = at_229 := rfl
  induction n generalizing m with
  | zero => cases h
  | succ n ih =>
    unfold lp_X10_law_37 at h
    refine am_Go.n htb 2 (S' := (41, [some (.inr (.inr (some (10, 0)))), none, none], [.inl (m.1 10 0 19)], am_mk m)) rfl ?_
    by_cases hc7 : (m.1 10 0 19) ≠ 0
    · rw [if_pos hc7] at h
      refine am_Go.c1 htb (S' := (64, [some (.inr (.inr (some (10, 0)))), none, none], [], am_mk m)) (if_pos hc7) ?_
      cases h
      exact am_Go.fg (by exact ⟨rfl, trivial⟩) hk
    · rw [if_neg hc7] at h
      refine am_Go.c1 htb (S' := (44, [some (.inr (.inr (some (10, 0)))), none, none], [], am_mk m)) (if_neg hc7) ?_
      refine am_Go.n htb 2 (S' := (47, [some (.inr (.inr (some (10, 0)))), none, none], [.inl 59, .inr (.inr (some (10, 0)))], am_mk m)) rfl ?_
      obtain ⟨r8, h9, h⟩ := am_bd h
      refine am_Go.cl htb rfl (ex_X10_isSign d (by omega) 59 m r8 h9) ?_
      show am_Go d 229 (50, [some (.inr (.inr (some (10, 0)))), none, none], [.inl r8], am_mk m) _ _ _ _
      by_cases hc10 : r8 = 0
      · rw [if_pos hc10] at h
        refine am_Go.c1 htb (S' := (64, [some (.inr (.inr (some (10, 0)))), none, none], [], am_mk m)) (if_pos hc10) ?_
        cases h
        exact am_Go.fg (by exact ⟨rfl, trivial⟩) hk
      · rw [if_neg hc10] at h
        refine am_Go.c1 htb (S' := (53, [some (.inr (.inr (some (10, 0)))), none, none], [], am_mk m)) (if_neg hc10) ?_
        refine am_Go.n htb 1 (S' := (54, [some (.inr (.inr (some (10, 0)))), none, none], [.inr (.inr (some (10, 0)))], am_mk m)) rfl ?_
        obtain ⟨r11, h12, h⟩ := am_bd h
        refine am_Go.cl htb rfl (ex_X10_next d (by omega)  m r11 h12) ?_
        show am_Go d 229 (57, [some (.inr (.inr (some (10, 0)))), none, none], [], am_mk r11) _ _ _ _
        refine am_Go.n htb 1 (S' := (58, [some (.inr (.inr (some (10, 0)))), none, none], [.inr (.inr (some (10, 0)))], am_mk r11)) rfl ?_
        obtain ⟨r13, h14, h⟩ := am_bd h
        refine am_Go.cl htb rfl (ex_X10_readLaw d (by omega)  r11 r13 h14) ?_
        show am_Go d 229 (61, [some (.inr (.inr (some (10, 0)))), none, none], [], am_mk r13) _ _ _ _
        refine am_Go.n htb 1 (S' := (37, [some (.inr (.inr (some (10, 0)))), none, none], [], am_mk r13)) rfl ?_
        exact ih h hk
def lp_X10_law_110 : Nat → Int32 → Int32 → am_m → Option (am_m)
  | 0, _, _, _ => none
  | n + 1, x1, x2, m =>
  (if ((8 : Int32) * (m.1 10 0 21)) ≤ x2 then some m else am_ck x2 96 (am_ck ((x1 + (2 : Int32)) + x2) 5518 (lp_X10_law_110 n x1 (x2 + 1) (am_si m 44 0 ((x1 + (2 : Int32)) + x2).toNatClampNeg (m.1 51 0 x2.toNatClampNeg)))))
set_option maxRecDepth 100000 in
theorem lt_X10_law_110 (d : Nat) (hd : 9 ≤ d + 1) {r : Option am_V} {M' : am_M} {kc ks : Nat} {n : Nat} {x1 : Int32} {x2 : Int32} {m : am_m} {t : am_m} (h : lp_X10_law_110 n x1 x2 m = some t) (hk : am_Go d 229 (143, [some (.inr (.inr (some (10, 0)))), some (.inl x1), none], [], am_mk t) r M' kc ks) : am_Go d 229 (110, [some (.inr (.inr (some (10, 0)))), some (.inl x1), some (.inl x2)], [], am_mk m) r M' kc ks := by
  have htb : am_tab 229 = at_229 := rfl
  induction n generalizing x2 m with
  | zero => cases h
  | succ n ih =>
    unfold lp_X10_law_110 at h
    refine am_Go.n htb 5 (S' := (118, [some (.inr (.inr (some (10, 0)))), some (.inl x1), some (.inl x2)], [.inl ((8 : Int32) * (m.1 10 0 21)), .inl x2], am_mk m)) rfl ?_
    by_cases hc22 : ((8 : Int32) * (m.1 10 0 21)) ≤ x2
    · rw [if_pos hc22] at h
      refine am_Go.c1 htb (S' := (143, [some (.inr (.inr (some (10, 0)))), some (.inl x1), some (.inl x2)], [], am_mk m)) (if_pos hc22) ?_
      cases h
      exact am_Go.fg (by exact ⟨rfl, ⟨rfl, trivial⟩⟩) hk
    · rw [if_neg hc22] at h
      refine am_Go.c1 htb (S' := (121, [some (.inr (.inr (some (10, 0)))), some (.inl x1), some (.inl x2)], [], am_mk m)) (if_neg hc22) ?_
      refine am_Go.n htb 10 (S' := (135, [some (.inr (.inr (some (10, 0)))), some (.inl x1), some (.inl x2)], [.inl x2, .inr (.inr (some (51, 0))), .inl ((x1 + (2 : Int32)) + x2), .inr (.inr (some (44, 0)))], am_mk m)) rfl ?_
      obtain ⟨hg23, h⟩ := am_ck_some h
      refine am_Go.c1 htb (S' := (136, [some (.inr (.inr (some (10, 0)))), some (.inl x1), some (.inl x2)], [.inl (m.1 51 0 x2.toNatClampNeg), .inl ((x1 + (2 : Int32)) + x2), .inr (.inr (some (44, 0)))], am_mk m)) (if_neg hg23) ?_
      obtain ⟨hg24, h⟩ := am_ck_some h
      refine am_Go.c1 htb (S' := (137, [some (.inr (.inr (some (10, 0)))), some (.inl x1), some (.inl x2)], [], am_mk (am_si m 44 0 ((x1 + (2 : Int32)) + x2).toNatClampNeg (m.1 51 0 x2.toNatClampNeg)))) (if_neg hg24) ?_
      refine am_Go.n htb 2 (S' := (110, [some (.inr (.inr (some (10, 0)))), some (.inl x1), some (.inl (x2 + 1))], [], am_mk (am_si m 44 0 ((x1 + (2 : Int32)) + x2).toNatClampNeg (m.1 51 0 x2.toNatClampNeg)))) rfl ?_
      exact ih h hk
def lp_X10_law_145 : Nat → Int32 → Int32 → am_m → Option (am_m)
  | 0, _, _, _ => none
  | n + 1, x1, x2, m =>
  (if (m.1 10 0 23) ≤ x2 then some m else am_ck x2 400 (am_ck ((x1 + (98 : Int32)) + ((2 : Int32) * x2)) 5518 (am_ck x2 400 (am_ck (((x1 + (98 : Int32)) + ((2 : Int32) * x2)) + (1 : Int32)) 5518 (lp_X10_law_145 n x1 (x2 + 1) (am_si (am_si m 44 0 ((x1 + (98 : Int32)) + ((2 : Int32) * x2)).toNatClampNeg (m.1 52 0 x2.toNatClampNeg)) 44 0 (((x1 + (98 : Int32)) + ((2 : Int32) * x2)) + (1 : Int32)).toNatClampNeg ((am_si m 44 0 ((x1 + (98 : Int32)) + ((2 : Int32) * x2)).toNatClampNeg (m.1 52 0 x2.toNatClampNeg)).1 53 0 x2.toNatClampNeg)))))))
set_option maxRecDepth 100000 in
theorem lt_X10_law_145 (d : Nat) (hd : 9 ≤ d + 1) {r : Option am_V} {M' : am_M} {kc ks : Nat} {n : Nat} {x1 : Int32} {x2 : Int32} {m : am_m} {t : am_m} (h : lp_X10_law_145 n x1 x2 m = some t) (hk : am_Go d 229 (199, [some (.inr (.inr (some (10, 0)))), some (.inl x1), none], [], am_mk t) r M' kc ks) : am_Go d 229 (145, [some (.inr (.inr (some (10, 0)))), some (.inl x1), some (.inl x2)], [], am_mk m) r M' kc ks := by
  have htb : am_tab 229 = at_229 := rfl
  induction n generalizing x2 m with
  | zero => cases h
  | succ n ih =>
    unfold lp_X10_law_145 at h
    refine am_Go.n htb 3 (S' := (150, [some (.inr (.inr (some (10, 0)))), some (.inl x1), some (.inl x2)], [.inl (m.1 10 0 23), .inl x2], am_mk m)) rfl ?_
    by_cases hc27 : (m.1 10 0 23) ≤ x2
    · rw [if_pos hc27] at h
      refine am_Go.c1 htb (S' := (199, [some (.inr (.inr (some (10, 0)))), some (.inl x1), some (.inl x2)], [], am_mk m)) (if_pos hc27) ?_
      cases h
      exact am_Go.fg (by exact ⟨rfl, ⟨rfl, trivial⟩⟩) hk
    · rw [if_neg hc27] at h
      refine am_Go.c1 htb (S' := (153, [some (.inr (.inr (some (10, 0)))), some (.inl x1), some (.inl x2)], [], am_mk m)) (if_neg hc27) ?_
      refine am_Go.n htb 12 (S' := (170, [some (.inr (.inr (some (10, 0)))), some (.inl x1), some (.inl x2)], [.inl x2, .inr (.inr (some (52, 0))), .inl ((x1 + (98 : Int32)) + ((2 : Int32) * x2)), .inr (.inr (some (44, 0)))], am_mk m)) rfl ?_
      obtain ⟨hg28, h⟩ := am_ck_some h
      refine am_Go.c1 htb (S' := (171, [some (.inr (.inr (some (10, 0)))), some (.inl x1), some (.inl x2)], [.inl (m.1 52 0 x2.toNatClampNeg), .inl ((x1 + (98 : Int32)) + ((2 : Int32) * x2)), .inr (.inr (some (44, 0)))], am_mk m)) (if_neg hg28) ?_
      obtain ⟨hg29, h⟩ := am_ck_some h
      refine am_Go.c1 htb (S' := (172, [some (.inr (.inr (some (10, 0)))), some (.inl x1), some (.inl x2)], [], am_mk (am_si m 44 0 ((x1 + (98 : Int32)) + ((2 : Int32) * x2)).toNatClampNeg (m.1 52 0 x2.toNatClampNeg)))) (if_neg hg29) ?_
      refine am_Go.n htb 14 (S' := (191, [some (.inr (.inr (some (10, 0)))), some (.inl x1), some (.inl x2)], [.inl x2, .inr (.inr (some (53, 0))), .inl (((x1 + (98 : Int32)) + ((2 : Int32) * x2)) + (1 : Int32)), .inr (.inr (some (44, 0)))], am_mk (am_si m 44 0 ((x1 + (98 : Int32)) + ((2 : Int32) * x2)).toNatClampNeg (m.1 52 0 x2.toNatClampNeg)))) rfl ?_
      obtain ⟨hg30, h⟩ := am_ck_some h
      refine am_Go.c1 htb (S' := (192, [some (.inr (.inr (some (10, 0)))), some (.inl x1), some (.inl x2)], [.inl ((am_si m 44 0 ((x1 + (98 : Int32)) + ((2 : Int32) * x2)).toNatClampNeg (m.1 52 0 x2.toNatClampNeg)).1 53 0 x2.toNatClampNeg), .inl (((x1 + (98 : Int32)) + ((2 : Int32) * x2)) + (1 : Int32)), .inr (.inr (some (44, 0)))], am_mk (am_si m 44 0 ((x1 + (98 : Int32)) + ((2 : Int32) * x2)).toNatClampNeg (m.1 52 0 x2.toNatClampNeg)))) (if_neg hg30) ?_
      obtain ⟨hg31, h⟩ := am_ck_some h
      refine am_Go.c1 htb (S' := (193, [some (.inr (.inr (some (10, 0)))), some (.inl x1), some (.inl x2)], [], am_mk (am_si (am_si m 44 0 ((x1 + (98 : Int32)) + ((2 : Int32) * x2)).toNatClampNeg (m.1 52 0 x2.toNatClampNeg)) 44 0 (((x1 + (98 : Int32)) + ((2 : Int32) * x2)) + (1 : Int32)).toNatClampNeg ((am_si m 44 0 ((x1 + (98 : Int32)) + ((2 : Int32) * x2)).toNatClampNeg (m.1 52 0 x2.toNatClampNeg)).1 53 0 x2.toNatClampNeg)))) (if_neg hg31) ?_
      refine am_Go.n htb 2 (S' := (145, [some (.inr (.inr (some (10, 0)))), some (.inl x1), some (.inl (x2 + 1))], [], am_mk (am_si (am_si m 44 0 ((x1 + (98 : Int32)) + ((2 : Int32) * x2)).toNatClampNeg (m.1 52 0 x2.toNatClampNeg)) 44 0 (((x1 + (98 : Int32)) + ((2 : Int32) * x2)) + (1 : Int32)).toNatClampNeg ((am_si m 44 0 ((x1 + (98 : Int32)) + ((2 : Int32) * x2)).toNatClampNeg (m.1 52 0 x2.toNatClampNeg)).1 53 0 x2.toNatClampNeg)))) rfl ?_
      exact ih h hk
def fn_X10_law  (m : am_m) : Option (Int32 × am_m) :=
  am_ck 2 5518 ((if ((am_si m 10 0 0 0).1 44 0 (2 : Int32).toNatClampNeg) ≠ (6 : Int32) then (fn_X10_beginText 0 (am_si m 10 0 0 0)).bind fun r3 => (fn_X10_readLaw  r3).bind fun r5 => (lp_X10_law_37 1000000  r5).bind fun q15 => (fn_X10_endText  q15).bind fun r17 => (if (r17.1 10 0 19) = 0 then am_ck 2 5518 (am_ck (((118 : Int32) + ((900 : Int32) * (r17.1 44 0 (2 : Int32).toNatClampNeg))) + (1 : Int32)) 5518 ((lp_X10_law_110 1000000 ((118 : Int32) + ((900 : Int32) * (r17.1 44 0 (2 : Int32).toNatClampNeg))) 0 (am_si r17 44 0 (((118 : Int32) + ((900 : Int32) * (r17.1 44 0 (2 : Int32).toNatClampNeg))) + (1 : Int32)).toNatClampNeg (r17.1 10 0 21))).bind fun q25 => (lp_X10_law_145 1000000 ((118 : Int32) + ((900 : Int32) * (r17.1 44 0 (2 : Int32).toNatClampNeg))) 0 q25).bind fun q32 => am_ck 2 5518 (am_ck 2 5518 (am_ck 2 5518 ((fn_X10_tell (((am_si q32 44 0 (2 : Int32).toNatClampNeg ((q32.1 44 0 (2 : Int32).toNatClampNeg) + (1 : Int32))).1 44 0 (2 : Int32).toNatClampNeg) - (1 : Int32)) (am_si q32 44 0 (2 : Int32).toNatClampNeg ((q32.1 44 0 (2 : Int32).toNatClampNeg) + (1 : Int32)))).bind fun r37 => some (r37.1, r37.2)))))) else (fn_X10_tell (-6) r17).bind fun r39 => some (r39.1, r39.2)) else (fn_X10_tell (-5) (am_si (am_si m 10 0 0 0) 10 0 13 0)).bind fun r41 => some (r41.1, r41.2)))
set_option maxRecDepth 100000 in
theorem ex_X10_law (d : Nat) (hd : 9 ≤ d)  (m : am_m) (t : Int32 × am_m) (h : fn_X10_law  m = some t) : am_Ex am_cod d 229 [.inr (.inr (some (10, 0)))] (am_mk m) (some (.inl t.1)) (am_mk t.2) 0 0 := by
  obtain ⟨d, rfl⟩ : ∃ e, d = e + 1 := ⟨d - 1, by omega⟩
  have htb : am_tab 229 = at_229 := rfl
  refine ⟨Nat.le_of_ble_eq_true rfl, ?_⟩
  unfold fn_X10_law at h
  show am_Go d 229 (0, [some (.inr (.inr (some (10, 0)))), none, none], [], am_mk m) _ _ 0 0
  refine am_Go.n htb 6 (S' := (10, [some (.inr (.inr (some (10, 0)))), none, none], [.inl 2, .inr (.inr (some (44, 0)))], am_mk (am_si m 10 0 0 0))) rfl ?_
  obtain ⟨hg1, h⟩ := am_ck_some h
  refine am_Go.c1 htb (S' := (11, [some (.inr (.inr (some (10, 0)))), none, none], [.inl ((am_si m 10 0 0 0).1 44 0 (2 : Int32).toNatClampNeg)], am_mk (am_si m 10 0 0 0))) (if_neg hg1) ?_
  refine am_Go.n htb 1 (S' := (13, [some (.inr (.inr (some (10, 0)))), none, none], [.inl 6, .inl ((am_si m 10 0 0 0).1 44 0 (2 : Int32).toNatClampNeg)], am_mk (am_si m 10 0 0 0))) rfl ?_
  by_cases hc2 : ((am_si m 10 0 0 0).1 44 0 (2 : Int32).toNatClampNeg) ≠ (6 : Int32)
  · rw [if_pos hc2] at h
    refine am_Go.c1 htb (S' := (28, [some (.inr (.inr (some (10, 0)))), none, none], [], am_mk (am_si m 10 0 0 0))) (if_pos hc2) ?_
    refine am_Go.n htb 2 (S' := (30, [some (.inr (.inr (some (10, 0)))), none, none], [.inl 0, .inr (.inr (some (10, 0)))], am_mk (am_si m 10 0 0 0))) rfl ?_
    obtain ⟨r3, h4, h⟩ := am_bd h
    refine am_Go.cl htb rfl (ex_X10_beginText d (by omega) 0 (am_si m 10 0 0 0) r3 h4) ?_
    show am_Go d 229 (33, [some (.inr (.inr (some (10, 0)))), none, none], [], am_mk r3) _ _ _ _
    refine am_Go.n htb 1 (S' := (34, [some (.inr (.inr (some (10, 0)))), none, none], [.inr (.inr (some (10, 0)))], am_mk r3)) rfl ?_
    obtain ⟨r5, h6, h⟩ := am_bd h
    refine am_Go.cl htb rfl (ex_X10_readLaw d (by omega)  r3 r5 h6) ?_
    show am_Go d 229 (37, [some (.inr (.inr (some (10, 0)))), none, none], [], am_mk r5) _ _ _ _
    obtain ⟨q15, h16, h⟩ := am_bd h
    refine lt_X10_law_37 _ hd (h := h16) (hk := ?_)
    refine am_Go.n htb 1 (S' := (65, [some (.inr (.inr (some (10, 0)))), none, none], [.inr (.inr (some (10, 0)))], am_mk q15)) rfl ?_
    obtain ⟨r17, h18, h⟩ := am_bd h
    refine am_Go.cl htb rfl (ex_X10_endText d (by omega)  q15 r17 h18) ?_
    show am_Go d 229 (68, [some (.inr (.inr (some (10, 0)))), none, none], [], am_mk r17) _ _ _ _
    refine am_Go.n htb 2 (S' := (72, [some (.inr (.inr (some (10, 0)))), none, none], [.inl (r17.1 10 0 19)], am_mk r17)) rfl ?_
    by_cases hc19 : (r17.1 10 0 19) = 0
    · rw [if_pos hc19] at h
      refine am_Go.c1 htb (S' := (82, [some (.inr (.inr (some (10, 0)))), none, none], [], am_mk r17)) (if_pos hc19) ?_
      refine am_Go.n htb 5 (S' := (92, [some (.inr (.inr (some (10, 0)))), none, none], [.inl 2, .inr (.inr (some (44, 0))), .inl 900, .inl 118], am_mk r17)) rfl ?_
      obtain ⟨hg20, h⟩ := am_ck_some h
      refine am_Go.c1 htb (S' := (93, [some (.inr (.inr (some (10, 0)))), none, none], [.inl (r17.1 44 0 (2 : Int32).toNatClampNeg), .inl 900, .inl 118], am_mk r17)) (if_neg hg20) ?_
      refine am_Go.n htb 10 (S' := (107, [some (.inr (.inr (some (10, 0)))), some (.inl ((118 : Int32) + ((900 : Int32) * (r17.1 44 0 (2 : Int32).toNatClampNeg)))), none], [.inl (r17.1 10 0 21), .inl (((118 : Int32) + ((900 : Int32) * (r17.1 44 0 (2 : Int32).toNatClampNeg))) + (1 : Int32)), .inr (.inr (some (44, 0)))], am_mk r17)) rfl ?_
      obtain ⟨hg21, h⟩ := am_ck_some h
      refine am_Go.c1 htb (S' := (108, [some (.inr (.inr (some (10, 0)))), some (.inl ((118 : Int32) + ((900 : Int32) * (r17.1 44 0 (2 : Int32).toNatClampNeg)))), none], [], am_mk (am_si r17 44 0 (((118 : Int32) + ((900 : Int32) * (r17.1 44 0 (2 : Int32).toNatClampNeg))) + (1 : Int32)).toNatClampNeg (r17.1 10 0 21)))) (if_neg hg21) ?_
      refine am_Go.n htb 2 (S' := (110, [some (.inr (.inr (some (10, 0)))), some (.inl ((118 : Int32) + ((900 : Int32) * (r17.1 44 0 (2 : Int32).toNatClampNeg)))), some (.inl 0)], [], am_mk (am_si r17 44 0 (((118 : Int32) + ((900 : Int32) * (r17.1 44 0 (2 : Int32).toNatClampNeg))) + (1 : Int32)).toNatClampNeg (r17.1 10 0 21)))) rfl ?_
      obtain ⟨q25, h26, h⟩ := am_bd h
      refine lt_X10_law_110 _ hd (h := h26) (hk := ?_)
      refine am_Go.n htb 2 (S' := (145, [some (.inr (.inr (some (10, 0)))), some (.inl ((118 : Int32) + ((900 : Int32) * (r17.1 44 0 (2 : Int32).toNatClampNeg)))), some (.inl 0)], [], am_mk q25)) rfl ?_
      obtain ⟨q32, h33, h⟩ := am_bd h
      refine lt_X10_law_145 _ hd (h := h33) (hk := ?_)
      refine am_Go.n htb 4 (S' := (205, [some (.inr (.inr (some (10, 0)))), some (.inl ((118 : Int32) + ((900 : Int32) * (r17.1 44 0 (2 : Int32).toNatClampNeg)))), none], [.inl 2, .inr (.inr (some (44, 0))), .inl 2, .inr (.inr (some (44, 0)))], am_mk q32)) rfl ?_
      obtain ⟨hg34, h⟩ := am_ck_some h
      refine am_Go.c1 htb (S' := (206, [some (.inr (.inr (some (10, 0)))), some (.inl ((118 : Int32) + ((900 : Int32) * (r17.1 44 0 (2 : Int32).toNatClampNeg)))), none], [.inl (q32.1 44 0 (2 : Int32).toNatClampNeg), .inl 2, .inr (.inr (some (44, 0)))], am_mk q32)) (if_neg hg34) ?_
      refine am_Go.n htb 2 (S' := (208, [some (.inr (.inr (some (10, 0)))), some (.inl ((118 : Int32) + ((900 : Int32) * (r17.1 44 0 (2 : Int32).toNatClampNeg)))), none], [.inl ((q32.1 44 0 (2 : Int32).toNatClampNeg) + (1 : Int32)), .inl 2, .inr (.inr (some (44, 0)))], am_mk q32)) rfl ?_
      obtain ⟨hg35, h⟩ := am_ck_some h
      refine am_Go.c1 htb (S' := (209, [some (.inr (.inr (some (10, 0)))), some (.inl ((118 : Int32) + ((900 : Int32) * (r17.1 44 0 (2 : Int32).toNatClampNeg)))), none], [], am_mk (am_si q32 44 0 (2 : Int32).toNatClampNeg ((q32.1 44 0 (2 : Int32).toNatClampNeg) + (1 : Int32))))) (if_neg hg35) ?_
      refine am_Go.n htb 4 (S' := (215, [some (.inr (.inr (some (10, 0)))), some (.inl ((118 : Int32) + ((900 : Int32) * (r17.1 44 0 (2 : Int32).toNatClampNeg)))), none], [.inl 2, .inr (.inr (some (44, 0))), .inr (.inr (some (10, 0)))], am_mk (am_si q32 44 0 (2 : Int32).toNatClampNeg ((q32.1 44 0 (2 : Int32).toNatClampNeg) + (1 : Int32))))) rfl ?_
      obtain ⟨hg36, h⟩ := am_ck_some h
      refine am_Go.c1 htb (S' := (216, [some (.inr (.inr (some (10, 0)))), some (.inl ((118 : Int32) + ((900 : Int32) * (r17.1 44 0 (2 : Int32).toNatClampNeg)))), none], [.inl ((am_si q32 44 0 (2 : Int32).toNatClampNeg ((q32.1 44 0 (2 : Int32).toNatClampNeg) + (1 : Int32))).1 44 0 (2 : Int32).toNatClampNeg), .inr (.inr (some (10, 0)))], am_mk (am_si q32 44 0 (2 : Int32).toNatClampNeg ((q32.1 44 0 (2 : Int32).toNatClampNeg) + (1 : Int32))))) (if_neg hg36) ?_
      refine am_Go.n htb 2 (S' := (218, [some (.inr (.inr (some (10, 0)))), some (.inl ((118 : Int32) + ((900 : Int32) * (r17.1 44 0 (2 : Int32).toNatClampNeg)))), none], [.inl (((am_si q32 44 0 (2 : Int32).toNatClampNeg ((q32.1 44 0 (2 : Int32).toNatClampNeg) + (1 : Int32))).1 44 0 (2 : Int32).toNatClampNeg) - (1 : Int32)), .inr (.inr (some (10, 0)))], am_mk (am_si q32 44 0 (2 : Int32).toNatClampNeg ((q32.1 44 0 (2 : Int32).toNatClampNeg) + (1 : Int32))))) rfl ?_
      obtain ⟨r37, h38, h⟩ := am_bd h
      refine am_Go.cl htb rfl (ex_X10_tell d (by omega) (((am_si q32 44 0 (2 : Int32).toNatClampNeg ((q32.1 44 0 (2 : Int32).toNatClampNeg) + (1 : Int32))).1 44 0 (2 : Int32).toNatClampNeg) - (1 : Int32)) (am_si q32 44 0 (2 : Int32).toNatClampNeg ((q32.1 44 0 (2 : Int32).toNatClampNeg) + (1 : Int32))) r37 h38) ?_
      show am_Go d 229 (221, [some (.inr (.inr (some (10, 0)))), some (.inl ((118 : Int32) + ((900 : Int32) * (r17.1 44 0 (2 : Int32).toNatClampNeg)))), none], [.inl r37.1], am_mk r37.2) _ _ _ _
      cases h
      exact am_Go.r htb rfl
    · rw [if_neg hc19] at h
      refine am_Go.c1 htb (S' := (75, [some (.inr (.inr (some (10, 0)))), none, none], [], am_mk r17)) (if_neg hc19) ?_
      refine am_Go.n htb 2 (S' := (78, [some (.inr (.inr (some (10, 0)))), none, none], [.inl (-6), .inr (.inr (some (10, 0)))], am_mk r17)) rfl ?_
      obtain ⟨r39, h40, h⟩ := am_bd h
      refine am_Go.cl htb rfl (ex_X10_tell d (by omega) (-6) r17 r39 h40) ?_
      show am_Go d 229 (81, [some (.inr (.inr (some (10, 0)))), none, none], [.inl r39.1], am_mk r39.2) _ _ _ _
      cases h
      exact am_Go.r htb rfl
  · rw [if_neg hc2] at h
    refine am_Go.c1 htb (S' := (16, [some (.inr (.inr (some (10, 0)))), none, none], [], am_mk (am_si m 10 0 0 0))) (if_neg hc2) ?_
    refine am_Go.n htb 5 (S' := (24, [some (.inr (.inr (some (10, 0)))), none, none], [.inl (-5), .inr (.inr (some (10, 0)))], am_mk (am_si (am_si m 10 0 0 0) 10 0 13 0))) rfl ?_
    obtain ⟨r41, h42, h⟩ := am_bd h
    refine am_Go.cl htb rfl (ex_X10_tell d (by omega) (-5) (am_si (am_si m 10 0 0 0) 10 0 13 0) r41 h42) ?_
    show am_Go d 229 (27, [some (.inr (.inr (some (10, 0)))), none, none], [.inl r41.1], am_mk r41.2) _ _ _ _
    cases h
    exact am_Go.r htb rfl
