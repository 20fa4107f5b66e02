-- X10_behindTest
def fn_X10_behindTest  (m : am_m) : Option (Int32 × am_m) :=
  (fn_X10_isWord 1476 m).bind fun r1 => (if r1 ≠ 0 then (fn_X10_settle (if r1 = 0 then (1 : Int32) else (2 : Int32)) m).bind fun r5 => (fn_X10_push (if r1 = 0 then (30 : Int32) else (29 : Int32)) (r5.1 10 0 23) r5).bind fun r8 => (fn_X10_emit (if r1 = 0 then (30 : Int32) else (29 : Int32)) 0 r8).bind fun r11 => (fn_X10_next  r11).bind fun r13 => some (0, r13) else (fn_X10_isWord 498 m).bind fun r15 => (if r15 = 0 then (fn_X10_inner  m).bind fun r18 => (if r18 ≠ (-1 : Int32) then (fn_X10_isSign 41 m).bind fun r21 => (fn_X10_must r21 m).bind fun r23 => (if (r23.1 10 0 19) ≠ 0 then some (2, r23) else (fn_X10_settle 1 r23).bind fun r26 => some (2, am_si (am_si r26 10 0 29 ((r26.1 10 0 29) - (1 : Int32))) 10 0 30 (((am_si r26 10 0 29 ((r26.1 10 0 29) - (1 : Int32))).1 10 0 30) - (1 : Int32)))) else some (4, m)) else (fn_X10_settle (if r1 = 0 then (1 : Int32) else (2 : Int32)) m).bind fun r29 => (fn_X10_push (if r1 = 0 then (30 : Int32) else (29 : Int32)) (r29.1 10 0 23) r29).bind fun r32 => (fn_X10_emit (if r1 = 0 then (30 : Int32) else (29 : Int32)) 0 r32).bind fun r35 => (fn_X10_next  r35).bind fun r37 => some (0, r37)))
set_option maxRecDepth 100000 in
theorem ex_X10_behindTest (d : Nat) (hd : 4 ≤ d)  (m : am_m) (t : Int32 × am_m) (h : fn_X10_behindTest  m = some t) : am_Ex am_cod d 224 [.inr (.inr (some (10, 0)))] (am_mk m) (some (.inl t.1)) (am_mk t.2) 0 0 := by
  obtain ⟨d, rfl⟩ : ∃ e, d = e + 1 := ⟨d - 1, by omega⟩
  have htb : am_tab 224 = at_224 := rfl
  refine ⟨Nat.le_of_ble_eq_true rfl, ?_⟩
  unfold fn_X10_behindTest at h
  show am_Go d 224 (0, [some (.inr (.inr (some (10, 0)))), none], [], am_mk m) _ _ 0 0
  refine am_Go.n htb 2 (S' := (4, [some (.inr (.inr (some (10, 0)))), none], [.inr (.inl 1476), .inr (.inr (some (10, 0)))], am_mk m)) rfl ?_
  obtain ⟨r1, h2, h⟩ := am_bd h
  refine am_Go.cl htb rfl (ex_X10_isWord d (by omega) 1476 m r1 h2) ?_
  show am_Go d 224 (7, [some (.inr (.inr (some (10, 0)))), none], [.inl r1], am_mk m) _ _ _ _
  refine am_Go.n htb 2 (S' := (9, [some (.inr (.inr (some (10, 0)))), some (.inl r1)], [.inl r1], am_mk m)) rfl ?_
  by_cases hc3 : r1 ≠ 0
  · rw [if_pos hc3] at h
    refine am_Go.c1 htb (S' := (22, [some (.inr (.inr (some (10, 0)))), some (.inl r1)], [], am_mk m)) (if_pos hc3) ?_
    refine am_Go.n htb 2 (S' := (24, [some (.inr (.inr (some (10, 0)))), some (.inl r1)], [.inl r1, .inr (.inr (some (10, 0)))], am_mk m)) rfl ?_
    refine am_Go.cut (S := (32, [some (.inr (.inr (some (10, 0)))), some (.inl r1)], [.inl (if r1 = 0 then (1 : Int32) else (2 : Int32)), .inr (.inr (some (10, 0)))], am_mk m)) ?_ (fun key => ?_)
    · obtain ⟨r5, h6, h⟩ := am_bd h
      refine am_Go.cl htb rfl (ex_X10_settle d (by omega) (if r1 = 0 then (1 : Int32) else (2 : Int32)) m r5 h6) ?_
      show am_Go d 224 (35, [some (.inr (.inr (some (10, 0)))), some (.inl r1)], [], am_mk r5) _ _ _ _
      refine am_Go.n htb 2 (S' := (37, [some (.inr (.inr (some (10, 0)))), some (.inl r1)], [.inl r1, .inr (.inr (some (10, 0)))], am_mk r5)) rfl ?_
      refine am_Go.cut (S := (47, [some (.inr (.inr (some (10, 0)))), some (.inl r1)], [.inl (if r1 = 0 then (30 : Int32) else (29 : Int32)), .inr (.inr (some (10, 0)))], am_mk r5)) ?_ (fun key => ?_)
      · refine am_Go.n htb 2 (S' := (51, [some (.inr (.inr (some (10, 0)))), some (.inl r1)], [.inl (r5.1 10 0 23), .inl (if r1 = 0 then (30 : Int32) else (29 : Int32)), .inr (.inr (some (10, 0)))], am_mk r5)) rfl ?_
        obtain ⟨r8, h9, h⟩ := am_bd h
        refine am_Go.cl htb rfl (ex_X10_push d (by omega) (if r1 = 0 then (30 : Int32) else (29 : Int32)) (r5.1 10 0 23) r5 r8 h9) ?_
        show am_Go d 224 (54, [some (.inr (.inr (some (10, 0)))), some (.inl r1)], [], am_mk r8) _ _ _ _
        refine am_Go.n htb 2 (S' := (56, [some (.inr (.inr (some (10, 0)))), some (.inl r1)], [.inl r1, .inr (.inr (some (10, 0)))], am_mk r8)) rfl ?_
        refine am_Go.cut (S := (66, [some (.inr (.inr (some (10, 0)))), some (.inl r1)], [.inl (if r1 = 0 then (30 : Int32) else (29 : Int32)), .inr (.inr (some (10, 0)))], am_mk r8)) ?_ (fun key => ?_)
        · refine am_Go.n htb 1 (S' := (67, [some (.inr (.inr (some (10, 0)))), some (.inl r1)], [.inl 0, .inl (if r1 = 0 then (30 : Int32) else (29 : Int32)), .inr (.inr (some (10, 0)))], am_mk r8)) rfl ?_
          obtain ⟨r11, h12, h⟩ := am_bd h
          refine am_Go.cl htb rfl (ex_X10_emit d (by omega) (if r1 = 0 then (30 : Int32) else (29 : Int32)) 0 r8 r11 h12) ?_
          show am_Go d 224 (70, [some (.inr (.inr (some (10, 0)))), some (.inl r1)], [], am_mk r11) _ _ _ _
          refine am_Go.n htb 1 (S' := (71, [some (.inr (.inr (some (10, 0)))), some (.inl r1)], [.inr (.inr (some (10, 0)))], am_mk r11)) rfl ?_
          obtain ⟨r13, h14, h⟩ := am_bd h
          refine am_Go.cl htb rfl (ex_X10_next d (by omega)  r11 r13 h14) ?_
          show am_Go d 224 (74, [some (.inr (.inr (some (10, 0)))), some (.inl r1)], [], am_mk r13) _ _ _ _
          refine am_Go.n htb 1 (S' := (75, [some (.inr (.inr (some (10, 0)))), some (.inl r1)], [.inl 0], am_mk r13)) rfl ?_
          cases h
          exact am_Go.rt htb rfl
        · by_cases hc10 : r1 = 0
          · refine am_Go.c1 htb (S' := (64, [some (.inr (.inr (some (10, 0)))), some (.inl r1)], [.inr (.inr (some (10, 0)))], am_mk r8)) (if_pos hc10) ?_
            refine am_Go.n htb 1 (S' := (66, [some (.inr (.inr (some (10, 0)))), some (.inl r1)], [.inl 30, .inr (.inr (some (10, 0)))], am_mk r8)) rfl ?_
            simp only [if_pos hc10] at key
            exact am_Go.fg (by exact ⟨rfl, ⟨rfl, trivial⟩⟩) key
          · refine am_Go.c1 htb (S' := (59, [some (.inr (.inr (some (10, 0)))), some (.inl r1)], [.inr (.inr (some (10, 0)))], am_mk r8)) (if_neg hc10) ?_
            refine am_Go.n htb 2 (S' := (66, [some (.inr (.inr (some (10, 0)))), some (.inl r1)], [.inl 29, .inr (.inr (some (10, 0)))], am_mk r8)) rfl ?_
            simp only [if_neg hc10] at key
            exact am_Go.fg (by exact ⟨rfl, ⟨rfl, trivial⟩⟩) key
      · by_cases hc7 : r1 = 0
        · refine am_Go.c1 htb (S' := (45, [some (.inr (.inr (some (10, 0)))), some (.inl r1)], [.inr (.inr (some (10, 0)))], am_mk r5)) (if_pos hc7) ?_
          refine am_Go.n htb 1 (S' := (47, [some (.inr (.inr (some (10, 0)))), some (.inl r1)], [.inl 30, .inr (.inr (some (10, 0)))], am_mk r5)) rfl ?_
          simp only [if_pos hc7] at key
          exact am_Go.fg (by exact ⟨rfl, ⟨rfl, trivial⟩⟩) key
        · refine am_Go.c1 htb (S' := (40, [some (.inr (.inr (some (10, 0)))), some (.inl r1)], [.inr (.inr (some (10, 0)))], am_mk r5)) (if_neg hc7) ?_
          refine am_Go.n htb 2 (S' := (47, [some (.inr (.inr (some (10, 0)))), some (.inl r1)], [.inl 29, .inr (.inr (some (10, 0)))], am_mk r5)) rfl ?_
          simp only [if_neg hc7] at key
          exact am_Go.fg (by exact ⟨rfl, ⟨rfl, trivial⟩⟩) key
    · by_cases hc4 : r1 = 0
      · refine am_Go.c1 htb (S' := (31, [some (.inr (.inr (some (10, 0)))), some (.inl r1)], [.inr (.inr (some (10, 0)))], am_mk m)) (if_pos hc4) ?_
        refine am_Go.n htb 1 (S' := (32, [some (.inr (.inr (some (10, 0)))), some (.inl r1)], [.inl 1, .inr (.inr (some (10, 0)))], am_mk m)) rfl ?_
        simp only [if_pos hc4] at key
        exact am_Go.fg (by exact ⟨rfl, ⟨rfl, trivial⟩⟩) key
      · refine am_Go.c1 htb (S' := (27, [some (.inr (.inr (some (10, 0)))), some (.inl r1)], [.inr (.inr (some (10, 0)))], am_mk m)) (if_neg hc4) ?_
        refine am_Go.n htb 2 (S' := (32, [some (.inr (.inr (some (10, 0)))), some (.inl r1)], [.inl 2, .inr (.inr (some (10, 0)))], am_mk m)) rfl ?_
        simp only [if_neg hc4] at key
        exact am_Go.fg (by exact ⟨rfl, ⟨rfl, trivial⟩⟩) key
  · rw [if_neg hc3] at h
    refine am_Go.c1 htb (S' := (12, [some (.inr (.inr (some (10, 0)))), some (.inl r1)], [], am_mk m)) (if_neg hc3) ?_
    refine am_Go.n htb 2 (S' := (16, [some (.inr (.inr (some (10, 0)))), some (.inl r1)], [.inr (.inl 498), .inr (.inr (some (10, 0)))], am_mk m)) rfl ?_
    obtain ⟨r15, h16, h⟩ := am_bd h
    refine am_Go.cl htb rfl (ex_X10_isWord d (by omega) 498 m r15 h16) ?_
    show am_Go d 224 (19, [some (.inr (.inr (some (10, 0)))), some (.inl r1)], [.inl r15], am_mk m) _ _ _ _
    by_cases hc17 : r15 = 0
    · rw [if_pos hc17] at h
      refine am_Go.c1 htb (S' := (76, [some (.inr (.inr (some (10, 0)))), some (.inl r1)], [], am_mk m)) (if_pos hc17) ?_
      refine am_Go.n htb 1 (S' := (77, [some (.inr (.inr (some (10, 0)))), some (.inl r1)], [.inr (.inr (some (10, 0)))], am_mk m)) rfl ?_
      obtain ⟨r18, h19, h⟩ := am_bd h
      refine am_Go.cl htb rfl (ex_X10_inner d (by omega)  m r18 h19) ?_
      show am_Go d 224 (80, [some (.inr (.inr (some (10, 0)))), some (.inl r1)], [.inl r18], am_mk m) _ _ _ _
      refine am_Go.n htb 1 (S' := (81, [some (.inr (.inr (some (10, 0)))), some (.inl r1)], [.inl (-1), .inl r18], am_mk m)) rfl ?_
      by_cases hc20 : r18 ≠ (-1 : Int32)
      · rw [if_pos hc20] at h
        refine am_Go.c1 htb (S' := (86, [some (.inr (.inr (some (10, 0)))), some (.inl r1)], [], am_mk m)) (if_pos hc20) ?_
        refine am_Go.n htb 3 (S' := (90, [some (.inr (.inr (some (10, 0)))), some (.inl r1)], [.inl 41, .inr (.inr (some (10, 0))), .inr (.inr (some (10, 0)))], am_mk m)) rfl ?_
        obtain ⟨r21, h22, h⟩ := am_bd h
        refine am_Go.cl htb rfl (ex_X10_isSign d (by omega) 41 m r21 h22) ?_
        show am_Go d 224 (93, [some (.inr (.inr (some (10, 0)))), some (.inl r1)], [.inl r21, .inr (.inr (some (10, 0)))], am_mk m) _ _ _ _
        obtain ⟨r23, h24, h⟩ := am_bd h
        refine am_Go.cl htb rfl (ex_X10_must d (by omega) r21 m r23 h24) ?_
        show am_Go d 224 (96, [some (.inr (.inr (some (10, 0)))), some (.inl r1)], [], am_mk r23) _ _ _ _
        refine am_Go.n htb 2 (S' := (100, [some (.inr (.inr (some (10, 0)))), some (.inl r1)], [.inl (r23.1 10 0 19)], am_mk r23)) rfl ?_
        by_cases hc25 : (r23.1 10 0 19) ≠ 0
        · rw [if_pos hc25] at h
          refine am_Go.c1 htb (S' := (128, [some (.inr (.inr (some (10, 0)))), some (.inl r1)], [], am_mk r23)) (if_pos hc25) ?_
          refine am_Go.n htb 1 (S' := (129, [some (.inr (.inr (some (10, 0)))), some (.inl r1)], [.inl 2], am_mk r23)) rfl ?_
          cases h
          exact am_Go.rt htb rfl
        · rw [if_neg hc25] at h
          refine am_Go.c1 htb (S' := (103, [some (.inr (.inr (some (10, 0)))), some (.inl r1)], [], am_mk r23)) (if_neg hc25) ?_
          refine am_Go.n htb 2 (S' := (105, [some (.inr (.inr (some (10, 0)))), some (.inl r1)], [.inl 1, .inr (.inr (some (10, 0)))], am_mk r23)) rfl ?_
          obtain ⟨r26, h27, h⟩ := am_bd h
          refine am_Go.cl htb rfl (ex_X10_settle d (by omega) 1 r23 r26 h27) ?_
          show am_Go d 224 (108, [some (.inr (.inr (some (10, 0)))), some (.inl r1)], [], am_mk r26) _ _ _ _
          refine am_Go.n htb 13 (S' := (129, [some (.inr (.inr (some (10, 0)))), some (.inl r1)], [.inl 2], am_mk (am_si (am_si r26 10 0 29 ((r26.1 10 0 29) - (1 : Int32))) 10 0 30 (((am_si r26 10 0 29 ((r26.1 10 0 29) - (1 : Int32))).1 10 0 30) - (1 : Int32))))) rfl ?_
          cases h
          exact am_Go.rt htb rfl
      · rw [if_neg hc20] at h
        refine am_Go.c1 htb (S' := (84, [some (.inr (.inr (some (10, 0)))), some (.inl r1)], [], am_mk m)) (if_neg hc20) ?_
        refine am_Go.n htb 1 (S' := (85, [some (.inr (.inr (some (10, 0)))), some (.inl r1)], [.inl 4], am_mk m)) rfl ?_
        cases h
        exact am_Go.rt htb rfl
    · rw [if_neg hc17] at h
      refine am_Go.c1 htb (S' := (22, [some (.inr (.inr (some (10, 0)))), some (.inl r1)], [], am_mk m)) (if_neg hc17) ?_
      refine am_Go.n htb 2 (S' := (24, [some (.inr (.inr (some (10, 0)))), some (.inl r1)], [.inl r1, .inr (.inr (some (10, 0)))], am_mk m)) rfl ?_
      refine am_Go.cut (S := (32, [some (.inr (.inr (some (10, 0)))), some (.inl r1)], [.inl (if r1 = 0 then (1 : Int32) else (2 : Int32)), .inr (.inr (some (10, 0)))], am_mk m)) ?_ (fun key => ?_)
      · obtain ⟨r29, h30, h⟩ := am_bd h
        refine am_Go.cl htb rfl (ex_X10_settle d (by omega) (if r1 = 0 then (1 : Int32) else (2 : Int32)) m r29 h30) ?_
        show am_Go d 224 (35, [some (.inr (.inr (some (10, 0)))), some (.inl r1)], [], am_mk r29) _ _ _ _
        refine am_Go.n htb 2 (S' := (37, [some (.inr (.inr (some (10, 0)))), some (.inl r1)], [.inl r1, .inr (.inr (some (10, 0)))], am_mk r29)) rfl ?_
        refine am_Go.cut (S := (47, [some (.inr (.inr (some (10, 0)))), some (.inl r1)], [.inl (if r1 = 0 then (30 : Int32) else (29 : Int32)), .inr (.inr (some (10, 0)))], am_mk r29)) ?_ (fun key => ?_)
        · refine am_Go.n htb 2 (S' := (51, [some (.inr (.inr (some (10, 0)))), some (.inl r1)], [.inl (r29.1 10 0 23), .inl (if r1 = 0 then (30 : Int32) else (29 : Int32)), .inr (.inr (some (10, 0)))], am_mk r29)) rfl ?_
          obtain ⟨r32, h33, h⟩ := am_bd h
          refine am_Go.cl htb rfl (ex_X10_push d (by omega) (if r1 = 0 then (30 : Int32) else (29 : Int32)) (r29.1 10 0 23) r29 r32 h33) ?_
          show am_Go d 224 (54, [some (.inr (.inr (some (10, 0)))), some (.inl r1)], [], am_mk r32) _ _ _ _
          refine am_Go.n htb 2 (S' := (56, [some (.inr (.inr (some (10, 0)))), some (.inl r1)], [.inl r1, .inr (.inr (some (10, 0)))], am_mk r32)) rfl ?_
          refine am_Go.cut (S := (66, [some (.inr (.inr (some (10, 0)))), some (.inl r1)], [.inl (if r1 = 0 then (30 : Int32) else (29 : Int32)), .inr (.inr (some (10, 0)))], am_mk r32)) ?_ (fun key => ?_)
          · refine am_Go.n htb 1 (S' := (67, [some (.inr (.inr (some (10, 0)))), some (.inl r1)], [.inl 0, .inl (if r1 = 0 then (30 : Int32) else (29 : Int32)), .inr (.inr (some (10, 0)))], am_mk r32)) rfl ?_
            obtain ⟨r35, h36, h⟩ := am_bd h
            refine am_Go.cl htb rfl (ex_X10_emit d (by omega) (if r1 = 0 then (30 : Int32) else (29 : Int32)) 0 r32 r35 h36) ?_
            show am_Go d 224 (70, [some (.inr (.inr (some (10, 0)))), some (.inl r1)], [], am_mk r35) _ _ _ _
            refine am_Go.n htb 1 (S' := (71, [some (.inr (.inr (some (10, 0)))), some (.inl r1)], [.inr (.inr (some (10, 0)))], am_mk r35)) rfl ?_
            obtain ⟨r37, h38, h⟩ := am_bd h
            refine am_Go.cl htb rfl (ex_X10_next d (by omega)  r35 r37 h38) ?_
            show am_Go d 224 (74, [some (.inr (.inr (some (10, 0)))), some (.inl r1)], [], am_mk r37) _ _ _ _
            refine am_Go.n htb 1 (S' := (75, [some (.inr (.inr (some (10, 0)))), some (.inl r1)], [.inl 0], am_mk r37)) rfl ?_
            cases h
            exact am_Go.rt htb rfl
          · by_cases hc34 : r1 = 0
            · refine am_Go.c1 htb (S' := (64, [some (.inr (.inr (some (10, 0)))), some (.inl r1)], [.inr (.inr (some (10, 0)))], am_mk r32)) (if_pos hc34) ?_
              refine am_Go.n htb 1 (S' := (66, [some (.inr (.inr (some (10, 0)))), some (.inl r1)], [.inl 30, .inr (.inr (some (10, 0)))], am_mk r32)) rfl ?_
              simp only [if_pos hc34] at key
              exact am_Go.fg (by exact ⟨rfl, ⟨rfl, trivial⟩⟩) key
            · refine am_Go.c1 htb (S' := (59, [some (.inr (.inr (some (10, 0)))), some (.inl r1)], [.inr (.inr (some (10, 0)))], am_mk r32)) (if_neg hc34) ?_
              refine am_Go.n htb 2 (S' := (66, [some (.inr (.inr (some (10, 0)))), some (.inl r1)], [.inl 29, .inr (.inr (some (10, 0)))], am_mk r32)) rfl ?_
              simp only [if_neg hc34] at key
              exact am_Go.fg (by exact ⟨rfl, ⟨rfl, trivial⟩⟩) key
        · by_cases hc31 : r1 = 0
          · refine am_Go.c1 htb (S' := (45, [some (.inr (.inr (some (10, 0)))), some (.inl r1)], [.inr (.inr (some (10, 0)))], am_mk r29)) (if_pos hc31) ?_
            refine am_Go.n htb 1 (S' := (47, [some (.inr (.inr (some (10, 0)))), some (.inl r1)], [.inl 30, .inr (.inr (some (10, 0)))], am_mk r29)) rfl ?_
            simp only [if_pos hc31] at key
            exact am_Go.fg (by exact ⟨rfl, ⟨rfl, trivial⟩⟩) key
          · refine am_Go.c1 htb (S' := (40, [some (.inr (.inr (some (10, 0)))), some (.inl r1)], [.inr (.inr (some (10, 0)))], am_mk r29)) (if_neg hc31) ?_
            refine am_Go.n htb 2 (S' := (47, [some (.inr (.inr (some (10, 0)))), some (.inl r1)], [.inl 29, .inr (.inr (some (10, 0)))], am_mk r29)) rfl ?_
            simp only [if_neg hc31] at key
            exact am_Go.fg (by exact ⟨rfl, ⟨rfl, trivial⟩⟩) key
      · by_cases hc28 : r1 = 0
        · refine am_Go.c1 htb (S' := (31, [some (.inr (.inr (some (10, 0)))), some (.inl r1)], [.inr (.inr (some (10, 0)))], am_mk m)) (if_pos hc28) ?_
          refine am_Go.n htb 1 (S' := (32, [some (.inr (.inr (some (10, 0)))), some (.inl r1)], [.inl 1, .inr (.inr (some (10, 0)))], am_mk m)) rfl ?_
          simp only [if_pos hc28] at key
          exact am_Go.fg (by exact ⟨rfl, ⟨rfl, trivial⟩⟩) key
        · refine am_Go.c1 htb (S' := (27, [some (.inr (.inr (some (10, 0)))), some (.inl r1)], [.inr (.inr (some (10, 0)))], am_mk m)) (if_neg hc28) ?_
          refine am_Go.n htb 2 (S' := (32, [some (.inr (.inr (some (10, 0)))), some (.inl r1)], [.inl 2, .inr (.inr (some (10, 0)))], am_mk m)) rfl ?_
          simp only [if_neg hc28] at key
          exact am_Go.fg (by exact ⟨rfl, ⟨rfl, trivial⟩⟩) key
-- X10_readExpression
def lp_X10_readExpression_20 : Nat → Int32 → Int32 → am_m → Option (am_m)
  | 0, _, _, _ => none
  | n + 1, x1, x2, m =>
  (if (m.1 10 0 19) ≠ 0 then some m else (if x2 = (4 : Int32) then some m else (if x2 ≠ 0 then (if x2 ≠ (1 : Int32) then (if x2 ≠ (3 : Int32) then (fn_X10_behindTest  m).bind fun r7 => some (r7.1, r7.2) else (fn_X10_behindSum x1 m).bind fun r9 => some (r9.1, r9.2)) else (fn_X10_readPart  m).bind fun r11 => some (r11.1, r11.2)) else (fn_X10_readPlain  m).bind fun r13 => some (r13.1, r13.2)).bind fun q15 => lp_X10_readExpression_20 n x1 q15.1 q15.2))
set_option maxRecDepth 100000 in
theorem lt_X10_readExpression_20 (d : Nat) (hd : 7 ≤ d + 1) {r : Option am_V} {M' : am_M} {kc ks : Nat} {n : Nat} {x1 : Int32} {x2 : Int32} {m : am_m} {t : am_m} (h : lp_X10_readExpression_20 n x1 x2 m = some t) (hk : am_Go d 225 (76, [some (.inr (.inr (some (10, 0)))), some (.inl x1), none], [], am_mk t) r M' kc ks) : am_Go d 225 (20, [some (.inr (.inr (some (10, 0)))), some (.inl x1), some (.inl x2)], [], am_mk m) r M' kc ks := by
  have htb : am_tab 225 = at_225 := rfl
  induction n generalizing x2 m with
  | zero => cases h
  | succ n ih =>
    unfold lp_X10_readExpression_20 at h
    refine am_Go.n htb 2 (S' := (24, [some (.inr (.inr (some (10, 0)))), some (.inl x1), some (.inl x2)], [.inl (m.1 10 0 19)], am_mk m)) rfl ?_
    by_cases hc2 : (m.1 10 0 19) ≠ 0
    · rw [if_pos hc2] at h
      refine am_Go.c1 htb (S' := (76, [some (.inr (.inr (some (10, 0)))), some (.inl x1), some (.inl x2)], [], am_mk m)) (if_pos hc2) ?_
      cases h
      exact am_Go.fg (by exact ⟨rfl, ⟨rfl, trivial⟩⟩) hk
    · rw [if_neg hc2] at h
      refine am_Go.c1 htb (S' := (27, [some (.inr (.inr (some (10, 0)))), some (.inl x1), some (.inl x2)], [], am_mk m)) (if_neg hc2) ?_
      refine am_Go.n htb 2 (S' := (29, [some (.inr (.inr (some (10, 0)))), some (.inl x1), some (.inl x2)], [.inl 4, .inl x2], am_mk m)) rfl ?_
      by_cases hc3 : x2 = (4 : Int32)
      · rw [if_pos hc3] at h
        refine am_Go.c1 htb (S' := (76, [some (.inr (.inr (some (10, 0)))), some (.inl x1), some (.inl x2)], [], am_mk m)) (if_pos hc3) ?_
        cases h
        exact am_Go.fg (by exact ⟨rfl, ⟨rfl, trivial⟩⟩) hk
      · rw [if_neg hc3] at h
        refine am_Go.c1 htb (S' := (32, [some (.inr (.inr (some (10, 0)))), some (.inl x1), some (.inl x2)], [], am_mk m)) (if_neg hc3) ?_
        refine am_Go.n htb 1 (S' := (33, [some (.inr (.inr (some (10, 0)))), some (.inl x1), some (.inl x2)], [.inl x2], am_mk m)) rfl ?_
        obtain ⟨q15, h16, h⟩ := am_bd h
        refine am_Go.cut (S := (72, [some (.inr (.inr (some (10, 0)))), some (.inl x1), some (.inl x2)], [.inl q15.1], am_mk q15.2)) ?_ (fun key => ?_)
        · refine am_Go.n htb 2 (S' := (20, [some (.inr (.inr (some (10, 0)))), some (.inl x1), some (.inl q15.1)], [], am_mk q15.2)) rfl ?_
          first | exact ih h | exact ih h hk
        · have h := h16
          by_cases hc4 : x2 ≠ 0
          · rw [if_pos hc4] at h
            refine am_Go.c1 htb (S' := (43, [some (.inr (.inr (some (10, 0)))), some (.inl x1), some (.inl x2)], [], am_mk m)) (if_pos hc4) ?_
            refine am_Go.n htb 2 (S' := (45, [some (.inr (.inr (some (10, 0)))), some (.inl x1), some (.inl x2)], [.inl 1, .inl x2], am_mk m)) rfl ?_
            by_cases hc5 : x2 ≠ (1 : Int32)
            · rw [if_pos hc5] at h
              refine am_Go.c1 htb (S' := (55, [some (.inr (.inr (some (10, 0)))), some (.inl x1), some (.inl x2)], [], am_mk m)) (if_pos hc5) ?_
              refine am_Go.n htb 2 (S' := (57, [some (.inr (.inr (some (10, 0)))), some (.inl x1), some (.inl x2)], [.inl 3, .inl x2], am_mk m)) rfl ?_
              by_cases hc6 : x2 ≠ (3 : Int32)
              · rw [if_pos hc6] at h
                refine am_Go.c1 htb (S' := (68, [some (.inr (.inr (some (10, 0)))), some (.inl x1), some (.inl x2)], [], am_mk m)) (if_pos hc6) ?_
                refine am_Go.n htb 1 (S' := (69, [some (.inr (.inr (some (10, 0)))), some (.inl x1), some (.inl x2)], [.inr (.inr (some (10, 0)))], am_mk m)) rfl ?_
                obtain ⟨r7, h8, h⟩ := am_bd h
                refine am_Go.cl htb rfl (ex_X10_behindTest d (by omega)  m r7 h8) ?_
                show am_Go d 225 (72, [some (.inr (.inr (some (10, 0)))), some (.inl x1), some (.inl x2)], [.inl r7.1], am_mk r7.2) _ _ _ _
                cases h
                exact am_Go.fg (by exact ⟨rfl, ⟨rfl, ⟨rfl, trivial⟩⟩⟩) key
              · rw [if_neg hc6] at h
                refine am_Go.c1 htb (S' := (60, [some (.inr (.inr (some (10, 0)))), some (.inl x1), some (.inl x2)], [], am_mk m)) (if_neg hc6) ?_
                refine am_Go.n htb 2 (S' := (62, [some (.inr (.inr (some (10, 0)))), some (.inl x1), some (.inl x2)], [.inl x1, .inr (.inr (some (10, 0)))], am_mk m)) rfl ?_
                obtain ⟨r9, h10, h⟩ := am_bd h
                refine am_Go.cl htb rfl (ex_X10_behindSum d (by omega) x1 m r9 h10) ?_
                show am_Go d 225 (65, [some (.inr (.inr (some (10, 0)))), some (.inl x1), some (.inl x2)], [.inl r9.1], am_mk r9.2) _ _ _ _
                refine am_Go.n htb 1 (S' := (72, [some (.inr (.inr (some (10, 0)))), some (.inl x1), some (.inl x2)], [.inl r9.1], am_mk r9.2)) rfl ?_
                cases h
                exact am_Go.fg (by exact ⟨rfl, ⟨rfl, ⟨rfl, trivial⟩⟩⟩) key
            · rw [if_neg hc5] at h
              refine am_Go.c1 htb (S' := (48, [some (.inr (.inr (some (10, 0)))), some (.inl x1), some (.inl x2)], [], am_mk m)) (if_neg hc5) ?_
              refine am_Go.n htb 1 (S' := (49, [some (.inr (.inr (some (10, 0)))), some (.inl x1), some (.inl x2)], [.inr (.inr (some (10, 0)))], am_mk m)) rfl ?_
              obtain ⟨r11, h12, h⟩ := am_bd h
              refine am_Go.cl htb rfl (ex_X10_readPart d (by omega)  m r11 h12) ?_
              show am_Go d 225 (52, [some (.inr (.inr (some (10, 0)))), some (.inl x1), some (.inl x2)], [.inl r11.1], am_mk r11.2) _ _ _ _
              refine am_Go.n htb 1 (S' := (72, [some (.inr (.inr (some (10, 0)))), some (.inl x1), some (.inl x2)], [.inl r11.1], am_mk r11.2)) rfl ?_
              cases h
              exact am_Go.fg (by exact ⟨rfl, ⟨rfl, ⟨rfl, trivial⟩⟩⟩) key
          · rw [if_neg hc4] at h
            refine am_Go.c1 htb (S' := (36, [some (.inr (.inr (some (10, 0)))), some (.inl x1), some (.inl x2)], [], am_mk m)) (if_neg hc4) ?_
            refine am_Go.n htb 1 (S' := (37, [some (.inr (.inr (some (10, 0)))), some (.inl x1), some (.inl x2)], [.inr (.inr (some (10, 0)))], am_mk m)) rfl ?_
            obtain ⟨r13, h14, h⟩ := am_bd h
            refine am_Go.cl htb rfl (ex_X10_readPlain d (by omega)  m r13 h14) ?_
            show am_Go d 225 (40, [some (.inr (.inr (some (10, 0)))), some (.inl x1), some (.inl x2)], [.inl r13.1], am_mk r13.2) _ _ _ _
            refine am_Go.n htb 1 (S' := (72, [some (.inr (.inr (some (10, 0)))), some (.inl x1), some (.inl x2)], [.inl r13.1], am_mk r13.2)) rfl ?_
            cases h
            exact am_Go.fg (by exact ⟨rfl, ⟨rfl, ⟨rfl, trivial⟩⟩⟩) key
def fn_X10_readExpression (a1 : Int32) (m : am_m) : Option (am_m) :=
  (lp_X10_readExpression_20 1000000 a1 (if a1 = 0 then (1 : Int32) else (0 : Int32)) (am_si (am_si m 10 0 29 0) 10 0 30 0)).bind fun q17 => (fn_X10_settle 1 q17).bind fun r19 => some r19
set_option maxRecDepth 100000 in
theorem ex_X10_readExpression (d : Nat) (hd : 7 ≤ d) (a1 : Int32) (m : am_m) (t : am_m) (h : fn_X10_readExpression a1 m = some t) : am_Ex am_cod d 225 [.inr (.inr (some (10, 0))), .inl a1] (am_mk m) (none) (am_mk t) 0 0 := by
  obtain ⟨d, rfl⟩ : ∃ e, d = e + 1 := ⟨d - 1, by omega⟩
  have htb : am_tab 225 = at_225 := rfl
  refine ⟨Nat.le_of_ble_eq_true rfl, ?_⟩
  unfold fn_X10_readExpression at h
  show am_Go d 225 (0, [some (.inr (.inr (some (10, 0)))), some (.inl a1), none], [], am_mk m) _ _ 0 0
  refine am_Go.n htb 7 (S' := (11, [some (.inr (.inr (some (10, 0)))), some (.inl a1), none], [.inl a1], am_mk (am_si (am_si m 10 0 29 0) 10 0 30 0))) rfl ?_
  refine am_Go.cut (S := (19, [some (.inr (.inr (some (10, 0)))), some (.inl a1), none], [.inl (if a1 = 0 then (1 : Int32) else (0 : Int32))], am_mk (am_si (am_si m 10 0 29 0) 10 0 30 0))) ?_ (fun key => ?_)
  · refine am_Go.n htb 1 (S' := (20, [some (.inr (.inr (some (10, 0)))), some (.inl a1), some (.inl (if a1 = 0 then (1 : Int32) else (0 : Int32)))], [], am_mk (am_si (am_si m 10 0 29 0) 10 0 30 0))) rfl ?_
    obtain ⟨q17, h18, h⟩ := am_bd h
    refine lt_X10_readExpression_20 _ hd (h := h18) (hk := ?_)
    refine am_Go.n htb 2 (S' := (78, [some (.inr (.inr (some (10, 0)))), some (.inl a1), none], [.inl 1, .inr (.inr (some (10, 0)))], am_mk q17)) rfl ?_
    obtain ⟨r19, h20, h⟩ := am_bd h
    refine am_Go.cl htb rfl (ex_X10_settle d (by omega) 1 q17 r19 h20) ?_
    show am_Go d 225 (81, [some (.inr (.inr (some (10, 0)))), some (.inl a1), none], [], am_mk r19) _ _ _ _
    cases h
    exact am_Go.rt htb rfl
  · by_cases hc1 : a1 = 0
    · refine am_Go.c1 htb (S' := (18, [some (.inr (.inr (some (10, 0)))), some (.inl a1), none], [], am_mk (am_si (am_si m 10 0 29 0) 10 0 30 0))) (if_pos hc1) ?_
      refine am_Go.n htb 1 (S' := (19, [some (.inr (.inr (some (10, 0)))), some (.inl a1), none], [.inl 1], am_mk (am_si (am_si m 10 0 29 0) 10 0 30 0))) rfl ?_
      simp only [if_pos hc1] at key
      exact am_Go.fg (by exact ⟨rfl, ⟨rfl, trivial⟩⟩) key
    · refine am_Go.c1 htb (S' := (14, [some (.inr (.inr (some (10, 0)))), some (.inl a1), none], [], am_mk (am_si (am_si m 10 0 29 0) 10 0 30 0))) (if_neg hc1) ?_
      refine am_Go.n htb 2 (S' := (19, [some (.inr (.inr (some (10, 0)))), some (.inl a1), none], [.inl 0], am_mk (am_si (am_si m 10 0 29 0) 10 0 30 0))) rfl ?_
      simp only [if_neg hc1] at key
      exact am_Go.fg (by exact ⟨rfl, ⟨rfl, trivial⟩⟩) key
-- X10_beginText
def fn_X10_beginText (a1 : Int32) (m : am_m) : Option (am_m) :=
  am_gd (a1 = 0 ∨ a1 = 1) ((fn_X10_begin  (am_si m 10 0 20 a1)).bind fun r2 => some (am_si (am_si (am_si r2 10 0 21 0) 10 0 23 0) 10 0 26 0))
set_option maxRecDepth 100000 in
theorem ex_X10_beginText (d : Nat) (hd : 4 ≤ d) (a1 : Int32) (m : am_m) (t : am_m) (h : fn_X10_beginText a1 m = some t) : am_Ex am_cod d 226 [.inr (.inr (some (10, 0))), .inl a1] (am_mk m) (none) (am_mk t) 0 0 := by
  obtain ⟨d, rfl⟩ : ∃ e, d = e + 1 := ⟨d - 1, by omega⟩
  have htb : am_tab 226 = at_226 := rfl
  refine ⟨Nat.le_of_ble_eq_true rfl, ?_⟩
  unfold fn_X10_beginText at h
  show am_Go d 226 (0, [some (.inr (.inr (some (10, 0)))), some (.inl a1)], [], am_mk m) _ _ 0 0
  refine am_Go.n htb 2 (S' := (2, [some (.inr (.inr (some (10, 0)))), some (.inl a1)], [.inl a1, .inr (.inr (some (10, 0)))], am_mk m)) rfl ?_
  obtain ⟨hz1, h⟩ := am_gd_some h
  refine am_Go.o htb (am_o_pf 10 20 2) rfl (S' := (5, [some (.inr (.inr (some (10, 0)))), some (.inl a1)], [], am_mk (am_si m 10 0 20 a1))) (am_pfz hz1) ?_
  refine am_Go.n htb 1 (S' := (6, [some (.inr (.inr (some (10, 0)))), some (.inl a1)], [.inr (.inr (some (10, 0)))], am_mk (am_si m 10 0 20 a1))) rfl ?_
  obtain ⟨r2, h3, h⟩ := am_bd h
  refine am_Go.cl htb rfl (ex_X10_begin d (by omega)  (am_si m 10 0 20 a1) r2 h3) ?_
  show am_Go d 226 (9, [some (.inr (.inr (some (10, 0)))), some (.inl a1)], [], am_mk r2) _ _ _ _
  refine am_Go.n htb 9 (S' := (24, [some (.inr (.inr (some (10, 0)))), some (.inl a1)], [], am_mk (am_si (am_si (am_si r2 10 0 21 0) 10 0 23 0) 10 0 26 0))) rfl ?_
  cases h
  exact am_Go.rt htb rfl
-- X10_endText
def fn_X10_endText  (m : am_m) : Option (am_m) :=
  (if (m.1 10 0 19) ≠ 0 then some m else (if (m.1 10 0 16) = 0 then some m else (fn_X10_must 0 m).bind fun r3 => some r3)).bind fun q5 => some (am_si (am_si q5 10 0 20 0) 10 0 13 0)
set_option maxRecDepth 100000 in
theorem ex_X10_endText (d : Nat) (hd : 4 ≤ d)  (m : am_m) (t : am_m) (h : fn_X10_endText  m = some t) : am_Ex am_cod d 227 [.inr (.inr (some (10, 0)))] (am_mk m) (none) (am_mk t) 0 0 := by
  obtain ⟨d, rfl⟩ : ∃ e, d = e + 1 := ⟨d - 1, by omega⟩
  have htb : am_tab 227 = at_227 := rfl
  refine ⟨Nat.le_of_ble_eq_true rfl, ?_⟩
  unfold fn_X10_endText at h
  show am_Go d 227 (0, [some (.inr (.inr (some (10, 0))))], [], am_mk m) _ _ 0 0
  refine am_Go.n htb 2 (S' := (4, [some (.inr (.inr (some (10, 0))))], [.inl (m.1 10 0 19)], am_mk m)) rfl ?_
  obtain ⟨q5, h6, h⟩ := am_bd h
  refine am_Go.cut (S := (19, [some (.inr (.inr (some (10, 0))))], [], am_mk q5)) ?_ (fun key => ?_)
  · refine am_Go.n htb 6 (S' := (29, [some (.inr (.inr (some (10, 0))))], [], am_mk (am_si (am_si q5 10 0 20 0) 10 0 13 0))) rfl ?_
    cases h
    exact am_Go.rt htb rfl
  · have h := h6
    by_cases hc1 : (m.1 10 0 19) ≠ 0
    · rw [if_pos hc1] at h
      refine am_Go.c1 htb (S' := (19, [some (.inr (.inr (some (10, 0))))], [], am_mk m)) (if_pos hc1) ?_
      cases h
      exact am_Go.fg (by exact ⟨rfl, trivial⟩) key
    · rw [if_neg hc1] at h
      refine am_Go.c1 htb (S' := (7, [some (.inr (.inr (some (10, 0))))], [], am_mk m)) (if_neg hc1) ?_
      refine am_Go.n htb 2 (S' := (11, [some (.inr (.inr (some (10, 0))))], [.inl (m.1 10 0 16)], am_mk m)) rfl ?_
      by_cases hc2 : (m.1 10 0 16) = 0
      · rw [if_pos hc2] at h
        refine am_Go.c1 htb (S' := (19, [some (.inr (.inr (some (10, 0))))], [], am_mk m)) (if_pos hc2) ?_
        cases h
        exact am_Go.fg (by exact ⟨rfl, trivial⟩) key
      · rw [if_neg hc2] at h
        refine am_Go.c1 htb (S' := (14, [some (.inr (.inr (some (10, 0))))], [], am_mk m)) (if_neg hc2) ?_
        refine am_Go.n htb 2 (S' := (16, [some (.inr (.inr (some (10, 0))))], [.inl 0, .inr (.inr (some (10, 0)))], am_mk m)) rfl ?_
        obtain ⟨r3, h4, h⟩ := am_bd h
        refine am_Go.cl htb rfl (ex_X10_must d (by omega) 0 m r3 h4) ?_
        show am_Go d 227 (19, [some (.inr (.inr (some (10, 0))))], [], am_mk r3) _ _ _ _
        cases h
        exact am_Go.fg (by exact ⟨rfl, trivial⟩) key
-- X10_readLaw
def lp_X10_readLaw_4 : Nat → Int32 → Int32 → am_m → Option (Int32)
  | 0, _, _, _ => none
  | n + 1, x1, x2, m =>
  (if (4 : Int32) ≤ x2 then some x1 else am_ck x2 4 ((fn_X10_isWord (m.2.1 84 0 x2.toNatClampNeg) m).bind fun r3 => lp_X10_readLaw_4 n (if r3 = 0 then x1 else x2) (x2 + 1) m))
set_option maxRecDepth 100000 in
theorem lt_X10_readLaw_4 (d : Nat) (hd : 8 ≤ d + 1) {r : Option am_V} {M' : am_M} {kc ks : Nat} {n : Nat} {x1 : Int32} {x2 : Int32} {m : am_m} {t : Int32} (h : lp_X10_readLaw_4 n x1 x2 m = some t) (hk : am_Go d 228 (34, [some (.inr (.inr (some (10, 0)))), some (.inl t), none, none], [], am_mk m) r M' kc ks) : am_Go d 228 (4, [some (.inr (.inr (some (10, 0)))), some (.inl x1), some (.inl x2), none], [], am_mk m) r M' kc ks := by
  have htb : am_tab 228 = at_228 := rfl
  induction n generalizing x1 x2 with
  | zero => cases h
  | succ n ih =>
    unfold lp_X10_readLaw_4 at h
    refine am_Go.n htb 2 (S' := (6, [some (.inr (.inr (some (10, 0)))), some (.inl x1), some (.inl x2), none], [.inl 4, .inl x2], am_mk m)) rfl ?_
    by_cases hc1 : (4 : Int32) ≤ x2
    · rw [if_pos hc1] at h
      refine am_Go.c1 htb (S' := (34, [some (.inr (.inr (some (10, 0)))), some (.inl x1), some (.inl x2), none], [], am_mk m)) (if_pos hc1) ?_
      cases h
      exact am_Go.fg (by exact ⟨rfl, ⟨rfl, trivial⟩⟩) hk
    · rw [if_neg hc1] at h
      refine am_Go.c1 htb (S' := (9, [some (.inr (.inr (some (10, 0)))), some (.inl x1), some (.inl x2), none], [], am_mk m)) (if_neg hc1) ?_
      refine am_Go.n htb 4 (S' := (15, [some (.inr (.inr (some (10, 0)))), some (.inl x1), some (.inl x2), none], [.inl x2, .inr (.inr (some (84, 0))), .inr (.inr (some (10, 0)))], am_mk m)) rfl ?_
      obtain ⟨hg2, h⟩ := am_ck_some h
      refine am_Go.c1 htb (S' := (16, [some (.inr (.inr (some (10, 0)))), some (.inl x1), some (.inl x2), none], [.inr (.inl (m.2.1 84 0 x2.toNatClampNeg)), .inr (.inr (some (10, 0)))], am_mk m)) (if_neg hg2) ?_
      obtain ⟨r3, h4, h⟩ := am_bd h
      refine am_Go.cl htb rfl (ex_X10_isWord d (by omega) (m.2.1 84 0 x2.toNatClampNeg) m r3 h4) ?_
      show am_Go d 228 (19, [some (.inr (.inr (some (10, 0)))), some (.inl x1), some (.inl x2), none], [.inl r3], am_mk m) _ _ _ _
      refine am_Go.cut (S := (27, [some (.inr (.inr (some (10, 0)))), some (.inl x1), some (.inl x2), none], [.inl (if r3 = 0 then x1 else x2)], am_mk m)) ?_ (fun key => ?_)
      · refine am_Go.n htb 3 (S' := (4, [some (.inr (.inr (some (10, 0)))), some (.inl (if r3 = 0 then x1 else x2)), some (.inl (x2 + 1)), none], [], am_mk m)) rfl ?_
        first | exact ih h | exact ih h hk
      · by_cases hc5 : r3 = 0
        · refine am_Go.c1 htb (S' := (26, [some (.inr (.inr (some (10, 0)))), some (.inl x1), some (.inl x2), none], [], am_mk m)) (if_pos hc5) ?_
          refine am_Go.n htb 1 (S' := (27, [some (.inr (.inr (some (10, 0)))), some (.inl x1), some (.inl x2), none], [.inl x1], am_mk m)) rfl ?_
          simp only [if_pos hc5] at key
          exact am_Go.fg (by exact ⟨rfl, ⟨rfl, ⟨rfl, trivial⟩⟩⟩) key
        · refine am_Go.c1 htb (S' := (22, [some (.inr (.inr (some (10, 0)))), some (.inl x1), some (.inl x2), none], [], am_mk m)) (if_neg hc5) ?_
          refine am_Go.n htb 2 (S' := (27, [some (.inr (.inr (some (10, 0)))), some (.inl x1), some (.inl x2), none], [.inl x2], am_mk m)) rfl ?_
          simp only [if_neg hc5] at key
          exact am_Go.fg (by exact ⟨rfl, ⟨rfl, ⟨rfl, trivial⟩⟩⟩) key
def lp_X10_readLaw_75 : Nat → Int32 → Int32 → Int32 → am_m → Option (am_m)
  | 0, _, _, _, _ => none
  | n + 1, x1, x2, x3, m =>
  (if (8 : Int32) ≤ x3 then some m else am_ck (x2 + x3) 96 (lp_X10_readLaw_75 n x1 x2 (x3 + 1) (am_si m 51 0 (x2 + x3).toNatClampNeg 0)))
set_option maxRecDepth 100000 in
theorem lt_X10_readLaw_75 (d : Nat) (hd : 8 ≤ d + 1) {r : Option am_V} {M' : am_M} {kc ks : Nat} {n : Nat} {x1 : Int32} {x2 : Int32} {x3 : Int32} {m : am_m} {t : am_m} (h : lp_X10_readLaw_75 n x1 x2 x3 m = some t) (hk : am_Go d 228 (96, [some (.inr (.inr (some (10, 0)))), some (.inl x1), some (.inl x2), none], [], am_mk t) r M' kc ks) : am_Go d 228 (75, [some (.inr (.inr (some (10, 0)))), some (.inl x1), some (.inl x2), some (.inl x3)], [], am_mk m) r M' kc ks := by
  have htb : am_tab 228 = at_228 := rfl
  induction n generalizing x3 m with
  | zero => cases h
  | succ n ih =>
    unfold lp_X10_readLaw_75 at h
    refine am_Go.n htb 2 (S' := (78, [some (.inr (.inr (some (10, 0)))), some (.inl x1), some (.inl x2), some (.inl x3)], [.inl 8, .inl x3], am_mk m)) rfl ?_
    by_cases hc14 : (8 : Int32) ≤ x3
    · rw [if_pos hc14] at h
      refine am_Go.c1 htb (S' := (96, [some (.inr (.inr (some (10, 0)))), some (.inl x1), some (.inl x2), some (.inl x3)], [], am_mk m)) (if_pos hc14) ?_
      cases h
      exact am_Go.fg (by exact ⟨rfl, ⟨rfl, ⟨rfl, trivial⟩⟩⟩) hk
    · rw [if_neg hc14] at h
      refine am_Go.c1 htb (S' := (81, [some (.inr (.inr (some (10, 0)))), some (.inl x1), some (.inl x2), some (.inl x3)], [], am_mk m)) (if_neg hc14) ?_
      refine am_Go.n htb 6 (S' := (89, [some (.inr (.inr (some (10, 0)))), some (.inl x1), some (.inl x2), some (.inl x3)], [.inl 0, .inl (x2 + x3), .inr (.inr (some (51, 0)))], am_mk m)) rfl ?_
      obtain ⟨hg15, h⟩ := am_ck_some h
      refine am_Go.c1 htb (S' := (90, [some (.inr (.inr (some (10, 0)))), some (.inl x1), some (.inl x2), some (.inl x3)], [], am_mk (am_si m 51 0 (x2 + x3).toNatClampNeg 0))) (if_neg hg15) ?_
      refine am_Go.n htb 2 (S' := (75, [some (.inr (.inr (some (10, 0)))), some (.inl x1), some (.inl x2), some (.inl (x3 + 1))], [], am_mk (am_si m 51 0 (x2 + x3).toNatClampNeg 0))) rfl ?_
      first | exact ih h | exact ih h hk
def fn_X10_readLaw  (m : am_m) : Option (am_m) :=
  (lp_X10_readLaw_4 1000000 (-1) 0 m).bind fun q6 => (if q6 = (-1 : Int32) then some 0 else (if (12 : Int32) ≤ (m.1 10 0 21) then some 0 else some 1)).bind fun q10 => (fn_X10_must q10 m).bind fun r11 => (if (r11.1 10 0 19) = 0 then (lp_X10_readLaw_75 1000000 q6 ((8 : Int32) * (r11.1 10 0 21)) 0 r11).bind fun q16 => am_ck ((8 : Int32) * (r11.1 10 0 21)) 96 (am_ck (((8 : Int32) * (r11.1 10 0 21)) + (3 : Int32)) 96 ((if q6 = (3 : Int32) then some (am_si (am_si (am_si q16 51 0 ((8 : Int32) * (r11.1 10 0 21)).toNatClampNeg q6) 10 0 21 (((am_si q16 51 0 ((8 : Int32) * (r11.1 10 0 21)).toNatClampNeg q6).1 10 0 21) + (1 : Int32))) 51 0 (((8 : Int32) * (r11.1 10 0 21)) + (3 : Int32)).toNatClampNeg ((am_si (am_si q16 51 0 ((8 : Int32) * (r11.1 10 0 21)).toNatClampNeg q6) 10 0 21 (((am_si q16 51 0 ((8 : Int32) * (r11.1 10 0 21)).toNatClampNeg q6).1 10 0 21) + (1 : Int32))).1 10 0 23)) else (fn_X10_readExpression 0 (am_si (am_si (am_si q16 51 0 ((8 : Int32) * (r11.1 10 0 21)).toNatClampNeg q6) 10 0 21 (((am_si q16 51 0 ((8 : Int32) * (r11.1 10 0 21)).toNatClampNeg q6).1 10 0 21) + (1 : Int32))) 51 0 (((8 : Int32) * (r11.1 10 0 21)) + (3 : Int32)).toNatClampNeg ((am_si (am_si q16 51 0 ((8 : Int32) * (r11.1 10 0 21)).toNatClampNeg q6) 10 0 21 (((am_si q16 51 0 ((8 : Int32) * (r11.1 10 0 21)).toNatClampNeg q6).1 10 0 21) + (1 : Int32))).1 10 0 23))).bind fun r21 => some r21).bind fun q23 => am_ck (((8 : Int32) * (r11.1 10 0 21)) + (4 : Int32)) 96 (am_ck (((8 : Int32) * (r11.1 10 0 21)) + (5 : Int32)) 96 ((if ((am_si (am_si q23 51 0 (((8 : Int32) * (r11.1 10 0 21)) + (4 : Int32)).toNatClampNeg (q23.1 10 0 23)) 51 0 (((8 : Int32) * (r11.1 10 0 21)) + (5 : Int32)).toNatClampNeg ((am_si q23 51 0 (((8 : Int32) * (r11.1 10 0 21)) + (4 : Int32)).toNatClampNeg (q23.1 10 0 23)).1 10 0 23)).1 10 0 19) ≠ 0 then some (am_si (am_si q23 51 0 (((8 : Int32) * (r11.1 10 0 21)) + (4 : Int32)).toNatClampNeg (q23.1 10 0 23)) 51 0 (((8 : Int32) * (r11.1 10 0 21)) + (5 : Int32)).toNatClampNeg ((am_si q23 51 0 (((8 : Int32) * (r11.1 10 0 21)) + (4 : Int32)).toNatClampNeg (q23.1 10 0 23)).1 10 0 23)) else (fn_X10_isWord 294 (am_si (am_si q23 51 0 (((8 : Int32) * (r11.1 10 0 21)) + (4 : Int32)).toNatClampNeg (q23.1 10 0 23)) 51 0 (((8 : Int32) * (r11.1 10 0 21)) + (5 : Int32)).toNatClampNeg ((am_si q23 51 0 (((8 : Int32) * (r11.1 10 0 21)) + (4 : Int32)).toNatClampNeg (q23.1 10 0 23)).1 10 0 23))).bind fun r27 => (if r27 = 0 then some (am_si (am_si q23 51 0 (((8 : Int32) * (r11.1 10 0 21)) + (4 : Int32)).toNatClampNeg (q23.1 10 0 23)) 51 0 (((8 : Int32) * (r11.1 10 0 21)) + (5 : Int32)).toNatClampNeg ((am_si q23 51 0 (((8 : Int32) * (r11.1 10 0 21)) + (4 : Int32)).toNatClampNeg (q23.1 10 0 23)).1 10 0 23)) else (fn_X10_next  (am_si (am_si q23 51 0 (((8 : Int32) * (r11.1 10 0 21)) + (4 : Int32)).toNatClampNeg (q23.1 10 0 23)) 51 0 (((8 : Int32) * (r11.1 10 0 21)) + (5 : Int32)).toNatClampNeg ((am_si q23 51 0 (((8 : Int32) * (r11.1 10 0 21)) + (4 : Int32)).toNatClampNeg (q23.1 10 0 23)).1 10 0 23))).bind fun r30 => (fn_X10_readExpression 1 r30).bind fun r32 => some r32)).bind fun q34 => am_ck (((8 : Int32) * (r11.1 10 0 21)) + (6 : Int32)) 96 (some (am_si q34 51 0 (((8 : Int32) * (r11.1 10 0 21)) + (6 : Int32)).toNatClampNeg (q34.1 10 0 23))))))) else some r11)
set_option maxRecDepth 100000 in
theorem ex_X10_readLaw (d : Nat) (hd : 8 ≤ d)  (m : am_m) (t : am_m) (h : fn_X10_readLaw  m = some t) : am_Ex am_cod d 228 [.inr (.inr (some (10, 0)))] (am_mk m) (none) (am_mk t) 0 0 := by
  obtain ⟨d, rfl⟩ : ∃ e, d = e + 1 := ⟨d - 1, by omega⟩
  have htb : am_tab 228 = at_228 := rfl
  refine ⟨Nat.le_of_ble_eq_true rfl, ?_⟩
  unfold fn_X10_readLaw at h
  show am_Go d 228 (0, [some (.inr (.inr (some (10, 0)))), none, none, none], [], am_mk m) _ _ 0 0
  refine am_Go.n htb 4 (S' := (4, [some (.inr (.inr (some (10, 0)))), some (.inl (-1)), some (.inl 0), none], [], am_mk m)) rfl ?_
  obtain ⟨q6, h7, h⟩ := am_bd h
  refine lt_X10_readLaw_4 _ hd (h := h7) (hk := ?_)
  refine am_Go.n htb 3 (S' := (37, [some (.inr (.inr (some (10, 0)))), some (.inl q6), none, none], [.inl (-1), .inl q6, .inr (.inr (some (10, 0)))], am_mk m)) rfl ?_
  obtain ⟨q10, h38, h⟩ := am_bd h
  refine am_Go.cut (S := (54, [some (.inr (.inr (some (10, 0)))), some (.inl q6), none, none], [.inl q10, .inr (.inr (some (10, 0)))], am_mk m)) ?_ (fun key => ?_)
  · obtain ⟨r11, h12, h⟩ := am_bd h
    refine am_Go.cl htb rfl (ex_X10_must d (by omega) q10 m r11 h12) ?_
    show am_Go d 228 (57, [some (.inr (.inr (some (10, 0)))), some (.inl q6), none, none], [], am_mk r11) _ _ _ _
    refine am_Go.n htb 2 (S' := (61, [some (.inr (.inr (some (10, 0)))), some (.inl q6), none, none], [.inl (r11.1 10 0 19)], am_mk r11)) rfl ?_
    by_cases hc13 : (r11.1 10 0 19) = 0
    · rw [if_pos hc13] at h
      refine am_Go.c1 htb (S' := (65, [some (.inr (.inr (some (10, 0)))), some (.inl q6), none, none], [], am_mk r11)) (if_pos hc13) ?_
      refine am_Go.n htb 7 (S' := (75, [some (.inr (.inr (some (10, 0)))), some (.inl q6), some (.inl ((8 : Int32) * (r11.1 10 0 21))), some (.inl 0)], [], am_mk r11)) rfl ?_
      obtain ⟨q16, h17, h⟩ := am_bd h
      refine lt_X10_readLaw_75 _ hd (h := h17) (hk := ?_)
      refine am_Go.n htb 4 (S' := (102, [some (.inr (.inr (some (10, 0)))), some (.inl q6), some (.inl ((8 : Int32) * (r11.1 10 0 21))), none], [.inl q6, .inl ((8 : Int32) * (r11.1 10 0 21)), .inr (.inr (some (51, 0)))], am_mk q16)) rfl ?_
      obtain ⟨hg18, h⟩ := am_ck_some h
      refine am_Go.c1 htb (S' := (103, [some (.inr (.inr (some (10, 0)))), some (.inl q6), some (.inl ((8 : Int32) * (r11.1 10 0 21))), none], [], am_mk (am_si q16 51 0 ((8 : Int32) * (r11.1 10 0 21)).toNatClampNeg q6))) (if_neg hg18) ?_
      refine am_Go.n htb 13 (S' := (124, [some (.inr (.inr (some (10, 0)))), some (.inl q6), some (.inl ((8 : Int32) * (r11.1 10 0 21))), none], [.inl ((am_si (am_si q16 51 0 ((8 : Int32) * (r11.1 10 0 21)).toNatClampNeg q6) 10 0 21 (((am_si q16 51 0 ((8 : Int32) * (r11.1 10 0 21)).toNatClampNeg q6).1 10 0 21) + (1 : Int32))).1 10 0 23), .inl (((8 : Int32) * (r11.1 10 0 21)) + (3 : Int32)), .inr (.inr (some (51, 0)))], am_mk (am_si (am_si q16 51 0 ((8 : Int32) * (r11.1 10 0 21)).toNatClampNeg q6) 10 0 21 (((am_si q16 51 0 ((8 : Int32) * (r11.1 10 0 21)).toNatClampNeg q6).1 10 0 21) + (1 : Int32))))) rfl ?_
      obtain ⟨hg19, h⟩ := am_ck_some h
      refine am_Go.c1 htb (S' := (125, [some (.inr (.inr (some (10, 0)))), some (.inl q6), some (.inl ((8 : Int32) * (r11.1 10 0 21))), none], [], am_mk (am_si (am_si (am_si q16 51 0 ((8 : Int32) * (r11.1 10 0 21)).toNatClampNeg q6) 10 0 21 (((am_si q16 51 0 ((8 : Int32) * (r11.1 10 0 21)).toNatClampNeg q6).1 10 0 21) + (1 : Int32))) 51 0 (((8 : Int32) * (r11.1 10 0 21)) + (3 : Int32)).toNatClampNeg ((am_si (am_si q16 51 0 ((8 : Int32) * (r11.1 10 0 21)).toNatClampNeg q6) 10 0 21 (((am_si q16 51 0 ((8 : Int32) * (r11.1 10 0 21)).toNatClampNeg q6).1 10 0 21) + (1 : Int32))).1 10 0 23)))) (if_neg hg19) ?_
      refine am_Go.n htb 2 (S' := (127, [some (.inr (.inr (some (10, 0)))), some (.inl q6), some (.inl ((8 : Int32) * (r11.1 10 0 21))), none], [.inl 3, .inl q6], am_mk (am_si (am_si (am_si q16 51 0 ((8 : Int32) * (r11.1 10 0 21)).toNatClampNeg q6) 10 0 21 (((am_si q16 51 0 ((8 : Int32) * (r11.1 10 0 21)).toNatClampNeg q6).1 10 0 21) + (1 : Int32))) 51 0 (((8 : Int32) * (r11.1 10 0 21)) + (3 : Int32)).toNatClampNeg ((am_si (am_si q16 51 0 ((8 : Int32) * (r11.1 10 0 21)).toNatClampNeg q6) 10 0 21 (((am_si q16 51 0 ((8 : Int32) * (r11.1 10 0 21)).toNatClampNeg q6).1 10 0 21) + (1 : Int32))).1 10 0 23)))) rfl ?_
      obtain ⟨q23, h37, h⟩ := am_bd h
      refine am_Go.cut (S := (135, [some (.inr (.inr (some (10, 0)))), some (.inl q6), some (.inl ((8 : Int32) * (r11.1 10 0 21))), none], [], am_mk q23)) ?_ (fun key => ?_)
      · refine am_Go.n htb 7 (S' := (146, [some (.inr (.inr (some (10, 0)))), some (.inl q6), some (.inl ((8 : Int32) * (r11.1 10 0 21))), none], [.inl (q23.1 10 0 23), .inl (((8 : Int32) * (r11.1 10 0 21)) + (4 : Int32)), .inr (.inr (some (51, 0)))], am_mk q23)) rfl ?_
        obtain ⟨hg24, h⟩ := am_ck_some h
        refine am_Go.c1 htb (S' := (147, [some (.inr (.inr (some (10, 0)))), some (.inl q6), some (.inl ((8 : Int32) * (r11.1 10 0 21))), none], [], am_mk (am_si q23 51 0 (((8 : Int32) * (r11.1 10 0 21)) + (4 : Int32)).toNatClampNeg (q23.1 10 0 23)))) (if_neg hg24) ?_
        refine am_Go.n htb 7 (S' := (158, [some (.inr (.inr (some (10, 0)))), some (.inl q6), some (.inl ((8 : Int32) * (r11.1 10 0 21))), none], [.inl ((am_si q23 51 0 (((8 : Int32) * (r11.1 10 0 21)) + (4 : Int32)).toNatClampNeg (q23.1 10 0 23)).1 10 0 23), .inl (((8 : Int32) * (r11.1 10 0 21)) + (5 : Int32)), .inr (.inr (some (51, 0)))], am_mk (am_si q23 51 0 (((8 : Int32) * (r11.1 10 0 21)) + (4 : Int32)).toNatClampNeg (q23.1 10 0 23)))) rfl ?_
        obtain ⟨hg25, h⟩ := am_ck_some h
        refine am_Go.c1 htb (S' := (159, [some (.inr (.inr (some (10, 0)))), some (.inl q6), some (.inl ((8 : Int32) * (r11.1 10 0 21))), none], [], am_mk (am_si (am_si q23 51 0 (((8 : Int32) * (r11.1 10 0 21)) + (4 : Int32)).toNatClampNeg (q23.1 10 0 23)) 51 0 (((8 : Int32) * (r11.1 10 0 21)) + (5 : Int32)).toNatClampNeg ((am_si q23 51 0 (((8 : Int32) * (r11.1 10 0 21)) + (4 : Int32)).toNatClampNeg (q23.1 10 0 23)).1 10 0 23)))) (if_neg hg25) ?_
        refine am_Go.n htb 2 (S' := (163, [some (.inr (.inr (some (10, 0)))), some (.inl q6), some (.inl ((8 : Int32) * (r11.1 10 0 21))), none], [.inl ((am_si (am_si q23 51 0 (((8 : Int32) * (r11.1 10 0 21)) + (4 : Int32)).toNatClampNeg (q23.1 10 0 23)) 51 0 (((8 : Int32) * (r11.1 10 0 21)) + (5 : Int32)).toNatClampNeg ((am_si q23 51 0 (((8 : Int32) * (r11.1 10 0 21)) + (4 : Int32)).toNatClampNeg (q23.1 10 0 23)).1 10 0 23)).1 10 0 19)], am_mk (am_si (am_si q23 51 0 (((8 : Int32) * (r11.1 10 0 21)) + (4 : Int32)).toNatClampNeg (q23.1 10 0 23)) 51 0 (((8 : Int32) * (r11.1 10 0 21)) + (5 : Int32)).toNatClampNeg ((am_si q23 51 0 (((8 : Int32) * (r11.1 10 0 21)) + (4 : Int32)).toNatClampNeg (q23.1 10 0 23)).1 10 0 23)))) rfl ?_
        obtain ⟨q34, h36, h⟩ := am_bd h
        refine am_Go.cut (S := (185, [some (.inr (.inr (some (10, 0)))), some (.inl q6), some (.inl ((8 : Int32) * (r11.1 10 0 21))), none], [], am_mk q34)) ?_ (fun key => ?_)
        · refine am_Go.n htb 7 (S' := (197, [some (.inr (.inr (some (10, 0)))), some (.inl q6), some (.inl ((8 : Int32) * (r11.1 10 0 21))), none], [.inl (q34.1 10 0 23), .inl (((8 : Int32) * (r11.1 10 0 21)) + (6 : Int32)), .inr (.inr (some (51, 0)))], am_mk q34)) rfl ?_
          obtain ⟨hg35, h⟩ := am_ck_some h
          refine am_Go.c1 htb (S' := (198, [some (.inr (.inr (some (10, 0)))), some (.inl q6), some (.inl ((8 : Int32) * (r11.1 10 0 21))), none], [], am_mk (am_si q34 51 0 (((8 : Int32) * (r11.1 10 0 21)) + (6 : Int32)).toNatClampNeg (q34.1 10 0 23)))) (if_neg hg35) ?_
          cases h
          exact am_Go.rt htb rfl
        · have h := h36
          by_cases hc26 : ((am_si (am_si q23 51 0 (((8 : Int32) * (r11.1 10 0 21)) + (4 : Int32)).toNatClampNeg (q23.1 10 0 23)) 51 0 (((8 : Int32) * (r11.1 10 0 21)) + (5 : Int32)).toNatClampNeg ((am_si q23 51 0 (((8 : Int32) * (r11.1 10 0 21)) + (4 : Int32)).toNatClampNeg (q23.1 10 0 23)).1 10 0 23)).1 10 0 19) ≠ 0
          · rw [if_pos hc26] at h
            refine am_Go.c1 htb (S' := (185, [some (.inr (.inr (some (10, 0)))), some (.inl q6), some (.inl ((8 : Int32) * (r11.1 10 0 21))), none], [], am_mk (am_si (am_si q23 51 0 (((8 : Int32) * (r11.1 10 0 21)) + (4 : Int32)).toNatClampNeg (q23.1 10 0 23)) 51 0 (((8 : Int32) * (r11.1 10 0 21)) + (5 : Int32)).toNatClampNeg ((am_si q23 51 0 (((8 : Int32) * (r11.1 10 0 21)) + (4 : Int32)).toNatClampNeg (q23.1 10 0 23)).1 10 0 23)))) (if_pos hc26) ?_
            cases h
            exact am_Go.fg (by exact ⟨rfl, ⟨rfl, ⟨rfl, trivial⟩⟩⟩) key
          · rw [if_neg hc26] at h
            refine am_Go.c1 htb (S' := (166, [some (.inr (.inr (some (10, 0)))), some (.inl q6), some (.inl ((8 : Int32) * (r11.1 10 0 21))), none], [], am_mk (am_si (am_si q23 51 0 (((8 : Int32) * (r11.1 10 0 21)) + (4 : Int32)).toNatClampNeg (q23.1 10 0 23)) 51 0 (((8 : Int32) * (r11.1 10 0 21)) + (5 : Int32)).toNatClampNeg ((am_si q23 51 0 (((8 : Int32) * (r11.1 10 0 21)) + (4 : Int32)).toNatClampNeg (q23.1 10 0 23)).1 10 0 23)))) (if_neg hc26) ?_
            refine am_Go.n htb 2 (S' := (170, [some (.inr (.inr (some (10, 0)))), some (.inl q6), some (.inl ((8 : Int32) * (r11.1 10 0 21))), none], [.inr (.inl 294), .inr (.inr (some (10, 0)))], am_mk (am_si (am_si q23 51 0 (((8 : Int32) * (r11.1 10 0 21)) + (4 : Int32)).toNatClampNeg (q23.1 10 0 23)) 51 0 (((8 : Int32) * (r11.1 10 0 21)) + (5 : Int32)).toNatClampNeg ((am_si q23 51 0 (((8 : Int32) * (r11.1 10 0 21)) + (4 : Int32)).toNatClampNeg (q23.1 10 0 23)).1 10 0 23)))) rfl ?_
            obtain ⟨r27, h28, h⟩ := am_bd h
            refine am_Go.cl htb rfl (ex_X10_isWord d (by omega) 294 (am_si (am_si q23 51 0 (((8 : Int32) * (r11.1 10 0 21)) + (4 : Int32)).toNatClampNeg (q23.1 10 0 23)) 51 0 (((8 : Int32) * (r11.1 10 0 21)) + (5 : Int32)).toNatClampNeg ((am_si q23 51 0 (((8 : Int32) * (r11.1 10 0 21)) + (4 : Int32)).toNatClampNeg (q23.1 10 0 23)).1 10 0 23)) r27 h28) ?_
            show am_Go d 228 (173, [some (.inr (.inr (some (10, 0)))), some (.inl q6), some (.inl ((8 : Int32) * (r11.1 10 0 21))), none], [.inl r27], am_mk (am_si (am_si q23 51 0 (((8 : Int32) * (r11.1 10 0 21)) + (4 : Int32)).toNatClampNeg (q23.1 10 0 23)) 51 0 (((8 : Int32) * (r11.1 10 0 21)) + (5 : Int32)).toNatClampNeg ((am_si q23 51 0 (((8 : Int32) * (r11.1 10 0 21)) + (4 : Int32)).toNatClampNeg (q23.1 10 0 23)).1 10 0 23))) _ _ _ _
            by_cases hc29 : r27 = 0
            · rw [if_pos hc29] at h
              refine am_Go.c1 htb (S' := (185, [some (.inr (.inr (some (10, 0)))), some (.inl q6), some (.inl ((8 : Int32) * (r11.1 10 0 21))), none], [], am_mk (am_si (am_si q23 51 0 (((8 : Int32) * (r11.1 10 0 21)) + (4 : Int32)).toNatClampNeg (q23.1 10 0 23)) 51 0 (((8 : Int32) * (r11.1 10 0 21)) + (5 : Int32)).toNatClampNeg ((am_si q23 51 0 (((8 : Int32) * (r11.1 10 0 21)) + (4 : Int32)).toNatClampNeg (q23.1 10 0 23)).1 10 0 23)))) (if_pos hc29) ?_
              cases h
              exact am_Go.fg (by exact ⟨rfl, ⟨rfl, ⟨rfl, trivial⟩⟩⟩) key
            · rw [if_neg hc29] at h
              refine am_Go.c1 htb (S' := (176, [some (.inr (.inr (some (10, 0)))), some (.inl q6), some (.inl ((8 : Int32) * (r11.1 10 0 21))), none], [], am_mk (am_si (am_si q23 51 0 (((8 : Int32) * (r11.1 10 0 21)) + (4 : Int32)).toNatClampNeg (q23.1 10 0 23)) 51 0 (((8 : Int32) * (r11.1 10 0 21)) + (5 : Int32)).toNatClampNeg ((am_si q23 51 0 (((8 : Int32) * (r11.1 10 0 21)) + (4 : Int32)).toNatClampNeg (q23.1 10 0 23)).1 10 0 23)))) (if_neg hc29) ?_
              refine am_Go.n htb 1 (S' := (177, [some (.inr (.inr (some (10, 0)))), some (.inl q6), some (.inl ((8 : Int32) * (r11.1 10 0 21))), none], [.inr (.inr (some (10, 0)))], am_mk (am_si (am_si q23 51 0 (((8 : Int32) * (r11.1 10 0 21)) + (4 : Int32)).toNatClampNeg (q23.1 10 0 23)) 51 0 (((8 : Int32) * (r11.1 10 0 21)) + (5 : Int32)).toNatClampNeg ((am_si q23 51 0 (((8 : Int32) * (r11.1 10 0 21)) + (4 : Int32)).toNatClampNeg (q23.1 10 0 23)).1 10 0 23)))) rfl ?_
              obtain ⟨r30, h31, h⟩ := am_bd h
              refine am_Go.cl htb rfl (ex_X10_next d (by omega)  (am_si (am_si q23 51 0 (((8 : Int32) * (r11.1 10 0 21)) + (4 : Int32)).toNatClampNeg (q23.1 10 0 23)) 51 0 (((8 : Int32) * (r11.1 10 0 21)) + (5 : Int32)).toNatClampNeg ((am_si q23 51 0 (((8 : Int32) * (r11.1 10 0 21)) + (4 : Int32)).toNatClampNeg (q23.1 10 0 23)).1 10 0 23)) r30 h31) ?_
              show am_Go d 228 (180, [some (.inr (.inr (some (10, 0)))), some (.inl q6), some (.inl ((8 : Int32) * (r11.1 10 0 21))), none], [], am_mk r30) _ _ _ _
              refine am_Go.n htb 2 (S' := (182, [some (.inr (.inr (some (10, 0)))), some (.inl q6), some (.inl ((8 : Int32) * (r11.1 10 0 21))), none], [.inl 1, .inr (.inr (some (10, 0)))], am_mk r30)) rfl ?_
              obtain ⟨r32, h33, h⟩ := am_bd h
              refine am_Go.cl htb rfl (ex_X10_readExpression d (by omega) 1 r30 r32 h33) ?_
              show am_Go d 228 (185, [some (.inr (.inr (some (10, 0)))), some (.inl q6), some (.inl ((8 : Int32) * (r11.1 10 0 21))), none], [], am_mk r32) _ _ _ _
              cases h
              exact am_Go.fg (by exact ⟨rfl, ⟨rfl, ⟨rfl, trivial⟩⟩⟩) key
      · have h := h37
        by_cases hc20 : q6 = (3 : Int32)
        · rw [if_pos hc20] at h
          refine am_Go.c1 htb (S' := (135, [some (.inr (.inr (some (10, 0)))), some (.inl q6), some (.inl ((8 : Int32) * (r11.1 10 0 21))), none], [], am_mk (am_si (am_si (am_si q16 51 0 ((8 : Int32) * (r11.1 10 0 21)).toNatClampNeg q6) 10 0 21 (((am_si q16 51 0 ((8 : Int32) * (r11.1 10 0 21)).toNatClampNeg q6).1 10 0 21) + (1 : Int32))) 51 0 (((8 : Int32) * (r11.1 10 0 21)) + (3 : Int32)).toNatClampNeg ((am_si (am_si q16 51 0 ((8 : Int32) * (r11.1 10 0 21)).toNatClampNeg q6) 10 0 21 (((am_si q16 51 0 ((8 : Int32) * (r11.1 10 0 21)).toNatClampNeg q6).1 10 0 21) + (1 : Int32))).1 10 0 23)))) (if_pos hc20) ?_
          cases h
          exact am_Go.fg (by exact ⟨rfl, ⟨rfl, ⟨rfl, trivial⟩⟩⟩) key
        · rw [if_neg hc20] at h
          refine am_Go.c1 htb (S' := (130, [some (.inr (.inr (some (10, 0)))), some (.inl q6), some (.inl ((8 : Int32) * (r11.1 10 0 21))), none], [], am_mk (am_si (am_si (am_si q16 51 0 ((8 : Int32) * (r11.1 10 0 21)).toNatClampNeg q6) 10 0 21 (((am_si q16 51 0 ((8 : Int32) * (r11.1 10 0 21)).toNatClampNeg q6).1 10 0 21) + (1 : Int32))) 51 0 (((8 : Int32) * (r11.1 10 0 21)) + (3 : Int32)).toNatClampNeg ((am_si (am_si q16 51 0 ((8 : Int32) * (r11.1 10 0 21)).toNatClampNeg q6) 10 0 21 (((am_si q16 51 0 ((8 : Int32) * (r11.1 10 0 21)).toNatClampNeg q6).1 10 0 21) + (1 : Int32))).1 10 0 23)))) (if_neg hc20) ?_
          refine am_Go.n htb 2 (S' := (132, [some (.inr (.inr (some (10, 0)))), some (.inl q6), some (.inl ((8 : Int32) * (r11.1 10 0 21))), none], [.inl 0, .inr (.inr (some (10, 0)))], am_mk (am_si (am_si (am_si q16 51 0 ((8 : Int32) * (r11.1 10 0 21)).toNatClampNeg q6) 10 0 21 (((am_si q16 51 0 ((8 : Int32) * (r11.1 10 0 21)).toNatClampNeg q6).1 10 0 21) + (1 : Int32))) 51 0 (((8 : Int32) * (r11.1 10 0 21)) + (3 : Int32)).toNatClampNeg ((am_si (am_si q16 51 0 ((8 : Int32) * (r11.1 10 0 21)).toNatClampNeg q6) 10 0 21 (((am_si q16 51 0 ((8 : Int32) * (r11.1 10 0 21)).toNatClampNeg q6).1 10 0 21) + (1 : Int32))).1 10 0 23)))) rfl ?_
          obtain ⟨r21, h22, h⟩ := am_bd h
          refine am_Go.cl htb rfl (ex_X10_readExpression d (by omega) 0 (am_si (am_si (am_si q16 51 0 ((8 : Int32) * (r11.1 10 0 21)).toNatClampNeg q6) 10 0 21 (((am_si q16 51 0 ((8 : Int32) * (r11.1 10 0 21)).toNatClampNeg q6).1 10 0 21) + (1 : Int32))) 51 0 (((8 : Int32) * (r11.1 10 0 21)) + (3 : Int32)).toNatClampNeg ((am_si (am_si q16 51 0 ((8 : Int32) * (r11.1 10 0 21)).toNatClampNeg q6) 10 0 21 (((am_si q16 51 0 ((8 : Int32) * (r11.1 10 0 21)).toNatClampNeg q6).1 10 0 21) + (1 : Int32))).1 10 0 23)) r21 h22) ?_
          show am_Go d 228 (135, [some (.inr (.inr (some (10, 0)))), some (.inl q6), some (.inl ((8 : Int32) * (r11.1 10 0 21))), none], [], am_mk r21) _ _ _ _
          cases h
          exact am_Go.fg (by exact ⟨rfl, ⟨rfl, ⟨rfl, trivial⟩⟩⟩) key
    · rw [if_neg hc13] at h
      refine am_Go.c1 htb (S' := (64, [some (.inr (.inr (some (10, 0)))), some (.inl q6), none, none], [], am_mk r11)) (if_neg hc13) ?_
      cases h
      exact am_Go.rt htb rfl
  · have h := h38
    by_cases hc8 : q6 = (-1 : Int32)
    · rw [if_pos hc8] at h
      refine am_Go.c1 htb (S' := (53, [some (.inr (.inr (some (10, 0)))), some (.inl q6), none, none], [.inr (.inr (some (10, 0)))], am_mk m)) (if_pos hc8) ?_
      refine am_Go.n htb 1 (S' := (54, [some (.inr (.inr (some (10, 0)))), some (.inl q6), none, none], [.inl 0, .inr (.inr (some (10, 0)))], am_mk m)) rfl ?_
      cases h
      exact am_Go.fg (by exact ⟨rfl, ⟨rfl, trivial⟩⟩) key
    · rw [if_neg hc8] at h
      refine am_Go.c1 htb (S' := (40, [some (.inr (.inr (some (10, 0)))), some (.inl q6), none, none], [.inr (.inr (some (10, 0)))], am_mk m)) (if_neg hc8) ?_
      refine am_Go.n htb 3 (S' := (46, [some (.inr (.inr (some (10, 0)))), some (.inl q6), none, none], [.inl 12, .inl (m.1 10 0 21), .inr (.inr (some (10, 0)))], am_mk m)) rfl ?_
      by_cases hc9 : (12 : Int32) ≤ (m.1 10 0 21)
      · rw [if_pos hc9] at h
        refine am_Go.c1 htb (S' := (53, [some (.inr (.inr (some (10, 0)))), some (.inl q6), none, none], [.inr (.inr (some (10, 0)))], am_mk m)) (if_pos hc9) ?_
        refine am_Go.n htb 1 (S' := (54, [some (.inr (.inr (some (10, 0)))), some (.inl q6), none, none], [.inl 0, .inr (.inr (some (10, 0)))], am_mk m)) rfl ?_
        cases h
        exact am_Go.fg (by exact ⟨rfl, ⟨rfl, trivial⟩⟩) key
      · rw [if_neg hc9] at h
        refine am_Go.c1 htb (S' := (49, [some (.inr (.inr (some (10, 0)))), some (.inl q6), none, none], [.inr (.inr (some (10, 0)))], am_mk m)) (if_neg hc9) ?_
        refine am_Go.n htb 2 (S' := (54, [some (.inr (.inr (some (10, 0)))), some (.inl q6), none, none], [.inl 1, .inr (.inr (some (10, 0)))], am_mk m)) rfl ?_
        cases h
        exact am_Go.fg (by exact ⟨rfl, ⟨rfl, trivial⟩⟩) key
-- X10_law
def lp_X10_law_37 : Nat → am_m → Option (am_m)
  | 0, _ => none
  | n + 1, m =>
  (if (m.1 10 0 19) ≠ 0 then some m else (fn_X10_isSign 59 m).bind fun r7 => (if r7 = 0 then some m else (fn_X10_next  m).bind fun r10 => (fn_X10_readLaw  r10).bind fun r12 => lp_X10_law_37 n  r12))
set_option maxRecDepth 100000 in
theorem lt_X10_law_37 (d : Nat) (hd : 9 ≤ d + 1) {r : Option am_V} {M' : am_M} {kc ks : Nat} {n : Nat} {m : am_m} {t : am_m} (h : lp_X10_law_37 n  m = some t) (hk : am_Go d 229 (64, [some (.inr (.inr (some (10, 0)))), none, none], [], am_mk t) r M' kc ks) : am_Go d 229 (37, [some (.inr (.inr (some (10, 0)))), none, none], [], am_mk m) r M' kc ks := by
  have htb : am_tab 229 = at_229 := rfl
  induction n generalizing m with
  | zero => cases h
  | succ n ih =>
    unfold lp_X10_law_37 at h
    refine am_Go.n htb 2 (S' := (41, [some (.inr (.inr (some (10, 0)))), none, none], [.inl (m.1 10 0 19)], am_mk m)) rfl ?_
    by_cases hc6 : (m.1 10 0 19) ≠ 0
    · rw [if_pos hc6] at h
      refine am_Go.c1 htb (S' := (64, [some (.inr (.inr (some (10, 0)))), none, none], [], am_mk m)) (if_pos hc6) ?_
      cases h
      exact am_Go.fg (by exact ⟨rfl, trivial⟩) hk
    · rw [if_neg hc6] at h
      refine am_Go.c1 htb (S' := (44, [some (.inr (.inr (some (10, 0)))), none, none], [], am_mk m)) (if_neg hc6) ?_
      refine am_Go.n htb 2 (S' := (47, [some (.inr (.inr (some (10, 0)))), none, none], [.inl 59, .inr (.inr (some (10, 0)))], am_mk m)) rfl ?_
      obtain ⟨r7, h8, h⟩ := am_bd h
      refine am_Go.cl htb rfl (ex_X10_isSign d (by omega) 59 m r7 h8) ?_
      show am_Go d 229 (50, [some (.inr (.inr (some (10, 0)))), none, none], [.inl r7], am_mk m) _ _ _ _
      by_cases hc9 : r7 = 0
      · rw [if_pos hc9] at h
        refine am_Go.c1 htb (S' := (64, [some (.inr (.inr (some (10, 0)))), none, none], [], am_mk m)) (if_pos hc9) ?_
        cases h
        exact am_Go.fg (by exact ⟨rfl, trivial⟩) hk
      · rw [if_neg hc9] at h
        refine am_Go.c1 htb (S' := (53, [some (.inr (.inr (some (10, 0)))), none, none], [], am_mk m)) (if_neg hc9) ?_
        refine am_Go.n htb 1 (S' := (54, [some (.inr (.inr (some (10, 0)))), none, none], [.inr (.inr (some (10, 0)))], am_mk m)) rfl ?_
        obtain ⟨r10, h11, h⟩ := am_bd h
        refine am_Go.cl htb rfl (ex_X10_next d (by omega)  m r10 h11) ?_
        show am_Go d 229 (57, [some (.inr (.inr (some (10, 0)))), none, none], [], am_mk r10) _ _ _ _
        refine am_Go.n htb 1 (S' := (58, [some (.inr (.inr (some (10, 0)))), none, none], [.inr (.inr (some (10, 0)))], am_mk r10)) rfl ?_
        obtain ⟨r12, h13, h⟩ := am_bd h
        refine am_Go.cl htb rfl (ex_X10_readLaw d (by omega)  r10 r12 h13) ?_
        show am_Go d 229 (61, [some (.inr (.inr (some (10, 0)))), none, none], [], am_mk r12) _ _ _ _
        refine am_Go.n htb 1 (S' := (37, [some (.inr (.inr (some (10, 0)))), none, none], [], am_mk r12)) rfl ?_
        first | exact ih h | exact ih h hk
def lp_X10_law_110 : Nat → Int32 → Int32 → am_m → Option (am_m)
  | 0, _, _, _ => none
  | n + 1, x1, x2, m =>
  (if ((8 : Int32) * (m.1 10 0 21)) ≤ x2 then some m else am_ck x2 96 (am_ck ((x1 + (2 : Int32)) + x2) 5518 (lp_X10_law_110 n x1 (x2 + 1) (am_si m 44 0 ((x1 + (2 : Int32)) + x2).toNatClampNeg (m.1 51 0 x2.toNatClampNeg)))))
set_option maxRecDepth 100000 in
theorem lt_X10_law_110 (d : Nat) (hd : 9 ≤ d + 1) {r : Option am_V} {M' : am_M} {kc ks : Nat} {n : Nat} {x1 : Int32} {x2 : Int32} {m : am_m} {t : am_m} (h : lp_X10_law_110 n x1 x2 m = some t) (hk : am_Go d 229 (143, [some (.inr (.inr (some (10, 0)))), some (.inl x1), none], [], am_mk t) r M' kc ks) : am_Go d 229 (110, [some (.inr (.inr (some (10, 0)))), some (.inl x1), some (.inl x2)], [], am_mk m) r M' kc ks := by
  have htb : am_tab 229 = at_229 := rfl
  induction n generalizing x2 m with
  | zero => cases h
  | succ n ih =>
    unfold lp_X10_law_110 at h
    refine am_Go.n htb 5 (S' := (118, [some (.inr (.inr (some (10, 0)))), some (.inl x1), some (.inl x2)], [.inl ((8 : Int32) * (m.1 10 0 21)), .inl x2], am_mk m)) rfl ?_
    by_cases hc20 : ((8 : Int32) * (m.1 10 0 21)) ≤ x2
    · rw [if_pos hc20] at h
      refine am_Go.c1 htb (S' := (143, [some (.inr (.inr (some (10, 0)))), some (.inl x1), some (.inl x2)], [], am_mk m)) (if_pos hc20) ?_
      cases h
      exact am_Go.fg (by exact ⟨rfl, ⟨rfl, trivial⟩⟩) hk
    · rw [if_neg hc20] at h
      refine am_Go.c1 htb (S' := (121, [some (.inr (.inr (some (10, 0)))), some (.inl x1), some (.inl x2)], [], am_mk m)) (if_neg hc20) ?_
      refine am_Go.n htb 10 (S' := (135, [some (.inr (.inr (some (10, 0)))), some (.inl x1), some (.inl x2)], [.inl x2, .inr (.inr (some (51, 0))), .inl ((x1 + (2 : Int32)) + x2), .inr (.inr (some (44, 0)))], am_mk m)) rfl ?_
      obtain ⟨hg21, h⟩ := am_ck_some h
      refine am_Go.c1 htb (S' := (136, [some (.inr (.inr (some (10, 0)))), some (.inl x1), some (.inl x2)], [.inl (m.1 51 0 x2.toNatClampNeg), .inl ((x1 + (2 : Int32)) + x2), .inr (.inr (some (44, 0)))], am_mk m)) (if_neg hg21) ?_
      obtain ⟨hg22, h⟩ := am_ck_some h
      refine am_Go.c1 htb (S' := (137, [some (.inr (.inr (some (10, 0)))), some (.inl x1), some (.inl x2)], [], am_mk (am_si m 44 0 ((x1 + (2 : Int32)) + x2).toNatClampNeg (m.1 51 0 x2.toNatClampNeg)))) (if_neg hg22) ?_
      refine am_Go.n htb 2 (S' := (110, [some (.inr (.inr (some (10, 0)))), some (.inl x1), some (.inl (x2 + 1))], [], am_mk (am_si m 44 0 ((x1 + (2 : Int32)) + x2).toNatClampNeg (m.1 51 0 x2.toNatClampNeg)))) rfl ?_
      first | exact ih h | exact ih h hk
def lp_X10_law_145 : Nat → Int32 → Int32 → am_m → Option (am_m)
  | 0, _, _, _ => none
  | n + 1, x1, x2, m =>
  (if (m.1 10 0 23) ≤ x2 then some m else am_ck x2 400 (am_ck ((x1 + (98 : Int32)) + ((2 : Int32) * x2)) 5518 (am_ck x2 400 (am_ck (((x1 + (98 : Int32)) + ((2 : Int32) * x2)) + (1 : Int32)) 5518 (lp_X10_law_145 n x1 (x2 + 1) (am_si (am_si m 44 0 ((x1 + (98 : Int32)) + ((2 : Int32) * x2)).toNatClampNeg (m.1 52 0 x2.toNatClampNeg)) 44 0 (((x1 + (98 : Int32)) + ((2 : Int32) * x2)) + (1 : Int32)).toNatClampNeg ((am_si m 44 0 ((x1 + (98 : Int32)) + ((2 : Int32) * x2)).toNatClampNeg (m.1 52 0 x2.toNatClampNeg)).1 53 0 x2.toNatClampNeg)))))))
set_option maxRecDepth 100000 in
theorem lt_X10_law_145 (d : Nat) (hd : 9 ≤ d + 1) {r : Option am_V} {M' : am_M} {kc ks : Nat} {n : Nat} {x1 : Int32} {x2 : Int32} {m : am_m} {t : am_m} (h : lp_X10_law_145 n x1 x2 m = some t) (hk : am_Go d 229 (199, [some (.inr (.inr (some (10, 0)))), some (.inl x1), none], [], am_mk t) r M' kc ks) : am_Go d 229 (145, [some (.inr (.inr (some (10, 0)))), some (.inl x1), some (.inl x2)], [], am_mk m) r M' kc ks := by
  have htb : am_tab 229 = at_229 := rfl
  induction n generalizing x2 m with
  | zero => cases h
  | succ n ih =>
    unfold lp_X10_law_145 at h
    refine am_Go.n htb 3 (S' := (150, [some (.inr (.inr (some (10, 0)))), some (.inl x1), some (.inl x2)], [.inl (m.1 10 0 23), .inl x2], am_mk m)) rfl ?_
    by_cases hc25 : (m.1 10 0 23) ≤ x2
    · rw [if_pos hc25] at h
      refine am_Go.c1 htb (S' := (199, [some (.inr (.inr (some (10, 0)))), some (.inl x1), some (.inl x2)], [], am_mk m)) (if_pos hc25) ?_
      cases h
      exact am_Go.fg (by exact ⟨rfl, ⟨rfl, trivial⟩⟩) hk
    · rw [if_neg hc25] at h
      refine am_Go.c1 htb (S' := (153, [some (.inr (.inr (some (10, 0)))), some (.inl x1), some (.inl x2)], [], am_mk m)) (if_neg hc25) ?_
      refine am_Go.n htb 12 (S' := (170, [some (.inr (.inr (some (10, 0)))), some (.inl x1), some (.inl x2)], [.inl x2, .inr (.inr (some (52, 0))), .inl ((x1 + (98 : Int32)) + ((2 : Int32) * x2)), .inr (.inr (some (44, 0)))], am_mk m)) rfl ?_
      obtain ⟨hg26, h⟩ := am_ck_some h
      refine am_Go.c1 htb (S' := (171, [some (.inr (.inr (some (10, 0)))), some (.inl x1), some (.inl x2)], [.inl (m.1 52 0 x2.toNatClampNeg), .inl ((x1 + (98 : Int32)) + ((2 : Int32) * x2)), .inr (.inr (some (44, 0)))], am_mk m)) (if_neg hg26) ?_
      obtain ⟨hg27, h⟩ := am_ck_some h
      refine am_Go.c1 htb (S' := (172, [some (.inr (.inr (some (10, 0)))), some (.inl x1), some (.inl x2)], [], am_mk (am_si m 44 0 ((x1 + (98 : Int32)) + ((2 : Int32) * x2)).toNatClampNeg (m.1 52 0 x2.toNatClampNeg)))) (if_neg hg27) ?_
      refine am_Go.n htb 14 (S' := (191, [some (.inr (.inr (some (10, 0)))), some (.inl x1), some (.inl x2)], [.inl x2, .inr (.inr (some (53, 0))), .inl (((x1 + (98 : Int32)) + ((2 : Int32) * x2)) + (1 : Int32)), .inr (.inr (some (44, 0)))], am_mk (am_si m 44 0 ((x1 + (98 : Int32)) + ((2 : Int32) * x2)).toNatClampNeg (m.1 52 0 x2.toNatClampNeg)))) rfl ?_
      obtain ⟨hg28, h⟩ := am_ck_some h
      refine am_Go.c1 htb (S' := (192, [some (.inr (.inr (some (10, 0)))), some (.inl x1), some (.inl x2)], [.inl ((am_si m 44 0 ((x1 + (98 : Int32)) + ((2 : Int32) * x2)).toNatClampNeg (m.1 52 0 x2.toNatClampNeg)).1 53 0 x2.toNatClampNeg), .inl (((x1 + (98 : Int32)) + ((2 : Int32) * x2)) + (1 : Int32)), .inr (.inr (some (44, 0)))], am_mk (am_si m 44 0 ((x1 + (98 : Int32)) + ((2 : Int32) * x2)).toNatClampNeg (m.1 52 0 x2.toNatClampNeg)))) (if_neg hg28) ?_
      obtain ⟨hg29, h⟩ := am_ck_some h
      refine am_Go.c1 htb (S' := (193, [some (.inr (.inr (some (10, 0)))), some (.inl x1), some (.inl x2)], [], am_mk (am_si (am_si m 44 0 ((x1 + (98 : Int32)) + ((2 : Int32) * x2)).toNatClampNeg (m.1 52 0 x2.toNatClampNeg)) 44 0 (((x1 + (98 : Int32)) + ((2 : Int32) * x2)) + (1 : Int32)).toNatClampNeg ((am_si m 44 0 ((x1 + (98 : Int32)) + ((2 : Int32) * x2)).toNatClampNeg (m.1 52 0 x2.toNatClampNeg)).1 53 0 x2.toNatClampNeg)))) (if_neg hg29) ?_
      refine am_Go.n htb 2 (S' := (145, [some (.inr (.inr (some (10, 0)))), some (.inl x1), some (.inl (x2 + 1))], [], am_mk (am_si (am_si m 44 0 ((x1 + (98 : Int32)) + ((2 : Int32) * x2)).toNatClampNeg (m.1 52 0 x2.toNatClampNeg)) 44 0 (((x1 + (98 : Int32)) + ((2 : Int32) * x2)) + (1 : Int32)).toNatClampNeg ((am_si m 44 0 ((x1 + (98 : Int32)) + ((2 : Int32) * x2)).toNatClampNeg (m.1 52 0 x2.toNatClampNeg)).1 53 0 x2.toNatClampNeg)))) rfl ?_
      first | exact ih h | exact ih h hk
def fn_X10_law  (m : am_m) : Option (Int32 × am_m) :=
  (if ((am_si m 10 0 0 0).1 44 0 2) ≠ (6 : Int32) then (fn_X10_beginText 0 (am_si m 10 0 0 0)).bind fun r2 => (fn_X10_readLaw  r2).bind fun r4 => (lp_X10_law_37 1000000  r4).bind fun q14 => (fn_X10_endText  q14).bind fun r16 => (if (r16.1 10 0 19) = 0 then am_ck (((118 : Int32) + ((900 : Int32) * (r16.1 44 0 2))) + (1 : Int32)) 5518 ((lp_X10_law_110 1000000 ((118 : Int32) + ((900 : Int32) * (r16.1 44 0 2))) 0 (am_si r16 44 0 (((118 : Int32) + ((900 : Int32) * (r16.1 44 0 2))) + (1 : Int32)).toNatClampNeg (r16.1 10 0 21))).bind fun q23 => (lp_X10_law_145 1000000 ((118 : Int32) + ((900 : Int32) * (r16.1 44 0 2))) 0 q23).bind fun q30 => (fn_X10_tell (((am_si q30 44 0 2 ((q30.1 44 0 2) + (1 : Int32))).1 44 0 2) - (1 : Int32)) (am_si q30 44 0 2 ((q30.1 44 0 2) + (1 : Int32)))).bind fun r32 => some (r32.1, r32.2)) else (fn_X10_tell (-6) r16).bind fun r34 => some (r34.1, r34.2)) else (fn_X10_tell (-5) (am_si (am_si m 10 0 0 0) 10 0 13 0)).bind fun r36 => some (r36.1, r36.2))
set_option maxRecDepth 100000 in
theorem ex_X10_law (d : Nat) (hd : 9 ≤ d)  (m : am_m) (t : Int32 × am_m) (h : fn_X10_law  m = some t) : am_Ex am_cod d 229 [.inr (.inr (some (10, 0)))] (am_mk m) (some (.inl t.1)) (am_mk t.2) 0 0 := by
  obtain ⟨d, rfl⟩ : ∃ e, d = e + 1 := ⟨d - 1, by omega⟩
  have htb : am_tab 229 = at_229 := rfl
  refine ⟨Nat.le_of_ble_eq_true rfl, ?_⟩
  unfold fn_X10_law at h
  show am_Go d 229 (0, [some (.inr (.inr (some (10, 0)))), none, none], [], am_mk m) _ _ 0 0
  refine am_Go.n htb 8 (S' := (13, [some (.inr (.inr (some (10, 0)))), none, none], [.inl 6, .inl ((am_si m 10 0 0 0).1 44 0 2)], am_mk (am_si m 10 0 0 0))) rfl ?_
  by_cases hc1 : ((am_si m 10 0 0 0).1 44 0 2) ≠ (6 : Int32)
  · rw [if_pos hc1] at h
    refine am_Go.c1 htb (S' := (28, [some (.inr (.inr (some (10, 0)))), none, none], [], am_mk (am_si m 10 0 0 0))) (if_pos hc1) ?_
    refine am_Go.n htb 2 (S' := (30, [some (.inr (.inr (some (10, 0)))), none, none], [.inl 0, .inr (.inr (some (10, 0)))], am_mk (am_si m 10 0 0 0))) rfl ?_
    obtain ⟨r2, h3, h⟩ := am_bd h
    refine am_Go.cl htb rfl (ex_X10_beginText d (by omega) 0 (am_si m 10 0 0 0) r2 h3) ?_
    show am_Go d 229 (33, [some (.inr (.inr (some (10, 0)))), none, none], [], am_mk r2) _ _ _ _
    refine am_Go.n htb 1 (S' := (34, [some (.inr (.inr (some (10, 0)))), none, none], [.inr (.inr (some (10, 0)))], am_mk r2)) rfl ?_
    obtain ⟨r4, h5, h⟩ := am_bd h
    refine am_Go.cl htb rfl (ex_X10_readLaw d (by omega)  r2 r4 h5) ?_
    show am_Go d 229 (37, [some (.inr (.inr (some (10, 0)))), none, none], [], am_mk r4) _ _ _ _
    obtain ⟨q14, h15, h⟩ := am_bd h
    refine lt_X10_law_37 _ hd (h := h15) (hk := ?_)
    refine am_Go.n htb 1 (S' := (65, [some (.inr (.inr (some (10, 0)))), none, none], [.inr (.inr (some (10, 0)))], am_mk q14)) rfl ?_
    obtain ⟨r16, h17, h⟩ := am_bd h
    refine am_Go.cl htb rfl (ex_X10_endText d (by omega)  q14 r16 h17) ?_
    show am_Go d 229 (68, [some (.inr (.inr (some (10, 0)))), none, none], [], am_mk r16) _ _ _ _
    refine am_Go.n htb 2 (S' := (72, [some (.inr (.inr (some (10, 0)))), none, none], [.inl (r16.1 10 0 19)], am_mk r16)) rfl ?_
    by_cases hc18 : (r16.1 10 0 19) = 0
    · rw [if_pos hc18] at h
      refine am_Go.c1 htb (S' := (82, [some (.inr (.inr (some (10, 0)))), none, none], [], am_mk r16)) (if_pos hc18) ?_
      refine am_Go.n htb 16 (S' := (107, [some (.inr (.inr (some (10, 0)))), some (.inl ((118 : Int32) + ((900 : Int32) * (r16.1 44 0 2)))), none], [.inl (r16.1 10 0 21), .inl (((118 : Int32) + ((900 : Int32) * (r16.1 44 0 2))) + (1 : Int32)), .inr (.inr (some (44, 0)))], am_mk r16)) rfl ?_
      obtain ⟨hg19, h⟩ := am_ck_some h
      refine am_Go.c1 htb (S' := (108, [some (.inr (.inr (some (10, 0)))), some (.inl ((118 : Int32) + ((900 : Int32) * (r16.1 44 0 2)))), none], [], am_mk (am_si r16 44 0 (((118 : Int32) + ((900 : Int32) * (r16.1 44 0 2))) + (1 : Int32)).toNatClampNeg (r16.1 10 0 21)))) (if_neg hg19) ?_
      refine am_Go.n htb 2 (S' := (110, [some (.inr (.inr (some (10, 0)))), some (.inl ((118 : Int32) + ((900 : Int32) * (r16.1 44 0 2)))), some (.inl 0)], [], am_mk (am_si r16 44 0 (((118 : Int32) + ((900 : Int32) * (r16.1 44 0 2))) + (1 : Int32)).toNatClampNeg (r16.1 10 0 21)))) rfl ?_
      obtain ⟨q23, h24, h⟩ := am_bd h
      refine lt_X10_law_110 _ hd (h := h24) (hk := ?_)
      refine am_Go.n htb 2 (S' := (145, [some (.inr (.inr (some (10, 0)))), some (.inl ((118 : Int32) + ((900 : Int32) * (r16.1 44 0 2)))), some (.inl 0)], [], am_mk q23)) rfl ?_
      obtain ⟨q30, h31, h⟩ := am_bd h
      refine lt_X10_law_145 _ hd (h := h31) (hk := ?_)
      refine am_Go.n htb 15 (S' := (218, [some (.inr (.inr (some (10, 0)))), some (.inl ((118 : Int32) + ((900 : Int32) * (r16.1 44 0 2)))), none], [.inl (((am_si q30 44 0 2 ((q30.1 44 0 2) + (1 : Int32))).1 44 0 2) - (1 : Int32)), .inr (.inr (some (10, 0)))], am_mk (am_si q30 44 0 2 ((q30.1 44 0 2) + (1 : Int32))))) rfl ?_
      obtain ⟨r32, h33, h⟩ := am_bd h
      refine am_Go.cl htb rfl (ex_X10_tell d (by omega) (((am_si q30 44 0 2 ((q30.1 44 0 2) + (1 : Int32))).1 44 0 2) - (1 : Int32)) (am_si q30 44 0 2 ((q30.1 44 0 2) + (1 : Int32))) r32 h33) ?_
      show am_Go d 229 (221, [some (.inr (.inr (some (10, 0)))), some (.inl ((118 : Int32) + ((900 : Int32) * (r16.1 44 0 2)))), none], [.inl r32.1], am_mk r32.2) _ _ _ _
      cases h
      exact am_Go.rt htb rfl
    · rw [if_neg hc18] at h
      refine am_Go.c1 htb (S' := (75, [some (.inr (.inr (some (10, 0)))), none, none], [], am_mk r16)) (if_neg hc18) ?_
      refine am_Go.n htb 2 (S' := (78, [some (.inr (.inr (some (10, 0)))), none, none], [.inl (-6), .inr (.inr (some (10, 0)))], am_mk r16)) rfl ?_
      obtain ⟨r34, h35, h⟩ := am_bd h
      refine am_Go.cl htb rfl (ex_X10_tell d (by omega) (-6) r16 r34 h35) ?_
      show am_Go d 229 (81, [some (.inr (.inr (some (10, 0)))), none, none], [.inl r34.1], am_mk r34.2) _ _ _ _
      cases h
      exact am_Go.rt htb rfl
  · rw [if_neg hc1] at h
    refine am_Go.c1 htb (S' := (16, [some (.inr (.inr (some (10, 0)))), none, none], [], am_mk (am_si m 10 0 0 0))) (if_neg hc1) ?_
    refine am_Go.n htb 5 (S' := (24, [some (.inr (.inr (some (10, 0)))), none, none], [.inl (-5), .inr (.inr (some (10, 0)))], am_mk (am_si (am_si m 10 0 0 0) 10 0 13 0))) rfl ?_
    obtain ⟨r36, h37, h⟩ := am_bd h
    refine am_Go.cl htb rfl (ex_X10_tell d (by omega) (-5) (am_si (am_si m 10 0 0 0) 10 0 13 0) r36 h37) ?_
    show am_Go d 229 (27, [some (.inr (.inr (some (10, 0)))), none, none], [.inl r36.1], am_mk r36.2) _ _ _ _
    cases h
    exact am_Go.rt htb rfl
-- X10_isLaw
def fn_X10_isLaw (a1 : Int32) (m : am_m) : Option (Int32) :=
  (if a1 = (-1 : Int32) then some 1 else (fn_X10_in a1.toInt64 0 (((m.1 44 0 2).toInt64) - (1 : Int64)) m).bind fun r2 => (if r2 = 0 then some 0 else some 1))
set_option maxRecDepth 100000 in
theorem ex_X10_isLaw (d : Nat) (hd : 2 ≤ d) (a1 : Int32) (m : am_m) (t : Int32) (h : fn_X10_isLaw a1 m = some t) : am_Ex am_cod d 230 [.inr (.inr (some (10, 0))), .inl a1] (am_mk m) (some (.inl t)) (am_mk m) 0 0 := by
  obtain ⟨d, rfl⟩ : ∃ e, d = e + 1 := ⟨d - 1, by omega⟩
  have htb : am_tab 230 = at_230 := rfl
  refine ⟨Nat.le_of_ble_eq_true rfl, ?_⟩
  unfold fn_X10_isLaw at h
  show am_Go d 230 (0, [some (.inr (.inr (some (10, 0)))), some (.inl a1)], [], am_mk m) _ _ 0 0
  refine am_Go.n htb 2 (S' := (2, [some (.inr (.inr (some (10, 0)))), some (.inl a1)], [.inl (-1), .inl a1], am_mk m)) rfl ?_
  by_cases hc1 : a1 = (-1 : Int32)
  · rw [if_pos hc1] at h
    refine am_Go.c1 htb (S' := (23, [some (.inr (.inr (some (10, 0)))), some (.inl a1)], [], am_mk m)) (if_pos hc1) ?_
    refine am_Go.n htb 2 (S' := (28, [some (.inr (.inr (some (10, 0)))), some (.inl a1)], [.inl 1], am_mk m)) rfl ?_
    cases h
    exact am_Go.rt htb rfl
  · rw [if_neg hc1] at h
    refine am_Go.c1 htb (S' := (5, [some (.inr (.inr (some (10, 0)))), some (.inl a1)], [], am_mk m)) (if_neg hc1) ?_
    refine am_Go.n htb 10 (S' := (17, [some (.inr (.inr (some (10, 0)))), some (.inl a1)], [.inr (.inl (((m.1 44 0 2).toInt64) - (1 : Int64))), .inr (.inl 0), .inr (.inl a1.toInt64)], am_mk m)) rfl ?_
    obtain ⟨r2, h3, h⟩ := am_bd h
    refine am_Go.cl htb rfl (ex_X10_in d (by omega) a1.toInt64 0 (((m.1 44 0 2).toInt64) - (1 : Int64)) m r2 h3) ?_
    show am_Go d 230 (20, [some (.inr (.inr (some (10, 0)))), some (.inl a1)], [.inl r2], am_mk m) _ _ _ _
    by_cases hc4 : r2 = 0
    · rw [if_pos hc4] at h
      refine am_Go.c1 htb (S' := (27, [some (.inr (.inr (some (10, 0)))), some (.inl a1)], [], am_mk m)) (if_pos hc4) ?_
      refine am_Go.n htb 1 (S' := (28, [some (.inr (.inr (some (10, 0)))), some (.inl a1)], [.inl 0], am_mk m)) rfl ?_
      cases h
      exact am_Go.rt htb rfl
    · rw [if_neg hc4] at h
      refine am_Go.c1 htb (S' := (23, [some (.inr (.inr (some (10, 0)))), some (.inl a1)], [], am_mk m)) (if_neg hc4) ?_
      refine am_Go.n htb 2 (S' := (28, [some (.inr (.inr (some (10, 0)))), some (.inl a1)], [.inl 1], am_mk m)) rfl ?_
      cases h
      exact am_Go.rt htb rfl
-- X10_force
def fn_X10_force (a1 : Int32) (m : am_m) : Option (Int32 × am_m) :=
  (fn_X10_isLaw a1 (am_si m 10 0 0 0)).bind fun r1 => (if r1 = 0 then (fn_X10_tell (-2) (am_si m 10 0 0 0)).bind fun r4 => some (r4.1, r4.2) else (fn_X10_change 3 a1 (am_si m 10 0 0 0)).bind fun r6 => some (r6.1, r6.2))
set_option maxRecDepth 100000 in
theorem ex_X10_force (d : Nat) (hd : 3 ≤ d) (a1 : Int32) (m : am_m) (t : Int32 × am_m) (h : fn_X10_force a1 m = some t) : am_Ex am_cod d 231 [.inr (.inr (some (10, 0))), .inl a1] (am_mk m) (some (.inl t.1)) (am_mk t.2) 0 0 := by
  obtain ⟨d, rfl⟩ : ∃ e, d = e + 1 := ⟨d - 1, by omega⟩
  have htb : am_tab 231 = at_231 := rfl
  refine ⟨Nat.le_of_ble_eq_true rfl, ?_⟩
  unfold fn_X10_force at h
  show am_Go d 231 (0, [some (.inr (.inr (some (10, 0)))), some (.inl a1)], [], am_mk m) _ _ 0 0
  refine am_Go.n htb 5 (S' := (7, [some (.inr (.inr (some (10, 0)))), some (.inl a1)], [.inl a1, .inr (.inr (some (10, 0)))], am_mk (am_si m 10 0 0 0))) rfl ?_
  obtain ⟨r1, h2, h⟩ := am_bd h
  refine am_Go.cl htb rfl (ex_X10_isLaw d (by omega) a1 (am_si m 10 0 0 0) r1 h2) ?_
  show am_Go d 231 (10, [some (.inr (.inr (some (10, 0)))), some (.inl a1)], [.inl r1], am_mk (am_si m 10 0 0 0)) _ _ _ _
  by_cases hc3 : r1 = 0
  · rw [if_pos hc3] at h
    refine am_Go.c1 htb (S' := (22, [some (.inr (.inr (some (10, 0)))), some (.inl a1)], [], am_mk (am_si m 10 0 0 0))) (if_pos hc3) ?_
    refine am_Go.n htb 2 (S' := (25, [some (.inr (.inr (some (10, 0)))), some (.inl a1)], [.inl (-2), .inr (.inr (some (10, 0)))], am_mk (am_si m 10 0 0 0))) rfl ?_
    obtain ⟨r4, h5, h⟩ := am_bd h
    refine am_Go.cl htb rfl (ex_X10_tell d (by omega) (-2) (am_si m 10 0 0 0) r4 h5) ?_
    show am_Go d 231 (28, [some (.inr (.inr (some (10, 0)))), some (.inl a1)], [.inl r4.1], am_mk r4.2) _ _ _ _
    cases h
    exact am_Go.rt htb rfl
  · rw [if_neg hc3] at h
    refine am_Go.c1 htb (S' := (13, [some (.inr (.inr (some (10, 0)))), some (.inl a1)], [], am_mk (am_si m 10 0 0 0))) (if_neg hc3) ?_
    refine am_Go.n htb 3 (S' := (16, [some (.inr (.inr (some (10, 0)))), some (.inl a1)], [.inl a1, .inl 3, .inr (.inr (some (10, 0)))], am_mk (am_si m 10 0 0 0))) rfl ?_
    obtain ⟨r6, h7, h⟩ := am_bd h
    refine am_Go.cl htb rfl (ex_X10_change d (by omega) 3 a1 (am_si m 10 0 0 0) r6 h7) ?_
    show am_Go d 231 (19, [some (.inr (.inr (some (10, 0)))), some (.inl a1)], [.inl r6.1], am_mk r6.2) _ _ _ _
    refine am_Go.n htb 1 (S' := (28, [some (.inr (.inr (some (10, 0)))), some (.inl a1)], [.inl r6.1], am_mk r6.2)) rfl ?_
    cases h
    exact am_Go.rt htb rfl
-- X10_feedsAt
def fn_X10_feedsAt (a1 : Int32) (a2 : Int32) (m : am_m) : Option (Int32 × am_m) :=
  (fn_X10_tells 1 a1 (-1) a2 2 m).bind fun r1 => (fn_X10_bounded r1.1 0 9 r1.2).bind fun r3 => some (r3, r1.2)
set_option maxRecDepth 100000 in
theorem ex_X10_feedsAt (d : Nat) (hd : 6 ≤ d) (a1 : Int32) (a2 : Int32) (m : am_m) (t : Int32 × am_m) (h : fn_X10_feedsAt a1 a2 m = some t) : am_Ex am_cod d 237 [.inr (.inr (some (10, 0))), .inl a1, .inl a2] (am_mk m) (some (.inl t.1)) (am_mk t.2) 0 0 := by
  obtain ⟨d, rfl⟩ : ∃ e, d = e + 1 := ⟨d - 1, by omega⟩
  have htb : am_tab 237 = at_237 := rfl
  refine ⟨Nat.le_of_ble_eq_true rfl, ?_⟩
  unfold fn_X10_feedsAt at h
  show am_Go d 237 (0, [some (.inr (.inr (some (10, 0)))), some (.inl a1), some (.inl a2)], [], am_mk m) _ _ 0 0
  refine am_Go.n htb 6 (S' := (8, [some (.inr (.inr (some (10, 0)))), some (.inl a1), some (.inl a2)], [.inr (.inl 2), .inl a2, .inl (-1), .inl a1, .inl 1, .inr (.inr (some (10, 0)))], am_mk m)) rfl ?_
  obtain ⟨r1, h2, h⟩ := am_bd h
  refine am_Go.cl htb rfl (ex_X10_tells d (by omega) 1 a1 (-1) a2 2 m r1 h2) ?_
  show am_Go d 237 (11, [some (.inr (.inr (some (10, 0)))), some (.inl a1), some (.inl a2)], [.inr (.inl r1.1)], am_mk r1.2) _ _ _ _
  refine am_Go.n htb 2 (S' := (14, [some (.inr (.inr (some (10, 0)))), some (.inl a1), some (.inl a2)], [.inl 9, .inl 0, .inr (.inl r1.1)], am_mk r1.2)) rfl ?_
  obtain ⟨r3, h4, h⟩ := am_bd h
  refine am_Go.cl htb rfl (ex_X10_bounded d (by omega) r1.1 0 9 r1.2 r3 h4) ?_
  show am_Go d 237 (17, [some (.inr (.inr (some (10, 0)))), some (.inl a1), some (.inl a2)], [.inl r3], am_mk r1.2) _ _ _ _
  cases h
  exact am_Go.rt htb rfl
-- X10_isTable
def lp_X10_isTable_16 : Nat → Int32 → Int32 → Int32 → am_m → Option (Int32)
  | 0, _, _, _, _ => none
  | n + 1, x1, x2, x3, m =>
  (if (m.1 44 0 0) ≤ x3 then some x2 else (if x2 = 0 then some x2 else (fn_X10_is x1 x3 m).bind fun r6 => (if r6 = 0 then some 1 else (fn_X10_sitsWith x3 m).bind fun r9 => (if ((x1 &&& (((1 : Int32) <<< (x3 &&& 31)) ^^^ (-1 : Int32))) &&& (r9 ^^^ (-1 : Int32))) ≠ 0 then some 0 else some 1)).bind fun q12 => lp_X10_isTable_16 n x1 q12 (x3 + 1) m))
set_option maxRecDepth 100000 in
theorem lt_X10_isTable_16 (d : Nat) (hd : 2 ≤ d + 1) {r : Option am_V} {M' : am_M} {kc ks : Nat} {n : Nat} {x1 : Int32} {x2 : Int32} {x3 : Int32} {m : am_m} {t : Int32} (h : lp_X10_isTable_16 n x1 x2 x3 m = some t) (hk : am_Go d 243 (68, [some (.inr (.inr (some (10, 0)))), some (.inl x1), some (.inl t), none], [], am_mk m) r M' kc ks) : am_Go d 243 (16, [some (.inr (.inr (some (10, 0)))), some (.inl x1), some (.inl x2), some (.inl x3)], [], am_mk m) r M' kc ks := by
  have htb : am_tab 243 = at_243 := rfl
  induction n generalizing x2 x3 with
  | zero => cases h
  | succ n ih =>
    unfold lp_X10_isTable_16 at h
    refine am_Go.n htb 5 (S' := (23, [some (.inr (.inr (some (10, 0)))), some (.inl x1), some (.inl x2), some (.inl x3)], [.inl (m.1 44 0 0), .inl x3], am_mk m)) rfl ?_
    by_cases hc4 : (m.1 44 0 0) ≤ x3
    · rw [if_pos hc4] at h
      refine am_Go.c1 htb (S' := (68, [some (.inr (.inr (some (10, 0)))), some (.inl x1), some (.inl x2), some (.inl x3)], [], am_mk m)) (if_pos hc4) ?_
      cases h
      exact am_Go.fg (by exact ⟨rfl, ⟨rfl, ⟨rfl, trivial⟩⟩⟩) hk
    · rw [if_neg hc4] at h
      refine am_Go.c1 htb (S' := (26, [some (.inr (.inr (some (10, 0)))), some (.inl x1), some (.inl x2), some (.inl x3)], [], am_mk m)) (if_neg hc4) ?_
      refine am_Go.n htb 1 (S' := (27, [some (.inr (.inr (some (10, 0)))), some (.inl x1), some (.inl x2), some (.inl x3)], [.inl x2], am_mk m)) rfl ?_
      by_cases hc5 : x2 = 0
      · rw [if_pos hc5] at h
        refine am_Go.c1 htb (S' := (68, [some (.inr (.inr (some (10, 0)))), some (.inl x1), some (.inl x2), some (.inl x3)], [], am_mk m)) (if_pos hc5) ?_
        cases h
        exact am_Go.fg (by exact ⟨rfl, ⟨rfl, ⟨rfl, trivial⟩⟩⟩) hk
      · rw [if_neg hc5] at h
        refine am_Go.c1 htb (S' := (30, [some (.inr (.inr (some (10, 0)))), some (.inl x1), some (.inl x2), some (.inl x3)], [], am_mk m)) (if_neg hc5) ?_
        refine am_Go.n htb 2 (S' := (32, [some (.inr (.inr (some (10, 0)))), some (.inl x1), some (.inl x2), some (.inl x3)], [.inl x3, .inl x1], am_mk m)) rfl ?_
        obtain ⟨r6, h7, h⟩ := am_bd h
        refine am_Go.cl htb rfl (ex_X10_is d (by omega) x1 x3 m r6 h7) ?_
        show am_Go d 243 (35, [some (.inr (.inr (some (10, 0)))), some (.inl x1), some (.inl x2), some (.inl x3)], [.inl r6], am_mk m) _ _ _ _
        obtain ⟨q12, h13, h⟩ := am_bd h
        refine am_Go.cut (S := (61, [some (.inr (.inr (some (10, 0)))), some (.inl x1), some (.inl x2), some (.inl x3)], [.inl q12], am_mk m)) ?_ (fun key => ?_)
        · refine am_Go.n htb 3 (S' := (16, [some (.inr (.inr (some (10, 0)))), some (.inl x1), some (.inl q12), some (.inl (x3 + 1))], [], am_mk m)) rfl ?_
          first | exact ih h | exact ih h hk
        · have h := h13
          by_cases hc8 : r6 = 0
          · rw [if_pos hc8] at h
            refine am_Go.c1 htb (S' := (56, [some (.inr (.inr (some (10, 0)))), some (.inl x1), some (.inl x2), some (.inl x3)], [], am_mk m)) (if_pos hc8) ?_
            refine am_Go.n htb 2 (S' := (61, [some (.inr (.inr (some (10, 0)))), some (.inl x1), some (.inl x2), some (.inl x3)], [.inl 1], am_mk m)) rfl ?_
            cases h
            exact am_Go.fg (by exact ⟨rfl, ⟨rfl, ⟨rfl, ⟨rfl, trivial⟩⟩⟩⟩) key
          · rw [if_neg hc8] at h
            refine am_Go.c1 htb (S' := (38, [some (.inr (.inr (some (10, 0)))), some (.inl x1), some (.inl x2), some (.inl x3)], [], am_mk m)) (if_neg hc8) ?_
            refine am_Go.n htb 9 (S' := (47, [some (.inr (.inr (some (10, 0)))), some (.inl x1), some (.inl x2), some (.inl x3)], [.inl x3, .inr (.inr (some (10, 0))), .inl (x1 &&& (((1 : Int32) <<< (x3 &&& 31)) ^^^ (-1 : Int32)))], am_mk m)) rfl ?_
            obtain ⟨r9, h10, h⟩ := am_bd h
            refine am_Go.cl htb rfl (ex_X10_sitsWith d (by omega) x3 m r9 h10) ?_
            show am_Go d 243 (50, [some (.inr (.inr (some (10, 0)))), some (.inl x1), some (.inl x2), some (.inl x3)], [.inl r9, .inl (x1 &&& (((1 : Int32) <<< (x3 &&& 31)) ^^^ (-1 : Int32)))], am_mk m) _ _ _ _
            refine am_Go.n htb 3 (S' := (53, [some (.inr (.inr (some (10, 0)))), some (.inl x1), some (.inl x2), some (.inl x3)], [.inl ((x1 &&& (((1 : Int32) <<< (x3 &&& 31)) ^^^ (-1 : Int32))) &&& (r9 ^^^ (-1 : Int32)))], am_mk m)) rfl ?_
            by_cases hc11 : ((x1 &&& (((1 : Int32) <<< (x3 &&& 31)) ^^^ (-1 : Int32))) &&& (r9 ^^^ (-1 : Int32))) ≠ 0
            · rw [if_pos hc11] at h
              refine am_Go.c1 htb (S' := (60, [some (.inr (.inr (some (10, 0)))), some (.inl x1), some (.inl x2), some (.inl x3)], [], am_mk m)) (if_pos hc11) ?_
              refine am_Go.n htb 1 (S' := (61, [some (.inr (.inr (some (10, 0)))), some (.inl x1), some (.inl x2), some (.inl x3)], [.inl 0], am_mk m)) rfl ?_
              cases h
              exact am_Go.fg (by exact ⟨rfl, ⟨rfl, ⟨rfl, ⟨rfl, trivial⟩⟩⟩⟩) key
            · rw [if_neg hc11] at h
              refine am_Go.c1 htb (S' := (56, [some (.inr (.inr (some (10, 0)))), some (.inl x1), some (.inl x2), some (.inl x3)], [], am_mk m)) (if_neg hc11) ?_
              refine am_Go.n htb 2 (S' := (61, [some (.inr (.inr (some (10, 0)))), some (.inl x1), some (.inl x2), some (.inl x3)], [.inl 1], am_mk m)) rfl ?_
              cases h
              exact am_Go.fg (by exact ⟨rfl, ⟨rfl, ⟨rfl, ⟨rfl, trivial⟩⟩⟩⟩) key
def fn_X10_isTable (a1 : Int32) (m : am_m) : Option (Int32) :=
  (fn_X10_ones a1 m).bind fun r1 => (lp_X10_isTable_16 1000000 a1 (if r1 ≤ (1 : Int32) then (0 : Int32) else (1 : Int32)) 0 m).bind fun q14 => am_gd (q14 = 0 ∨ q14 = 1) (some q14)
set_option maxRecDepth 100000 in
theorem ex_X10_isTable (d : Nat) (hd : 2 ≤ d) (a1 : Int32) (m : am_m) (t : Int32) (h : fn_X10_isTable a1 m = some t) : am_Ex am_cod d 243 [.inr (.inr (some (10, 0))), .inl a1] (am_mk m) (some (.inl t)) (am_mk m) 0 0 := by
  obtain ⟨d, rfl⟩ : ∃ e, d = e + 1 := ⟨d - 1, by omega⟩
  have htb : am_tab 243 = at_243 := rfl
  refine ⟨Nat.le_of_ble_eq_true rfl, ?_⟩
  unfold fn_X10_isTable at h
  show am_Go d 243 (0, [some (.inr (.inr (some (10, 0)))), some (.inl a1), none, none], [], am_mk m) _ _ 0 0
  refine am_Go.n htb 1 (S' := (1, [some (.inr (.inr (some (10, 0)))), some (.inl a1), none, none], [.inl a1], am_mk m)) rfl ?_
  obtain ⟨r1, h2, h⟩ := am_bd h
  refine am_Go.cl htb rfl (ex_X10_ones d (by omega) a1 m r1 h2) ?_
  show am_Go d 243 (4, [some (.inr (.inr (some (10, 0)))), some (.inl a1), none, none], [.inl r1], am_mk m) _ _ _ _
  refine am_Go.n htb 1 (S' := (5, [some (.inr (.inr (some (10, 0)))), some (.inl a1), none, none], [.inl 1, .inl r1], am_mk m)) rfl ?_
  refine am_Go.cut (S := (13, [some (.inr (.inr (some (10, 0)))), some (.inl a1), none, none], [.inl (if r1 ≤ (1 : Int32) then (0 : Int32) else (1 : Int32))], am_mk m)) ?_ (fun key => ?_)
  · refine am_Go.n htb 3 (S' := (16, [some (.inr (.inr (some (10, 0)))), some (.inl a1), some (.inl (if r1 ≤ (1 : Int32) then (0 : Int32) else (1 : Int32))), some (.inl 0)], [], am_mk m)) rfl ?_
    obtain ⟨q14, h15, h⟩ := am_bd h
    refine lt_X10_isTable_16 _ hd (h := h15) (hk := ?_)
    refine am_Go.n htb 1 (S' := (69, [some (.inr (.inr (some (10, 0)))), some (.inl a1), some (.inl q14), none], [.inl q14], am_mk m)) rfl ?_
    obtain ⟨hz16, h⟩ := am_gd_some h
    cases h
    exact am_Go.rt htb (if_pos hz16)
  · by_cases hc3 : r1 ≤ (1 : Int32)
    · refine am_Go.c1 htb (S' := (12, [some (.inr (.inr (some (10, 0)))), some (.inl a1), none, none], [], am_mk m)) (if_pos hc3) ?_
      refine am_Go.n htb 1 (S' := (13, [some (.inr (.inr (some (10, 0)))), some (.inl a1), none, none], [.inl 0], am_mk m)) rfl ?_
      simp only [if_pos hc3] at key
      exact am_Go.fg (by exact ⟨rfl, ⟨rfl, trivial⟩⟩) key
    · refine am_Go.c1 htb (S' := (8, [some (.inr (.inr (some (10, 0)))), some (.inl a1), none, none], [], am_mk m)) (if_neg hc3) ?_
      refine am_Go.n htb 2 (S' := (13, [some (.inr (.inr (some (10, 0)))), some (.inl a1), none, none], [.inl 1], am_mk m)) rfl ?_
      simp only [if_neg hc3] at key
      exact am_Go.fg (by exact ⟨rfl, ⟨rfl, trivial⟩⟩) key
-- X10_harmNow
def fn_X10_harmNow (a1 : Int32) (a2 : Int32) (a3 : Int32) (m : am_m) : Option (Int32 × am_m) :=
  (fn_X10_in a3.toInt64 1 9 m).bind fun r1 => (if r1 = 0 then some ((-1), m) else (if a1 ≠ a2 then (fn_X10_isFolk a1 m).bind fun r5 => (if r5 = 0 then some ((-2), m) else (fn_X10_isFolk a2 m).bind fun r8 => (if r8 ≠ 0 then (fn_X10_weightOf a1 a2 m).bind fun r11 => (if r11 ≠ a3 then (fn_X10_remember 0 m).bind fun r14 => (fn_X10_setHarm a1 a2 a3 r14).bind fun r16 => some (r11, r16) else some ((-3), m)) else some ((-2), m))) else some ((-1), m)))
set_option maxRecDepth 100000 in
theorem ex_X10_harmNow (d : Nat) (hd : 3 ≤ d) (a1 : Int32) (a2 : Int32) (a3 : Int32) (m : am_m) (t : Int32 × am_m) (h : fn_X10_harmNow a1 a2 a3 m = some t) : am_Ex am_cod d 244 [.inr (.inr (some (10, 0))), .inl a1, .inl a2, .inl a3] (am_mk m) (some (.inl t.1)) (am_mk t.2) 0 0 := by
  obtain ⟨d, rfl⟩ : ∃ e, d = e + 1 := ⟨d - 1, by omega⟩
  have htb : am_tab 244 = at_244 := rfl
  refine ⟨Nat.le_of_ble_eq_true rfl, ?_⟩
  unfold fn_X10_harmNow at h
  show am_Go d 244 (0, [some (.inr (.inr (some (10, 0)))), some (.inl a1), some (.inl a2), some (.inl a3), none], [], am_mk m) _ _ 0 0
  refine am_Go.n htb 4 (S' := (6, [some (.inr (.inr (some (10, 0)))), some (.inl a1), some (.inl a2), some (.inl a3), none], [.inr (.inl 9), .inr (.inl 1), .inr (.inl a3.toInt64)], am_mk m)) rfl ?_
  obtain ⟨r1, h2, h⟩ := am_bd h
  refine am_Go.cl htb rfl (ex_X10_in d (by omega) a3.toInt64 1 9 m r1 h2) ?_
  show am_Go d 244 (9, [some (.inr (.inr (some (10, 0)))), some (.inl a1), some (.inl a2), some (.inl a3), none], [.inl r1], am_mk m) _ _ _ _
  by_cases hc3 : r1 = 0
  · rw [if_pos hc3] at h
    refine am_Go.c1 htb (S' := (17, [some (.inr (.inr (some (10, 0)))), some (.inl a1), some (.inl a2), some (.inl a3), none], [], am_mk m)) (if_pos hc3) ?_
    refine am_Go.n htb 1 (S' := (18, [some (.inr (.inr (some (10, 0)))), some (.inl a1), some (.inl a2), some (.inl a3), none], [.inl (-1)], am_mk m)) rfl ?_
    cases h
    exact am_Go.rt htb rfl
  · rw [if_neg hc3] at h
    refine am_Go.c1 htb (S' := (12, [some (.inr (.inr (some (10, 0)))), some (.inl a1), some (.inl a2), some (.inl a3), none], [], am_mk m)) (if_neg hc3) ?_
    refine am_Go.n htb 2 (S' := (14, [some (.inr (.inr (some (10, 0)))), some (.inl a1), some (.inl a2), some (.inl a3), none], [.inl a2, .inl a1], am_mk m)) rfl ?_
    by_cases hc4 : a1 ≠ a2
    · rw [if_pos hc4] at h
      refine am_Go.c1 htb (S' := (19, [some (.inr (.inr (some (10, 0)))), some (.inl a1), some (.inl a2), some (.inl a3), none], [], am_mk m)) (if_pos hc4) ?_
      refine am_Go.n htb 2 (S' := (21, [some (.inr (.inr (some (10, 0)))), some (.inl a1), some (.inl a2), some (.inl a3), none], [.inl a1, .inr (.inr (some (10, 0)))], am_mk m)) rfl ?_
      obtain ⟨r5, h6, h⟩ := am_bd h
      refine am_Go.cl htb rfl (ex_X10_isFolk d (by omega) a1 m r5 h6) ?_
      show am_Go d 244 (24, [some (.inr (.inr (some (10, 0)))), some (.inl a1), some (.inl a2), some (.inl a3), none], [.inl r5], am_mk m) _ _ _ _
      by_cases hc7 : r5 = 0
      · rw [if_pos hc7] at h
        refine am_Go.c1 htb (S' := (35, [some (.inr (.inr (some (10, 0)))), some (.inl a1), some (.inl a2), some (.inl a3), none], [], am_mk m)) (if_pos hc7) ?_
        refine am_Go.n htb 1 (S' := (37, [some (.inr (.inr (some (10, 0)))), some (.inl a1), some (.inl a2), some (.inl a3), none], [.inl (-2)], am_mk m)) rfl ?_
        cases h
        exact am_Go.rt htb rfl
      · rw [if_neg hc7] at h
        refine am_Go.c1 htb (S' := (27, [some (.inr (.inr (some (10, 0)))), some (.inl a1), some (.inl a2), some (.inl a3), none], [], am_mk m)) (if_neg hc7) ?_
        refine am_Go.n htb 2 (S' := (29, [some (.inr (.inr (some (10, 0)))), some (.inl a1), some (.inl a2), some (.inl a3), none], [.inl a2, .inr (.inr (some (10, 0)))], am_mk m)) rfl ?_
        obtain ⟨r8, h9, h⟩ := am_bd h
        refine am_Go.cl htb rfl (ex_X10_isFolk d (by omega) a2 m r8 h9) ?_
        show am_Go d 244 (32, [some (.inr (.inr (some (10, 0)))), some (.inl a1), some (.inl a2), some (.inl a3), none], [.inl r8], am_mk m) _ _ _ _
        by_cases hc10 : r8 ≠ 0
        · rw [if_pos hc10] at h
          refine am_Go.c1 htb (S' := (38, [some (.inr (.inr (some (10, 0)))), some (.inl a1), some (.inl a2), some (.inl a3), none], [], am_mk m)) (if_pos hc10) ?_
          refine am_Go.n htb 3 (S' := (41, [some (.inr (.inr (some (10, 0)))), some (.inl a1), some (.inl a2), some (.inl a3), none], [.inl a2, .inl a1, .inr (.inr (some (10, 0)))], am_mk m)) rfl ?_
          obtain ⟨r11, h12, h⟩ := am_bd h
          refine am_Go.cl htb rfl (ex_X10_weightOf d (by omega) a1 a2 m r11 h12) ?_
          show am_Go d 244 (44, [some (.inr (.inr (some (10, 0)))), some (.inl a1), some (.inl a2), some (.inl a3), none], [.inl r11], am_mk m) _ _ _ _
          refine am_Go.n htb 3 (S' := (49, [some (.inr (.inr (some (10, 0)))), some (.inl a1), some (.inl a2), some (.inl a3), some (.inl r11)], [.inl a3, .inl r11], am_mk m)) rfl ?_
          by_cases hc13 : r11 ≠ a3
          · rw [if_pos hc13] at h
            refine am_Go.c1 htb (S' := (55, [some (.inr (.inr (some (10, 0)))), some (.inl a1), some (.inl a2), some (.inl a3), some (.inl r11)], [], am_mk m)) (if_pos hc13) ?_
            refine am_Go.n htb 2 (S' := (57, [some (.inr (.inr (some (10, 0)))), some (.inl a1), some (.inl a2), some (.inl a3), some (.inl r11)], [.inl 0, .inr (.inr (some (10, 0)))], am_mk m)) rfl ?_
            obtain ⟨r14, h15, h⟩ := am_bd h
            refine am_Go.cl htb rfl (ex_X10_remember d (by omega) 0 m r14 h15) ?_
            show am_Go d 244 (60, [some (.inr (.inr (some (10, 0)))), some (.inl a1), some (.inl a2), some (.inl a3), some (.inl r11)], [], am_mk r14) _ _ _ _
            refine am_Go.n htb 4 (S' := (64, [some (.inr (.inr (some (10, 0)))), some (.inl a1), some (.inl a2), some (.inl a3), some (.inl r11)], [.inl a3, .inl a2, .inl a1, .inr (.inr (some (10, 0)))], am_mk r14)) rfl ?_
            obtain ⟨r16, h17, h⟩ := am_bd h
            refine am_Go.cl htb rfl (ex_X10_setHarm d (by omega) a1 a2 a3 r14 r16 h17) ?_
            show am_Go d 244 (67, [some (.inr (.inr (some (10, 0)))), some (.inl a1), some (.inl a2), some (.inl a3), some (.inl r11)], [], am_mk r16) _ _ _ _
            refine am_Go.n htb 1 (S' := (69, [some (.inr (.inr (some (10, 0)))), some (.inl a1), some (.inl a2), some (.inl a3), some (.inl r11)], [.inl r11], am_mk r16)) rfl ?_
            cases h
            exact am_Go.rt htb rfl
          · rw [if_neg hc13] at h
            refine am_Go.c1 htb (S' := (52, [some (.inr (.inr (some (10, 0)))), some (.inl a1), some (.inl a2), some (.inl a3), some (.inl r11)], [], am_mk m)) (if_neg hc13) ?_
            refine am_Go.n htb 1 (S' := (54, [some (.inr (.inr (some (10, 0)))), some (.inl a1), some (.inl a2), some (.inl a3), some (.inl r11)], [.inl (-3)], am_mk m)) rfl ?_
            cases h
            exact am_Go.rt htb rfl
        · rw [if_neg hc10] at h
          refine am_Go.c1 htb (S' := (35, [some (.inr (.inr (some (10, 0)))), some (.inl a1), some (.inl a2), some (.inl a3), none], [], am_mk m)) (if_neg hc10) ?_
          refine am_Go.n htb 1 (S' := (37, [some (.inr (.inr (some (10, 0)))), some (.inl a1), some (.inl a2), some (.inl a3), none], [.inl (-2)], am_mk m)) rfl ?_
          cases h
          exact am_Go.rt htb rfl
    · rw [if_neg hc4] at h
      refine am_Go.c1 htb (S' := (17, [some (.inr (.inr (some (10, 0)))), some (.inl a1), some (.inl a2), some (.inl a3), none], [], am_mk m)) (if_neg hc4) ?_
      refine am_Go.n htb 1 (S' := (18, [some (.inr (.inr (some (10, 0)))), some (.inl a1), some (.inl a2), some (.inl a3), none], [.inl (-1)], am_mk m)) rfl ?_
      cases h
      exact am_Go.rt htb rfl
-- X10_harm
def fn_X10_harm (a1 : Int32) (a2 : Int32) (a3 : Int32) (m : am_m) : Option (Int32 × am_m) :=
  (fn_X10_harmNow a1 a2 a3 (am_si m 10 0 0 0)).bind fun r1 => (fn_X10_tell r1.1 r1.2).bind fun r3 => some (r3.1, r3.2)
set_option maxRecDepth 100000 in
theorem ex_X10_harm (d : Nat) (hd : 4 ≤ d) (a1 : Int32) (a2 : Int32) (a3 : Int32) (m : am_m) (t : Int32 × am_m) (h : fn_X10_harm a1 a2 a3 m = some t) : am_Ex am_cod d 245 [.inr (.inr (some (10, 0))), .inl a1, .inl a2, .inl a3] (am_mk m) (some (.inl t.1)) (am_mk t.2) 0 0 := by
  obtain ⟨d, rfl⟩ : ∃ e, d = e + 1 := ⟨d - 1, by omega⟩
  have htb : am_tab 245 = at_245 := rfl
  refine ⟨Nat.le_of_ble_eq_true rfl, ?_⟩
  unfold fn_X10_harm at h
  show am_Go d 245 (0, [some (.inr (.inr (some (10, 0)))), some (.inl a1), some (.inl a2), some (.inl a3)], [], am_mk m) _ _ 0 0
  refine am_Go.n htb 8 (S' := (10, [some (.inr (.inr (some (10, 0)))), some (.inl a1), some (.inl a2), some (.inl a3)], [.inl a3, .inl a2, .inl a1, .inr (.inr (some (10, 0))), .inr (.inr (some (10, 0)))], am_mk (am_si m 10 0 0 0))) rfl ?_
  obtain ⟨r1, h2, h⟩ := am_bd h
  refine am_Go.cl htb rfl (ex_X10_harmNow d (by omega) a1 a2 a3 (am_si m 10 0 0 0) r1 h2) ?_
  show am_Go d 245 (13, [some (.inr (.inr (some (10, 0)))), some (.inl a1), some (.inl a2), some (.inl a3)], [.inl r1.1, .inr (.inr (some (10, 0)))], am_mk r1.2) _ _ _ _
  obtain ⟨r3, h4, h⟩ := am_bd h
  refine am_Go.cl htb rfl (ex_X10_tell d (by omega) r1.1 r1.2 r3 h4) ?_
  show am_Go d 245 (16, [some (.inr (.inr (some (10, 0)))), some (.inl a1), some (.inl a2), some (.inl a3)], [.inl r3.1], am_mk r3.2) _ _ _ _
  cases h
  exact am_Go.rt htb rfl
-- X10_feastIt
def lp_X10_feastIt_2 : Nat → Int32 → Int32 → am_m → Option (am_m)
  | 0, _, _, _ => none
  | n + 1, x1, x2, m =>
  (if (m.1 44 0 0) ≤ x2 then some m else (fn_X10_is x1 x2 m).bind fun r2 => (if r2 = 0 then some (0, m) else (fn_X10_ones x1 m).bind fun r5 => (fn_X10_feedsAt x2 r5 m).bind fun r7 => some (r7.1, r7.2)).bind fun q9 => am_ck x2 7 (lp_X10_feastIt_2 n x1 (x2 + 1) (am_si q9.2 56 0 x2.toNatClampNeg q9.1)))
set_option maxRecDepth 100000 in
theorem lt_X10_feastIt_2 (d : Nat) (hd : 7 ≤ d + 1) {r : Option am_V} {M' : am_M} {kc ks : Nat} {n : Nat} {x1 : Int32} {x2 : Int32} {m : am_m} {t : am_m} (h : lp_X10_feastIt_2 n x1 x2 m = some t) (hk : am_Go d 246 (45, [some (.inr (.inr (some (10, 0)))), some (.inl x1), none], [], am_mk t) r M' kc ks) : am_Go d 246 (2, [some (.inr (.inr (some (10, 0)))), some (.inl x1), some (.inl x2)], [], am_mk m) r M' kc ks := by
  have htb : am_tab 246 = at_246 := rfl
  induction n generalizing x2 m with
  | zero => cases h
  | succ n ih =>
    unfold lp_X10_feastIt_2 at h
    refine am_Go.n htb 5 (S' := (9, [some (.inr (.inr (some (10, 0)))), some (.inl x1), some (.inl x2)], [.inl (m.1 44 0 0), .inl x2], am_mk m)) rfl ?_
    by_cases hc1 : (m.1 44 0 0) ≤ x2
    · rw [if_pos hc1] at h
      refine am_Go.c1 htb (S' := (45, [some (.inr (.inr (some (10, 0)))), some (.inl x1), some (.inl x2)], [], am_mk m)) (if_pos hc1) ?_
      cases h
      exact am_Go.fg (by exact ⟨rfl, ⟨rfl, trivial⟩⟩) hk
    · rw [if_neg hc1] at h
      refine am_Go.c1 htb (S' := (12, [some (.inr (.inr (some (10, 0)))), some (.inl x1), some (.inl x2)], [], am_mk m)) (if_neg hc1) ?_
      refine am_Go.n htb 5 (S' := (19, [some (.inr (.inr (some (10, 0)))), some (.inl x1), some (.inl x2)], [.inl x2, .inl x1, .inl x2, .inr (.inr (some (56, 0)))], am_mk m)) rfl ?_
      obtain ⟨r2, h3, h⟩ := am_bd h
      refine am_Go.cl htb rfl (ex_X10_is d (by omega) x1 x2 m r2 h3) ?_
      show am_Go d 246 (22, [some (.inr (.inr (some (10, 0)))), some (.inl x1), some (.inl x2)], [.inl r2, .inl x2, .inr (.inr (some (56, 0)))], am_mk m) _ _ _ _
      obtain ⟨q9, h11, h⟩ := am_bd h
      refine am_Go.cut (S := (38, [some (.inr (.inr (some (10, 0)))), some (.inl x1), some (.inl x2)], [.inl q9.1, .inl x2, .inr (.inr (some (56, 0)))], am_mk q9.2)) ?_ (fun key => ?_)
      · obtain ⟨hg10, h⟩ := am_ck_some h
        refine am_Go.c1 htb (S' := (39, [some (.inr (.inr (some (10, 0)))), some (.inl x1), some (.inl x2)], [], am_mk (am_si q9.2 56 0 x2.toNatClampNeg q9.1))) (if_neg hg10) ?_
        refine am_Go.n htb 2 (S' := (2, [some (.inr (.inr (some (10, 0)))), some (.inl x1), some (.inl (x2 + 1))], [], am_mk (am_si q9.2 56 0 x2.toNatClampNeg q9.1))) rfl ?_
        first | exact ih h | exact ih h hk
      · have h := h11
        by_cases hc4 : r2 = 0
        · rw [if_pos hc4] at h
          refine am_Go.c1 htb (S' := (37, [some (.inr (.inr (some (10, 0)))), some (.inl x1), some (.inl x2)], [.inl x2, .inr (.inr (some (56, 0)))], am_mk m)) (if_pos hc4) ?_
          refine am_Go.n htb 1 (S' := (38, [some (.inr (.inr (some (10, 0)))), some (.inl x1), some (.inl x2)], [.inl 0, .inl x2, .inr (.inr (some (56, 0)))], am_mk m)) rfl ?_
          cases h
          exact am_Go.fg (by exact ⟨rfl, ⟨rfl, ⟨rfl, trivial⟩⟩⟩) key
        · rw [if_neg hc4] at h
          refine am_Go.c1 htb (S' := (25, [some (.inr (.inr (some (10, 0)))), some (.inl x1), some (.inl x2)], [.inl x2, .inr (.inr (some (56, 0)))], am_mk m)) (if_neg hc4) ?_
          refine am_Go.n htb 3 (S' := (28, [some (.inr (.inr (some (10, 0)))), some (.inl x1), some (.inl x2)], [.inl x1, .inl x2, .inr (.inr (some (10, 0))), .inl x2, .inr (.inr (some (56, 0)))], am_mk m)) rfl ?_
          obtain ⟨r5, h6, h⟩ := am_bd h
          refine am_Go.cl htb rfl (ex_X10_ones d (by omega) x1 m r5 h6) ?_
          show am_Go d 246 (31, [some (.inr (.inr (some (10, 0)))), some (.inl x1), some (.inl x2)], [.inl r5, .inl x2, .inr (.inr (some (10, 0))), .inl x2, .inr (.inr (some (56, 0)))], am_mk m) _ _ _ _
          obtain ⟨r7, h8, h⟩ := am_bd h
          refine am_Go.cl htb rfl (ex_X10_feedsAt d (by omega) x2 r5 m r7 h8) ?_
          show am_Go d 246 (34, [some (.inr (.inr (some (10, 0)))), some (.inl x1), some (.inl x2)], [.inl r7.1, .inl x2, .inr (.inr (some (56, 0)))], am_mk r7.2) _ _ _ _
          refine am_Go.n htb 1 (S' := (38, [some (.inr (.inr (some (10, 0)))), some (.inl x1), some (.inl x2)], [.inl r7.1, .inl x2, .inr (.inr (some (56, 0)))], am_mk r7.2)) rfl ?_
          cases h
          exact am_Go.fg (by exact ⟨rfl, ⟨rfl, ⟨rfl, trivial⟩⟩⟩) key
def lp_X10_feastIt_47 : Nat → Int32 → am_m → Option (am_m)
  | 0, _, _ => none
  | n + 1, x2, m =>
  (if (m.1 44 0 0) ≤ x2 then some m else am_ck ((7 : Int32) + x2) 5518 (am_ck x2 7 ((fn_X10_bounded (((m.1 44 0 ((7 : Int32) + x2).toNatClampNeg) + (m.1 56 0 x2.toNatClampNeg)).toInt64) 0 9 m).bind fun r17 => am_ck ((7 : Int32) + x2) 5518 (lp_X10_feastIt_47 n (x2 + 1) (am_si m 44 0 ((7 : Int32) + x2).toNatClampNeg r17)))))
set_option maxRecDepth 100000 in
theorem lt_X10_feastIt_47 (d : Nat) (hd : 7 ≤ d + 1) {r : Option am_V} {M' : am_M} {kc ks : Nat} {n : Nat} {x2 : Int32} {m : am_m} {t : am_m} (h : lp_X10_feastIt_47 n x2 m = some t) (hk : am_Go d 246 (95, [some (.inr (.inr (some (10, 0)))), none, none], [], am_mk t) r M' kc ks) : am_Go d 246 (47, [some (.inr (.inr (some (10, 0)))), none, some (.inl x2)], [], am_mk m) r M' kc ks := by
  have htb : am_tab 246 = at_246 := rfl
  induction n generalizing x2 m with
  | zero => cases h
  | succ n ih =>
    unfold lp_X10_feastIt_47 at h
    refine am_Go.n htb 5 (S' := (54, [some (.inr (.inr (some (10, 0)))), none, some (.inl x2)], [.inl (m.1 44 0 0), .inl x2], am_mk m)) rfl ?_
    by_cases hc14 : (m.1 44 0 0) ≤ x2
    · rw [if_pos hc14] at h
      refine am_Go.c1 htb (S' := (95, [some (.inr (.inr (some (10, 0)))), none, some (.inl x2)], [], am_mk m)) (if_pos hc14) ?_
      cases h
      exact am_Go.fg (by exact ⟨rfl, trivial⟩) hk
    · rw [if_neg hc14] at h
      refine am_Go.c1 htb (S' := (57, [some (.inr (.inr (some (10, 0)))), none, some (.inl x2)], [], am_mk m)) (if_neg hc14) ?_
      refine am_Go.n htb 10 (S' := (73, [some (.inr (.inr (some (10, 0)))), none, some (.inl x2)], [.inl ((7 : Int32) + x2), .inr (.inr (some (44, 0))), .inl ((7 : Int32) + x2), .inr (.inr (some (44, 0)))], am_mk m)) rfl ?_
      obtain ⟨hg15, h⟩ := am_ck_some h
      refine am_Go.c1 htb (S' := (74, [some (.inr (.inr (some (10, 0)))), none, some (.inl x2)], [.inl (m.1 44 0 ((7 : Int32) + x2).toNatClampNeg), .inl ((7 : Int32) + x2), .inr (.inr (some (44, 0)))], am_mk m)) (if_neg hg15) ?_
      refine am_Go.n htb 3 (S' := (79, [some (.inr (.inr (some (10, 0)))), none, some (.inl x2)], [.inl x2, .inr (.inr (some (56, 0))), .inl (m.1 44 0 ((7 : Int32) + x2).toNatClampNeg), .inl ((7 : Int32) + x2), .inr (.inr (some (44, 0)))], am_mk m)) rfl ?_
      obtain ⟨hg16, h⟩ := am_ck_some h
      refine am_Go.c1 htb (S' := (80, [some (.inr (.inr (some (10, 0)))), none, some (.inl x2)], [.inl (m.1 56 0 x2.toNatClampNeg), .inl (m.1 44 0 ((7 : Int32) + x2).toNatClampNeg), .inl ((7 : Int32) + x2), .inr (.inr (some (44, 0)))], am_mk m)) (if_neg hg16) ?_
      refine am_Go.n htb 4 (S' := (85, [some (.inr (.inr (some (10, 0)))), none, some (.inl x2)], [.inl 9, .inl 0, .inr (.inl (((m.1 44 0 ((7 : Int32) + x2).toNatClampNeg) + (m.1 56 0 x2.toNatClampNeg)).toInt64)), .inl ((7 : Int32) + x2), .inr (.inr (some (44, 0)))], am_mk m)) rfl ?_
      obtain ⟨r17, h18, h⟩ := am_bd h
      refine am_Go.cl htb rfl (ex_X10_bounded d (by omega) (((m.1 44 0 ((7 : Int32) + x2).toNatClampNeg) + (m.1 56 0 x2.toNatClampNeg)).toInt64) 0 9 m r17 h18) ?_
      show am_Go d 246 (88, [some (.inr (.inr (some (10, 0)))), none, some (.inl x2)], [.inl r17, .inl ((7 : Int32) + x2), .inr (.inr (some (44, 0)))], am_mk m) _ _ _ _
      obtain ⟨hg19, h⟩ := am_ck_some h
      refine am_Go.c1 htb (S' := (89, [some (.inr (.inr (some (10, 0)))), none, some (.inl x2)], [], am_mk (am_si m 44 0 ((7 : Int32) + x2).toNatClampNeg r17))) (if_neg hg19) ?_
      refine am_Go.n htb 2 (S' := (47, [some (.inr (.inr (some (10, 0)))), none, some (.inl (x2 + 1))], [], am_mk (am_si m 44 0 ((7 : Int32) + x2).toNatClampNeg r17))) rfl ?_
      first | exact ih h | exact ih h hk
def fn_X10_feastIt (a1 : Int32) (m : am_m) : Option (am_m) :=
  (lp_X10_feastIt_2 1000000 a1 0 m).bind fun q12 => (lp_X10_feastIt_47 1000000 0 q12).bind fun q20 => some q20
set_option maxRecDepth 100000 in
theorem ex_X10_feastIt (d : Nat) (hd : 7 ≤ d) (a1 : Int32) (m : am_m) (t : am_m) (h : fn_X10_feastIt a1 m = some t) : am_Ex am_cod d 246 [.inr (.inr (some (10, 0))), .inl a1] (am_mk m) (none) (am_mk t) 0 0 := by
  obtain ⟨d, rfl⟩ : ∃ e, d = e + 1 := ⟨d - 1, by omega⟩
  have htb : am_tab 246 = at_246 := rfl
  refine ⟨Nat.le_of_ble_eq_true rfl, ?_⟩
  unfold fn_X10_feastIt at h
  show am_Go d 246 (0, [some (.inr (.inr (some (10, 0)))), some (.inl a1), none], [], am_mk m) _ _ 0 0
  refine am_Go.n htb 2 (S' := (2, [some (.inr (.inr (some (10, 0)))), some (.inl a1), some (.inl 0)], [], am_mk m)) rfl ?_
  obtain ⟨q12, h13, h⟩ := am_bd h
  refine lt_X10_feastIt_2 _ hd (h := h13) (hk := ?_)
  refine am_Go.n htb 2 (S' := (47, [some (.inr (.inr (some (10, 0)))), some (.inl a1), some (.inl 0)], [], am_mk q12)) rfl ?_
  refine am_Go.fg (L0 := [some (.inr (.inr (some (10, 0)))), none, some (.inl 0)]) (by exact ⟨rfl, ⟨rfl, trivial⟩⟩) ?_
  obtain ⟨q20, h21, h⟩ := am_bd h
  refine lt_X10_feastIt_47 _ hd (h := h21) (hk := ?_)
  cases h
  exact am_Go.rt htb rfl
-- X10_feastNow
def fn_X10_feastNow (a1 : Int32) (m : am_m) : Option (Int32 × am_m) :=
  (fn_X10_isSet a1 m).bind fun r1 => (if r1 ≠ 0 then (fn_X10_areThere a1 m).bind fun r4 => (if r4 ≠ 0 then (fn_X10_layMay  m).bind fun r7 => (fn_X10_isTable a1 r7).bind fun r9 => (if r9 ≠ 0 then (fn_X10_remember 1 r7).bind fun r12 => (fn_X10_feastIt a1 r12).bind fun r14 => (fn_X10_ones a1 r14).bind fun r16 => some (r16, r14) else some ((-3), r7)) else some ((-2), m)) else some ((-1), m))
set_option maxRecDepth 100000 in
theorem ex_X10_feastNow (d : Nat) (hd : 9 ≤ d) (a1 : Int32) (m : am_m) (t : Int32 × am_m) (h : fn_X10_feastNow a1 m = some t) : am_Ex am_cod d 247 [.inr (.inr (some (10, 0))), .inl a1] (am_mk m) (some (.inl t.1)) (am_mk t.2) 0 0 := by
  obtain ⟨d, rfl⟩ : ∃ e, d = e + 1 := ⟨d - 1, by omega⟩
  have htb : am_tab 247 = at_247 := rfl
  refine ⟨Nat.le_of_ble_eq_true rfl, ?_⟩
  unfold fn_X10_feastNow at h
  show am_Go d 247 (0, [some (.inr (.inr (some (10, 0)))), some (.inl a1)], [], am_mk m) _ _ 0 0
  refine am_Go.n htb 1 (S' := (1, [some (.inr (.inr (some (10, 0)))), some (.inl a1)], [.inl a1], am_mk m)) rfl ?_
  obtain ⟨r1, h2, h⟩ := am_bd h
  refine am_Go.cl htb rfl (ex_X10_isSet d (by omega) a1 m r1 h2) ?_
  show am_Go d 247 (4, [some (.inr (.inr (some (10, 0)))), some (.inl a1)], [.inl r1], am_mk m) _ _ _ _
  by_cases hc3 : r1 ≠ 0
  · rw [if_pos hc3] at h
    refine am_Go.c1 htb (S' := (9, [some (.inr (.inr (some (10, 0)))), some (.inl a1)], [], am_mk m)) (if_pos hc3) ?_
    refine am_Go.n htb 2 (S' := (11, [some (.inr (.inr (some (10, 0)))), some (.inl a1)], [.inl a1, .inr (.inr (some (10, 0)))], am_mk m)) rfl ?_
    obtain ⟨r4, h5, h⟩ := am_bd h
    refine am_Go.cl htb rfl (ex_X10_areThere d (by omega) a1 m r4 h5) ?_
    show am_Go d 247 (14, [some (.inr (.inr (some (10, 0)))), some (.inl a1)], [.inl r4], am_mk m) _ _ _ _
    by_cases hc6 : r4 ≠ 0
    · rw [if_pos hc6] at h
      refine am_Go.c1 htb (S' := (20, [some (.inr (.inr (some (10, 0)))), some (.inl a1)], [], am_mk m)) (if_pos hc6) ?_
      refine am_Go.n htb 1 (S' := (21, [some (.inr (.inr (some (10, 0)))), some (.inl a1)], [.inr (.inr (some (10, 0)))], am_mk m)) rfl ?_
      obtain ⟨r7, h8, h⟩ := am_bd h
      refine am_Go.cl htb rfl (ex_X10_layMay d (by omega)  m r7 h8) ?_
      show am_Go d 247 (24, [some (.inr (.inr (some (10, 0)))), some (.inl a1)], [], am_mk r7) _ _ _ _
      refine am_Go.n htb 2 (S' := (26, [some (.inr (.inr (some (10, 0)))), some (.inl a1)], [.inl a1, .inr (.inr (some (10, 0)))], am_mk r7)) rfl ?_
      obtain ⟨r9, h10, h⟩ := am_bd h
      refine am_Go.cl htb rfl (ex_X10_isTable d (by omega) a1 r7 r9 h10) ?_
      show am_Go d 247 (29, [some (.inr (.inr (some (10, 0)))), some (.inl a1)], [.inl r9], am_mk r7) _ _ _ _
      by_cases hc11 : r9 ≠ 0
      · rw [if_pos hc11] at h
        refine am_Go.c1 htb (S' := (35, [some (.inr (.inr (some (10, 0)))), some (.inl a1)], [], am_mk r7)) (if_pos hc11) ?_
        refine am_Go.n htb 2 (S' := (37, [some (.inr (.inr (some (10, 0)))), some (.inl a1)], [.inl 1, .inr (.inr (some (10, 0)))], am_mk r7)) rfl ?_
        obtain ⟨r12, h13, h⟩ := am_bd h
        refine am_Go.cl htb rfl (ex_X10_remember d (by omega) 1 r7 r12 h13) ?_
        show am_Go d 247 (40, [some (.inr (.inr (some (10, 0)))), some (.inl a1)], [], am_mk r12) _ _ _ _
        refine am_Go.n htb 2 (S' := (42, [some (.inr (.inr (some (10, 0)))), some (.inl a1)], [.inl a1, .inr (.inr (some (10, 0)))], am_mk r12)) rfl ?_
        obtain ⟨r14, h15, h⟩ := am_bd h
        refine am_Go.cl htb rfl (ex_X10_feastIt d (by omega) a1 r12 r14 h15) ?_
        show am_Go d 247 (45, [some (.inr (.inr (some (10, 0)))), some (.inl a1)], [], am_mk r14) _ _ _ _
        refine am_Go.n htb 1 (S' := (46, [some (.inr (.inr (some (10, 0)))), some (.inl a1)], [.inl a1], am_mk r14)) rfl ?_
        obtain ⟨r16, h17, h⟩ := am_bd h
        refine am_Go.cl htb rfl (ex_X10_ones d (by omega) a1 r14 r16 h17) ?_
        show am_Go d 247 (49, [some (.inr (.inr (some (10, 0)))), some (.inl a1)], [.inl r16], am_mk r14) _ _ _ _
        cases h
        exact am_Go.rt htb rfl
      · rw [if_neg hc11] at h
        refine am_Go.c1 htb (S' := (32, [some (.inr (.inr (some (10, 0)))), some (.inl a1)], [], am_mk r7)) (if_neg hc11) ?_
        refine am_Go.n htb 1 (S' := (34, [some (.inr (.inr (some (10, 0)))), some (.inl a1)], [.inl (-3)], am_mk r7)) rfl ?_
        cases h
        exact am_Go.rt htb rfl
    · rw [if_neg hc6] at h
      refine am_Go.c1 htb (S' := (17, [some (.inr (.inr (some (10, 0)))), some (.inl a1)], [], am_mk m)) (if_neg hc6) ?_
      refine am_Go.n htb 1 (S' := (19, [some (.inr (.inr (some (10, 0)))), some (.inl a1)], [.inl (-2)], am_mk m)) rfl ?_
      cases h
      exact am_Go.rt htb rfl
  · rw [if_neg hc3] at h
    refine am_Go.c1 htb (S' := (7, [some (.inr (.inr (some (10, 0)))), some (.inl a1)], [], am_mk m)) (if_neg hc3) ?_
    refine am_Go.n htb 1 (S' := (8, [some (.inr (.inr (some (10, 0)))), some (.inl a1)], [.inl (-1)], am_mk m)) rfl ?_
    cases h
    exact am_Go.rt htb rfl
-- X10_feast
def fn_X10_feast (a1 : Int32) (m : am_m) : Option (Int32 × am_m) :=
  (fn_X10_feastNow a1 (am_si m 10 0 0 0)).bind fun r1 => (fn_X10_tell r1.1 r1.2).bind fun r3 => some (r3.1, r3.2)
set_option maxRecDepth 100000 in
theorem ex_X10_feast (d : Nat) (hd : 10 ≤ d) (a1 : Int32) (m : am_m) (t : Int32 × am_m) (h : fn_X10_feast a1 m = some t) : am_Ex am_cod d 248 [.inr (.inr (some (10, 0))), .inl a1] (am_mk m) (some (.inl t.1)) (am_mk t.2) 0 0 := by
  obtain ⟨d, rfl⟩ : ∃ e, d = e + 1 := ⟨d - 1, by omega⟩
  have htb : am_tab 248 = at_248 := rfl
  refine ⟨Nat.le_of_ble_eq_true rfl, ?_⟩
  unfold fn_X10_feast at h
  show am_Go d 248 (0, [some (.inr (.inr (some (10, 0)))), some (.inl a1)], [], am_mk m) _ _ 0 0
  refine am_Go.n htb 6 (S' := (8, [some (.inr (.inr (some (10, 0)))), some (.inl a1)], [.inl a1, .inr (.inr (some (10, 0))), .inr (.inr (some (10, 0)))], am_mk (am_si m 10 0 0 0))) rfl ?_
  obtain ⟨r1, h2, h⟩ := am_bd h
  refine am_Go.cl htb rfl (ex_X10_feastNow d (by omega) a1 (am_si m 10 0 0 0) r1 h2) ?_
  show am_Go d 248 (11, [some (.inr (.inr (some (10, 0)))), some (.inl a1)], [.inl r1.1, .inr (.inr (some (10, 0)))], am_mk r1.2) _ _ _ _
  obtain ⟨r3, h4, h⟩ := am_bd h
  refine am_Go.cl htb rfl (ex_X10_tell d (by omega) r1.1 r1.2 r3 h4) ?_
  show am_Go d 248 (14, [some (.inr (.inr (some (10, 0)))), some (.inl a1)], [.inl r3.1], am_mk r3.2) _ _ _ _
  cases h
  exact am_Go.rt htb rfl
-- X10_pardonNow
def fn_X10_pardonNow (a1 : Int32) (a2 : Int32) (m : am_m) : Option (Int32 × am_m) :=
  (if a1 ≠ a2 then (fn_X10_isFolk a1 m).bind fun r2 => (if r2 = 0 then some ((-2), m) else (fn_X10_isFolk a2 m).bind fun r5 => (if r5 ≠ 0 then (fn_X10_weightOf a1 a2 m).bind fun r8 => (if r8 ≠ 0 then (fn_X10_remember 2 m).bind fun r11 => am_ck (((14 : Int32) + ((7 : Int32) * a1)) + a2) 5518 (some (r8, am_si r11 44 0 (((14 : Int32) + ((7 : Int32) * a1)) + a2).toNatClampNeg 0)) else some ((-3), m)) else some ((-2), m))) else some ((-1), m))
set_option maxRecDepth 100000 in
theorem ex_X10_pardonNow (d : Nat) (hd : 3 ≤ d) (a1 : Int32) (a2 : Int32) (m : am_m) (t : Int32 × am_m) (h : fn_X10_pardonNow a1 a2 m = some t) : am_Ex am_cod d 249 [.inr (.inr (some (10, 0))), .inl a1, .inl a2] (am_mk m) (some (.inl t.1)) (am_mk t.2) 0 0 := by
  obtain ⟨d, rfl⟩ : ∃ e, d = e + 1 := ⟨d - 1, by omega⟩
  have htb : am_tab 249 = at_249 := rfl
  refine ⟨Nat.le_of_ble_eq_true rfl, ?_⟩
  unfold fn_X10_pardonNow at h
  show am_Go d 249 (0, [some (.inr (.inr (some (10, 0)))), some (.inl a1), some (.inl a2), none], [], am_mk m) _ _ 0 0
  refine am_Go.n htb 2 (S' := (2, [some (.inr (.inr (some (10, 0)))), some (.inl a1), some (.inl a2), none], [.inl a2, .inl a1], am_mk m)) rfl ?_
  by_cases hc1 : a1 ≠ a2
  · rw [if_pos hc1] at h
    refine am_Go.c1 htb (S' := (7, [some (.inr (.inr (some (10, 0)))), some (.inl a1), some (.inl a2), none], [], am_mk m)) (if_pos hc1) ?_
    refine am_Go.n htb 2 (S' := (9, [some (.inr (.inr (some (10, 0)))), some (.inl a1), some (.inl a2), none], [.inl a1, .inr (.inr (some (10, 0)))], am_mk m)) rfl ?_
    obtain ⟨r2, h3, h⟩ := am_bd h
    refine am_Go.cl htb rfl (ex_X10_isFolk d (by omega) a1 m r2 h3) ?_
    show am_Go d 249 (12, [some (.inr (.inr (some (10, 0)))), some (.inl a1), some (.inl a2), none], [.inl r2], am_mk m) _ _ _ _
    by_cases hc4 : r2 = 0
    · rw [if_pos hc4] at h
      refine am_Go.c1 htb (S' := (23, [some (.inr (.inr (some (10, 0)))), some (.inl a1), some (.inl a2), none], [], am_mk m)) (if_pos hc4) ?_
      refine am_Go.n htb 1 (S' := (25, [some (.inr (.inr (some (10, 0)))), some (.inl a1), some (.inl a2), none], [.inl (-2)], am_mk m)) rfl ?_
      cases h
      exact am_Go.rt htb rfl
    · rw [if_neg hc4] at h
      refine am_Go.c1 htb (S' := (15, [some (.inr (.inr (some (10, 0)))), some (.inl a1), some (.inl a2), none], [], am_mk m)) (if_neg hc4) ?_
      refine am_Go.n htb 2 (S' := (17, [some (.inr (.inr (some (10, 0)))), some (.inl a1), some (.inl a2), none], [.inl a2, .inr (.inr (some (10, 0)))], am_mk m)) rfl ?_
      obtain ⟨r5, h6, h⟩ := am_bd h
      refine am_Go.cl htb rfl (ex_X10_isFolk d (by omega) a2 m r5 h6) ?_
      show am_Go d 249 (20, [some (.inr (.inr (some (10, 0)))), some (.inl a1), some (.inl a2), none], [.inl r5], am_mk m) _ _ _ _
      by_cases hc7 : r5 ≠ 0
      · rw [if_pos hc7] at h
        refine am_Go.c1 htb (S' := (26, [some (.inr (.inr (some (10, 0)))), some (.inl a1), some (.inl a2), none], [], am_mk m)) (if_pos hc7) ?_
        refine am_Go.n htb 3 (S' := (29, [some (.inr (.inr (some (10, 0)))), some (.inl a1), some (.inl a2), none], [.inl a2, .inl a1, .inr (.inr (some (10, 0)))], am_mk m)) rfl ?_
        obtain ⟨r8, h9, h⟩ := am_bd h
        refine am_Go.cl htb rfl (ex_X10_weightOf d (by omega) a1 a2 m r8 h9) ?_
        show am_Go d 249 (32, [some (.inr (.inr (some (10, 0)))), some (.inl a1), some (.inl a2), none], [.inl r8], am_mk m) _ _ _ _
        refine am_Go.n htb 2 (S' := (34, [some (.inr (.inr (some (10, 0)))), some (.inl a1), some (.inl a2), some (.inl r8)], [.inl r8], am_mk m)) rfl ?_
        by_cases hc10 : r8 ≠ 0
        · rw [if_pos hc10] at h
          refine am_Go.c1 htb (S' := (40, [some (.inr (.inr (some (10, 0)))), some (.inl a1), some (.inl a2), some (.inl r8)], [], am_mk m)) (if_pos hc10) ?_
          refine am_Go.n htb 2 (S' := (42, [some (.inr (.inr (some (10, 0)))), some (.inl a1), some (.inl a2), some (.inl r8)], [.inl 2, .inr (.inr (some (10, 0)))], am_mk m)) rfl ?_
          obtain ⟨r11, h12, h⟩ := am_bd h
          refine am_Go.cl htb rfl (ex_X10_remember d (by omega) 2 m r11 h12) ?_
          show am_Go d 249 (45, [some (.inr (.inr (some (10, 0)))), some (.inl a1), some (.inl a2), some (.inl r8)], [], am_mk r11) _ _ _ _
          refine am_Go.n htb 10 (S' := (59, [some (.inr (.inr (some (10, 0)))), some (.inl a1), some (.inl a2), some (.inl r8)], [.inl 0, .inl (((14 : Int32) + ((7 : Int32) * a1)) + a2), .inr (.inr (some (44, 0)))], am_mk r11)) rfl ?_
          obtain ⟨hg13, h⟩ := am_ck_some h
          refine am_Go.c1 htb (S' := (60, [some (.inr (.inr (some (10, 0)))), some (.inl a1), some (.inl a2), some (.inl r8)], [], am_mk (am_si r11 44 0 (((14 : Int32) + ((7 : Int32) * a1)) + a2).toNatClampNeg 0))) (if_neg hg13) ?_
          refine am_Go.n htb 1 (S' := (61, [some (.inr (.inr (some (10, 0)))), some (.inl a1), some (.inl a2), some (.inl r8)], [.inl r8], am_mk (am_si r11 44 0 (((14 : Int32) + ((7 : Int32) * a1)) + a2).toNatClampNeg 0))) rfl ?_
          cases h
          exact am_Go.rt htb rfl
        · rw [if_neg hc10] at h
          refine am_Go.c1 htb (S' := (37, [some (.inr (.inr (some (10, 0)))), some (.inl a1), some (.inl a2), some (.inl r8)], [], am_mk m)) (if_neg hc10) ?_
          refine am_Go.n htb 1 (S' := (39, [some (.inr (.inr (some (10, 0)))), some (.inl a1), some (.inl a2), some (.inl r8)], [.inl (-3)], am_mk m)) rfl ?_
          cases h
          exact am_Go.rt htb rfl
      · rw [if_neg hc7] at h
        refine am_Go.c1 htb (S' := (23, [some (.inr (.inr (some (10, 0)))), some (.inl a1), some (.inl a2), none], [], am_mk m)) (if_neg hc7) ?_
        refine am_Go.n htb 1 (S' := (25, [some (.inr (.inr (some (10, 0)))), some (.inl a1), some (.inl a2), none], [.inl (-2)], am_mk m)) rfl ?_
        cases h
        exact am_Go.rt htb rfl
  · rw [if_neg hc1] at h
    refine am_Go.c1 htb (S' := (5, [some (.inr (.inr (some (10, 0)))), some (.inl a1), some (.inl a2), none], [], am_mk m)) (if_neg hc1) ?_
    refine am_Go.n htb 1 (S' := (6, [some (.inr (.inr (some (10, 0)))), some (.inl a1), some (.inl a2), none], [.inl (-1)], am_mk m)) rfl ?_
    cases h
    exact am_Go.rt htb rfl
