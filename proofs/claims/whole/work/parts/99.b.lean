/-! law and image of the class -/
section LWX
set_option maxRecDepth 100000 in
theorem ex_X9_law (d : Nat) (hd : 50 ≤ d) (m : am_m) (t : Int32 × am_m) (hA : iv_A m.2.2) (h : fn_X9_law m = some t) : ∃ kc ks, kc ≤ 3 ∧ ks ≤ 600 ∧ am_Ex am_cod d 121 [.inr (.inr (some (9, 0)))] (am_mk m) (some (.inl t.1)) (am_mk t.2) kc ks := by
  obtain ⟨d, rfl⟩ : ∃ e, d = e + 1 := ⟨d - 1, by omega⟩
  have htb : am_tab 121 = at_121 := rfl
  unfold fn_X9_law at h
  suffices hh : ∃ kc ks, kc ≤ 3 ∧ ks ≤ 600 ∧ am_Go d 121 (0, [some (.inr (.inr (some (9, 0)))), none], [], am_mk m) (some (.inl t.1)) (am_mk t.2) kc ks by
    obtain ⟨kc, ks, h1, h2, h3⟩ := hh
    exact ⟨kc, ks, h1, h2, Nat.le_of_ble_eq_true rfl, h3⟩
  by_cases hc : (6 : Int32) ≤ m.1 8 0 2
  · rw [if_pos hc] at h
    obtain ⟨q, h1, h⟩ := am_bd h
    refine ⟨0, 0, by decide, by decide, ?_⟩
    refine am_Go.n htb 4 (S' := (9, [some (.inr (.inr (some (9, 0)))), none], [.inl 6, .inl (m.1 8 0 2)], am_mk m)) rfl ?_
    refine am_Go.c1 htb (S' := (12, [some (.inr (.inr (some (9, 0)))), none], [], am_mk m)) (if_neg (fun z => (fa_of_lt z).2.1 hc)) ?_
    refine am_Go.n htb 6 (S' := (23, [some (.inr (.inr (some (9, 0)))), none], [.inl (-5), .inr (.inr (some (9, 0)))], am_mk (am_si m 7 0 1 0))) rfl ?_
    refine am_Go.cl htb rfl (ex_X9_told d (by omega) (-5) (am_si m 7 0 1 0) q h1) ?_
    show am_Go d 121 (26, [some (.inr (.inr (some (9, 0)))), none], [.inl q.1], am_mk q.2) _ _ _ _
    cases h
    exact am_Go.rt htb rfl
  · rw [if_neg hc] at h
    obtain ⟨r6, h1, h⟩ := am_bd h
    have k6 := kp_X4_readWhole _ _ _ h1
    have e6 : r6.2.2.2 = m.2.2 := k6.2.2
    by_cases hr : r6.1 ≠ 0
    · rw [if_pos hr] at h
      obtain ⟨hg, h⟩ := am_gd_some h
      unfold law_fin at h
      obtain ⟨hk, h⟩ := am_ck_some h
      obtain ⟨q, h2, h⟩ := am_bd h
      have hA6 : iv_A r6.2.2.2 := by rw [e6]; exact hA
      obtain ⟨g1, g2, g3, g4⟩ := id hg
      refine ⟨0 + (3 + 0), 0 + (5 + (6 * nv (r6.2.1 5 0 2) + nv (r6.2.1 5 0 3)) + 0), by omega, by omega, ?_⟩
      refine am_Go.n htb 4 (S' := (9, [some (.inr (.inr (some (9, 0)))), none], [.inl 6, .inl (m.1 8 0 2)], am_mk m)) rfl ?_
      refine am_Go.c1 htb (S' := (27, [some (.inr (.inr (some (9, 0)))), none], [], am_mk m)) (if_pos (fa_of_nle hc)) ?_
      refine am_Go.n htb 5 (S' := (36, [some (.inr (.inr (some (9, 0)))), none], [.inl 0, .inr (.inr (some (7, 0))), .inr (.inr (some (4, 0)))], am_mk m)) rfl ?_
      refine am_Go.ca htb rfl (ex_X4_readWhole d (by omega) 0 m r6 h1) ?_
      show am_Go d 121 (39, [some (.inr (.inr (some (9, 0)))), none], [.inl r6.1], am_mk r6.2) _ _ _ _
      refine am_Go.c1 htb (S' := (49, [some (.inr (.inr (some (9, 0)))), none], [], am_mk r6.2)) (if_pos hr) ?_
      refine am_Go.n htb 11 (S' := (72, [some (.inr (.inr (some (9, 0)))), some (.inl (r6.2.1 8 0 2))], [.inr (.inr (some (5, 0))), .inl (r6.2.1 8 0 2), .inr (.inr (some (100, 0)))], am_mk r6.2)) rfl ?_
      refine am_Go.ca htb rfl (ex_X5_trimmed d (by omega) hA6 hg) ?_
      show am_Go d 121 (75, [some (.inr (.inr (some (9, 0)))), some (.inl (r6.2.1 8 0 2))], [.inr (.inr (Option.map (fun j => (5, j)) (some (r6.2.2.2.2.2.2.2.2 5)))), .inl (r6.2.1 8 0 2), .inr (.inr (some (100, 0)))], am_mk (trm r6.2)) _ _ _ _
      refine am_Go.o htb am_o_aast rfl (am_ass (some (r6.2.2.2.2.2.2.2.2 5)) hk) ?_
      refine am_Go.n htb 8 (S' := (88, [some (.inr (.inr (some (9, 0)))), some (.inl (r6.2.1 8 0 2))], [.inl (r6.2.1 8 0 2), .inr (.inr (some (9, 0)))], am_mk (am_si (am_ss (trm r6.2) 0 (r6.2.1 8 0 2).toNatClampNeg (some (r6.2.2.2.2.2.2.2.2 5))) 8 0 2 ((r6.2.1 8 0 2) + 1)))) rfl ?_
      refine am_Go.cl htb rfl (ex_X9_told d (by omega) (r6.2.1 8 0 2) _ q h2) ?_
      show am_Go d 121 (91, [some (.inr (.inr (some (9, 0)))), some (.inl (r6.2.1 8 0 2))], [.inl q.1], am_mk q.2) _ _ _ _
      cases h
      exact am_Go.rt htb rfl
    · rw [if_neg hr] at h
      obtain ⟨q, h2, h⟩ := am_bd h
      refine ⟨0, 0, by decide, by decide, ?_⟩
      refine am_Go.n htb 4 (S' := (9, [some (.inr (.inr (some (9, 0)))), none], [.inl 6, .inl (m.1 8 0 2)], am_mk m)) rfl ?_
      refine am_Go.c1 htb (S' := (27, [some (.inr (.inr (some (9, 0)))), none], [], am_mk m)) (if_pos (fa_of_nle hc)) ?_
      refine am_Go.n htb 5 (S' := (36, [some (.inr (.inr (some (9, 0)))), none], [.inl 0, .inr (.inr (some (7, 0))), .inr (.inr (some (4, 0)))], am_mk m)) rfl ?_
      refine am_Go.cl htb rfl (ex_X4_readWhole d (by omega) 0 m r6 h1) ?_
      show am_Go d 121 (39, [some (.inr (.inr (some (9, 0)))), none], [.inl r6.1], am_mk r6.2) _ _ _ _
      refine am_Go.c1 htb (S' := (42, [some (.inr (.inr (some (9, 0)))), none], [], am_mk r6.2)) (if_neg hr) ?_
      refine am_Go.n htb 2 (S' := (45, [some (.inr (.inr (some (9, 0)))), none], [.inl (-6), .inr (.inr (some (9, 0)))], am_mk r6.2)) rfl ?_
      refine am_Go.cl htb rfl (ex_X9_told d (by omega) (-6) r6.2 q h2) ?_
      show am_Go d 121 (48, [some (.inr (.inr (some (9, 0)))), none], [.inl q.1], am_mk q.2) _ _ _ _
      cases h
      exact am_Go.rt htb rfl
theorem nuU_mk (m : am_m) : (ci_X8_init (am_u2 m.1 8 (m.2.2.2.2.2.2.2 8) (fun _ => 0)) (m.2.2.2.2.2.2.2 8), cg_X8_init (am_u2 m.2.1 8 (m.2.2.2.2.2.2.2 8) (fun _ => 0)) (m.2.2.2.2.2.2.2 8), am_u2 (am_R0 m.2.2) 8 (m.2.2.2.2.2.2.2 8) (cp_X8_init (fun _ => none) (m.2.2.2.2.2.2.2 8)), am_N0 m.2.2, cc_X8_init (am_u1 m.2.2.2.2.2.2.2 8 (m.2.2.2.2.2.2.2 8 + 1)) (m.2.2.2.2.2.2.2 8)) = am_mk (nuU m) := by
  rw [am_u2_id (am_R0_8 m.2.2 _)]
  rfl
set_option maxRecDepth 100000 in
theorem ex_X9_image (d : Nat) (hd : 4 ≤ d) (a1 : Int32) (m : am_m) (t : Int32 × am_m) (hA : iv_A m.2.2) (h : fn_X9_image a1 m = some t) : ∃ kc ks, kc ≤ 7 ∧ ks ≤ 200 ∧ am_Ex am_cod d 150 [.inr (.inr (some (9, 0))), .inl a1] (am_mk m) (some (.inl t.1)) (am_mk t.2) kc ks := by
  obtain ⟨d, rfl⟩ : ∃ e, d = e + 1 := ⟨d - 1, by omega⟩
  have htb : am_tab 150 = at_150 := rfl
  unfold fn_X9_image at h
  suffices hh : ∃ kc ks, kc ≤ 7 ∧ ks ≤ 200 ∧ am_Go d 150 (0, [some (.inr (.inr (some (9, 0)))), some (.inl a1), none], [], am_mk m) (some (.inl t.1)) (am_mk t.2) kc ks by
    obtain ⟨kc, ks, h1, h2, h3⟩ := hh
    exact ⟨kc, ks, h1, h2, Nat.le_of_ble_eq_true rfl, h3⟩
  by_cases hc1 : a1 < 0
  · rw [if_pos hc1] at h
    obtain ⟨r2, h3, h⟩ := am_bd h
    refine ⟨0, 0, by decide, by decide, ?_⟩
    refine am_Go.n htb 1 (S' := (1, [some (.inr (.inr (some (9, 0)))), some (.inl a1), none], [.inl a1], am_mk m)) rfl ?_
    refine am_Go.c1 htb (S' := (9, [some (.inr (.inr (some (9, 0)))), some (.inl a1), none], [], am_mk m)) (if_pos hc1) ?_
    refine am_Go.n htb 2 (S' := (11, [some (.inr (.inr (some (9, 0)))), some (.inl a1), none], [.inl (-1), .inr (.inr (some (9, 0)))], am_mk m)) rfl ?_
    refine am_Go.cl htb rfl (ex_X9_told d (by omega) (-1) m r2 h3) ?_
    show am_Go d 150 (14, [some (.inr (.inr (some (9, 0)))), some (.inl a1), none], [.inl r2.1], am_mk r2.2) _ _ _ _
    cases h
    exact am_Go.rt htb rfl
  rw [if_neg hc1] at h
  by_cases hc4 : a1 < (2 : Int32)
  · rw [if_pos hc4] at h
    obtain ⟨hg5, h⟩ := am_ck_some h
    cases hu7 : (m.2.2.2.2.2.1 0 a1.toNatClampNeg) with
    | none =>
      rw [hu7] at h
      obtain ⟨r8, h8, h⟩ := am_bd h
      obtain ⟨r9, h9, h⟩ := am_bd h
      obtain ⟨i1, i2, i3, i4, i5, i6, i7, i8, i9, i10⟩ := hA
      refine ⟨1 + ((1 + (1 + (1 + (1 + (1 + (1 + 0)))))) + 0), 10 + ((7 + (49 + (49 + (3 + (6 + (6 + 0)))))) + 0), by decide, by decide, ?_⟩
      refine am_Go.n htb 1 (S' := (1, [some (.inr (.inr (some (9, 0)))), some (.inl a1), none], [.inl a1], am_mk m)) rfl ?_
      refine am_Go.c1 htb (S' := (4, [some (.inr (.inr (some (9, 0)))), some (.inl a1), none], [], am_mk m)) (if_neg hc1) ?_
      refine am_Go.n htb 2 (S' := (6, [some (.inr (.inr (some (9, 0)))), some (.inl a1), none], [.inl 2, .inl a1], am_mk m)) rfl ?_
      refine am_Go.c1 htb (S' := (15, [some (.inr (.inr (some (9, 0)))), some (.inl a1), none], [], am_mk m)) (if_pos hc4) ?_
      refine am_Go.n htb 3 (S' := (20, [some (.inr (.inr (some (9, 0)))), some (.inl a1), none], [.inl a1, .inr (.inr (some (101, 0)))], am_mk m)) rfl ?_
      refine am_Go.c1 htb (S' := (21, [some (.inr (.inr (some (9, 0)))), some (.inl a1), none], [.inr (.inr (Option.map (fun j => (8, j)) (m.2.2.2.2.2.1 0 a1.toNatClampNeg)))], am_mk m)) (if_neg hg5) ?_
      refine am_Go.n htb 2 (S' := (23, [some (.inr (.inr (some (9, 0)))), some (.inl a1), some (.inr (.inr (Option.map (fun j => (8, j)) (m.2.2.2.2.2.1 0 a1.toNatClampNeg))))], [.inr (.inr (Option.map (fun j => (8, j)) (m.2.2.2.2.2.1 0 a1.toNatClampNeg)))], am_mk m)) rfl ?_
      rw [hu7]
      refine am_Go.c1 htb (S' := (26, [some (.inr (.inr (some (9, 0)))), some (.inl a1), some (.inr (.inr none))], [], am_mk m)) rfl ?_
      refine am_Go.alo htb (am_o_new 8 10) rfl (S' := (29, [some (.inr (.inr (some (9, 0)))), some (.inl a1), some (.inr (.inr none))], [.inr (.inr (some (8, m.2.2.2.2.2.2.2 8)))], (am_u2 m.1 8 (m.2.2.2.2.2.2.2 8) (fun _ => 0), am_u2 m.2.1 8 (m.2.2.2.2.2.2.2 8) (fun _ => 0), am_u2 (am_R0 m.2.2) 8 (m.2.2.2.2.2.2.2 8) (fun _ => none), am_N0 m.2.2, am_u1 m.2.2.2.2.2.2.2 8 (m.2.2.2.2.2.2.2 8 + 1)))) (am_newi rfl (i1 8 _ (by decide))) ?_
      refine am_Go.n htb 1 (S' := (30, [some (.inr (.inr (some (9, 0)))), some (.inl a1), some (.inr (.inr none))], [.inr (.inr (some (8, m.2.2.2.2.2.2.2 8))), .inr (.inr (some (8, m.2.2.2.2.2.2.2 8)))], (am_u2 m.1 8 (m.2.2.2.2.2.2.2 8) (fun _ => 0), am_u2 m.2.1 8 (m.2.2.2.2.2.2.2 8) (fun _ => 0), am_u2 (am_R0 m.2.2) 8 (m.2.2.2.2.2.2.2 8) (fun _ => none), am_N0 m.2.2, am_u1 m.2.2.2.2.2.2.2 8 (m.2.2.2.2.2.2.2 8 + 1)))) rfl ?_
      have ini := ex_X8_init d (by omega) (am_R0 m.2.2) (am_N0 m.2.2) (am_u2 m.1 8 (m.2.2.2.2.2.2.2 8) (fun _ => 0)) (am_u2 m.2.1 8 (m.2.2.2.2.2.2.2 8) (fun _ => 0)) (am_u1 m.2.2.2.2.2.2.2 8 (m.2.2.2.2.2.2.2 8 + 1)) (m.2.2.2.2.2.2.2 8) (fun _ => none) (show m.2.2.2.2.2.2.2 36 = _ from i8 36 (by decide) (by decide)) (show m.2.2.2.2.2.2.2 37 = _ from i8 37 (by decide) (by decide)) (show m.2.2.2.2.2.2.2 38 = _ from i8 38 (by decide) (by decide)) (show m.2.2.2.2.2.2.2 39 = _ from i8 39 (by decide) (by decide)) (show m.2.2.2.2.2.2.2 40 = _ from i8 40 (by decide) (by decide)) (show m.2.2.2.2.2.2.2 100 = _ from i9) rfl rfl rfl rfl rfl rfl rfl rfl rfl rfl rfl (show m.2.2.2.2.1 (m.2.2.2.2.2.2.2 8) = _ from i10 _ (Nat.le_refl _))
      rw [nuU_mk] at ini
      refine am_Go.ca htb rfl ini ?_
      show am_Go d 150 (33, [some (.inr (.inr (some (9, 0)))), some (.inl a1), some (.inr (.inr none))], [.inr (.inr (some (8, m.2.2.2.2.2.2.2 8)))], am_mk (nuU m)) _ _ _ _
      refine am_Go.n htb 5 (S' := (40, [some (.inr (.inr (some (9, 0)))), some (.inl a1), some (.inr (.inr (some (8, m.2.2.2.2.2.2.2 8))))], [.inr (.inr (Option.map (fun j => (8, j)) (some (m.2.2.2.2.2.2.2 8)))), .inl a1, .inr (.inr (some (101, 0)))], am_mk (nuU m))) rfl ?_
      refine am_Go.o htb am_o_aast rfl (am_asu (some (m.2.2.2.2.2.2.2 8)) hg5) ?_
      refine am_Go.n htb 3 (S' := (46, [some (.inr (.inr (some (9, 0)))), some (.inl a1), some (.inr (.inr (some (8, m.2.2.2.2.2.2.2 8))))], [.inr (.inr (some (8, 0))), .inr (.inr (some (8, m.2.2.2.2.2.2.2 8)))], am_mk (am_su (nuU m) 0 a1.toNatClampNeg (some (m.2.2.2.2.2.2.2 8))))) rfl ?_
      refine am_Go.cl htb rfl (ex_X8_become d (by omega) (m.2.2.2.2.2.2.2 8) 0 _ r8 h8) ?_
      show am_Go d 150 (49, [some (.inr (.inr (some (9, 0)))), some (.inl a1), some (.inr (.inr (some (8, m.2.2.2.2.2.2.2 8))))], [], am_mk r8) _ _ _ _
      refine am_Go.n htb 2 (S' := (51, [some (.inr (.inr (some (9, 0)))), some (.inl a1), some (.inr (.inr (some (8, m.2.2.2.2.2.2.2 8))))], [.inl 0, .inr (.inr (some (9, 0)))], am_mk r8)) rfl ?_
      refine am_Go.cl htb rfl (ex_X9_told d (by omega) 0 r8 r9 h9) ?_
      show am_Go d 150 (54, [some (.inr (.inr (some (9, 0)))), some (.inl a1), some (.inr (.inr (some (8, m.2.2.2.2.2.2.2 8))))], [.inl r9.1], am_mk r9.2) _ _ _ _
      cases h
      exact am_Go.rt htb rfl
    | some u6 =>
      rw [hu7] at h
      obtain ⟨r8, h8, h⟩ := am_bd h
      obtain ⟨r9, h9, h⟩ := am_bd h
      refine ⟨0, 0, by decide, by decide, ?_⟩
      refine am_Go.n htb 1 (S' := (1, [some (.inr (.inr (some (9, 0)))), some (.inl a1), none], [.inl a1], am_mk m)) rfl ?_
      refine am_Go.c1 htb (S' := (4, [some (.inr (.inr (some (9, 0)))), some (.inl a1), none], [], am_mk m)) (if_neg hc1) ?_
      refine am_Go.n htb 2 (S' := (6, [some (.inr (.inr (some (9, 0)))), some (.inl a1), none], [.inl 2, .inl a1], am_mk m)) rfl ?_
      refine am_Go.c1 htb (S' := (15, [some (.inr (.inr (some (9, 0)))), some (.inl a1), none], [], am_mk m)) (if_pos hc4) ?_
      refine am_Go.n htb 3 (S' := (20, [some (.inr (.inr (some (9, 0)))), some (.inl a1), none], [.inl a1, .inr (.inr (some (101, 0)))], am_mk m)) rfl ?_
      refine am_Go.c1 htb (S' := (21, [some (.inr (.inr (some (9, 0)))), some (.inl a1), none], [.inr (.inr (Option.map (fun j => (8, j)) (m.2.2.2.2.2.1 0 a1.toNatClampNeg)))], am_mk m)) (if_neg hg5) ?_
      refine am_Go.n htb 2 (S' := (23, [some (.inr (.inr (some (9, 0)))), some (.inl a1), some (.inr (.inr (Option.map (fun j => (8, j)) (m.2.2.2.2.2.1 0 a1.toNatClampNeg))))], [.inr (.inr (Option.map (fun j => (8, j)) (m.2.2.2.2.2.1 0 a1.toNatClampNeg)))], am_mk m)) rfl ?_
      rw [hu7]
      refine am_Go.c1 htb (S' := (41, [some (.inr (.inr (some (9, 0)))), some (.inl a1), some (.inr (.inr (some (8, u6))))], [], am_mk m)) rfl ?_
      refine am_Go.n htb 3 (S' := (46, [some (.inr (.inr (some (9, 0)))), some (.inl a1), some (.inr (.inr (some (8, u6))))], [.inr (.inr (some (8, 0))), .inr (.inr (some (8, u6)))], am_mk m)) rfl ?_
      refine am_Go.cl htb rfl (ex_X8_become d (by omega) u6 0 m r8 h8) ?_
      show am_Go d 150 (49, [some (.inr (.inr (some (9, 0)))), some (.inl a1), some (.inr (.inr (some (8, u6))))], [], am_mk r8) _ _ _ _
      refine am_Go.n htb 2 (S' := (51, [some (.inr (.inr (some (9, 0)))), some (.inl a1), some (.inr (.inr (some (8, u6))))], [.inl 0, .inr (.inr (some (9, 0)))], am_mk r8)) rfl ?_
      refine am_Go.cl htb rfl (ex_X9_told d (by omega) 0 r8 r9 h9) ?_
      show am_Go d 150 (54, [some (.inr (.inr (some (9, 0)))), some (.inl a1), some (.inr (.inr (some (8, u6))))], [.inl r9.1], am_mk r9.2) _ _ _ _
      cases h
      exact am_Go.rt htb rfl
  · rw [if_neg hc4] at h
    obtain ⟨r2, h3, h⟩ := am_bd h
    refine ⟨0, 0, by decide, by decide, ?_⟩
    refine am_Go.n htb 1 (S' := (1, [some (.inr (.inr (some (9, 0)))), some (.inl a1), none], [.inl a1], am_mk m)) rfl ?_
    refine am_Go.c1 htb (S' := (4, [some (.inr (.inr (some (9, 0)))), some (.inl a1), none], [], am_mk m)) (if_neg hc1) ?_
    refine am_Go.n htb 2 (S' := (6, [some (.inr (.inr (some (9, 0)))), some (.inl a1), none], [.inl 2, .inl a1], am_mk m)) rfl ?_
    refine am_Go.c1 htb (S' := (9, [some (.inr (.inr (some (9, 0)))), some (.inl a1), none], [], am_mk m)) (if_neg hc4) ?_
    refine am_Go.n htb 2 (S' := (11, [some (.inr (.inr (some (9, 0)))), some (.inl a1), none], [.inl (-1), .inr (.inr (some (9, 0)))], am_mk m)) rfl ?_
    refine am_Go.cl htb rfl (ex_X9_told d (by omega) (-1) m r2 h3) ?_
    show am_Go d 150 (14, [some (.inr (.inr (some (9, 0)))), some (.inl a1), none], [.inl r2.1], am_mk r2.2) _ _ _ _
    cases h
    exact am_Go.rt htb rfl
end LWX
