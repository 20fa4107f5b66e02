/-! law: the class's own, by hand (it makes a Script) -/
/-- a new Script -/
def nuS (m : am_m) : am_m := (ci_X5_init (am_u2 m.1 5 (m.2.2.2.2.2.2.2 5) (fun _ => 0)) (m.2.2.2.2.2.2.2 5) 0 0, cg_X5_init (am_u2 m.2.1 5 (m.2.2.2.2.2.2.2 5) (fun _ => 0)) (m.2.2.2.2.2.2.2 5) 0 0, m.2.2.1, m.2.2.2.1, m.2.2.2.2.1, m.2.2.2.2.2.1, am_u2 (am_u2 m.2.2.2.2.2.2.1 28 (m.2.2.2.2.2.2.2 5) (6 * nv (m.1 5 0 2))) 29 (m.2.2.2.2.2.2.2 5) (nv (m.1 5 0 3)), cc_X5_init (am_u1 m.2.2.2.2.2.2.2 5 (m.2.2.2.2.2.2.2 5 + 1)) (m.2.2.2.2.2.2.2 5))
def trm (m : am_m) : am_m := am_sc (am_sc (am_si (am_si (nuS m) 5 (m.2.2.2.2.2.2.2 5) 2 (m.1 5 0 2)) 5 (m.2.2.2.2.2.2.2 5) 3 (m.1 5 0 3)) 28 0 28 (m.2.2.2.2.2.2.2 5) 0 0 (6 * nv (m.1 5 0 2))) 29 0 29 (m.2.2.2.2.2.2.2 5) 0 0 (nv (m.1 5 0 3))
abbrev trm_g (m : am_m) : Prop := nv (m.1 5 0 2) ≤ 12 ∧ m.1 5 0 2 = nI (nv (m.1 5 0 2)) ∧ nv (m.1 5 0 3) ≤ 448 ∧ m.1 5 0 3 = nI (nv (m.1 5 0 3))
def law_fin (r : am_m) : Option (Int32 × am_m) := am_ck (r.1 8 0 2) 6 ((fn_X9_told (r.1 8 0 2) (am_si (am_ss (trm r) 0 (r.1 8 0 2).toNatClampNeg (some (r.2.2.2.2.2.2.2 5))) 8 0 2 ((r.1 8 0 2) + 1))).bind fun q => some (q.1, q.2))
def fn_X9_law (m : am_m) : Option (Int32 × am_m) :=
  if (6 : Int32) ≤ (m.1 8 0 2) then (fn_X9_told (-5) (am_si m 7 0 1 0)).bind fun q => some (q.1, q.2)
  else (fn_X4_readWhole 0 m).bind fun r6 => if r6.1 ≠ 0 then am_gd (trm_g r6.2) (law_fin r6.2) else (fn_X9_told (-6) r6.2).bind fun q => some (q.1, q.2)
section TR
variable {m m' : am_m}
theorem trm_I {c w : Nat} (h : w ≠ m.2.2.2.2.2.2.2 5 ∨ (c ≠ 5 ∧ c ≠ 28 ∧ c ≠ 29)) : (trm m).1 c w = m.1 c w := by
  have ne : ∀ a, (a = 5 ∨ a = 28 ∨ a = 29) → ¬ (c = a ∧ w = m.2.2.2.2.2.2.2 5) := fun a ha z => by
    rcases h with h | h
    · exact h z.2
    · omega
  show am_u2 (am_u2 (am_u3 (am_u3 (ci_X5_init _ _ 0 0) 5 _ 2 _) 5 _ 3 _) 28 _ _) 29 _ _ c w = _
  unfold ci_X5_init
  rw [am_u2_ne (ne 29 (by omega)), am_u2_ne (ne 28 (by omega)), am_u3_ne (ne 5 (by omega)), am_u3_ne (ne 5 (by omega)), am_u2_ne (ne 29 (by omega)), am_u2_ne (ne 28 (by omega)), am_u3_ne (ne 5 (by omega)), am_u3_ne (ne 5 (by omega)), am_u3_ne (ne 5 (by omega)), am_u2_ne (ne 5 (by omega))]
theorem trm_G {c : Nat} (h : c ≠ 5 ∧ c ≠ 28 ∧ c ≠ 29) : (trm m).2.1 c = m.2.1 c := by
  funext w
  have ne : ∀ a, (a = 5 ∨ a = 28 ∨ a = 29) → ¬ (c = a ∧ w = m.2.2.2.2.2.2.2 5) := fun a ha z => by omega
  show cg_X5_init _ _ 0 0 c w = _
  unfold cg_X5_init
  rw [am_u2_ne (ne 29 (by omega)), am_u2_ne (ne 28 (by omega)), am_u2_ne (ne 5 (by omega))]
theorem trm_C (c : Nat) : (trm m).2.2.2.2.2.2.2 c = if c = 5 ∨ c = 28 ∨ c = 29 then m.2.2.2.2.2.2.2 5 + 1 else m.2.2.2.2.2.2.2 c := by
  show cc_X5_init (am_u1 m.2.2.2.2.2.2.2 5 (m.2.2.2.2.2.2.2 5 + 1)) (m.2.2.2.2.2.2.2 5) c = _
  unfold cc_X5_init am_u1
  by_cases h : c = 5 ∨ c = 28 ∨ c = 29
  · rw [if_pos h]
    by_cases a1 : c = 29
    · rw [if_pos a1]
    rw [if_neg a1]
    by_cases a2 : c = 28
    · rw [if_pos a2]
    rw [if_neg a2, if_pos (by omega)]
  · rw [if_neg h, if_neg (by omega), if_neg (by omega), if_neg (by omega)]
theorem trm_N (c w : Nat) : (trm m).2.2.2.2.2.2.1 c w = if c = 29 ∧ w = m.2.2.2.2.2.2.2 5 then nv (m.1 5 0 3) else if c = 28 ∧ w = m.2.2.2.2.2.2.2 5 then 6 * nv (m.1 5 0 2) else m.2.2.2.2.2.2.1 c w := by
  show am_u2 (am_u2 m.2.2.2.2.2.2.1 28 _ _) 29 _ _ c w = _
  by_cases e : c = 29 ∧ w = m.2.2.2.2.2.2.2 5
  · rw [if_pos e, e.1, e.2, am_u2_eq]
  · rw [if_neg e, am_u2_ne e]
    by_cases e : c = 28 ∧ w = m.2.2.2.2.2.2.2 5
    · rw [if_pos e, e.1, e.2, am_u2_eq]
    · rw [if_neg e, am_u2_ne e]
theorem nuS_I {c w : Nat} (h : w ≠ m.2.2.2.2.2.2.2 5) : (nuS m).1 c w = m.1 c w := by
  show ci_X5_init _ _ 0 0 c w = _
  unfold ci_X5_init
  rw [am_u2_ne (fun z => h z.2), am_u2_ne (fun z => h z.2), am_u3_ne (fun z => h z.2), am_u3_ne (fun z => h z.2), am_u3_ne (fun z => h z.2), am_u2_ne (fun z => h z.2)]
theorem trm_5 : (trm m).1 5 (m.2.2.2.2.2.2.2 5) 2 = m.1 5 0 2 ∧ (trm m).1 5 (m.2.2.2.2.2.2.2 5) 3 = m.1 5 0 3 := by
  have e : ∀ k, (trm m).1 5 (m.2.2.2.2.2.2.2 5) k = (am_si (am_si (nuS m) 5 (m.2.2.2.2.2.2.2 5) 2 (m.1 5 0 2)) 5 (m.2.2.2.2.2.2.2 5) 3 (m.1 5 0 3)).1 5 (m.2.2.2.2.2.2.2 5) k := fun k => by
    unfold trm
    rw [rd_sc, if_neg (fun z => absurd z.1 (by decide)), rd_sc, if_neg (fun z => absurd z.1 (by decide))]
  rw [e, e, rd_j, rd_j, rd_j]
  exact ⟨rfl, rfl⟩
theorem trm_28 (h : m.2.2.2.2.2.2.2 5 ≠ 0) {i : Nat} (hi : i < 6 * nv (m.1 5 0 2)) : (trm m).1 28 (m.2.2.2.2.2.2.2 5) i = m.1 28 0 i := by
  unfold trm
  rw [rd_sc, if_neg (fun z => absurd z.1 (by decide)), rd_sc, if_pos ⟨rfl, rfl⟩]
  unfold va_cpy
  rw [if_pos (by omega), rd_si, if_neg (fun z => absurd z.1 (by decide)), rd_si, if_neg (fun z => absurd z.1 (by decide)), nuS_I (Ne.symm h), show 0 + (i - 0) = i by omega]
theorem trm_29 (h : m.2.2.2.2.2.2.2 5 ≠ 0) {i : Nat} (hi : i < nv (m.1 5 0 3)) : (trm m).1 29 (m.2.2.2.2.2.2.2 5) i = m.1 29 0 i := by
  unfold trm
  rw [rd_sc, if_pos ⟨rfl, rfl⟩]
  unfold va_cpy
  rw [if_pos (by omega), rd_sc, if_neg (fun z => absurd z.1 (by decide)), rd_si, if_neg (fun z => absurd z.1 (by decide)), rd_si, if_neg (fun z => absurd z.1 (by decide)), nuS_I (Ne.symm h), show 0 + (i - 0) = i by omega]
/-- what both use when they read -/
abbrev lvRd : List (Nat × Nat) := [(4, 4), (4, 5), (4, 6), (4, 7), (4, 8), (4, 9), (4, 10), (5, 2), (5, 3), (5, 4), (7, 1), (9, 16), (9, 17), (10, 0), (10, 1), (10, 13), (10, 14), (10, 15), (10, 16), (10, 18), (10, 19), (10, 20), (10, 21), (10, 23), (10, 26), (10, 29), (10, 30), (10, 57), (25, 0), (26, 0), (27, 0), (28, 0), (29, 0), (42, 0), (43, 0), (51, 0), (52, 0), (53, 0), (54, 0), (55, 0), (61, 0)]
theorem Inv0.rd (h : Inv0 m) (k : am_kp lvRd [(10, 17)] 0 m m') (hS : sm_S m m') (h7 : m'.1 7 0 1 = 0) (h13 : m'.1 10 0 13 = 0) (hX : iv_X m') : Inv0 m' := by
  obtain ⟨h1, h2, h3, h4, h5, h6, h7', h8, h9, h10⟩ := h
  have e44 : m'.1 44 = m.1 44 := k.row 44 rfl
  have hU : ∀ u, sm_U m m' u := sm_U.kp k rfl
  have he : m'.2.2 = m.2.2 := k.2.2
  refine ⟨by rw [e44]; exact h1, by rw [e44]; exact h2.of (hU 0), by rw [e44]; exact h3.of rfl (fun _ _ => rfl) hS (by rw [he]) (by rw [he]), ?_, h5.of (by rw [k.row 45 rfl]) (by rw [k.row 91 rfl]) (fun u _ => hU u) hS (by rw [he]), ?_, ⟨h7.trans h13.symm, 0, by decide, h13, fun k hk => absurd hk (Nat.not_lt_zero _)⟩, hX, by rw [he]; exact h9, ?_⟩
  · rw [e44, k.fld 3 0 1 rfl, k.row 24 rfl, k.fld 10 0 8 rfl, k.row 46 rfl, k.row 47 rfl]; exact h4
  · have e2 := hU 2
    rw [k.fld 10 0 61 rfl, k.row 63 rfl, e2.1, e2.2.1, e2.2.2.1]; exact h6
  · exact h10.of (k.rowL 82 rfl) (k.rowL 83 rfl) (k.rowL 84 rfl) (k.rowL 89 rfl)
theorem law_ref_bad {M r16 : am_m} (h6 : M.1 44 0 2 ≠ 6) (hA : rAll fn_X10_readLaw lp_X10_law_37 0 (am_si M 10 0 0 0) r16) (h19 : r16.1 10 0 19 = 1) : fn_X10_law M = some (-6, st_10 (-6) r16) := by
  obtain ⟨r2, r4, q14, g1, g2, g3, g4⟩ := hA
  unfold fn_X10_law
  rw [if_pos h6, g1, bd_s, g2, bd_s, g3, bd_s, g4, bd_s, if_neg (show ¬ r16.1 10 0 19 = 0 by rw [h19]; decide), tl_ok (show an_ok (-6) from an_no 6 (by decide) (by decide)), bd_s]
/-- the tape of both, as a TEXT -/
theorem Inv.txt (h : Inv m) : ∃ T L, ctx7 T L m ∧ rtx T L m ∧ L ≤ 400 := by
  obtain ⟨n, h1, h2, h3, h4⟩ := h.T
  refine ⟨fun k => nv (m.1 50 0 k), n, ⟨h1, h2, fun k hk => ?_⟩, ⟨h1, h3, fun k hk => ?_⟩, h1⟩
  · obtain ⟨g1, b, g2, g3⟩ := h4 k hk
    show nv (m.1 50 0 k) < 256 ∧ m.1 35 0 k = nI (nv (m.1 50 0 k))
    rw [g1, g3, nv_nI (show b < 2 ^ 31 by omega)]
    exact ⟨g2, rfl⟩
  · obtain ⟨g1, b, g2, g3⟩ := h4 k hk
    show nv (m.1 50 0 k) < 256 ∧ m.1 50 0 k = nI (nv (m.1 50 0 k))
    rw [g3, nv_nI (show b < 2 ^ 31 by omega)]
    exact ⟨g2, rfl⟩
theorem rtx.of {T : Nat → Nat} {L : Nat} {M M' : am_m} (h : rtx T L M) (h1 : M'.1 10 0 13 = M.1 10 0 13) (h2 : M'.1 50 = M.1 50) : rtx T L M' := ⟨h.1, by rw [h1]; exact h.2.1, fun k hk => by rw [h2]; exact h.2.2 k hk⟩
theorem law_bad (h : Inv m) {q : Nat} {r16 : am_m} (h6 : ¬ (6 : Int32) ≤ m.1 8 0 2) (h44 : m.1 44 0 2 ≠ 6) (e1 : fn_X4_readWhole 0 m = some (0, m')) (e2 : m'.1 4 0 10 = nI q) (e3 : rAll fn_X10_readLaw lp_X10_law_37 0 (am_si (st_9 (-6) m') 10 0 0 0) r16) (e4 : r16.1 10 0 19 = 1) (e5 : r16.1 10 0 18 = nI q) : op_ok m (fun m => fn_X9_law m) (fun m => fn_X10_law m) := by
  have kA := kp_X4_readWhole _ _ _ e1
  have sA := ks_X4_readWhole _ _ _ e1
  have k9 := st_9_kp (-6) m'
  obtain ⟨kR, g20, g13⟩ := rAll_kp e3 kLaw kLaws
  have kB : am_kp lvRd [(10, 17)] 0 (st_9 (-6) m') r16 := (am_kp.si am_kp.rf rfl : am_kp lvRd [(10, 17)] 0 (st_9 (-6) m') (am_si (st_9 (-6) m') 10 0 0 0)).tr (am_kp.mono kR rfl)
  have k10 := st_10_kp (-6) r16
  have kk : am_kp lvRd [(10, 17)] 0 m (st_10 (-6) r16) := ((am_kp.mono kA rfl).tr (am_kp.mono k9 rfl)).tr (kB.tr (am_kp.mono k10 rfl))
  have kk2 : am_kp [(9, 17), (10, 0), (10, 1), (10, 13), (10, 14), (10, 15), (10, 16), (10, 18), (10, 19), (10, 20), (10, 21), (10, 23), (10, 26), (10, 29), (10, 30), (42, 0), (43, 0), (51, 0), (52, 0), (53, 0), (54, 0), (55, 0), (61, 0)] [(10, 17)] 0 m' (st_10 (-6) r16) := (am_kp.mono k9 rfl).tr (((am_kp.si am_kp.rf rfl).tr (am_kp.mono kR rfl)).tr (am_kp.mono k10 rfl))
  refine ⟨-6, st_9 (-6) m', st_10 (-6) r16, ?_, law_ref_bad ?_ e3 e4, ?_, ?_⟩
  · show fn_X9_law m = _
    unfold fn_X9_law
    rw [if_neg h6, e1, bd_s, if_neg (show ¬ (0 : Int32) ≠ 0 from fun z => z rfl), td_ok (show an_ok (-6) from an_no 6 (by decide) (by decide)), bd_s]
  · rw [k9.row 44 rfl, kA.row 44 rfl]; exact h44
  · refine h.1.rd kk (sA.tr (sm_S.of5 (kk2.obj 5 rfl) (kk2.row 28 rfl) (kk2.row 29 rfl))) ?_ ?_ ?_
    · rw [kk2.fld 7 0 1 rfl]; exact whole7 e1
    · rw [k10.fld 10 0 13 rfl]; exact g13
    · have hX := h.1.2.2.2.2.2.2.2.1
      unfold iv_X
      rw [kk.fld 9 0 15 rfl, kk.fld 10 0 11 rfl, kk2.fld 9 0 16 rfl, kk2.fld 10 0 57 rfl, kA.fld 9 0 16 rfl, kA.fld 10 0 57 rfl, kk2.fld 4 0 10 rfl, e2, k10.fld 10 0 18 rfl, e5, k10.fld 10 0 20 rfl, g20]
      exact ⟨hX.1, hX.2.1, rfl, rfl⟩
  · exact st_S h.2 kA rfl ((am_kp.si am_kp.rf rfl : am_kp [(10, 0), (10, 13), (10, 14), (10, 15), (10, 16), (10, 18), (10, 19), (10, 20), (10, 21), (10, 23), (10, 26), (10, 29), (10, 30), (51, 0), (52, 0), (53, 0), (54, 0), (55, 0), (61, 0)] [(10, 17)] 0 (st_9 (-6) m') (am_si (st_9 (-6) m') 10 0 0 0)).tr (am_kp.mono kR rfl)) rfl
theorem law_full (h : Inv m) (h6 : (6 : Int32) ≤ m.1 8 0 2) (h44 : m.1 44 0 2 = 6) : op_ok m (fun m => fn_X9_law m) (fun m => fn_X10_law m) := by
  have kA : am_kp [(7, 1)] [] 0 m (am_si m 7 0 1 0) := am_kp.si am_kp.rf rfl
  have k9 := st_9_kp (-5) (am_si m 7 0 1 0)
  have kB : am_kp [(10, 0), (10, 13)] [] 0 (st_9 (-5) (am_si m 7 0 1 0)) (am_si (am_si (st_9 (-5) (am_si m 7 0 1 0)) 10 0 0 0) 10 0 13 0) := am_kp.si (am_kp.si am_kp.rf rfl) rfl
  have k10 := st_10_kp (-5) (am_si (am_si (st_9 (-5) (am_si m 7 0 1 0)) 10 0 0 0) 10 0 13 0)
  have kk : am_kp lvRd [(10, 17)] 0 m (st_10 (-5) (am_si (am_si (st_9 (-5) (am_si m 7 0 1 0)) 10 0 0 0) 10 0 13 0)) := ((am_kp.mono kA rfl).tr (am_kp.mono k9 rfl)).tr ((am_kp.mono kB rfl).tr (am_kp.mono k10 rfl))
  have kk3 : am_kp [(7, 1), (9, 17), (10, 0), (10, 1), (10, 13), (42, 0), (43, 0)] [] 0 m (st_10 (-5) (am_si (am_si (st_9 (-5) (am_si m 7 0 1 0)) 10 0 0 0) 10 0 13 0)) := ((am_kp.mono kA rfl).tr (am_kp.mono k9 rfl)).tr ((am_kp.mono kB rfl).tr (am_kp.mono k10 rfl))
  refine ⟨-5, st_9 (-5) (am_si m 7 0 1 0), _, ?_, ?_, h.1.rd kk (sm_S.of5 (kk3.obj 5 rfl) (kk3.row 28 rfl) (kk3.row 29 rfl)) ?_ ?_ (h.1.2.2.2.2.2.2.2.1.of (kk3.fld 9 0 15 rfl) (kk3.fld 10 0 11 rfl) (kk3.fld 9 0 16 rfl) (kk3.fld 10 0 57 rfl) (kk3.fld 4 0 10 rfl) (kk3.fld 10 0 18 rfl) (kk3.fld 10 0 20 rfl)), st_S h.2 kA rfl kB rfl⟩
  · show fn_X9_law m = _
    unfold fn_X9_law
    rw [if_pos h6, td_ok (show an_ok (-5) from an_no 5 (by decide) (by decide)), bd_s]
  · show fn_X10_law _ = _
    unfold fn_X10_law
    rw [k9.row 44 rfl, if_neg (show ¬ (am_si m 7 0 1 0).1 44 0 2 ≠ 6 from fun z => z h44), tl_ok (show an_ok (-5) from an_no 5 (by decide) (by decide)), bd_s]
  · rw [k10.fld 7 0 1 rfl]
    show (st_9 (-5) (am_si m 7 0 1 0)).1 7 0 1 = 0
    rw [k9.fld 7 0 1 rfl]; rfl
  · rw [k10.fld 10 0 13 rfl]; rfl
end TR
