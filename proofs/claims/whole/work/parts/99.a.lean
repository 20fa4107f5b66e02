/-! what makes objects, by hand: trimmed, law, image -/
theorem am_Go.eq {d k kc ks kc' ks' : Nat} {S : am_S} {r : Option am_V} {M' : am_M} (g : am_Go d k S r M' kc ks) (h1 : kc' = kc) (h2 : ks' = ks) : am_Go d k S r M' kc' ks' := by
  rw [h1, h2]; exact g
theorem am_N0_28 (e : am_e) (n x : Nat) : am_u2 (am_N0 e) 28 n x = am_N0 (e.1, e.2.1, e.2.2.1, e.2.2.2.1, am_u2 e.2.2.2.2.1 28 n x, e.2.2.2.2.2) := by
  funext c n'
  by_cases hc : c = 28
  · subst hc
    show (if 28 = 28 then (if n' = n then x else e.2.2.2.2.1 28 n') else e.2.2.2.2.1 28 n') = am_u2 e.2.2.2.2.1 28 n x 28 n'
    rfl
  · rw [am_u2_ne (fun q => hc q.1)]
    unfold am_N0
    split <;> first | rfl | exact (am_u2_ne (fun q => hc q.1)).symm
theorem am_N0_29 (e : am_e) (n x : Nat) : am_u2 (am_N0 e) 29 n x = am_N0 (e.1, e.2.1, e.2.2.1, e.2.2.2.1, am_u2 e.2.2.2.2.1 29 n x, e.2.2.2.2.2) := by
  funext c n'
  by_cases hc : c = 29
  · subst hc
    show (if 29 = 29 then (if n' = n then x else e.2.2.2.2.1 29 n') else e.2.2.2.2.1 29 n') = am_u2 e.2.2.2.2.1 29 n x 29 n'
    rfl
  · rw [am_u2_ne (fun q => hc q.1)]
    unfold am_N0
    split <;> first | rfl | exact (am_u2_ne (fun q => hc q.1)).symm
theorem am_R0_5 (e : am_e) (n : Nat) : cp_X5_init (fun _ => none) n = am_R0 e 5 n := by
  funext k
  rcases k with _ | _ | k <;> rfl
theorem am_R0_8 (e : am_e) (n : Nat) : cp_X8_init (fun _ => none) n = am_R0 e 8 n := by
  funext k
  rcases k with _ | _ | _ | _ | _ | _ | _ | _ | _ | _ | k <;> rfl
theorem am_N0_lo (e : am_e) {c : Nat} (hc : c < 18) (n : Nat) : am_N0 e c n = e.2.2.2.2.1 c n := by
  have : c = 0 ∨ c = 1 ∨ c = 2 ∨ c = 3 ∨ c = 4 ∨ c = 5 ∨ c = 6 ∨ c = 7 ∨ c = 8 ∨ c = 9 ∨ c = 10 ∨ c = 11 ∨ c = 12 ∨ c = 13 ∨ c = 14 ∨ c = 15 ∨ c = 16 ∨ c = 17 := by omega
  rcases this with rfl | rfl | rfl | rfl | rfl | rfl | rfl | rfl | rfl | rfl | rfl | rfl | rfl | rfl | rfl | rfl | rfl | rfl <;> rfl
theorem mx0 (k : Nat) (hk : k < 2 ^ 31) : (if (0 : Int32) < nI k then nI k else 0) = nI k := by
  by_cases h : (0 : Int32) < nI k
  · rw [if_pos h]
  · rw [if_neg h]
    have : k = 0 := by
      by_cases z : k = 0
      · exact z
      · exact absurd (nI_lt (a := 0) (by omega) hk) h
    rw [this]; rfl
theorem am_cpk {pc c0 n0 c1 n1 n : Nat} {L : List (Option am_V)} {m : am_m} (h0 : 20 ≤ c0 ∧ c0 < 80) (h1 : 20 ≤ c1 ∧ c1 < 79) (hn : n < 2 ^ 31) (g0 : n ≤ am_N0 m.2.2 c0 n0) (g1 : n ≤ am_N0 m.2.2 c1 n1) : am_o_cp (pc, L, [.inl (nI n), .inl 0, .inr (.inr (some (c1, n1))), .inl 0, .inr (.inr (some (c0, n0)))], am_mk m) = am_c (pc + 3, L, [], am_mk (am_sc m c0 n0 c1 n1 0 0 n)) := by
  have z0 : (0 : Int32).toNatClampNeg = 0 := by decide
  have hw : am_wt [] ≤ 8 := by decide
  show (if (20 ≤ c0 ∧ c0 < 80) ∧ (20 ≤ c1 ∧ c1 < 79) ∧ am_wt [] ≤ 8 then (if (0 : Int32) < 0 ∨ (0 : Int32) < 0 ∨ nI n < 0 ∨ am_N0 m.2.2 c0 n0 < (0 : Int32).toNatClampNeg + (nI n).toNatClampNeg ∨ am_N0 m.2.2 c1 n1 < (0 : Int32).toNatClampNeg + (nI n).toNatClampNeg then am_no else am_c (pc + 3, L, [], am_mk (am_sc m c0 n0 c1 n1 (0 : Int32).toNatClampNeg (0 : Int32).toNatClampNeg (nI n).toNatClampNeg))) else am_no) = _
  rw [if_pos ⟨h0, h1, hw⟩, nI_clamp hn, z0, if_neg]
  rintro (z | z | z | z | z)
  · exact absurd z (by decide)
  · exact absurd z (by decide)
  · exact nI_pos hn z
  · omega
  · omega
section TRM
variable {m : am_m}
theorem nuS_mk (hg : trm_g m) : (ci_X5_init (am_u2 m.1 5 (m.2.2.2.2.2.2.2 5) (fun _ => 0)) (m.2.2.2.2.2.2.2 5) (m.1 5 0 2) (m.1 5 0 3), cg_X5_init (am_u2 m.2.1 5 (m.2.2.2.2.2.2.2 5) (fun _ => 0)) (m.2.2.2.2.2.2.2 5) (m.1 5 0 2) (m.1 5 0 3), am_u2 (am_R0 m.2.2) 5 (m.2.2.2.2.2.2.2 5) (cp_X5_init (fun _ => none) (m.2.2.2.2.2.2.2 5)), am_u2 (am_u2 (am_N0 m.2.2) 28 (m.2.2.2.2.2.2.2 5) ((if (0 : Int32) < m.1 5 0 2 then m.1 5 0 2 else 0) * (6 : Int32)).toNatClampNeg) 29 (m.2.2.2.2.2.2.2 5) (if (0 : Int32) < m.1 5 0 3 then m.1 5 0 3 else 0).toNatClampNeg, cc_X5_init (am_u1 m.2.2.2.2.2.2.2 5 (m.2.2.2.2.2.2.2 5 + 1)) (m.2.2.2.2.2.2.2 5)) = am_mk (nuS m) := by
  obtain ⟨g1, g2, g3, g4⟩ := hg
  have e1 : ((if (0 : Int32) < m.1 5 0 2 then m.1 5 0 2 else 0) * (6 : Int32)).toNatClampNeg = 6 * nv (m.1 5 0 2) := by
    rw [g2, mx0 _ (by omega), show (6 : Int32) = nI 6 from rfl, pk_mul, nI_clamp (by omega), nv_nI (by omega), Nat.mul_comm]
  have e2 : (if (0 : Int32) < m.1 5 0 3 then m.1 5 0 3 else 0).toNatClampNeg = nv (m.1 5 0 3) := by
    rw [g4, mx0 _ (by omega), nI_clamp (by omega), nv_nI (by omega)]
  rw [e1, e2, am_u2_id (am_R0_5 m.2.2 _), am_N0_28, am_N0_29]
  rfl
set_option maxRecDepth 100000 in
theorem ex_X5_trimmed (d : Nat) (hd : 3 ≤ d) (hA : iv_A m.2.2) (hg : trm_g m) : am_Ex am_cod d 60 [.inr (.inr (some (5, 0)))] (am_mk m) (some (.inr (.inr (some (5, m.2.2.2.2.2.2.2 5))))) (am_mk (trm m)) 3 (5 + (6 * nv (m.1 5 0 2) + nv (m.1 5 0 3))) := by
  obtain ⟨d, rfl⟩ : ∃ e, d = e + 1 := ⟨d - 1, by omega⟩
  have htb : am_tab 60 = at_60 := rfl
  refine ⟨Nat.le_of_ble_eq_true rfl, ?_⟩
  obtain ⟨i1, i2, i3, i4, i5, i6, i7, i8, i9, i10⟩ := hA
  obtain ⟨g1, g2, g3, g4⟩ := id hg
  have s0 : ¬ (5 = 5 ∧ 0 = m.2.2.2.2.2.2.2 5) := fun z => by have := z.2; omega
  have r2 : am_u2 m.1 5 (m.2.2.2.2.2.2.2 5) (fun _ => 0) 5 0 = m.1 5 0 := am_u2_ne s0
  have e1 : ((if (0 : Int32) < m.1 5 0 2 then m.1 5 0 2 else 0) * (6 : Int32)) = nI (6 * nv (m.1 5 0 2)) := by
    rw [g2, mx0 _ (by omega), show (6 : Int32) = nI 6 from rfl, pk_mul, nv_nI (by omega), Nat.mul_comm]
  have e2 : (if (0 : Int32) < m.1 5 0 3 then m.1 5 0 3 else 0) = nI (nv (m.1 5 0 3)) := by
    rw [g4, mx0 _ (by omega), nv_nI (by omega)]
  show am_Go d 60 (0, [some (.inr (.inr (some (5, 0)))), none], [], am_mk m) _ _ _ _
  refine am_Go.eq (kc := 1 + ((1 + (1 + 0)) + 0)) (ks := 5 + ((((if (0 : Int32) < m.1 5 0 2 then m.1 5 0 2 else 0) * (6 : Int32)).toNatClampNeg + ((if (0 : Int32) < m.1 5 0 3 then m.1 5 0 3 else 0).toNatClampNeg + 0)) + 0)) ?_ (by omega) (by rw [e1, e2, nI_clamp (by omega), nI_clamp (by omega)]; omega)
  refine am_Go.alo htb (am_o_new 5 5) rfl (S' := (3, [some (.inr (.inr (some (5, 0)))), none], [.inr (.inr (some (5, m.2.2.2.2.2.2.2 5)))], (am_u2 m.1 5 (m.2.2.2.2.2.2.2 5) (fun _ => 0), am_u2 m.2.1 5 (m.2.2.2.2.2.2.2 5) (fun _ => 0), am_u2 (am_R0 m.2.2) 5 (m.2.2.2.2.2.2.2 5) (fun _ => none), am_N0 m.2.2, am_u1 m.2.2.2.2.2.2.2 5 (m.2.2.2.2.2.2.2 5 + 1)))) (am_newi rfl (i1 5 _ (by decide))) ?_
  refine am_Go.n htb 5 (S' := (12, [some (.inr (.inr (some (5, 0)))), none], [.inl (am_u2 m.1 5 (m.2.2.2.2.2.2.2 5) (fun _ => 0) 5 0 3), .inl (am_u2 m.1 5 (m.2.2.2.2.2.2.2 5) (fun _ => 0) 5 0 2), .inr (.inr (some (5, m.2.2.2.2.2.2.2 5))), .inr (.inr (some (5, m.2.2.2.2.2.2.2 5)))], (am_u2 m.1 5 (m.2.2.2.2.2.2.2 5) (fun _ => 0), am_u2 m.2.1 5 (m.2.2.2.2.2.2.2 5) (fun _ => 0), am_u2 (am_R0 m.2.2) 5 (m.2.2.2.2.2.2.2 5) (fun _ => none), am_N0 m.2.2, am_u1 m.2.2.2.2.2.2.2 5 (m.2.2.2.2.2.2.2 5 + 1)))) rfl ?_
  rw [r2]
  have c28 : am_u1 m.2.2.2.2.2.2.2 5 (m.2.2.2.2.2.2.2 5 + 1) 28 = m.2.2.2.2.2.2.2 5 := by
    show m.2.2.2.2.2.2.2 28 = _
    exact i5
  have c29 : am_u1 m.2.2.2.2.2.2.2 5 (m.2.2.2.2.2.2.2 5 + 1) 29 = m.2.2.2.2.2.2.2 5 := by
    show m.2.2.2.2.2.2.2 29 = _
    exact i6
  have ini := ex_X5_init d (by omega) (am_R0 m.2.2) (am_N0 m.2.2) (am_u2 m.1 5 (m.2.2.2.2.2.2.2 5) (fun _ => 0)) (am_u2 m.2.1 5 (m.2.2.2.2.2.2.2 5) (fun _ => 0)) (am_u1 m.2.2.2.2.2.2.2 5 (m.2.2.2.2.2.2.2 5 + 1)) (m.2.2.2.2.2.2.2 5) (fun _ => none) (m.1 5 0 2) (m.1 5 0 3) c28 c29 (by rw [e1]; rw [nI_clamp (by omega)]; rintro (z | z); exact nI_pos (by omega) z; omega) rfl (by rw [e2]; rw [nI_clamp (by omega)]; rintro (z | z); exact nI_pos (by omega) z; omega) rfl
  rw [nuS_mk hg] at ini
  refine am_Go.ca htb rfl ini ?_
  show am_Go d 60 (15, [some (.inr (.inr (some (5, 0)))), none], [.inr (.inr (some (5, m.2.2.2.2.2.2.2 5)))], am_mk (nuS m)) _ _ _ _
  have q0 : (nuS m).1 5 0 = m.1 5 0 := nuS_I (by omega)
  refine am_Go.n htb 4 (S' := (21, [some (.inr (.inr (some (5, 0)))), some (.inr (.inr (some (5, m.2.2.2.2.2.2.2 5))))], [.inl ((nuS m).1 5 0 2), .inr (.inr (some (5, m.2.2.2.2.2.2.2 5)))], am_mk (nuS m))) rfl ?_
  rw [q0]
  refine am_Go.n htb 4 (S' := (29, [some (.inr (.inr (some (5, 0)))), some (.inr (.inr (some (5, m.2.2.2.2.2.2.2 5))))], [.inl ((am_si (nuS m) 5 (m.2.2.2.2.2.2.2 5) 2 (m.1 5 0 2)).1 5 0 3), .inr (.inr (some (5, m.2.2.2.2.2.2.2 5)))], am_mk (am_si (nuS m) 5 (m.2.2.2.2.2.2.2 5) 2 (m.1 5 0 2)))) rfl ?_
  have q1 : (am_si (nuS m) 5 (m.2.2.2.2.2.2.2 5) 2 (m.1 5 0 2)).1 5 0 3 = m.1 5 0 3 := by
    rw [rd_si, if_neg (fun z => absurd z.2.2 (by decide)), q0]
  rw [q1]
  let mB : am_m := am_si (am_si (nuS m) 5 (m.2.2.2.2.2.2.2 5) 2 (m.1 5 0 2)) 5 (m.2.2.2.2.2.2.2 5) 3 (m.1 5 0 3)
  have n28 : am_N0 mB.2.2 28 (m.2.2.2.2.2.2.2 5) = 6 * nv (m.1 5 0 2) := by
    show am_u2 (am_u2 m.2.2.2.2.2.2.1 28 (m.2.2.2.2.2.2.2 5) (6 * nv (m.1 5 0 2))) 29 (m.2.2.2.2.2.2.2 5) (nv (m.1 5 0 3)) 28 (m.2.2.2.2.2.2.2 5) = _
    rw [am_u2_ne (fun z => absurd z.1 (by decide)), am_u2_eq]
  have n29 : am_N0 mB.2.2 29 (m.2.2.2.2.2.2.2 5) = nv (m.1 5 0 3) := by
    show am_u2 (am_u2 m.2.2.2.2.2.2.1 28 (m.2.2.2.2.2.2.2 5) (6 * nv (m.1 5 0 2))) 29 (m.2.2.2.2.2.2.2 5) (nv (m.1 5 0 3)) 29 (m.2.2.2.2.2.2.2 5) = _
    rw [am_u2_eq]
  have n280 : am_N0 mB.2.2 28 0 = 72 := by
    show am_u2 (am_u2 m.2.2.2.2.2.2.1 28 (m.2.2.2.2.2.2.2 5) (6 * nv (m.1 5 0 2))) 29 (m.2.2.2.2.2.2.2 5) (nv (m.1 5 0 3)) 28 0 = _
    rw [am_u2_ne (fun z => absurd z.1 (by decide)), am_u2_ne (fun z => by have := z.2; omega)]
    exact i2
  have n290 : am_N0 mB.2.2 29 0 = 448 := by
    show am_u2 (am_u2 m.2.2.2.2.2.2.1 28 (m.2.2.2.2.2.2.2 5) (6 * nv (m.1 5 0 2))) 29 (m.2.2.2.2.2.2.2 5) (nv (m.1 5 0 3)) 29 0 = _
    rw [am_u2_ne (fun z => by have := z.2; omega), am_u2_ne (fun z => absurd z.1 (by decide))]
    exact i3
  refine am_Go.n htb 10 (S' := (47, [some (.inr (.inr (some (5, 0)))), some (.inr (.inr (some (5, m.2.2.2.2.2.2.2 5))))], [.inl (Int32.ofNat (am_N0 mB.2.2 28 (m.2.2.2.2.2.2.2 5))), .inl 0, .inr (.inr (some (28, m.2.2.2.2.2.2.2 5))), .inl 0, .inr (.inr (some (28, 0)))], am_mk mB)) rfl ?_
  rw [n28]
  let mC : am_m := am_sc mB 28 0 28 (m.2.2.2.2.2.2.2 5) 0 0 (6 * nv (m.1 5 0 2))
  refine am_Go.o htb am_o_cp rfl (S' := (50, [some (.inr (.inr (some (5, 0)))), some (.inr (.inr (some (5, m.2.2.2.2.2.2.2 5))))], [], am_mk mC)) (am_cpk (by decide) (by decide) (by omega) (by rw [n280]; omega) (by rw [n28]; exact Nat.le_refl _)) ?_
  refine am_Go.n htb 9 (S' := (65, [some (.inr (.inr (some (5, 0)))), some (.inr (.inr (some (5, m.2.2.2.2.2.2.2 5))))], [.inl (Int32.ofNat (am_N0 mB.2.2 29 (m.2.2.2.2.2.2.2 5))), .inl 0, .inr (.inr (some (29, m.2.2.2.2.2.2.2 5))), .inl 0, .inr (.inr (some (29, 0)))], am_mk mC)) rfl ?_
  rw [n29]
  refine am_Go.o htb am_o_cp rfl (S' := (68, [some (.inr (.inr (some (5, 0)))), some (.inr (.inr (some (5, m.2.2.2.2.2.2.2 5))))], [], am_mk (trm m))) (am_cpk (m := mC) (by decide) (by decide) (by omega) (show nv (m.1 5 0 3) ≤ am_N0 mB.2.2 29 0 by rw [n290]; omega) (show nv (m.1 5 0 3) ≤ am_N0 mB.2.2 29 (m.2.2.2.2.2.2.2 5) by rw [n29]; exact Nat.le_refl _)) ?_
  refine am_Go.n htb 1 (S' := (69, [some (.inr (.inr (some (5, 0)))), some (.inr (.inr (some (5, m.2.2.2.2.2.2.2 5))))], [.inr (.inr (some (5, m.2.2.2.2.2.2.2 5)))], am_mk (trm m))) rfl ?_
  exact am_Go.rt htb rfl
end TRM
