/-! a CLAUSE of a LAW: the class, the reference -/
def sumN (ord : Bool) (kd : Nat) : Int32 := if ord = false then (if 266 ≤ kd ∧ kd ≤ 268 then 1 else if kd = 269 then 0 else -1) else (if kd = 270 then 3 else if kd = 271 then 1 else if kd = 272 then 2 else if kd = 273 then 0 else -1)
def cAft (q : am_m) : Option (Int32 × am_m) := if (q.1 4 0 6) ≠ (263 : Int32) then cTail q else (if (q.1 4 0 9) = 0 then cTail q else (fn_X4_readTimes q).bind fun r52 => (if r52.1 ≠ 0 then cTail r52.2 else some (0, r52.2)))
/-- a CLAUSE of a LAW as both have it -/
def lcl (c c' : rcd) (a b aw : Nat) (hd rw : Nat → Int32) (i : Nat) (z : cl_T) : Prop := ∃ B B1 B2, hd (6 * i) = nI (266 + z.1) ∧ rw (8 * i) = nI z.1 ∧ rw (8 * i + 3) = nI B ∧ rw (8 * i + 4) = nI B1 ∧ rw (8 * i + 5) = nI B1 ∧ rw (8 * i + 6) = nI B2 ∧ xo false c c' a b aw (hd (6 * i + 3)) B B1 z.2.2 ∧ xo false c c' a b aw (hd (6 * i + 2)) B1 B2 z.2.1 ∧ z.1 ≤ 3 ∧ (z.1 = 3 ↔ z.2.2 = none) ∧ (∀ f, z.2.1 = some f → dn_01 f) ∧ ∀ f, z.2.2 = some f → dn_bd f
def lX (k : Nat) (q : am_m) : am_m := am_si (am_si q 51 0 (8 * k + 4) (q.1 10 0 23)) 51 0 (8 * k + 5) (q.1 10 0 23)
section LF
variable {T : Nat → Nat} {L n p : Nat} {m m' M M' : am_m} {ord : Bool} {c c' : rcd} {a b lv aw k : Nat}
theorem sums_0 : ∀ kd, kd < 287 → (if nI kd = (266 : Int32) then (if (0 : Int32) = 0 then some (1 : Int32) else some (-1)) else (if nI kd = 267 then (if (0 : Int32) = 0 then some 1 else some (-1)) else (if nI kd = 268 then (if (0 : Int32) = 0 then some 1 else some (-1)) else (if nI kd = 269 then (if (0 : Int32) = 0 then some 0 else some (-1)) else (if nI kd = 270 then (if (0 : Int32) = 0 then some (-1) else some 3) else (if nI kd = 271 then (if (0 : Int32) = 0 then some (-1) else some 1) else (if nI kd = 272 then (if (0 : Int32) = 0 then some (-1) else some 2) else (if nI kd = 273 then (if (0 : Int32) = 0 then some (-1) else some 0) else some (-1))))))))) = some (sumN false kd) := by decide +kernel
theorem sums_1 : ∀ kd, kd < 287 → (if nI kd = (266 : Int32) then (if (1 : Int32) = 0 then some (1 : Int32) else some (-1)) else (if nI kd = 267 then (if (1 : Int32) = 0 then some 1 else some (-1)) else (if nI kd = 268 then (if (1 : Int32) = 0 then some 1 else some (-1)) else (if nI kd = 269 then (if (1 : Int32) = 0 then some 0 else some (-1)) else (if nI kd = 270 then (if (1 : Int32) = 0 then some (-1) else some 3) else (if nI kd = 271 then (if (1 : Int32) = 0 then some (-1) else some 1) else (if nI kd = 272 then (if (1 : Int32) = 0 then some (-1) else some 2) else (if nI kd = 273 then (if (1 : Int32) = 0 then some (-1) else some 0) else some (-1))))))))) = some (sumN true kd) := by decide +kernel
theorem sums_ok {kd : Nat} (h : kd ≤ 286) (h9 : m.1 4 0 9 = (if ord then 1 else 0)) : fn_X4_sumsOf (nI kd) m = some (sumN ord kd) := by
  unfold fn_X4_sumsOf
  rw [h9]
  cases ord with
  | false => exact sums_0 kd (by omega)
  | true => exact sums_1 kd (by omega)
/-- no head -/
theorem ccl_no (hT : ∀ k, k < L → T k < 256) (hp : p ≤ L) (hc : cmm T L n ord m c a p lv aw) (hs : sumN ord (lx_kd T L p) = -1) : ∃ m', fn_X4_readClause m = some (0, m') ∧ m'.1 4 0 10 = nI p := by
  obtain ⟨m', e1, e2⟩ := cfail hc.1
  refine ⟨m', ?_, e2⟩
  unfold fn_X4_readClause
  rw [hc.1.2.2.1, sums_ok (kd_286 hT hp) hc.2.2.2.1, hs, bd_s, if_neg (show ¬ (-1 : Int32) ≠ -1 from fun z => z rfl), e1, bd_s, gd_t (Or.inl rfl)]
theorem ccl_run {s : Nat} (hT : ∀ k, k < L → T k < 256) (hp : p ≤ L) (hc : cmm T L n ord m c a p lv aw) (h2 : m.1 5 0 2 = nI k) (hk : k < 12) (hl : m.2.2.2.2.2.2.1 28 0 = 72) (hs : sumN ord (lx_kd T L p) = nI s) (hs3 : s ≤ 3) :
    ∃ m2, cmm T L n ord m2 c a (lx_nx T L p) lv aw ∧ m2.1 5 0 2 = nI (k + 1) ∧ (∀ i, m2.1 28 0 i = if i = 6 * k + 1 then 1 else if i = 6 * k then nI (lx_kd T L p) else if 6 * k ≤ i ∧ i < 6 * k + 6 then -1 else m.1 28 0 i) ∧ m2.2.2 = m.2.2 ∧ (∀ m3, lp_X4_readClause_42 1000000 (nI s) 0 m2 = some (.inr (0, m3)) → fn_X4_readClause m = some (0, m3)) ∧ (∀ m3, lp_X4_readClause_42 1000000 (nI s) 0 m2 = some (.inl m3) → fn_X4_readClause m = cAft m3) := by
  obtain ⟨m1, e1, e2, e3, e4⟩ := copen (h := nI (lx_kd T L p)) h2 hk hl
  obtain ⟨m2, f1, f2⟩ := cgoto (hc.k28 e4)
  have kg := kp_X4_goTo _ _ _ f1
  have el : m2.2.2 = m.2.2 := (show m2.2.2 = m1.2.2 from kg.2.2).trans e4.2.2
  have ne : nI s ≠ (-1 : Int32) := nI_m1 (by omega)
  refine ⟨m2, f2, by rw [kg.fld 5 0 2 rfl]; exact e2, fun i => by rw [kg.row 28 rfl]; exact e3 i, el, fun m3 h => ?_, fun m3 h => ?_⟩
  · unfold fn_X4_readClause
    rw [hc.1.2.2.1, sums_ok (kd_286 hT hp) hc.2.2.2.1, hs, bd_s, if_pos ne, e1, bd_s, f1, bd_s, h, bd_s]
  · unfold fn_X4_readClause
    rw [hc.1.2.2.1, sums_ok (kd_286 hT hp) hc.2.2.2.1, hs, bd_s, if_pos ne, e1, bd_s, f1, bd_s, h, bd_s]
    rfl
/-- the first SUM of a CLAUSE, in the class's loop -/
theorem cl_first {N s : Nat} {m1 m2 m3 : am_m} (hs : 1 ≤ s) (hs3 : s ≤ 3) (h1 : fn_X5_mark 0 (nI 3) (m.1 5 0 3) m = some m1) (h2 : am_rd 40 4 0 m1 = some (1, m2)) (h3 : fn_X5_put 0 257 0 m2 = some m3) : lp_X4_readClause_42 (N + 1) (nI s) 0 m = lp_X4_readClause_42 N (nI s) 1 m3 := by
  rw [lp_X4_readClause_42.eq_2, if_neg (show ¬ nI s ≤ 0 from nI_ge (b := s) (a := 0) (by omega) (by omega)), if_pos (show (0 : Int32) ≤ 0 by decide), show fn_X5_mark 0 ((3 : Int32) + 0) (m.1 5 0 3) m = some m1 from h1, bd_s, h2, bd_s, if_pos (show (1 : Int32) ≠ 0 by decide), h3, bd_s]
  rfl
theorem cl_first0 {N s : Nat} {m1 m2 : am_m} (hs : 1 ≤ s) (hs3 : s ≤ 3) (h1 : fn_X5_mark 0 (nI 3) (m.1 5 0 3) m = some m1) (h2 : am_rd 40 4 0 m1 = some (0, m2)) : lp_X4_readClause_42 (N + 1) (nI s) 0 m = some (.inr (0, m2)) := by
  rw [lp_X4_readClause_42.eq_2, if_neg (show ¬ nI s ≤ 0 from nI_ge (b := s) (a := 0) (by omega) (by omega)), if_pos (show (0 : Int32) ≤ 0 by decide), show fn_X5_mark 0 ((3 : Int32) + 0) (m.1 5 0 3) m = some m1 from h1, bd_s, h2, bd_s, if_neg (show ¬ (0 : Int32) ≠ 0 from fun z => z rfl)]
theorem cl_end {N s : Nat} (hs3 : s ≤ 3) : lp_X4_readClause_42 (N + 1) (nI s) (nI s) m = some (.inl m) := by
  rw [lp_X4_readClause_42.eq_2, if_pos (nI_le (Nat.le_refl _) (by omega))]
/-- the reference's CLAUSE of a LAW -/
theorem rz75 {x1 : Int32} (hk : k < 12) : ∃ M', lp_X10_readLaw_75 1000000 x1 (nI (8 * k)) 0 M = some M' ∧ (∀ i, i < 8 * k → M'.1 51 0 i = M.1 51 0 i) ∧ am_kp [(51, 0)] [] 0 M M' := by
  refine lp_up0 (fun N x b => lp_X10_readLaw_75 N x1 (nI (8 * k)) x b) (fun _ M1 => (∀ i, i < 8 * k → M1.1 51 0 i = M.1 51 0 i) ∧ am_kp [(51, 0)] [] 0 M M1) (fun M1 => (∀ i, i < 8 * k → M1.1 51 0 i = M.1 51 0 i) ∧ am_kp [(51, 0)] [] 0 M M1) 8 (by decide) (fun N M1 hh => ⟨M1, ?_, hh⟩) (fun N j M1 hj hh => Or.inl ⟨am_si M1 51 0 (8 * k + j) 0, ?_, fun i hi => ?_, am_kp.si hh.2 rfl⟩) M ⟨fun _ _ => rfl, am_kp.rf⟩
  · show lp_X10_readLaw_75 (N + 1) x1 (nI (8 * k)) (nI 8) M1 = _
    rw [lp_X10_readLaw_75.eq_2, if_pos (by decide)]
  · show lp_X10_readLaw_75 (N + 1) x1 (nI (8 * k)) (nI j) M1 = lp_X10_readLaw_75 N x1 (nI (8 * k)) (nI (j + 1)) _
    rw [lp_X10_readLaw_75.eq_2, if_neg (show ¬ (8 : Int32) ≤ nI j from nI_ge (b := 8) hj (by decide)), nI_add, ck_in (by omega) (by decide), nI_clamp (by omega), nI_1]
  · rw [rd_j, if_neg (by omega), hh.1 i hi]
theorem rll_no (hr : rce T L ord M c b p lv) (hh : ¬ (266 ≤ lx_kd T L p ∧ lx_kd T L p < 266 + 4) ∨ M.1 10 0 21 = nI 12) : ∃ M', fn_X10_readLaw M = some M' ∧ M'.1 10 0 19 = 1 ∧ M'.1 10 0 18 = nI p := by
  obtain ⟨M', e1, e2, e3, e4⟩ := hr.must0
  refine ⟨M', ?_, e2, e3⟩
  unfold fn_X10_readLaw
  rw [lawHead_ok hr.1 hr.2.2.2.2.2.1, bd_s]
  have h0 : (if (if 266 ≤ lx_kd T L p ∧ lx_kd T L p < 266 + 4 then nI (lx_kd T L p - 266) else -1) = (-1 : Int32) then some (0 : Int32) else (if (12 : Int32) ≤ (M.1 10 0 21) then some (0 : Int32) else some (1 : Int32))) = some 0 := by
    by_cases q : 266 ≤ lx_kd T L p ∧ lx_kd T L p < 266 + 4
    · rw [if_pos q, if_neg (nI_m1 (by omega)), hh.resolve_left (fun z => z q), if_pos (by decide)]
    · rw [if_neg q, if_pos rfl]
  rw [h0, bd_s, e1, bd_s, if_neg (show ¬ M'.1 10 0 19 = 0 by rw [e2]; decide)]
theorem rll_run (hr : rce T L ord M c b p lv) (h21 : M.1 10 0 21 = nI k) (hk : k < 12) (hh : 266 ≤ lx_kd T L p ∧ lx_kd T L p < 266 + 4) :
    ∃ M2, rce T L ord M2 c b (lx_nx T L p) lv ∧ M2.1 10 0 21 = nI (k + 1) ∧ M2.1 51 0 (8 * k) = nI (lx_kd T L p - 266) ∧ M2.1 51 0 (8 * k + 3) = nI b ∧ (∀ i, i < 8 * k → M2.1 51 0 i = M.1 51 0 i) ∧ ∀ q23 q34, (if lx_kd T L p = 269 then some M2 else (fn_X10_readExpression 0 M2).bind fun r => some r) = some q23 → (if q23.1 10 0 19 ≠ 0 then some (lX k q23) else rTail (lX k q23)) = some q34 → fn_X10_readLaw M = some (am_si q34 51 0 (8 * k + 6) (q34.1 10 0 23)) := by
  obtain ⟨M1, e1, e2, e3⟩ := hr.must1 (x := 1) (by decide)
  obtain ⟨Mz, z1, z2, z3⟩ := rz75 (M := M1) (x1 := nI (lx_kd T L p - 266)) hk
  have h21' : M1.1 10 0 21 = nI k := by rw [e3.fld 10 0 21 rfl]; exact h21
  have z21 : Mz.1 10 0 21 = nI k := by rw [z3.fld 10 0 21 rfl]; exact h21'
  have rz : rce T L ord Mz c b (lx_nx T L p) lv := e2.k51 (am_kp.mono z3 rfl)
  have z23 : Mz.1 10 0 23 = nI b := rz.2.1.1
  have k2 : am_kp [(10, 21), (51, 0), (61, 0)] [] 0 Mz (am_si (am_si (am_si Mz 51 0 (8 * k) (nI (lx_kd T L p - 266))) 10 0 21 (nI (k + 1))) 51 0 (8 * k + 3) (nI b)) := am_kp.si (am_kp.si (am_kp.si am_kp.rf rfl) rfl) rfl
  have e8 : (8 : Int32) * nI k = nI (8 * k) := by rw [show (8 : Int32) = nI 8 from rfl, pk_mul]
  refine ⟨_, rz.k51 k2, rfl, ?_, ?_, fun i hi => ?_, fun q23 q34 g1 g2 => ?_⟩
  · rw [rd_j, if_neg (by omega)]
    show (am_si Mz 51 0 (8 * k) (nI (lx_kd T L p - 266))).1 51 0 (8 * k) = _
    rw [rd_j, if_pos rfl]
  · rw [rd_j, if_pos rfl]
  · rw [rd_j, if_neg (by omega)]
    show (am_si Mz 51 0 (8 * k) (nI (lx_kd T L p - 266))).1 51 0 i = _
    rw [rd_j, if_neg (by omega), z2 i hi, e3.row 51 rfl]
  · have c3 : (nI (lx_kd T L p - 266) = (3 : Int32)) ↔ lx_kd T L p = 269 := by
      rw [show (3 : Int32) = nI 3 from rfl, nI_eq (by omega) (by decide)]
      omega
    have g1 : (if nI (lx_kd T L p - 266) = (3 : Int32) then some (am_si (am_si (am_si Mz 51 0 (8 * k) (nI (lx_kd T L p - 266))) 10 0 21 (nI (k + 1))) 51 0 (8 * k + 3) (nI b)) else (fn_X10_readExpression 0 (am_si (am_si (am_si Mz 51 0 (8 * k) (nI (lx_kd T L p - 266))) 10 0 21 (nI (k + 1))) 51 0 (8 * k + 3) (nI b))).bind fun r => some r) = some q23 := by rw [if_iff c3]; exact g1
    unfold fn_X10_readLaw
    rw [lawHead_ok hr.1 hr.2.2.2.2.2.1, bd_s, if_pos hh, if_neg (nI_m1 (show lx_kd T L p - 266 < 2 ^ 31 by omega)), h21, if_neg (show ¬ (12 : Int32) ≤ nI k from nI_ge (b := 12) hk (by decide)), bd_s, e1, bd_s, if_pos (show M1.1 10 0 19 = 0 from e2.2.2.2.1), h21', e8, z1, bd_s, z21, z23, nI_1, show (3 : Int32) = nI 3 from rfl, nI_add, nI_clamp (show 8 * k < 2 ^ 31 by omega), nI_clamp (show 8 * k + 3 < 2 ^ 31 by omega), ck_in (show 8 * k < 96 by omega) (by decide), ck_in (show 8 * k + 3 < 96 by omega) (by decide), show nI 3 = (3 : Int32) from rfl, g1, bd_s, show (4 : Int32) = nI 4 from rfl, show (5 : Int32) = nI 5 from rfl, nI_add, nI_add, nI_clamp (show 8 * k + 4 < 2 ^ 31 by omega), nI_clamp (show 8 * k + 5 < 2 ^ 31 by omega), ck_in (show 8 * k + 4 < 96 by omega) (by decide), ck_in (show 8 * k + 5 < 96 by omega) (by decide)]
    refine (bd_e (show _ = some q34 from g2)).trans ?_
    rw [show (6 : Int32) = nI 6 from rfl, nI_add, nI_clamp (show 8 * k + 6 < 2 ^ 31 by omega), ck_in (show 8 * k + 6 < 96 by omega) (by decide)]
end LF
