/-! law: it is read -/
def lawR (k K b : Nat) (c51 c52 c53 r : Nat → Int32) (i : Nat) : Int32 := if i = 2 then nI (k + 1) else if 118 + 900 * k + 98 ≤ i ∧ i < 118 + 900 * k + 98 + 2 * b then (if (i - (118 + 900 * k + 98)) % 2 = 0 then c52 ((i - (118 + 900 * k + 98)) / 2) else c53 ((i - (118 + 900 * k + 98)) / 2)) else if 118 + 900 * k + 2 ≤ i ∧ i < 118 + 900 * k + 2 + 8 * K then c51 (i - (118 + 900 * k + 2)) else if i = 118 + 900 * k + 1 then nI K else r i
section LO
variable {m m' M M' q14 : am_m} {k K b : Nat}
theorem law110 (hk : k < 6) (hK : M.1 10 0 21 = nI K) (h12 : K ≤ 12) : ∃ M', lp_X10_law_110 1000000 (nI (118 + 900 * k)) 0 M = some M' ∧ (∀ i, M'.1 44 0 i = if 118 + 900 * k + 2 ≤ i ∧ i < 118 + 900 * k + 2 + 8 * K then M.1 51 0 (i - (118 + 900 * k + 2)) else M.1 44 0 i) ∧ am_kp [(44, 0)] [] 0 M M' := by
  have e8 : (8 : Int32) * nI K = nI (8 * K) := by rw [show (8 : Int32) = nI 8 from rfl, pk_mul]
  refine (lp_up0 (fun N x a => lp_X10_law_110 N (nI (118 + 900 * k)) x a) (fun j M1 => (∀ i, M1.1 44 0 i = if 118 + 900 * k + 2 ≤ i ∧ i < 118 + 900 * k + 2 + j then M.1 51 0 (i - (118 + 900 * k + 2)) else M.1 44 0 i) ∧ am_kp [(44, 0)] [] 0 M M1) (fun M' => (∀ i, M'.1 44 0 i = if 118 + 900 * k + 2 ≤ i ∧ i < 118 + 900 * k + 2 + 8 * K then M.1 51 0 (i - (118 + 900 * k + 2)) else M.1 44 0 i) ∧ am_kp [(44, 0)] [] 0 M M') (8 * K) (by omega) (fun N M1 hh => ⟨M1, ?_, hh⟩) (fun N j M1 hj hh => Or.inl ⟨am_si M1 44 0 (118 + 900 * k + 2 + j) (M.1 51 0 j), ?_, fun i => ?_, am_kp.si hh.2 rfl⟩) M ⟨fun i => (if_neg (by omega)).symm, am_kp.rf⟩)
  · show lp_X10_law_110 (N + 1) (nI (118 + 900 * k)) (nI (8 * K)) M1 = _
    rw [lp_X10_law_110.eq_2, hh.2.fld 10 0 21 rfl, hK, e8, if_pos (nI_le (Nat.le_refl _) (by omega))]
  · show lp_X10_law_110 (N + 1) (nI (118 + 900 * k)) (nI j) M1 = lp_X10_law_110 N (nI (118 + 900 * k)) (nI (j + 1)) _
    rw [lp_X10_law_110.eq_2, hh.2.fld 10 0 21 rfl, hK, e8, if_neg (nI_ge hj (by omega)), show (2 : Int32) = nI 2 from rfl, nI_add, nI_add, ck_in (show j < 96 by omega) (by decide), ck_in (show 118 + 900 * k + 2 + j < 5518 by omega) (by decide), nI_clamp (show j < 2 ^ 31 by omega), nI_clamp (show 118 + 900 * k + 2 + j < 2 ^ 31 by omega), nI_1, hh.2.row 51 rfl]
  · rw [rd_j, hh.1]
    by_cases e : i = 118 + 900 * k + 2 + j
    · rw [if_pos e, if_pos (by omega), e, Nat.add_sub_cancel_left]
    · rw [if_neg e]
      exact if_iff (by omega)
theorem law145 (hk : k < 6) (hb : M.1 10 0 23 = nI b) (h4 : b ≤ 400) : ∃ M', lp_X10_law_145 1000000 (nI (118 + 900 * k)) 0 M = some M' ∧ (∀ i, M'.1 44 0 i = if 118 + 900 * k + 98 ≤ i ∧ i < 118 + 900 * k + 98 + 2 * b then (if (i - (118 + 900 * k + 98)) % 2 = 0 then M.1 52 0 ((i - (118 + 900 * k + 98)) / 2) else M.1 53 0 ((i - (118 + 900 * k + 98)) / 2)) else M.1 44 0 i) ∧ am_kp [(44, 0)] [] 0 M M' := by
  refine (lp_up0 (fun N x a => lp_X10_law_145 N (nI (118 + 900 * k)) x a) (fun j M1 => (∀ i, M1.1 44 0 i = if 118 + 900 * k + 98 ≤ i ∧ i < 118 + 900 * k + 98 + 2 * j then (if (i - (118 + 900 * k + 98)) % 2 = 0 then M.1 52 0 ((i - (118 + 900 * k + 98)) / 2) else M.1 53 0 ((i - (118 + 900 * k + 98)) / 2)) else M.1 44 0 i) ∧ am_kp [(44, 0)] [] 0 M M1) (fun M' => (∀ i, M'.1 44 0 i = if 118 + 900 * k + 98 ≤ i ∧ i < 118 + 900 * k + 98 + 2 * b then (if (i - (118 + 900 * k + 98)) % 2 = 0 then M.1 52 0 ((i - (118 + 900 * k + 98)) / 2) else M.1 53 0 ((i - (118 + 900 * k + 98)) / 2)) else M.1 44 0 i) ∧ am_kp [(44, 0)] [] 0 M M') b (by omega) (fun N M1 hh => ⟨M1, ?_, hh⟩) (fun N j M1 hj hh => Or.inl ⟨am_si (am_si M1 44 0 (118 + 900 * k + 98 + 2 * j) (M.1 52 0 j)) 44 0 (118 + 900 * k + 98 + 2 * j + 1) (M.1 53 0 j), ?_, fun i => ?_, am_kp.si (am_kp.si hh.2 rfl) rfl⟩) M ⟨fun i => (if_neg (by omega)).symm, am_kp.rf⟩)
  · show lp_X10_law_145 (N + 1) (nI (118 + 900 * k)) (nI b) M1 = _
    rw [lp_X10_law_145.eq_2, hh.2.fld 10 0 23 rfl, hb, if_pos (nI_le (Nat.le_refl _) (by omega))]
  · show lp_X10_law_145 (N + 1) (nI (118 + 900 * k)) (nI j) M1 = lp_X10_law_145 N (nI (118 + 900 * k)) (nI (j + 1)) _
    rw [lp_X10_law_145.eq_2, hh.2.fld 10 0 23 rfl, hb, if_neg (nI_ge hj (by omega)), show (98 : Int32) = nI 98 from rfl, show (2 : Int32) = nI 2 from rfl, pk_mul, nI_add, nI_add, nI_1, ck_in (show j < 400 by omega) (by decide), ck_in (show 118 + 900 * k + 98 + 2 * j < 5518 by omega) (by decide), ck_in (show j < 400 by omega) (by decide), ck_in (show 118 + 900 * k + 98 + 2 * j + 1 < 5518 by omega) (by decide), nI_clamp (show j < 2 ^ 31 by omega), nI_clamp (show 118 + 900 * k + 98 + 2 * j < 2 ^ 31 by omega), nI_clamp (show 118 + 900 * k + 98 + 2 * j + 1 < 2 ^ 31 by omega), nI_1, hh.2.row 52 rfl, hh.2.row 53 rfl]
  · rw [rd_j, rd_j, hh.1]
    by_cases e : i = 118 + 900 * k + 98 + 2 * j + 1
    · rw [if_pos e, if_pos (by omega), if_neg (by omega), show (i - (118 + 900 * k + 98)) / 2 = j by omega]
    rw [if_neg e]
    by_cases e2 : i = 118 + 900 * k + 98 + 2 * j
    · rw [if_pos e2, if_pos (by omega), if_pos (by omega), show (i - (118 + 900 * k + 98)) / 2 = j by omega]
    rw [if_neg e2]
    exact if_iff (by omega)
theorem law_ref_ok (h2 : M.1 44 0 2 = nI k) (hk : k < 6) (hA : rAll fn_X10_readLaw lp_X10_law_37 0 (am_si M 10 0 0 0) (am_si (am_si q14 10 0 20 0) 10 0 13 0)) (h19 : q14.1 10 0 19 = 0) (hK : q14.1 10 0 21 = nI K) (h12 : K ≤ 12) (hb : q14.1 10 0 23 = nI b) (h4 : b ≤ 400) (h44 : q14.1 44 = M.1 44) : ∃ mF, fn_X10_law M = some (nI k, mF) ∧ (∀ i, mF.1 44 0 i = lawR k K b (q14.1 51 0) (q14.1 52 0) (q14.1 53 0) (M.1 44 0) i) ∧ mF.1 10 0 1 = 0 ∧ am_kp [(10, 1), (10, 13), (10, 20), (44, 0)] [] 0 q14 mF ∧ mF.1 10 0 13 = 0 ∧ mF.1 10 0 20 = 0 := by
  obtain ⟨r2, r4, q, g1, g2, g3, g4⟩ := hA
  let r16 : am_m := am_si (am_si q14 10 0 20 0) 10 0 13 0
  let s1 : am_m := am_si r16 44 0 (118 + 900 * k + 1) (nI K)
  obtain ⟨s2, a1, a2, a3⟩ := law110 (M := s1) hk (show s1.1 10 0 21 = nI K from hK) h12
  obtain ⟨s3, b1, b2, b3⟩ := law145 (M := s2) hk (show s2.1 10 0 23 = nI b by rw [a3.fld 10 0 23 rfl]; exact hb) h4
  have e1 : (118 : Int32) + (900 : Int32) * nI k = nI (118 + 900 * k) := by rw [show (118 : Int32) = nI 118 from rfl, show (900 : Int32) = nI 900 from rfl, pk_mul, nI_add]
  have c2 : r16.1 44 0 2 = nI k := by show q14.1 44 0 2 = _; rw [h44]; exact h2
  have rows : ∀ i, s3.1 44 0 i = if 118 + 900 * k + 98 ≤ i ∧ i < 118 + 900 * k + 98 + 2 * b then (if (i - (118 + 900 * k + 98)) % 2 = 0 then q14.1 52 0 ((i - (118 + 900 * k + 98)) / 2) else q14.1 53 0 ((i - (118 + 900 * k + 98)) / 2)) else if 118 + 900 * k + 2 ≤ i ∧ i < 118 + 900 * k + 2 + 8 * K then q14.1 51 0 (i - (118 + 900 * k + 2)) else if i = 118 + 900 * k + 1 then nI K else M.1 44 0 i := fun i => by
    rw [b2, a3.row 52 rfl, a3.row 53 rfl, a2]
    show (if _ then (if _ then q14.1 52 0 _ else q14.1 53 0 _) else if _ then q14.1 51 0 _ else (am_si r16 44 0 (118 + 900 * k + 1) (nI K)).1 44 0 i) = _
    rw [rd_j]
    show (if _ then _ else if _ then _ else if _ then _ else q14.1 44 0 i) = _
    rw [h44]
  have s32 : s3.1 44 0 2 = nI k := by rw [rows, if_neg (by omega), if_neg (by omega), if_neg (by omega)]; exact h2
  refine ⟨am_si (am_si s3 44 0 2 (nI (k + 1))) 10 0 1 0, ?_, fun i => ?_, rfl, ?_, ?_, ?_⟩
  · unfold fn_X10_law
    rw [if_pos (show M.1 44 0 2 ≠ 6 by rw [h2]; exact nI_ne (b := 6) (by omega) (by decide) (by omega)), g1, bd_s, g2, bd_s, g3, bd_s, g4, bd_s, if_pos (show r16.1 10 0 19 = 0 from h19), show (am_si (am_si q14 10 0 20 0) 10 0 13 0).1 44 0 2 = nI k from c2, e1, nI_1, ck_in (show 118 + 900 * k + 1 < 5518 by omega) (by decide), nI_clamp (show 118 + 900 * k + 1 < 2 ^ 31 by omega), show (am_si (am_si q14 10 0 20 0) 10 0 13 0).1 10 0 21 = nI K from hK]
    show (lp_X10_law_110 1000000 (nI (118 + 900 * k)) 0 s1).bind _ = _
    rw [a1, bd_s, b1, bd_s, s32, nI_1, show (1 : Int32) = nI 1 from rfl, pk_sub (by omega), Nat.add_sub_cancel, tell_ok (show (0 : Int32) ≤ nI k from nI_le (a := 0) (Nat.zero_le _) (by omega)), bd_s]
  · show (am_si s3 44 0 2 (nI (k + 1))).1 44 0 i = _
    rw [rd_j, rows]
    rfl
  · exact am_kp.si (am_kp.si ((am_kp.si (am_kp.si (am_kp.si am_kp.rf rfl) rfl) rfl : am_kp [(10, 1), (10, 13), (10, 20), (44, 0)] [] 0 q14 s1).tr ((am_kp.mono a3 rfl).tr (am_kp.mono b3 rfl))) rfl) rfl
  · show s3.1 10 0 13 = 0
    rw [b3.fld 10 0 13 rfl, a3.fld 10 0 13 rfl]; rfl
  · show s3.1 10 0 20 = 0
    rw [b3.fld 10 0 20 rfl, a3.fld 10 0 20 rfl]; rfl
theorem iv_W.inc {D : Nat} {r r' : Nat → Int32} (h : iv_W D r) (h2 : r 2 = nI k) (hk : k < 6) (h2' : r' 2 = nI (k + 1)) (he : ∀ i, i < 118 → i ≠ 2 → r' i = r i) : iv_W D r' := by
  obtain ⟨w1, w2, w3, w4, w5, w6, w7, w8, w9, w10, w11, w12⟩ := h
  have n2 : nv (r' 2) = k + 1 := by rw [h2', nv_nI (by omega)]
  refine ⟨fun i hi h3 => ?_, by rw [he 0 (by omega) (by omega)]; exact w2, by rw [he 1 (by omega) (by omega)]; exact w3, by omega, ?_, by rw [he 4 (by omega) (by omega)]; exact w6, by rw [he 5 (by omega) (by omega)]; exact w7, by rw [he 6 (by omega) (by omega)]; exact w8, fun i hi => by rw [he _ (by omega) (by omega)]; exact w9 i hi, fun p q hp hq => by rw [he _ (by omega) (by omega), he 0 (by omega) (by omega)]; exact w10 p q hp hq, fun i hi => by rw [he _ (by omega) (by omega)]; exact w11 i hi, fun i hi => by rw [he _ (by omega) (by omega)]; exact w12 i hi⟩
  · by_cases e : i = 2
    · rw [e, n2]; exact h2'
    · rw [he i hi e]; exact w1 i hi h3
  · rw [he 3 (by omega) (by omega), n2]
    rcases w5 with w | ⟨w, w'⟩
    · exact Or.inl w
    · refine Or.inr ⟨w, ?_⟩
      rw [h2, nv_nI (by omega)] at w'
      omega
/-- what was read, as the LAW lies in both -/
theorem law_LL {n a2 b2 p2 lv2 aw2 : Nat} {T : Nat → Nat} {L : Nat} {c2 c2' : rcd} {zs : Nat → cl_T} {o heads code r : Nat → Int32} (hl : lks T L n false m' q14 c2 c2' a2 b2 p2 lv2 aw2) (h12 : K ≤ 12) (hz : ∀ i, i < K → lcl c2 c2' a2 b2 aw2 (m'.1 28 0) (q14.1 51 0) i (zs i))
    (o2 : o 2 = nI K) (o3 : o 3 = nI a2) (hh : ∀ i, i < 6 * K → heads i = m'.1 28 0 i) (hc : ∀ i, i < a2 → code i = m'.1 29 0 i)
    (r1 : r 1 = nI K) (rc : ∀ i, i < 8 * K → r (2 + i) = q14.1 51 0 i) (ro : ∀ i, i < b2 → r (98 + 2 * i) = q14.1 52 0 i ∧ r (98 + 2 * i + 1) = q14.1 53 0 i) : iv_cs K zs ∧ iv_LR r K zs ∧ iv_LC o heads code (6 * K) a2 K zs := by
  obtain ⟨l1, l2, l3, l4, l5, l6⟩ := hl
  have hL : L ≤ 400 := l1.1.1.1
  have bp : b2 ≤ p2 := l2.2.2.2.2.2.2
  have cc : ∀ k, k < a2 → code k = nI (512 * (c2 k).2 + (c2 k).1) := fun k hk => by rw [hc k hk]; exact l1.2.1.2.2 k hk
  have rr : ∀ k, k < b2 → r (98 + 2 * k) = nI (c2' k).1 ∧ r (98 + 2 * k + 1) = nI (c2' k).2 := fun k hk => by rw [(ro k hk).1, (ro k hk).2]; exact l2.2.1.2 k hk
  have two : ∀ (A : Int32) (B B2 : Nat) (oo : Option dn), xo false c2 c2' a2 b2 aw2 A B B2 oo → rl_ok false (fun k => r (98 + 2 * k)) (fun k => r (98 + 2 * k + 1)) (nI B) (nI B2) oo ∧ cl_ok code 8 a2 A oo := fun A B B2 oo hx => by
    cases oo with
    | none => exact ⟨by show nI B = nI B2; rw [hx.2], hx.1⟩
    | some f =>
      obtain ⟨A', e, A2, h, x1, x2, x3, x4, x5, x6, x7⟩ := hx
      refine ⟨rsg_ok x5 (fun k hk => rr k (by omega)) (by omega) x4, ?_⟩
      rw [e]
      exact csg_ok x1 cc x3 (by omega) x2 x4
  refine ⟨⟨h12, fun i hi => ?_⟩, ⟨r1, fun i hi => ?_⟩, o2, o3, rfl, by omega, fun i hi => ?_⟩
  · obtain ⟨B, B1, B2, g1, g2, g3, g4, g5, g6, g7, g8, g9⟩ := hz i hi
    exact g9
  · obtain ⟨B, B1, B2, g1, g2, g3, g4, g5, g6, g7, g8, g9⟩ := hz i hi
    rw [Nat.add_assoc 2 (8 * i) 3, Nat.add_assoc 2 (8 * i) 4, Nat.add_assoc 2 (8 * i) 5, Nat.add_assoc 2 (8 * i) 6, rc _ (by omega), rc _ (by omega), rc _ (by omega), rc _ (by omega), rc _ (by omega), g3, g4, g5, g6]
    exact ⟨g2, (two _ _ _ _ g7).1, (two _ _ _ _ g8).1⟩
  · obtain ⟨B, B1, B2, g1, g2, g3, g4, g5, g6, g7, g8, g9⟩ := hz i hi
    rw [hh _ (by omega), hh _ (by omega), hh _ (by omega)]
    exact ⟨g1, (two _ _ _ _ g8).2, (two _ _ _ _ g7).2⟩
end LO
