/-! orders: the class's words -/
def omx (r : Nat → Int32) (lw : lw_T) (aw a b : Nat) : Bool := mtx r lw a b && (aw.testBit a || aw.testBit b)
def V41 (m : am_m) : am_m := (fun c w i => m.1 c w (12 + i), m.2)
/-- what the words of ORDERS mean -/
def oE (r : Nat → Int32) (lw : lw_T) (dc la : Int32) (i : Nat) : Int64 := if i = 0 then (r 4).toInt64 else if i = 1 then dc.toInt64 else if i = 2 then la.toInt64 else if i = 3 then (nI (hall r)).toInt64 else if i = 4 then (nI (hst r)).toInt64 else if i < 12 then (if i - 5 < nv (r 0) then (r (7 + (i - 5))).toInt64 else -1) else if i < 19 then (if i - 12 < nv (r 0) then (nI (sx (mtx r lw (i - 12)) (nv (r 0)))).toInt64 else -1) else 0
def cWo (r : Nat → Int32) (lw : lw_T) (dc la : Int32) (aw : Nat) (m : am_m) : Prop := m.1 41 0 1 = dc ∧ m.1 41 0 2 = la ∧ (∀ i, i < 12 → (m.1 41 0 i).toInt64 = oE r lw dc la i) ∧ ∀ y, y < 7 → aw.testBit y = true → (m.1 41 0 (12 + y)).toInt64 = oE r lw dc la (12 + y)
section OA
variable {m m' : am_m} {lw : lw_T} {p q aw : Nat} {r : Nat → Int32} {dc la : Int32}
theorem or_bits : ∀ s, s < 128 → ∀ p, p < 7 → ∀ q, q < 7 → ((((nI s >>> (nI p &&& 31)) &&& 1) ||| ((nI s >>> (nI q &&& 31)) &&& 1)) ≠ 1 ↔ (s.testBit p || s.testBit q) = false) := by decide +kernel
theorem omx_comm (a b : Nat) : omx r lw aw a b = omx r lw aw b a := by
  unfold omx
  rw [mtx_comm, Bool.or_comm]
theorem rowsP.pt {c n : Nat} {M : Nat → Nat → Bool} (h : rowsP c n M p q m) (e : ∀ a, a < n → m'.1 c 0 a = m.1 c 0 a) : rowsP c n M p q m' := by
  obtain ⟨R, h1, h2⟩ := h
  exact ⟨R, fun a ha => by rw [e a ha]; exact h1 a ha, h2⟩
theorem fill_i (h : jdx 999 0 r lw m) (haw : aw < 128) (hp : p < nv (r 0)) (hr : rowsP 41 (nv (r 0)) (omx r lw aw) p (p + 1) (V41 m)) : ∃ m', lp_X9_fillOrderWords_108 1000000 (nI aw) (nI p) (nI (p + 1)) m = some m' ∧ (jdx 999 0 r lw m' ∧ rowsP 41 (nv (r 0)) (omx r lw aw) (p + 1) (p + 2) (V41 m') ∧ am_kp [(20, 0), (41, 0)] [(80, 0)] 0 m m' ∧ ∀ i, (i < 12 ∨ 12 + nv (r 0) ≤ i) → m'.1 41 0 i = m.1 41 0 i) := by
  have h7 := h.n.2
  refine lp_up (fun N x a => lp_X9_fillOrderWords_108 N (nI aw) (nI p) x a) (fun i m1 => (jdx 999 0 r lw m1 ∧ rowsP 41 (nv (r 0)) (omx r lw aw) p i (V41 m1) ∧ am_kp [(20, 0), (41, 0)] [(80, 0)] 0 m m1 ∧ ∀ i, (i < 12 ∨ 12 + nv (r 0) ≤ i) → m1.1 41 0 i = m.1 41 0 i) ∧ p < i) (fun m' => jdx 999 0 r lw m' ∧ rowsP 41 (nv (r 0)) (omx r lw aw) (p + 1) (p + 2) (V41 m') ∧ am_kp [(20, 0), (41, 0)] [(80, 0)] 0 m m' ∧ ∀ i, (i < 12 ∨ 12 + nv (r 0) ≤ i) → m'.1 41 0 i = m.1 41 0 i) (nv (r 0)) (fun N m1 hh => ⟨m1, ?_, hh.1.1, hh.1.2.1.to (fun a b ha hb _ => by unfold vis; omega), hh.1.2.2⟩) (fun N i m1 hi hh0 => Or.inl ?_) (nv (r 0) - (p + 1)) (p + 1) 1000000 m (by omega) (by omega) ⟨⟨h, hr, am_kp.rf, fun _ _ => rfl⟩, by omega⟩
  · show lp_X9_fillOrderWords_108 (N + 1) (nI aw) (nI p) (nI (nv (r 0))) m1 = _
    rw [lp_X9_fillOrderWords_108.eq_2, hh.1.1.n.1, if_pos (nI_le (Nat.le_refl _) (by omega))]
  obtain ⟨⟨j1, r1, k1, c1⟩, hpi⟩ := hh0
  suffices hw : ∃ m2, lp_X9_fillOrderWords_108 (N + 1) (nI aw) (nI p) (nI i) m1 = lp_X9_fillOrderWords_108 N (nI aw) (nI p) (nI (i + 1)) m2 ∧ (jdx 999 0 r lw m2 ∧ rowsP 41 (nv (r 0)) (omx r lw aw) p (i + 1) (V41 m2) ∧ am_kp [(20, 0), (41, 0)] [(80, 0)] 0 m m2 ∧ ∀ i, (i < 12 ∨ 12 + nv (r 0) ≤ i) → m2.1 41 0 i = m.1 41 0 i) by
    obtain ⟨m2, w1, w2⟩ := hw
    exact ⟨m2, w1, w2, by omega⟩
  have ob := or_bits aw haw p (by omega) i (by omega)
  by_cases hb : (aw.testBit p || aw.testBit i) = false
  · have hm : omx r lw aw p i = false := by unfold omx; rw [hb, Bool.and_false]
    refine ⟨m1, ?_, j1, r1.skip hm (by rw [omx_comm]; exact hm), k1, c1⟩
    rw [lp_X9_fillOrderWords_108.eq_2, j1.n.1, if_neg (nI_ge hi (by omega)), if_pos (ob.mpr hb), bd_s, nI_1]
  · have hb' : (aw.testBit p || aw.testBit i) = true := by
      cases hx : (aw.testBit p || aw.testBit i) with
      | true => rfl
      | false => exact absurd hx hb
    obtain ⟨m2, e2, k2⟩ := cmay_ok j1 (by decide) hp hi
    have j2 := j1.kp k2 rfl
    have row2 : m2.1 41 = m1.1 41 := k2.row 41 rfl
    have r2 : rowsP 41 (nv (r 0)) (omx r lw aw) p i (V41 m2) := r1.pt (fun a _ => by show m2.1 41 0 (12 + a) = m1.1 41 0 (12 + a); rw [row2])
    have kk2 : am_kp [(20, 0), (41, 0)] [(80, 0)] 0 m m2 := k1.tr (am_kp.mono k2 rfl)
    cases hm0 : mtx r lw p i with
    | false =>
      have hm : omx r lw aw p i = false := by unfold omx; rw [hm0, Bool.false_and]
      refine ⟨m2, ?_, j2, r2.skip hm (by rw [omx_comm]; exact hm), kk2, fun x hx => by rw [row2]; exact c1 x hx⟩
      rw [lp_X9_fillOrderWords_108.eq_2, j1.n.1, if_neg (nI_ge hi (by omega)), if_neg (fun z => hb (ob.mp z)), e2, bd_s, hm0]
      dsimp only
      rw [if_pos (show bv false = 0 from rfl), bd_s, nI_1]
    | true =>
      have hm : omx r lw aw p i = true := by unfold omx; rw [hm0, hb']; rfl
      have w := r2.step h7 hpi hi hm (by rw [omx_comm]; exact hm)
      refine ⟨am_si (am_si m2 41 0 (12 + p) ((m2.1 41 0 (12 + p)) ||| ((1 : Int32) <<< (nI i &&& 31)))) 41 0 (12 + i) (((am_si m2 41 0 (12 + p) ((m2.1 41 0 (12 + p)) ||| ((1 : Int32) <<< (nI i &&& 31)))).1 41 0 (12 + i)) ||| ((1 : Int32) <<< (nI p &&& 31))), ?_, j2.kp (WI := [(41, 0)]) (WL := []) (am_kp.si (am_kp.si am_kp.rf rfl) rfl) rfl, w.pt (fun a _ => ?_), am_kp.si (am_kp.si kk2 rfl) rfl, fun x hx => ?_⟩
      · rw [lp_X9_fillOrderWords_108.eq_2, j1.n.1, if_neg (nI_ge hi (by omega)), if_neg (fun z => hb (ob.mp z)), e2, bd_s, hm0]
        dsimp only
        rw [if_neg (show ¬ bv true = 0 by decide), show (12 : Int32) = nI 12 from rfl, nI_add, nI_add, ck_in (show 12 + p < 19 by omega) (by decide), ck_in (show 12 + p < 19 by omega) (by decide), ck_in (show 12 + i < 19 by omega) (by decide), ck_in (show 12 + i < 19 by omega) (by decide), bd_s, nI_1, nI_clamp (show 12 + p < 2 ^ 31 by omega), nI_clamp (show 12 + i < 2 ^ 31 by omega)]
      · show (am_si (am_si m2 41 0 (12 + p) _) 41 0 (12 + i) _).1 41 0 (12 + a) = _
        rw [rd_j, rd_j, rd_j, rd_j, rd_j, rd_j]
        show (if 12 + a = 12 + i then (if 12 + i = 12 + p then _ else m2.1 41 0 (12 + i)) ||| _ else if 12 + a = 12 + p then _ else m2.1 41 0 (12 + a)) = if a = i then (if i = p then _ else m2.1 41 0 (12 + i)) ||| _ else if a = p then _ else m2.1 41 0 (12 + a)
        rw [if_neg (show ¬ 12 + i = 12 + p by omega), if_neg (show ¬ i = p by omega)]
        by_cases x1 : a = i
        · rw [if_pos (show 12 + a = 12 + i by omega), if_pos x1]
        · rw [if_neg (show ¬ 12 + a = 12 + i by omega), if_neg x1]
          by_cases x2 : a = p
          · rw [if_pos (show 12 + a = 12 + p by omega), if_pos x2]
            rfl
          · rw [if_neg (show ¬ 12 + a = 12 + p by omega), if_neg x2]
      · rw [rd_j, if_neg (show ¬ x = 12 + i by omega), rd_j, if_neg (show ¬ x = 12 + p by omega), row2]; exact c1 x hx
theorem fill_o (h : jdx 999 0 r lw m) (haw : aw < 128) (hz : ∀ a, a < nv (r 0) → m.1 41 0 (12 + a) = 0) : ∃ m', lp_X9_fillOrderWords_98 1000000 (nI aw) 0 m = some m' ∧ ((∀ a, a < nv (r 0) → m'.1 41 0 (12 + a) = nI (sx (omx r lw aw a) (nv (r 0)))) ∧ am_kp [(20, 0), (41, 0)] [(80, 0)] 0 m m' ∧ ∀ i, (i < 12 ∨ 12 + nv (r 0) ≤ i) → m'.1 41 0 i = m.1 41 0 i) := by
  have h7 := h.n.2
  refine lp_up0 (fun N x a => lp_X9_fillOrderWords_98 N (nI aw) x a) (fun i m1 => jdx 999 0 r lw m1 ∧ rowsP 41 (nv (r 0)) (omx r lw aw) (min i (nv (r 0))) (i + 1) (V41 m1) ∧ am_kp [(20, 0), (41, 0)] [(80, 0)] 0 m m1 ∧ ∀ i, (i < 12 ∨ 12 + nv (r 0) ≤ i) → m1.1 41 0 i = m.1 41 0 i) (fun m' => (∀ a, a < nv (r 0) → m'.1 41 0 (12 + a) = nI (sx (omx r lw aw a) (nv (r 0)))) ∧ am_kp [(20, 0), (41, 0)] [(80, 0)] 0 m m' ∧ ∀ i, (i < 12 ∨ 12 + nv (r 0) ≤ i) → m'.1 41 0 i = m.1 41 0 i) 7 (by decide) (fun N m1 hh => ⟨m1, ?_, ?_, hh.2.2⟩) (fun N i m1 hi hh => Or.inl ?_) m ⟨h, by rw [show min 0 (nv (r 0)) = 0 by omega]; exact rowsP.zero hz, am_kp.rf, fun _ _ => rfl⟩
  · show lp_X9_fillOrderWords_98 (N + 1) (nI aw) (nI 7) m1 = _
    rw [lp_X9_fillOrderWords_98.eq_2, if_pos (by decide)]
  · have w := hh.2.1
    rw [show min 7 (nv (r 0)) = nv (r 0) by omega] at w
    exact w.fin (fun a => by unfold omx; rw [mtx_irr]; rfl)
  · obtain ⟨j1, r1, k1, c1⟩ := hh
    by_cases hn : i < nv (r 0)
    · rw [show min i (nv (r 0)) = i by omega] at r1
      obtain ⟨m2, e2, j2, r2, k2, c2⟩ := fill_i j1 haw hn r1
      refine ⟨m2, ?_, j2, by rw [show min (i + 1) (nv (r 0)) = i + 1 by omega]; exact r2, k1.tr k2, fun x hx => (c2 x hx).trans (c1 x hx)⟩
      show lp_X9_fillOrderWords_98 (N + 1) (nI aw) (nI i) m1 = lp_X9_fillOrderWords_98 N (nI aw) (nI (i + 1)) m2
      rw [lp_X9_fillOrderWords_98.eq_2, if_neg (show ¬ (7 : Int32) ≤ nI i from nI_ge (b := 7) hi (by decide)), nI_1, e2, bd_s]
    · refine ⟨m1, ?_, j1, ?_, k1, c1⟩
      · show lp_X9_fillOrderWords_98 (N + 1) (nI aw) (nI i) m1 = lp_X9_fillOrderWords_98 N (nI aw) (nI (i + 1)) m1
        have e2 : lp_X9_fillOrderWords_108 1000000 (nI aw) (nI i) (nI (i + 1)) m1 = some m1 := by
          rw [show (1000000 : Nat) = 999999 + 1 from rfl, lp_X9_fillOrderWords_108.eq_2, j1.n.1, if_pos (nI_le (by omega) (by omega))]
        rw [lp_X9_fillOrderWords_98.eq_2, if_neg (show ¬ (7 : Int32) ≤ nI i from nI_ge (b := 7) hi (by decide)), nI_1, e2, bd_s]
      · rw [show min (i + 1) (nv (r 0)) = min i (nv (r 0)) by omega]
        refine r1.to (fun a b ha hb _ => ?_)
        unfold vis
        omega
theorem cfill_ok (h : jdx 999 0 r lw m) (haw : aw < 128) : ∃ m', fn_X9_fillOrderWords (nI aw) m = some m' ∧ am_kp [(20, 0), (41, 0)] [(80, 0)] 0 m m' ∧ cWo r lw (m.1 41 0 1) (m.1 41 0 2) aw m' := by
  have h7 := h.n.2
  have h8 := h.n.1
  have hU := h.2.1
  have hW := h.2.2.1
  have d0 : m.1 39 0 0 = r 4 := hU.2.2.2.2.1 0 (by decide)
  let a1 : am_m := am_si m 41 0 0 (m.1 39 0 0)
  have ka1 : am_kp [(41, 0)] [] 0 m a1 := am_kp.si am_kp.rf rfl
  let a2 : am_m := am_si a1 41 0 3 (nI (hall r))
  have ka2 : am_kp [(41, 0)] [] 0 m a2 := am_kp.si ka1 rfl
  let a3 : am_m := am_si a2 41 0 4 (nI (hst r))
  have ka3 : am_kp [(41, 0)] [] 0 m a3 := am_kp.si ka2 rfl
  have e1 : fn_X8_harmCount 0 a1 = some (nI (hall r)) := charmCount_ok (hU.of (sm_U.kp ka1 rfl 0)) hW
  have e2 : fn_X8_starving 0 a2 = some (nI (hst r)) := cstarving_ok (hU.of (sm_U.kp ka2 rfl 0)) hW
  obtain ⟨q13, f1, f2, f3⟩ : ∃ q13, lp_X9_fillOrderWords_43 1000000 (nI aw) 0 a3 = some q13 ∧ ((∀ i, q13.1 41 0 i = if 5 ≤ i ∧ i < 12 then (if i - 5 < nv (r 0) then r (7 + (i - 5)) else -1) else if 12 ≤ i ∧ i < 19 then (if i - 12 < nv (r 0) then 0 else -1) else a3.1 41 0 i) ∧ am_kp [(41, 0)] [] 0 m q13) := by
    refine lp_up0 (fun N x a => lp_X9_fillOrderWords_43 N (nI aw) x a) (fun j m1 => (∀ i, m1.1 41 0 i = if 5 ≤ i ∧ i < 5 + j then (if i - 5 < nv (r 0) then r (7 + (i - 5)) else -1) else if 12 ≤ i ∧ i < 12 + j then (if i - 12 < nv (r 0) then 0 else -1) else a3.1 41 0 i) ∧ am_kp [(41, 0)] [] 0 m m1) (fun q13 => (∀ i, q13.1 41 0 i = if 5 ≤ i ∧ i < 12 then (if i - 5 < nv (r 0) then r (7 + (i - 5)) else -1) else if 12 ≤ i ∧ i < 19 then (if i - 12 < nv (r 0) then 0 else -1) else a3.1 41 0 i) ∧ am_kp [(41, 0)] [] 0 m q13) 7 (by decide) (fun N m1 hh => ⟨m1, ?_, hh⟩) (fun N j m1 hj hh => Or.inl ⟨am_si (am_si m1 41 0 (5 + j) (if j < nv (r 0) then r (7 + j) else -1)) 41 0 (12 + j) (if j < nv (r 0) then 0 else -1), ?_, fun i => ?_, am_kp.si (am_kp.si hh.2 rfl) rfl⟩) a3 ⟨fun i => by rw [if_neg (by omega), if_neg (by omega)], ka3⟩
    · show lp_X9_fillOrderWords_43 (N + 1) (nI aw) (nI 7) m1 = _
      rw [lp_X9_fillOrderWords_43.eq_2, if_pos (by decide)]
    · show lp_X9_fillOrderWords_43 (N + 1) (nI aw) (nI j) m1 = lp_X9_fillOrderWords_43 N (nI aw) (nI (j + 1)) _
      have b8 : m1.1 8 0 0 = nI (nv (r 0)) := by rw [hh.2.fld 8 0 0 rfl]; exact h8
      have b36 : m1.1 36 0 j = r (7 + j) := by rw [hh.2.row 36 rfl]; exact hU.2.2.2.2.2.1 j hj
      have cond : (0 ≤ nI j ∧ nI j < nI (nv (r 0))) ↔ j < nv (r 0) := ⟨fun z => (nI_ltI (by omega) (by omega)).mp z.2, fun z => ⟨nI_le (a := 0) (Nat.zero_le _) (by omega), (nI_ltI (by omega) (by omega)).mpr z⟩⟩
      have ef : fn_X8_fedOf 0 (nI j) m1 = some (if j < nv (r 0) then r (7 + j) else -1) := by
        unfold fn_X8_fedOf
        rw [has_ok b8, bd_s]
        by_cases z : j < nv (r 0)
        · rw [if_pos (cond.mpr z), if_neg (show ¬ (1 : Int32) = 0 by decide), if_pos z, ck_in hj (by decide), nI_clamp (by omega), b36]
        · rw [if_neg (fun y => z (cond.mp y)), if_pos rfl, if_neg z]
      rw [lp_X9_fillOrderWords_43.eq_2, if_neg (show ¬ (7 : Int32) ≤ nI j from nI_ge (b := 7) hj (by decide)), ef, bd_s, show (5 : Int32) = nI 5 from rfl, show (12 : Int32) = nI 12 from rfl, nI_add, nI_add, ck_in (show 5 + j < 19 by omega) (by decide), nI_clamp (show 5 + j < 2 ^ 31 by omega), has_ok (show (am_si m1 41 0 (5 + j) (if j < nv (r 0) then r (7 + j) else -1)).1 8 0 0 = nI (nv (r 0)) from b8), bd_s, ck_in (show 12 + j < 19 by omega) (by decide), nI_clamp (show 12 + j < 2 ^ 31 by omega), nI_1]
      have eh : (if (if 0 ≤ nI j ∧ nI j < nI (nv (r 0)) then (1 : Int32) else 0) = 0 then (-1 : Int32) else (0 : Int32)) = if j < nv (r 0) then 0 else -1 := by
        by_cases z : j < nv (r 0)
        · rw [if_pos (cond.mpr z), if_neg (show ¬ (1 : Int32) = 0 by decide), if_pos z]
        · rw [if_neg (fun y => z (cond.mp y)), if_pos rfl, if_neg z]
      rw [eh]
    · rw [rd_j, rd_j, hh.1]
      by_cases x1 : i = 12 + j
      · rw [if_pos x1, if_neg (show ¬ (5 ≤ i ∧ i < 5 + (j + 1)) by omega), if_pos (show 12 ≤ i ∧ i < 12 + (j + 1) by omega), show i - 12 = j by omega]
      rw [if_neg x1]
      by_cases x2 : i = 5 + j
      · rw [if_pos x2, if_pos (show 5 ≤ i ∧ i < 5 + (j + 1) by omega), show i - 5 = j by omega]
      rw [if_neg x2]
      by_cases x3 : 5 ≤ i ∧ i < 5 + j
      · rw [if_pos x3, if_pos (show 5 ≤ i ∧ i < 5 + (j + 1) by omega)]
      · rw [if_neg x3, if_neg (show ¬ (5 ≤ i ∧ i < 5 + (j + 1)) by omega)]
        exact if_iff (by omega)
  have j13 : jdx 999 0 r lw q13 := h.kp f3 rfl
  obtain ⟨m', g1, g2, g3, g4⟩ := fill_o j13 haw (fun a ha => by rw [f2, if_neg (by omega), if_pos (by omega), if_pos (by omega)])
  have kall : am_kp [(20, 0), (41, 0)] [(80, 0)] 0 m m' := (am_kp.mono f3 rfl).tr g3
  have c0 : ∀ i, i < 5 → m'.1 41 0 i = a3.1 41 0 i := fun i hi => by rw [g4 i (by omega), f2, if_neg (by omega), if_neg (by omega)]
  have v : ∀ i, a3.1 41 0 i = if i = 4 then nI (hst r) else if i = 3 then nI (hall r) else if i = 0 then r 4 else m.1 41 0 i := fun i => by
    show (am_si (am_si (am_si m 41 0 0 (m.1 39 0 0)) 41 0 3 (nI (hall r))) 41 0 4 (nI (hst r))).1 41 0 i = _
    rw [rd_j, rd_j, rd_j, d0]
  refine ⟨m', ?_, kall, ?_, ?_, fun i hi => ?_, fun y hy hb => ?_⟩
  · unfold fn_X9_fillOrderWords
    rw [show fn_X8_harmCount 0 (am_si m 41 0 0 (m.1 39 0 0)) = some (nI (hall r)) from e1, bd_s, show fn_X8_starving 0 (am_si (am_si m 41 0 0 (m.1 39 0 0)) 41 0 3 (nI (hall r))) = some (nI (hst r)) from e2, bd_s]
    show (lp_X9_fillOrderWords_43 1000000 (nI aw) 0 a3).bind _ = _
    rw [f1, bd_s, g1, bd_s]
  · rw [c0 1 (by decide), v]; rfl
  · rw [c0 2 (by decide), v]; rfl
  · unfold oE
    by_cases x : i < 5
    · rw [c0 i x, v]
      have : i = 0 ∨ i = 1 ∨ i = 2 ∨ i = 3 ∨ i = 4 := by omega
      rcases this with rfl | rfl | rfl | rfl | rfl <;> rfl
    · rw [if_neg (by omega), if_neg (by omega), if_neg (by omega), if_neg (by omega), if_neg (by omega), if_pos hi, g4 i (by omega), f2, if_pos (by omega)]
      by_cases y : i - 5 < nv (r 0)
      · rw [if_pos y, if_pos y]
      · rw [if_neg y, if_neg y]; rfl
  · unfold oE
    rw [if_neg (by omega), if_neg (by omega), if_neg (by omega), if_neg (by omega), if_neg (by omega), if_neg (by omega), if_pos (by omega), Nat.add_sub_cancel_left]
    by_cases z : y < nv (r 0)
    · rw [if_pos z, g2 y z, sx_cong (g := mtx r lw y) (fun k hk => ?_)]
      unfold omx
      rw [hb, Bool.true_or, Bool.and_true]
    · rw [if_neg z, g4 _ (by omega), f2, if_neg (by omega), if_pos (by omega), if_neg (by omega)]
      rfl
end OA
