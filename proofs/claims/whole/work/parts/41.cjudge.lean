/-! the class's judge -/
/-- the judge looks at upland u, which holds the row r, by that LAW -/
def jdx (D : Nat) (u : Nat) (r : Nat → Int32) (lw : lw_T) (m : am_m) : Prop := m.2.2.1 0 = some u ∧ iv_U m u r ∧ iv_W D r ∧ jd_law m lw
section CJ
variable {m : am_m} {lw : lw_T} {D u p q : Nat} {r : Nat → Int32}
theorem jdx.kp {m' : am_m} {WI WL : List (Nat × Nat)} (h : jdx D u r lw m) (k : am_kp WI WL 0 m m') (hw : (am_sub WI [(2, 0), (2, 1), (2, 2), (6, 0), (6, 7), (20, 0), (21, 0), (22, 0), (23, 0), (30, 0), (31, 0), (32, 0), (33, 0), (34, 0), (41, 0), (90, 0)] && am_sub WL [(80, 0), (81, 0)]) = true) : jdx D u r lw m' := by
  rw [Bool.and_eq_true] at hw
  have k : am_kp [(2, 0), (2, 1), (2, 2), (6, 0), (6, 7), (20, 0), (21, 0), (22, 0), (23, 0), (30, 0), (31, 0), (32, 0), (33, 0), (34, 0), (41, 0), (90, 0)] [(80, 0), (81, 0)] 0 m m' := k.mono (by rw [hw.1, hw.2]; rfl)
  have ee : m'.2.2 = m.2.2 := k.2.2
  refine ⟨by rw [ee]; exact h.1, h.2.1.of ⟨by rw [k.obj 8 rfl], by rw [k.row 36 rfl], by rw [k.row 37 rfl], by rw [k.row 38 rfl], by rw [k.row 39 rfl], by rw [k.row 40 rfl]⟩, h.2.2.1, h.2.2.2.kp k rfl⟩
theorem jdx.n (h : jdx D u r lw m) : m.1 8 u 0 = nI (nv (r 0)) ∧ nv (r 0) ≤ 7 := ⟨h.2.1.1.trans (h.2.2.1.k (by decide) (by decide)), h.2.2.1.2.1⟩
/-- the eight words, one behind another -/
theorem kw8 {m1 : am_m} {a0 a1 a2 a3 a4 a5 a6 a7 : Int32} (h0 : m1.1 20 0 0 = a0) (h1 : m1.1 20 0 1 = a1) (h2 : m1.1 20 0 2 = a2) (h3 : m1.1 20 0 3 = a3) (h4 : m1.1 20 0 4 = a4) (h5 : m1.1 20 0 5 = a5) (h6 : m1.1 20 0 6 = a6) (h7 : m1.1 20 0 7 = a7) : ∀ x, x < 8 → (m1.1 20 0 x).toInt64 = ev8 a0 a1 a2 a3 a4 a5 a6 a7 x := by
  intro x hx
  match x, hx with
  | 0, _ => rw [h0]; rfl
  | 1, _ => rw [h1]; rfl
  | 2, _ => rw [h2]; rfl
  | 3, _ => rw [h3]; rfl
  | 4, _ => rw [h4]; rfl
  | 5, _ => rw [h5]; rfl
  | 6, _ => rw [h6]; rfl
  | 7, _ => rw [h7]; rfl
  | x + 8, h => exact absurd h (by omega)
theorem knowOne_ok {a fed size day : Int32} (h : jdx D u r lw m) : ∃ m', fn_X1_knowOne a fed size day m = some m' ∧ am_kp [(20, 0)] [] 0 m m' ∧ m'.1 20 0 0 = a ∧ m'.1 20 0 1 = -1 ∧ m'.1 20 0 2 = -1 ∧ m'.1 20 0 3 = -1 ∧ m'.1 20 0 4 = fed ∧ m'.1 20 0 5 = size ∧ m'.1 20 0 6 = day ∧ m'.1 20 0 7 = r 6 := by
  unfold fn_X1_knowOne
  rw [h.1, bd_s]
  refine ⟨_, rfl, ?_, rfl, rfl, rfl, rfl, rfl, rfl, rfl, ?_⟩
  · exact am_kp.si (am_kp.si (am_kp.si (am_kp.si (am_kp.si (am_kp.si (am_kp.si (am_kp.si am_kp.rf rfl) rfl) rfl) rfl) rfl) rfl) rfl) rfl
  · show m.1 39 u 2 = r 6
    exact h.2.1.2.2.2.2.1 2 (by decide)
theorem knowTwo_ok (h : jdx D u r lw m) (hp : p < nv (r 0)) (hq : q < nv (r 0)) (hne : p ≠ q) : ∃ m', fn_X1_knowTwo (nI p) (nI q) m = some m' ∧ am_kp [(20, 0)] [] 0 m m' ∧ (∀ x, x < 8 → (m'.1 20 0 x).toInt64 = ew2 r p q x) ∧ m'.1 20 0 2 = r (14 + (7 * p + q)) := by
  obtain ⟨hn, h7⟩ := h.n
  have hW := h.2.2.1
  have hV := h.2.1
  have e7 : nI p * (7 : Int32) + nI q = nI (7 * p + q) := by
    rw [show (7 : Int32) = nI 7 from rfl, pk_mul, nI_add, Nat.mul_comm p 7]
  have h37 : m.1 37 u (7 * p + q) = r (14 + (7 * p + q)) := hV.2.2.2.2.2.2.1 _ (by omega)
  have h36 : m.1 36 u p = r (7 + p) := hV.2.2.2.2.2.1 p (by omega)
  have h390 : m.1 39 u 0 = r 4 := hV.2.2.2.2.1 0 (by decide)
  unfold fn_X1_knowTwo
  rw [h.1, bd_s, hasTwo_ok hn, if_pos ⟨fk_in h7 hp, fk_in h7 hq, fun z => hne ((nI_eq (by omega) (by omega)).mp z)⟩, bd_s, if_neg (by decide), bd_s, if_neg (by decide), e7, ck_in (by omega) (by decide), nI_clamp (by omega), bd_s, if_neg (by decide), bd_s, ck_in (by omega) (by decide), nI_clamp (by omega), bd_s, bd_s, h37, h36, h390]
  obtain ⟨m1, e1, k1, w0, w1, w2, w3, w4, w5, w6, w7⟩ := knowOne_ok (a := nI p) (fed := r (7 + p)) (size := -1) (day := r 4) h
  rw [e1, bd_s]
  have hx := hW.k (k := 14 + (7 * p + q)) (by omega) (by omega)
  have ee : m1.2.2.1 0 = some u := by rw [show m1.2.2 = m.2.2 from k1.2.2]; exact h.1
  have h38 : 0 < nv (r (14 + (7 * p + q))) → m.1 38 u (7 * p + q) = r (63 + (7 * p + q)) := hV.2.2.2.2.2.2.2.1 _ (by omega)
  have hlt := nv_lt (r (14 + (7 * p + q)))
  have eage : (if r (14 + (7 * p + q)) ≤ 0 then some (-1 : Int32) else (m1.2.2.1 0).bind fun u21 => (m1.2.2.1 0).bind fun u23 => am_ck (nI (7 * p + q)) 49 (some ((m1.1 39 u21 0) - (m1.1 38 u23 (7 * p + q))))) = some (if r (14 + (7 * p + q)) = 0 then -1 else r 4 - r (63 + (7 * p + q))) := by
    by_cases h0 : nv (r (14 + (7 * p + q))) = 0
    · rw [h0] at hx
      rw [hx, if_pos (by decide), if_pos (by decide)]
    · rw [if_neg (by rw [hx]; exact nI_nle (by omega) hlt), if_neg (by rw [hx]; exact nI_ne0 (by omega) hlt), ee, bd_s, bd_s, ck_in (by omega) (by decide), k1.row 39 rfl, k1.row 38 rfl, h390, h38 (by omega)]
  rw [eage, bd_s]
  refine ⟨_, rfl, am_kp.si (am_kp.si (am_kp.si k1 rfl) rfl) rfl, kw8 w0 rfl rfl rfl w4 w5 w6 w7, rfl⟩
theorem countsOf_ok (h : jdx D u r lw m) (hD : D ≤ 100000) (hp : p < nv (r 0)) (hq : q < nv (r 0)) (hne : p ≠ q) : ∃ m', fn_X1_countsOf (nI p) (nI q) m = some (sp_cnt r lw p q, m') ∧ am_kp [(20, 0)] [(80, 0)] 0 m m' := by
  obtain ⟨hn, h7⟩ := h.n
  unfold fn_X1_countsOf
  obtain ⟨m1, e1, k1, w1, w2⟩ := knowTwo_ok h hp hq hne
  have h1 := h.kp k1 rfl
  obtain ⟨m2, e2, k2⟩ := tellsLaw_ok (h := 0) (w := m1.1 20 0 2) h1.2.2.2 (by decide) (ew2_ok h.2.2.1 hD (by omega) (by omega)) w1
  have e2 : fn_X1_tellsLaw 266 (m1.1 20 0 2) m1 = _ := e2
  rw [e1, bd_s, e2, bd_s]
  refine ⟨m2, ?_, am_kp.tr (am_kp.mono k1 rfl) (am_kp.mono k2 rfl)⟩
  unfold sp_cnt
  rw [w2]
theorem isBarred_ok (h : jdx D u r lw m) (hD : D ≤ 100000) (hp : p < nv (r 0)) (hq : q < nv (r 0)) (hne : p ≠ q) : ∃ m', fn_X1_isBarred (nI p) (nI q) m = some (if sp_bar r lw p q then 1 else 0, m') ∧ am_kp [(20, 0)] [(80, 0)] 0 m m' := by
  obtain ⟨hn, h7⟩ := h.n
  unfold fn_X1_isBarred
  obtain ⟨m1, e1, k1, w1, w2⟩ := knowTwo_ok h hp hq hne
  have h1 := h.kp k1 rfl
  obtain ⟨m2, e2, k2⟩ := tellsLaw_ok (h := 3) (w := -1) h1.2.2.2 (by decide) (ew2_ok h.2.2.1 hD (by omega) (by omega)) w1
  have e2 : fn_X1_tellsLaw 269 (-1) m1 = _ := e2
  rw [e1, bd_s, e2, bd_s]
  refine ⟨m2, ?_, am_kp.tr (am_kp.mono k1 rfl) (am_kp.mono k2 rfl)⟩
  unfold sp_bar
  cases hv : lw_tell lw 3 (ew2 r p q) with
  | none => rfl
  | some v =>
    obtain ⟨x, hx, ex⟩ := cap9_nat v
    show (if cap9 v = (-1 : Int32) then some ((0 : Int32), m2) else some (1, m2)) = _
    rw [if_neg (by rw [ex]; exact nI_m1 (by omega))]
    rfl
theorem cmaySit_ok (h : jdx D u r lw m) (hD : D ≤ 100000) (hp : p < nv (r 0)) (hq : q < nv (r 0)) (hne : p ≠ q) : ∃ m', fn_X1_maySit (nI p) (nI q) m = some (if sp_may r lw p q then 1 else 0, m') ∧ am_kp [(20, 0)] [(80, 0)] 0 m m' := by
  obtain ⟨hn, h7⟩ := h.n
  unfold fn_X1_maySit
  rw [if_pos (show nI p ≠ nI q from fun z => hne ((nI_eq (by omega) (by omega)).mp z))]
  obtain ⟨m1, e1, k1, w1, w2⟩ := knowTwo_ok h hp hq hne
  have h1 := h.kp k1 rfl
  obtain ⟨m2, e2, k2⟩ := tellsLaw_ok (h := 0) (w := m1.1 20 0 2) h1.2.2.2 (by decide) (ew2_ok h.2.2.1 hD (by omega) (by omega)) w1
  have e2 : fn_X1_tellsLaw 266 (m1.1 20 0 2) m1 = _ := e2
  have h2 := h1.kp k2 rfl
  obtain ⟨m3, e3, k3⟩ := tellsLaw_ok (h := 3) (w := -1) h2.2.2.2 (by decide) (ew2_ok (p := p) (q := q) h.2.2.1 hD (by omega) (by omega)) (fun x hx => by rw [k2.row 20 rfl]; exact w1 x hx)
  have e3 : fn_X1_tellsLaw 269 (-1) m2 = _ := e3
  have h3 := h2.kp k3 rfl
  have kp3 : am_kp [(20, 0)] [(80, 0)] 0 m m3 := am_kp.tr (am_kp.mono k1 rfl) (am_kp.tr (am_kp.mono k2 rfl) (am_kp.mono k3 rfl))
  have hbar : ∀ (z : Option Int64), (if lw_num z (-1) = (-1 : Int32) then (0 : Int32) else 1) = if z.isSome then 1 else 0 := by
    intro z
    cases z with
    | none => rfl
    | some v =>
      obtain ⟨x, hx, ex⟩ := cap9_nat v
      show (if cap9 v = (-1 : Int32) then (0 : Int32) else 1) = 1
      rw [if_neg (by rw [ex]; exact nI_m1 (by omega))]
  have hcnt : lw_num (lw_tell lw 0 (ew2 r p q)) (m1.1 20 0 2) = sp_cnt r lw p q := by unfold sp_cnt; rw [w2]
  rw [e1, bd_s, e2, bd_s, show ((_, m2) : Int32 × am_m).2 = m2 from rfl, e3, bd_s, hcnt]
  rw [show ∀ b : Int32, ((b, m3) : Int32 × am_m).1 = b from fun _ => rfl, show ∀ b : Int32, ((b, m3) : Int32 × am_m).2 = m3 from fun _ => rfl, hbar]
  show ∃ m', ((if (if sp_bar r lw p q = true then (1 : Int32) else 0) ≠ 0 then some (sp_cnt r lw p q, (if sp_bar r lw p q = true then (1 : Int32) else 0), m3) else _).bind _) = _ ∧ _
  obtain ⟨x, hx9, ex⟩ := sp_cnt_nat (lw := lw) h.2.2.1 (show p < 7 by omega) (show q < 7 by omega)
  obtain ⟨y, hy9, ey⟩ := sp_cnt_nat (lw := lw) h.2.2.1 (show q < 7 by omega) (show p < 7 by omega)
  have es : sp_may r lw p q = (!sp_bar r lw p q && (!sp_bar r lw q p && decide (0 < x + y))) := by
    unfold sp_may
    rw [ex, ey, nv_nI (by omega), nv_nI (by omega)]
  rw [es]
  cases hb : sp_bar r lw p q with
  | true =>
    rw [if_pos (show (if true = true then (1 : Int32) else 0) ≠ 0 by decide), bd_s]
    exact ⟨m3, rfl, kp3⟩
  | false =>
    rw [if_neg (show ¬ (if false = true then (1 : Int32) else 0) ≠ 0 by decide)]
    obtain ⟨m4, e4, k4, v1, v2⟩ := knowTwo_ok h3 hq hp (Ne.symm hne)
    have h4 := h3.kp k4 rfl
    obtain ⟨m5, e5, k5⟩ := tellsLaw_ok (h := 0) (w := m4.1 20 0 2) h4.2.2.2 (by decide) (ew2_ok h.2.2.1 hD (by omega) (by omega)) v1
    have e5 : fn_X1_tellsLaw 266 (m4.1 20 0 2) m4 = _ := e5
    have h5 := h4.kp k5 rfl
    obtain ⟨m6, e6, k6⟩ := tellsLaw_ok (h := 3) (w := -1) h5.2.2.2 (by decide) (ew2_ok (p := q) (q := p) h.2.2.1 hD (by omega) (by omega)) (fun x hx => by rw [k5.row 20 rfl]; exact v1 x hx)
    have e6 : fn_X1_tellsLaw 269 (-1) m5 = _ := e6
    have hcnt2 : lw_num (lw_tell lw 0 (ew2 r q p)) (m4.1 20 0 2) = sp_cnt r lw q p := by unfold sp_cnt; rw [v2]
    have kp6 : am_kp [(20, 0)] [(80, 0)] 0 m m6 := kp3.tr (am_kp.tr (am_kp.mono k4 rfl) (am_kp.tr (am_kp.mono k5 rfl) (am_kp.mono k6 rfl)))
    rw [e4, bd_s, e5, bd_s, show ((_, m5) : Int32 × am_m).2 = m5 from rfl, e6, bd_s, hcnt2, bd_s]
    rw [show ∀ b : Int32, ((b, m6) : Int32 × am_m).1 = b from fun _ => rfl, show ∀ b : Int32, ((b, m6) : Int32 × am_m).2 = m6 from fun _ => rfl, hbar]
    show ∃ m', (if (if sp_bar r lw q p = true then (1 : Int32) else 0) ≠ 0 then some ((0 : Int32), m6) else (if (sp_cnt r lw p q + sp_cnt r lw q p) ≤ 0 then some (0, m6) else some (1, m6))) = _ ∧ _
    refine ⟨m6, ?_, kp6⟩
    cases hb2 : sp_bar r lw q p with
    | true =>
      rw [if_pos (show (if true = true then (1 : Int32) else 0) ≠ 0 by decide)]
      rfl
    | false =>
      rw [if_neg (show ¬ (if false = true then (1 : Int32) else 0) ≠ 0 by decide), ex, ey, nI_add]
      by_cases h0 : x + y = 0
      · rw [h0, if_pos (by decide)]
        rfl
      · rw [if_neg (show ¬ nI (x + y) ≤ 0 from nI_nle (by omega) (by omega)), decide_eq_true (show 0 < x + y by omega)]
        rfl
theorem hungerOf_ok {fed day : Int32} (h : jdx D u r lw m) (hp : p < 7) (hf : -1000000 ≤ fed.toInt ∧ fed.toInt ≤ 1000000) (hd : -1000000 ≤ day.toInt ∧ day.toInt ≤ 1000000) : ∃ m', fn_X1_hungerOf (nI p) fed day m = some (sp_hun r lw p fed day, m') ∧ am_kp [(20, 0)] [(80, 0)] 0 m m' := by
  unfold fn_X1_hungerOf
  obtain ⟨m1, e1, k1, w0, w1, w2, w3, w4, w5, w6, w7⟩ := knowOne_ok (a := nI p) (fed := fed) (size := -1) (day := day) h
  have h1 := h.kp k1 rfl
  have hm : -1000000 ≤ (r 6).toInt ∧ (r 6).toInt ≤ 1000000 := by
    rw [h.2.2.1.k (k := 6) (by decide) (by decide)]; exact nI_small (by have := h.2.2.1.2.2.2.2.2.2.2.1; omega)
  obtain ⟨m2, e2, k2⟩ := tellsLaw_ok (h := 2) (w := 1) h1.2.2.2 (by decide) (ew1_ok (p := p) hp hf m1_small hd hm) (kw8 w0 w1 w2 w3 w4 w5 w6 w7)
  have e2 : fn_X1_tellsLaw 268 1 m1 = _ := e2
  rw [e1, bd_s, e2, bd_s]
  exact ⟨m2, rfl, am_kp.tr (am_kp.mono k1 rfl) (am_kp.mono k2 rfl)⟩
end CJ
