/-! what counts, who bars, who may sit: by the reference and by the class -/
def sp_cnt (r : Nat → Int32) (lw : lw_T) (p q : Nat) : Int32 := lw_num (lw_tell lw 0 (ew2 r p q)) (r (14 + (7 * p + q)))
def sp_bar (r : Nat → Int32) (lw : lw_T) (p q : Nat) : Bool := (lw_tell lw 3 (ew2 r p q)).isSome
def sp_may (r : Nat → Int32) (lw : lw_T) (p q : Nat) : Bool := !sp_bar r lw p q && (!sp_bar r lw q p && decide (0 < nv (sp_cnt r lw p q) + nv (sp_cnt r lw q p)))
def sp_hun (r : Nat → Int32) (lw : lw_T) (p : Nat) (fed day : Int32) : Int32 := lw_num (lw_tell lw 2 (ew1 p fed (-1) day (r 6))) 1
def sp_fee (r : Nat → Int32) (lw : lw_T) (p : Nat) (size : Int32) : Int32 := lw_num (lw_tell lw 1 (ew1 p (r (7 + p)) size (r 4) (r 6))) 2
section SPB
variable {r : Nat → Int32} {lw : lw_T} {D p q : Nat}
theorem iv_W.k (h : iv_W D r) {k : Nat} (hk : k < 118) (h3 : k ≠ 3) : r k = nI (nv (r k)) := h.1 k hk h3
theorem sp_cnt_nat (hW : iv_W D r) (hp : p < 7) (hq : q < 7) : ∃ x, x ≤ 9 ∧ sp_cnt r lw p q = nI x := by
  unfold sp_cnt
  cases lw_tell lw 0 (ew2 r p q) with
  | some v => exact cap9_nat v
  | none => exact ⟨nv (r (14 + (7 * p + q))), (hW.2.2.2.2.2.2.2.2.2.1 p q hp hq).1, hW.k (by omega) (by omega)⟩
theorem sp_hun_nat {fed day : Int32} : ∃ x, x ≤ 9 ∧ sp_hun r lw p fed day = nI x := by
  unfold sp_hun
  cases lw_tell lw 2 (ew1 p fed (-1) day (r 6)) with
  | some v => exact cap9_nat v
  | none => exact ⟨1, by decide, rfl⟩
theorem sp_fee_nat {size : Int32} : ∃ x, x ≤ 9 ∧ sp_fee r lw p size = nI x := by
  unfold sp_fee
  cases lw_tell lw 1 (ew1 p (r (7 + p)) size (r 4) (r 6)) with
  | some v => exact cap9_nat v
  | none => exact ⟨2, by decide, rfl⟩
theorem sp_may_comm : sp_may r lw p q = sp_may r lw q p := by
  unfold sp_may
  rw [Nat.add_comm (nv (sp_cnt r lw p q))]
  cases sp_bar r lw p q <;> cases sp_bar r lw q p <;> rfl
theorem i64_small {x : Int32} (h1 : -1000000 ≤ x.toInt) (h2 : x.toInt ≤ 1000000) : (-1000000 : Int64) ≤ x.toInt64 ∧ x.toInt64 ≤ 1000000 := by
  rw [fa_le64, fa_le64, Int32.toInt_toInt64]
  exact ⟨h1, h2⟩
theorem ev8_ok {a0 a1 a2 a3 a4 a5 a6 a7 : Int32} (h : ∀ x ∈ [a0, a1, a2, a3, a4, a5, a6, a7], -1000000 ≤ x.toInt ∧ x.toInt ≤ 1000000) : ev_ok (ev8 a0 a1 a2 a3 a4 a5 a6 a7) := by
  intro i
  unfold ev8
  rw [List.getD_eq_getElem?_getD]
  cases hg : ([a0, a1, a2, a3, a4, a5, a6, a7] : List Int32)[i]? with
  | none => exact ⟨by decide, by decide⟩
  | some x =>
    obtain ⟨h1, h2⟩ := h x (List.mem_of_getElem? hg)
    exact i64_small h1 h2
theorem nI_small {a : Nat} (h : a ≤ 1000000) : -1000000 ≤ (nI a).toInt ∧ (nI a).toInt ≤ 1000000 := by
  rw [nI_toInt (by omega)]
  omega
theorem m1_small : -1000000 ≤ (-1 : Int32).toInt ∧ (-1 : Int32).toInt ≤ 1000000 := by decide
theorem ew2_ok (hW : iv_W D r) (hD : D ≤ 100000) (hp : p < 7) (hq : q < 7) : ev_ok (ew2 r p q) := by
  have hw := (hW.2.2.2.2.2.2.2.2.2.1 p q hp hq).1
  refine ev8_ok (fun x hx => ?_)
  simp only [List.mem_cons, List.not_mem_nil, or_false] at hx
  rcases hx with rfl | rfl | rfl | rfl | rfl | rfl | rfl | rfl
  · exact nI_small (by omega)
  · exact nI_small (by omega)
  · rw [hW.k (k := 14 + (7 * p + q)) (by omega) (by omega)]; exact nI_small (by omega)
  · by_cases h0 : r (14 + (7 * p + q)) = 0
    · rw [if_pos h0]; exact m1_small
    · rw [if_neg h0, hW.k (k := 4) (by omega) (by omega), hW.k (k := 63 + (7 * p + q)) (by omega) (by omega), pk_sub_toInt (by have := hW.2.2.2.2.2.1; omega) (by have := hW.2.2.2.2.2.2.2.2.2.2.1 (7 * p + q) (by omega); omega)]
      have h4 := hW.2.2.2.2.2.1
      have h63 := hW.2.2.2.2.2.2.2.2.2.2.1 (7 * p + q) (by omega)
      omega
  · rw [hW.k (k := 7 + p) (by omega) (by omega)]; exact nI_small (by have := hW.2.2.2.2.2.2.2.2.1 p hp; omega)
  · exact m1_small
  · rw [hW.k (k := 4) (by omega) (by omega)]; exact nI_small (by have := hW.2.2.2.2.2.1; omega)
  · rw [hW.k (k := 6) (by omega) (by omega)]; exact nI_small (by have := hW.2.2.2.2.2.2.2.1; omega)
theorem ew1_ok {fed size day mood : Int32} (hp : p < 7) (hf : -1000000 ≤ fed.toInt ∧ fed.toInt ≤ 1000000) (hs : -1000000 ≤ size.toInt ∧ size.toInt ≤ 1000000) (hd : -1000000 ≤ day.toInt ∧ day.toInt ≤ 1000000) (hm : -1000000 ≤ mood.toInt ∧ mood.toInt ≤ 1000000) : ev_ok (ew1 p fed size day mood) := by
  refine ev8_ok (fun x hx => ?_)
  simp only [List.mem_cons, List.not_mem_nil, or_false] at hx
  rcases hx with rfl | rfl | rfl | rfl | rfl | rfl | rfl | rfl
  · exact nI_small (by omega)
  · exact m1_small
  · exact m1_small
  · exact m1_small
  · exact hf
  · exact hs
  · exact hd
  · exact hm
/-- bars tells 1, if anything -/
theorem cl_last_3 {n : Nat} {cs : Nat → cl_T} {env : Nat → Int64} (hcs : ∀ i, i < n → ((cs i).1 = 3 ↔ (cs i).2.2 = none)) {v : Int64} : ∀ i, i ≤ n → cl_last cs 3 env i = some v → v = 1
  | 0, _, h => by cases h
  | i + 1, hi, h => by
    have h : (if (cs i).1 = 3 then (match cl_val (cs i) env with
      | some v => some v
      | none => cl_last cs 3 env i) else cl_last cs 3 env i) = some v := h
    by_cases h3 : (cs i).1 = 3
    · rw [if_pos h3] at h
      have hn := (hcs i (by omega)).mp h3
      cases hv : cl_val (cs i) env with
      | none =>
        rw [hv] at h
        exact cl_last_3 hcs i (by omega) h
      | some u =>
        rw [hv] at h
        cases h
        unfold cl_val at hv
        rw [hn] at hv
        by_cases hso : cl_so (cs i) env = true
        · rw [if_pos hso] at hv; cases hv; rfl
        · rw [if_neg hso] at hv; cases hv
    · rw [if_neg h3] at h
      exact cl_last_3 hcs i (by omega) h
end SPB
section RFJ
variable {m : am_m} {lw : lw_T} {D p q : Nat}
/-- what the reference looks at: its row, its LAW -/
def rfx (D : Nat) (lw : lw_T) (m : am_m) : Prop := iv_W D (m.1 44 0) ∧ rf_law (m.1 44 0) lw ∧ m.1 10 0 20 = 0
theorem rfx.kp {m' : am_m} {WI WL : List (Nat × Nat)} {E : Nat} (h : rfx D lw m) (k : am_kp WI WL E m m') (hw : (am_hit WI 44 0 || am_hit WI 10 20) = false) : rfx D lw m' := by
  rw [Bool.or_eq_false_iff] at hw
  unfold rfx
  rw [k.row 44 (by rw [hw.1]; rfl), k.fld 10 0 20 hw.2]
  exact h
theorem tells2_ok {h : Nat} {w : Int64} (hx : rfx D lw m) (hh : h ≤ 3) (hp : p < 7) (hq : q < 7) : ∃ m', fn_X10_tells (nI h) (nI p) (nI q) (-1) w m = some ((lw_tell lw h (ew2 (m.1 44 0) p q)).getD w, m') ∧ am_kp kI kL 0 m m' := by
  cases lw with
  | none => exact ⟨m, tells_none hx.2.1, am_kp.rf⟩
  | some z =>
    obtain ⟨j, hj, h3, h4, h5⟩ := hx.2.1
    exact tells_two hj h3 hx.2.2 h4 h5 hh hp hq
theorem tells1_ok {h : Nat} {w : Int64} {size : Int32} (hx : rfx D lw m) (hh : h ≤ 3) (hp : p < 7) : ∃ m', fn_X10_tells (nI h) (nI p) (-1) size w m = some ((lw_tell lw h (ew1 p (m.1 44 0 (7 + p)) size (m.1 44 0 4) (m.1 44 0 6))).getD w, m') ∧ am_kp kI kL 0 m m' := by
  cases lw with
  | none => exact ⟨m, tells_none hx.2.1, am_kp.rf⟩
  | some z =>
    obtain ⟨j, hj, h3, h4, h5⟩ := hx.2.1
    exact tells_one hj h3 hx.2.2 h4 h5 hh hp
theorem countsAs_ok (hx : rfx D lw m) (hp : p < 7) (hq : q < 7) : ∃ m', fn_X10_countsAs (nI p) (nI q) m = some (sp_cnt (m.1 44 0) lw p q, m') ∧ am_kp kI kL 0 m m' := by
  unfold fn_X10_countsAs
  obtain ⟨m', e1, e2⟩ := tells2_ok (h := 0) (w := (m.1 44 0 (14 + (7 * p + q))).toInt64) hx (by decide) hp hq
  have e1 : fn_X10_tells 0 (nI p) (nI q) (-1) (m.1 44 0 (14 + (7 * p + q))).toInt64 m = _ := e1
  rw [weightOf_ok hp hq, bd_s, e1, bd_s, bounded_ok, bd_s]
  refine ⟨m', ?_, e2⟩
  unfold sp_cnt
  cases lw_tell lw 0 (ew2 (m.1 44 0) p q) with
  | some v => rfl
  | none =>
    show some (cap9 (m.1 44 0 (14 + (7 * p + q))).toInt64, m') = _
    rw [hx.1.k (k := 14 + (7 * p + q)) (by omega) (by omega), cap9_small _ (hx.1.2.2.2.2.2.2.2.2.2.1 p q hp hq).1]
    rfl
theorem barsOff_ok (hx : rfx D lw m) (hp : p < 7) (hq : q < 7) : ∃ m', fn_X10_barsOff (nI p) (nI q) m = some (if sp_bar (m.1 44 0) lw p q then 1 else 0, m') ∧ am_kp kI kL 0 m m' := by
  unfold fn_X10_barsOff
  obtain ⟨m', e1, e2⟩ := tells2_ok (h := 3) (w := 0) hx (by decide) hp hq
  have e1 : fn_X10_tells 3 (nI p) (nI q) (-1) 0 m = _ := e1
  rw [e1, bd_s]
  refine ⟨m', ?_, e2⟩
  unfold sp_bar
  cases hv : lw_tell lw 3 (ew2 (m.1 44 0) p q) with
  | none =>
    show (if (lg_cmp (0 : Int64) 1) ≠ 0 then some ((0 : Int32), m') else some (1, m')) = _
    rw [if_pos (by decide)]
    rfl
  | some v =>
    have hv1 : v = 1 := by
      cases lw with
      | none => cases hv
      | some z =>
        obtain ⟨j, hj, h3, h4, h5⟩ := hx.2.1
        exact cl_last_3 (fun i hi => (h4.2 i hi).2.1) z.1 (Nat.le_refl _) hv
    subst hv1
    show (if (lg_cmp (1 : Int64) 1) ≠ 0 then some ((0 : Int32), m') else some (1, m')) = _
    rw [if_neg (by decide)]
    rfl
theorem maySit_ok (hx : rfx D lw m) (hp : p < 7) (hq : q < 7) : ∃ m', fn_X10_maySit (nI p) (nI q) m = some (if sp_may (m.1 44 0) lw p q then 1 else 0, m') ∧ am_kp kI kL 0 m m' := by
  unfold fn_X10_maySit
  obtain ⟨m1, e1, k1⟩ := countsAs_ok hx hp hq
  have hx1 := hx.kp k1 rfl
  have r1 : m1.1 44 = m.1 44 := k1.row 44 rfl
  obtain ⟨m2, e2, k2⟩ := countsAs_ok hx1 hq hp
  have hx2 := hx1.kp k2 rfl
  have r2 : m2.1 44 = m.1 44 := (k2.row 44 rfl).trans r1
  rw [e1, bd_s, show ((_, m1) : Int32 × am_m).2 = m1 from rfl, e2, bd_s, r1]
  obtain ⟨x, hx9, ex⟩ := sp_cnt_nat (lw := lw) hx.1 hp hq
  obtain ⟨y, hy9, ey⟩ := sp_cnt_nat (lw := lw) hx.1 hq hp
  have es : sp_may (m.1 44 0) lw p q = (!sp_bar (m.1 44 0) lw p q && (!sp_bar (m.1 44 0) lw q p && decide (0 < x + y))) := by
    unfold sp_may
    rw [ex, ey, nv_nI (by omega), nv_nI (by omega)]
  rw [es, ex, ey]
  show ∃ m', (if nI x + nI y ≤ 0 then some ((0 : Int32), m2) else _) = _ ∧ _
  rw [nI_add]
  by_cases h0 : x + y = 0
  · rw [h0, if_pos (by decide)]
    refine ⟨m2, ?_, k1.tr k2⟩
    cases sp_bar (m.1 44 0) lw p q <;> cases sp_bar (m.1 44 0) lw q p <;> rfl
  · rw [if_neg (show ¬ nI (x + y) ≤ 0 from nI_nle (by omega) (by omega))]
    obtain ⟨m3, e3, k3⟩ := barsOff_ok hx2 hp hq
    have hx3 := hx2.kp k3 rfl
    have r3 : m3.1 44 = m.1 44 := (k3.row 44 rfl).trans r2
    obtain ⟨m4, e4, k4⟩ := barsOff_ok hx3 hq hp
    rw [show ((_, m2) : Int32 × am_m).2 = m2 from rfl, e3, bd_s, r2]
    have d0 : decide (0 < x + y) = true := decide_eq_true (by omega)
    rw [d0]
    cases hb : sp_bar (m.1 44 0) lw p q with
    | true =>
      rw [if_pos (show (if true = true then (1 : Int32) else 0) ≠ 0 by decide)]
      exact ⟨m3, rfl, (k1.tr k2).tr k3⟩
    | false =>
      rw [if_neg (show ¬ (if false = true then (1 : Int32) else 0) ≠ 0 by decide), show ((_, m3) : Int32 × am_m).2 = m3 from rfl, e4, bd_s, r3]
      cases hb2 : sp_bar (m.1 44 0) lw q p with
      | true =>
        rw [if_pos (show (if true = true then (1 : Int32) else 0) ≠ 0 by decide)]
        exact ⟨m4, rfl, ((k1.tr k2).tr k3).tr k4⟩
      | false =>
        rw [if_neg (show ¬ (if false = true then (1 : Int32) else 0) ≠ 0 by decide)]
        exact ⟨m4, rfl, ((k1.tr k2).tr k3).tr k4⟩
theorem hungersBy_ok (hx : rfx D lw m) (hp : p < 7) : ∃ m', fn_X10_hungersBy (nI p) m = some (sp_hun (m.1 44 0) lw p (m.1 44 0 (7 + p)) (m.1 44 0 4), m') ∧ am_kp kI kL 0 m m' := by
  unfold fn_X10_hungersBy
  obtain ⟨m', e1, e2⟩ := tells1_ok (h := 2) (w := 1) (size := -1) hx (by decide) hp
  have e1 : fn_X10_tells 2 (nI p) (-1) (-1) 1 m = _ := e1
  rw [e1, bd_s, bounded_ok, bd_s]
  refine ⟨m', ?_, e2⟩
  unfold sp_hun
  cases lw_tell lw 2 (ew1 p (m.1 44 0 (7 + p)) (-1) (m.1 44 0 4) (m.1 44 0 6)) with
  | some v => rfl
  | none =>
    show some (cap9 1, m') = _
    rw [show cap9 1 = 1 by decide]
    rfl
theorem feedsAt_ok {size : Int32} (hx : rfx D lw m) (hp : p < 7) : ∃ m', fn_X10_feedsAt (nI p) size m = some (sp_fee (m.1 44 0) lw p size, m') ∧ am_kp kI kL 0 m m' := by
  unfold fn_X10_feedsAt
  obtain ⟨m', e1, e2⟩ := tells1_ok (h := 1) (w := 2) (size := size) hx (by decide) hp
  have e1 : fn_X10_tells 1 (nI p) (-1) size 2 m = _ := e1
  rw [e1, bd_s, bounded_ok, bd_s]
  refine ⟨m', ?_, e2⟩
  unfold sp_fee
  cases lw_tell lw 1 (ew1 p (m.1 44 0 (7 + p)) size (m.1 44 0 4) (m.1 44 0 6)) with
  | some v => rfl
  | none =>
    show some (cap9 2, m') = _
    rw [show cap9 2 = 2 by decide]
    rfl
end RFJ
