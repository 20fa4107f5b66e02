/-! who is fed: feasts, days -/
/-- the first i of them are fed f -/
def fedI (r : Nat → Int32) (f : Nat → Nat) (i : Nat) : Nat → Int32 := fun k => if 7 ≤ k ∧ k < 7 + i then nI (f (k - 7)) else r k
def pasF (r : Nat → Int32) (lw : lw_T) (p : Nat) : Nat := nv (r (7 + p)) - nv (sp_hun r lw p (r (7 + p)) (r 4))
def feaF (r : Nat → Int32) (lw : lw_T) (s p : Nat) : Nat := if s.testBit p then min 9 (nv (r (7 + p)) + nv (sp_fee r lw p (nI (pc s)))) else nv (r (7 + p))
def dayS (r : Nat → Int32) : Nat → Int32 := fun k => if k = 4 then nI (nv (r 4) + 1) else r k
def passS (r : Nat → Int32) (lw : lw_T) : Nat → Int32 := dayS (fedI r (pasF r lw) (nv (r 0)))
def feastS (r : Nat → Int32) (lw : lw_T) (s : Nat) : Nat → Int32 := fedI r (feaF r lw s) (nv (r 0))
section FD
variable {m : am_m} {lw : lw_T} {D u i : Nat} {r : Nat → Int32} {f : Nat → Nat}
theorem fedI_0 : fedI r f 0 = r := by
  funext k
  unfold fedI
  rw [if_neg (by omega)]
theorem fedI_s (k : Nat) : fedI r f (i + 1) k = if k = 7 + i then nI (f i) else fedI r f i k := by
  unfold fedI
  by_cases e : k = 7 + i
  · rw [if_pos e, if_pos (by omega), e, Nat.add_sub_cancel_left]
  · rw [if_neg e]
    exact if_iff (by omega)
theorem fedI_out {k : Nat} (hk : k < 7 ∨ 7 + i ≤ k) : fedI r f i k = r k := by
  unfold fedI
  rw [if_neg (by omega)]
theorem fedI_W (hW : iv_W D r) (hf : ∀ p, p < 7 → f p ≤ 9) : ∀ i, i ≤ 7 → iv_W D (fedI r f i)
  | 0, _ => by rw [fedI_0]; exact hW
  | i + 1, hi => (fedI_W hW hf i (by omega)).set (k := 7 + i) (x := f i) (fun j => fedI_s j) (by have := hf i (by omega); omega) (by omega) (by omega) (by omega) (by omega) (by omega) (by omega) (fun _ _ => hf i (by omega)) (by omega) (by omega) (by omega)
theorem iv_U.fed {p : Nat} {v : Int32} {r' : Nat → Int32} (h : iv_U m u r) (hp : p < 7) (he : ∀ k, r' k = if k = 7 + p then v else r k) : iv_U (am_si m 36 u p v) u r' := by
  have ho : ∀ k, k ≠ 7 + p → r' k = r k := fun k h1 => by rw [he, if_neg h1]
  have g : ∀ c, c ≠ 36 → (am_si m 36 u p v).1 c u = m.1 c u := fun c h1 => u3_row c u (Or.inl h1)
  unfold iv_U
  rw [g 8 (by decide), g 37 (by decide), g 38 (by decide), g 39 (by decide), g 40 (by decide)]
  refine iv_V.ch h (fun k hk => Or.inl ⟨rfl, ho k (by omega)⟩) (fun k hk => Or.inl ⟨rfl, ho _ (by omega)⟩) (fun k hk => ?_) (fun k hk => Or.inl ⟨rfl, rfl, ho _ (by omega), ho _ (by omega)⟩) (fun k hk => Or.inl ⟨rfl, ho _ (by omega)⟩)
  by_cases e : k = p
  · subst e
    exact Or.inr (by rw [rd_j, if_pos rfl, he, if_pos rfl])
  · exact Or.inl ⟨by rw [rd_j, if_neg e], ho _ (by omega)⟩
theorem iv_U.day {v : Int32} {r' : Nat → Int32} (h : iv_U m u r) (he : ∀ k, r' k = if k = 4 then v else r k) : iv_U (am_si m 39 u 0 v) u r' := by
  have ho : ∀ k, k ≠ 4 → r' k = r k := fun k h1 => by rw [he, if_neg h1]
  have g : ∀ c, c ≠ 39 → (am_si m 39 u 0 v).1 c u = m.1 c u := fun c h1 => u3_row c u (Or.inl h1)
  unfold iv_U
  rw [g 8 (by decide), g 36 (by decide), g 37 (by decide), g 38 (by decide), g 40 (by decide)]
  refine iv_V.ch h (fun k hk => Or.inl ⟨rfl, ho k (by omega)⟩) (fun k hk => ?_) (fun k hk => Or.inl ⟨rfl, ho _ (by omega)⟩) (fun k hk => Or.inl ⟨rfl, rfl, ho _ (by omega), ho _ (by omega)⟩) (fun k hk => Or.inl ⟨rfl, ho _ (by omega)⟩)
  by_cases e : k = 0
  · subst e
    exact Or.inr (by rw [rd_j, if_pos rfl, he, if_pos rfl])
  · exact Or.inl ⟨by rw [rd_j, if_neg e], ho _ (by omega)⟩
theorem dayS_W {D' : Nat} (hW : iv_W D r) (hD : D ≤ D') (h4 : nv (r 4) + 1 ≤ D') (hB : D' < 2 ^ 30) : iv_W D' (dayS r) := by
  have hW' : iv_W D' r := by
    obtain ⟨w1, w2, w3, w4, w5, w6, w7, w8, w9, w10, w11, w12⟩ := hW
    exact ⟨w1, w2, w3, w4, w5, by omega, w7, w8, w9, w10, fun k hk => by have := w11 k hk; omega, w12⟩
  exact hW'.set (k := 4) (x := nv (r 4) + 1) (fun j => rfl) (by omega) (by omega) (by omega) (by omega) (fun _ => h4) (by omega) (by omega) (by omega) (by omega) (by omega) (by omega)
theorem pasF_9 (hW : iv_W D r) (p : Nat) (hp : p < 7) : pasF r lw p ≤ 9 := by
  have := hW.2.2.2.2.2.2.2.2.1 p hp
  unfold pasF
  omega
theorem feaF_9 {s : Nat} (hW : iv_W D r) (p : Nat) (hp : p < 7) : feaF r lw s p ≤ 9 := by
  have := hW.2.2.2.2.2.2.2.2.1 p hp
  unfold feaF
  by_cases hb : s.testBit p = true
  · rw [if_pos hb]; omega
  · rw [if_neg hb]; exact this
theorem passS_W {D' : Nat} (hW : iv_W D r) (hD : D ≤ D') (h4 : nv (r 4) + 1 ≤ D') (hB : D' < 2 ^ 30) : iv_W D' (passS r lw) := by
  refine dayS_W (fedI_W hW (pasF_9 hW) _ hW.n7) hD ?_ hB
  rw [fedI_out (by omega)]
  exact h4
theorem feastS_W {s : Nat} (hW : iv_W D r) : iv_W D (feastS r lw s) := fedI_W hW (feaF_9 hW) _ hW.n7
theorem cp_add : ∀ a, a < 10 → ∀ b, b < 10 → cap9 ((nI a + nI b).toInt64) = nI (min 9 (a + b)) := by decide +kernel
theorem cp_sub : ∀ a, a < 10 → ∀ b, b < 10 → cap9 ((nI a - nI b).toInt64) = nI (a - b) := by decide +kernel
theorem mn_add : ∀ a, a < 10 → ∀ b, b < 10 → (if nI a + nI b < 9 then nI a + nI b else (9 : Int32)) = nI (min 9 (a + b)) := by decide +kernel
theorem mx_sub : ∀ a, a < 10 → ∀ b, b < 10 → (if (0 : Int32) < nI a - nI b then nI a - nI b else (0 : Int32)) = nI (a - b) := by decide +kernel
theorem fed_rng (hW : iv_W D r) {p : Nat} (hp : p < 7) : -1000000 ≤ (r (7 + p)).toInt ∧ (r (7 + p)).toInt ≤ 1000000 := by
  rw [hW.k (k := 7 + p) (by omega) (by omega)]
  exact nI_small (by have := hW.2.2.2.2.2.2.2.2.1 p hp; omega)
theorem day_rng (hW : iv_W D r) (hD : D ≤ 100000) : -1000000 ≤ (r 4).toInt ∧ (r 4).toInt ≤ 1000000 := by
  rw [hW.k (k := 4) (by omega) (by omega)]
  exact nI_small (by have := hW.2.2.2.2.2.1; omega)
theorem mood_rng (hW : iv_W D r) : -1000000 ≤ (r 6).toInt ∧ (r 6).toInt ≤ 1000000 := by
  rw [hW.k (k := 6) (by omega) (by omega)]
  exact nI_small (by have := hW.2.2.2.2.2.2.2.1; omega)
/-- a day passes, by the class -/
theorem cpass_ok (h : jdx D u r lw m) (hD : D ≤ 100000) : ∃ m', fn_X1_passDay m = some m' ∧ m'.2.2.1 0 = some u ∧ iv_U m' u (passS r lw) ∧ jd_law m' lw ∧ ∀ v, v ≠ u → sm_U m m' v := by
  obtain ⟨hn, h7⟩ := h.n
  have hW := h.2.2.1
  have hd := day_rng hW hD
  have key : ∃ m1, lp_X1_passDay_2 1000000 0 m = some m1 ∧ (jdx D u (fedI r (pasF r lw) (nv (r 0))) lw m1 ∧ ∀ v, v ≠ u → sm_U m m1 v) := by
    refine lp_up0 (fun N x a => lp_X1_passDay_2 N x a) (fun i m1 => jdx D u (fedI r (pasF r lw) i) lw m1 ∧ ∀ v, v ≠ u → sm_U m m1 v) _ (nv (r 0)) (by omega) (fun N m1 hh => ⟨m1, ?_, hh⟩) (fun N i m1 hi hh => Or.inl ?_) m ⟨by rw [fedI_0]; exact h, fun v _ => ⟨rfl, rfl, rfl, rfl, rfl, rfl⟩⟩
    · show lp_X1_passDay_2 (N + 1) (nI (nv (r 0))) m1 = _
      have e0 := hh.1.n.1
      rw [fedI_out (by omega)] at e0
      rw [lp_X1_passDay_2.eq_2, hh.1.1, bd_s, e0, if_pos (nI_le (Nat.le_refl _) (by omega))]
    · obtain ⟨j1, u1⟩ := hh
      have e0 := j1.n.1
      rw [fedI_out (by omega)] at e0
      have ef : m1.1 36 u i = r (7 + i) := by rw [j1.2.1.2.2.2.2.2.1 i (by omega), fedI_out (by omega)]
      have ed : m1.1 39 u 0 = r 4 := by rw [j1.2.1.2.2.2.2.1 0 (by omega), fedI_out (by omega)]
      obtain ⟨m2, e2, k2⟩ := hungerOf_ok (fed := r (7 + i)) (day := r 4) j1 (show i < 7 by omega) (fed_rng hW (by omega)) hd
      have es : sp_hun (fedI r (pasF r lw) i) lw i (r (7 + i)) (r 4) = sp_hun r lw i (r (7 + i)) (r 4) := by
        unfold sp_hun
        rw [fedI_out (by omega)]
      rw [es] at e2
      obtain ⟨x, hx, ex⟩ := sp_hun_nat (r := r) (lw := lw) (p := i) (fed := r (7 + i)) (day := r 4)
      have h9 := hW.2.2.2.2.2.2.2.2.1 i (by omega)
      have eW := hW.k (k := 7 + i) (by omega) (by omega)
      have epas : nI (nv (r (7 + i)) - x) = nI (pasF r lw i) := by unfold pasF; rw [ex, nv_nI (by omega)]
      have j2 := j1.kp k2 rfl
      have U3 := j2.2.1.fed (p := i) (v := nI (pasF r lw i)) (r' := fedI r (pasF r lw) (i + 1)) (by omega) (fun k => fedI_s k)
      have k3 : am_kp [(36, 0)] [] 0 m2 (am_si m2 36 u i (nI (pasF r lw i))) := am_kp.si am_kp.rf rfl
      refine ⟨am_si m2 36 u i (nI (pasF r lw i)), ?_, ⟨j2.1, U3, fedI_W hW (pasF_9 hW) _ (by omega), j2.2.2.2.kp k3 rfl⟩, fun v hv => (u1 v hv).tr ((sm_U.kp k2 rfl v).tr (sm_U.si (m := m2) 36 u i _ v (Or.inl (Ne.symm hv))))⟩
      show lp_X1_passDay_2 (N + 1) (nI i) m1 = lp_X1_passDay_2 N (nI (i + 1)) _
      rw [lp_X1_passDay_2.eq_2]
      simp only [j1.1, bd_s]
      rw [e0, if_neg (nI_ge hi (by omega)), ck_in (by omega) (by decide), ck_in (by omega) (by decide), nI_clamp (by omega), ef, ed, e2, bd_s, ex, eW]
      unfold fn_J9_max_7cf53
      dsimp only
      have := mx_sub (nv (r (7 + i))) (by omega) x (by omega)
      by_cases hc : (0 : Int32) < nI (nv (r (7 + i))) - nI x
      · rw [if_pos hc] at this ⊢
        rw [bd_s, this, epas, ck_in (by omega) (by decide), nI_1]
      · rw [if_neg hc] at this ⊢
        rw [bd_s, this, epas, ck_in (by omega) (by decide), nI_1]
  obtain ⟨m1, e1, j1, u1⟩ := key
  have ed : m1.1 39 u 0 = r 4 := by rw [j1.2.1.2.2.2.2.1 0 (by omega), fedI_out (by omega)]
  have e4 := hW.k (k := 4) (by decide) (by decide)
  have k3 : am_kp [(39, 0)] [] 0 m1 (am_si m1 39 u 0 (nI (nv (r 4) + 1))) := am_kp.si am_kp.rf rfl
  refine ⟨am_si m1 39 u 0 (nI (nv (r 4) + 1)), ?_, j1.1, ?_, j1.2.2.2.kp k3 rfl, fun v hv => (u1 v hv).tr (sm_U.si (m := m1) 39 u 0 _ v (Or.inl (Ne.symm hv)))⟩
  · unfold fn_X1_passDay
    rw [e1, bd_s, j1.1, bd_s, ed, e4, nI_1, nv_nI (nv_lt _)]
  · refine j1.2.1.day (fun k => ?_)
    unfold passS dayS
    rw [fedI_out (r := r) (k := 4) (by omega)]
/-- a day passes, by the reference -/
theorem rpass_ok (hx : rfx D lw m) : ∃ m', fn_X10_passIt m = some m' ∧ m'.1 44 0 = passS (m.1 44 0) lw := by
  generalize er : m.1 44 0 = r
  have hW : iv_W D r := by rw [← er]; exact hx.1
  have h7 := hW.n7
  have h0 := hW.r0
  have key : ∃ m1, lp_X10_passIt_2 1000000 0 m = some m1 ∧ (rfx D lw m1 ∧ m1.1 44 0 = r ∧ ∀ p, p < nv (r 0) → m1.1 56 0 p = sp_hun r lw p (r (7 + p)) (r 4)) := by
    refine lp_up0 (fun N x a => lp_X10_passIt_2 N x a) (fun i m1 => rfx D lw m1 ∧ m1.1 44 0 = r ∧ ∀ p, p < i → m1.1 56 0 p = sp_hun r lw p (r (7 + p)) (r 4)) _ (nv (r 0)) (by omega) (fun N m1 hh => ⟨m1, ?_, hh⟩) (fun N i m1 hi hh => Or.inl ?_) m ⟨hx, er, fun p hp => absurd hp (Nat.not_lt_zero _)⟩
    · show lp_X10_passIt_2 (N + 1) (nI (nv (r 0))) m1 = _
      rw [lp_X10_passIt_2.eq_2, hh.2.1, if_pos (by rw [h0, nv_nI (nv_lt _)]; exact nI_le (Nat.le_refl _) (nv_lt _))]
    · obtain ⟨x1, r1, c1⟩ := hh
      obtain ⟨m2, e2, k2⟩ := hungersBy_ok x1 (show i < 7 by omega)
      rw [r1] at e2
      refine ⟨am_si m2 56 0 i (sp_hun r lw i (r (7 + i)) (r 4)), ?_, (x1.kp k2 rfl).kp (WI := [(56, 0)]) (WL := []) (E := 0) (am_kp.si am_kp.rf rfl) rfl, ?_, fun p hp => ?_⟩
      · show lp_X10_passIt_2 (N + 1) (nI i) m1 = lp_X10_passIt_2 N (nI (i + 1)) _
        rw [lp_X10_passIt_2.eq_2, r1, if_neg (by rw [h0]; exact nI_ge hi (by omega)), e2, bd_s, ck_in (by omega) (by decide), nI_clamp (by omega), nI_1]
      · show m2.1 44 0 = r
        rw [k2.row 44 rfl]; exact r1
      · rw [rd_j]
        by_cases e : p = i
        · rw [if_pos e, e]
        · rw [if_neg e, k2.row 56 rfl]; exact c1 p (by omega)
  obtain ⟨m1, e1, x1, r1, c1⟩ := key
  have key2 : ∃ m2, lp_X10_passIt_31 1000000 0 m1 = some m2 ∧ m2.1 44 0 = fedI r (pasF r lw) (nv (r 0)) := by
    refine (lp_up0 (fun N x a => lp_X10_passIt_31 N x a) (fun i m2 => m2.1 44 0 = fedI r (pasF r lw) i ∧ m2.1 56 = m1.1 56) (fun m2 => m2.1 44 0 = fedI r (pasF r lw) (nv (r 0))) (nv (r 0)) (by omega) (fun N m2 hh => ⟨m2, ?_, hh.1⟩) (fun N i m2 hi hh => Or.inl ?_) m1 ⟨by rw [fedI_0]; exact r1, rfl⟩)
    · show lp_X10_passIt_31 (N + 1) (nI (nv (r 0))) m2 = _
      rw [lp_X10_passIt_31.eq_2, hh.1, fedI_out (by omega), if_pos (by rw [h0, nv_nI (nv_lt _)]; exact nI_le (Nat.le_refl _) (nv_lt _))]
    · obtain ⟨x, hx9, ex⟩ := sp_hun_nat (r := r) (lw := lw) (p := i) (fed := r (7 + i)) (day := r 4)
      have h9 := hW.2.2.2.2.2.2.2.2.1 i (by omega)
      have eW := hW.k (k := 7 + i) (by omega) (by omega)
      refine ⟨am_si m2 44 0 (7 + i) (nI (pasF r lw i)), ?_, funext (fun k => ?_), hh.2⟩
      · show lp_X10_passIt_31 (N + 1) (nI i) m2 = lp_X10_passIt_31 N (nI (i + 1)) _
        rw [lp_X10_passIt_31.eq_2, hh.1, fedI_out (k := 0) (by omega), if_neg (by rw [h0]; exact nI_ge hi (by omega)), show (7 : Int32) = nI 7 from rfl, nI_add, ck_in (by omega) (by decide), ck_in (by omega) (by decide), nI_clamp (by omega), nI_clamp (by omega), fedI_out (by omega), hh.2, c1 i hi, ex, eW, bounded_ok, bd_s, cp_sub _ (by omega) _ (by omega), nI_1]
        rw [show nI (nv (r (7 + i)) - x) = nI (pasF r lw i) by unfold pasF; rw [ex, nv_nI (by omega)]]
        rw [ck_in (by omega) (by decide)]
      · rw [rd_j, fedI_s, hh.1]
  obtain ⟨m2, e2, r2⟩ := key2
  have e4 := hW.k (k := 4) (by decide) (by decide)
  refine ⟨am_si m2 44 0 4 (nI (nv (r 4) + 1)), ?_, funext (fun k => ?_)⟩
  · unfold fn_X10_passIt
    rw [e1, bd_s, e2, bd_s, r2, fedI_out (by omega), e4, nI_1, nv_nI (nv_lt _)]
  · rw [rd_j, r2]
    unfold passS dayS
    rw [fedI_out (r := r) (k := 4) (by omega)]
end FD
