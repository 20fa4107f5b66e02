/-! who may sit with whom, as the class lays it out -/
section LOOK
variable {m : am_m} {lw : lw_T} {D u n p q : Nat} {r : Nat → Int32}
theorem cmay_ok (h : jdx D u r lw m) (hD : D ≤ 100000) (hp : p < nv (r 0)) (hq : q < nv (r 0)) : ∃ m', fn_X1_maySit (nI p) (nI q) m = some (bv (mtx r lw p q), m') ∧ am_kp [(20, 0)] [(80, 0)] 0 m m' := by
  by_cases e : p = q
  · subst e
    refine ⟨m, ?_, am_kp.rf⟩
    unfold fn_X1_maySit
    rw [if_neg (fun z => z rfl), mtx_irr]
    rfl
  · obtain ⟨m', e1, e2⟩ := cmaySit_ok h hD hp hq e
    refine ⟨m', ?_, e2⟩
    rw [e1, mtx_ne e]
    rfl
theorem companions_ok (h : jdx D u r lw m) (hD : D ≤ 100000) (hp : p < nv (r 0)) : ∃ m', fn_X1_companions (nI p) m = some (nI (sx (mtx r lw p) (nv (r 0))), m') := by
  have h7 := h.n.2
  refine (lp_up0 (fun N x (a : Int32 × am_m) => lp_X1_companions_4 N (nI p) a.1 x a.2) (fun i a => jdx D u r lw a.2 ∧ a.1 = nI (sx (mtx r lw p) i)) (fun b => b.1 = nI (sx (mtx r lw p) (nv (r 0)))) (nv (r 0)) (by omega) (fun N a hh => ⟨a, ?_, hh.2⟩) (fun N i a hi hh => Or.inl ?_) (0, m) ⟨h, rfl⟩).elim (fun b he => ?_)
  · show lp_X1_companions_4 (N + 1) (nI p) a.1 (nI (nv (r 0))) a.2 = _
    rw [lp_X1_companions_4.eq_2, hh.1.1, bd_s, hh.1.n.1, if_pos (nI_le (Nat.le_refl _) (by omega))]
  · obtain ⟨m2, e2, k2⟩ := cmay_ok hh.1 hD hp hi
    refine ⟨(nI (sx (mtx r lw p) (i + 1)), m2), ?_, hh.1.kp k2 rfl, rfl⟩
    show lp_X1_companions_4 (N + 1) (nI p) a.1 (nI i) a.2 = lp_X1_companions_4 N (nI p) _ (nI (i + 1)) m2
    rw [lp_X1_companions_4.eq_2, hh.1.1, bd_s, hh.1.n.1, if_neg (nI_ge hi (by omega)), e2, bd_s, nI_1, hh.2]
    cases hm : mtx r lw p i with
    | false => rw [sx_stepn hm]; rfl
    | true => rw [← sx_stepy hm (by omega)]; rfl
  · obtain ⟨v, m'⟩ := b
    obtain ⟨e, q⟩ := he
    refine ⟨m', ?_⟩
    unfold fn_X1_companions
    rw [show lp_X1_companions_4 1000000 (nI p) 0 0 m = _ from e]
    have q : v = _ := q
    rw [q]
    rfl
theorem lka_z (h : jdx D u r lw m) (hn : m.1 6 0 0 = nI (nv (r 0))) : ∃ m', lp_X6_lookAt_15 1000000 0 m = some m' ∧ (jdx D u r lw m' ∧ m'.1 6 0 0 = nI (nv (r 0)) ∧ ∀ a, a < nv (r 0) → m'.1 30 0 a = 0) := by
  have h7 := h.n.2
  refine lp_up0 (fun N x a => lp_X6_lookAt_15 N x a) (fun i m1 => jdx D u r lw m1 ∧ m1.1 6 0 0 = nI (nv (r 0)) ∧ ∀ a, a < i → m1.1 30 0 a = 0) _ (nv (r 0)) (by omega) (fun N m1 hh => ⟨m1, ?_, hh⟩) (fun N i m1 hi hh => Or.inl ⟨am_si m1 30 0 i 0, ?_, ?_, ?_, fun a ha => ?_⟩) m ⟨h, hn, fun a ha => absurd ha (Nat.not_lt_zero _)⟩
  · show lp_X6_lookAt_15 (N + 1) (nI (nv (r 0))) m1 = _
    rw [lp_X6_lookAt_15.eq_2, hh.2.1, if_pos (nI_le (Nat.le_refl _) (by omega))]
  · show lp_X6_lookAt_15 (N + 1) (nI i) m1 = lp_X6_lookAt_15 N (nI (i + 1)) _
    rw [lp_X6_lookAt_15.eq_2, hh.2.1, if_neg (nI_ge hi (by omega)), ck_in (by omega) (by decide), nI_clamp (by omega), nI_1]
  · exact hh.1.kp (WI := [(30, 0)]) (WL := []) (am_kp.si am_kp.rf rfl) rfl
  · exact hh.2.1
  · rw [rd_j]
    by_cases e : a = i
    · rw [if_pos e]
    · rw [if_neg e]; exact hh.2.2 a (by omega)
theorem lka_i (h : jdx D u r lw m) (hD : D ≤ 100000) (hn : m.1 6 0 0 = nI (nv (r 0))) (hp : p < nv (r 0)) (hr : rowsP 30 (nv (r 0)) (mtx r lw) p (p + 1) m) : ∃ m', lp_X6_lookAt_50 1000000 (nI p) (nI (p + 1)) m = some m' ∧ (jdx D u r lw m' ∧ m'.1 6 0 0 = nI (nv (r 0)) ∧ rowsP 30 (nv (r 0)) (mtx r lw) (p + 1) (p + 2) m') := by
  have h7 := h.n.2
  refine lp_up (fun N x a => lp_X6_lookAt_50 N (nI p) x a) (fun i m1 => jdx D u r lw m1 ∧ m1.1 6 0 0 = nI (nv (r 0)) ∧ rowsP 30 (nv (r 0)) (mtx r lw) p i m1 ∧ p < i) _ (nv (r 0)) (fun N m1 hh => ⟨m1, ?_, hh.1, hh.2.1, hh.2.2.1.to (fun a b ha hb _ => by unfold vis; omega)⟩) (fun N i m1 hi hh0 => Or.inl ?_) (nv (r 0) - (p + 1)) (p + 1) 1000000 m (by omega) (by omega) ⟨h, hn, hr, by omega⟩
  · show lp_X6_lookAt_50 (N + 1) (nI p) (nI (nv (r 0))) m1 = _
    rw [lp_X6_lookAt_50.eq_2, hh.2.1, if_pos (nI_le (Nat.le_refl _) (by omega))]
  have hpi' := hh0.2.2.2
  have hh : jdx D u r lw m1 ∧ m1.1 6 0 0 = nI (nv (r 0)) ∧ rowsP 30 (nv (r 0)) (mtx r lw) p i m1 := ⟨hh0.1, hh0.2.1, hh0.2.2.1⟩
  suffices hw : ∃ m2, lp_X6_lookAt_50 (N + 1) (nI p) (nI i) m1 = lp_X6_lookAt_50 N (nI p) (nI (i + 1)) m2 ∧ (p < i → jdx D u r lw m2 ∧ m2.1 6 0 0 = nI (nv (r 0)) ∧ rowsP 30 (nv (r 0)) (mtx r lw) p (i + 1) m2) by
    obtain ⟨m2, w1, w2⟩ := hw
    obtain ⟨w3, w4, w5⟩ := w2 hpi'
    exact ⟨m2, w1, w3, w4, w5, by omega⟩
  · obtain ⟨m2, e2, k2⟩ := cmay_ok hh.1 hD hp hi
    have j2 := hh.1.kp k2 rfl
    have r2 := hh.2.2.of (k2.row 30 rfl)
    have f2 : m2.1 6 0 0 = nI (nv (r 0)) := by rw [k2.fld 6 0 0 rfl]; exact hh.2.1
    cases hm : mtx r lw p i with
    | false =>
      refine ⟨m2, ?_, fun _ => ⟨j2, f2, r2.skip hm (by rw [mtx_comm]; exact hm)⟩⟩
      show lp_X6_lookAt_50 (N + 1) (nI p) (nI i) m1 = lp_X6_lookAt_50 N (nI p) (nI (i + 1)) m2
      rw [lp_X6_lookAt_50.eq_2, hh.2.1, if_neg (nI_ge hi (by omega)), e2, bd_s, hm]
      dsimp only
      rw [if_pos (show bv false = 0 from rfl), bd_s, nI_1]
    | true =>
      have w := r2.step h7 hpi' hi hm (by rw [mtx_comm]; exact hm)
      refine ⟨_, ?_, fun _ => ⟨j2.kp (WI := [(30, 0)]) (WL := []) (am_kp.si (am_kp.si am_kp.rf rfl) rfl) rfl, ?_, w⟩⟩
      rotate_left; · exact f2
      show lp_X6_lookAt_50 (N + 1) (nI p) (nI i) m1 = lp_X6_lookAt_50 N (nI p) (nI (i + 1)) _
      rw [lp_X6_lookAt_50.eq_2, hh.2.1, if_neg (nI_ge hi (by omega)), e2, bd_s, hm]
      dsimp only
      rw [if_neg (show ¬ bv true = 0 by decide), ck_in (by omega) (by decide), ck_in (by omega) (by decide), ck_in (by omega) (by decide), ck_in (by omega) (by decide), bd_s, nI_1, nI_clamp (by omega), nI_clamp (by omega)]
theorem lka_o (h : jdx D u r lw m) (hD : D ≤ 100000) (hn : m.1 6 0 0 = nI (nv (r 0))) (hz : ∀ a, a < nv (r 0) → m.1 30 0 a = 0) : ∃ m', lp_X6_lookAt_38 1000000 0 m = some m' ∧ (jdx D u r lw m' ∧ m'.1 6 0 0 = nI (nv (r 0)) ∧ ∀ a, a < nv (r 0) → m'.1 30 0 a = nI (sx (mtx r lw a) (nv (r 0)))) := by
  have h7 := h.n.2
  refine lp_up0 (fun N x a => lp_X6_lookAt_38 N x a) (fun i m1 => jdx D u r lw m1 ∧ m1.1 6 0 0 = nI (nv (r 0)) ∧ rowsP 30 (nv (r 0)) (mtx r lw) i (i + 1) m1) _ (nv (r 0)) (by omega) (fun N m1 hh => ⟨m1, ?_, hh.1, hh.2.1, hh.2.2.fin (mtx_irr r lw)⟩) (fun N i m1 hi hh => Or.inl ?_) m ⟨h, hn, rowsP.zero hz⟩
  · show lp_X6_lookAt_38 (N + 1) (nI (nv (r 0))) m1 = _
    rw [lp_X6_lookAt_38.eq_2, hh.2.1, if_pos (nI_le (Nat.le_refl _) (by omega))]
  · obtain ⟨m2, e2, q2⟩ := lka_i hh.1 hD hh.2.1 hi hh.2.2
    refine ⟨m2, ?_, q2⟩
    show lp_X6_lookAt_38 (N + 1) (nI i) m1 = lp_X6_lookAt_38 N (nI (i + 1)) m2
    rw [lp_X6_lookAt_38.eq_2, hh.2.1, if_neg (nI_ge hi (by omega)), nI_1, e2, bd_s]
theorem lkb_z (h : jdx D u r lw m) (hn : m.1 6 0 0 = nI (nv (r 0))) : ∃ m', lp_X6_lookAtBars_2 1000000 0 m = some m' ∧ (jdx D u r lw m' ∧ m'.1 6 0 0 = nI (nv (r 0)) ∧ ∀ a, a < nv (r 0) → m'.1 31 0 a = 0) := by
  have h7 := h.n.2
  refine lp_up0 (fun N x a => lp_X6_lookAtBars_2 N x a) (fun i m1 => jdx D u r lw m1 ∧ m1.1 6 0 0 = nI (nv (r 0)) ∧ ∀ a, a < i → m1.1 31 0 a = 0) _ (nv (r 0)) (by omega) (fun N m1 hh => ⟨m1, ?_, hh⟩) (fun N i m1 hi hh => Or.inl ⟨am_si m1 31 0 i 0, ?_, ?_, ?_, fun a ha => ?_⟩) m ⟨h, hn, fun a ha => absurd ha (Nat.not_lt_zero _)⟩
  · show lp_X6_lookAtBars_2 (N + 1) (nI (nv (r 0))) m1 = _
    rw [lp_X6_lookAtBars_2.eq_2, hh.2.1, if_pos (nI_le (Nat.le_refl _) (by omega))]
  · show lp_X6_lookAtBars_2 (N + 1) (nI i) m1 = lp_X6_lookAtBars_2 N (nI (i + 1)) _
    rw [lp_X6_lookAtBars_2.eq_2, hh.2.1, if_neg (nI_ge hi (by omega)), ck_in (by omega) (by decide), nI_clamp (by omega), nI_1]
  · exact hh.1.kp (WI := [(31, 0)]) (WL := []) (am_kp.si am_kp.rf rfl) rfl
  · exact hh.2.1
  · rw [rd_j]
    by_cases e : a = i
    · rw [if_pos e]
    · rw [if_neg e]; exact hh.2.2 a (by omega)
theorem lkb_i (h : jdx D u r lw m) (hD : D ≤ 100000) (hn : m.1 6 0 0 = nI (nv (r 0))) (hp : p < nv (r 0)) (hr : rowsP 31 (nv (r 0)) (atx r lw) p (p + 1) m) : ∃ m', lp_X6_lookAtBars_37 1000000 (nI p) (nI (p + 1)) m = some m' ∧ (jdx D u r lw m' ∧ m'.1 6 0 0 = nI (nv (r 0)) ∧ rowsP 31 (nv (r 0)) (atx r lw) (p + 1) (p + 2) m') := by
  have h7 := h.n.2
  refine lp_up (fun N x a => lp_X6_lookAtBars_37 N (nI p) x a) (fun i m1 => jdx D u r lw m1 ∧ m1.1 6 0 0 = nI (nv (r 0)) ∧ rowsP 31 (nv (r 0)) (atx r lw) p i m1 ∧ p < i) _ (nv (r 0)) (fun N m1 hh => ⟨m1, ?_, hh.1, hh.2.1, hh.2.2.1.to (fun a b ha hb _ => by unfold vis; omega)⟩) (fun N i m1 hi hh0 => Or.inl ?_) (nv (r 0) - (p + 1)) (p + 1) 1000000 m (by omega) (by omega) ⟨h, hn, hr, by omega⟩
  · show lp_X6_lookAtBars_37 (N + 1) (nI p) (nI (nv (r 0))) m1 = _
    rw [lp_X6_lookAtBars_37.eq_2, hh.2.1, if_pos (nI_le (Nat.le_refl _) (by omega))]
  have hpi' := hh0.2.2.2
  have hh : jdx D u r lw m1 ∧ m1.1 6 0 0 = nI (nv (r 0)) ∧ rowsP 31 (nv (r 0)) (atx r lw) p i m1 := ⟨hh0.1, hh0.2.1, hh0.2.2.1⟩
  suffices hw : ∃ m2, lp_X6_lookAtBars_37 (N + 1) (nI p) (nI i) m1 = lp_X6_lookAtBars_37 N (nI p) (nI (i + 1)) m2 ∧ (p < i → jdx D u r lw m2 ∧ m2.1 6 0 0 = nI (nv (r 0)) ∧ rowsP 31 (nv (r 0)) (atx r lw) p (i + 1) m2) by
    obtain ⟨m2, w1, w2⟩ := hw
    obtain ⟨w3, w4, w5⟩ := w2 hpi'
    exact ⟨m2, w1, w3, w4, w5, by omega⟩
  · have hat : p < i → atx r lw p i = (sp_bar r lw p i || sp_bar r lw i p) := fun hpi => by unfold atx; rw [decide_eq_true (by omega)]; rfl
    by_cases hpi : p < i
    · obtain ⟨m2, e2, k2⟩ := isBarred_ok hh.1 hD hp hi (by omega)
      have j2 := hh.1.kp k2 rfl
      have f2 : m2.1 6 0 0 = nI (nv (r 0)) := by rw [k2.fld 6 0 0 rfl]; exact hh.2.1
      have r2 := hh.2.2.of (k2.row 31 rfl)
      cases hb : sp_bar r lw p i with
      | true =>
        rw [hb] at e2
        have hm : atx r lw p i = true := by rw [hat hpi, hb]; rfl
        have w := r2.step h7 hpi' hi hm (by rw [atx_comm]; exact hm)
        refine ⟨_, ?_, fun _ => ⟨j2.kp (WI := [(31, 0)]) (WL := []) (am_kp.si (am_kp.si am_kp.rf rfl) rfl) rfl, ?_, w⟩⟩
        rotate_left; · exact f2
        show lp_X6_lookAtBars_37 (N + 1) (nI p) (nI i) m1 = lp_X6_lookAtBars_37 N (nI p) (nI (i + 1)) _
        rw [lp_X6_lookAtBars_37.eq_2, hh.2.1, if_neg (nI_ge hi (by omega)), e2, bd_s]
        dsimp only
        rw [if_pos (show (if true = true then (1 : Int32) else 0) ≠ 0 by decide), ck_in (by omega) (by decide), ck_in (by omega) (by decide), ck_in (by omega) (by decide), ck_in (by omega) (by decide), bd_s, nI_1, nI_clamp (by omega), nI_clamp (by omega)]
      | false =>
        rw [hb] at e2
        obtain ⟨m3, e3, k3⟩ := isBarred_ok j2 hD hi hp (by omega)
        have j3 := j2.kp k3 rfl
        have f3 : m3.1 6 0 0 = nI (nv (r 0)) := by rw [k3.fld 6 0 0 rfl]; exact f2
        have r3 := r2.of (k3.row 31 rfl)
        cases hb2 : sp_bar r lw i p with
        | true =>
          rw [hb2] at e3
          have hm : atx r lw p i = true := by rw [hat hpi, hb, hb2]; rfl
          have w := r3.step h7 hpi' hi hm (by rw [atx_comm]; exact hm)
          refine ⟨_, ?_, fun _ => ⟨j3.kp (WI := [(31, 0)]) (WL := []) (am_kp.si (am_kp.si am_kp.rf rfl) rfl) rfl, ?_, w⟩⟩
          rotate_left; · exact f3
          show lp_X6_lookAtBars_37 (N + 1) (nI p) (nI i) m1 = lp_X6_lookAtBars_37 N (nI p) (nI (i + 1)) _
          rw [lp_X6_lookAtBars_37.eq_2, hh.2.1, if_neg (nI_ge hi (by omega)), e2, bd_s]
          dsimp only
          rw [if_neg (show ¬ (if false = true then (1 : Int32) else 0) ≠ 0 by decide), e3, bd_s]
          dsimp only
          rw [if_neg (show ¬ (if true = true then (1 : Int32) else 0) = 0 by decide), ck_in (by omega) (by decide), ck_in (by omega) (by decide), ck_in (by omega) (by decide), ck_in (by omega) (by decide), bd_s, nI_1, nI_clamp (by omega), nI_clamp (by omega)]
        | false =>
          rw [hb2] at e3
          have hm : atx r lw p i = false := by rw [hat hpi, hb, hb2]; rfl
          refine ⟨m3, ?_, fun _ => ⟨j3, f3, r3.skip hm (by rw [atx_comm]; exact hm)⟩⟩
          show lp_X6_lookAtBars_37 (N + 1) (nI p) (nI i) m1 = lp_X6_lookAtBars_37 N (nI p) (nI (i + 1)) _
          rw [lp_X6_lookAtBars_37.eq_2, hh.2.1, if_neg (nI_ge hi (by omega)), e2, bd_s]
          dsimp only
          rw [if_neg (show ¬ (if false = true then (1 : Int32) else 0) ≠ 0 by decide), e3, bd_s]
          dsimp only
          rw [if_pos (show (if false = true then (1 : Int32) else 0) = 0 by decide), bd_s, nI_1]
    · exact absurd hpi' hpi
theorem lkb_o (h : jdx D u r lw m) (hD : D ≤ 100000) (hn : m.1 6 0 0 = nI (nv (r 0))) (hz : ∀ a, a < nv (r 0) → m.1 31 0 a = 0) : ∃ m', lp_X6_lookAtBars_25 1000000 0 m = some m' ∧ (jdx D u r lw m' ∧ m'.1 6 0 0 = nI (nv (r 0)) ∧ ∀ a, a < nv (r 0) → m'.1 31 0 a = nI (sx (atx r lw a) (nv (r 0)))) := by
  have h7 := h.n.2
  refine lp_up0 (fun N x a => lp_X6_lookAtBars_25 N x a) (fun i m1 => jdx D u r lw m1 ∧ m1.1 6 0 0 = nI (nv (r 0)) ∧ rowsP 31 (nv (r 0)) (atx r lw) i (i + 1) m1) _ (nv (r 0)) (by omega) (fun N m1 hh => ⟨m1, ?_, hh.1, hh.2.1, hh.2.2.fin (atx_irr r lw)⟩) (fun N i m1 hi hh => Or.inl ?_) m ⟨h, hn, rowsP.zero hz⟩
  · show lp_X6_lookAtBars_25 (N + 1) (nI (nv (r 0))) m1 = _
    rw [lp_X6_lookAtBars_25.eq_2, hh.2.1, if_pos (nI_le (Nat.le_refl _) (by omega))]
  · obtain ⟨m2, e2, q2⟩ := lkb_i hh.1 hD hh.2.1 hi hh.2.2
    refine ⟨m2, ?_, q2⟩
    show lp_X6_lookAtBars_25 (N + 1) (nI i) m1 = lp_X6_lookAtBars_25 N (nI (i + 1)) m2
    rw [lp_X6_lookAtBars_25.eq_2, hh.2.1, if_neg (nI_ge hi (by omega)), nI_1, e2, bd_s]
/-- the rows of the class, behind its look -/
def seats (n : Nat) (M : Nat → Nat → Bool) (m : am_m) : Prop := m.1 6 0 0 = nI n ∧ ∀ a, a < n → m.1 30 0 a = nI (sx (M a) n)
theorem lookAt_ok (h : jdx D u r lw m) (hD : D ≤ 100000) : ∃ m', fn_X6_lookAt m = some m' ∧ jdx D u r lw m' ∧ seats (nv (r 0)) (mtx r lw) m' := by
  have h7 := h.n.2
  have j0 : jdx D u r lw (am_si m 6 0 0 (nI (nv (r 0)))) := h.kp (WI := [(6, 0)]) (WL := []) (am_kp.si am_kp.rf rfl) rfl
  obtain ⟨m1, e1, j1, f1, z1⟩ := lka_z j0 rfl
  obtain ⟨m2, e2, j2, f2, z2⟩ := lka_o j1 hD f1 z1
  refine ⟨m2, ?_, j2, f2, z2⟩
  unfold fn_X6_lookAt fn_X1_folks fn_J9_min_7cf53
  rw [h.1, bd_s, h.n.1, bd_s]
  have e : (if nI (nv (r 0)) < (7 : Int32) then some (nI (nv (r 0))) else some (7 : Int32)) = some (nI (nv (r 0))) := by
    by_cases h : nv (r 0) < 7
    · rw [if_pos (show nI (nv (r 0)) < (7 : Int32) from nI_lt (b := 7) h (by decide))]
    · have e7 : nv (r 0) = 7 := by omega
      rw [e7]
      rfl
  rw [e, bd_s, e1, bd_s, e2, bd_s]
theorem lookAtBars_ok (h : jdx D u r lw m) (hD : D ≤ 100000) (hn : m.1 6 0 0 = nI (nv (r 0))) : ∃ m', fn_X6_lookAtBars m = some m' ∧ ∀ a, a < nv (r 0) → m'.1 31 0 a = nI (sx (atx r lw a) (nv (r 0))) := by
  obtain ⟨m1, e1, j1, f1, z1⟩ := lkb_z h hn
  obtain ⟨m2, e2, j2, f2, z2⟩ := lkb_o j1 hD f1 z1
  refine ⟨m2, ?_, z2⟩
  unfold fn_X6_lookAtBars
  rw [e1, bd_s, e2, bd_s]
end LOOK
/-- both have laid out who may sit with whom -/
theorem lookLive_ok {m : am_m} (h : Inv m) : ∃ lw m1, fn_X9_lookLive m = some m1 ∧ jdx 999 0 (m.1 44 0) lw m1 ∧ seats (nv (m.1 44 0 0)) (mtx (m.1 44 0) lw) m1 ∧ m1.1 44 = m.1 44 ∧ ∀ r : Nat → Int32, r 3 = m.1 44 0 3 → (∀ k, 118 ≤ k → r k = m.1 44 0 k) → rf_law r lw := by
  obtain ⟨lw, m1, e1, j1, f1, k1, l1⟩ := askLive_ok h
  obtain ⟨m2, e2, j2, s2⟩ := lookAt_ok j1 (by decide)
  refine ⟨lw, m2, ?_, j2, s2, ?_, l1⟩
  · unfold fn_X9_lookLive
    rw [e1, bd_s, e2, bd_s]
  · rw [(kp_X6_lookAt _ _ e2).row 44 rfl, f1]
/-- the reference lays it out over the same row and LAW -/
theorem lay_ok {m m1 : am_m} {lw : lw_T} (h1 : Inv m1) (e : m1.1 44 = m.1 44) (hl : ∀ r : Nat → Int32, r 3 = m.1 44 0 3 → (∀ k, 118 ≤ k → r k = m.1 44 0 k) → rf_law r lw) : ∃ m2, fn_X10_layMay (am_si m1 10 0 0 0) = some m2 ∧ laid (nv (m.1 44 0 0)) (mtx (m.1 44 0) lw) (atx (m.1 44 0) lw) m2 ∧ m2.1 44 = m.1 44 := by
  have hx : rfx 999 lw m1 := h1.rfx (by rw [e]; exact hl _ rfl (fun _ _ => rfl))
  have hx2 : rfx 999 lw (am_si m1 10 0 0 0) := hx.kp (WI := [(10, 0)]) (WL := []) (E := 0) (am_kp.si am_kp.rf rfl) rfl
  obtain ⟨m2, e2, l2⟩ := layMay_ok hx2
  refine ⟨m2, e2, ?_, ?_⟩
  · have l2 : laid (nv (m1.1 44 0 0)) (mtx (m1.1 44 0) lw) (atx (m1.1 44 0) lw) m2 := l2
    rw [e] at l2
    exact l2
  · rw [(kp_X10_layMay _ _ e2).row 44 rfl]
    exact e
