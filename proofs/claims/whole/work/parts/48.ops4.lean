/-! largest, compare, fitting, ask -/
section OPS4
variable {m : am_m}
theorem hasSet_ok {u n : Nat} {a : Int32} (h : m.1 8 u 0 = nI n) (hn : n ≤ 7) : fn_X8_hasSet u a m = some (if 0 ≤ a ∧ a < nI (2 ^ n) then 1 else 0) := by
  unfold fn_X8_hasSet
  rw [h, sh1 n (by omega)]
  by_cases h1 : a < 0
  · rw [if_pos h1, if_neg (fun q => (fa_of_lt h1).2.1 q.1)]
  · by_cases h2 : nI (2 ^ n) ≤ a
    · rw [if_neg h1, if_pos h2, if_neg (fun q => (fa_of_lt q.2).2.1 h2)]
    · rw [if_neg h1, if_neg h2, if_pos ⟨fa_of_nlt h1, fa_of_nle h2⟩]
theorem isSet_ok (a : Int32) (m : am_m) : fn_X10_isSet a m = some (if 0 ≤ a ∧ a ≤ 127 then 1 else 0) := by
  unfold fn_X10_isSet
  rw [show (0 : Int64) = (0 : Int32).toInt64 from rfl, show (127 : Int64) = (127 : Int32).toInt64 from rfl, in_32, bd_s, gd_t]
  by_cases h : 0 ≤ a ∧ a ≤ 127
  · rw [if_pos h]; exact Or.inr rfl
  · rw [if_neg h]; exact Or.inl rfl
theorem there_all : ∀ n, n < 8 → ∀ s, s < 128 → ((nI s &&& (nI (2 ^ n - 1) ^^^ (-1 : Int32))) ≠ 0 ↔ ¬ s < 2 ^ n) := by decide +kernel
theorem areThere_ok {n s : Nat} (h : m.1 44 0 0 = nI n) (hn : n ≤ 7) (hs : s < 128) : fn_X10_areThere (nI s) m = some (bv (decide (s < 2 ^ n))) := by
  unfold fn_X10_areThere
  rw [all_ok h hn, bd_s]
  by_cases e : s < 2 ^ n
  · rw [if_neg (fun z => ((there_all n (by omega) s hs).mp z) e), decide_eq_true e]; rfl
  · rw [if_pos ((there_all n (by omega) s hs).mpr e), decide_eq_false e]; rfl
/-- a set of those who are there, as both see it -/
theorem set_cases {n : Nat} (hn : n ≤ 7) (a : Int32) : (∃ s, s < 2 ^ n ∧ a = nI s ∧ (0 ≤ a ∧ a < nI (2 ^ n)) ∧ (0 ≤ a ∧ a ≤ 127)) ∨ (¬ (0 ≤ a ∧ a < nI (2 ^ n)) ∧ (¬ (0 ≤ a ∧ a ≤ 127) ∨ ∃ s, s < 128 ∧ a = nI s ∧ (0 ≤ a ∧ a ≤ 127) ∧ ¬ s < 2 ^ n)) := by
  have h128 := pw_le hn
  by_cases h0 : a < 0
  · exact Or.inr ⟨fun z => (fa_of_lt h0).2.1 z.1, Or.inl (fun z => (fa_of_lt h0).2.1 z.1)⟩
  · obtain ⟨s, hs, rfl⟩ := nI_of h0
    by_cases h1 : s < 2 ^ n
    · exact Or.inl ⟨s, h1, rfl, ⟨nI_pos' hs, nI_lt h1 (by omega)⟩, nI_pos' hs, nI_le (b := 127) (by omega) (by decide)⟩
    · refine Or.inr ⟨fun z => h1 ((nI_ltI hs (by omega)).mp z.2), ?_⟩
      by_cases h2 : s < 128
      · exact Or.inr ⟨s, h2, rfl, ⟨nI_pos' hs, nI_le (b := 127) (by omega) (by decide)⟩, h1⟩
      · exact Or.inl (fun z => h2 (by have := (nI_leI (b := 127) hs (by decide)).mp z.2; omega))
/-- both have laid it out -/
theorem both_ok (h : Inv m) : ∃ (n : Nat) (R : Nat → Nat) (lw : lw_T) (m1 : am_m), n = nv (m.1 44 0 0) ∧ R = rowOf n (mtx (m.1 44 0) lw) ∧ gdR n R ∧ m.1 44 0 0 = nI n ∧ m.1 8 0 0 = nI n ∧ fn_X9_lookLive m = some m1 ∧ clsR n R m1 ∧ jdx 999 0 (m.1 44 0) lw m1 ∧ m1.1 44 = m.1 44 ∧ ∀ m2, Inv m2 → m2.1 44 = m.1 44 → ∃ m3, fn_X10_layMay (am_si m2 10 0 0 0) = some m3 ∧ refR n R m3 ∧ laid n (mtx (m.1 44 0) lw) (atx (m.1 44 0) lw) m3 ∧ m3.1 44 = m.1 44 := by
  obtain ⟨n, hn, e44, e8, en⟩ := h.n
  obtain ⟨lw, m1, e1, j1, s1, f1, l1⟩ := lookLive_ok h
  rw [en] at s1
  refine ⟨n, _, lw, m1, en.symm, rfl, rowOf_gd hn (mtx_comm _ _) (mtx_irr _ _), e44, e8, e1, s1.cls, j1, f1, fun m2 i2 f2 => ?_⟩
  obtain ⟨m3, e3, l3, f3⟩ := lay_ok i2 f2 l1
  rw [en] at l3
  exact ⟨m3, e3, l3.ref hn (by rw [f3]; exact e44), l3, f3⟩
theorem sizeOrSet_ok {s : Nat} {a : Int32} (hs : s < 128) (m : am_m) : fn_X9_sizeOrSet (nI s) a m = some (if a = 0 then nI (pc s) else if a = 1 then nI s else -1) := by
  unfold fn_X9_sizeOrSet
  by_cases a0 : a = 0
  · rw [if_pos a0, if_pos a0, bc_ok hs, bd_s]
  · rw [if_neg a0, if_neg a0]
    by_cases a1 : a = 1
    · rw [if_pos a1, if_pos a1]
    · rw [if_neg a1, if_neg a1]
theorem in01 (a : Int32) (m : am_m) : fn_X10_in a.toInt64 0 1 m = some (if a = 0 ∨ a = 1 then 1 else 0) := by
  rw [show (0 : Int64) = (0 : Int32).toInt64 from rfl, show (1 : Int64) = (1 : Int32).toInt64 from rfl, in_32]
  refine congrArg some (if_iff ⟨fun z => ?_, fun z => ?_⟩)
  · obtain ⟨z1, z2⟩ := z
    rw [fa_le] at z1 z2
    have z1 : (0 : Int) ≤ a.toInt := z1
    have z2 : a.toInt ≤ 1 := z2
    rw [fa_eq, fa_eq]
    show a.toInt = 0 ∨ a.toInt = 1
    omega
  · rcases z with rfl | rfl <;> decide
theorem op_largest (h : Inv m) (a : Int32) : op_ok m (fun m => fn_X9_largest a m) (fun m => fn_X10_largest a m) := by
  obtain ⟨n, R, lw, m1, -, -, gd, e44, e8, e1, c1, j1, f1, hr⟩ := both_ok h
  have hn := gd.1
  have hl : bst (tb R n) (2 ^ n) < 128 := Nat.lt_of_lt_of_le (bst_lt _ _ (pw_pos n)) (pw_le hn)
  refine op_look h (fun t => kp_X9_largest _ m t) (fun m1 t => kp_X10_largest _ m1 t) rfl rfl rfl (if bst (tb R n) (2 ^ n) = 0 then -1 else if a = 0 then nI (pc (bst (tb R n) (2 ^ n))) else if a = 1 then nI (bst (tb R n) (2 ^ n)) else -1) ?_ ?_
  · show ∃ m', fn_X9_largest a m = some (_, m')
    unfold fn_X9_largest
    rw [e1, bd_s, clargest_ok c1 hn, bd_s]
    by_cases z : bst (tb R n) (2 ^ n) = 0
    · rw [if_neg (fun w => w ((nI0_iff (by omega)).mpr z)), if_pos z]
      exact ⟨_, rfl⟩
    · rw [if_pos (fun w => z ((nI0_iff (by omega)).mp w)), if_neg z, sizeOrSet_ok hl, bd_s]
      exact ⟨_, rfl⟩
  · intro m2 i2 f2
    obtain ⟨m3, e3, r3, -, -⟩ := hr m2 i2 f2
    show ∃ m', fn_X10_largest a m2 = some (_, m')
    unfold fn_X10_largest
    rw [e3, bd_s, rlargest_ok r3 hn, bd_s]
    by_cases z : bst (tb R n) (2 ^ n) = 0
    · rw [if_pos ((nI0_iff (by omega)).mpr z), if_pos z]
      exact ⟨_, rfl⟩
    · rw [if_neg (fun w => z ((nI0_iff (by omega)).mp w)), if_neg z, in01, bd_s]
      by_cases a0 : a = 0
      · rw [if_pos (Or.inl a0), if_pos (by decide), if_neg (fun w => w a0), if_pos a0, ones_ok hl, bd_s]
        exact ⟨_, rfl⟩
      · by_cases a1 : a = 1
        · rw [if_pos (Or.inr a1), if_pos (by decide), if_pos a0, if_neg a0, if_pos a1]
          exact ⟨_, rfl⟩
        · rw [if_neg (show ¬ (a = 0 ∨ a = 1) from fun w => w.elim a0 a1), if_neg (show ¬ (0 : Int32) ≠ 0 by decide), if_neg a0, if_neg a1]
          exact ⟨_, rfl⟩
/-- whom a set fits -/
def fitS (R : Nat → Nat) (s n : Nat) : Nat := sx (fun p => decide (sd s (R p) = 0)) n
theorem cfit_ok {n s : Nat} {R : Nat → Nat} (h : clsR n R m) (hn : n ≤ 7) (hs : s < 128) : fn_X6_fittingFor (nI s) m = some (nI (fitS R s n)) := by
  unfold fn_X6_fittingFor fitS
  rw [show lp_X6_fittingFor_4 1000000 (nI s) 0 0 m = some (nI (sx (fun p => decide (sd s (R p) = 0)) n)) from lp_eq (fun N x a => lp_X6_fittingFor_4 N (nI s) a x m) (fun i => nI (sx (fun p => decide (sd s (R p) = 0)) i)) _ n (by omega) (fun N => ?_) (fun N i hi => ?_) 0 (by omega)]
  · rfl
  · show lp_X6_fittingFor_4 (N + 1) (nI s) _ (nI n) m = _
    rw [lp_X6_fittingFor_4.eq_2, h.1, if_pos (nI_le (Nat.le_refl _) (by omega))]
  · show lp_X6_fittingFor_4 (N + 1) (nI s) _ (nI i) m = lp_X6_fittingFor_4 N (nI s) _ (nI (i + 1)) m
    have hl := sd_small hs (R i)
    rw [lp_X6_fittingFor_4.eq_2, h.1, if_neg (nI_ge hi (by omega)), ck_in (by omega) (by decide), nI_clamp (by omega), h.2 i hi, sd_I, nI_1]
    by_cases e : sd s (R i) = 0
    · rw [if_neg (fun z => z ((nI0_iff (by omega)).mpr e)), sx_stepy (f := fun p => decide (sd s (R p) = 0)) (decide_eq_true e) (by omega)]
    · rw [if_pos (fun z => e ((nI0_iff (by omega)).mp z)), sx_stepn (f := fun p => decide (sd s (R p) = 0)) (decide_eq_false e)]
theorem rfit_ok {n s : Nat} {R : Nat → Nat} (h : refR n R m) (gd : gdR n R) (hs : s < 128) : fn_X10_fittingFor (nI s) m = some (nI (fitS R s n)) := by
  have hn := gd.1
  unfold fn_X10_fittingFor fitS
  rw [show lp_X10_fittingFor_4 1000000 (nI s) 0 0 m = some (nI (sx (fun p => decide (sd s (R p) = 0)) n)) from lp_eq (fun N x a => lp_X10_fittingFor_4 N (nI s) a x m) (fun i => nI (sx (fun p => decide (sd s (R p) = 0)) i)) _ n (by omega) (fun N => ?_) (fun N i hi => ?_) 0 (by omega)]
  · rfl
  · show lp_X10_fittingFor_4 (N + 1) (nI s) _ (nI n) m = _
    rw [lp_X10_fittingFor_4.eq_2, h.1, if_pos (nI_le (Nat.le_refl _) (by omega))]
  · show lp_X10_fittingFor_4 (N + 1) (nI s) _ (nI i) m = lp_X10_fittingFor_4 N (nI s) _ (nI (i + 1)) m
    have hl := sd_small hs (R i)
    rw [lp_X10_fittingFor_4.eq_2, h.1, if_neg (nI_ge hi (by omega)), is_ok hs (by omega), bd_s, nI_1, ← sx_step _ (show i < 31 by omega)]
    cases hb : s.testBit i with
    | true =>
      have e : ¬ sd s (R i) = 0 := fun z => by
        have := (sd_0 (by omega)).mp z i hb
        rw [(gd.2 i hi).2.1] at this
        cases this
      rw [if_pos (show bv true ≠ 0 by decide), bd_s, decide_eq_false e, if_neg (by decide)]
    | false =>
      rw [if_neg (show ¬ bv false ≠ 0 by decide), h.2 i hi, bd_s, sd_I]
      by_cases e : sd s (R i) = 0
      · rw [if_neg (fun z => z ((nI0_iff (by omega)).mpr e)), bd_s, decide_eq_true e, if_pos rfl]
      · rw [if_pos (fun z => e ((nI0_iff (by omega)).mp z)), bd_s, decide_eq_false e, if_neg (by decide)]
theorem op_fitting (h : Inv m) (a : Int32) : op_ok m (fun m => fn_X9_fitting a m) (fun m => fn_X10_fitting a m) := by
  obtain ⟨n, R, lw, m1, -, -, gd, e44, e8, e1, c1, j1, f1, hr⟩ := both_ok h
  have hn := gd.1
  have h128 := pw_le hn
  rcases set_cases hn a with ⟨s, hs, rfl, H1, H2⟩ | ⟨H1, H2⟩
  · refine op_look h (fun t => kp_X9_fitting _ m t) (fun m1 t => kp_X10_fitting _ m1 t) rfl rfl rfl (nI (fitS R s n)) ?_ ?_
    · show ∃ m', fn_X9_fitting (nI s) m = some (_, m')
      unfold fn_X9_fitting
      rw [hasSet_ok e8 hn, if_pos H1, bd_s, if_pos (by decide), e1, bd_s, cfit_ok c1 hn (by omega), bd_s]
      exact ⟨_, rfl⟩
    · intro m2 i2 f2
      obtain ⟨m3, e3, r3, -, -⟩ := hr m2 i2 f2
      show ∃ m', fn_X10_fitting (nI s) m2 = some (_, m')
      unfold fn_X10_fitting
      rw [isSet_ok, if_pos H2, bd_s, if_neg (by decide), areThere_ok (n := n) (by show m2.1 44 0 0 = nI n; rw [f2]; exact e44) hn (by omega), decide_eq_true hs, bd_s, if_pos (show bv true ≠ 0 by decide), e3, bd_s, rfit_ok r3 gd (by omega), bd_s]
      exact ⟨_, rfl⟩
  · refine op_look h (fun t => kp_X9_fitting _ m t) (fun m1 t => kp_X10_fitting _ m1 t) rfl rfl rfl (-1) ⟨m, ?_⟩ (fun m2 i2 f2 => ⟨am_si m2 10 0 0 0, ?_⟩)
    · show fn_X9_fitting a m = _
      unfold fn_X9_fitting
      rw [hasSet_ok e8 hn, if_neg H1, bd_s, if_neg (by decide)]
    · show fn_X10_fitting a m2 = _
      unfold fn_X10_fitting
      rw [isSet_ok, bd_s]
      rcases H2 with H2 | ⟨s, hs, rfl, H2, H3⟩
      · rw [if_neg H2, if_pos rfl]
      · rw [if_pos H2, if_neg (by decide), areThere_ok (n := n) (by show m2.1 44 0 0 = nI n; rw [f2]; exact e44) hn hs, decide_eq_false H3, bd_s, if_neg (show ¬ bv false ≠ 0 by decide)]
end OPS4
