/-! what is told of one, of two; what is counted -/
theorem fb_ct_cut {p : Nat → Bool} {n : Nat} : ∀ {N : Nat}, n ≤ N → (∀ k, n ≤ k → k < N → p k = false) → fb_ct p N = fb_ct p n
  | 0, h, _ => by rw [show n = 0 by omega]
  | N + 1, h, hp => by
    by_cases e : n = N + 1
    · rw [e]
    · rw [fb_ct_succ, hp N (by omega) (by omega), if_neg (by decide), Nat.add_zero]
      exact fb_ct_cut (by omega) (fun k h1 h2 => hp k h1 (by omega))
theorem fb_sm_cut {f : Nat → Nat} {n : Nat} : ∀ {N : Nat}, n ≤ N → (∀ k, n ≤ k → k < N → f k = 0) → fb_sm f N = fb_sm f n
  | 0, h, _ => by rw [show n = 0 by omega]
  | N + 1, h, hp => by
    by_cases e : n = N + 1
    · rw [e]
    · rw [fb_sm_succ, hp N (by omega) (by omega), Nat.add_zero]
      exact fb_sm_cut (by omega) (fun k h1 h2 => hp k h1 (by omega))
theorem fb_ct_rows (f : Nat → Bool) : ∀ j, fb_ct f (7 * j) = fb_sm (fun p => fb_ct (fun q => f (7 * p + q)) 7) j
  | 0 => rfl
  | j + 1 => by rw [show 7 * (j + 1) = 7 * j + 7 by omega, fb_ct_split, fb_ct_rows f j, fb_sm_succ]
theorem pc_sx (f : Nat → Bool) {n : Nat} (hn : n ≤ 7) : pc (sx f n) = fb_ct f n := by
  unfold pc
  rw [fb_ct_cut hn (fun k h1 h2 => by rw [sx_bit, decide_eq_false (by omega)]; rfl)]
  exact fb_ct_cong (fun k hk => by rw [sx_bit, decide_eq_true hk]; rfl)
theorem pos_bv {x : Nat} (hx : x < 2 ^ 31) : (if nI x ≤ 0 then (0 : Int32) else 1) = bv (decide (0 < x)) := by
  by_cases h : 0 < x
  · rw [if_neg (nI_nle h hx), decide_eq_true h]; rfl
  · have e : x = 0 := by omega
    rw [e]
    rfl
theorem bv_nat (b : Bool) : bv b = nI (if b then 1 else 0) := by cases b <;> rfl
theorem ct_step (f : Nat → Bool) (i : Nat) : nI (fb_ct f i) + bv (f i) = nI (fb_ct f (i + 1)) := by rw [bv_nat, nI_add, fb_ct_succ]
/-- how many HARMS one did, how many were done to it, how many there are -/
def hby (r : Nat → Int32) (p n : Nat) : Nat := fb_ct (fun q => decide (0 < nv (r (14 + (7 * p + q))))) n
def hto (r : Nat → Int32) (p n : Nat) : Nat := fb_ct (fun q => decide (0 < nv (r (14 + (7 * q + p))))) n
def hall (r : Nat → Int32) : Nat := fb_ct (fun k => decide (0 < nv (r (14 + k)))) 49
def hst (r : Nat → Int32) : Nat := fb_ct (fun p => decide (nv (r (7 + p)) < 1)) (nv (r 0))
def fbl (r : Nat → Int32) (f : Nat) : Nat := sx (fun p => decide (nv (r (7 + p)) < f)) (nv (r 0))
section HR
variable {m : am_m} {D u p q n : Nat} {r : Nat → Int32}
theorem iv_W.w9 (h : iv_W D r) (hp : p < 7) (hq : q < 7) : nv (r (14 + (7 * p + q))) ≤ 9 := (h.2.2.2.2.2.2.2.2.2.1 p q hp hq).1
theorem iv_W.wz (h : iv_W D r) (hp : p < 7) (hq : q < 7) (hz : ¬ (p < nv (r 0) ∧ q < nv (r 0) ∧ p ≠ q)) : nv (r (14 + (7 * p + q))) = 0 := by
  by_cases e : 0 < nv (r (14 + (7 * p + q)))
  · exact absurd ((h.2.2.2.2.2.2.2.2.2.1 p q hp hq).2 e) hz
  · omega
theorem hall_eq (h : iv_W D r) : fb_sm (fun p => hby r p (nv (r 0))) (nv (r 0)) = hall r := by
  have h7 := h.n7
  unfold hall
  rw [show 49 = 7 * 7 from rfl, fb_ct_rows, fb_sm_cut h7 (fun p h1 h2 => fb_ct_zero.mpr (fun q hq => decide_eq_false (by rw [h.wz h2 hq (by omega)]; decide)))]
  refine fb_sm_cong (fun p hp => ?_)
  unfold hby
  exact (fb_ct_cut h7 (fun q h1 h2 => decide_eq_false (by rw [h.wz (by omega) h2 (by omega)]; decide))).symm
theorem cweight_ok (h8 : m.1 8 u 0 = nI n) (hn : n ≤ 7) (hp : p < n) (hq : q < n) (hne : p ≠ q) : fn_X8_weightOf u (nI p) (nI q) m = some (m.1 37 u (7 * p + q)) := by
  unfold fn_X8_weightOf
  rw [hasTwo_ok h8, if_pos ⟨fk_in hn hp, fk_in hn hq, nI_ne (by omega) (by omega) hne⟩, bd_s, if_neg (by decide), i7', ck_in (by omega) (by decide), nI_clamp (by omega)]
theorem csince_ok (h8 : m.1 8 u 0 = nI n) (hn : n ≤ 7) (hp : p < n) (hq : q < n) (hne : p ≠ q) : fn_X8_sinceOf u (nI p) (nI q) m = some (m.1 38 u (7 * p + q)) := by
  unfold fn_X8_sinceOf
  rw [hasTwo_ok h8, if_pos ⟨fk_in hn hp, fk_in hn hq, nI_ne (by omega) (by omega) hne⟩, bd_s, if_neg (by decide), i7', ck_in (by omega) (by decide), nI_clamp (by omega)]
/-- also of oneself -/
theorem cweight_all (hU : iv_U m u r) (hW : iv_W D r) (hp : p < nv (r 0)) (hq : q < nv (r 0)) : fn_X8_weightOf u (nI p) (nI q) m = some (nI (nv (r (14 + (7 * p + q))))) := by
  have h7 := hW.n7
  have h8 : m.1 8 u 0 = nI (nv (r 0)) := hU.1.trans hW.r0
  by_cases e : p = q
  · subst e
    rw [hW.wz (by omega) (by omega) (fun z => z.2.2 rfl)]
    unfold fn_X8_weightOf
    rw [hasTwo_ok h8, if_neg (fun z => z.2.2 rfl), bd_s, if_pos rfl]
    rfl
  · rw [cweight_ok h8 h7 hp hq e, hU.2.2.2.2.2.2.1 _ (by omega)]
    exact congrArg some (hW.k (by omega) (by omega))
theorem charmsBy_ok (hU : iv_U m u r) (hW : iv_W D r) (hp : p < nv (r 0)) : fn_X8_harmsBy u (nI p) m = some (nI (hby r p (nv (r 0)))) := by
  have h7 := hW.n7
  have h8 : m.1 8 u 0 = nI (nv (r 0)) := hU.1.trans hW.r0
  unfold fn_X8_harmsBy
  rw [show lp_X8_harmsBy_4 1000000 u (nI p) 0 0 m = some (nI (hby r p (nv (r 0)))) from lp_eq (fun N x a => lp_X8_harmsBy_4 N u (nI p) a x m) (fun i => nI (hby r p i)) _ (nv (r 0)) (by omega) (fun N => ?_) (fun N i hi => ?_) 0 (by omega)]
  · rfl
  · show lp_X8_harmsBy_4 (N + 1) u (nI p) _ (nI (nv (r 0))) m = _
    rw [lp_X8_harmsBy_4.eq_2, h8, if_pos (nI_le (Nat.le_refl _) (by omega))]
  · show lp_X8_harmsBy_4 (N + 1) u (nI p) _ (nI i) m = lp_X8_harmsBy_4 N u (nI p) _ (nI (i + 1)) m
    rw [lp_X8_harmsBy_4.eq_2, h8, if_neg (nI_ge hi (by omega)), cweight_all hU hW hp hi, bd_s, pos_bv (nv_lt _), nI_1]
    unfold hby
    rw [← ct_step]
theorem charmsTo_ok (hU : iv_U m u r) (hW : iv_W D r) (hp : p < nv (r 0)) : fn_X8_harmsTo u (nI p) m = some (nI (hto r p (nv (r 0)))) := by
  have h7 := hW.n7
  have h8 : m.1 8 u 0 = nI (nv (r 0)) := hU.1.trans hW.r0
  unfold fn_X8_harmsTo
  rw [show lp_X8_harmsTo_4 1000000 u (nI p) 0 0 m = some (nI (hto r p (nv (r 0)))) from lp_eq (fun N x a => lp_X8_harmsTo_4 N u (nI p) a x m) (fun i => nI (hto r p i)) _ (nv (r 0)) (by omega) (fun N => ?_) (fun N i hi => ?_) 0 (by omega)]
  · rfl
  · show lp_X8_harmsTo_4 (N + 1) u (nI p) _ (nI (nv (r 0))) m = _
    rw [lp_X8_harmsTo_4.eq_2, h8, if_pos (nI_le (Nat.le_refl _) (by omega))]
  · show lp_X8_harmsTo_4 (N + 1) u (nI p) _ (nI i) m = lp_X8_harmsTo_4 N u (nI p) _ (nI (i + 1)) m
    rw [lp_X8_harmsTo_4.eq_2, h8, if_neg (nI_ge hi (by omega)), cweight_all hU hW hi hp, bd_s, pos_bv (nv_lt _), nI_1]
    unfold hto
    rw [← ct_step]
theorem charmCount_ok (hU : iv_U m u r) (hW : iv_W D r) : fn_X8_harmCount u m = some (nI (hall r)) := by
  have h7 := hW.n7
  have h8 : m.1 8 u 0 = nI (nv (r 0)) := hU.1.trans hW.r0
  unfold fn_X8_harmCount
  rw [show lp_X8_harmCount_4 1000000 u 0 0 m = some (nI (hall r)) from lp_eq (fun N x a => lp_X8_harmCount_4 N u a x m) (fun i => nI (fb_sm (fun p => hby r p (nv (r 0))) i)) _ (nv (r 0)) (by omega) (fun N => ?_) (fun N i hi => ?_) 0 (by omega)]
  · rfl
  · show lp_X8_harmCount_4 (N + 1) u _ (nI (nv (r 0))) m = _
    rw [lp_X8_harmCount_4.eq_2, h8, if_pos (nI_le (Nat.le_refl _) (by omega)), hall_eq hW]
  · show lp_X8_harmCount_4 (N + 1) u _ (nI i) m = lp_X8_harmCount_4 N u _ (nI (i + 1)) m
    rw [lp_X8_harmCount_4.eq_2, h8, if_neg (nI_ge hi (by omega)), charmsBy_ok hU hW hi, bd_s, nI_1, nI_add, fb_sm_succ]
theorem cfedBelow_ok {f : Nat} (hf : f ≤ 10) (hU : iv_U m u r) (hW : iv_W D r) : fn_X8_fedBelow u (nI f) m = some (nI (fbl r f)) := by
  have h7 := hW.n7
  have h8 : m.1 8 u 0 = nI (nv (r 0)) := hU.1.trans hW.r0
  unfold fn_X8_fedBelow
  rw [show lp_X8_fedBelow_4 1000000 u (nI f) 0 0 m = some (nI (fbl r f)) from lp_eq (fun N x a => lp_X8_fedBelow_4 N u (nI f) a x m) (fun i => nI (sx (fun p => decide (nv (r (7 + p)) < f)) i)) _ (nv (r 0)) (by omega) (fun N => ?_) (fun N i hi => ?_) 0 (by omega)]
  · rfl
  · show lp_X8_fedBelow_4 (N + 1) u (nI f) _ (nI (nv (r 0))) m = _
    rw [lp_X8_fedBelow_4.eq_2, h8, if_pos (nI_le (Nat.le_refl _) (by omega))]
    rfl
  · show lp_X8_fedBelow_4 (N + 1) u (nI f) _ (nI i) m = lp_X8_fedBelow_4 N u (nI f) _ (nI (i + 1)) m
    have h9 := hW.2.2.2.2.2.2.2.2.1 i (by omega)
    rw [lp_X8_fedBelow_4.eq_2, h8, if_neg (nI_ge hi (by omega)), ck_in (by omega) (by decide), nI_clamp (by omega), hU.2.2.2.2.2.1 i (by omega), hW.k (k := 7 + i) (by omega) (by omega), nI_1]
    by_cases e : nv (r (7 + i)) < f
    · rw [if_neg (nI_ge e (by omega)), ← sx_stepy (f := fun p => decide (nv (r (7 + p)) < f)) (decide_eq_true e) (by omega)]
    · rw [if_pos (nI_le (by omega) (by omega)), sx_stepn (f := fun p => decide (nv (r (7 + p)) < f)) (decide_eq_false e)]
theorem cstarving_ok (hU : iv_U m u r) (hW : iv_W D r) : fn_X8_starving u m = some (nI (hst r)) := by
  have h7 := hW.n7
  unfold fn_X8_starving
  rw [show (1 : Int32) = nI 1 from rfl, cfedBelow_ok (by decide) hU hW, bd_s, fbl, bc_ok (sx_small _ h7), bd_s, pc_sx _ h7]
  rfl
theorem harmsOf_ok (hW : iv_W D (m.1 44 0)) : fn_X10_harmsOf m = some (nI (hall (m.1 44 0))) := by
  unfold fn_X10_harmsOf
  rw [show lp_X10_harmsOf_4 1000000 0 0 m = some (nI (hall (m.1 44 0))) from lp_eq (fun N x a => lp_X10_harmsOf_4 N a x m) (fun i => nI (fb_ct (fun k => decide (0 < nv (m.1 44 0 (14 + k)))) i)) _ 49 (by decide) (fun N => ?_) (fun N i hi => ?_) 0 (by decide)]
  · rfl
  · show lp_X10_harmsOf_4 (N + 1) _ (nI 49) m = _
    rw [lp_X10_harmsOf_4.eq_2, if_pos (by decide)]
    rfl
  · show lp_X10_harmsOf_4 (N + 1) _ (nI i) m = lp_X10_harmsOf_4 N _ (nI (i + 1)) m
    rw [lp_X10_harmsOf_4.eq_2, if_neg (show ¬ (49 : Int32) ≤ nI i from nI_ge (b := 49) hi (by decide)), show (14 : Int32) = nI 14 from rfl, nI_add, ck_in (by omega) (by decide), nI_clamp (by omega), hW.k (k := 14 + i) (by omega) (by omega), pos_bv (nv_lt _), nI_1]
    rw [← ct_step]
theorem starving_ok (hW : iv_W D (m.1 44 0)) : fn_X10_starving m = some (nI (hst (m.1 44 0))) := by
  have h7 := hW.n7
  unfold fn_X10_starving
  rw [show lp_X10_starving_4 1000000 0 0 m = some (nI (hst (m.1 44 0))) from lp_eq (fun N x a => lp_X10_starving_4 N a x m) (fun i => nI (fb_ct (fun p => decide (nv (m.1 44 0 (7 + p)) < 1)) i)) _ (nv (m.1 44 0 0)) (by omega) (fun N => ?_) (fun N i hi => ?_) 0 (by omega)]
  · rfl
  · show lp_X10_starving_4 (N + 1) _ (nI (nv (m.1 44 0 0))) m = _
    rw [lp_X10_starving_4.eq_2, if_pos (by rw [hW.r0, nv_nI (nv_lt _)]; exact nI_le (Nat.le_refl _) (nv_lt _))]
    rfl
  · show lp_X10_starving_4 (N + 1) _ (nI i) m = lp_X10_starving_4 N _ (nI (i + 1)) m
    have e7 := hW.k (k := 7 + i) (by omega) (by omega)
    rw [lp_X10_starving_4.eq_2, if_neg (by rw [hW.r0]; exact nI_ge hi (by omega)), show (7 : Int32) = nI 7 from rfl, nI_add, ck_in (by omega) (by decide), nI_clamp (by omega), nI_1, ← ct_step]
    by_cases e : nv (m.1 44 0 (7 + i)) < 1
    · have e0 : nv (m.1 44 0 (7 + i)) = 0 := by omega
      rw [e0] at e7
      rw [if_neg (by rw [e7]; decide), decide_eq_true e]
      rfl
    · rw [if_pos (by rw [e7]; exact nI_ne0 (by omega) (nv_lt _)), decide_eq_false e]
      rfl
theorem harmsBy_ok (hW : iv_W D (m.1 44 0)) (hp : p < nv (m.1 44 0 0)) : fn_X10_harmsBy (nI p) 1 m = some (nI (hby (m.1 44 0) p (nv (m.1 44 0 0)))) ∧ fn_X10_harmsBy (nI p) 0 m = some (nI (hto (m.1 44 0) p (nv (m.1 44 0 0)))) := by
  have h7 := hW.n7
  have h0 := hW.r0
  constructor
  · unfold fn_X10_harmsBy
    rw [show lp_X10_harmsBy_5 1000000 (nI p) 1 0 0 m = some (nI (hby (m.1 44 0) p (nv (m.1 44 0 0)))) from lp_eq (fun N x a => lp_X10_harmsBy_5 N (nI p) 1 a x m) (fun i => nI (hby (m.1 44 0) p i)) _ (nv (m.1 44 0 0)) (by omega) (fun N => ?_) (fun N i hi => ?_) 0 (by omega)]
    · rfl
    · show lp_X10_harmsBy_5 (N + 1) (nI p) 1 _ (nI (nv (m.1 44 0 0))) m = _
      rw [lp_X10_harmsBy_5.eq_2, if_pos (by rw [h0, nv_nI (nv_lt _)]; exact nI_le (Nat.le_refl _) (nv_lt _))]
    · show lp_X10_harmsBy_5 (N + 1) (nI p) 1 _ (nI i) m = lp_X10_harmsBy_5 N (nI p) 1 _ (nI (i + 1)) m
      rw [lp_X10_harmsBy_5.eq_2, if_neg (by rw [h0]; exact nI_ge hi (by omega)), if_neg (by decide), weightOf_ok (by omega) (by omega), bd_s, bd_s, nI_1]
      rw [hW.k (k := 14 + (7 * p + i)) (by omega) (by omega), pos_bv (nv_lt _)]
      unfold hby
      rw [← ct_step]
  · unfold fn_X10_harmsBy
    rw [show lp_X10_harmsBy_5 1000000 (nI p) 0 0 0 m = some (nI (hto (m.1 44 0) p (nv (m.1 44 0 0)))) from lp_eq (fun N x a => lp_X10_harmsBy_5 N (nI p) 0 a x m) (fun i => nI (hto (m.1 44 0) p i)) _ (nv (m.1 44 0 0)) (by omega) (fun N => ?_) (fun N i hi => ?_) 0 (by omega)]
    · rfl
    · show lp_X10_harmsBy_5 (N + 1) (nI p) 0 _ (nI (nv (m.1 44 0 0))) m = _
      rw [lp_X10_harmsBy_5.eq_2, if_pos (by rw [h0, nv_nI (nv_lt _)]; exact nI_le (Nat.le_refl _) (nv_lt _))]
    · show lp_X10_harmsBy_5 (N + 1) (nI p) 0 _ (nI i) m = lp_X10_harmsBy_5 N (nI p) 0 _ (nI (i + 1)) m
      rw [lp_X10_harmsBy_5.eq_2, if_neg (by rw [h0]; exact nI_ge hi (by omega)), if_pos rfl, weightOf_ok (by omega) (by omega), bd_s, bd_s, nI_1]
      rw [hW.k (k := 14 + (7 * i + p)) (by omega) (by omega), pos_bv (nv_lt _)]
      unfold hto
      rw [← ct_step]
end HR
