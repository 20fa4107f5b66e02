/-! who may sit with whom, laid out by both -/
def mtx (r : Nat → Int32) (lw : lw_T) (a b : Nat) : Bool := decide (a ≠ b) && sp_may r lw a b
def atx (r : Nat → Int32) (lw : lw_T) (a b : Nat) : Bool := decide (a ≠ b) && (sp_bar r lw a b || sp_bar r lw b a)
theorem mtx_comm (r : Nat → Int32) (lw : lw_T) (a b : Nat) : mtx r lw a b = mtx r lw b a := by
  unfold mtx
  rw [sp_may_comm]
  by_cases h : a = b
  · subst h; rfl
  · rw [decide_eq_true h, decide_eq_true (Ne.symm h)]
theorem mtx_irr (r : Nat → Int32) (lw : lw_T) (a : Nat) : mtx r lw a a = false := by
  unfold mtx
  rw [decide_eq_false (fun h => h rfl)]
  rfl
theorem atx_comm (r : Nat → Int32) (lw : lw_T) (a b : Nat) : atx r lw a b = atx r lw b a := by
  unfold atx
  rw [Bool.or_comm]
  by_cases h : a = b
  · subst h; rfl
  · rw [decide_eq_true h, decide_eq_true (Ne.symm h)]
theorem atx_irr (r : Nat → Int32) (lw : lw_T) (a : Nat) : atx r lw a a = false := by
  unfold atx
  rw [decide_eq_false (fun h => h rfl)]
  rfl
theorem mtx_ne {r : Nat → Int32} {lw : lw_T} {a b : Nat} (h : a ≠ b) : mtx r lw a b = sp_may r lw a b := by
  unfold mtx
  rw [decide_eq_true h]
  rfl
theorem rd_j {m : am_m} {c n k j : Nat} {v : Int32} : (am_si m c n k v).1 c n j = if j = k then v else m.1 c n j := by
  rw [rd_si]
  by_cases h : j = k
  · rw [if_pos h, if_pos ⟨rfl, rfl, h⟩]
  · rw [if_neg h, if_neg (fun q => h q.2.2)]
theorem rd_jL {m : am_m} {c n k j : Nat} {v : Int64} : (am_sg m c n k v).2.1 c n j = if j = k then v else m.2.1 c n j := by
  rw [rd_sg]
  by_cases h : j = k
  · rw [if_pos h, if_pos ⟨rfl, rfl, h⟩]
  · rw [if_neg h, if_neg (fun q => h q.2.2)]
theorem i7 (a b : Nat) : (7 : Int32) * nI a + nI b = nI (7 * a + b) := by rw [show (7 : Int32) = nI 7 from rfl, pk_mul, nI_add]
theorem i7' (a b : Nat) : nI a * (7 : Int32) + nI b = nI (7 * a + b) := by rw [show (7 : Int32) = nI 7 from rfl, pk_mul, nI_add, Nat.mul_comm]
theorem nI_ne {a b : Nat} (ha : a < 2 ^ 31) (hb : b < 2 ^ 31) (h : a ≠ b) : nI a ≠ nI b := fun q => h ((nI_eq ha hb).mp q)
def ent (M A : Nat → Nat → Bool) (m : am_m) (a b : Nat) : Prop := m.1 92 0 (7 * a + b) = bv (M a b) ∧ m.1 93 0 (7 * a + b) = bv (A a b)
def laid (n : Nat) (M A : Nat → Nat → Bool) (m : am_m) : Prop := ∀ a b, a < n → b < n → ent M A m a b
section LAY
variable {m : am_m} {lw : lw_T} {D n a : Nat} {r : Nat → Int32}
theorem layMay_in (hn : n ≤ 7) (ha : a < n) (h0 : r 0 = nI n) (hx : rfx D lw m) (hr : m.1 44 0 = r) (hL : ∀ a' b', a' < a → b' < n → ent (mtx r lw) (atx r lw) m a' b') : ∃ m', lp_X10_layMay_14 1000000 (nI a) 0 m = some m' ∧ (rfx D lw m' ∧ m'.1 44 0 = r ∧ ∀ a' b', a' < a + 1 → b' < n → ent (mtx r lw) (atx r lw) m' a' b') := by
  refine lp_up0 (fun N x a1 => lp_X10_layMay_14 N (nI a) x a1) (fun b m1 => rfx D lw m1 ∧ m1.1 44 0 = r ∧ ∀ a' b', b' < n → (a' < a ∨ (a' = a ∧ b' < b)) → ent (mtx r lw) (atx r lw) m1 a' b') _ n (by omega) (fun N m1 h => ?_) (fun N b m1 hb h => Or.inl ?_) m ⟨hx, hr, fun a' b' h1 h2 => ?_⟩
  · obtain ⟨h1, h2, h3⟩ := h
    refine ⟨m1, ?_, h1, h2, fun a' b' g1 g2 => h3 a' b' g2 (by omega)⟩
    show lp_X10_layMay_14 (N + 1) (nI a) (nI n) m1 = _
    rw [lp_X10_layMay_14.eq_2, h2, h0, if_pos (nI_le (Nat.le_refl n) (by omega))]
  · obtain ⟨h1, h2, h3⟩ := h
    have s1 : ∃ m2, (if nI a = nI b then some ((0 : Int32), m1) else (fn_X10_maySit (nI a) (nI b) m1).bind fun r4 => (if r4.1 = 0 then some ((0 : Int32), r4.2) else some ((1 : Int32), r4.2))) = some (bv (mtx r lw a b), m2) ∧ am_kp kI kL 0 m1 m2 := by
      by_cases hab : a = b
      · subst hab
        rw [if_pos rfl, mtx_irr]
        exact ⟨m1, rfl, am_kp.rf⟩
      · rw [if_neg (nI_ne (by omega) (by omega) hab)]
        obtain ⟨m2, e2, k2⟩ := maySit_ok h1 (show a < 7 by omega) (show b < 7 by omega)
        rw [e2, bd_s, mtx_ne hab, h2]
        refine ⟨m2, ?_, k2⟩
        cases sp_may r lw a b <;> rfl
    obtain ⟨m2, e2, k2⟩ := s1
    have x2 := h1.kp k2 rfl
    have s2 : ∀ m3, am_kp [(92, 0)] [] 0 m2 m3 → ∃ m4, (if nI a = nI b then some ((0 : Int32), m3) else (fn_X10_barsOff (nI a) (nI b) m3).bind fun r11 => (if r11.1 ≠ 0 then some ((1 : Int32), r11.2) else (fn_X10_barsOff (nI b) (nI a) r11.2).bind fun r14 => (if r14.1 = 0 then some ((0 : Int32), r14.2) else some ((1 : Int32), r14.2)))) = some (bv (atx r lw a b), m4) ∧ am_kp kI kL 0 m3 m4 := by
      intro m3 k3
      have x3 := x2.kp k3 rfl
      have r3 : m3.1 44 0 = r := by rw [k3.row 44 rfl, k2.row 44 rfl]; exact h2
      by_cases hab : a = b
      · subst hab
        rw [if_pos rfl, atx_irr]
        exact ⟨m3, rfl, am_kp.rf⟩
      · rw [if_neg (nI_ne (by omega) (by omega) hab)]
        obtain ⟨m4, e4, k4⟩ := barsOff_ok x3 (show a < 7 by omega) (show b < 7 by omega)
        obtain ⟨m5, e5, k5⟩ := barsOff_ok (x3.kp k4 rfl) (show b < 7 by omega) (show a < 7 by omega)
        rw [e4, bd_s, r3, show atx r lw a b = (sp_bar r lw a b || sp_bar r lw b a) by unfold atx; rw [decide_eq_true hab]; rfl]
        rw [k4.row 44 rfl, r3] at e5
        cases sp_bar r lw a b with
        | true => exact ⟨m4, rfl, k4⟩
        | false =>
          rw [if_neg (show ¬ (if false = true then (1 : Int32) else 0) ≠ 0 by decide), e5, bd_s]
          refine ⟨m5, ?_, k4.tr k5⟩
          cases sp_bar r lw b a <;> rfl
    obtain ⟨m4, e4, k4⟩ := s2 (am_si m2 92 0 (7 * a + b) (bv (mtx r lw a b))) (am_kp.si am_kp.rf rfl)
    refine ⟨am_si m4 93 0 (7 * a + b) (bv (atx r lw a b)), ?_, ?_, ?_, ?_⟩
    · show lp_X10_layMay_14 (N + 1) (nI a) (nI b) m1 = lp_X10_layMay_14 N (nI a) (nI (b + 1)) _
      rw [lp_X10_layMay_14.eq_2, h2, h0, if_neg (nI_ge hb (by omega)), e2, bd_s, gd_t (bv_01 _), i7, ck_in (by omega) (by decide), nI_clamp (by omega)]
      show (Option.bind (if nI a = nI b then some ((0 : Int32), am_si m2 92 0 (7 * a + b) (bv (mtx r lw a b))) else _) _) = _
      rw [e4, bd_s, gd_t (bv_01 _), ck_in (by omega) (by decide), nI_1]
    · have y1 : rfx D lw (am_si m2 92 0 (7 * a + b) (bv (mtx r lw a b))) := x2.kp (WI := [(92, 0)]) (WL := []) (E := 0) (am_kp.si am_kp.rf rfl) rfl
      have y2 := y1.kp k4 rfl
      exact y2.kp (WI := [(93, 0)]) (WL := []) (E := 0) (am_kp.si am_kp.rf rfl) rfl
    · show m4.1 44 0 = r
      rw [k4.row 44 rfl]
      show m2.1 44 0 = r
      rw [k2.row 44 rfl]
      exact h2
    · intro a' b' g1 g2
      have f92 : ∀ j, (am_si m4 93 0 (7 * a + b) (bv (atx r lw a b))).1 92 0 j = if j = 7 * a + b then bv (mtx r lw a b) else m1.1 92 0 j := fun j => by
        show m4.1 92 0 j = _
        rw [k4.row 92 rfl, rd_j, k2.row 92 rfl]
      have f93 : ∀ j, (am_si m4 93 0 (7 * a + b) (bv (atx r lw a b))).1 93 0 j = if j = 7 * a + b then bv (atx r lw a b) else m1.1 93 0 j := fun j => by
        rw [rd_j, k4.row 93 rfl]
        show (if j = 7 * a + b then bv (atx r lw a b) else m2.1 93 0 j) = _
        rw [k2.row 93 rfl]
      unfold ent
      rw [f92, f93]
      by_cases e : a' = a ∧ b' = b
      · obtain ⟨rfl, rfl⟩ := e
        rw [if_pos rfl, if_pos rfl]
        exact ⟨rfl, rfl⟩
      · have ne : ¬ 7 * a' + b' = 7 * a + b := by omega
        rw [if_neg ne, if_neg ne]
        exact h3 a' b' g1 (by omega)
  · exact hL a' b' (by omega) h1
theorem layMay_ok (hx : rfx D lw m) : ∃ m', fn_X10_layMay m = some m' ∧ laid (nv (m.1 44 0 0)) (mtx (m.1 44 0) lw) (atx (m.1 44 0) lw) m' := by
  have h7 := hx.1.n7
  have h0 := hx.1.r0
  generalize er : m.1 44 0 = r at h0 h7 ⊢
  generalize nv (r 0) = n at h0 h7 ⊢
  refine (lp_up0 (fun N x a1 => lp_X10_layMay_2 N x a1) (fun a m1 => rfx D lw m1 ∧ m1.1 44 0 = r ∧ ∀ a' b', a' < a → b' < n → ent (mtx r lw) (atx r lw) m1 a' b') (fun m' => laid n (mtx r lw) (atx r lw) m') n (by omega) (fun N m1 h => ⟨m1, ?_, fun a b ha hb => h.2.2 a b ha hb⟩) (fun N a m1 ha h => Or.inl ?_) m ⟨hx, er, fun a' b' h1 _ => absurd h1 (Nat.not_lt_zero _)⟩).elim (fun m' he => ?_)
  · show lp_X10_layMay_2 (N + 1) (nI n) m1 = _
    rw [lp_X10_layMay_2.eq_2, h.2.1, h0, if_pos (nI_le (Nat.le_refl n) (by omega))]
  · obtain ⟨m2, e2, q2⟩ := layMay_in h7 ha h0 h.1 h.2.1 h.2.2
    refine ⟨m2, ?_, q2⟩
    show lp_X10_layMay_2 (N + 1) (nI a) m1 = lp_X10_layMay_2 N (nI (a + 1)) m2
    rw [lp_X10_layMay_2.eq_2, h.2.1, h0, if_neg (nI_ge ha (by omega)), e2, bd_s, nI_1]
  · obtain ⟨e, q⟩ := he
    refine ⟨m', ?_, q⟩
    unfold fn_X10_layMay
    rw [show lp_X10_layMay_2 1000000 0 m = _ from e]
    rfl
end LAY
section SITS
variable {m : am_m} {n p : Nat} {M A : Nat → Nat → Bool}
theorem sitsWith_ok (hl : laid n M A m) (hn : n ≤ 7) (h0 : m.1 44 0 0 = nI n) (hp : p < n) : fn_X10_sitsWith (nI p) m = some (nI (sx (M p) n)) := by
  unfold fn_X10_sitsWith
  rw [show lp_X10_sitsWith_4 1000000 (nI p) 0 0 m = some (nI (sx (M p) n)) from lp_eq (fun N x a => lp_X10_sitsWith_4 N (nI p) a x m) (fun i => nI (sx (M p) i)) _ n (by omega) (fun N => ?_) (fun N i hi => ?_) 0 (by omega)]
  · rfl
  · show lp_X10_sitsWith_4 (N + 1) (nI p) _ (nI n) m = _
    rw [lp_X10_sitsWith_4.eq_2, h0, if_pos (nI_le (Nat.le_refl n) (by omega))]
  · show lp_X10_sitsWith_4 (N + 1) (nI p) _ (nI i) m = lp_X10_sitsWith_4 N (nI p) _ (nI (i + 1)) m
    rw [lp_X10_sitsWith_4.eq_2, h0, if_neg (nI_ge hi (by omega)), i7, ck_in (by omega) (by decide), nI_clamp (by omega), (hl p i hp hi).1, nI_1, ← sx_step (M p) (show i < 31 by omega)]
    cases M p i <;> rfl
end SITS
/-- rows of sets as the class fills them, two by two -/
def vis (p q a b : Nat) : Prop := (a < b ∧ (a < p ∨ (a = p ∧ b < q))) ∨ (b < a ∧ (b < p ∨ (b = p ∧ a < q)))
def rowsP (c n : Nat) (M : Nat → Nat → Bool) (p q : Nat) (m : am_m) : Prop := ∃ R : Nat → Nat, (∀ a, a < n → m.1 c 0 a = nI (R a)) ∧ ∀ a, a < n → ∀ b, ((R a).testBit b = true ↔ (b < n ∧ M a b = true ∧ vis p q a b))
section ROWS
variable {m m' : am_m} {c n p q : Nat} {M : Nat → Nat → Bool}
theorem rowsP.of (h : rowsP c n M p q m) (e : m'.1 c = m.1 c) : rowsP c n M p q m' := by
  obtain ⟨R, h1, h2⟩ := h
  exact ⟨R, fun a ha => by rw [e]; exact h1 a ha, h2⟩
theorem rowsP.to (h : rowsP c n M p q m) {p' q' : Nat} (e : ∀ a b, a < n → b < n → M a b = true → (vis p q a b ↔ vis p' q' a b)) : rowsP c n M p' q' m := by
  obtain ⟨R, h1, h2⟩ := h
  refine ⟨R, h1, fun a ha b => (h2 a ha b).trans ⟨fun g => ⟨g.1, g.2.1, (e a b ha g.1 g.2.1).mp g.2.2⟩, fun g => ⟨g.1, g.2.1, (e a b ha g.1 g.2.1).mpr g.2.2⟩⟩⟩
theorem rowsP.step (h : rowsP c n M p q m) (hn : n ≤ 7) (hp : p < q) (hq : q < n) (hM : M p q = true) (hs : M q p = true) : rowsP c n M p (q + 1) (am_si (am_si m c 0 p ((m.1 c 0 p) ||| ((1 : Int32) <<< (nI q &&& 31)))) c 0 q (((am_si m c 0 p ((m.1 c 0 p) ||| ((1 : Int32) <<< (nI q &&& 31)))).1 c 0 q) ||| ((1 : Int32) <<< (nI p &&& 31)))) := by
  obtain ⟨R, h1, h2⟩ := h
  refine ⟨fun a => if a = q then R q ||| 2 ^ p else if a = p then R p ||| 2 ^ q else R a, fun a ha => ?_, fun a ha b => ?_⟩
  · rw [rd_j, rd_j, rd_j, if_neg (show ¬ q = p by omega), h1 q hq, h1 p (by omega), sh1 p (by omega), sh1 q (by omega), fa_or, fa_or]
    show _ = nI (if a = q then R q ||| 2 ^ p else if a = p then R p ||| 2 ^ q else R a)
    by_cases e1 : a = q
    · rw [if_pos e1, if_pos e1]
    · rw [if_neg e1, if_neg e1]
      by_cases e2 : a = p
      · rw [if_pos e2, if_pos e2]
      · rw [if_neg e2, if_neg e2]
        exact h1 a ha
  · show (if a = q then R q ||| 2 ^ p else if a = p then R p ||| 2 ^ q else R a).testBit b = true ↔ _
    by_cases e1 : a = q
    · subst e1
      rw [if_pos rfl, fb_bit_set, Bool.or_eq_true, decide_eq_true_iff, h2 a ha b]
      constructor
      · rintro (⟨g1, g2, g3⟩ | rfl)
        · refine ⟨g1, g2, ?_⟩; unfold vis at g3 ⊢; omega
        · refine ⟨by omega, hs, ?_⟩; unfold vis; omega
      · rintro ⟨g1, g2, g3⟩
        by_cases eb : b = p
        · exact Or.inr eb
        · refine Or.inl ⟨g1, g2, ?_⟩; unfold vis at g3 ⊢; omega
    · rw [if_neg e1]
      by_cases e2 : a = p
      · subst e2
        rw [if_pos rfl, fb_bit_set, Bool.or_eq_true, decide_eq_true_iff, h2 a ha b]
        constructor
        · rintro (⟨g1, g2, g3⟩ | rfl)
          · refine ⟨g1, g2, ?_⟩; unfold vis at g3 ⊢; omega
          · refine ⟨by omega, hM, ?_⟩; unfold vis; omega
        · rintro ⟨g1, g2, g3⟩
          by_cases eb : b = q
          · exact Or.inr eb
          · refine Or.inl ⟨g1, g2, ?_⟩; unfold vis at g3 ⊢; omega
      · rw [if_neg e2, h2 a ha b]
        constructor
        · rintro ⟨g1, g2, g3⟩; refine ⟨g1, g2, ?_⟩; unfold vis at g3 ⊢; omega
        · rintro ⟨g1, g2, g3⟩; refine ⟨g1, g2, ?_⟩; unfold vis at g3 ⊢; omega
theorem rowsP.skip (h : rowsP c n M p q m) (hM : M p q = false) (hs : M q p = false) : rowsP c n M p (q + 1) m := by
  refine h.to (fun a b _ _ hab => ?_)
  have n1 : ¬ (a = p ∧ b = q) := fun z => by rw [z.1, z.2, hM] at hab; cases hab
  have n2 : ¬ (a = q ∧ b = p) := fun z => by rw [z.1, z.2, hs] at hab; cases hab
  unfold vis
  omega
theorem rowsP.fin (h : rowsP c n M n q m) (hi : ∀ a, M a a = false) : ∀ a, a < n → m.1 c 0 a = nI (sx (M a) n) := by
  obtain ⟨R, h1, h2⟩ := h
  intro a ha
  rw [h1 a ha]
  congr 1
  refine Nat.eq_of_testBit_eq (fun b => ?_)
  rw [sx_bit]
  by_cases hb : (R a).testBit b = true
  · have g := (h2 a ha b).mp hb
    rw [hb, decide_eq_true g.1, g.2.1]
    rfl
  · rw [ts_nt hb]
    cases hm : M a b with
    | false => rw [Bool.and_false]
    | true =>
      rw [Bool.and_true]
      refine (decide_eq_false (fun hbn => hb ((h2 a ha b).mpr ⟨hbn, hm, ?_⟩))).symm
      have hne : a ≠ b := fun z => by subst z; rw [hi a] at hm; cases hm
      unfold vis
      omega
theorem rowsP.zero (h : ∀ a, a < n → m.1 c 0 a = 0) : rowsP c n M 0 1 m := by
  refine ⟨fun _ => 0, fun a ha => h a ha, fun a ha b => ?_⟩
  rw [Nat.zero_testBit]
  refine ⟨fun z => (by cases z), fun z => ?_⟩
  have z2 := z.2.2
  unfold vis at z2
  omega
end ROWS
