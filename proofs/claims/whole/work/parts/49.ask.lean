/-! whom to ask; a LAW compared -/
/-- how far twice as many is from all of them -/
def offS (R : Nat → Nat) (F p : Nat) : Nat := if 2 * pc (R p &&& F) < pc F then pc F - 2 * pc (R p &&& F) else 2 * pc (R p &&& F) - pc F
def akS (R : Nat → Nat) (F : Nat) : Nat → Nat × Nat
  | 0 => (offS R F 0, 0)
  | i + 1 => if (akS R F i).1 ≤ offS R F (i + 1) then akS R F i else (offS R F (i + 1), i + 1)
theorem akS_le (R : Nat → Nat) (F : Nat) : ∀ i, (akS R F i).2 ≤ i
  | 0 => Nat.le_refl _
  | i + 1 => by
    rw [akS]
    by_cases h : (akS R F i).1 ≤ offS R F (i + 1)
    · rw [if_pos h]; have := akS_le R F i; omega
    · rw [if_neg h]; omega
theorem pc_sub {a b : Nat} (h : ∀ k, a.testBit k = true → b.testBit k = true) : pc a ≤ pc b := fb_ct_sub (fun k _ hk => h k hk)
theorem pc_and (a b : Nat) : pc (a &&& b) ≤ pc b := pc_sub (fun k hk => by rw [Nat.testBit_and, Bool.and_eq_true] at hk; exact hk.2)
theorem offS_le (R : Nat → Nat) (F p : Nat) : offS R F p ≤ 7 := by
  have h1 := pc_le F
  have h2 := pc_and (R p) F
  unfold offS
  by_cases h : 2 * pc (R p &&& F) < pc F
  · rw [if_pos h]; omega
  · rw [if_neg h]; omega
theorem akS_1 (R : Nat → Nat) (F : Nat) : ∀ i, (akS R F i).1 ≤ 7
  | 0 => offS_le R F 0
  | i + 1 => by
    rw [akS]
    by_cases h : (akS R F i).1 ≤ offS R F (i + 1)
    · rw [if_pos h]; exact akS_1 R F i
    · rw [if_neg h]; exact offS_le R F (i + 1)
theorem off_abs : ∀ c, c < 8 → ∀ t, t < 8 → (if 0 ≤ (2 : Int32) * nI c - nI t then (2 : Int32) * nI c - nI t else -((2 : Int32) * nI c - nI t)) = nI (if 2 * c < t then t - 2 * c else 2 * c - t) := by decide +kernel
def opI : Option Nat → Int32
  | some w => nI w
  | none => -1
def askR (R : Nat → Nat) (F : Nat) (b : Int32) : Option Nat → Int32
  | some w => if b = 0 then nI w else if b = 1 then nI (pc (R w &&& F)) else -1
  | none => -1
section ASK
variable {m : am_m} {n F : Nat} {R : Nat → Nat}
/-- what is carried: before the first nobody -/
def akw (R : Nat → Nat) (F i : Nat) : Int32 := match i with
  | 0 => -1
  | i + 1 => nI (akS R F i).2
def akl (s : Int32) (R : Nat → Nat) (F i : Nat) : Int32 := match i with
  | 0 => s
  | i + 1 => nI (akS R F i).1
theorem ak_step {s : Int32} {i : Nat} (h8 : ∀ x, x ≤ 7 → ¬ s ≤ nI x) : (if akl s R F i ≤ nI (offS R F i) then akw R F i else nI i) = akw R F (i + 1) ∧ (if akl s R F i ≤ nI (offS R F i) then akl s R F i else nI (offS R F i)) = akl s R F (i + 1) := by
  cases i with
  | zero =>
    have h := h8 _ (offS_le R F 0)
    exact ⟨if_neg h, if_neg h⟩
  | succ i =>
    have h1 := akS_1 R F i
    have h2 := offS_le R F (i + 1)
    show (if nI (akS R F i).1 ≤ nI (offS R F (i + 1)) then nI (akS R F i).2 else nI (i + 1)) = nI (akS R F (i + 1)).2 ∧ (if nI (akS R F i).1 ≤ nI (offS R F (i + 1)) then nI (akS R F i).1 else nI (offS R F (i + 1))) = nI (akS R F (i + 1)).1
    rw [akS]
    by_cases h : (akS R F i).1 ≤ offS R F (i + 1)
    · rw [if_pos h, if_pos (nI_le h (by omega)), if_pos (nI_le h (by omega))]
      exact ⟨rfl, rfl⟩
    · rw [if_neg h, if_neg (nI_ge (by omega) (by omega)), if_neg (nI_ge (by omega) (by omega))]
      exact ⟨rfl, rfl⟩
theorem and_lt (a : Nat) {b : Nat} (hb : b < 128) : a &&& b < 128 := Nat.lt_of_le_of_lt Nat.and_le_right hb
theorem camong_ok {p : Nat} (h : clsR n R m) (hn : n ≤ 7) (hF : F < 128) (hp : p < n) : fn_X6_companionsAmong (nI p) (nI F) m = some (nI (pc (R p &&& F))) := by
  unfold fn_X6_companionsAmong fn_X6_mayOf fn_X6_isThere
  rw [h.1, if_neg (nI_pos (by omega)), if_neg (nI_ge hp (by omega)), bd_s, if_neg (by decide), ck_in (by omega) (by decide), nI_clamp (by omega), h.2 p hp, bd_s, fa_and, bc_ok (and_lt _ hF), bd_s]
theorem cnear_ok (h : clsR n R m) (hn : n ≤ 7) (hF : F < 128) : fn_X6_nearestHalf (nI F) m = some (if F = 0 then -1 else akw R F n) := by
  unfold fn_X6_nearestHalf
  by_cases z : F = 0
  · subst z
    rw [if_pos rfl, show (1000000 : Nat) = 999999 + 1 from rfl, lp_X6_nearestHalf_8.eq_2]
    by_cases hz : m.1 6 0 0 ≤ (0 : Int32)
    · rw [if_pos hz]; rfl
    · rw [if_neg hz, if_pos (by decide)]; rfl
  · rw [if_neg z]
    rw [show lp_X6_nearestHalf_8 1000000 (nI F) (-1) 8 0 m = some (akw R F n) from lp_eq (fun N x (a : Int32 × Int32) => lp_X6_nearestHalf_8 N (nI F) a.1 a.2 x m) (fun i => (akw R F i, akl 8 R F i)) _ n (by omega) (fun N => ?_) (fun N i hi => ?_) 0 (by omega)]
    · rfl
    · show lp_X6_nearestHalf_8 (N + 1) (nI F) _ _ (nI n) m = _
      rw [lp_X6_nearestHalf_8.eq_2, h.1, if_pos (nI_le (Nat.le_refl _) (by omega))]
    · show lp_X6_nearestHalf_8 (N + 1) (nI F) (akw R F i) (akl 8 R F i) (nI i) m = lp_X6_nearestHalf_8 N (nI F) (akw R F (i + 1)) (akl 8 R F (i + 1)) (nI (i + 1)) m
      have h1 := pc_le F
      have h2 := pc_le (R i &&& F)
      rw [lp_X6_nearestHalf_8.eq_2, h.1, if_neg (nI_ge hi (by omega)), if_neg (fun w => z ((nI0_iff (by omega)).mp w)), camong_ok h hn hF hi, bd_s, bc_ok hF, bd_s]
      have ea : fn_J9_abs_0f7a4 ((2 : Int32) * nI (pc (R i &&& F)) - nI (pc F)) m = some (nI (offS R F i)) := by
        unfold fn_J9_abs_0f7a4 offS
        rw [← off_abs _ (by omega) _ (by omega)]
        by_cases w : 0 ≤ (2 : Int32) * nI (pc (R i &&& F)) - nI (pc F)
        · rw [if_pos w, if_pos w]
        · rw [if_neg w, if_neg w]
      have st := ak_step (R := R) (F := F) (s := 8) (i := i) (fun x hx => nI_ge (b := 8) (by omega) (by decide))
      rw [ea, bd_s, st.1, st.2, nI_1]
theorem rask_ok {a : Int32} (h : refR n R m) (hn : n ≤ 7) (hF : F < 128) : lp_X10_ask_53 1000000 a (nI F) 100000000 (-1) 0 m = some (if F = 0 then -1 else akw R F n) := by
  by_cases z : F = 0
  · subst z
    rw [if_pos rfl, show (1000000 : Nat) = 999999 + 1 from rfl, lp_X10_ask_53.eq_2]
    by_cases hz : m.1 44 0 0 ≤ (0 : Int32)
    · rw [if_pos hz]
    · rw [if_neg hz, if_pos (by decide)]
  · rw [if_neg z]
    refine lp_eq (fun N x (b : Int32 × Int32) => lp_X10_ask_53 N a (nI F) b.2 b.1 x m) (fun i => (akw R F i, akl 100000000 R F i)) _ n (by omega) (fun N => ?_) (fun N i hi => ?_) 0 (by omega)
    · show lp_X10_ask_53 (N + 1) a (nI F) _ _ (nI n) m = _
      rw [lp_X10_ask_53.eq_2, h.1, if_pos (nI_le (Nat.le_refl _) (by omega))]
    · show lp_X10_ask_53 (N + 1) a (nI F) (akl 100000000 R F i) (akw R F i) (nI i) m = lp_X10_ask_53 N a (nI F) (akl 100000000 R F (i + 1)) (akw R F (i + 1)) (nI (i + 1)) m
      have h1 := pc_le F
      have h2 := pc_le (R i &&& F)
      have hl : F &&& R i < 128 := Nat.lt_of_le_of_lt Nat.and_le_left hF
      rw [lp_X10_ask_53.eq_2, h.1, if_neg (nI_ge hi (by omega)), if_neg (fun w => z ((nI0_iff (by omega)).mp w)), h.2 i hi, bd_s, fa_and, ones_ok hl, bd_s, ones_ok hF, bd_s, Nat.and_comm F, off_abs _ (by omega) _ (by omega)]
      have st := ak_step (R := R) (F := F) (s := 100000000) (i := i) (fun x hx => nI_ge (b := 100000000) (by omega) (by decide))
      rw [show (if 2 * pc (R i &&& F) < pc F then pc F - 2 * pc (R i &&& F) else 2 * pc (R i &&& F) - pc F) = offS R F i from rfl, st.1, st.2, nI_1]
theorem fitS_lt {s : Nat} (hn : n ≤ 7) : fitS R s n < 128 := sx_small _ hn
theorem op_ask (h : Inv m) (a b : Int32) : op_ok m (fun m => fn_X9_ask a b m) (fun m => fn_X10_ask a b m) := by
  obtain ⟨n, R, lw, m1, -, -, gd, e44, e8, e1, c1, j1, f1, hr⟩ := both_ok h
  have hn := gd.1
  have h128 := pw_le hn
  rcases set_cases hn a with ⟨s, hs, rfl, H1, H2⟩ | ⟨H1, H2⟩
  · have hF : fitS R s n < 128 := fitS_lt hn
    have hF2 : fitS R s n < 2 ^ n := sx_lt _ _
    generalize eF : fitS R s n = F at hF hF2
    -- who is asked, if anybody fits
    have hw : F = 0 ∨ ∃ w, w < n ∧ akw R F n = nI w := by
      cases n with
      | zero => exact Or.inl (by omega)
      | succ k => exact Or.inr ⟨(akS R F k).2, by have := akS_le R F k; omega, rfl⟩
    have hw2 : ∃ o : Option Nat, (if F = 0 then -1 else akw R F n) = opI o ∧ ∀ w, o = some w → w < n := by
      rcases hw with z | ⟨w, hw1, hw2⟩
      · exact ⟨none, if_pos z, fun w hw => by cases hw⟩
      · by_cases z : F = 0
        · exact ⟨none, if_pos z, fun w hw => by cases hw⟩
        · exact ⟨some w, by rw [if_neg z, hw2]; rfl, fun v hv => by cases hv; exact hw1⟩
    obtain ⟨o, eo, ho⟩ := hw2
    refine op_look h (fun t => kp_X9_ask _ _ m t) (fun m1 t => kp_X10_ask _ _ m1 t) rfl rfl rfl (askR R F b o) ?_ ?_
    · show ∃ m', fn_X9_ask (nI s) b m = some (_, m')
      unfold fn_X9_ask
      rw [hasSet_ok e8 hn, if_pos H1, bd_s, if_pos (by decide), e1, bd_s, cfit_ok c1 hn (by omega), eF, bd_s, cnear_ok c1 hn hF, bd_s, eo]
      cases o with
      | none =>
        rw [if_neg (fun z => z rfl)]
        exact ⟨_, rfl⟩
      | some w =>
        have hwn := ho w rfl
        rw [show opI (some w) = nI w from rfl]
        show ∃ m', (if nI w ≠ (-1 : Int32) then _ else _) = some (_, m')
        rw [if_pos (nI_m1 (by omega))]
        by_cases b0 : b = 0
        · rw [if_pos b0]
          show ∃ m', _ = some ((if b = 0 then nI w else _), m')
          rw [if_pos b0]
          exact ⟨_, rfl⟩
        · rw [if_neg b0]
          show ∃ m', _ = some ((if b = 0 then nI w else if b = 1 then nI (pc (R w &&& F)) else -1), m')
          rw [if_neg b0]
          by_cases b1 : b = 1
          · rw [if_pos b1, if_pos b1, camong_ok c1 hn hF hwn, bd_s]
            exact ⟨_, rfl⟩
          · rw [if_neg b1, if_neg b1]
            exact ⟨_, rfl⟩
    · intro m2 i2 f2
      obtain ⟨m3, e3, r3, -, -⟩ := hr m2 i2 f2
      show ∃ m', fn_X10_ask (nI s) b m2 = some (_, m')
      unfold fn_X10_ask
      rw [isSet_ok, if_pos H2, bd_s, if_neg (by decide), areThere_ok (n := n) (by show m2.1 44 0 0 = nI n; rw [f2]; exact e44) hn (by omega), decide_eq_true hs, bd_s, if_neg (show ¬ bv true = 0 by decide), in01, bd_s]
      by_cases hb : b = 0 ∨ b = 1
      · rw [if_pos hb, if_pos (show (1 : Int32) ≠ 0 by decide), e3, bd_s, rfit_ok r3 gd (by omega), eF, bd_s, rask_ok r3 hn hF, bd_s, eo]
        cases o with
        | none =>
          rw [if_pos (show opI none = -1 from rfl)]
          exact ⟨_, rfl⟩
        | some w =>
          have hwn := ho w rfl
          rw [show opI (some w) = nI w from rfl]
          show ∃ m', (if nI w = (-1 : Int32) then _ else _) = some ((if b = 0 then nI w else if b = 1 then nI (pc (R w &&& F)) else -1), m')
          rw [if_neg (nI_m1 (by omega))]
          by_cases b0 : b = 0
          · rw [if_neg (fun z => z b0), if_pos b0]
            exact ⟨_, rfl⟩
          · have b1 : b = 1 := hb.elim (fun z => absurd z b0) id
            have hl : F &&& R w < 128 := Nat.lt_of_le_of_lt Nat.and_le_left hF
            rw [if_pos b0, if_neg b0, if_pos b1, r3.2 w hwn, bd_s, fa_and, ones_ok hl, bd_s, Nat.and_comm F]
            exact ⟨_, rfl⟩
      · rw [if_neg hb, if_neg (show ¬ (0 : Int32) ≠ 0 by decide)]
        have ee : askR R F b o = -1 := by
          cases o with
          | none => rfl
          | some w =>
            show (if b = 0 then nI w else if b = 1 then nI (pc (R w &&& F)) else -1) = (-1 : Int32)
            rw [if_neg (fun z => hb (Or.inl z)), if_neg (fun z => hb (Or.inr z))]
        rw [ee]
        exact ⟨_, rfl⟩
  · refine op_look h (fun t => kp_X9_ask _ _ m t) (fun m1 t => kp_X10_ask _ _ m1 t) rfl rfl rfl (-1) ⟨m, ?_⟩ (fun m2 i2 f2 => ⟨am_si m2 10 0 0 0, ?_⟩)
    · show fn_X9_ask a b m = _
      unfold fn_X9_ask
      rw [hasSet_ok e8 hn, if_neg H1, bd_s, if_neg (by decide)]
    · show fn_X10_ask a b m2 = _
      unfold fn_X10_ask
      rw [isSet_ok, bd_s]
      rcases H2 with H2 | ⟨s, hs, rfl, H2, H3⟩
      · rw [if_neg H2, if_pos rfl]
      · rw [if_pos H2, if_neg (by decide), areThere_ok (n := n) (by show m2.1 44 0 0 = nI n; rw [f2]; exact e44) hn hs, decide_eq_false H3, bd_s, if_pos (show bv false = 0 from rfl)]
end ASK
