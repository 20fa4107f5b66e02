/-! orders: what is run; the class runs it -/
/-- what is, how many were done, what the latest FEAST answered -/
abbrev oS_T : Type := DS × Int32 × Int32
def oHolds (o : Option dn) (env : Nat → Int64) : Bool := match o with
  | none => true
  | some f => decide (f env = some 1)
def oBrk (o : Option dn) (env : Nat → Int64) : Bool := match o with
  | none => false
  | some f => (f env).isNone
def oVal (o : Option dn) (env : Nat → Int64) : Int32 := match o with
  | none => 1
  | some f => ((f env).getD 0).toInt32
def oAct (lw : lw_T) (h : Nat) (a b c : Int32) (σ : DS) : Int32 × DS := if h = 0 then harmA a b c σ else if h = 1 then feastA lw a σ else if h = 2 then pardA a b σ else passA lw σ
def oEv (lw : lw_T) (S : oS_T) : Nat → Int64 := oE S.1.1 lw S.2.1 S.2.2
def oDo (lw : lw_T) (z : oz_T) (S : oS_T) : Int32 × DS := oAct lw z.1 (oVal (z.2.2.2 0) (oEv lw S)) (oVal (z.2.2.2 1) (oEv lw S)) (oVal (z.2.2.2 2) (oEv lw S)) S.1
def oOne (lw : lw_T) (z : oz_T) (S : oS_T) : Option oS_T := if oHolds z.2.2.1 (oEv lw S) = false then some S else if (oBrk (z.2.2.2 0) (oEv lw S) || (oBrk (z.2.2.2 1) (oEv lw S) || oBrk (z.2.2.2 2) (oEv lw S))) = true then none else if 0 ≤ (oDo lw z S).1 then some ((oDo lw z S).2, S.2.1 + 1, if z.1 = 1 then (oDo lw z S).1 else S.2.2) else none
def oB (D : Nat) (S : oS_T) : Prop := (∃ d, d ≤ D ∧ S.2.1 = nI d) ∧ (S.2.2 = -1 ∨ ∃ l, l ≤ 7 ∧ S.2.2 = nI l) ∧ iv_W 999 S.1.1
def cSc (K a2 aw : Nat) (zs : Nat → oz_T) (m : am_m) : Prop := m.1 5 0 2 = nI K ∧ K ≤ 12 ∧ m.1 5 0 3 = nI a2 ∧ m.1 5 0 4 = nI aw ∧ aw < 128 ∧ m.2.2.2.2.2.2.1 28 0 = 72 ∧ m.2.2.2.2.2.2.1 29 0 = 448 ∧ ∀ i, i < K → m.1 28 0 (6 * i) = nI (270 + (zs i).1) ∧ (zs i).1 ≤ 3 ∧ m.1 28 0 (6 * i + 1) = nI (zs i).2.1 ∧ (zs i).2.1 ≤ 20 ∧ cl_ok (m.1 29 0) 19 a2 (m.1 28 0 (6 * i + 2)) (zs i).2.2.1 ∧ ∀ j, j < 3 → cl_ok (m.1 29 0) 19 a2 (m.1 28 0 (6 * i + 3 + j)) ((zs i).2.2.2 j)
def ozd (aw : Nat) (z : oz_T) : Prop := (∀ f, z.2.2.1 = some f → dw aw f ∧ dn_01 f) ∧ ∀ j, j < 3 → (j < nS z.1 ↔ z.2.2.2 j ≠ none) ∧ ∀ f, z.2.2.2 j = some f → dw aw f ∧ dn_bd f
def cO (K a2 aw : Nat) (zs : Nat → oz_T) (lw : lw_T) (S : oS_T) (m : am_m) : Prop := cWd S.1 m ∧ jq lw m ∧ cWo S.1.1 lw S.2.1 S.2.2 aw m ∧ cSc K a2 aw zs m
section OD
variable {m m' : am_m} {lw : lw_T} {K a2 aw i t T D : Nat} {zs : Nat → oz_T} {S : oS_T} {env env' : Nat → Int64} {o : Option dn}
theorem cSc.kp {WI WL : List (Nat × Nat)} (h : cSc K a2 aw zs m) (k : am_kp WI WL 0 m m') (hw : (WI.all (fun q => !Nat.beq q.1 5) && (!am_hit WI 28 0 && !am_hit WI 29 0)) = true) : cSc K a2 aw zs m' := by
  rw [Bool.and_eq_true, Bool.and_eq_true] at hw
  have e5 : m'.1 5 = m.1 5 := k.obj 5 hw.1
  have e28 : m'.1 28 = m.1 28 := k.row 28 (by rw [hw.2.1]; rfl)
  have e29 : m'.1 29 = m.1 29 := k.row 29 (by rw [hw.2.2]; rfl)
  have ee : m'.2.2 = m.2.2 := k.2.2
  unfold cSc
  rw [e5, e28, e29, ee]
  exact h
theorem cO.k80 (h : cO K a2 aw zs lw S m) (k : am_kp [] [(80, 0)] 0 m m') : cO K a2 aw zs lw S m' := by
  obtain ⟨h1, h2, ⟨w1, w2, w3, w4⟩, h4⟩ := h
  have e : m'.1 41 = m.1 41 := k.row 41 rfl
  exact ⟨h1.kp k rfl rfl, h2.kp k rfl, ⟨by rw [e]; exact w1, by rw [e]; exact w2, fun i hi => by rw [e]; exact w3 i hi, fun y hy hb => by rw [e]; exact w4 y hy hb⟩, h4.kp k rfl⟩
theorem tl_dw (h : ∀ f, o = some f → dw aw f) (h1 : ∀ i, i < 12 → env i = env' i) (h2 : ∀ N, N < 7 → aw.testBit N = true → env (12 + N) = env' (12 + N)) : tl_val o env = tl_val o env' := by
  cases o with
  | none => rfl
  | some f =>
    unfold tl_val
    simp only
    rw [h f rfl env env' h1 h2]
theorem ctell (h : cO K a2 aw zs lw S m) {a : Int32} (hok : cl_ok (m.1 29 0) 19 a2 a o) (hd : ∀ f, o = some f → dw aw f) : ∃ m', fn_X1_tell_o 0 a m = some (tl_val o (oEv lw S), m') ∧ am_kp [] [(80, 0)] 0 m m' := by
  obtain ⟨h1, h2, ⟨w1, w2, w3, w4⟩, h4⟩ := h
  obtain ⟨m', e1, e2⟩ := tell_ok_p (env := fun w => (m.1 41 0 w).toInt64) h4.2.2.1 h4.2.2.2.2.2.2.1 hok (fun w _ => rfl)
  refine ⟨m', ?_, e2⟩
  rw [e1, tl_dw hd (fun i hi => w3 i hi) (fun N hN hb => w4 N hN hb)]
  rfl
theorem headOf_p {j : Nat} (h2 : m.1 5 0 2 = nI K) (hK : K ≤ 12) (hl : m.2.2.2.2.2.2.1 28 0 = 72) (hi : i < K) (hj : j < 6) : fn_X5_headOf 0 (nI i) (nI j) m = some (m.1 28 0 (6 * i + j)) := by
  unfold fn_X5_headOf
  have e : nI i * (6 : Int32) + nI j = nI (6 * i + j) := by
    rw [show (6 : Int32) = nI 6 from rfl, pk_mul, nI_add, Nat.mul_comm]
  rw [h2, hl, e, if_neg (nI_pos (by omega)), if_neg (nI_ge hi (by omega)), if_neg (nI_pos (by omega)), if_neg (show ¬ (6 : Int32) ≤ nI j from nI_ge (b := 6) hj (by decide)), if_neg (show ¬ Int32.ofNat 72 ≤ nI (6 * i + j) from nI_ge (b := 72) (by omega) (by decide)), bd_s, if_neg (show ¬ (1 : Int32) = 0 by decide), ck_in (by omega) (by decide), nI_clamp (by omega)]
theorem nI64 {x : Nat} (hx : x ≤ 1000000) : -1000000 ≤ (nI x).toInt64 ∧ (nI x).toInt64 ≤ 1000000 := by
  rw [nI_l (show x < 2 ^ 31 by omega), fa_le64, fa_le64, lN_ti (by omega), if_pos (show x < 2 ^ 63 by omega)]
  refine ⟨?_, ?_⟩
  · show (-1000000 : Int) ≤ (x : Int); omega
  · show (x : Int) ≤ 1000000; omega
theorem oE_ok (hb : oB D S) (hD : D ≤ 1000000) : ev_ok (oEv lw S) := by
  obtain ⟨⟨d, d1, d2⟩, hl, hW⟩ := hb
  have m1 : (-1000000 : Int64) ≤ -1 ∧ (-1 : Int64) ≤ 1000000 := by decide
  have h7 := hW.n7
  intro i
  unfold oEv oE
  by_cases x0 : i = 0
  · rw [if_pos x0, hW.1 4 (by decide) (by decide)]; exact nI64 (by have := hW.2.2.2.2.2.1; omega)
  rw [if_neg x0]
  by_cases x1 : i = 1
  · rw [if_pos x1, d2]; exact nI64 (by omega)
  rw [if_neg x1]
  by_cases x2 : i = 2
  · rw [if_pos x2]
    rcases hl with e | ⟨l, l1, l2⟩
    · rw [e]; decide
    · rw [l2]; exact nI64 (by omega)
  rw [if_neg x2]
  by_cases x3 : i = 3
  · rw [if_pos x3]
    exact nI64 (Nat.le_trans (fb_ct_le _ 49) (by decide))
  rw [if_neg x3]
  by_cases x4 : i = 4
  · rw [if_pos x4]; exact nI64 (by have := hst_le h7; omega)
  rw [if_neg x4]
  by_cases x5 : i < 12
  · rw [if_pos x5]
    by_cases y : i - 5 < nv (S.1.1 0)
    · rw [if_pos y, hW.1 (7 + (i - 5)) (by omega) (by omega)]; exact nI64 (by have := hW.2.2.2.2.2.2.2.2.1 (i - 5) (by omega); omega)
    · rw [if_neg y]; exact m1
  rw [if_neg x5]
  by_cases x6 : i < 19
  · rw [if_pos x6]
    by_cases y : i - 12 < nv (S.1.1 0)
    · rw [if_pos y]; exact nI64 (by have := sx_small (mtx S.1.1 lw (i - 12)) h7; omega)
    · rw [if_neg y]; exact m1
  rw [if_neg x6]; decide
/-- what a TEST tells, what a SUM does -/
theorem tl_test (h : ∀ f, o = some f → dn_01 f) : tl_val o env = 1 ↔ oHolds o env = true := by
  cases o with
  | none => exact ⟨fun _ => rfl, fun _ => rfl⟩
  | some f =>
    unfold tl_val oHolds
    simp only
    rw [decide_eq_true_iff]
    cases hf : f env with
    | none => exact ⟨fun z => absurd z (by decide), fun z => by cases z⟩
    | some v =>
      rcases h f rfl env v hf with rfl | rfl
      · exact ⟨fun z => absurd z (by decide), fun z => absurd (Option.some.inj z) (by decide)⟩
      · exact ⟨fun _ => rfl, fun _ => rfl⟩
theorem tl_sum (h : ∀ f, o = some f → dn_bd f) (he : ev_ok env) : (tl_val o env = 2000000000 ↔ oBrk o env = true) ∧ (oBrk o env = false → tl_val o env = oVal o env) := by
  cases o with
  | none => exact ⟨⟨fun z => absurd z (by show ¬ (1 : Int32) = 2000000000; decide), fun z => by cases z⟩, fun _ => rfl⟩
  | some f =>
    unfold tl_val oBrk oVal
    simp only
    cases hf : f env with
    | none => exact ⟨⟨fun _ => rfl, fun _ => rfl⟩, fun z => by cases z⟩
    | some v =>
      have b := h f rfl env v he hf
      refine ⟨⟨fun z => absurd z (cap_min b.1 b.2 (fun _ _ _ => 0, fun _ _ _ => 0, fun _ => none, fun _ => none, fun _ _ => none, fun _ _ => none, fun _ _ => 0, fun _ => 0)).2, fun z => by cases z⟩, fun _ => rfl⟩
end OD
