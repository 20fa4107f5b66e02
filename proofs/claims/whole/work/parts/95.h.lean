/-! orders: the reference runs a CLAUSE once -/
def rWr (env : Nat → Int64) (m : am_m) : Prop := (∀ x, 1 ≤ x → x ≤ 5 → m.2.1 86 0 x = env (x - 1)) ∧ ∃ n, n ≤ 7 ∧ m.1 44 0 0 = nI n ∧ ∀ y, y ≤ 6 → env (5 + y) = (if y < n then (m.1 44 0 (7 + y)).toInt64 else -1) ∧ env (12 + y) = (if y < n then (m.1 62 0 y).toInt64 else -1)
def rSc (K : Nat) (zs : Nat → oz_T) (m : am_m) : Prop := m.1 10 0 21 = nI K ∧ K ≤ 12 ∧ ∀ i, i < K → m.1 61 0 (10 * i) = nI (zs i).1 ∧ (zs i).1 ≤ 3 ∧ m.1 61 0 (10 * i + 9) = nI (zs i).2.1 ∧ (zs i).2.1 ≤ 20 ∧ rl_ok true (m.1 52 0) (m.1 53 0) (m.1 61 0 (10 * i + 7)) (m.1 61 0 (10 * i + 7 + 1)) (zs i).2.2.1 ∧ ∀ j, j < 3 → rl_ok true (m.1 52 0) (m.1 53 0) (m.1 61 0 (10 * i + 1 + 2 * j)) (m.1 61 0 (10 * i + 1 + 2 * j + 1)) ((zs i).2.2.2 j)
def rQ (K : Nat) (zs : Nat → oz_T) (S : oS_T) (m : am_m) : Prop := rWd S.1 m ∧ m.1 10 0 20 = 0 ∧ m.1 10 0 55 = S.2.1 ∧ m.1 10 0 56 = S.2.2 ∧ rSc K zs m
abbrev lvSm : List (Nat × Nat) := [(10, 20), (10, 38), (10, 58)]
abbrev lvSmL : List (Nat × Nat) := [(10, 39), (87, 0)]
def rTl (a1 : Int32) (q : am_m) : Option (Int32 × am_m) := (fn_X10_sumOf (a1 + (1 : Int32)) q).bind fun r33 => (fn_X10_sumOf (a1 + (3 : Int32)) r33.2).bind fun r35 => (fn_X10_sumOf (a1 + (5 : Int32)) r35.2).bind fun r37 => (if (r37.2.1 10 0 58) = 0 then am_ck a1 120 ((fn_X10_act (r37.2.1 61 0 a1.toNatClampNeg) r33.1 r35.1 r37.1 r37.2).bind fun r41 => (if 0 ≤ r41.1 then am_ck a1 120 (some (0, am_si (am_si r41.2 10 0 56 (if (r41.2.1 61 0 a1.toNatClampNeg) ≠ (1 : Int32) then (r41.2.1 10 0 56) else r41.1)) 10 0 55 ((r41.2.1 10 0 55) + (1 : Int32)))) else some ((-3), r41.2))) else some ((-3), r37.2))
def rRest (a1 : Int32) (q11 : am_m) : Option (Int32 × am_m) := am_ck (a1 + (7 : Int32)) 120 (am_ck (a1 + (8 : Int32)) 120 ((if (q11.1 61 0 (a1 + (8 : Int32)).toNatClampNeg) ≤ (q11.1 61 0 (a1 + (7 : Int32)).toNatClampNeg) then rTl a1 (am_si q11 10 0 58 0) else (fn_X10_sumOf (a1 + (7 : Int32)) (am_si q11 10 0 58 0)).bind fun r29 => (if (r29.2.1 10 0 58) ≠ 0 then some (0, r29.2) else (if r29.1 ≠ 0 then rTl a1 r29.2 else some (0, r29.2))))))
section OH
variable {m m' q : am_m} {lw : lw_T} {K aw i D : Nat} {zs : Nat → oz_T} {S S' : oS_T} {σ : DS} {r0 : Nat → Int32} {z : oz_T} {env : Nat → Int64}
theorem rWr.kp (h : rWr env m) (k : am_kp lvSm lvSmL 0 m m') : rWr env m' := by
  obtain ⟨h1, n, h2, h3, h4⟩ := h
  have e44 : m'.1 44 = m.1 44 := k.row 44 rfl
  have e62 : m'.1 62 = m.1 62 := k.row 62 rfl
  have e86 : m'.2.1 86 = m.2.1 86 := k.rowL 86 rfl
  refine ⟨fun x a b => by rw [e86]; exact h1 x a b, n, h2, by rw [e44]; exact h3, fun y hy => ?_⟩
  rw [e44, e62]
  exact h4 y hy
theorem rSc.kp {WI WL : List (Nat × Nat)} {E : Nat} (h : rSc K zs m) (k : am_kp WI WL E m m') (hw : (am_hit WI 10 21 || (am_hit WI 52 0 || (am_hit WI 53 0 || am_hit WI 61 0))) = false) : rSc K zs m' := by
  rw [Bool.or_eq_false_iff, Bool.or_eq_false_iff, Bool.or_eq_false_iff] at hw
  have e21 : m'.1 10 0 21 = m.1 10 0 21 := k.fld 10 0 21 hw.1
  have e52 : m'.1 52 = m.1 52 := k.row 52 (by rw [hw.2.1]; rfl)
  have e53 : m'.1 53 = m.1 53 := k.row 53 (by rw [hw.2.2.1]; rfl)
  have e61 : m'.1 61 = m.1 61 := k.row 61 (by rw [hw.2.2.2]; rfl)
  unfold rSc
  rw [e21, e52, e53, e61]
  exact h
theorem rQ.kp {WI WL : List (Nat × Nat)} {E : Nat} (h : rQ K zs S m) (k : am_kp WI WL E m m') (h20 : m'.1 10 0 20 = 0) (hw : (am_hit WI 10 21 || (am_hit WI 52 0 || (am_hit WI 53 0 || am_hit WI 61 0))) = false) (hw2 : (am_hit WI 10 8 || (am_hit WI 44 0 || (am_hit WI 46 0 || (am_hit WI 47 0 || (am_hit WI 10 55 || am_hit WI 10 56))))) = false) : rQ K zs S m' := by
  obtain ⟨h1, h2, h3, h4, h5⟩ := h
  rw [Bool.or_eq_false_iff, Bool.or_eq_false_iff, Bool.or_eq_false_iff, Bool.or_eq_false_iff, Bool.or_eq_false_iff] at hw2
  exact ⟨⟨by rw [k.row 44 (by rw [hw2.2.1]; rfl)]; exact h1.1, h1.2.of (k.fld 10 0 8 hw2.1) (k.row 46 (by rw [hw2.2.2.1]; rfl)) (k.row 47 (by rw [hw2.2.2.2.1]; rfl))⟩, h20, by rw [k.fld 10 0 55 hw2.2.2.2.2.1]; exact h3, by rw [k.fld 10 0 56 hw2.2.2.2.2.2]; exact h4, h5.kp k hw⟩
theorem rsum_off {x : Int32} (h : m.1 10 0 58 = 1) : fn_X10_sumOf x m = some (-1, m) := by
  unfold fn_X10_sumOf
  rw [h, if_pos (show (1 : Int32) ≠ 0 by decide)]
theorem rsum {x : Nat} {o : Option dn} (hw : rWr env m) (h20 : m.1 10 0 20 = 0) (hx : x < 119) (hok : rl_ok true (m.1 52 0) (m.1 53 0) (m.1 61 0 x) (m.1 61 0 (x + 1)) o) (h58 : m.1 10 0 58 = 0) : ∃ v m', fn_X10_sumOf (nI x) m = some (v, m') ∧ am_kp lvSm lvSmL 0 m m' ∧ m'.1 10 0 20 = 0 ∧ m'.1 10 0 58 = bv (oBrk o env) ∧ (oBrk o env = false → o ≠ none → v = oVal o env) := by
  unfold fn_X10_sumOf
  rw [h58, if_neg (show ¬ (0 : Int32) ≠ 0 from fun z => z rfl), nI_1, ck_in (show x < 120 by omega) (by decide), ck_in (show x + 1 < 120 by omega) (by decide), nI_clamp (show x < 2 ^ 31 by omega), nI_clamp (show x + 1 < 2 ^ 31 by omega)]
  cases o with
  | none =>
    have e : m.1 61 0 x = m.1 61 0 (x + 1) := hok
    rw [if_neg (fun z => z e)]
    exact ⟨-1, m, rfl, am_kp.rf, h20, by rw [h58]; rfl, fun _ z => absurd rfl z⟩
  | some f =>
    obtain ⟨a, b, h, c, ea, eb, hb, hh, hcode, hseg⟩ := hok
    have hab := hseg.1
    rw [ea, eb, if_pos (nI_ne (show a < 2 ^ 31 by omega) (show b < 2 ^ 31 by omega) (show a ≠ b by omega)), ck_in (show x < 120 by omega) (by decide), ck_in (show x + 1 < 120 by omega) (by decide)]
    obtain ⟨h1, n, h2, h3, h4⟩ := hw
    have hcx : rk_cx true (am_si m 10 0 20 1) (m.1 52 0) (m.1 53 0) env := ⟨rfl, fun k _ => ⟨rfl, rfl⟩, h1, n, h2, h3, h4⟩
    obtain ⟨m1, e1, k1, hv⟩ := reckonAll_ok hcx hb hh hcode hseg
    have kk : am_kp lvSm lvSmL 0 m (am_si (am_si m1 10 0 20 0) 10 0 58 (m1.1 10 0 38)) := am_kp.si (am_kp.si ((am_kp.si am_kp.rf rfl : am_kp lvSm lvSmL 0 m (am_si m 10 0 20 1)).tr (am_kp.mono k1 rfl)) rfl) rfl
    rw [e1, bd_s]
    cases hf : f env with
    | some v =>
      rw [hf] at hv
      obtain ⟨v1, v2⟩ := hv
      rw [gd_t (Or.inl v1)]
      refine ⟨_, _, rfl, kk, rfl, ?_, fun _ _ => ?_⟩
      · show m1.1 10 0 38 = bv (f env).isNone
        rw [hf, v1]; rfl
      · show (m1.2.1 10 0 39).toInt32 = ((f env).getD 0).toInt32
        rw [hf, v2]; rfl
    | none =>
      rw [hf] at hv
      have hv : m1.1 10 0 38 = 1 := hv
      rw [gd_t (Or.inr hv)]
      refine ⟨_, _, rfl, kk, rfl, ?_, fun z => ?_⟩
      · show m1.1 10 0 38 = bv (f env).isNone
        rw [hf, hv]; rfl
      · have z : (f env).isNone = false := z
        rw [hf] at z
        cases z
theorem rsumB {x : Nat} {o : Option dn} {b : Bool} (hw : rWr env m) (h20 : m.1 10 0 20 = 0) (hx : x < 119) (hok : rl_ok true (m.1 52 0) (m.1 53 0) (m.1 61 0 x) (m.1 61 0 (x + 1)) o) (h58 : m.1 10 0 58 = bv b) : ∃ v m', fn_X10_sumOf (nI x) m = some (v, m') ∧ am_kp lvSm lvSmL 0 m m' ∧ m'.1 10 0 20 = 0 ∧ m'.1 10 0 58 = bv (b || oBrk o env) ∧ (b = false → oBrk o env = false → o ≠ none → v = oVal o env) := by
  cases b with
  | true => exact ⟨-1, m, rsum_off h58, am_kp.rf, h20, h58, fun z => by cases z⟩
  | false =>
    obtain ⟨v, m', e1, e2, e3, e4, e5⟩ := rsum hw h20 hx hok h58
    exact ⟨v, m', e1, e2, e3, by rw [e4, Bool.false_or], fun _ => e5⟩
theorem r_act {h : Nat} {v0 v1 v2 a b c : Int32} (hh : h ≤ 3) (e0 : 1 ≤ nS h → v0 = a) (e1 : 2 ≤ nS h → v1 = b) (e2 : 3 ≤ nS h → v2 = c) (hI : dsI σ) (hl : rf_law σ.1 lw) (h20 : m.1 10 0 20 = 0) (hw : rWd σ m) : ∃ m', fn_X10_act (nI h) v0 v1 v2 m = some ((oAct lw h a b c σ).1, m') ∧ rWd (oAct lw h a b c σ).2 m' := by
  unfold fn_X10_act oAct
  have : h = 0 ∨ h = 1 ∨ h = 2 ∨ h = 3 := by omega
  rcases this with rfl | rfl | rfl | rfl
  · rw [if_pos (show nI 0 = (0 : Int32) from rfl), if_pos (show (0 : Nat) = 0 from rfl), e0 (by decide), e1 (by decide), e2 (by decide)]
    obtain ⟨m', f1, f2⟩ := r_harm a b c hI.1 hI.2 hw
    exact ⟨m', by rw [f1, bd_s], f2⟩
  · rw [if_neg (show ¬ nI 1 = (0 : Int32) by decide), if_pos (show nI 1 = (1 : Int32) from rfl), if_neg (show ¬ (1 : Nat) = 0 by decide), if_pos (show (1 : Nat) = 1 from rfl), e0 (by decide)]
    obtain ⟨m', f1, f2⟩ := r_feast a hI.1 hI.2 hl h20 hw
    exact ⟨m', by rw [f1, bd_s], f2⟩
  · rw [if_neg (show ¬ nI 2 = (0 : Int32) by decide), if_neg (show ¬ nI 2 = (1 : Int32) by decide), if_pos (show nI 2 = (2 : Int32) from rfl), if_neg (show ¬ (2 : Nat) = 0 by decide), if_neg (show ¬ (2 : Nat) = 1 by decide), if_pos (show (2 : Nat) = 2 from rfl), e0 (by decide), e1 (by decide)]
    obtain ⟨m', f1, f2⟩ := r_pard a b hI.1 hI.2 hw
    exact ⟨m', by rw [f1, bd_s], f2⟩
  · rw [if_neg (show ¬ nI 3 = (0 : Int32) by decide), if_neg (show ¬ nI 3 = (1 : Int32) by decide), if_neg (show ¬ nI 3 = (2 : Int32) by decide), if_neg (show ¬ (3 : Nat) = 0 by decide), if_neg (show ¬ (3 : Nat) = 1 by decide), if_neg (show ¬ (3 : Nat) = 2 by decide)]
    obtain ⟨m', f1, f2⟩ := r_pass hI.1 hI.2 hl h20 hw
    exact ⟨m', by rw [f1, bd_s], f2⟩
/-- what was asked is done, or can't be -/
def oFin (lw : lw_T) (z : oz_T) (S : oS_T) : Option oS_T := if (oBrk (z.2.2.2 0) (oEv lw S) || (oBrk (z.2.2.2 1) (oEv lw S) || oBrk (z.2.2.2 2) (oEv lw S))) = true then none else if 0 ≤ (oDo lw z S).1 then some ((oDo lw z S).2, S.2.1 + 1, if z.1 = 1 then (oDo lw z S).1 else S.2.2) else none
def rtR (K : Nat) (zs : Nat → oz_T) (S : oS_T) (o : Option oS_T) (w : Option (Int32 × am_m)) : Prop := match o with
  | some S' => ∃ m', w = some (0, m') ∧ rQ K zs S' m'
  | none => ∃ m', w = some (-3, m') ∧ keepR S.1.1 (m'.1 44 0) ∧ m'.1 10 0 20 = 0
theorem r_tail (hi : i < K) (hd : ozd aw (zs i)) (hI : oI D r0 S) (hl : rf_law S.1.1 lw) (hw : rWr (oEv lw S) q) (hq : rQ K zs S q) (h58 : q.1 10 0 58 = 0) : rtR K zs S (oFin lw (zs i) S) (rTl (nI (10 * i)) q) := by
  have hK : K ≤ 12 := hq.2.2.2.2.2.1
  obtain ⟨z1, z2, z3, z4, z5, z6⟩ := hq.2.2.2.2.2.2 i hi
  obtain ⟨v0, m1, a1, a2, a3, a4, a5⟩ := rsumB (b := false) (x := 10 * i + 1) hw hq.2.1 (by omega) (z6 0 (by decide)) h58
  have q1 : rQ K zs S m1 := hq.kp a2 a3 rfl rfl
  have w1 := hw.kp a2
  have z61 := (q1.2.2.2.2.2.2 i hi).2.2.2.2.2 1 (by decide)
  rw [show 10 * i + 1 + 2 * 1 = 10 * i + 3 by omega] at z61
  obtain ⟨v1, m2, b1, b2, b3, b4, b5⟩ := rsumB (x := 10 * i + 3) w1 a3 (by omega) z61 a4
  have q2 : rQ K zs S m2 := q1.kp b2 b3 rfl rfl
  have w2 := w1.kp b2
  have z62 := (q2.2.2.2.2.2.2 i hi).2.2.2.2.2 2 (by decide)
  rw [show 10 * i + 1 + 2 * 2 = 10 * i + 5 by omega] at z62
  obtain ⟨v2, m3, c1, c2, c3, c4, c5⟩ := rsumB (x := 10 * i + 5) w2 b3 (by omega) z62 b4
  have q3 : rQ K zs S m3 := q2.kp c2 c3 rfl rfl
  have e3 : nI (10 * i) + (3 : Int32) = nI (10 * i + 3) := by rw [show (3 : Int32) = nI 3 from rfl, nI_add]
  have e5 : nI (10 * i) + (5 : Int32) = nI (10 * i + 5) := by rw [show (5 : Int32) = nI 5 from rfl, nI_add]
  have go : rTl (nI (10 * i)) q = (if (m3.1 10 0 58) = 0 then am_ck (nI (10 * i)) 120 ((fn_X10_act (m3.1 61 0 (nI (10 * i)).toNatClampNeg) v0 v1 v2 m3).bind fun r41 => (if 0 ≤ r41.1 then am_ck (nI (10 * i)) 120 (some (0, am_si (am_si r41.2 10 0 56 (if (r41.2.1 61 0 (nI (10 * i)).toNatClampNeg) ≠ (1 : Int32) then (r41.2.1 10 0 56) else r41.1)) 10 0 55 ((r41.2.1 10 0 55) + (1 : Int32)))) else some ((-3), r41.2))) else some ((-3), m3)) := by
    unfold rTl
    rw [show nI (10 * i) + (1 : Int32) = nI (10 * i + 1) from nI_1 _, a1, bd_s, e3, b1, bd_s, e5, c1, bd_s]
  rw [go, c4]
  unfold oFin
  by_cases br : (oBrk ((zs i).2.2.2 0) (oEv lw S) || (oBrk ((zs i).2.2.2 1) (oEv lw S) || oBrk ((zs i).2.2.2 2) (oEv lw S))) = true
  · have e : (((false || oBrk ((zs i).2.2.2 0) (oEv lw S)) || oBrk ((zs i).2.2.2 1) (oEv lw S)) || oBrk ((zs i).2.2.2 2) (oEv lw S)) = true := by
      rw [Bool.false_or, Bool.or_assoc]; exact br
    rw [if_pos br, e, if_neg (show ¬ bv true = 0 by decide)]
    refine ⟨m3, rfl, ?_, c3⟩
    rw [q3.1.1]; exact keepR.rf
  · have e : (((false || oBrk ((zs i).2.2.2 0) (oEv lw S)) || oBrk ((zs i).2.2.2 1) (oEv lw S)) || oBrk ((zs i).2.2.2 2) (oEv lw S)) = false := by
      rw [Bool.false_or, Bool.or_assoc]; exact (Bool.not_eq_true _).mp br
    obtain ⟨e01, n2⟩ := Bool.or_eq_false_iff.mp e
    obtain ⟨e0, n1⟩ := Bool.or_eq_false_iff.mp e01
    have n0 := (Bool.or_eq_false_iff.mp e0).2
    rw [if_neg br, e, if_pos (show bv false = 0 from rfl), ck_in (show 10 * i < 120 by omega) (by decide), nI_clamp (show 10 * i < 2 ^ 31 by omega), (q3.2.2.2.2.2.2 i hi).1]
    have d0 := (hd.2 0 (by decide)).1
    have d1 := (hd.2 1 (by decide)).1
    have d2 := (hd.2 2 (by decide)).1
    obtain ⟨m4, f1, f2⟩ := r_act (lw := lw) (v0 := v0) (v1 := v1) (v2 := v2) (a := oVal ((zs i).2.2.2 0) (oEv lw S)) (b := oVal ((zs i).2.2.2 1) (oEv lw S)) (c := oVal ((zs i).2.2.2 2) (oEv lw S)) z2 (fun z => a5 rfl n0 (d0.mp (by omega))) (fun z => b5 e0 n1 (d1.mp (by omega))) (fun z => c5 e01 n2 (d2.mp (by omega))) ⟨hI.1.2.2, hI.2.1⟩ hl c3 q3.1
    have k4 := kp_X10_act _ _ _ _ _ _ f1
    have g := oAct_I (lw := lw) (σ := S.1) (oVal ((zs i).2.2.2 0) (oEv lw S)) (oVal ((zs i).2.2.2 1) (oEv lw S)) (oVal ((zs i).2.2.2 2) (oEv lw S)) (zs i).1 ⟨hI.1.2.2, hI.2.1⟩
    have f1 : fn_X10_act (nI (zs i).1) v0 v1 v2 m3 = some ((oDo lw (zs i) S).1, m4) := f1
    have f2 : rWd (oDo lw (zs i) S).2 m4 := f2
    have g3 : keepR S.1.1 (oDo lw (zs i) S).2.1 := g.2.2
    rw [f1, bd_s]
    dsimp only
    by_cases ha : 0 ≤ (oDo lw (zs i) S).1
    · rw [if_pos ha, if_pos ha, ck_in (show 10 * i < 120 by omega) (by decide), k4.row 61 rfl, (q3.2.2.2.2.2.2 i hi).1, k4.fld 10 0 56 rfl, k4.fld 10 0 55 rfl, q3.2.2.1, q3.2.2.2.1]
      have e56 : (if nI (zs i).1 ≠ (1 : Int32) then S.2.2 else (oDo lw (zs i) S).1) = if (zs i).1 = 1 then (oDo lw (zs i) S).1 else S.2.2 := by
        by_cases w : (zs i).1 = 1
        · rw [if_pos w, if_neg (fun z => z (by rw [w]; rfl))]
        · rw [if_neg w, if_pos (show nI (zs i).1 ≠ (1 : Int32) from nI_ne (b := 1) (by omega) (by decide) w)]
      rw [e56]
      refine ⟨_, rfl, ⟨f2.1, f2.2.of rfl rfl rfl⟩, ?_, rfl, rfl, (q3.2.2.2.2.kp k4 rfl).kp (WI := [(10, 55), (10, 56)]) (WL := []) (E := 0) (am_kp.si (am_kp.si am_kp.rf rfl) rfl) rfl⟩
      show m4.1 10 0 20 = 0
      rw [k4.fld 10 0 20 rfl]; exact c3
    · rw [if_neg ha, if_neg ha]
      refine ⟨m4, rfl, ?_, by rw [k4.fld 10 0 20 rfl]; exact c3⟩
      rw [f2.1]; exact g3
end OH
