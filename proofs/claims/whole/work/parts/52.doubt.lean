/-! DOUBTED; a LAW compared -/
def sawS (r : Nat → Int32) (p q : Nat) : Nat → Bool
  | 0 => false
  | k + 1 => sawS r p q k || ((nv (r (112 + k))).testBit p && (nv (r (112 + k))).testBit q)
def dbF (R : Nat → Nat) (r : Nat → Int32) (p q : Nat) : Bool := !(R p).testBit q && sawS r p q (nv (r 1))
theorem two_all : ∀ s, s < 128 → ∀ p, p < 7 → ∀ q, q < 7 → ((nI s &&& ((1 : Int32) <<< (nI p &&& 31) ||| (1 : Int32) <<< (nI q &&& 31))) ≠ ((1 : Int32) <<< (nI p &&& 31) ||| (1 : Int32) <<< (nI q &&& 31)) ↔ (s.testBit p && s.testBit q) = false) := by decide +kernel
theorem saw_mono {r : Nat → Int32} {p q k : Nat} (h : sawS r p q k = true) : ∀ d, sawS r p q (k + d) = true
  | 0 => h
  | d + 1 => by rw [← Nat.add_assoc, sawS, saw_mono h d]; rfl
section DB
variable {m : am_m} {n p q : Nat} {R : Nat → Nat} {r : Nat → Int32} {D : Nat}
theorem wereSeen_ok (hU : iv_U m 0 r) (hW : iv_W D r) (hp : p < 7) (hq : q < 7) : fn_X6_wereSeen 0 (((1 : Int32) <<< (nI p &&& 31)) ||| ((1 : Int32) <<< (nI q &&& 31))) m = some (bv (sawS r p q (nv (r 1)))) := by
  have h6 := hW.2.2.1
  have e1 : m.1 8 0 1 = nI (nv (r 1)) := hU.2.1.trans (hW.k (by decide) (by decide))
  have key : ∃ b, lp_X6_wereSeen_2 1000000 0 (((1 : Int32) <<< (nI p &&& 31)) ||| ((1 : Int32) <<< (nI q &&& 31))) 0 m = some b ∧ ((b = .inl () ∧ sawS r p q (nv (r 1)) = false) ∨ (b = .inr 1 ∧ sawS r p q (nv (r 1)) = true)) := by
    refine lp_up0 (fun N x (_ : Unit) => lp_X6_wereSeen_2 N 0 (((1 : Int32) <<< (nI p &&& 31)) ||| ((1 : Int32) <<< (nI q &&& 31))) x m) (fun i _ => sawS r p q i = false) _ (nv (r 1)) (by omega) (fun N a hh => ⟨.inl (), ?_, Or.inl ⟨rfl, hh⟩⟩) (fun N i a hi hh => ?_) () rfl
    · show lp_X6_wereSeen_2 (N + 1) 0 _ (nI (nv (r 1))) m = _
      rw [lp_X6_wereSeen_2.eq_2, e1, if_pos (nI_le (Nat.le_refl _) (by omega))]
    · show (∃ a', lp_X6_wereSeen_2 (N + 1) 0 _ (nI i) m = lp_X6_wereSeen_2 N 0 _ (nI (i + 1)) m ∧ _) ∨ ∃ b, lp_X6_wereSeen_2 (N + 1) 0 _ (nI i) m = some b ∧ _
      have hs := hW.2.2.2.2.2.2.2.2.2.2.2 i (by omega)
      rw [lp_X6_wereSeen_2.eq_2, e1, if_neg (nI_ge hi (by omega)), ck_in (by omega) (by decide), nI_clamp (by omega), hU.2.2.2.2.2.2.2.2 i (by omega), hW.k (k := 112 + i) (by omega) (by omega), nI_1]
      cases e : ((nv (r (112 + i))).testBit p && (nv (r (112 + i))).testBit q) with
      | false =>
        rw [if_pos ((two_all _ hs p hp q hq).mpr e)]
        exact Or.inl ⟨(), rfl, by rw [sawS, hh, e]; rfl⟩
      | true =>
        rw [if_neg (fun z => by rw [(two_all _ hs p hp q hq).mp z] at e; cases e)]
        refine Or.inr ⟨.inr 1, rfl, Or.inr ⟨rfl, ?_⟩⟩
        have h1 : sawS r p q (i + 1) = true := by rw [sawS, e, Bool.or_true]
        have := saw_mono h1 (nv (r 1) - (i + 1))
        rw [show i + 1 + (nv (r 1) - (i + 1)) = nv (r 1) by omega] at this
        exact this
  obtain ⟨b, e, qq⟩ := key
  unfold fn_X6_wereSeen
  rw [e, bd_s]
  rcases qq with ⟨rfl, w⟩ | ⟨rfl, w⟩
  · rw [w]; rfl
  · rw [w]; rfl
theorem satBoth_ok (hW : iv_W D (m.1 44 0)) (hp : p < 7) (hq : q < 7) : fn_X10_satBoth (nI p) (nI q) m = some (bv (sawS (m.1 44 0) p q (nv (m.1 44 0 1)))) := by
  have h6 := hW.2.2.1
  have e1 : m.1 44 0 1 = nI (nv (m.1 44 0 1)) := hW.k (by decide) (by decide)
  unfold fn_X10_satBoth
  rw [show lp_X10_satBoth_5 1000000 (nI p) (nI q) 0 0 m = some (bv (sawS (m.1 44 0) p q (nv (m.1 44 0 1)))) from lp_eq (fun N x a => lp_X10_satBoth_5 N (nI p) (nI q) a x m) (fun i => bv (sawS (m.1 44 0) p q i)) _ (nv (m.1 44 0 1)) (by omega) (fun N => ?_) (fun N i hi => ?_) 0 (by omega), bd_s, gd_t (bv_01 _)]
  · show lp_X10_satBoth_5 (N + 1) (nI p) (nI q) _ (nI (nv (m.1 44 0 1))) m = _
    rw [lp_X10_satBoth_5.eq_2, if_pos (by rw [e1, nv_nI (nv_lt _)]; exact nI_le (Nat.le_refl _) (nv_lt _))]
  · show lp_X10_satBoth_5 (N + 1) (nI p) (nI q) (bv (sawS (m.1 44 0) p q i)) (nI i) m = lp_X10_satBoth_5 N (nI p) (nI q) (bv (sawS (m.1 44 0) p q (i + 1))) (nI (i + 1)) m
    have hs := hW.2.2.2.2.2.2.2.2.2.2.2 i (by omega)
    rw [lp_X10_satBoth_5.eq_2, if_neg (by rw [e1]; exact nI_ge hi (by omega)), nI_1, sawS]
    cases e : sawS (m.1 44 0) p q i with
    | true => rw [if_pos (show bv true ≠ 0 by decide), bd_s]; rfl
    | false =>
      rw [if_neg (show ¬ bv false ≠ 0 by decide), show (112 : Int32) = nI 112 from rfl, nI_add, ck_in (by omega) (by decide), nI_clamp (by omega), hW.k (k := 112 + i) (by omega) (by omega), is_ok hs hp, bd_s]
      rw [nv_nI (by omega)]
      cases e2 : (nv (m.1 44 0 (112 + i))).testBit p with
      | false => rw [if_pos (show bv false = 0 from rfl), bd_s]; rfl
      | true =>
        rw [if_neg (show ¬ bv true = 0 by decide), ck_in (by omega) (by decide), is_ok hs hq, bd_s]
        cases (nv (m.1 44 0 (112 + i))).testBit q <;> rfl
theorem cdb_in (h : clsR n R m) (hU : iv_U m 0 r) (hW : iv_W D r) (hn : n ≤ 7) (hR : ∀ p, p < n → R p < 2 ^ n) (hp : p < n) (ht : twS (all_l (dbF R r) n p) m) : ∃ m', lp_X6_findDoubted_19 1000000 0 (nI p) (nI (p + 1)) m = some m' ∧ (clsR n R m' ∧ iv_U m' 0 r ∧ twS (all_l (dbF R r) n (p + 1)) m') := by
  refine lp_up (fun N x a => lp_X6_findDoubted_19 N 0 (nI p) x a) (fun i m1 => clsR n R m1 ∧ p < i ∧ iv_U m1 0 r ∧ twS (all_l (dbF R r) n p ++ rwl (dbF R r) p i) m1) _ n (fun N m1 hh => ⟨m1, ?_, hh.1, hh.2.2⟩) (fun N i m1 hi hh => Or.inl ?_) (n - (p + 1)) (p + 1) 1000000 m (by omega) (by omega) ⟨h, by omega, hU, by rw [rwl_0 _ _ _ (Nat.le_refl _), List.append_nil]; exact ht⟩
  · show lp_X6_findDoubted_19 (N + 1) 0 (nI p) (nI n) m1 = _
    rw [lp_X6_findDoubted_19.eq_2, hh.1.1, if_pos (nI_le (Nat.le_refl _) (by omega))]
  · show ∃ a', lp_X6_findDoubted_19 (N + 1) 0 (nI p) (nI i) m1 = lp_X6_findDoubted_19 N 0 (nI p) (nI (i + 1)) a' ∧ _
    obtain ⟨h1, h2, hU1, h3⟩ := hh
    have hl : R p < 128 := Nat.lt_of_lt_of_le (hR p hp) (pw_le hn)
    rw [lp_X6_findDoubted_19.eq_2, h1.1, if_neg (nI_ge hi (by omega)), ck_in (by omega) (by decide), nI_clamp (by omega), h1.2 p hp, bit1 _ hl i (by omega), nI_1]
    have hno : dbF R r p i = false → twS (all_l (dbF R r) n p ++ rwl (dbF R r) p (i + 1)) m1 := fun z => by
      rw [rwl, if_neg (fun w => by rw [z] at w; cases w.2), List.append_nil]
      exact h3
    cases e : (R p).testBit i with
    | true =>
      rw [if_pos (show bv true ≠ 0 by decide), bd_s]
      exact ⟨m1, rfl, h1, by omega, hU1, hno (by unfold dbF; rw [e]; rfl)⟩
    | false =>
      rw [if_neg (show ¬ bv false ≠ 0 by decide), wereSeen_ok hU1 hW (by omega) (by omega), bd_s]
      cases g : sawS r p i (nv (r 1)) with
      | true =>
        obtain ⟨m2, e2, t2⟩ := addTwo_ok p i h3 (tw_room _ hn h2 hi)
        have k2 := kp_X6_addTwo _ _ _ _ e2
        rw [if_neg (show ¬ bv true = 0 by decide), e2, bd_s, bd_s]
        refine ⟨m2, rfl, h1.of (k2.fld 6 0 0 rfl) (k2.row 30 rfl), by omega, hU1.of ⟨by rw [k2.obj 8 rfl], by rw [k2.row 36 rfl], by rw [k2.row 37 rfl], by rw [k2.row 38 rfl], by rw [k2.row 39 rfl], by rw [k2.row 40 rfl]⟩, ?_⟩
        rw [rwl, if_pos ⟨h2, by unfold dbF; rw [e, g]; rfl⟩, ← List.append_assoc]
        exact t2
      | false =>
        rw [if_pos (show bv false = 0 from rfl), bd_s]
        exact ⟨m1, rfl, h1, by omega, hU1, hno (by unfold dbF; rw [g, Bool.and_false])⟩
theorem cdoubted_ok (h : clsR n R m) (hU : iv_U m 0 r) (hW : iv_W D r) (hn : n ≤ 7) (hR : ∀ p, p < n → R p < 2 ^ n) : ∃ m', fn_X6_findDoubted 0 m = some m' ∧ twS (all_l (dbF R r) n n) m' := by
  have h' : clsR n R (am_si m 6 0 7 0) := h
  have hU' : iv_U (am_si m 6 0 7 0) 0 r := hU
  unfold fn_X6_findDoubted
  refine (lp_up0 (fun N x a => lp_X6_findDoubted_7 N 0 x a) (fun i m1 => clsR n R m1 ∧ iv_U m1 0 r ∧ twS (all_l (dbF R r) n i) m1) (fun m' => twS (all_l (dbF R r) n n) m') n (by omega) (fun N m1 hh => ⟨m1, ?_, hh.2.2⟩) (fun N i m1 hi hh => Or.inl ?_) (am_si m 6 0 7 0) ⟨h', hU', rfl, fun j hj => absurd hj (Nat.not_lt_zero _)⟩).elim (fun m' he => ?_)
  · show lp_X6_findDoubted_7 (N + 1) 0 (nI n) m1 = _
    rw [lp_X6_findDoubted_7.eq_2, hh.1.1, if_pos (nI_le (Nat.le_refl _) (by omega))]
  · obtain ⟨m2, e2, q2⟩ := cdb_in hh.1 hh.2.1 hW hn hR hi hh.2.2
    refine ⟨m2, ?_, q2⟩
    show lp_X6_findDoubted_7 (N + 1) 0 (nI i) m1 = lp_X6_findDoubted_7 N 0 (nI (i + 1)) m2
    rw [lp_X6_findDoubted_7.eq_2, hh.1.1, if_neg (nI_ge hi (by omega)), nI_1, e2, bd_s]
  · obtain ⟨e, q⟩ := he
    rw [show lp_X6_findDoubted_7 1000000 0 0 (am_si m 6 0 7 0) = _ from e, bd_s]
    exact ⟨m', rfl, q⟩
end DB
section RDB
variable {m : am_m} {n D : Nat} {M A : Nat → Nat → Bool} {i : Int32}
theorem rdb_in {a : Nat} (hl : laid n M A m) (hn : n ≤ 7) (h0 : m.1 44 0 0 = nI n) (hW : iv_W D (m.1 44 0)) (ha : a < n) {x2 x3 : Int32} (h2 : x2 = nI (all_l (dbF (rowOf n M) (m.1 44 0)) n a).length) (h3 : x3 = itsS i (all_l (dbF (rowOf n M) (m.1 44 0)) n a)) : lp_X10_doubted_33 1000000 i x2 x3 (nI a) (nI (a + 1)) m = some (nI (all_l (dbF (rowOf n M) (m.1 44 0)) n (a + 1)).length, itsS i (all_l (dbF (rowOf n M) (m.1 44 0)) n (a + 1))) := by
  have e0 : (x2, x3) = (nI (all_l (dbF (rowOf n M) (m.1 44 0)) n a ++ rwl (dbF (rowOf n M) (m.1 44 0)) a (a + 1)).length, itsS i (all_l (dbF (rowOf n M) (m.1 44 0)) n a ++ rwl (dbF (rowOf n M) (m.1 44 0)) a (a + 1))) := by rw [rwl_0 _ _ _ (Nat.le_refl _), List.append_nil, h2, h3]
  have key := lp_up (fun N x (t : Int32 × Int32) => lp_X10_doubted_33 N i t.1 t.2 (nI a) x m) (fun b t => a < b ∧ t = (nI (all_l (dbF (rowOf n M) (m.1 44 0)) n a ++ rwl (dbF (rowOf n M) (m.1 44 0)) a b).length, itsS i (all_l (dbF (rowOf n M) (m.1 44 0)) n a ++ rwl (dbF (rowOf n M) (m.1 44 0)) a b))) (fun t => t = (nI (all_l (dbF (rowOf n M) (m.1 44 0)) n (a + 1)).length, itsS i (all_l (dbF (rowOf n M) (m.1 44 0)) n (a + 1)))) n (fun N t hh => ⟨t, by
      show lp_X10_doubted_33 (N + 1) i t.1 t.2 (nI a) (nI n) m = _
      rw [lp_X10_doubted_33.eq_2, h0, if_pos (nI_le (Nat.le_refl _) (by omega))], hh.2⟩) (fun N b t hb hh => Or.inl (by
      obtain ⟨g3, rfl⟩ := hh
      have hbit : (rowOf n M a).testBit b = M a b := by unfold rowOf; rw [sx_bit, decide_eq_true hb]; rfl
      show ∃ a' : Int32 × Int32, lp_X10_doubted_33 (N + 1) i _ _ (nI a) (nI b) m = lp_X10_doubted_33 N i a'.1 a'.2 (nI a) (nI (b + 1)) m ∧ _
      rw [lp_X10_doubted_33.eq_2, h0, if_neg (nI_ge hb (by omega)), satBoth_ok hW (by omega) (by omega), bd_s, nI_1]
      have hno : dbF (rowOf n M) (m.1 44 0) a b = false → rwl (dbF (rowOf n M) (m.1 44 0)) a (b + 1) = rwl (dbF (rowOf n M) (m.1 44 0)) a b := fun z => by
        rw [rwl, if_neg (fun w => by rw [z] at w; cases w.2), List.append_nil]
      cases e : sawS (m.1 44 0) a b (nv (m.1 44 0 1)) with
      | false =>
        rw [if_pos (show bv false = 0 from rfl), bd_s]
        exact ⟨(nI (all_l (dbF (rowOf n M) (m.1 44 0)) n a ++ rwl (dbF (rowOf n M) (m.1 44 0)) a b).length, itsS i (all_l (dbF (rowOf n M) (m.1 44 0)) n a ++ rwl (dbF (rowOf n M) (m.1 44 0)) a b)), by rw [nI_1], by omega, by rw [hno (by unfold dbF; rw [e, Bool.and_false])]⟩
      | true =>
        rw [if_neg (show ¬ bv true = 0 by decide), i7, ck_in (by omega) (by decide), nI_clamp (by omega), (hl a b ha hb).1]
        cases e2 : M a b with
        | true =>
          rw [if_pos (show bv true ≠ 0 by decide), bd_s]
          exact ⟨(nI (all_l (dbF (rowOf n M) (m.1 44 0)) n a ++ rwl (dbF (rowOf n M) (m.1 44 0)) a b).length, itsS i (all_l (dbF (rowOf n M) (m.1 44 0)) n a ++ rwl (dbF (rowOf n M) (m.1 44 0)) a b)), by rw [nI_1], by omega, by rw [hno (by unfold dbF; rw [hbit, e2]; rfl)]⟩
        | false =>
          rw [if_neg (show ¬ bv false ≠ 0 by decide), bd_s, i10, its_step _ _ _ (by have := tw_room (dbF (rowOf n M) (m.1 44 0)) hn g3 hb; omega)]
          refine ⟨(nI ((all_l (dbF (rowOf n M) (m.1 44 0)) n a ++ rwl (dbF (rowOf n M) (m.1 44 0)) a b).length + 1), itsS i ((all_l (dbF (rowOf n M) (m.1 44 0)) n a ++ rwl (dbF (rowOf n M) (m.1 44 0)) a b) ++ [10 * a + b])), by rw [nI_1], by omega, ?_⟩
          rw [rwl, if_pos ⟨g3, by unfold dbF; rw [hbit, e2, e]; rfl⟩, ← List.append_assoc, List.length_append (as := (all_l (dbF (rowOf n M) (m.1 44 0)) n a ++ rwl (dbF (rowOf n M) (m.1 44 0)) a b))]
          rfl)) (n - (a + 1)) (a + 1) 1000000 (x2, x3) (by omega) (by omega) ⟨by omega, e0⟩
  obtain ⟨t, e, rfl⟩ := key
  exact e
theorem rdoubted_ok (hl : laid n M A m) (hn : n ≤ 7) (h0 : m.1 44 0 0 = nI n) (hW : iv_W D (m.1 44 0)) : lp_X10_doubted_16 1000000 i 0 (-1) 0 m = some (nI (all_l (dbF (rowOf n M) (m.1 44 0)) n n).length, itsS i (all_l (dbF (rowOf n M) (m.1 44 0)) n n)) := by
  have e0 : ((0 : Int32), (-1 : Int32)) = (nI (all_l (dbF (rowOf n M) (m.1 44 0)) n 0).length, itsS i (all_l (dbF (rowOf n M) (m.1 44 0)) n 0)) := by
    show ((0 : Int32), (-1 : Int32)) = (nI 0, itsS i [])
    unfold itsS
    rw [if_neg (fun z => absurd z.2 (Nat.not_lt_zero _))]
    rfl
  have key := lp_eq (fun N x (t : Int32 × Int32) => lp_X10_doubted_16 N i t.1 t.2 x m) (fun a => (nI (all_l (dbF (rowOf n M) (m.1 44 0)) n a).length, itsS i (all_l (dbF (rowOf n M) (m.1 44 0)) n a))) (nI (all_l (dbF (rowOf n M) (m.1 44 0)) n n).length, itsS i (all_l (dbF (rowOf n M) (m.1 44 0)) n n)) n (by omega) (fun N => by
      show lp_X10_doubted_16 (N + 1) i _ _ (nI n) m = _
      rw [lp_X10_doubted_16.eq_2, h0, if_pos (nI_le (Nat.le_refl _) (by omega))]) (fun N a ha => by
      show lp_X10_doubted_16 (N + 1) i _ _ (nI a) m = lp_X10_doubted_16 N i _ _ (nI (a + 1)) m
      rw [lp_X10_doubted_16.eq_2, h0, if_neg (nI_ge ha (by omega)), nI_1, rdb_in hl hn h0 hW ha rfl rfl, bd_s]) 0 (by omega)
  rw [← e0] at key
  exact key
end RDB
theorem op_doubted {m : am_m} (h : Inv m) (i : Int32) : op_ok m (fun m => fn_X9_doubted i m) (fun m => fn_X10_doubted i m) := by
  obtain ⟨n, R, lw, m1, -, eR, gd, e44, e8, e1, c1, j1, f1, hr⟩ := both_ok h
  have hn := gd.1
  have hR : ∀ p, p < n → R p < 2 ^ n := fun p hp => (gd.2 p hp).1
  refine op_look h (fun t => kp_X9_doubted _ m t) (fun m1 t => kp_X10_doubted _ m1 t) rfl rfl rfl (if i = -1 then nI (all_l (dbF R (m.1 44 0)) n n).length else itsS i (all_l (dbF R (m.1 44 0)) n n)) ?_ ?_
  · show ∃ m', fn_X9_doubted i m = some (_, m')
    unfold fn_X9_doubted
    obtain ⟨m2, e2, t2⟩ := cdoubted_ok c1 j1.2.1 j1.2.2.1 hn hR
    rw [e1, bd_s, e2, bd_s, twoOf_ok i t2 (all_21 _ hn), bd_s]
    exact ⟨_, rfl⟩
  · intro m2 i2 f2
    obtain ⟨m3, e3, r3, l3, f3⟩ := hr m2 i2 f2
    show ∃ m', fn_X10_doubted i m2 = some (_, m')
    unfold fn_X10_doubted
    have e4 := rdoubted_ok (i := i) (D := 999) l3 hn (by rw [f3]; exact e44) (by rw [f3]; exact h.w)
    rw [← eR, f3] at e4
    rw [e3, bd_s, e4, bd_s]
    by_cases ei : i = -1
    · rw [if_neg (fun z => z ei), if_pos ei]
      exact ⟨_, rfl⟩
    · rw [if_pos ei, if_neg ei]
      exact ⟨_, rfl⟩
/-! a LAW compared -/
theorem mtx_cong {r r' : Nat → Int32} {lw : lw_T} (h : ∀ k, k < 118 → k ≠ 3 → r' k = r k) {a b : Nat} (ha : a < 7) (hb : b < 7) : mtx r' lw a b = mtx r lw a b ∧ atx r' lw a b = atx r lw a b := by
  have he : ∀ p q, p < 7 → q < 7 → ew2 r' p q = ew2 r p q := fun p q hp hq => by
    unfold ew2
    rw [h (14 + (7 * p + q)) (by omega) (by omega), h 4 (by omega) (by omega), h (63 + (7 * p + q)) (by omega) (by omega), h (7 + p) (by omega) (by omega), h 6 (by omega) (by omega)]
  have hb2 : ∀ p q, p < 7 → q < 7 → sp_bar r' lw p q = sp_bar r lw p q := fun p q hp hq => by unfold sp_bar; rw [he p q hp hq]
  have hc : ∀ p q, p < 7 → q < 7 → sp_cnt r' lw p q = sp_cnt r lw p q := fun p q hp hq => by unfold sp_cnt; rw [he p q hp hq, h (14 + (7 * p + q)) (by omega) (by omega)]
  unfold mtx atx sp_may
  rw [hb2 a b ha hb, hb2 b a hb ha, hc a b ha hb, hc b a hb ha]
  exact ⟨rfl, rfl⟩
theorem op_compare {m : am_m} (h : Inv m) (a : Int32) : op_ok m (fun m => fn_X9_compare a m) (fun m => fn_X10_compare a m) := by
  obtain ⟨n, hn, e44, e8, en⟩ := h.n
  have hU := h.u
  have hW := h.w
  have e2 : m.1 44 0 2 = nI (nv (m.1 44 0 2)) := hW.k (by decide) (by decide)
  have e82 : m.1 8 0 2 = nI (nv (m.1 44 0 2)) := hU.2.2.1.trans e2
  have n6 : nv (m.1 44 0 2) ≤ 6 := hW.2.2.2.1
  have hlaw : fn_X8_hasLaw 0 a m = some (if (-1 : Int32) ≤ a ∧ a < nI (nv (m.1 44 0 2)) then 1 else 0) := by
    unfold fn_X8_hasLaw
    rw [e82]
    by_cases h1 : a < -1
    · rw [if_pos h1, if_neg (fun q => (fa_of_lt h1).2.1 q.1)]
    · by_cases h2 : nI (nv (m.1 44 0 2)) ≤ a
      · rw [if_neg h1, if_pos h2, if_neg (fun q => (fa_of_lt q.2).2.1 h2)]
      · rw [if_neg h1, if_neg h2, if_pos ⟨fa_of_nlt h1, fa_of_nle h2⟩]
  have hisl : ∀ m' : am_m, m'.1 44 0 2 = m.1 44 0 2 → fn_X10_isLaw a m' = some (if (-1 : Int32) ≤ a ∧ a < nI (nv (m.1 44 0 2)) then 1 else 0) := fun m' em => by
    unfold fn_X10_isLaw
    by_cases h1 : a = -1
    · rw [if_pos h1, if_pos ⟨by rw [h1]; decide, by rw [h1, fa_lt, nI_toInt (by omega)]; show (-1 : Int) < _; omega⟩]
    · rw [if_neg h1, em, e2, fk_pred _ (by omega), show (0 : Int64) = (0 : Int32).toInt64 from rfl, in_32, bd_s]
      have hi : (0 ≤ a ∧ a ≤ nI (nv (m.1 44 0 2)) - 1) ↔ ((-1 : Int32) ≤ a ∧ a < nI (nv (m.1 44 0 2))) := by
        rw [le_pred (by omega), fa_le, fa_le]
        have hne : a.toInt ≠ -1 := fun z => h1 ((fa_eq _ _).mpr z)
        show (0 ≤ a.toInt ∧ _) ↔ (-1 ≤ a.toInt ∧ _)
        constructor
        · rintro ⟨z1, z2⟩; exact ⟨by omega, z2⟩
        · rintro ⟨z1, z2⟩; exact ⟨by omega, z2⟩
      by_cases h2 : (-1 : Int32) ≤ a ∧ a < nI (nv (m.1 44 0 2))
      · rw [if_pos (hi.mpr h2), nv_nI (by omega), if_pos h2, if_neg (by decide)]
      · rw [if_neg (fun z => h2 (hi.mp z)), nv_nI (by omega), if_neg h2, if_pos rfl]
  by_cases H : (-1 : Int32) ≤ a ∧ a < nI (nv (m.1 44 0 2))
  · have ha : a = -1 ∨ (a = nI (nv a) ∧ nv a < nv (m.1 44 0 2)) := by
      by_cases h0 : a < 0
      · left
        rw [fa_eq]
        have h1 : (-1 : Int) ≤ a.toInt := (fa_le _ _).mp H.1
        have h2 : a.toInt < 0 := (fa_lt _ _).mp h0
        show a.toInt = -1
        omega
      · right
        have e := nI_nv h0
        refine ⟨e, (nI_ltI (nv_lt a) (by omega)).mp ?_⟩
        rw [← e]
        exact H.2
    obtain ⟨lw, l1, o, l2, l3⟩ := law_of h ha
    have j1 : jdx 999 0 (m.1 44 0) lw (am_sb (am_sa m (some 0)) o) := ⟨rfl, hU, hW, l3 _⟩
    obtain ⟨m1, e1, j1, s1⟩ := lookAt_ok j1 (by decide)
    rw [en] at s1
    have c1 := s1.cls
    have gd := rowOf_gd hn (mtx_comm (m.1 44 0) lw) (mtx_irr (m.1 44 0) lw)
    have hl : bst (tb (rowOf n (mtx (m.1 44 0) lw)) n) (2 ^ n) < 128 := Nat.lt_of_lt_of_le (bst_lt _ _ (pw_pos n)) (pw_le hn)
    have hf : fn_X9_compare a m = some (nI (pc (bst (tb (rowOf n (mtx (m.1 44 0) lw)) n) (2 ^ n))), m1) := by
      unfold fn_X9_compare fn_X1_look
      rw [hlaw, if_pos H, bd_s, if_pos (by decide), l2, bd_s, bd_s, e1, bd_s, clargest_ok c1 hn, bd_s, bc_ok hl, bd_s]
    have i1 := h.look (kp_X9_compare _ _ _ hf) rfl rfl
    have f1 : m1.1 44 = m.1 44 := ((kp_X9_compare _ _ _ hf)).row 44 rfl
    -- the reference, with that LAW in force for a while
    have hr3 : ∀ k, k ≠ 3 → (am_si (am_si m1 10 0 0 0) 44 0 3 a).1 44 0 k = m.1 44 0 k := fun k hk => by
      rw [rd_j, if_neg hk]
      show m1.1 44 0 k = _
      rw [f1]
    have hr33 : (am_si (am_si m1 10 0 0 0) 44 0 3 a).1 44 0 3 = a := by rw [rd_j, if_pos rfl]
    have hx : rfx 999 lw (am_si (am_si m1 10 0 0 0) 44 0 3 a) := by
      refine ⟨?_, l1 _ hr33 (fun k hk => hr3 k (by omega)), ?_⟩
      · unfold iv_W
        obtain ⟨w1, w2, w3, w4, w5, w6, w7, w8, w9, w10, w11, w12⟩ := hW
        refine ⟨fun k hk h3 => by rw [hr3 k h3]; exact w1 k hk h3, by rw [hr3 0 (by decide)]; exact w2, by rw [hr3 1 (by decide)]; exact w3, by rw [hr3 2 (by decide)]; exact w4, by rw [hr33, hr3 2 (by decide)]; exact ha, by rw [hr3 4 (by decide)]; exact w6, by rw [hr3 5 (by decide)]; exact w7, by rw [hr3 6 (by decide)]; exact w8, fun k hk => by rw [hr3 _ (by omega)]; exact w9 k hk, fun p q hp hq => by rw [hr3 _ (by omega), hr3 0 (by decide)]; exact w10 p q hp hq, fun k hk => by rw [hr3 _ (by omega)]; exact w11 k hk, fun k hk => by rw [hr3 _ (by omega)]; exact w12 k hk⟩
      · exact i1.1.2.2.2.2.2.2.2.1.2.2.2
    obtain ⟨m3, e3, l3'⟩ := layMay_ok hx
    have k3 := kp_X10_layMay _ _ e3
    have en' : nv ((am_si (am_si m1 10 0 0 0) 44 0 3 a).1 44 0 0) = n := by rw [hr3 0 (by decide)]; exact en
    rw [en'] at l3'
    have l4 : laid n (mtx (m.1 44 0) lw) (atx (m.1 44 0) lw) (am_si m3 44 0 3 (m1.1 44 0 3)) := fun x y hx hy => by
      have := l3' x y hx hy
      have mc := mtx_cong (r := m.1 44 0) (r' := (am_si (am_si m1 10 0 0 0) 44 0 3 a).1 44 0) (lw := lw) (fun k hk h3 => hr3 k h3) (a := x) (b := y) (by omega) (by omega)
      refine ⟨?_, ?_⟩
      · rw [← mc.1]; exact this.1
      · rw [← mc.2]; exact this.2
    have f4 : (am_si m3 44 0 3 (m1.1 44 0 3)).1 44 0 = m.1 44 0 := by
      funext k
      rw [rd_j, k3.row 44 rfl]
      by_cases e : k = 3
      · rw [if_pos e, e, f1]
      · rw [if_neg e]; exact hr3 k e
    have r4 := l4.ref hn (by rw [f4]; exact e44)
    have hg : fn_X10_compare a m1 = some (nI (pc (bst (tb (rowOf n (mtx (m.1 44 0) lw)) n) (2 ^ n))), am_si m3 44 0 3 (m1.1 44 0 3)) := by
      unfold fn_X10_compare
      rw [hisl _ (by show m1.1 44 0 2 = _; rw [f1]), if_pos H, bd_s, if_pos (by decide), e3, bd_s, rlargest_ok r4 hn, bd_s, ones_ok hl, bd_s]
    refine ⟨_, m1, _, hf, hg, i1.look (WI := [(10, 0), (10, 34), (10, 38), (92, 0), (93, 0)]) (WL := [(10, 39), (10, 40), (85, 0), (87, 0)]) (E := 0) ⟨fun c x k hk => ?_, fun c x k hk => ?_, ?_⟩ rfl rfl⟩
    · have hk3 : am_hit [(10, 34), (10, 38), (92, 0), (93, 0)] c k = false := am_sub_hit rfl hk
      rw [rd_si]
      by_cases e : c = 44 ∧ x = 0 ∧ k = 3
      · obtain ⟨rfl, rfl, rfl⟩ := e
        rw [if_pos ⟨rfl, rfl, rfl⟩]
      · rw [if_neg e, k3.1 c x k hk3, rd_si, if_neg e, rd_si]
        have h10 : ¬ (c = 10 ∧ x = 0 ∧ k = 0) := fun z => by
          rw [z.1, z.2.2] at hk
          cases hk
        rw [if_neg h10]
    · exact k3.2.1 c x k hk
    · exact k3.2.2
  · refine ⟨-1, m, am_si m 10 0 0 0, ?_, ?_, h.look (WI := [(10, 0)]) (WL := []) (E := 0) (am_kp.si am_kp.rf rfl) rfl rfl⟩
    · show fn_X9_compare a m = _
      unfold fn_X9_compare
      rw [hlaw, if_neg H, bd_s, if_neg (by decide)]
    · show fn_X10_compare a m = _
      unfold fn_X10_compare
      rw [hisl (am_si m 10 0 0 0) rfl, if_neg H, bd_s, if_neg (by decide)]
