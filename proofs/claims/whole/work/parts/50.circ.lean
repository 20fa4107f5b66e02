/-! CIRCLES -/
/-- a pass over all: whoever is met brings those with whom he may sit -/
def psI (R : Nat → Nat) (c : Nat) : Nat → Nat
  | 0 => c
  | i + 1 => if (psI R c i).testBit i then psI R c i ||| R i else psI R c i
def itr (R : Nat → Nat) (n c : Nat) : Nat → Nat
  | 0 => c
  | k + 1 => psI R (itr R n c k) n
/-- who is met, how many CIRCLES there are, when those below p have been gone through -/
def ccn (R : Nat → Nat) (n : Nat) : Nat → Nat × Nat
  | 0 => (0, 0)
  | p + 1 => if (ccn R n p).1.testBit p then ccn R n p else ((ccn R n p).1 ||| itr R n (2 ^ p) 7, (ccn R n p).2 + 1)
def cc (R : Nat → Nat) (n : Nat) : Nat := (ccn R n n).2
/-- the rows without two of them together -/
def remR (R : Nat → Nat) (p q : Nat) : Nat → Nat := fun k => if k = p then sd (R p) (2 ^ q) else if k = q then sd (R q) (2 ^ p) else R k
section PS
variable {R R' : Nat → Nat} {n c d : Nat}
theorem sub_or {a b k : Nat} (h : a.testBit k = true) : (a ||| b).testBit k = true := by rw [Nat.testBit_or, h]; rfl
theorem psI_sub : ∀ i k, c.testBit k = true → (psI R c i).testBit k = true
  | 0, _, h => h
  | i + 1, k, h => by
    rw [psI]
    by_cases e : (psI R c i).testBit i = true
    · rw [if_pos e]; exact sub_or (psI_sub i k h)
    · rw [if_neg e]; exact psI_sub i k h
theorem psI_lt (hR : ∀ p, p < n → R p < 2 ^ n) (hc : c < 2 ^ n) : ∀ i, i ≤ n → psI R c i < 2 ^ n
  | 0, _ => hc
  | i + 1, h => by
    have ih := psI_lt hR hc i (by omega)
    rw [psI]
    by_cases e : (psI R c i).testBit i = true
    · rw [if_pos e]; exact Nat.or_lt_two_pow ih (hR i (by omega))
    · rw [if_neg e]; exact ih
theorem psI_cong (h : ∀ p, p < n → R p = R' p) : ∀ i, i ≤ n → psI R c i = psI R' c i
  | 0, _ => rfl
  | i + 1, hi => by rw [psI, psI, psI_cong h i (by omega), h i (by omega)]
theorem itr_cong (h : ∀ p, p < n → R p = R' p) : ∀ k, itr R n c k = itr R' n c k
  | 0 => rfl
  | k + 1 => by rw [itr, itr, itr_cong h k, psI_cong h n (Nat.le_refl n)]
theorem ccn_cong (h : ∀ p, p < n → R p = R' p) : ∀ p, ccn R n p = ccn R' n p
  | 0 => rfl
  | p + 1 => by rw [ccn, ccn, ccn_cong h p, itr_cong h]
theorem cc_cong (h : ∀ p, p < n → R p = R' p) : cc R n = cc R' n := by unfold cc; rw [ccn_cong h]
theorem itr_lt (hR : ∀ p, p < n → R p < 2 ^ n) (hc : c < 2 ^ n) : ∀ k, itr R n c k < 2 ^ n
  | 0 => hc
  | k + 1 => psI_lt hR (itr_lt hR hc k) n (Nat.le_refl n)
theorem pc_le_n {s : Nat} (hn : n ≤ 7) (hs : s < 2 ^ n) : pc s ≤ n := by
  unfold pc
  rw [fb_ct_cut hn (fun k h1 _ => bit_big hs h1)]
  exact fb_ct_le _ _
/-- more in it, more of them -/
theorem pc_grow {a b : Nat} (hb : b < 128) (h : ∀ k, a.testBit k = true → b.testBit k = true) (hne : b ≠ a) : pc a < pc b := by
  have e : pc b = pc a + fb_ct (fun k => b.testBit k && !a.testBit k) 7 := by
    unfold pc
    rw [← fb_ct_or (fun k _ z => by
      obtain ⟨z1, z2⟩ := z
      rw [z1] at z2
      simp at z2)]
    refine fb_ct_cong (fun k _ => ?_)
    cases ha : a.testBit k with
    | true => rw [h k ha]; rfl
    | false => simp
  have hp : 0 < fb_ct (fun k => b.testBit k && !a.testBit k) 7 := by
    rw [fb_ct_pos]
    obtain ⟨k, hk⟩ := Nat.exists_testBit_ne_of_ne hne
    have hbk : b.testBit k = true := by
      cases z : b.testBit k with
      | true => rfl
      | false =>
        cases w : a.testBit k with
        | true => rw [h k w] at z; cases z
        | false => exact absurd (z.trans w.symm) hk
    have hak : a.testBit k = false := by
      cases w : a.testBit k with
      | true => exact absurd (hbk.trans w.symm) hk
      | false => rfl
    exact ⟨k, bit_lt (n := 7) hb hbk, by rw [hbk, hak]; rfl⟩
  omega
theorem pc_pos {s : Nat} (h0 : s ≠ 0) (hs : s < 128) : 1 ≤ pc s := by
  have := pc_grow (a := 0) (b := s) hs (fun k hk => by rw [Nat.zero_testBit] at hk; cases hk) h0
  omega
theorem itr_stab (hn : n ≤ 7) (hR : ∀ p, p < n → R p < 2 ^ n) (hc : c < 2 ^ n) (h0 : c ≠ 0) : ∀ k, itr R n c (k + 1) = itr R n c k ∨ k + 2 ≤ pc (itr R n c (k + 1))
  | 0 => by
    by_cases e : itr R n c 1 = itr R n c 0
    · exact Or.inl e
    · have h1 := pc_grow (a := itr R n c 0) (Nat.lt_of_lt_of_le (itr_lt hR hc 1) (pw_le hn)) (fun k hk => psI_sub n k hk) e
      have h2 : 1 ≤ pc (itr R n c 0) := pc_pos h0 (Nat.lt_of_lt_of_le hc (pw_le hn))
      exact Or.inr (show 0 + 2 ≤ pc (itr R n c 1) by omega)
  | k + 1 => by
    rcases itr_stab hn hR hc h0 k with e | e
    · left
      show psI R (itr R n c (k + 1)) n = itr R n c (k + 1)
      rw [e]
      exact e
    · by_cases e2 : itr R n c (k + 2) = itr R n c (k + 1)
      · exact Or.inl e2
      · have h1 := pc_grow (a := itr R n c (k + 1)) (Nat.lt_of_lt_of_le (itr_lt hR hc (k + 2)) (pw_le hn)) (fun j hj => psI_sub n j hj) e2
        exact Or.inr (show k + 1 + 2 ≤ pc (itr R n c (k + 2)) by omega)
theorem itr_n (hn : n ≤ 7) (hR : ∀ p, p < n → R p < 2 ^ n) (hc : c < 2 ^ n) (h0 : c ≠ 0) (k : Nat) (hk : n ≤ k) : itr R n c k = itr R n c n := by
  have h1 : 0 < n := by
    rcases Nat.eq_zero_or_pos n with z | z
    · subst z; simp at hc; exact absurd hc h0
    · exact z
  have fx : ∀ j, n ≤ j → itr R n c (j + 1) = itr R n c j := by
    intro j hj
    rcases itr_stab hn hR hc h0 j with e | e
    · exact e
    · have := pc_le_n hn (itr_lt hR hc (j + 1))
      omega
  obtain ⟨d, rfl⟩ : ∃ d, k = n + d := ⟨k - n, by omega⟩
  clear hk
  induction d with
  | zero => rfl
  | succ d ih => rw [show n + (d + 1) = (n + d) + 1 from rfl, fx _ (by omega), ih]
theorem ccn_lt (hR : ∀ p, p < n → R p < 2 ^ n) : ∀ p, p ≤ n → (ccn R n p).1 < 2 ^ n
  | 0, _ => pw_pos n
  | p + 1, h => by
    have ih := ccn_lt hR p (by omega)
    rw [ccn]
    by_cases e : (ccn R n p).1.testBit p = true
    · rw [if_pos e]; exact ih
    · rw [if_neg e]; exact Nat.or_lt_two_pow ih (itr_lt hR (Nat.pow_lt_pow_right (by decide) (by omega)) 7)
theorem ccn_le (p : Nat) : (ccn R n p).2 ≤ p := by
  induction p with
  | zero => exact Nat.le_refl 0
  | succ p ih =>
    rw [ccn]
    by_cases e : (ccn R n p).1.testBit p = true
    · rw [if_pos e]; omega
    · rw [if_neg e]; show (ccn R n p).2 + 1 ≤ p + 1; omega
end PS
section CC
variable {m : am_m} {n : Nat} {R : Nat → Nat}
theorem rcirc_in {c : Nat} {x1 x2 x3 x5 : Int32} (h : refR n R m) (hn : n ≤ 7) (hR : ∀ p, p < n → R p < 2 ^ n) (hc : c < 2 ^ n) : lp_X10_circlesNow_45 1000000 x1 x2 x3 (nI c) x5 0 m = some (nI (psI R c n)) := by
  refine lp_eq (fun N x a => lp_X10_circlesNow_45 N x1 x2 x3 a x5 x m) (fun i => nI (psI R c i)) _ n (by omega) (fun N => ?_) (fun N i hi => ?_) 0 (by omega)
  · show lp_X10_circlesNow_45 (N + 1) x1 x2 x3 _ x5 (nI n) m = _
    rw [lp_X10_circlesNow_45.eq_2, h.1, if_pos (nI_le (Nat.le_refl _) (by omega))]
  · show lp_X10_circlesNow_45 (N + 1) x1 x2 x3 (nI (psI R c i)) x5 (nI i) m = lp_X10_circlesNow_45 N x1 x2 x3 _ x5 (nI (i + 1)) m
    rw [lp_X10_circlesNow_45.eq_2, h.1, if_neg (nI_ge hi (by omega)), is_ok (Nat.lt_of_lt_of_le (psI_lt hR hc i (by omega)) (pw_le hn)) (by omega), bd_s, nI_1, psI]
    cases e : (psI R c i).testBit i with
    | true => rw [if_neg (show ¬ bv true = 0 by decide), h.2 i hi, bd_s, bd_s, fa_or, if_pos rfl]
    | false => rw [if_pos (show bv false = 0 from rfl), bd_s, show (0 : Int32) = nI 0 from rfl, fa_or, Nat.or_zero, if_neg (by decide)]
theorem rcirc_out {c : Nat} {x1 x2 x3 : Int32} (h : refR n R m) (hn : n ≤ 7) (hR : ∀ p, p < n → R p < 2 ^ n) (hc : c < 2 ^ n) : lp_X10_circlesNow_35 1000000 x1 x2 x3 (nI c) 0 m = some (nI (itr R n c 7)) := by
  refine lp_eq (fun N x a => lp_X10_circlesNow_35 N x1 x2 x3 a x m) (fun i => nI (itr R n c i)) _ 7 (by omega) (fun N => ?_) (fun N i hi => ?_) 0 (by omega)
  · show lp_X10_circlesNow_35 (N + 1) x1 x2 x3 _ (nI 7) m = _
    rw [lp_X10_circlesNow_35.eq_2, if_pos (by decide)]
  · show lp_X10_circlesNow_35 (N + 1) x1 x2 x3 (nI (itr R n c i)) (nI i) m = lp_X10_circlesNow_35 N x1 x2 x3 _ (nI (i + 1)) m
    rw [lp_X10_circlesNow_35.eq_2, if_neg (show ¬ (7 : Int32) ≤ nI i from nI_ge (b := 7) hi (by decide)), rcirc_in h hn hR (itr_lt hR hc i), bd_s, nI_1]
    rfl
theorem rcircles_ok (h : refR n R m) (hn : n ≤ 7) (hR : ∀ p, p < n → R p < 2 ^ n) : fn_X10_circlesNow m = some (nI (cc R n)) := by
  unfold fn_X10_circlesNow
  rw [show lp_X10_circlesNow_6 1000000 0 0 0 m = some (nI (cc R n)) from lp_eq (fun N x (a : Int32 × Int32) => lp_X10_circlesNow_6 N a.1 a.2 x m) (fun i => (nI (ccn R n i).1, nI (ccn R n i).2)) _ n (by omega) (fun N => ?_) (fun N i hi => ?_) 0 (by omega)]
  · rfl
  · show lp_X10_circlesNow_6 (N + 1) _ _ (nI n) m = _
    rw [lp_X10_circlesNow_6.eq_2, h.1, if_pos (nI_le (Nat.le_refl _) (by omega))]
    rfl
  · show lp_X10_circlesNow_6 (N + 1) (nI (ccn R n i).1) (nI (ccn R n i).2) (nI i) m = lp_X10_circlesNow_6 N (nI (ccn R n (i + 1)).1) (nI (ccn R n (i + 1)).2) (nI (i + 1)) m
    have h2 : 2 ^ i < 2 ^ n := Nat.pow_lt_pow_right (by decide) hi
    rw [lp_X10_circlesNow_6.eq_2, h.1, if_neg (nI_ge hi (by omega)), is_ok (Nat.lt_of_lt_of_le (ccn_lt hR i (by omega)) (pw_le hn)) (by omega), bd_s, nI_1, ccn]
    cases e : (ccn R n i).1.testBit i with
    | true =>
      rw [if_pos (show bv true ≠ 0 by decide), bd_s, if_pos rfl, nI_1]
    | false =>
      rw [if_neg (show ¬ bv false ≠ 0 by decide), sh1 i (by omega), rcirc_out h hn hR h2, bd_s, bd_s, if_neg (by decide), fa_or, nI_1]
/-- the class's rows, perhaps without two of them together -/
def nearA (m : am_m) (A B : Int32) (i : Nat) : Option Int32 := (if nI i ≠ A then some (m.1 30 0 i) else (if B < 0 then some (m.1 30 0 i) else some ((m.1 30 0 i) &&& (((1 : Int32) <<< (B &&& 31)) ^^^ (-1 : Int32))))).bind fun q7 => (if nI i ≠ B then some q7 else (if A < 0 then some q7 else some (q7 &&& (((1 : Int32) <<< (A &&& 31)) ^^^ (-1 : Int32)))))
theorem ccirc_in {c : Nat} {A B x5 : Int32} (h6 : m.1 6 0 0 = nI n) (hN : ∀ i, i < n → nearA m A B i = some (nI (R i))) (hn : n ≤ 7) (hR : ∀ p, p < n → R p < 2 ^ n) (hc : c < 2 ^ n) : lp_X6_circleOf_20 1000000 A B (nI c) x5 0 m = some (nI (psI R c n)) := by
  refine lp_eq (fun N x a => lp_X6_circleOf_20 N A B a x5 x m) (fun i => nI (psI R c i)) _ n (by omega) (fun N => ?_) (fun N i hi => ?_) 0 (by omega)
  · show lp_X6_circleOf_20 (N + 1) A B _ x5 (nI n) m = _
    rw [lp_X6_circleOf_20.eq_2, h6, if_pos (nI_le (Nat.le_refl _) (by omega))]
  · show lp_X6_circleOf_20 (N + 1) A B (nI (psI R c i)) x5 (nI i) m = lp_X6_circleOf_20 N A B _ x5 (nI (i + 1)) m
    have hl := Nat.lt_of_lt_of_le (psI_lt hR hc i (by omega)) (pw_le hn)
    have hN := hN i hi
    unfold nearA at hN
    rw [lp_X6_circleOf_20.eq_2, h6, if_neg (nI_ge hi (by omega)), nI_1, psI]
    cases e : (psI R c i).testBit i with
    | true =>
      rw [if_neg (fun z => by rw [(isN hl (by omega)).mp z] at e; cases e), ck_in (by omega) (by decide), nI_clamp (by omega), ← Option.bind_assoc, hN, bd_s, bd_s, fa_or, if_pos rfl]
    | false =>
      rw [if_pos ((isN hl (by omega)).mpr e), bd_s, if_neg (by decide)]
theorem ccirc_out {c p : Nat} {A B : Int32} (h6 : m.1 6 0 0 = nI n) (hN : ∀ i, i < n → nearA m A B i = some (nI (R i))) (hn : n ≤ 7) (hR : ∀ p, p < n → R p < 2 ^ n) (hp : p < n) (hc : 2 ^ p = c) : fn_X6_circleOf (nI p) A B m = some (nI (itr R n c n)) := by
  have h2 : c < 2 ^ n := by rw [← hc]; exact Nat.pow_lt_pow_right (by decide) hp
  unfold fn_X6_circleOf
  rw [sh1 p (by omega), hc]
  rw [show lp_X6_circleOf_8 1000000 A B (nI c) 0 m = some (nI (itr R n c n)) from lp_eq (fun N x a => lp_X6_circleOf_8 N A B a x m) (fun i => nI (itr R n c i)) _ n (by omega) (fun N => ?_) (fun N i hi => ?_) 0 (by omega)]
  · rfl
  · show lp_X6_circleOf_8 (N + 1) A B _ (nI n) m = _
    rw [lp_X6_circleOf_8.eq_2, h6, if_pos (nI_le (Nat.le_refl _) (by omega))]
  · show lp_X6_circleOf_8 (N + 1) A B (nI (itr R n c i)) (nI i) m = lp_X6_circleOf_8 N A B _ (nI (i + 1)) m
    rw [lp_X6_circleOf_8.eq_2, h6, if_neg (nI_ge hi (by omega)), ccirc_in h6 hN hn hR (itr_lt hR h2 i), bd_s, nI_1]
    rfl
theorem ccircles_ok {A B : Int32} (h6 : m.1 6 0 0 = nI n) (hN : ∀ i, i < n → nearA m A B i = some (nI (R i))) (hn : n ≤ 7) (hR : ∀ p, p < n → R p < 2 ^ n) : fn_X6_circlesWithout A B m = some (nI (cc R n)) := by
  have h128 := pw_le hn
  have hal : 2 ^ n - 1 < 4294967296 := by omega
  unfold fn_X6_circlesWithout
  rw [every_ok h6 hn, bd_s]
  rw [show lp_X6_circlesWithout_11 1000000 A B (nI (2 ^ n - 1)) 0 0 m = some (nI (cc R n)) from ?_]
  · rfl
  have e0 : nI (2 ^ n - 1) = nI (sd (2 ^ n - 1) (ccn R n 0).1) := by
    congr 1
    refine Nat.eq_of_testBit_eq (fun k => ?_)
    rw [sd_bit hal]
    show _ = ((2 ^ n - 1).testBit k && !(0 : Nat).testBit k)
    rw [Nat.zero_testBit]
    simp
  rw [e0]
  refine lp_eq (fun N x (a : Int32 × Int32) => lp_X6_circlesWithout_11 N A B a.1 a.2 x m) (fun i => (nI (sd (2 ^ n - 1) (ccn R n i).1), nI (ccn R n i).2)) _ n (by omega) (fun N => ?_) (fun N i hi => ?_) 0 (by omega)
  · show lp_X6_circlesWithout_11 (N + 1) A B _ _ (nI n) m = _
    rw [lp_X6_circlesWithout_11.eq_2, h6, if_pos (nI_le (Nat.le_refl _) (by omega))]
    rfl
  · show lp_X6_circlesWithout_11 (N + 1) A B (nI (sd (2 ^ n - 1) (ccn R n i).1)) (nI (ccn R n i).2) (nI i) m = lp_X6_circlesWithout_11 N A B (nI (sd (2 ^ n - 1) (ccn R n (i + 1)).1)) (nI (ccn R n (i + 1)).2) (nI (i + 1)) m
    have h2 : 2 ^ i < 2 ^ n := Nat.pow_lt_pow_right (by decide) hi
    have hl : sd (2 ^ n - 1) (ccn R n i).1 < 128 := sd_small (by omega) _
    have hb : (sd (2 ^ n - 1) (ccn R n i).1).testBit i = !(ccn R n i).1.testBit i := by
      rw [sd_bit hal, Nat.testBit_two_pow_sub_one, decide_eq_true hi]
      rfl
    rw [lp_X6_circlesWithout_11.eq_2, h6, if_neg (nI_ge hi (by omega)), nI_1, ccn]
    cases e : (ccn R n i).1.testBit i with
    | true =>
      rw [e] at hb
      rw [if_pos ((isN hl (by omega)).mpr hb), bd_s, if_pos rfl, nI_1]
    | false =>
      rw [e] at hb
      rw [if_neg (fun z => by rw [(isN hl (by omega)).mp z] at hb; cases hb), ccirc_out h6 hN hn hR hi rfl, bd_s, bd_s, if_neg (by decide), sd_I, nI_1]
      have e7 : itr R n (2 ^ i) 7 = itr R n (2 ^ i) n := itr_n hn hR h2 (by have := pw_pos i; omega) 7 hn
      have es : sd (sd (2 ^ n - 1) (ccn R n i).1) (itr R n (2 ^ i) n) = sd (2 ^ n - 1) ((ccn R n i).1 ||| itr R n (2 ^ i) 7) := by
        refine Nat.eq_of_testBit_eq (fun k => ?_)
        rw [sd_bit (by omega), sd_bit hal, sd_bit hal, Nat.testBit_or, e7, Bool.not_or, Bool.and_assoc]
      rw [es]
theorem near_no (h : clsR n R m) : ∀ i, i < n → nearA m (-1) (-1) i = some (nI (R i)) := fun i hi => by
  unfold nearA
  by_cases e : nI i ≠ -1
  · rw [if_pos e, bd_s, if_pos e, h.2 i hi]
  · rw [if_neg e, if_pos (by decide), bd_s, if_neg e, if_pos (by decide), h.2 i hi]
theorem op_circles (h : Inv m) : op_ok m (fun m => fn_X9_circles m) (fun m => fn_X10_circles m) := by
  obtain ⟨n, R, lw, m1, -, -, gd, e44, e8, e1, c1, j1, f1, hr⟩ := both_ok h
  have hn := gd.1
  have hR : ∀ p, p < n → R p < 2 ^ n := fun p hp => (gd.2 p hp).1
  refine op_look h (fun t => kp_X9_circles m t) (fun m1 t => kp_X10_circles m1 t) rfl rfl rfl (nI (cc R n)) ?_ ?_
  · show ∃ m', fn_X9_circles m = some (_, m')
    unfold fn_X9_circles
    rw [e1, bd_s, ccircles_ok c1.1 (near_no c1) hn hR, bd_s]
    exact ⟨_, rfl⟩
  · intro m2 i2 f2
    obtain ⟨m3, e3, r3, -, -⟩ := hr m2 i2 f2
    show ∃ m', fn_X10_circles m2 = some (_, m')
    unfold fn_X10_circles
    rw [e3, bd_s, rcircles_ok r3 hn hR, bd_s]
    exact ⟨_, rfl⟩
end CC
