/-! the class's reader: its memory -/
/-- it stands at p -/
def cat (T : Nat → Nat) (L n : Nat) (m : am_m) (p : Nat) : Prop := (L ≤ 400 ∧ ctk T L m (n + 1) ∧ plc T L n = L ∧ n ≤ L) ∧ (∃ i, i ≤ n ∧ plc T L i = p ∧ m.1 4 0 5 = nI i) ∧ m.1 4 0 6 = nI (lx_kd T L p) ∧ m.1 4 0 7 = nI (lx_vl T L p)
/-- a cell of the class's code: (what, with what) -/
def ccd (m : am_m) (c : rcd) (a : Nat) : Prop := m.1 5 0 3 = nI a ∧ m.2.2.2.2.2.2.1 29 0 = 448 ∧ ∀ k, k < a → m.1 29 0 k = nI (512 * (c k).2 + (c k).1)
def cmm (T : Nat → Nat) (L n : Nat) (ord : Bool) (m : am_m) (c : rcd) (a p lv aw : Nat) : Prop := cat T L n m p ∧ ccd m c a ∧ m.1 4 0 8 = nI lv ∧ m.1 4 0 9 = (if ord then 1 else 0) ∧ m.1 5 0 4 = nI aw ∧ m.1 4 0 10 = -1
def ccok (ord : Bool) (x : Nat × Nat) : Prop := x.1 < 512 ∧ x.2 ≤ 1000 ∧ (cc_dec x.1 x.2).1 < 13 ∧ (x.1 = 258 → x.2 < if ord then 19 else 8)
def csg (ord : Bool) (c : rcd) (a b : Nat) (f : dn) (h : Nat) : Prop := (∀ k, a ≤ k → k < b → ccok ord (c k)) ∧ ab_seg (fun k => cc_dec (c k).1 (c k).2) a b f h
theorem b_nI (n : Nat) {i : Nat} (hi : i < 32) : bt (nI n) i = n.testBit i := by
  show (BitVec.ofNat 32 n).getLsbD i = _
  rw [BitVec.getLsbD_ofNat, decide_eq_true hi, Bool.true_and]
theorem ccell {t w : Nat} (ht : t < 512) : (nI w <<< ((9 : Int32) &&& 31)) ||| nI t = nI (512 * w + t) := by
  apply b_ext
  intro i hi
  rw [b_or, show (9 : Int32) = nI 9 from rfl, b_shl 9 (by decide) _ hi, b_nI _ hi, b_nI _ hi, b_nI _ (show i - 9 < 32 by omega), show 512 * w + t = 2 ^ 9 * w + t from rfl, Nat.testBit_two_pow_mul_add _ ht]
  by_cases c : i < 9
  · rw [if_pos c, decide_eq_false (by omega), Bool.false_and, Bool.false_or]
  · rw [if_neg c, decide_eq_true (by omega), Bool.true_and, Nat.testBit_lt_two_pow (Nat.lt_of_lt_of_le ht (Nat.pow_le_pow_right (n := 2) (i := 9) (by decide) (by omega))), Bool.or_false]
section CM
variable {T : Nat → Nat} {L n p : Nat} {m m' : am_m} {ord : Bool} {c c' : rcd} {a b lv aw : Nat} {f g : dn} {h h' : Nat}
theorem cat.kp {WI WL : List (Nat × Nat)} {E : Nat} (h : cat T L n m p) (k : am_kp WI WL E m m') (hw : ((am_hit WI 4 4 || (am_hit WI 25 0 || (am_hit WI 26 0 || am_hit WI 27 0))) || (am_hit WI 4 5 || (am_hit WI 4 6 || am_hit WI 4 7))) = false) : cat T L n m' p := by
  rw [Bool.or_eq_false_iff, Bool.or_eq_false_iff, Bool.or_eq_false_iff, Bool.or_eq_false_iff, Bool.or_eq_false_iff, Bool.or_eq_false_iff] at hw
  obtain ⟨⟨w1, w2, w3, w4⟩, w5, w6, w7⟩ := hw
  obtain ⟨⟨h1, h2, h3⟩, ⟨i, i1, i2, i3⟩, h5, h6⟩ := h
  refine ⟨⟨h1, ⟨by rw [k.fld 4 0 4 w1]; exact h2.1, fun j hj => ?_⟩, h3⟩, ⟨i, i1, i2, by rw [k.fld 4 0 5 w5]; exact i3⟩, by rw [k.fld 4 0 6 w6]; exact h5, by rw [k.fld 4 0 7 w7]; exact h6⟩
  rw [k.row 25 (by rw [w2]; rfl), k.row 26 (by rw [w3]; rfl), k.row 27 (by rw [w4]; rfl)]; exact h2.2 j hj
theorem cgoto (hm : cmm T L n ord m c a p lv aw) : ∃ m', fn_X4_goTo ((m.1 4 0 5) + (1 : Int32)) m = some m' ∧ cmm T L n ord m' c a (lx_nx T L p) lv aw := by
  obtain ⟨⟨⟨h1, h2, h3, h4⟩, ⟨i, i1, i2, i3⟩, h5, h6⟩, hc, hl, ho, ha⟩ := hm
  -- the next index
  obtain ⟨j, j1, j2, j3⟩ : ∃ j, j ≤ n ∧ plc T L j = lx_nx T L p ∧ (if nI n < nI (i + 1) then some (nI n) else some (nI (i + 1))) = some (nI j) := by
    by_cases e : i = n
    · refine ⟨n, Nat.le_refl _, ?_, ?_⟩
      · rw [h3, ← i2, e, h3, nx_L]
      · rw [if_pos ((nI_ltI (by omega) (by omega)).mpr (by omega))]
    · refine ⟨i + 1, by omega, by show lx_nx T L (plc T L i) = _; rw [i2], ?_⟩
      rw [if_neg (fun z => by have := (nI_ltI (by omega) (by omega)).mp z; omega)]
  obtain ⟨t1, t2, t3⟩ := h2.2 j (by omega)
  refine ⟨am_si (am_si (am_si m 4 0 5 (nI j)) 4 0 6 (m.1 25 0 j)) 4 0 7 (m.1 26 0 j), ?_, ⟨⟨h1, h2, h3, h4⟩, ⟨j, j1, j2, rfl⟩, ?_, ?_⟩, hc, hl, ho, ha⟩
  · unfold fn_X4_goTo fn_J9_min_7cf53 fn_J9_max_7cf53
    rw [i3, h2.1, nI_1, show (1 : Int32) = nI 1 from rfl, pk_sub (by omega), Nat.add_sub_cancel, j3, bd_s]
    have mx : (if (0 : Int32) < nI j then some (nI j) else some 0) = some (nI j) := by
      by_cases q : j = 0
      · rw [q]; rfl
      · rw [if_pos (show (0 : Int32) < nI j from (nI_ltI (a := 0) (by decide) (by omega)).mpr (by omega))]
    rw [mx, bd_s, ck_in (by omega) (by decide), ck_in (by omega) (by decide), nI_clamp (by omega)]
  · show m.1 25 0 j = _
    rw [t1, j2]
  · show m.1 26 0 j = _
    rw [t2, j2]
theorem cfail (hm : cat T L n m p) : ∃ m', fn_X4_failed m = some (0, m') ∧ m'.1 4 0 10 = nI p := by
  obtain ⟨⟨h1, h2, h3, h4⟩, ⟨i, i1, i2, i3⟩, h5, h6⟩ := hm
  refine ⟨am_si m 4 0 10 (m.1 27 0 i), ?_, ?_⟩
  · unfold fn_X4_failed
    rw [i3, ck_in (by omega) (by decide), nI_clamp (by omega)]
  · show m.1 27 0 i = _
    rw [(h2.2 i (by omega)).2.2, i2]
theorem ctook {k : Nat} (hk : k ≤ 300) (hm : cmm T L n ord m c a p lv aw) (hkd : lx_kd T L p < 2 ^ 31) : if lx_kd T L p = k then ∃ m', fn_X4_took (nI k) m = some (1, m') ∧ cmm T L n ord m' c a (lx_nx T L p) lv aw else ∃ m', fn_X4_took (nI k) m = some (0, m') ∧ m'.1 4 0 10 = nI p := by
  unfold fn_X4_took
  rw [hm.1.2.2.1]
  by_cases e : lx_kd T L p = k
  · rw [if_pos e]
    obtain ⟨m', e1, e2⟩ := cgoto hm
    exact ⟨m', by rw [if_pos (by rw [e]), e1, bd_s], e2⟩
  · rw [if_neg e]
    obtain ⟨m', e1, e2⟩ := cfail hm.1
    exact ⟨m', by rw [if_neg (nI_ne hkd (by omega) e), e1, bd_s, gd_t (Or.inl rfl)], e2⟩
theorem cput {t w : Nat} (ht : t < 512) (hw : w ≤ 1000) (hm : cmm T L n ord m c a p lv aw) (ha : a < 448) : ∃ m', fn_X5_put 0 (nI t) (nI w) m = some m' ∧ cmm T L n ord m' (rcu c a (t, w)) (a + 1) p lv aw := by
  obtain ⟨hx, ⟨c1, c2, c3⟩, hl, ho, hw4⟩ := hm
  have k : am_kp [(5, 3), (29, 0)] [] 0 m (am_si (am_si m 29 0 a (nI (512 * w + t))) 5 0 3 (nI (a + 1))) := am_kp.si (am_kp.si am_kp.rf rfl) rfl
  have cell : (nI w <<< ((9 : Int32) &&& 31)) ||| nI t = nI (512 * w + t) := ccell ht
  refine ⟨am_si (am_si m 29 0 a (nI (512 * w + t))) 5 0 3 (nI (a + 1)), ?_, hx.kp k rfl, ⟨rfl, c2, fun j hj => ?_⟩, hl, ho, hw4⟩
  · unfold fn_X5_put
    rw [c2, c1, if_neg (show ¬ Int32.ofNat 448 ≤ nI a from nI_ge (b := 448) ha (by decide)), ck_in ha (by decide), nI_clamp (by omega), nI_1, cell]
  · show (am_si m 29 0 a (nI (512 * w + t))).1 29 0 j = _
    rw [rd_j]
    unfold rcu
    by_cases e : j = a
    · rw [if_pos e, if_pos e]
    · rw [if_neg e, if_neg e]; exact c3 j (by omega)
end CM
