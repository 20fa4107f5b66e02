/-! all partings, by the class -/
section CP1
variable {m : am_m} {M A B : Nat → Nat → Bool} {tr : Nat → Nat} {n k c s t : Nat} {md : Bool}
/-- the best, as the class has it -/
def cB (n : Nat) (b : pB) (m : am_m) : Prop := match b with
  | none => m.1 2 0 2 = -1
  | some q => m.1 2 0 2 = nI q.1 ∧ q.1 < 100000000 ∧ ∀ i, i < n → m.1 23 0 i = nI (q.2 i)
def cX (md : Bool) (n : Nat) (M A : Nat → Nat → Bool) (m : am_m) : Prop := clsR n (rowOf n M) m ∧ (md = false → ∀ a, a < n → m.1 31 0 a = nI (rowOf n A a)) ∧ m.1 2 0 0 = bv md ∧ m.1 2 0 1 = nI n
abbrev kP : List (Nat × Nat) := [(2, 2), (21, 0), (22, 0), (23, 0)]
theorem cX.kp {m' : am_m} (h : cX md n M A m) (k : am_kp kP [] 0 m m') : cX md n M A m' := ⟨h.1.of (k.fld 6 0 0 rfl) (k.row 30 rfl), fun z a ha => by rw [k.row 31 rfl]; exact h.2.1 z a ha, by rw [k.fld 2 0 0 rfl]; exact h.2.2.1, by rw [k.fld 2 0 1 rfl]; exact h.2.2.2⟩
theorem stS_new (h : sA tr k ≤ t) : stS tr t k = 0 := Nat.eq_of_testBit_eq (fun i => by
  rw [stS_bit, Nat.zero_testBit]
  by_cases hi : i < k
  · have := sA_lt (tr := tr) k i hi
    rw [decide_eq_false (show ¬ tr i = t by omega), Bool.and_false]
  · rw [decide_eq_false hi]; rfl)
theorem row_bit {p a : Nat} : (rowOf n M p).testBit a = (decide (a < n) && M p a) := sx_bit _ a n
theorem there_ok {p : Nat} (h : clsR n (rowOf n M) m) (hn : n ≤ 7) (hp : p < n) : fn_X6_isThere (nI p) m = some 1 := by
  unfold fn_X6_isThere
  rw [h.1, if_neg (nI_pos (by omega)), if_neg (nI_ge hp (by omega))]
theorem mayOf_ok {p : Nat} (h : clsR n (rowOf n M) m) (hn : n ≤ 7) (hp : p < n) : fn_X6_mayOf (nI p) m = some (nI (rowOf n M p)) := by
  unfold fn_X6_mayOf
  rw [there_ok h hn hp, bd_s, if_neg (by decide), ck_in (by omega) (by decide), nI_clamp (by omega), h.2 p hp]
theorem allow_ok (h : cX md n M A m) (hn : n ≤ 7) (hk : k < n) (hcM : ∀ a b, M a b = M b a) (hcA : ∀ a b, A a b = A b a) (hB : B = if md then (fun a b => !M a b) else A) : ∃ d : Bool, fn_X2_isAllowed (nI k) (nI (stS tr s k)) m = some (bv d) ∧ (d = true ↔ ∀ a, a < k → tr a = s → B a k = false) := by
  have h128 := pw_le hn
  have sl : stS tr s k < 2 ^ k := sx_lt _ k
  have sl7 : stS tr s k < 128 := Nat.lt_of_lt_of_le sl (pw_le (by omega))
  unfold fn_X2_isAllowed
  rw [h.2.2.1]
  cases md with
  | true =>
    rw [if_neg (show ¬ bv true = 0 by decide), mayOf_ok h.1 hn hk, bd_s, sd_I]
    have lt := sd_small sl7 (rowOf n M k)
    have iff : sd (stS tr s k) (rowOf n M k) = 0 ↔ ∀ a, a < k → tr a = s → B a k = false := by
      rw [sd_0 (by omega)]
      constructor
      · intro z a ha e
        have := z a (by rw [stS_bit, decide_eq_true ha, decide_eq_true e]; rfl)
        rw [row_bit, Bool.and_eq_true] at this
        rw [hB, if_pos rfl]
        rw [hcM, this.2]; rfl
      · intro z a ha
        rw [stS_bit, Bool.and_eq_true, decide_eq_true_iff, decide_eq_true_iff] at ha
        have := z a ha.1 ha.2
        rw [hB, if_pos rfl] at this
        rw [row_bit, decide_eq_true (show a < n by omega), Bool.true_and, hcM]
        cases hM : M a k with
        | true => rfl
        | false => rw [hM] at this; cases this
    by_cases e : sd (stS tr s k) (rowOf n M k) = 0
    · rw [if_neg (fun z => z ((nI0_iff (by omega)).mpr e))]
      exact ⟨true, rfl, fun _ => iff.mp e, fun _ => rfl⟩
    · rw [if_pos (fun z => e ((nI0_iff (by omega)).mp z))]
      exact ⟨false, rfl, fun z => (by cases z), fun z => absurd (iff.mpr z) e⟩
  | false =>
    rw [if_pos (show bv false = 0 from rfl)]
    have eb : fn_X6_barsOf (nI k) m = some (nI (rowOf n A k)) := by
      unfold fn_X6_barsOf
      rw [there_ok h.1 hn hk, bd_s, if_neg (by decide), ck_in (by omega) (by decide), nI_clamp (by omega), h.2.1 rfl k hk]
    rw [eb, bd_s, fa_and]
    have lt : stS tr s k &&& rowOf n A k < 128 := Nat.lt_of_le_of_lt Nat.and_le_left sl7
    have iff : stS tr s k &&& rowOf n A k = 0 ↔ ∀ a, a < k → tr a = s → B a k = false := by
      constructor
      · intro z a ha e
        have e2 : (stS tr s k &&& rowOf n A k).testBit a = false := by rw [z, Nat.zero_testBit]
        rw [Nat.testBit_and, stS_bit, decide_eq_true ha, decide_eq_true e, row_bit, decide_eq_true (show a < n by omega), Bool.true_and, Bool.true_and, Bool.true_and] at e2
        rw [hB, if_neg (by decide), hcA]; exact e2
      · intro z
        refine Nat.eq_of_testBit_eq (fun a => ?_)
        rw [Nat.testBit_and, stS_bit, Nat.zero_testBit]
        by_cases ha : a < k
        · by_cases e : tr a = s
          · have := z a ha e
            rw [hB, if_neg (by decide)] at this
            rw [row_bit, hcA, this, Bool.and_false, Bool.and_false]
          · rw [decide_eq_false e, Bool.and_false, Bool.false_and]
        · rw [decide_eq_false ha]; rfl
    by_cases e : stS tr s k &&& rowOf n A k = 0
    · rw [if_neg (fun z => z ((nI0_iff (by omega)).mpr e))]
      exact ⟨true, rfl, fun _ => iff.mp e, fun _ => rfl⟩
    · rw [if_pos (fun z => e ((nI0_iff (by omega)).mp z))]
      exact ⟨false, rfl, fun z => (by cases z), fun z => absurd (iff.mpr z) e⟩
/-- those of a set that one may not sit with -/
theorem harm_ct (hn : n ≤ 7) (hk : k < n) (hcM : ∀ a b, M a b = M b a) : pc (sd (stS tr s k) (rowOf n M k)) = fb_ct (fun a => decide (tr a = s) && !M a k) k := by
  have sl : stS tr s k < 2 ^ k := sx_lt _ k
  have sl7 : stS tr s k < 128 := Nat.lt_of_lt_of_le sl (pw_le (by omega))
  have bit : ∀ a, (sd (stS tr s k) (rowOf n M k)).testBit a = ((decide (a < k) && decide (tr a = s)) && !(decide (a < n) && M k a)) := fun a => by
    rw [sd_bit (by omega), stS_bit, row_bit]
  unfold pc
  rw [fb_ct_cut (n := k) (by omega) (fun a h1 h2 => by rw [bit, decide_eq_false (show ¬ a < k by omega)]; rfl)]
  refine fb_ct_cong (fun a ha => ?_)
  rw [bit, decide_eq_true ha, decide_eq_true (show a < n by omega), Bool.true_and, Bool.true_and, hcM]
theorem keepC_ok {h : Nat} {b : pB} (hx : cX md n M A m) (hn : n ≤ 7) (hc : c ≤ 7) (hok : okP B tr n) (hs : ∀ t, t < c → m.1 21 0 t = nI (stS tr t n)) (h22 : ∀ i, i < n → m.1 22 0 i = nI (tr i)) (hh : h = cnH M tr n) (hb : cB n b m) : ∃ m', fn_X2_keepIfCheaper (nI c) (nI h) m = some m' ∧ cB n (upB b (wrt md M B n c tr) tr) m' ∧ m'.1 21 = m.1 21 ∧ m'.1 22 = m.1 22 ∧ am_kp kP [] 0 m m' := by
  have h128 := pw_le hn
  have stl : ∀ t, stS tr t n < 128 := fun t => sx_small _ hn
  have s1 : ∃ r, lp_X2_keepIfCheaper_2 1000000 (nI c) (nI h) 0 m = some r ∧ ((r = .inl () ∧ ∀ t, t < c → 2 ≤ pc (stS tr t n)) ∨ (r = .inr m ∧ ∃ t, t < c ∧ ¬ 2 ≤ pc (stS tr t n))) := by
    refine lp_up0 (fun N x (_ : Unit) => lp_X2_keepIfCheaper_2 N (nI c) (nI h) x m) (fun i _ => ∀ t, t < i → 2 ≤ pc (stS tr t n)) _ c (by omega) (fun N u hh => ⟨.inl (), ?_, Or.inl ⟨rfl, hh⟩⟩) (fun N i u hi hh => ?_) () (fun t ht => absurd ht (Nat.not_lt_zero _))
    · show lp_X2_keepIfCheaper_2 (N + 1) (nI c) (nI h) (nI c) m = _
      rw [lp_X2_keepIfCheaper_2.eq_2, if_pos (nI_le (Nat.le_refl _) (by omega))]
    · have p7 := pc_le (stS tr i n)
      show (∃ a', lp_X2_keepIfCheaper_2 (N + 1) (nI c) (nI h) (nI i) m = lp_X2_keepIfCheaper_2 N (nI c) (nI h) (nI (i + 1)) m ∧ _) ∨ ∃ b, lp_X2_keepIfCheaper_2 (N + 1) (nI c) (nI h) (nI i) m = some b ∧ _
      rw [lp_X2_keepIfCheaper_2.eq_2, if_neg (nI_ge hi (by omega)), if_neg (show ¬ (7 : Int32) ≤ nI i from nI_ge (b := 7) (by omega) (by decide)), ck_in (by omega) (by decide), nI_clamp (by omega), hs i hi, bc_ok (stl i), bd_s, nI_1]
      by_cases g : 2 ≤ pc (stS tr i n)
      · rw [if_pos (show (2 : Int32) ≤ nI (pc (stS tr i n)) from nI_le (a := 2) g (by omega))]
        refine Or.inl ⟨(), rfl, fun t ht => ?_⟩
        by_cases e : t = i
        · rw [e]; exact g
        · exact hh t (by omega)
      · rw [if_neg (show ¬ (2 : Int32) ≤ nI (pc (stS tr i n)) from nI_ge (b := 2) (by omega) (by decide))]
        exact Or.inr ⟨_, rfl, Or.inr ⟨rfl, i, hi, g⟩⟩
  obtain ⟨r, e1, q1⟩ := s1
  unfold fn_X2_keepIfCheaper
  rw [e1, bd_s]
  rcases q1 with ⟨rfl, q1⟩ | ⟨rfl, t, q1, q2⟩
  · have cl := cnH_le (M := M) (tr := tr) n hn
    have pr : (if (m.1 2 0 0) = 0 then nI h else nI c) = nI (if md then c else cnH M tr n) := by
      rw [hx.2.2.1, hh]
      cases md with
      | true => rw [if_neg (show ¬ bv true = 0 by decide), if_pos rfl]
      | false => rw [if_pos (show bv false = 0 from rfl), if_neg (by decide)]
    have vl : (if md then c else cnH M tr n) < 100000000 := by cases md <;> simp only [if_true, if_false, Bool.false_eq_true] <;> omega
    rw [wrt_ok hok q1]
    generalize hv : (if md = true then c else cnH M tr n) = v at *
    have hg : ¬ ((0 : Int32) < 0 ∨ (0 : Int32) < 0 ∨ (7 : Int32) < 0 ∨ 7 < (0 : Int32).toNatClampNeg + (7 : Int32).toNatClampNeg ∨ 7 < (0 : Int32).toNatClampNeg + (7 : Int32).toNatClampNeg) := by decide
    show ∃ m', (if (m.1 2 0 2) = (-1 : Int32) then am_gd _ _ else _) = some m' ∧ _
    rw [pr, gd_t hg]
    let mC : am_m := am_sc (am_si m 2 0 2 (nI v)) 22 0 23 0 (0 : Int32).toNatClampNeg (0 : Int32).toNatClampNeg (7 : Int32).toNatClampNeg
    have kC : am_kp kP [] 0 m mC := am_kp.sc (am_kp.si am_kp.rf rfl) rfl
    have better : cB n (some (v, tr)) mC ∧ mC.1 21 = m.1 21 ∧ mC.1 22 = m.1 22 ∧ am_kp kP [] 0 m mC := by
      refine ⟨⟨rfl, vl, fun i hi => ?_⟩, rfl, rfl, kC⟩
      show (am_sc (am_si m 2 0 2 (nI v)) 22 0 23 0 (0 : Int32).toNatClampNeg (0 : Int32).toNatClampNeg (7 : Int32).toNatClampNeg).1 23 0 i = _
      rw [rd_sc, if_pos ⟨rfl, rfl⟩, show (0 : Int32).toNatClampNeg = 0 from rfl, show (7 : Int32).toNatClampNeg = 7 from rfl, pk_cpy_in (Nat.zero_le _) (by omega)]
      show m.1 22 0 (0 + (i - 0)) = _
      rw [Nat.sub_zero, Nat.zero_add, h22 i hi]
    cases b with
    | none =>
      have hb : m.1 2 0 2 = -1 := hb
      rw [if_pos hb]
      exact ⟨mC, rfl, better⟩
    | some q =>
      obtain ⟨b1, b2, b3⟩ := hb
      rw [b1, if_neg (nI_m1 (by omega))]
      by_cases c2 : v < q.1
      · rw [if_neg (nI_ge c2 (by omega))]
        refine ⟨mC, rfl, ?_⟩
        have : upB (some q) (some v) tr = some (v, tr) := if_pos c2
        rw [this]; exact better
      · rw [if_pos (nI_le (by omega) (by omega))]
        refine ⟨m, rfl, ?_, rfl, rfl, am_kp.rf⟩
        have : upB (some q) (some v) tr = some q := if_neg c2
        rw [this]; exact ⟨b1, b2, b3⟩
  · rw [wrt_few q1 q2]
    exact ⟨m, rfl, hb, rfl, rfl, am_kp.rf⟩
theorem clev (hn : n ≤ 7) (hcM : ∀ a b, M a b = M b a) (hcA : ∀ a b, A a b = A b a) (hB : B = if md then (fun a b => !M a b) else A) : ∀ (d k : Nat) (tr : Nat → Nat) (h : Nat) (b : pB) (m : am_m) (F : Nat), k + d = n → d < F → cX md n M A m → (∀ i, i < k → tr i ≤ i) → okP B tr k → (∀ t, t < sA tr k → m.1 21 0 t = nI (stS tr t k)) → (∀ i, i < k → m.1 22 0 i = nI (tr i)) → h = cnH M tr k → cB n b m → ∃ m', am_pl F (nI k) (nI (sA tr k)) (nI h) m = some m' ∧ (∀ t, t < sA tr k → m'.1 21 0 t = m.1 21 0 t) ∧ (∀ i, i < k → m'.1 22 0 i = m.1 22 0 i) ∧ cB n (pdf (wrt md M B n) d k (sA tr k) tr b) m' ∧ am_kp kP [] 0 m m'
  | 0, k, tr, h, b, m, F, hk, hF, hx, hr, hok, hs, h22, hh, hb => by
    have : k = n := by omega
    subst this
    obtain ⟨F, rfl⟩ : ∃ F', F = F' + 1 := ⟨F - 1, by omega⟩
    have ck := sA_k k hr
    obtain ⟨m', e1, e2, e3, e4, e5⟩ := keepC_ok (B := B) (c := sA tr k) hx hn (by omega) hok hs h22 hh hb
    refine ⟨m', ?_, fun t _ => by rw [e3], fun i _ => by rw [e4], e2, e5⟩
    show fn_X2_place (am_pl F) (nI k) (nI (sA tr k)) (nI h) m = _
    unfold fn_X2_place
    rw [hx.2.2.2, if_pos (nI_le (Nat.le_refl _) (by omega)), e1, bd_s]
  | d + 1, k, tr, h, b, m, F, hk, hF, hx, hr, hok, hs, h22, hh, hb => by
    obtain ⟨F, rfl⟩ : ∃ F', F = F' + 1 := ⟨F - 1, by omega⟩
    have ck := sA_k k hr
    have h128 := pw_le hn
    generalize hg : (fun s b => pdf (wrt md M B n) d (k + 1) (if s < sA tr k then sA tr k else s + 1) (upd1 tr k s) b) = g
    have key : ∃ m', lp_X2_place_25 (am_pl F) 1000000 (nI k) (nI (sA tr k)) (nI h) 0 m = some m' ∧ ((∀ t, t < sA tr k → m'.1 21 0 t = nI (stS tr t k)) ∧ (∀ i, i < k → m'.1 22 0 i = nI (tr i)) ∧ cB n (fdN g (sA tr k + 1) b) m' ∧ am_kp kP [] 0 m m') := by
      refine lp_up0 (fun N x a => lp_X2_place_25 (am_pl F) N (nI k) (nI (sA tr k)) (nI h) x a) (fun j m1 => (∀ t, t < sA tr k → m1.1 21 0 t = nI (stS tr t k)) ∧ (∀ i, i < k → m1.1 22 0 i = nI (tr i)) ∧ cB n (fdN g j b) m1 ∧ am_kp kP [] 0 m m1) _ (sA tr k + 1) (by omega) (fun N m1 hq => ⟨m1, ?_, hq⟩) (fun N j m1 hj hq => Or.inl ?_) m ⟨hs, h22, hb, am_kp.rf⟩
      · show lp_X2_place_25 (am_pl F) (N + 1) (nI k) (nI (sA tr k)) (nI h) (nI (sA tr k + 1)) m1 = _
        rw [lp_X2_place_25.eq_2, if_pos (nI_lt (by omega) (by omega))]
      · obtain ⟨s1, t1, b1, k1⟩ := hq
        have x1 := hx.kp k1
        have hq9 : (if nI (sA tr k) ≤ nI j then some (0 : Int32) else am_ck (nI j) 7 (some (m1.1 21 0 (nI j).toNatClampNeg))) = some (nI (stS tr j k)) := by
          by_cases e : sA tr k ≤ j
          · rw [if_pos (nI_le e (by omega)), stS_new e]; rfl
          · rw [if_neg (nI_ge (by omega) (by omega)), ck_in (by omega) (by decide), nI_clamp (by omega), s1 j (by omega)]
        obtain ⟨al, ea, hal⟩ := allow_ok (tr := tr) (s := j) (B := B) x1 hn (show k < n by omega) hcM hcA hB
        have gj : fdN g (j + 1) b = g j (fdN g j b) := rfl
        have gv : g j (fdN g j b) = pdf (wrt md M B n) d (k + 1) (if j < sA tr k then sA tr k else j + 1) (upd1 tr k j) (fdN g j b) := by rw [← hg]
        show ∃ a', lp_X2_place_25 (am_pl F) (N + 1) (nI k) (nI (sA tr k)) (nI h) (nI j) m1 = lp_X2_place_25 (am_pl F) N (nI k) (nI (sA tr k)) (nI h) (nI (j + 1)) a' ∧ _
        rw [lp_X2_place_25.eq_2, if_neg (nI_nlt (by omega) (by omega)), if_neg (show ¬ (7 : Int32) ≤ nI j from nI_ge (b := 7) (by omega) (by decide)), hq9, bd_s, ea, bd_s]
        have bad : ¬ okP B (upd1 tr k j) (k + 1) → fdN g (j + 1) b = fdN g j b := fun z => by
          rw [gj, gv]
          exact pdf_bad (b := fdN g j b) d (k + 1) _ _ _ (by omega) z
        cases al with
        | false =>
          rw [if_pos (show bv false = 0 from rfl), bd_s, nI_1]
          refine ⟨m1, rfl, s1, t1, ?_, k1⟩
          rw [bad (fun z => by have := hal.mpr ((okP_s hok).mp z); cases this)]
          exact b1
        | true =>
          have hok' : okP B (upd1 tr k j) (k + 1) := (okP_s hok).mpr (hal.mp rfl)
          have eA : sA (upd1 tr k j) (k + 1) = if j < sA tr k then sA tr k else j + 1 := sA_upd
          have cA : (if j < sA tr k then sA tr k else j + 1) ≤ 7 := by
            by_cases z : j < sA tr k
            · rw [if_pos z]; omega
            · rw [if_neg z]; omega
          have hr' : ∀ i, i < k + 1 → upd1 tr k j i ≤ i := fun i hi => by
            by_cases e : i = k
            · rw [e, upd1_eq]; omega
            · rw [upd1_ne e]; exact hr i (by omega)
          have sl7 : stS tr j k < 128 := Nat.lt_of_lt_of_le (sx_lt _ k) (pw_le (by omega))
          have k2 : am_kp kP [] 0 m (am_si (am_si m1 21 0 j (nI (stS tr j k ||| 2 ^ k))) 22 0 k (nI j)) := am_kp.si (am_kp.si k1 rfl) rfl
          have eH : nI h + nI (pc (sd (stS tr j k) (rowOf n M k))) = nI (cnH M (upd1 tr k j) (k + 1)) := by
            rw [nI_add, harm_ct hn (by omega) hcM, cnH, cnH_cong k (fun i hi => upd1_ne (by omega)), hh, upd1_eq]
            refine congrArg nI (congrArg _ (fb_ct_cong (fun a ha => ?_)))
            rw [upd1_ne (by omega)]
          have mx : ∀ m' : am_m, fn_J9_max_7cf53 (nI (sA tr k)) (nI j + 1) m' = some (nI (if j < sA tr k then sA tr k else j + 1)) := fun m' => by
            unfold fn_J9_max_7cf53
            rw [nI_1]
            by_cases z : j < sA tr k
            · rw [if_neg (nI_nlt (by omega) (by omega)), if_pos z]
            · rw [if_pos (nI_lt (by omega) (by omega)), if_neg z]
          have x2 := hx.kp k2
          obtain ⟨m3, f1, f2, f3, f4, f5⟩ := clev hn hcM hcA hB d (k + 1) (upd1 tr k j) (cnH M (upd1 tr k j) (k + 1)) (fdN g j b) (am_si (am_si m1 21 0 j (nI (stS tr j k ||| 2 ^ k))) 22 0 k (nI j)) F (by omega) (by omega) x2 hr' hok' (fun t ht => by
            show (am_si m1 21 0 j (nI (stS tr j k ||| 2 ^ k))).1 21 0 t = _
            rw [rd_j, stS_s]
            by_cases e : t = j
            · rw [if_pos e, if_pos e, e]
            · rw [if_neg e, if_neg e]
              refine s1 t ?_
              rw [eA] at ht
              by_cases z : j < sA tr k
              · rw [if_pos z] at ht; exact ht
              · rw [if_neg z] at ht; omega) (fun i hi => by
            rw [rd_j]
            by_cases e : i = k
            · rw [if_pos e, e, upd1_eq]
            · rw [if_neg e, upd1_ne e]; exact t1 i (by omega)) rfl (by
            cases hz : fdN g j b with
            | none => rw [hz] at b1; exact b1
            | some q => rw [hz] at b1; exact b1)
          rw [eA] at f1 f2 f4
          rw [if_neg (show ¬ bv true = 0 by decide), ck_in (show j < 7 by omega) (by decide), ck_in (show k < 7 by omega) (by decide), nI_clamp (show j < 2 ^ 31 by omega), nI_clamp (show k < 2 ^ 31 by omega), sh1 k (by omega), fa_or, mayOf_ok x2.1 hn (by omega), bd_s, sd_I, bc_ok (sd_small sl7 _), bd_s, mx, bd_s, eH, nI_1, f1, bd_s, ck_in (show j < 7 by omega) (by decide), bd_s, nI_1]
          refine ⟨_, rfl, fun t ht => ?_, fun i hi => ?_, ?_, am_kp.si (k2.tr f5) rfl⟩
          · rw [rd_j]
            by_cases e : t = j
            · rw [if_pos e, e]
            · have : t < if j < sA tr k then sA tr k else j + 1 := by
                by_cases z : j < sA tr k
                · rw [if_pos z]; exact ht
                · rw [if_neg z]; omega
              rw [if_neg e, f2 t this]
              show (am_si m1 21 0 j (nI (stS tr j k ||| 2 ^ k))).1 21 0 t = _
              rw [rd_j, if_neg e]; exact s1 t ht
          · show m3.1 22 0 i = _
            rw [f3 i (by omega), rd_j, if_neg (by omega)]
            exact t1 i hi
          · rw [gj, gv]
            cases hz : pdf (wrt md M B n) d (k + 1) (if j < sA tr k then sA tr k else j + 1) (upd1 tr k j) (fdN g j b) with
            | none => rw [hz] at f4; exact f4
            | some q => rw [hz] at f4; exact f4
    obtain ⟨m', e1, e2, e3, e4, e5⟩ := key
    refine ⟨m', ?_, fun t ht => by rw [e2 t ht, hs t ht], fun i hi => by rw [e3 i hi, h22 i hi], ?_, e5⟩
    · show fn_X2_place (am_pl F) (nI k) (nI (sA tr k)) (nI h) m = _
      unfold fn_X2_place
      rw [hx.2.2.2, if_neg (nI_ge (by omega) (by omega)), if_pos (show nI k < (7 : Int32) from nI_lt (b := 7) (by omega) (by decide)), e1, bd_s]
    · rw [pdf, hg]; exact e4
end CP1
