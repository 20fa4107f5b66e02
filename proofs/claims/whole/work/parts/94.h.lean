/-! a CLAUSE of ORDERS: its SUMS, how often -/
/-- what a CLAUSE of ORDERS is: which, how often, its TEST, its SUMS -/
abbrev oz_T : Type := Nat × Nat × Option dn × (Nat → Option dn)
def nS (h : Nat) : Nat := if h = 0 then 3 else if h = 1 then 1 else if h = 2 then 2 else 0
def ocl (c c' : rcd) (a b aw : Nat) (hd rw : Nat → Int32) (i : Nat) (z : oz_T) : Prop := ∃ B B2 : Nat → Nat, hd (6 * i) = nI (270 + z.1) ∧ rw (10 * i) = nI z.1 ∧ z.1 ≤ 3 ∧ hd (6 * i + 1) = nI z.2.1 ∧ rw (10 * i + 9) = nI z.2.1 ∧ 1 ≤ z.2.1 ∧ z.2.1 ≤ 20 ∧ rw (10 * i + 7) = nI (B 3) ∧ rw (10 * i + 8) = nI (B2 3) ∧ xo true c c' a b aw (hd (6 * i + 2)) (B 3) (B2 3) z.2.2.1 ∧ (∀ f, z.2.2.1 = some f → dn_01 f) ∧ ∀ j, j < 3 → rw (10 * i + 1 + 2 * j) = nI (B j) ∧ rw (10 * i + 2 + 2 * j) = nI (B2 j) ∧ xo true c c' a b aw (hd (6 * i + 3 + j)) (B j) (B2 j) (z.2.2.2 j) ∧ (j < nS z.1 ↔ z.2.2.2 j ≠ none) ∧ ∀ f, z.2.2.2 j = some f → dn_bd f
def oRes (T : Nat → Nat) (L n k s j : Nat) (m M : am_m) (c c' : rcd) (a b p aw : Nat) (ρ : Option am_m) : Prop :=
  (∃ q m3 M3, (∀ N, lp_X4_readClause_42 (N + 1) (nI s) (nI j) m = some (.inr (0, m3))) ∧ m3.1 4 0 10 = nI q ∧ ρ = some M3 ∧ M3.1 10 0 19 = 1 ∧ M3.1 10 0 18 = nI q) ∨
  (∃ m3 M3 c2 c2' a2 b2 p2 lv2 aw2 f, (∀ N, lp_X4_readClause_42 (N + 1) (nI s) (nI j) m = lp_X4_readClause_42 N (nI s) (nI (j + 1)) m3) ∧ ρ = some M3 ∧ lks T L n true m3 M3 c2 c2' a2 b2 p2 lv2 aw2 ∧ lgo c c' a b p aw c2 c2' a2 b2 p2 aw2 ∧ xf true c2 c2' a2 b2 aw2 a b b2 f ∧ dn_bd f ∧ (∀ i, m3.1 28 0 i = if i = 6 * k + 3 + j then nI a else m.1 28 0 i) ∧ m3.1 5 0 2 = m.1 5 0 2 ∧ m3.2.2 = m.2.2 ∧ (∀ i, M3.1 61 0 i = if i = 10 * k + 2 + 2 * j then nI b2 else if i = 10 * k + 1 + 2 * j then nI b else M.1 61 0 i) ∧ M3.1 10 0 21 = M.1 10 0 21)
def rTimes (k : Nat) (q : am_m) : Option am_m := if (q.1 10 0 19) ≠ 0 then some (am_si q 61 0 (10 * k + 9) 1) else (fn_X10_isWord 21279923 (am_si q 61 0 (10 * k + 9) 1)).bind fun r36 => (if r36 = 0 then some (am_si q 61 0 (10 * k + 9) 1) else (fn_X10_next (am_si q 61 0 (10 * k + 9) 1)).bind fun r39 => (fn_X10_number 1 20 r39).bind fun r41 => am_ck (nI (10 * k + 9)) 120 (some (am_si r41.2 61 0 (10 * k + 9) r41.1)))
section LH
variable {T : Nat → Nat} {L n p : Nat} {m m' M M' : am_m} {c c' : rcd} {a b lv aw k s : Nat}
theorem rsum_eq {x : Nat} {q : am_m} (hx : x < 119) (h19 : M.1 10 0 19 = 0) (he : fn_X10_readExpression 0 (am_si M 61 0 x (M.1 10 0 23)) = some q) : fn_X10_readSum (nI x) M = some (am_si q 61 0 (x + 1) (q.1 10 0 23)) := by
  unfold fn_X10_readSum
  rw [nI_1, nI_clamp (show x < 2 ^ 31 by omega), nI_clamp (show x + 1 < 2 ^ 31 by omega), ck_in (show x < 120 by omega) (by decide), if_neg (fun z => z h19), he, bd_s, bd_s, ck_in (show x + 1 < 120 by omega) (by decide)]
theorem rsum_bad {x : Nat} {q : Nat} (hx : x < 119) (h19 : M.1 10 0 19 = 1) (h18 : M.1 10 0 18 = nI q) : ∃ M', fn_X10_readSum (nI x) M = some M' ∧ M'.1 10 0 19 = 1 ∧ M'.1 10 0 18 = nI q := by
  refine ⟨am_si (am_si M 61 0 x (M.1 10 0 23)) 61 0 (x + 1) ((am_si M 61 0 x (M.1 10 0 23)).1 10 0 23), ?_, h19, h18⟩
  unfold fn_X10_readSum
  rw [nI_1, nI_clamp (show x < 2 ^ 31 by omega), nI_clamp (show x + 1 < 2 ^ 31 by omega), ck_in (show x < 120 by omega) (by decide), if_pos (show M.1 10 0 19 ≠ 0 by rw [h19]; decide), bd_s, ck_in (show x + 1 < 120 by omega) (by decide)]
theorem rbeh_bad {w : Int64} {x : Nat} {q : Nat} (hx : x < 119) (h19 : M.1 10 0 19 = 1) (h18 : M.1 10 0 18 = nI q) : ∃ M', fn_X10_readBehind w (nI x) M = some M' ∧ M'.1 10 0 19 = 1 ∧ M'.1 10 0 18 = nI q := by
  obtain ⟨M', e1, e2⟩ := rsum_bad (x := x) hx h19 h18
  refine ⟨M', ?_, e2⟩
  unfold fn_X10_readBehind
  rw [if_pos (show M.1 10 0 19 ≠ 0 by rw [h19]; decide), bd_s, e1, bd_s]
/-- a SUM alone, on both sides -/
theorem osum {j : Nat} (hT : ∀ k, k < L → T k < 256) (hk : lks T L n true m M c c' a b p lv aw) (ha : a + 1 ≤ p) (h2 : m.1 5 0 2 = nI (k + 1)) (hk12 : k < 12) (hl : m.2.2.2.2.2.2.1 28 0 = 72) (hj : j < 3) :
    ∃ m1, fn_X5_mark 0 (nI (3 + j)) (m.1 5 0 3) m = some m1 ∧ (
      (∃ q m2 M3, am_rd 40 4 0 m1 = some (0, m2) ∧ m2.1 4 0 10 = nI q ∧ fn_X10_readSum (nI (10 * k + 1 + 2 * j)) M = some M3 ∧ M3.1 10 0 19 = 1 ∧ M3.1 10 0 18 = nI q) ∨
      (∃ m2 m3 M3 c2 c2' a2 b2 p2 lv2 aw2 f, am_rd 40 4 0 m1 = some (1, m2) ∧ fn_X5_put 0 257 0 m2 = some m3 ∧ fn_X10_readSum (nI (10 * k + 1 + 2 * j)) M = some M3 ∧ lks T L n true m3 M3 c2 c2' a2 b2 p2 lv2 aw2 ∧ lgo c c' a b p aw c2 c2' a2 b2 p2 aw2 ∧ xf true c2 c2' a2 b2 aw2 a b b2 f ∧ dn_bd f ∧ (∀ i, m3.1 28 0 i = if i = 6 * k + 3 + j then nI a else m.1 28 0 i) ∧ m3.1 5 0 2 = m.1 5 0 2 ∧ m3.2.2 = m.2.2 ∧ (∀ i, M3.1 61 0 i = if i = 10 * k + 2 + 2 * j then nI b2 else if i = 10 * k + 1 + 2 * j then nI b else M.1 61 0 i) ∧ M3.1 10 0 21 = M.1 10 0 21)) := by
  have h19 : M.1 10 0 19 = 0 := hk.2.1.2.2.2.1
  have b23 : M.1 10 0 23 = nI b := hk.2.1.2.1.1
  have k1 : am_kp [(10, 21), (51, 0), (61, 0)] [] 0 M (am_si M 61 0 (10 * k + 1 + 2 * j) (M.1 10 0 23)) := am_kp.si am_kp.rf rfl
  obtain ⟨m1, d1, dd⟩ := lks_read (k := k) (fld := 3 + j) (Or.inl ⟨rfl, rfl⟩) hT (show lks T L n true m (am_si M 61 0 (10 * k + 1 + 2 * j) (M.1 10 0 23)) c c' a b p lv aw from ⟨hk.1, hk.2.1.k51 k1, hk.2.2⟩) ha h2 hk12 hl (by omega)
  refine ⟨m1, d1, ?_⟩
  rcases dd with ⟨q1, m4, M3, g1, g2, g3, g4, g5⟩ | ⟨m4, m5, M3, c2, c2', a2, b2, p2, lv2, aw2, f, g1, g2, g3, g4, g5, g6, g7, g8, g9, g10, g11⟩
  · exact Or.inl ⟨q1, m4, _, g1, g2, rsum_eq (by omega) h19 g3, g4, g5⟩
  · have kx := kp_X10_readExpression _ _ _ g3
    have b2e : M3.1 10 0 23 = nI b2 := g4.2.1.2.1.1
    have k2 : am_kp [(10, 21), (51, 0), (61, 0)] [] 0 M3 (am_si M3 61 0 (10 * k + 1 + 2 * j + 1) (M3.1 10 0 23)) := am_kp.si am_kp.rf rfl
    refine Or.inr ⟨m4, m5, _, c2, c2', a2, b2, p2, lv2, aw2, f, g1, g2, rsum_eq (by omega) h19 g3, ⟨g4.1, g4.2.1.k51 k2, g4.2.2⟩, g5, g6, g8 rfl, fun i => ?_, g10, g11, fun i => ?_, ?_⟩
    · rw [g9, Nat.add_assoc]
    · rw [rd_j, b2e, kx.row 61 rfl, rd_j, b23, show 10 * k + 1 + 2 * j + 1 = 10 * k + 2 + 2 * j by omega]
    · show M3.1 10 0 21 = _
      rw [kx.fld 10 0 21 rfl]; rfl
theorem osum0 (hT : ∀ k, k < L → T k < 256) (hk : lks T L n true m M c c' a b p lv aw) (ha : a + 1 ≤ p) (h2 : m.1 5 0 2 = nI (k + 1)) (hk12 : k < 12) (hl : m.2.2.2.2.2.2.1 28 0 = 72) (hs : 1 ≤ s) (hs3 : s ≤ 3) : oRes T L n k s 0 m M c c' a b p aw (fn_X10_readSum (nI (10 * k + 1)) M) := by
  obtain ⟨m1, d1, dd⟩ := osum (k := k) (j := 0) hT hk ha h2 hk12 hl (by decide)
  rcases dd with ⟨q, m2, M3, g1, g2, g3⟩ | ⟨m2, m3, M3, c2, c2', a2, b2, p2, lv2, aw2, f, g1, g2, g3⟩
  · exact Or.inl ⟨q, m2, M3, fun N => cl_first0 hs hs3 d1 g1, g2, g3⟩
  · exact Or.inr ⟨m3, M3, c2, c2', a2, b2, p2, lv2, aw2, f, fun N => cl_first hs hs3 d1 g1 g2, g3⟩
theorem w_to : (655 : Int64) = lN (lx_cd (lx_W 5).reverse) := by decide +kernel
theorem w_by : (89 : Int64) = lN (lx_cd (lx_W 6).reverse) := by decide +kernel
theorem w_tm : (21279923 : Int64) = lN (lx_cd (lx_W 4).reverse) := by decide +kernel
theorem osumj {j : Nat} {w : Int64} (hT : ∀ k, k < L → T k < 256) (hk : lks T L n true m M c c' a b p lv aw) (h2 : m.1 5 0 2 = nI (k + 1)) (hk12 : k < 12) (hl : m.2.2.2.2.2.2.1 28 0 = 72) (hj : j = 1 ∧ w = 655 ∨ j = 2 ∧ w = 89) (hs : j < s) (hs3 : s ≤ 3) : oRes T L n k s j m M c c' a b p aw (fn_X10_readBehind w (nI (10 * k + 1 + 2 * j)) M) := by
  have hk0 := hk
  obtain ⟨hc, hr, hp, hlv, haw, hap⟩ := hk
  have hkd := kd_286 hT hp
  have h19 : M.1 10 0 19 = 0 := hr.2.2.2.1
  have ew : fn_X10_isWord w M = some (if lx_kd T L p = 263 + j then 1 else 0) := by
    rcases hj with ⟨rfl, rfl⟩ | ⟨rfl, rfl⟩
    · rw [w_to]; exact rword_ok (j := 5) hr.1 (by decide)
    · rw [w_by]; exact rword_ok (j := 6) hr.1 (by decide)
  have et : (if nI j ≠ (1 : Int32) then (265 : Int32) else (264 : Int32)) = nI (263 + j) := by
    rcases hj with ⟨rfl, rfl⟩ | ⟨rfl, rfl⟩ <;> decide
  have e3 : (3 : Int32) + nI j = nI (3 + j) := by rw [show (3 : Int32) = nI 3 from rfl, nI_add]
  have un : ∀ N, lp_X4_readClause_42 (N + 1) (nI s) (nI j) m = (fn_X4_took (nI (263 + j)) m).bind fun r18 => (if r18.1 ≠ 0 then (fn_X5_mark 0 (nI (3 + j)) (r18.2.1 5 0 3) r18.2).bind fun r21 => (am_rd 40 4 0 r21).bind fun r23 => (if r23.1 ≠ 0 then (fn_X5_put 0 257 0 r23.2).bind fun r26 => lp_X4_readClause_42 N (nI s) (nI (j + 1)) r26 else some (.inr (0, r23.2))) else some (.inr (0, r18.2))) := fun N => by
    rw [lp_X4_readClause_42.eq_2, if_neg (show ¬ nI s ≤ nI j from nI_ge hs (by omega)), if_neg (show ¬ nI j ≤ 0 from nI_ge (a := 0) (b := j) (by omega) (by omega)), et, e3, nI_1]
  have tk := ctook (k := 263 + j) (by omega) hc (by omega)
  by_cases e : lx_kd T L p = 263 + j
  · rw [if_pos e] at tk ew
    obtain ⟨m1, t1, t2⟩ := tk
    have kt := kp_X4_took _ _ _ t1
    obtain ⟨M1, f1, f2, f3⟩ := hr.must1 (x := 1) (by decide)
    have up := nx_up (T := T) hp (by omega)
    have el : m1.2.2 = m.2.2 := kt.2.2
    have rb : fn_X10_readBehind w (nI (10 * k + 1 + 2 * j)) M = fn_X10_readSum (nI (10 * k + 1 + 2 * j)) M1 := by
      unfold fn_X10_readBehind
      rw [if_neg (fun z => z h19), ew, bd_s, f1, bd_s, bd_s]
      cases fn_X10_readSum (nI (10 * k + 1 + 2 * j)) M1 <;> rfl
    obtain ⟨m2, d1, dd⟩ := osum (k := k) (j := j) hT (show lks T L n true m1 M1 c c' a b (lx_nx T L p) lv aw from ⟨t2, f2, up.2, hlv, haw, by omega⟩) (by omega) (by rw [kt.fld 5 0 2 rfl]; exact h2) hk12 (by rw [el]; exact hl) (by omega)
    rw [rb]
    rcases dd with ⟨q, m3, M3, g1, g2, g3⟩ | ⟨m3, m4, M3, c2, c2', a2, b2, p2, lv2, aw2, f, g1, g2, g3, g4, g5, g6, g7, g8, g9, g10, g11, g12⟩
    · refine Or.inl ⟨q, m3, M3, fun N => ?_, g2, g3⟩
      rw [un, t1, bd_s, if_pos (show (1 : Int32) ≠ 0 by decide), d1, bd_s, g1, bd_s, if_neg (show ¬ (0 : Int32) ≠ 0 from fun z => z rfl)]
    · refine Or.inr ⟨m4, M3, c2, c2', a2, b2, p2, lv2, aw2, f, fun N => ?_, g3, g4, lgo.tr (c2 := c) (c2' := c') (a2 := a) (b2 := b) (p2 := lx_nx T L p) (aw2 := aw) ⟨fun _ _ => rfl, fun _ _ => rfl, Nat.le_refl _, Nat.le_refl _, by omega, fun _ z => z⟩ g5, g6, g7, fun i => ?_, ?_, ?_, fun i => ?_, ?_⟩
      · rw [un, t1, bd_s, if_pos (show (1 : Int32) ≠ 0 by decide), d1, bd_s, g1, bd_s, if_pos (show (1 : Int32) ≠ 0 by decide), g2, bd_s]
      · rw [g8, kt.row 28 rfl]
      · rw [g9, kt.fld 5 0 2 rfl]
      · rw [g10, el]
      · rw [g11, f3.row 61 rfl]
      · rw [g12, f3.fld 10 0 21 rfl]
  · rw [if_neg e] at tk ew
    obtain ⟨m1, t1, t2⟩ := tk
    obtain ⟨M1, f1, f2, f3, f4⟩ := hr.must0
    obtain ⟨M2, x1, x2⟩ := rsum_bad (x := 10 * k + 1 + 2 * j) (by omega) f2 f3
    refine Or.inl ⟨p, m1, M2, fun N => ?_, t2, ?_, x2⟩
    · rw [un, t1, bd_s, if_neg (show ¬ (0 : Int32) ≠ 0 from fun z => z rfl)]
    · unfold fn_X10_readBehind
      rw [if_neg (fun z => z h19), ew, bd_s, f1, bd_s, bd_s, x1, bd_s]
/-- how often -/
theorem otimes (hT : ∀ k, k < L → T k < 256) (hk : lks T L n true m M c c' a b p lv aw) (h2 : m.1 5 0 2 = nI (k + 1)) (hk12 : k < 12) (hl : m.2.2.2.2.2.2.1 28 0 = 72) (h28 : m.1 28 0 (6 * k + 1) = 1) :
    (∃ q m' M', cAft m = some (0, m') ∧ m'.1 4 0 10 = nI q ∧ rTimes k M = some M' ∧ M'.1 10 0 19 = 1 ∧ M'.1 10 0 18 = nI q) ∨
    (∃ m' M' p2 t, cAft m = cTail m' ∧ rTimes k M = some M' ∧ lks T L n true m' M' c c' a b p2 lv aw ∧ p ≤ p2 ∧ 1 ≤ t ∧ t ≤ 20 ∧ (∀ i, m'.1 28 0 i = if i = 6 * k + 1 then nI t else m.1 28 0 i) ∧ m'.1 5 0 2 = m.1 5 0 2 ∧ m'.2.2 = m.2.2 ∧ (∀ i, M'.1 61 0 i = if i = 10 * k + 9 then nI t else M.1 61 0 i) ∧ M'.1 10 0 21 = M.1 10 0 21) := by
  obtain ⟨hc, hr, hp, hlv, haw, hap⟩ := hk
  have hkd := kd_286 hT hp
  have k6 : m.1 4 0 6 = nI (lx_kd T L p) := hc.1.2.2.1
  have h19 : M.1 10 0 19 = 0 := hr.2.2.2.1
  have k1 : am_kp [(10, 21), (51, 0), (61, 0)] [] 0 M (am_si M 61 0 (10 * k + 9) 1) := am_kp.si am_kp.rf rfl
  have hr1 := hr.k51 k1
  have ew : fn_X10_isWord 21279923 (am_si M 61 0 (10 * k + 9) 1) = some (if lx_kd T L p = 263 then 1 else 0) := by rw [w_tm]; exact rword_ok (j := 4) hr1.1 (by decide)
  unfold cAft rTimes
  rw [k6, if_neg (show ¬ M.1 10 0 19 ≠ 0 from fun z => z h19), ew, bd_s]
  by_cases e : lx_kd T L p = 263
  · rw [if_neg (show ¬ nI (lx_kd T L p) ≠ (263 : Int32) from fun z => z (by rw [e]; rfl)), if_pos e, if_neg (show ¬ (1 : Int32) = 0 by decide), show m.1 4 0 9 = 1 from hc.2.2.2.1, if_neg (show ¬ (1 : Int32) = 0 by decide)]
    obtain ⟨m1, e1, e2⟩ := cgoto hc
    obtain ⟨M1, f1, f2, f3⟩ := hr1.next
    have kg := kp_X4_goTo _ _ _ e1
    have up := nx_up (T := T) hp (by omega)
    have el : m1.2.2 = m.2.2 := kg.2.2
    have hkd1 := kd_286 hT up.2
    obtain ⟨n1, n2⟩ := rnum_ok f2.1
    have j6 : m1.1 4 0 6 = nI (lx_kd T L (lx_nx T L p)) := e2.1.2.2.1
    have j7 : m1.1 4 0 7 = nI (lx_vl T L (lx_nx T L p)) := e2.1.2.2.2
    rw [f1, bd_s]
    unfold fn_X4_readTimes fn_X10_number
    rw [e1, bd_s, j6, j7]
    have hin : (if (M1.1 10 0 16) ≠ (2 : Int32) then some (0 : Int32) else (fn_X10_in (M1.2.1 10 0 17) 1 20 M1).bind fun r2 => (if r2 = 0 then some (0 : Int32) else some (1 : Int32))) = some (if lx_kd T L (lx_nx T L p) = 256 ∧ 1 ≤ lx_vl T L (lx_nx T L p) ∧ lx_vl T L (lx_nx T L p) ≤ 20 then 1 else 0) := by
      by_cases c1 : lx_kd T L (lx_nx T L p) = 256
      · obtain ⟨x, x1, x2, x3⟩ := n2 c1
        rw [if_neg (show ¬ M1.1 10 0 16 ≠ (2 : Int32) from fun z => z (n1.mpr c1)), x1, ← nI_l (show x < 2 ^ 31 by omega), show (1 : Int64) = (nI 1).toInt64 from rfl, show (20 : Int64) = (nI 20).toInt64 from rfl, in_32, bd_s]
        by_cases c2 : 1 ≤ x ∧ x ≤ 20
        · rw [if_pos (show nI 1 ≤ nI x ∧ nI x ≤ nI 20 from ⟨nI_le c2.1 (by omega), nI_le c2.2 (by decide)⟩), if_neg (show ¬ (1 : Int32) = 0 by decide), if_pos ⟨c1, by omega, by omega⟩]
        · rw [if_neg (show ¬ (nI 1 ≤ nI x ∧ nI x ≤ nI 20) from fun z => by
            have q1 := (nI_leI (a := x) (b := 20) (by omega) (by decide)).mp z.2
            have q2 := (nI_leI (a := 1) (b := x) (by decide) (by omega)).mp z.1
            omega), if_pos rfl, if_neg (fun z => by omega)]
      · rw [if_pos (fun z => c1 (n1.mp z)), if_neg (fun z => c1 z.1)]
    rw [hin, bd_s]
    by_cases c1 : lx_kd T L (lx_nx T L p) = 256 ∧ 1 ≤ lx_vl T L (lx_nx T L p) ∧ lx_vl T L (lx_nx T L p) ≤ 20
    · obtain ⟨x, x1, x2, x3⟩ := n2 c1.1
      obtain ⟨M2, y1, y2, y3⟩ := f2.must1 (x := 1) (by decide)
      have h2' : m1.1 5 0 2 = nI (k + 1) := by rw [kg.fld 5 0 2 rfl]; exact h2
      have hm := cmark (f := 1) (v := nI (lx_vl T L (lx_nx T L p))) h2' hk12 (by rw [el]; exact hl) (by decide)
      have k28 : am_kp [(5, 2), (28, 0)] [] 0 m1 (am_si m1 28 0 (6 * k + 1) (nI (lx_vl T L (lx_nx T L p)))) := am_kp.si am_kp.rf rfl
      obtain ⟨m2, z1, z2⟩ := cgoto (e2.k28 k28)
      have kz := kp_X4_goTo _ _ _ z1
      have up2 := nx_up (T := T) up.2 (by omega)
      have k3 : am_kp [(10, 21), (51, 0), (61, 0)] [] 0 M2 (am_si M2 61 0 (10 * k + 9) (nI x)) := am_kp.si am_kp.rf rfl
      have ev : x = lx_vl T L (lx_nx T L p) := by omega
      refine Or.inr ⟨m2, am_si M2 61 0 (10 * k + 9) (nI x), lx_nx T L (lx_nx T L p), lx_vl T L (lx_nx T L p), ?_, ?_, ⟨z2, y2.k51 k3, up2.2, hlv, haw, by omega⟩, by omega, c1.2.1, c1.2.2, fun i => ?_, ?_, ?_, fun i => ?_, ?_⟩
      · rw [if_neg (show ¬ nI (lx_kd T L (lx_nx T L p)) ≠ (256 : Int32) from fun z => z (by rw [c1.1]; rfl)), if_neg (show ¬ nI (lx_vl T L (lx_nx T L p)) < (1 : Int32) from fun z => by have := (nI_ltI (b := 1) (by omega) (by decide)).mp z; omega), if_pos (show nI (lx_vl T L (lx_nx T L p)) ≤ (20 : Int32) from nI_le (b := 20) c1.2.2 (by decide)), show fn_X5_mark 0 1 (nI (lx_vl T L (lx_nx T L p))) m1 = _ from hm, bd_s, z1, bd_s, bd_s, if_pos (show (1 : Int32) ≠ 0 by decide)]
      · rw [if_pos c1, y1, bd_s, bd_s, x1, lN_i, ck_in (by omega) (by decide)]
      · rw [kz.row 28 rfl, rd_j, kg.row 28 rfl]
      · rw [kz.fld 5 0 2 rfl]
        show m1.1 5 0 2 = _
        rw [kg.fld 5 0 2 rfl]
      · rw [show m2.2.2 = m1.2.2 from kz.2.2, el]
      · rw [rd_j, y3.row 61 rfl, f3.row 61 rfl, rd_j, ev]
        by_cases q : i = 10 * k + 9
        · rw [if_pos q, if_pos q]
        · rw [if_neg q, if_neg q, if_neg q]
      · show M2.1 10 0 21 = _
        rw [y3.fld 10 0 21 rfl, f3.fld 10 0 21 rfl]; rfl
    · obtain ⟨M2, y1, y2, y3, y4⟩ := f2.must0
      obtain ⟨m2, z1, z2⟩ := cfail e2.1
      refine Or.inl ⟨lx_nx T L p, m2, am_si M2 61 0 (10 * k + 9) (M1.2.1 10 0 17).toInt32, ?_, z2, ?_, y2, y3⟩
      · have F : ((fn_X4_failed m1).bind fun r4 => am_gd (r4.1 = 0 ∨ r4.1 = 1) (some (r4.1, r4.2))) = some (0, m2) := by rw [z1, bd_s, gd_t (Or.inl rfl)]
        have G : ∀ X : Option (Int32 × am_m), X = some (0, m2) → (X.bind fun r52 => (if r52.1 ≠ 0 then cTail r52.2 else some (0, r52.2))) = some (0, m2) := fun X hX => by rw [hX, bd_s, if_neg (show ¬ (0 : Int32) ≠ 0 from fun z => z rfl)]
        apply G
        by_cases q1 : lx_kd T L (lx_nx T L p) = 256
        · rw [if_neg (show ¬ nI (lx_kd T L (lx_nx T L p)) ≠ (256 : Int32) from fun z => z (by rw [q1]; rfl))]
          obtain ⟨x, x1, x2, x3⟩ := n2 q1
          by_cases q2 : lx_vl T L (lx_nx T L p) < 1
          · rw [if_pos (show nI (lx_vl T L (lx_nx T L p)) < (1 : Int32) from (nI_ltI (b := 1) (by omega) (by decide)).mpr q2)]
            exact F
          · rw [if_neg (show ¬ nI (lx_vl T L (lx_nx T L p)) < (1 : Int32) from fun z => q2 ((nI_ltI (b := 1) (by omega) (by decide)).mp z)), if_neg (show ¬ nI (lx_vl T L (lx_nx T L p)) ≤ (20 : Int32) from fun z => by have := (nI_leI (b := 20) (by omega) (by decide)).mp z; omega)]
            exact F
        · rw [if_pos (show nI (lx_kd T L (lx_nx T L p)) ≠ (256 : Int32) from nI_ne (b := 256) (by omega) (by decide) q1)]
          exact F
      · rw [if_neg c1, y1, bd_s, bd_s, ck_in (by omega) (by decide)]
  · rw [if_pos (show nI (lx_kd T L p) ≠ (263 : Int32) from nI_ne (b := 263) (by omega) (by decide) e), if_neg e, if_pos rfl]
    refine Or.inr ⟨m, _, p, 1, rfl, rfl, ⟨hc, hr1, hp, hlv, haw, hap⟩, Nat.le_refl _, by decide, by decide, fun i => ?_, rfl, rfl, fun i => ?_, rfl⟩
    · by_cases q : i = 6 * k + 1
      · rw [if_pos q, q, h28]; rfl
      · rw [if_neg q]
    · rw [rd_j]; rfl
end LH
