/-! the reference's turns: COMPARED, and, or, not, brackets -/
section RU
variable {T : Nat → Nat} {L p : Nat} {M M' : am_m} {P : rcd} {c : rcd} {s b l lv dep s0 b0 : Nat} {ord : Bool} {f : dn} {h : Nat} {a1 : Int32}
theorem wdk (hm : rmm T L ord M P s c b p lv dep) (j : Nat) (hj : j < 28) {x : Int64} (hx : x = lN (lx_cd (lx_W j).reverse)) : fn_X10_isWord x M = some (if lx_kd T L p = 259 + j then 1 else 0) := by rw [hx]; exact rword_ok hm.1 hj
theorem cmpK (hm : rmm T L ord M P s c b p lv dep) (hn : rnv P s b p) (hr : rv ord P 5 s0 b0 s c b f h) (hb : s0 = 0 ∨ bnd (P (s0 - 1)).1 < 5) : if lx_kd T L p = 60 ∨ lx_kd T L p = 62 ∨ lx_kd T L p = 61 then ∃ M' c2 b2, ((fn_X10_isSign 60 M).bind fun r25 => (if r25 = 0 then (fn_X10_isSign 62 M).bind fun r28 => (if r28 = 0 then some (27 : Int32) else some (26 : Int32)) else some (25 : Int32)).bind fun q31 => (if q31 ≠ (27 : Int32) then some (1 : Int32) else (fn_X10_isSign 61 M).bind fun r33 => (if r33 = 0 then some (0 : Int32) else some (1 : Int32))).bind fun q36 => (fn_X10_must q36 M).bind fun r37 => (if (r37.1 10 0 19) ≠ 0 then some ((1 : Int32), r37) else (fn_X10_settle 5 r37).bind fun r40 => (fn_X10_push q31 0 r40).bind fun r42 => some (1, r42))) = some (1, M') ∧ rmm T L ord M' (rcu P s0 (20 + sp_o (lx_kd T L p), 0)) (s0 + 1) c2 b2 (lx_nx T L p) lv dep ∧ (∀ j, j < b0 → c2 j = c j) ∧ rsg ord c2 b0 b2 f h ∧ rnv (rcu P s0 (20 + sp_o (lx_kd T L p), 0)) (s0 + 1) b2 (lx_nx T L p) else ∃ M', ((fn_X10_isSign 60 M).bind fun r25 => (if r25 = 0 then (fn_X10_isSign 62 M).bind fun r28 => (if r28 = 0 then some (27 : Int32) else some (26 : Int32)) else some (25 : Int32)).bind fun q31 => (if q31 ≠ (27 : Int32) then some (1 : Int32) else (fn_X10_isSign 61 M).bind fun r33 => (if r33 = 0 then some (0 : Int32) else some (1 : Int32))).bind fun q36 => (fn_X10_must q36 M).bind fun r37 => (if (r37.1 10 0 19) ≠ 0 then some ((1 : Int32), r37) else (fn_X10_settle 5 r37).bind fun r40 => (fn_X10_push q31 0 r40).bind fun r42 => some (1, r42))) = some (1, M') ∧ rbad M' p := by
  have hpL := hm.1.2.1
  have hL := hm.1.1.1
  rw [show (60 : Int32) = nI 60 from rfl, show (62 : Int32) = nI 62 from rfl, show (61 : Int32) = nI 61 from rfl, sg hm 60 (by decide) (by decide) (by decide), bd_s, sg hm 62 (by decide) (by decide) (by decide), bd_s, sg hm 61 (by decide) (by decide) (by decide), bd_s]
  have good : ∀ (k : Nat), lx_kd T L p = k → (k = 60 ∨ k = 62 ∨ k = 61) → ∃ M' c2 b2, ((fn_X10_must 1 M).bind fun r37 => (if (r37.1 10 0 19) ≠ 0 then some ((1 : Int32), r37) else (fn_X10_settle 5 r37).bind fun r40 => (fn_X10_push (nI (20 + sp_o k)) 0 r40).bind fun r42 => some (1, r42))) = some (1, M') ∧ rmm T L ord M' (rcu P s0 (20 + sp_o (lx_kd T L p), 0)) (s0 + 1) c2 b2 (lx_nx T L p) lv dep ∧ (∀ j, j < b0 → c2 j = c j) ∧ rsg ord c2 b0 b2 f h ∧ rnv (rcu P s0 (20 + sp_o (lx_kd T L p), 0)) (s0 + 1) b2 (lx_nx T L p) := by
    intro k hk hk3
    have hx := nx_in hpL (show lx_kd T L p ≠ 257 by omega)
    have ho : 5 ≤ sp_o k ∧ sp_o k ≤ 7 := by rcases hk3 with rfl | rfl | rfl <;> decide
    rw [hk]
    obtain ⟨M1, e1, e2⟩ := must1 (x := 1) (by decide) hm
    obtain ⟨M2, c2, b2, f1, f2, f3, f4, f5⟩ := rsettle (l := 5) e2 (show rnv P s b (lx_nx T L p) from ⟨by have := hn.1; omega, by have := hn.2.1; omega, hn.2.2⟩) (by decide) (by decide) hr hb
    have hs0 : s0 ≤ p := Nat.le_trans hr.1 hn.1
    obtain ⟨M3, g1, g2⟩ := push_ok (o := 20 + sp_o k) (a := 0) f2 (by omega)
    have pb2 : b2 + pend P s0 ≤ p := by
      obtain ⟨d1, d2, z1, -⟩ := hr.real hb
      have pe := stl_pend (P := P) (l := 5) (s0 := 0) s c b (fun i hi => (hn.2.2 i hi).2.1) (by decide)
      obtain ⟨M2', w1, w2, w3⟩ := rstl_ok (l := 5) (by decide) (by decide) e2.2.1 hn.2.2 (by have := hn.1; omega) (by have := hn.2.1; omega)
      rw [f1] at w1
      have ew := Option.some.inj w1
      subst ew
      rw [z1] at w2 pe
      have q1 : nI b2 = nI d2 := by rw [← f2.2.1.2.2.1]; exact w2.2.2.1
      have pe1 : d2 + pend P s0 = b + pend P s := pe.1
      have hb2 := f5.2.1
      have := (nI_eq (by omega) (by have := hn.2.1; omega)).mp q1
      have := hn.2.1
      omega
    refine ⟨M3, c2, b2, ?_, g2, f3, f4, rnv.push ⟨hs0, pb2, f5.2.2⟩ hx.1 (by omega) (fun z => by omega)⟩
    rw [e1, bd_s, if_neg (show ¬ M1.1 10 0 19 ≠ 0 from fun z => z e2.2.2.2.2.1), show (5 : Int32) = nI 5 from rfl, f1, bd_s, show fn_X10_push (nI (20 + sp_o k)) 0 M2 = some M3 from g1, bd_s]
  by_cases c1 : lx_kd T L p = 60
  · rw [if_pos (Or.inl c1), if_pos c1, if_neg (show ¬ (1 : Int32) = 0 by decide), bd_s, if_pos (show (25 : Int32) ≠ 27 by decide), bd_s]
    exact good 60 c1 (by omega)
  by_cases c2 : lx_kd T L p = 62
  · rw [if_pos (Or.inr (Or.inl c2)), if_neg c1, if_pos rfl, if_pos c2, if_neg (show ¬ (1 : Int32) = 0 by decide), bd_s, if_pos (show (26 : Int32) ≠ 27 by decide), bd_s]
    exact good 62 c2 (by omega)
  by_cases c3 : lx_kd T L p = 61
  · rw [if_pos (Or.inr (Or.inr c3)), if_neg c1, if_pos rfl, if_neg c2, if_pos rfl, bd_s, if_neg (show ¬ (27 : Int32) ≠ 27 from fun z => z rfl), if_pos c3, if_neg (show ¬ (1 : Int32) = 0 by decide), bd_s]
    exact good 61 c3 (by omega)
  · rw [if_neg (by omega), if_neg c1, if_pos rfl, if_neg c2, if_pos rfl, bd_s, if_neg (show ¬ (27 : Int32) ≠ 27 from fun z => z rfl), if_neg c3, if_pos rfl, bd_s]
    obtain ⟨M1, e1, e2⟩ := must0 hm hn.2.2 (by have := hn.1; omega) (by have := hn.2.1; omega)
    exact ⟨M1, by rw [e1, bd_s, if_pos (show M1.1 10 0 19 ≠ 0 by rw [e2.1]; decide)], e2⟩
/-- where a TEST is read -/
def tcx (a1 : Int32) (P : rcd) (s : Nat) : Prop := inn P s = 31 ∨ (inn P s = 0 ∧ a1 ≠ 0)
theorem bs_tcx (hm : rmm T L ord M P s c b p lv dep) (hn : rnv P s b p) (hk : lx_kd T L p ≠ 43 ∧ lx_kd T L p ≠ 45 ∧ lx_kd T L p ≠ 42 ∧ lx_kd T L p ≠ 47 ∧ lx_kd T L p ≠ 37) (ht : tcx a1 P s) : fn_X10_behindSum a1 M = if isc P s then some (2, M) else ((fn_X10_isSign 60 M).bind fun r25 => (if r25 = 0 then (fn_X10_isSign 62 M).bind fun r28 => (if r28 = 0 then some (27 : Int32) else some (26 : Int32)) else some (25 : Int32)).bind fun q31 => (if q31 ≠ (27 : Int32) then some (1 : Int32) else (fn_X10_isSign 61 M).bind fun r33 => (if r33 = 0 then some (0 : Int32) else some (1 : Int32))).bind fun q36 => (fn_X10_must q36 M).bind fun r37 => (if (r37.1 10 0 19) ≠ 0 then some ((1 : Int32), r37) else (fn_X10_settle 5 r37).bind fun r40 => (fn_X10_push q31 0 r40).bind fun r42 => some (1, r42))) := by
  have hpL := hm.1.2.1
  have hL := hm.1.1.1
  have hic := isc_ok hm.2.1 hn.2.2 (by have := hn.1; omega)
  unfold fn_X10_behindSum
  rw [bop_ok hm, bop_no hk, if_pos rfl, inner_ok hm.2.1 hn.2.2 (by have := hn.1; omega), bd_s]
  rcases ht with e | ⟨e, ha⟩
  · rw [e, if_neg (show ¬ 31 = 0 by decide), if_pos (show nI 31 ≠ (32 : Int32) by decide), if_pos (show nI 31 ≠ (-1 : Int32) by decide), hic, bd_s]
    cases isc P s with
    | true => rw [if_pos rfl, if_pos rfl, if_neg (show ¬ (1 : Int32) = 0 by decide)]
    | false => rw [if_neg (show ¬ false = true by decide), if_neg (show ¬ false = true by decide), if_pos rfl]
  · rw [e, if_pos rfl, if_pos (show (-1 : Int32) ≠ 32 by decide), if_neg (show ¬ (-1 : Int32) ≠ -1 from fun z => z rfl), if_pos ha, hic, bd_s]
    cases isc P s with
    | true => rw [if_pos rfl, if_pos rfl, if_neg (show ¬ (1 : Int32) = 0 by decide)]
    | false => rw [if_neg (show ¬ false = true by decide), if_neg (show ¬ false = true by decide), if_pos rfl]
theorem bs_over (hm : rmm T L ord M P s c b p lv dep) (hn : rnv P s b p) (hk : lx_kd T L p ≠ 43 ∧ lx_kd T L p ≠ 45 ∧ lx_kd T L p ≠ 42 ∧ lx_kd T L p ≠ 47 ∧ lx_kd T L p ≠ 37) (ht : inn P s = 0) : fn_X10_behindSum 0 M = some (4, M) := by
  have hpL := hm.1.2.1
  have hL := hm.1.1.1
  unfold fn_X10_behindSum
  rw [bop_ok hm, bop_no hk, if_pos rfl, inner_ok hm.2.1 hn.2.2 (by have := hn.1; omega), bd_s, ht, if_pos rfl, if_pos (show (-1 : Int32) ≠ 32 by decide), if_neg (show ¬ (-1 : Int32) ≠ -1 from fun z => z rfl), if_neg (show ¬ (0 : Int32) ≠ 0 from fun z => z rfl)]
/-- and, or -/
theorem bt_two {o : Nat} (hm : rmm T L ord M P s c b p lv dep) (hn : rnv P s b p) (ho : o = 29 ∧ lx_kd T L p = 260 ∨ o = 30 ∧ lx_kd T L p = 259) (hl : l = bnd o) (hr : rv ord P l s0 b0 s c b f h) (hb : s0 = 0 ∨ bnd (P (s0 - 1)).1 < l) : ∃ M' c2 b2, fn_X10_behindTest M = some (0, M') ∧ rmm T L ord M' (rcu P s0 (o, b2)) (s0 + 1) (rcu c2 b2 (o, 0)) (b2 + 1) (lx_nx T L p) lv dep ∧ (∀ j, j < b0 → c2 j = c j) ∧ rsg ord c2 b0 b2 f h ∧ rnv (rcu P s0 (o, b2)) (s0 + 1) (b2 + 1) (lx_nx T L p) := by
  have hpL := hm.1.2.1
  have hL := hm.1.1.1
  have hx := nx_in hpL (show lx_kd T L p ≠ 257 by omega)
  have hl12 : 1 ≤ l ∧ l ≤ 6 := by rw [hl]; rcases ho with ⟨rfl, -⟩ | ⟨rfl, -⟩ <;> decide
  obtain ⟨M1, c2, b2, e1, e2, e3, e4, e5⟩ := rsettle hm hn hl12.1 hl12.2 hr hb
  obtain ⟨n1, n2, n3⟩ := e5
  have hb2 : M1.1 10 0 23 = nI b2 := e2.2.1.2.2.1
  obtain ⟨M2, f1, f2⟩ := push_ok (o := o) (a := b2) e2 (by omega)
  obtain ⟨M3, g1, g2⟩ := emit1_ok (o := o) (a := 0) f2 (by omega)
  obtain ⟨M4, i1, i2⟩ := g2.next
  have pc : pend (rcu P s0 (o, b2)) s0 = pend P s0 := pend_cong (fun i hi => rcu_ne (by omega))
  refine ⟨M4, c2, b2, ?_, i2, e3, e4, by omega, ?_, fun i hi => ?_⟩
  · have w1 := wdk (x := 1476) hm 1 (by decide) (by decide +kernel)
    have w2 := wdk (x := 498) hm 0 (by decide) (by decide +kernel)
    unfold fn_X10_behindTest
    rw [w1, bd_s]
    rcases ho with ⟨rfl, hk⟩ | ⟨rfl, hk⟩
    · have hl : l = 2 := hl
      subst hl
      rw [if_pos hk, if_pos (show (1 : Int32) ≠ 0 by decide), if_neg (show ¬ (1 : Int32) = 0 by decide), if_neg (show ¬ (1 : Int32) = 0 by decide), show (2 : Int32) = nI 2 from rfl, e1, bd_s, hb2, show fn_X10_push 29 (nI b2) M1 = some M2 from f1, bd_s, show fn_X10_emit 29 0 M2 = some M3 from g1, bd_s, i1, bd_s]
    · have hl : l = 1 := hl
      subst hl
      rw [if_neg (show ¬ lx_kd T L p = 259 + 1 by omega), if_neg (show ¬ (0 : Int32) ≠ 0 from fun z => z rfl), w2, bd_s, if_pos (show lx_kd T L p = 259 + 0 from hk), if_neg (show ¬ (1 : Int32) = 0 by decide), if_pos rfl, if_pos rfl, show fn_X10_settle 1 M = some M1 from e1, bd_s, hb2, show fn_X10_push 30 (nI b2) M1 = some M2 from f1, bd_s, show fn_X10_emit 30 0 M2 = some M3 from g1, bd_s, i1, bd_s]
  · rw [pend, pc, rcu_eq, if_neg (by show ¬ o < 29; omega)]; omega
  · by_cases e : i = s0
    · rw [e, rcu_eq]; exact ⟨by show 20 ≤ o; omega, by show o ≤ 32; omega, fun _ => Nat.lt_succ_self _⟩
    · rw [rcu_ne e]
      have := n3 i (by omega)
      exact ⟨this.1, this.2.1, fun z => Nat.lt_succ_of_lt (this.2.2 z)⟩
/-- behind a bracket of a TEST -/
theorem bt_cl (hm : rmm T L ord M P s c b p lv (dep + 1)) (hn : rnv P s b p) (hk : lx_kd T L p ≠ 259 ∧ lx_kd T L p ≠ 260) (hi : inn P s = 31) (hP : (P s0).1 = 31) (hr : rv ord P 1 (s0 + 1) b0 s c b f h) : if lx_kd T L p = 41 then ∃ M' c2 b2, fn_X10_behindTest M = some (2, M') ∧ rmm T L ord M' P s0 c2 b2 (lx_nx T L p) lv dep ∧ (∀ j, j < b0 → c2 j = c j) ∧ rsg ord c2 b0 b2 f h ∧ rnv P s0 b2 (lx_nx T L p) else ∃ M', fn_X10_behindTest M = some (2, M') ∧ rbad M' p := by
  have hpL := hm.1.2.1
  have hL := hm.1.1.1
  have start : fn_X10_behindTest M = (fn_X10_must (if lx_kd T L p = 41 then 1 else 0) M).bind fun r23 => (if (r23.1 10 0 19) ≠ 0 then some (2, r23) else (fn_X10_settle 1 r23).bind fun r26 => some (2, am_si (am_si r26 10 0 29 ((r26.1 10 0 29) - (1 : Int32))) 10 0 30 ((r26.1 10 0 30) - (1 : Int32)))) := by
    unfold fn_X10_behindTest
    rw [wdk (x := 1476) hm 1 (by decide) (by decide +kernel), bd_s, if_neg (show ¬ lx_kd T L p = 259 + 1 by omega), if_neg (show ¬ (0 : Int32) ≠ 0 from fun z => z rfl), wdk (x := 498) hm 0 (by decide) (by decide +kernel), bd_s, if_neg (show ¬ lx_kd T L p = 259 + 0 by omega), if_pos rfl, inner_ok hm.2.1 hn.2.2 (by have := hn.1; omega), hi, if_neg (show ¬ 31 = 0 by decide), bd_s, if_pos (show nI 31 ≠ (-1 : Int32) by decide), show (41 : Int32) = nI 41 from rfl, sg hm 41 (by decide) (by decide) (by decide), bd_s]
  rw [start]
  by_cases c1 : lx_kd T L p = 41
  · rw [if_pos c1, if_pos c1]
    have hx := nx_in hpL (show lx_kd T L p ≠ 257 by omega)
    obtain ⟨M1, e1, e2⟩ := must1 (x := 1) (by decide) hm
    obtain ⟨M2, c2, b2, f1, f2, f3, f4, f5⟩ := rsettle (l := 1) e2 (show rnv P s b (lx_nx T L p) from ⟨by have := hn.1; omega, by have := hn.2.1; omega, hn.2.2⟩) (by decide) (by decide) hr (Or.inr (by rw [Nat.add_sub_cancel, hP]; decide))
    obtain ⟨q1, q2, q3, q4⟩ := f2.2.1
    obtain ⟨r1, r2, r3, r4, r5⟩ := f2.2.2
    have k : am_kp [(10, 29), (10, 30)] [] 0 M2 (am_si (am_si M2 10 0 29 (nI s0)) 10 0 30 (nI dep)) := am_kp.si (am_kp.si am_kp.rf rfl) rfl
    have pe : pend P (s0 + 1) = pend P s0 := by rw [pend, if_neg (by omega)]; rfl
    have sb : ∀ x, nI (x + 1) - (1 : Int32) = nI x := fun x => by rw [show (1 : Int32) = nI 1 from rfl, pk_sub (by omega), Nat.add_sub_cancel]
    refine ⟨am_si (am_si M2 10 0 29 (nI s0)) 10 0 30 (nI dep), c2, b2, ?_, ⟨f2.1.kp k rfl, ⟨rfl, fun i hi => q2 i (by omega), q3, q4⟩, r1, rfl, r3, r4, r5⟩, f3, f4, ⟨by have := f5.1; omega, by have := f5.2.1; omega, fun i hi => f5.2.2 i (by omega)⟩⟩
    rw [e1, bd_s, if_neg (show ¬ M1.1 10 0 19 ≠ 0 from fun z => z e2.2.2.2.2.1)]
    show ((fn_X10_settle (nI 1) M1).bind _) = _
    rw [f1, bd_s, q1, sb]
    show some (2, am_si (am_si M2 10 0 29 (nI s0)) 10 0 30 (M2.1 10 0 30 - 1)) = _
    rw [r2, sb]
  · rw [if_neg c1, if_neg c1]
    obtain ⟨M1, e1, e2⟩ := must0 hm hn.2.2 (by have := hn.1; omega) (by have := hn.2.1; omega)
    refine ⟨M1, ?_, e2⟩
    rw [e1, bd_s, if_pos (show M1.1 10 0 19 ≠ 0 by rw [e2.1]; decide)]
theorem bt_over (hm : rmm T L ord M P s c b p lv dep) (hn : rnv P s b p) (hk : lx_kd T L p ≠ 259 ∧ lx_kd T L p ≠ 260) (hi : inn P s = 0) : fn_X10_behindTest M = some (4, M) := by
  have hpL := hm.1.2.1
  have hL := hm.1.1.1
  unfold fn_X10_behindTest
  rw [wdk (x := 1476) hm 1 (by decide) (by decide +kernel), bd_s, if_neg (show ¬ lx_kd T L p = 259 + 1 by omega), if_neg (show ¬ (0 : Int32) ≠ 0 from fun z => z rfl), wdk (x := 498) hm 0 (by decide) (by decide +kernel), bd_s, if_neg (show ¬ lx_kd T L p = 259 + 0 by omega), if_pos rfl, inner_ok hm.2.1 hn.2.2 (by have := hn.1; omega), hi, if_pos rfl, bd_s, if_neg (show ¬ (-1 : Int32) ≠ -1 from fun z => z rfl)]
/-- not -/
theorem pl_not (hm : rmm T L ord M P s c b p lv dep) (hs : s < 400) (hk : lx_kd T L p = 261) : ∃ M', fn_X10_readPlain M = some (0, M') ∧ rmm T L ord M' (rcu P s (28, 0)) (s + 1) c b (lx_nx T L p) lv dep := by
  obtain ⟨M1, e1, e2⟩ := push_ok (o := 28) (a := 0) hm hs
  obtain ⟨M2, f1, f2⟩ := e2.next
  refine ⟨M2, ?_, f2⟩
  unfold fn_X10_readPlain
  rw [wdk (x := 14836) hm 2 (by decide) (by decide +kernel), bd_s, if_pos hk, if_neg (show ¬ (1 : Int32) = 0 by decide), show fn_X10_push 28 0 M = some M1 from e1, bd_s, f1, bd_s]
theorem pl_open (hm : rmm T L ord M P s c b p lv dep) (hk : lx_kd T L p = 40) : fn_X10_readPlain M = (fn_X10_openBracket 31 M).bind fun r9 => some (0, r9) := by
  unfold fn_X10_readPlain
  rw [wdk (x := 14836) hm 2 (by decide) (by decide +kernel), bd_s, if_neg (show ¬ lx_kd T L p = 259 + 2 by omega), if_pos rfl, show (40 : Int32) = nI 40 from rfl, sg hm 40 (by decide) (by decide) (by decide), bd_s, if_pos hk, if_neg (show ¬ (1 : Int32) = 0 by decide)]
theorem pl_part {t : Int32} (hm : rmm T L ord M P s c b p lv dep) (hk : lx_kd T L p ≠ 261 ∧ lx_kd T L p ≠ 40) (e : fn_X10_readPart M = some (t, M')) : fn_X10_readPlain M = some (t, M') := by
  unfold fn_X10_readPlain
  rw [wdk (x := 14836) hm 2 (by decide) (by decide +kernel), bd_s, if_neg (show ¬ lx_kd T L p = 259 + 2 by omega), if_pos rfl, show (40 : Int32) = nI 40 from rfl, sg hm 40 (by decide) (by decide) (by decide), bd_s, if_neg hk.2, if_pos rfl, e, bd_s]
theorem pt_open (hm : rmm T L ord M P s c b p lv dep) (hk : lx_kd T L p = 91) : fn_X10_readPart M = (fn_X10_openBracket 32 M).bind fun r29 => some (1, r29) := by
  unfold fn_X10_readPart
  rw [show (91 : Int32) = nI 91 from rfl, sg hm 91 (by decide) (by decide) (by decide), bd_s, if_pos hk, if_neg (show ¬ (1 : Int32) = 0 by decide)]
end RU
