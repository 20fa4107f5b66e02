/-! the reference's turns -/
def rnv (P : rcd) (s b p : Nat) : Prop := s ≤ p ∧ b + pend P s ≤ p ∧ rvl P s b
section RT
variable {T : Nat → Nat} {L p : Nat} {M M' : am_m} {P : rcd} {c : rcd} {s b l lv dep s0 b0 : Nat} {ord : Bool} {f : dn} {h : Nat} {a1 : Int32}
theorem pend_le : ∀ {s s0 : Nat}, s0 ≤ s → pend P s0 ≤ pend P s
  | 0, s0, h => by rw [show s0 = 0 by omega]; exact Nat.le_refl _
  | s + 1, s0, h => by
    by_cases e : s0 = s + 1
    · rw [e]; exact Nat.le_refl _
    · have := pend_le (s := s) (s0 := s0) (by omega)
      rw [pend]; omega
theorem rnv.push {o a p' : Nat} (hn : rnv P s b p) (hp : p < p') (ho : 20 ≤ o ∧ o ≤ 32) (ha : o = 29 ∨ o = 30 → a < b) : rnv (rcu P s (o, a)) (s + 1) b p' := by
  obtain ⟨n1, n2, n3⟩ := hn
  have pc : pend (rcu P s (o, a)) s = pend P s := pend_cong (fun i hi => rcu_ne (by omega))
  refine ⟨by omega, ?_, fun i hi => ?_⟩
  · rw [pend, pc]
    split <;> omega
  · by_cases e : i = s
    · rw [e, rcu_eq]; exact ⟨ho.1, ho.2, ha⟩
    · rw [rcu_ne e]; exact n3 i (by omega)
theorem rsettle (hm : rmm T L ord M P s c b p lv dep) (hn : rnv P s b p) (h1 : 1 ≤ l) (h6 : l ≤ 6) (hr : rv ord P l s0 b0 s c b f h) (hb : s0 = 0 ∨ bnd (P (s0 - 1)).1 < l) : ∃ M1 c2 b2, fn_X10_settle (nI l) M = some M1 ∧ rmm T L ord M1 P s0 c2 b2 p lv dep ∧ (∀ j, j < b0 → c2 j = c j) ∧ rsg ord c2 b0 b2 f h ∧ rnv P s0 b2 p := by
  have hpL := hm.1.2.1
  have hL := hm.1.1.1
  obtain ⟨n1, n2, n3⟩ := hn
  obtain ⟨c2, b2, e1, e2, e3⟩ := hr.real hb
  have hs := hr.1
  obtain ⟨M1, f1, f2, f3⟩ := rstl_ok h1 h6 hm.2.1 n3 (by omega) (by omega)
  have pe := stl_pend (P := P) (l := l) (s0 := 0) s c b (fun i hi => (n3 i hi).2.1) h1
  rw [e1] at f2 pe
  have pe1 : b2 + pend P s0 = b + pend P s := pe.1
  have pl := pend_le (P := P) hs
  exact ⟨M1, c2, b2, f1, ⟨hm.1.kp f3 rfl, f2, hm.2.2.kp f3 rfl⟩, e2, e3, by omega, by omega, fun i hi => ⟨(n3 i (by omega)).1, (n3 i (by omega)).2.1, fun z => Nat.lt_of_lt_of_le ((n3 i (by omega)).2.2 z) (by omega)⟩⟩
theorem sg (hm : rmm T L ord M P s c b p lv dep) (k : Nat) (hk : k < 256) (h1 : isL k = false) (h2 : isD k = false) : fn_X10_isSign (nI k) M = some (if lx_kd T L p = k then 1 else 0) := rsign_ok hm.1 hk h1 h2
/-- what stands there joins two numbers -/
def bop (k : Nat) : Int32 := if k = 43 then 20 else if k = 45 then 21 else if k = 42 then 22 else if k = 47 then 23 else if k = 37 then 24 else -1
theorem bop_ok {α : Type} (hm : rmm T L ord M P s c b p lv dep) (K : Int32 → Option α) : ((fn_X10_isSign 43 M).bind fun r1 => (if r1 = 0 then (fn_X10_isSign 45 M).bind fun r4 => (if r4 = 0 then (fn_X10_isSign 42 M).bind fun r7 => (if r7 = 0 then (fn_X10_isSign 47 M).bind fun r10 => (if r10 = 0 then (fn_X10_isSign 37 M).bind fun r13 => (if r13 = 0 then some (-1 : Int32) else some (24 : Int32)) else some (23 : Int32)) else some (22 : Int32)) else some (21 : Int32)) else some (20 : Int32)).bind K) = K (bop (lx_kd T L p)) := by
  rw [show (43 : Int32) = nI 43 from rfl, show (45 : Int32) = nI 45 from rfl, show (42 : Int32) = nI 42 from rfl, show (47 : Int32) = nI 47 from rfl, show (37 : Int32) = nI 37 from rfl, sg hm 43 (by decide) (by decide) (by decide), bd_s, sg hm 45 (by decide) (by decide) (by decide), bd_s, sg hm 42 (by decide) (by decide) (by decide), bd_s, sg hm 47 (by decide) (by decide) (by decide), bd_s, sg hm 37 (by decide) (by decide) (by decide), bd_s]
  unfold bop
  by_cases c1 : lx_kd T L p = 43
  · rw [if_pos c1, if_neg (show ¬ (1 : Int32) = 0 by decide), if_pos c1, bd_s]
  rw [if_neg c1, if_pos rfl, if_neg c1]
  by_cases c2 : lx_kd T L p = 45
  · rw [if_pos c2, if_neg (show ¬ (1 : Int32) = 0 by decide), if_pos c2, bd_s]
  rw [if_neg c2, if_pos rfl, if_neg c2]
  by_cases c3 : lx_kd T L p = 42
  · rw [if_pos c3, if_neg (show ¬ (1 : Int32) = 0 by decide), if_pos c3, bd_s]
  rw [if_neg c3, if_pos rfl, if_neg c3]
  by_cases c4 : lx_kd T L p = 47
  · rw [if_pos c4, if_neg (show ¬ (1 : Int32) = 0 by decide), if_pos c4, bd_s]
  rw [if_neg c4, if_pos rfl, if_neg c4]
  by_cases c5 : lx_kd T L p = 37
  · rw [if_pos c5, if_neg (show ¬ (1 : Int32) = 0 by decide), if_pos c5, bd_s]
  · rw [if_neg c5, if_pos rfl, if_neg c5, bd_s]
theorem bs_op {k : Nat} (hm : rmm T L ord M P s c b p lv dep) (hn : rnv P s b p) (hk : lx_kd T L p = k) (hk5 : k = 43 ∨ k = 45 ∨ k = 42 ∨ k = 47 ∨ k = 37) (hl : l = bnd (20 + sp_o k)) (hr : rv ord P l s0 b0 s c b f h) (hb : s0 = 0 ∨ bnd (P (s0 - 1)).1 < l) : ∃ M' c2 b2, fn_X10_behindSum a1 M = some (1, M') ∧ rmm T L ord M' (rcu P s0 (20 + sp_o k, 0)) (s0 + 1) c2 b2 (lx_nx T L p) lv dep ∧ (∀ j, j < b0 → c2 j = c j) ∧ rsg ord c2 b0 b2 f h ∧ rnv (rcu P s0 (20 + sp_o k, 0)) (s0 + 1) b2 (lx_nx T L p) := by
  have hpL := hm.1.2.1
  have hL := hm.1.1.1
  have hx := nx_in hpL (show lx_kd T L p ≠ 257 by omega)
  have ho : sp_o k ≤ 4 ∧ bop k = nI (20 + sp_o k) ∧ bop k ≠ -1 := by rcases hk5 with rfl | rfl | rfl | rfl | rfl <;> decide
  have hl56 : 1 ≤ l ∧ l ≤ 6 := by
    rw [hl]
    rcases hk5 with rfl | rfl | rfl | rfl | rfl <;> decide
  obtain ⟨M1, c2, b2, e1, e2, e3, e4, e5⟩ := rsettle hm hn hl56.1 hl56.2 hr hb
  obtain ⟨M2, f1, f2⟩ := push_ok (o := 20 + sp_o k) (a := 0) e2 (by have := e5.1; omega)
  obtain ⟨M3, g1, g2⟩ := f2.next
  refine ⟨M3, c2, b2, ?_, g2, e3, e4, e5.push (by omega) (by omega) (fun z => by omega)⟩
  unfold fn_X10_behindSum
  rw [bop_ok hm, hk, if_neg ho.2.2, ho.2.1, show fn_X10_binds (nI (20 + sp_o k)) M = some (nI (bnd (20 + sp_o k))) from binds_ok _ (by omega) (by omega), bd_s, ← hl, e1, bd_s, show fn_X10_push (nI (20 + sp_o k)) 0 M1 = some M2 from f1, bd_s, g1, bd_s]
theorem bop_no {k : Nat} (h : k ≠ 43 ∧ k ≠ 45 ∧ k ≠ 42 ∧ k ≠ 47 ∧ k ≠ 37) : bop k = -1 := by
  unfold bop
  rw [if_neg h.1, if_neg h.2.1, if_neg h.2.2.1, if_neg h.2.2.2.1, if_neg h.2.2.2.2]
/-- behind a bracket of a SUM -/
theorem bs_cl (hm : rmm T L ord M P s c b p lv (dep + 1)) (hn : rnv P s b p) (hk : lx_kd T L p ≠ 43 ∧ lx_kd T L p ≠ 45 ∧ lx_kd T L p ≠ 42 ∧ lx_kd T L p ≠ 47 ∧ lx_kd T L p ≠ 37) (hi : inn P s = 32) (hP : (P s0).1 = 32) (hr : rv ord P 5 (s0 + 1) b0 s c b f h) (hd : dep ≤ 8) : if lx_kd T L p = 93 then ∃ M' c2 b2, fn_X10_behindSum a1 M = some (3, M') ∧ rmm T L ord M' P s0 c2 b2 (lx_nx T L p) lv dep ∧ (∀ j, j < b0 → c2 j = c j) ∧ rsg ord c2 b0 b2 f h ∧ rnv P s0 b2 (lx_nx T L p) else ∃ M', fn_X10_behindSum a1 M = some (3, M') ∧ rbad M' p := by
  have hpL := hm.1.2.1
  have hL := hm.1.1.1
  have start : fn_X10_behindSum a1 M = (fn_X10_must (if lx_kd T L p = 93 then 1 else 0) M).bind fun r73 => (if (r73.1 10 0 19) ≠ 0 then some (3, r73) else (fn_X10_settle 5 r73).bind fun r76 => some (3, am_si (am_si r76 10 0 29 ((r76.1 10 0 29) - (1 : Int32))) 10 0 30 ((r76.1 10 0 30) - (1 : Int32)))) := by
    unfold fn_X10_behindSum
    rw [bop_ok hm, bop_no hk, if_pos rfl, inner_ok hm.2.1 hn.2.2 (by have := hn.1; omega), hi, if_neg (show ¬ 32 = 0 by decide), bd_s, if_neg (show ¬ nI 32 ≠ (32 : Int32) from fun z => z rfl), show (93 : Int32) = nI 93 from rfl, sg hm 93 (by decide) (by decide) (by decide), bd_s]
  rw [start]
  by_cases c1 : lx_kd T L p = 93
  · rw [if_pos c1, if_pos c1]
    have hx := nx_in hpL (show lx_kd T L p ≠ 257 by omega)
    obtain ⟨M1, e1, e2⟩ := must1 (x := 1) (by decide) hm
    obtain ⟨M2, c2, b2, f1, f2, f3, f4, f5⟩ := rsettle (l := 5) e2 (show rnv P s b (lx_nx T L p) from ⟨by have := hn.1; omega, by have := hn.2.1; omega, hn.2.2⟩) (by decide) (by decide) hr (Or.inr (by rw [Nat.add_sub_cancel, hP]; decide))
    obtain ⟨q1, q2, q3, q4⟩ := f2.2.1
    obtain ⟨r1, r2, r3, r4, r5⟩ := f2.2.2
    have k : am_kp [(10, 29), (10, 30)] [] 0 M2 (am_si (am_si M2 10 0 29 (nI s0)) 10 0 30 (nI dep)) := am_kp.si (am_kp.si am_kp.rf rfl) rfl
    have pe : pend P (s0 + 1) = pend P s0 := by rw [pend, if_neg (by omega)]; rfl
    have sb : ∀ x, nI (x + 1) - (1 : Int32) = nI x := fun x => by rw [show (1 : Int32) = nI 1 from rfl, pk_sub (by omega), Nat.add_sub_cancel]
    refine ⟨am_si (am_si M2 10 0 29 (nI s0)) 10 0 30 (nI dep), c2, b2, ?_, ⟨f2.1.kp k rfl, ⟨rfl, fun i hi => q2 i (by omega), q3, q4⟩, r1, rfl, r3, r4, r5⟩, f3, f4, ⟨by have := f5.1; omega, by have := f5.2.1; omega, fun i hi => f5.2.2 i (by omega)⟩⟩
    rw [e1, bd_s, if_neg (show ¬ M1.1 10 0 19 ≠ 0 from fun z => z e2.2.2.2.2.1), show (5 : Int32) = nI 5 from rfl, f1, bd_s, q1, sb]
    show some (3, am_si (am_si M2 10 0 29 (nI s0)) 10 0 30 (M2.1 10 0 30 - 1)) = _
    rw [r2, sb]
  · rw [if_neg c1, if_neg c1]
    obtain ⟨M1, e1, e2⟩ := must0 hm hn.2.2 (by have := hn.1; omega) (by have := hn.2.1; omega)
    refine ⟨M1, ?_, e2⟩
    rw [e1, bd_s, if_pos (show M1.1 10 0 19 ≠ 0 by rw [e2.1]; decide)]
end RT
