/-! the reference's pile, code, and what it asks of them -/
def rpc (M : am_m) (P : rcd) (s : Nat) (c : rcd) (b : Nat) : Prop := M.1 10 0 29 = nI s ∧ (∀ i, i < s → M.1 54 0 i = nI (P i).1 ∧ M.1 55 0 i = nI (P i).2) ∧ M.1 10 0 23 = nI b ∧ ∀ k, k < b → M.1 52 0 k = nI (c k).1 ∧ M.1 53 0 k = nI (c k).2
def rvl (P : rcd) (s b : Nat) : Prop := ∀ i, i < s → 20 ≤ (P i).1 ∧ (P i).1 ≤ 32 ∧ ((P i).1 = 29 ∨ (P i).1 = 30 → (P i).2 < b)
def rst (ord : Bool) (M : am_m) (lv dep : Nat) : Prop := M.1 10 0 26 = nI lv ∧ M.1 10 0 30 = nI dep ∧ M.1 10 0 19 = 0 ∧ M.1 10 0 20 = (if ord then 1 else 0) ∧ iv_C M.2.1
def rmm (T : Nat → Nat) (L : Nat) (ord : Bool) (M : am_m) (P : rcd) (s : Nat) (c : rcd) (b p lv dep : Nat) : Prop := rlx T L M p ∧ rpc M P s c b ∧ rst ord M lv dep
/-- it failed at q -/
def rbad (M : am_m) (q : Nat) : Prop := M.1 10 0 19 = 1 ∧ M.1 10 0 18 = nI q ∧ ∃ P s c b, rpc M P s c b ∧ rvl P s b ∧ s ≤ 400 ∧ b + pend P s ≤ 400
section RP
variable {T : Nat → Nat} {L p : Nat} {M M' : am_m} {P : rcd} {c : rcd} {s b l lv dep : Nat} {ord : Bool}
theorem rpc.kp {WI WL : List (Nat × Nat)} {E : Nat} (h : rpc M P s c b) (k : am_kp WI WL E M M') (hw : (am_hit WI 10 29 || (am_hit WI 54 0 || (am_hit WI 55 0 || (am_hit WI 10 23 || (am_hit WI 52 0 || am_hit WI 53 0))))) = false) : rpc M' P s c b := by
  rw [Bool.or_eq_false_iff, Bool.or_eq_false_iff, Bool.or_eq_false_iff, Bool.or_eq_false_iff, Bool.or_eq_false_iff] at hw
  obtain ⟨w1, w2, w3, w4, w5, w6⟩ := hw
  obtain ⟨h1, h2, h3, h4⟩ := h
  refine ⟨by rw [k.fld 10 0 29 w1]; exact h1, fun i hi => ?_, by rw [k.fld 10 0 23 w4]; exact h3, fun i hi => ?_⟩
  · rw [k.row 54 (by rw [w2]; rfl), k.row 55 (by rw [w3]; rfl)]; exact h2 i hi
  · rw [k.row 52 (by rw [w5]; rfl), k.row 53 (by rw [w6]; rfl)]; exact h4 i hi
theorem rst.kp {WI WL : List (Nat × Nat)} {E : Nat} (h : rst ord M lv dep) (k : am_kp WI WL E M M') (hw : ((am_hit WI 10 26 || (am_hit WI 10 30 || (am_hit WI 10 19 || am_hit WI 10 20))) || (am_hit WL 82 0 || (am_hit WL 83 0 || (am_hit WL 84 0 || am_hit WL 89 0)))) = false) : rst ord M' lv dep := by
  rw [Bool.or_eq_false_iff, Bool.or_eq_false_iff, Bool.or_eq_false_iff, Bool.or_eq_false_iff, Bool.or_eq_false_iff, Bool.or_eq_false_iff, Bool.or_eq_false_iff] at hw
  obtain ⟨⟨w1, w2, w3, w4⟩, w5, w6, w7, w8⟩ := hw
  obtain ⟨h1, h2, h3, h4, h5⟩ := h
  exact ⟨by rw [k.fld 10 0 26 w1]; exact h1, by rw [k.fld 10 0 30 w2]; exact h2, by rw [k.fld 10 0 19 w3]; exact h3, by rw [k.fld 10 0 20 w4]; exact h4, h5.of (k.rowL 82 (by rw [w5]; rfl)) (k.rowL 83 (by rw [w6]; rfl)) (k.rowL 84 (by rw [w7]; rfl)) (k.rowL 89 (by rw [w8]; rfl))⟩
theorem binds_ok : ∀ o, o < 33 → 20 ≤ o → (if nI o < (31 : Int32) then (if nI o ≠ (30 : Int32) then (if nI o ≠ (29 : Int32) then (if nI o ≠ (28 : Int32) then (if nI o < (25 : Int32) then (if nI o < (22 : Int32) then some (5 : Int32) else some 6) else some 4) else some 3) else some 2) else some 1) else some 0) = some (nI (bnd o)) := by decide +kernel
theorem bnd_le : ∀ o, bnd o ≤ 6 := fun o => by
  unfold bnd
  split
  · omega
  · split
    · omega
    · split
      · omega
      · split
        · omega
        · split
          · omega
          · split <;> omega
theorem push_ok {o a : Nat} (h : rmm T L ord M P s c b p lv dep) (hs : s < 400) : ∃ M', fn_X10_push (nI o) (nI a) M = some M' ∧ rmm T L ord M' (rcu P s (o, a)) (s + 1) c b p lv dep := by
  obtain ⟨h1, ⟨a1, a2, a3, a4⟩, h3⟩ := h
  have k : am_kp [(10, 29), (54, 0), (55, 0)] [] 0 M (am_si (am_si (am_si M 54 0 s (nI o)) 55 0 s (nI a)) 10 0 29 (nI (s + 1))) := am_kp.si (am_kp.si (am_kp.si am_kp.rf rfl) rfl) rfl
  refine ⟨am_si (am_si (am_si M 54 0 s (nI o)) 55 0 s (nI a)) 10 0 29 (nI (s + 1)), ?_, h1.kp k rfl, ⟨rfl, fun i hi => ?_, a3, a4⟩, h3.kp k rfl⟩
  · unfold fn_X10_push
    rw [a1, ck_in hs (by decide), ck_in hs (by decide), nI_clamp (by omega), nI_1]
  · show (am_si M 54 0 s (nI o)).1 54 0 i = _ ∧ (am_si (am_si M 54 0 s (nI o)) 55 0 s (nI a)).1 55 0 i = _
    rw [rd_j, rd_j]
    unfold rcu
    by_cases e : i = s
    · rw [if_pos e, if_pos e, if_pos e]; exact ⟨rfl, rfl⟩
    · rw [if_neg e, if_neg e, if_neg e]; exact a2 i (by omega)
theorem emit0_ok {o a : Nat} (h : rpc M P s c b) (hb : b < 400) : ∃ M', fn_X10_emit (nI o) (nI a) M = some M' ∧ rpc M' P s (rcu c b (o, a)) (b + 1) ∧ am_kp [(10, 23), (52, 0), (53, 0)] [] 0 M M' := by
  obtain ⟨a1, a2, a3, a4⟩ := h
  have k : am_kp [(10, 23), (52, 0), (53, 0)] [] 0 M (am_si (am_si (am_si M 52 0 b (nI o)) 53 0 b (nI a)) 10 0 23 (nI (b + 1))) := am_kp.si (am_kp.si (am_kp.si am_kp.rf rfl) rfl) rfl
  refine ⟨am_si (am_si (am_si M 52 0 b (nI o)) 53 0 b (nI a)) 10 0 23 (nI (b + 1)), ?_, ⟨a1, a2, rfl, fun i hi => ?_⟩, k⟩
  · unfold fn_X10_emit
    rw [a3, ck_in hb (by decide), ck_in hb (by decide), nI_clamp (by omega), nI_1]
  · show (am_si M 52 0 b (nI o)).1 52 0 i = _ ∧ (am_si (am_si M 52 0 b (nI o)) 53 0 b (nI a)).1 53 0 i = _
    rw [rd_j, rd_j]
    unfold rcu
    by_cases e : i = b
    · rw [if_pos e, if_pos e, if_pos e]; exact ⟨rfl, rfl⟩
    · rw [if_neg e, if_neg e, if_neg e]; exact a4 i (by omega)
theorem emit1_ok {o a : Nat} (h : rmm T L ord M P s c b p lv dep) (hb : b < 400) : ∃ M', fn_X10_emit (nI o) (nI a) M = some M' ∧ rmm T L ord M' P s (rcu c b (o, a)) (b + 1) p lv dep := by
  obtain ⟨M', e1, e2, k⟩ := emit0_ok (o := o) (a := a) h.2.1 hb
  exact ⟨M', e1, h.1.kp k rfl, e2, h.2.2.kp k rfl⟩
theorem rset0 (h1 : 1 ≤ l) (h6 : l ≤ 6) : ∀ (s N : Nat) (M : am_m) (c : rcd) (b : Nat), s < N → rpc M P s c b → rvl P s b → s ≤ 400 → b + pend P s ≤ 400 → ∃ M', lp_X10_settle_0 N (nI l) M = some M' ∧ rpc M' P (stl P l 0 s c b).1 (stl P l 0 s c b).2.1 (stl P l 0 s c b).2.2 ∧ am_kp [(10, 23), (10, 29), (52, 0), (53, 0)] [] 0 M M'
  | s, 0, M, c, b, hN, _, _, _, _ => by omega
  | 0, N + 1, M, c, b, hN, hr, hv, hs, hb => by
    rw [lp_X10_settle_0, hr.1, if_pos (by decide)]
    exact ⟨M, rfl, hr, am_kp.rf⟩
  | s + 1, N + 1, M, c, b, hN, hr, hv, hs, hb => by
    have ih := rset0 h1 h6 s N
    obtain ⟨a1, a2, a3, a4⟩ := hr
    obtain ⟨v1, v2, v3⟩ := hv s (by omega)
    obtain ⟨p1, p2⟩ := a2 s (by omega)
    have hv' : ∀ b', b ≤ b' → rvl P s b' := fun b' hb' i hi => ⟨(hv i (by omega)).1, (hv i (by omega)).2.1, fun z => Nat.lt_of_lt_of_le ((hv i (by omega)).2.2 z) hb'⟩
    have sub : nI (s + 1) - (1 : Int32) = nI s := by rw [show (1 : Int32) = nI 1 from rfl, pk_sub (by omega), Nat.add_sub_cancel]
    rw [lp_X10_settle_0, a1, sub, if_neg (nI_nle (by omega) (by omega)), ck_in (by omega) (by decide), nI_clamp (by omega), p1, p2]
    rw [show fn_X10_binds (nI (P s).1) M = some (nI (bnd (P s).1)) from binds_ok _ (by omega) v1, bd_s, stl, if_neg (Nat.not_lt_zero _)]
    have bl := bnd_le (P s).1
    by_cases c2 : bnd (P s).1 < l
    · rw [if_pos ((nI_ltI (by omega) (by omega)).mpr c2), if_pos c2]
      exact ⟨M, rfl, ⟨a1, a2, a3, a4⟩, am_kp.rf⟩
    rw [if_neg (fun z => c2 ((nI_ltI (by omega) (by omega)).mp z)), if_neg c2, ck_in (by omega) (by decide)]
    have patch : (P s).1 = 29 ∨ (P s).1 = 30 → ∃ M', lp_X10_settle_0 N (nI l) (am_si (am_si M 10 0 29 (nI s)) 53 0 (P s).2 (M.1 10 0 23)) = some M' ∧ rpc M' P (stl P l 0 s (rcu c (P s).2 ((c (P s).2).1, b)) b).1 (stl P l 0 s (rcu c (P s).2 ((c (P s).2).1, b)) b).2.1 (stl P l 0 s (rcu c (P s).2 ((c (P s).2).1, b)) b).2.2 ∧ am_kp [(10, 23), (10, 29), (52, 0), (53, 0)] [] 0 M M' := by
      intro c3
      have at1 := v3 c3
      have k : am_kp [(10, 23), (10, 29), (52, 0), (53, 0)] [] 0 M (am_si (am_si M 10 0 29 (nI s)) 53 0 (P s).2 (M.1 10 0 23)) := am_kp.si (am_kp.si am_kp.rf rfl) rfl
      have hp : pend P (s + 1) = pend P s := by rw [pend, if_neg (by omega)]; rfl
      have hrp : rpc (am_si (am_si M 10 0 29 (nI s)) 53 0 (P s).2 (M.1 10 0 23)) P s (rcu c (P s).2 ((c (P s).2).1, b)) b := by
        refine ⟨rfl, fun i hi => a2 i (by omega), a3, fun i hi => ?_⟩
        show M.1 52 0 i = _ ∧ (am_si (am_si M 10 0 29 (nI s)) 53 0 (P s).2 (M.1 10 0 23)).1 53 0 i = _
        rw [rd_j, a3]
        unfold rcu
        by_cases e : i = (P s).2
        · rw [if_pos e, if_pos e, e]; exact ⟨(a4 _ at1).1, rfl⟩
        · rw [if_neg e, if_neg e]; exact a4 i hi
      obtain ⟨M', e1, e2, e3⟩ := ih (am_si (am_si M 10 0 29 (nI s)) 53 0 (P s).2 (M.1 10 0 23)) (rcu c (P s).2 ((c (P s).2).1, b)) b (by omega) hrp (hv' b (Nat.le_refl _)) (by omega) (by omega)
      exact ⟨M', e1, e2, k.tr e3⟩
    by_cases c3 : (P s).1 = 29
    · have at1 := v3 (Or.inl c3)
      rw [if_pos (show nI (P s).1 = (29 : Int32) by rw [c3]; rfl), if_pos (Or.inl c3), ck_in (by omega) (by decide), ck_in (by omega) (by decide), nI_clamp (by omega)]
      exact patch (Or.inl c3)
    rw [if_neg (show ¬ nI (P s).1 = (29 : Int32) from nI_ne (b := 29) (by omega) (by decide) c3), ck_in (by omega) (by decide)]
    by_cases c4 : (P s).1 = 30
    · have at1 := v3 (Or.inr c4)
      rw [if_neg (show ¬ nI (P s).1 ≠ (30 : Int32) from fun z => z (by rw [c4]; rfl)), if_pos (Or.inr c4), ck_in (by omega) (by decide), ck_in (by omega) (by decide), nI_clamp (by omega)]
      exact patch (Or.inr c4)
    rw [if_pos (show nI (P s).1 ≠ (30 : Int32) from nI_ne (b := 30) (by omega) (by decide) c4), if_neg (by omega), ck_in (by omega) (by decide)]
    have hlt : (P s).1 < 29 := by
      have := (bnd_op v1).2 (by omega)
      omega
    have hp : pend P (s + 1) = pend P s + 1 := by rw [pend, if_pos hlt]
    have k1 : am_kp [(10, 23), (10, 29), (52, 0), (53, 0)] [] 0 M (am_si M 10 0 29 (nI s)) := am_kp.si am_kp.rf rfl
    obtain ⟨M1, f1, f2, f3⟩ := emit0_ok (M := am_si M 10 0 29 (nI s)) (P := P) (s := s) (c := c) (b := b) (o := (P s).1) (a := 0) ⟨rfl, fun i hi => a2 i (by omega), a3, a4⟩ (by omega)
    rw [show fn_X10_emit (nI (P s).1) 0 (am_si M 10 0 29 (nI s)) = some M1 from f1, bd_s]
    obtain ⟨M', e1, e2, e3⟩ := ih M1 (rcu c b ((P s).1, 0)) (b + 1) (by omega) f2 (hv' (b + 1) (by omega)) (by omega) (by omega)
    exact ⟨M', e1, e2, k1.tr ((am_kp.mono f3 rfl).tr e3)⟩
theorem rstl_ok (h1 : 1 ≤ l) (h6 : l ≤ 6) (h : rpc M P s c b) (hv : rvl P s b) (hs : s ≤ 400) (hb : b + pend P s ≤ 400) : ∃ M', fn_X10_settle (nI l) M = some M' ∧ rpc M' P (stl P l 0 s c b).1 (stl P l 0 s c b).2.1 (stl P l 0 s c b).2.2 ∧ am_kp [(10, 23), (10, 29), (52, 0), (53, 0)] [] 0 M M' := by
  obtain ⟨M', e1, e2, e3⟩ := rset0 h1 h6 s 1000000 M c b (by omega) h hv hs hb
  refine ⟨M', ?_, e2, e3⟩
  unfold fn_X10_settle
  rw [e1, bd_s]
theorem rmm.next (h : rmm T L ord M P s c b p lv dep) : ∃ M', fn_X10_next M = some M' ∧ rmm T L ord M' P s c b (lx_nx T L p) lv dep := by
  obtain ⟨M', e1, e2, k⟩ := rnx_ok h.1
  exact ⟨M', e1, e2, h.2.1.kp k rfl, h.2.2.kp k rfl⟩
theorem must1 {x : Int32} (hx : x ≠ 0) (h : rmm T L ord M P s c b p lv dep) : ∃ M', fn_X10_must x M = some M' ∧ rmm T L ord M' P s c b (lx_nx T L p) lv dep := by
  obtain ⟨M', e1, e2⟩ := h.next
  refine ⟨M', ?_, e2⟩
  unfold fn_X10_must
  rw [if_neg (show ¬ M.1 10 0 19 ≠ 0 from fun z => z h.2.2.2.2.1), if_pos hx, bd_s, if_neg (show ¬ M.1 10 0 19 ≠ 0 from fun z => z h.2.2.2.2.1), e1, bd_s]
theorem must0 (h : rmm T L ord M P s c b p lv dep) (hv : rvl P s b) (hs : s ≤ 400) (hb : b + pend P s ≤ 400) : ∃ M', fn_X10_must 0 M = some M' ∧ rbad M' p := by
  have k : am_kp [(10, 18), (10, 19)] [] 0 M (am_si (am_si M 10 0 19 1) 10 0 18 (M.1 10 0 14)) := am_kp.si (am_kp.si am_kp.rf rfl) rfl
  refine ⟨am_si (am_si M 10 0 19 1) 10 0 18 (M.1 10 0 14), ?_, rfl, h.1.2.2.1, P, s, c, b, h.2.1.kp k rfl, hv, hs, hb⟩
  unfold fn_X10_must
  rw [if_neg (show ¬ M.1 10 0 19 ≠ 0 from fun z => z h.2.2.2.2.1), if_neg (show ¬ (0 : Int32) ≠ 0 from fun z => z rfl), bd_s, if_pos (show (am_si (am_si M 10 0 19 1) 10 0 18 (M.1 10 0 14)).1 10 0 19 ≠ 0 by show (1 : Int32) ≠ 0; decide)]
theorem inner_ok (h : rpc M P s c b) (hv : rvl P s b) (hs : s ≤ 400) : fn_X10_inner M = some (if inn P s = 0 then -1 else nI (inn P s)) := by
  unfold fn_X10_inner
  obtain ⟨a1, a2, a3, a4⟩ := h
  have key : ∀ (d i N : Nat), s - i ≤ d → d < N → i ≤ s → lp_X10_inner_4 N (if inn P i = 0 then -1 else nI (inn P i)) (nI i) M = some (if inn P s = 0 then -1 else nI (inn P s)) := by
    intro d
    induction d with
    | zero =>
      intro i N h1 h2 h3
      obtain ⟨N, rfl⟩ : ∃ n, N = n + 1 := ⟨N - 1, by omega⟩
      have e : i = s := by omega
      rw [lp_X10_inner_4, a1, e, if_pos (show nI s ≤ nI s from nI_le (Nat.le_refl _) (by omega))]
    | succ d ih =>
      intro i N h1 h2 h3
      obtain ⟨N, rfl⟩ : ∃ n, N = n + 1 := ⟨N - 1, by omega⟩
      rw [lp_X10_inner_4, a1]
      by_cases e : i = s
      · rw [e, if_pos (show nI s ≤ nI s from nI_le (Nat.le_refl _) (by omega))]
      · obtain ⟨v1, v2, v3⟩ := hv i (by omega)
        rw [if_neg (nI_ge (by omega) (by omega)), ck_in (by omega) (by decide), nI_clamp (by omega), (a2 i (by omega)).1, nI_1, ck_in (by omega) (by decide)]
        have st : (if nI (P i).1 < (31 : Int32) then some (if inn P i = 0 then (-1 : Int32) else nI (inn P i)) else some (nI (P i).1)) = some (if inn P (i + 1) = 0 then -1 else nI (inn P (i + 1))) := by
          rw [inn]
          by_cases q : 31 ≤ (P i).1
          · rw [if_neg (show ¬ nI (P i).1 < (31 : Int32) from fun z => by have := (nI_ltI (b := 31) (by omega) (by decide)).mp z; omega), if_pos q, if_neg (by omega)]
          · rw [if_pos (show nI (P i).1 < (31 : Int32) from (nI_ltI (b := 31) (by omega) (by decide)).mpr (by omega)), if_neg q]
        rw [st, bd_s]
        exact ih (i + 1) N (by omega) (by omega) (by omega)
  rw [show lp_X10_inner_4 1000000 (-1) 0 M = _ from key s 0 1000000 (by omega) (by omega) (by omega), bd_s]
theorem isc_ok (h : rpc M P s c b) (hv : rvl P s b) (hs : s ≤ 400) : fn_X10_isCompared M = some (if isc P s then 1 else 0) := by
  obtain ⟨a1, a2, a3, a4⟩ := h
  have inn20 : ∀ o lo hi : Nat, o < 33 → lo < 33 → hi < 33 → ∀ m : am_m, fn_X10_in (nI o).toInt64 (nI lo).toInt64 (nI hi).toInt64 m = some (if lo ≤ o ∧ o ≤ hi then 1 else 0) := fun o lo hi h1 h2 h3 m => by
    rw [in_32]
    by_cases q : lo ≤ o ∧ o ≤ hi
    · rw [if_pos q, if_pos ⟨nI_le q.1 (by omega), nI_le q.2 (by omega)⟩]
    · rw [if_neg q, if_neg (fun z => q ⟨(nI_leI (by omega) (by omega)).mp z.1, (nI_leI (by omega) (by omega)).mp z.2⟩)]
  have key : ∀ (s N : Nat), s < N → s ≤ 400 → (∀ i, i < s → (P i).1 ≤ 32 ∧ M.1 54 0 i = nI (P i).1) → ((lp_X10_isCompared_7 N (nI s - (1 : Int32)) M).bind fun q6 => (if q6 < 0 then some (0 : Int32) else am_ck q6 400 ((fn_X10_in ((M.1 54 0 q6.toNatClampNeg).toInt64) 25 27 M).bind fun r10 => (if r10 = 0 then some 0 else some 1)))) = some (if isc P s then 1 else 0) := by
    intro s
    induction s with
    | zero =>
      intro N hN hs hr
      obtain ⟨N, rfl⟩ : ∃ n, N = n + 1 := ⟨N - 1, by omega⟩
      rw [lp_X10_isCompared_7, if_pos (by decide), bd_s, if_pos (by decide)]
      rfl
    | succ s ih =>
      intro N hN hs hr
      obtain ⟨N, rfl⟩ : ∃ n, N = n + 1 := ⟨N - 1, by omega⟩
      obtain ⟨v2, p1⟩ := hr s (by omega)
      have sub : nI (s + 1) - (1 : Int32) = nI s := by rw [show (1 : Int32) = nI 1 from rfl, pk_sub (by omega), Nat.add_sub_cancel]
      rw [sub, lp_X10_isCompared_7, if_neg (nI_pos (by omega)), ck_in (by omega) (by decide), nI_clamp (by omega), p1, show (20 : Int64) = (nI 20).toInt64 from rfl, show (24 : Int64) = (nI 24).toInt64 from rfl, inn20 _ 20 24 (by omega) (by decide) (by decide), bd_s, isc]
      by_cases q : 20 ≤ (P s).1 ∧ (P s).1 ≤ 24
      · rw [if_pos q, if_neg (show ¬ (1 : Int32) = 0 by decide), if_pos q]
        exact ih N (by omega) (by omega) (fun i hi => hr i (by omega))
      · rw [if_neg q, if_pos rfl, bd_s, if_neg (nI_pos (by omega)), ck_in (by omega) (by decide), nI_clamp (by omega), p1, show (25 : Int64) = (nI 25).toInt64 from rfl, show (27 : Int64) = (nI 27).toInt64 from rfl, inn20 _ 25 27 (by omega) (by decide) (by decide), bd_s, if_neg q]
        by_cases q2 : 25 ≤ (P s).1 ∧ (P s).1 ≤ 27
        · rw [if_pos q2, if_neg (show ¬ (1 : Int32) = 0 by decide), decide_eq_true q2]; rfl
        · rw [if_neg q2, if_pos rfl, decide_eq_false q2]; rfl
  unfold fn_X10_isCompared
  rw [a1]
  exact key s 1000000 (by omega) hs (fun i hi => ⟨(hv i hi).2.1, (a2 i hi).1⟩)
end RP
