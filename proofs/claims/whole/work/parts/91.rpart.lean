/-! the reference reads a number or a word -/
def rtl (q9 : Int32) (r18 : am_m) : Option (Int32 × am_m) := if (r18.1 10 0 20) = 0 then some (3, r18) else (if q9 < (6 : Int32) then some (3, r18) else (if (r18.1 10 0 19) ≠ 0 then some (3, r18) else (fn_X10_number 0 6 r18).bind fun r23 => am_ck ((r18.1 10 0 23) - (1 : Int32)) 400 (some (3, am_si r23.2 53 0 ((r18.1 10 0 23) - (1 : Int32)).toNatClampNeg r23.1))))
section RQ
variable {T : Nat → Nat} {L p : Nat} {M M' : am_m} {P : rcd} {c : rcd} {s b l lv dep aw : Nat} {ord : Bool}
theorem rtl_bad {q9 : Int32} {q : Nat} (h : rbad M q) : rtl q9 M = some (3, M) := by
  unfold rtl
  by_cases c1 : M.1 10 0 20 = 0
  · rw [if_pos c1]
  rw [if_neg c1]
  by_cases c2 : q9 < 6
  · rw [if_pos c2]
  rw [if_neg c2, if_pos (by rw [h.1]; decide)]
theorem rtl_small {q9 : Int32} (h : q9 < 6) : rtl q9 M = some (3, M) := by
  unfold rtl
  by_cases c1 : M.1 10 0 20 = 0
  · rw [if_pos c1]
  · rw [if_neg c1, if_pos h]
/-- the parts, put together -/
theorem readPart_eq (h : rmm T L ord M P s c b p lv dep) (hk : lx_kd T L p ≠ 91) : fn_X10_readPart M = (fn_X10_leaf (if (if ord then fw ow7 (lx_kd T L p) 7 else fw (fun i => 15 + i) (lx_kd T L p) 8) ≠ (-1 : Int32) then 1 else if lx_kd T L p = 256 ∧ lx_vl T L p ≤ 1000 then 1 else 0) (if (if ord then fw ow7 (lx_kd T L p) 7 else fw (fun i => 15 + i) (lx_kd T L p) 8) ≠ (-1 : Int32) then (if ord then fw ow7 (lx_kd T L p) 7 else fw (fun i => 15 + i) (lx_kd T L p) 8) else 0) (if lx_kd T L p = 256 ∧ lx_vl T L p ≤ 1000 then nI (lx_vl T L p) else 0) M).bind (rtl (if ord then fw ow7 (lx_kd T L p) 7 else fw (fun i => 15 + i) (lx_kd T L p) 8)) := by
  obtain ⟨hx, hp, r1, r2, r3, r4, r5⟩ := h
  have hpart : (if (M.1 10 0 20) = 0 then (fn_X10_partAt M).bind fun r5 => some r5 else (fn_X10_orderPartAt M).bind fun r7 => some r7) = some (if ord then fw ow7 (lx_kd T L p) 7 else fw (fun i => 15 + i) (lx_kd T L p) 8) := by
    rw [r4]
    cases ord with
    | false => rw [if_neg (show ¬ false = true by decide), if_pos rfl, partAt_ok hx r5, bd_s, if_neg (show ¬ false = true by decide)]
    | true => rw [if_pos rfl, if_neg (show ¬ (1 : Int32) = 0 by decide), orderPartAt_ok hx r5, bd_s, if_pos rfl]
  obtain ⟨n1, n2⟩ := rnum_ok hx
  have hnum : (if (M.1 10 0 16) ≠ (2 : Int32) then some (0 : Int32) else (if 0 < (lg_cmp (M.2.1 10 0 17) (1000 : Int64)) then some (0 : Int32) else some (1 : Int32))) = some (if lx_kd T L p = 256 ∧ lx_vl T L p ≤ 1000 then 1 else 0) := by
    by_cases c1 : lx_kd T L p = 256
    · obtain ⟨x, x1, x2, x3⟩ := n2 c1
      rw [if_neg (show ¬ M.1 10 0 16 ≠ (2 : Int32) from fun z => z (n1.mpr c1)), x1, if_iff (lg_cmp_gt _ _), show (1000 : Int64) = lN 1000 from rfl]
      by_cases c2 : x ≤ 1000
      · rw [if_neg (by rw [fa_lt64, pf_lI (by omega), pf_lI (by omega)]; omega), if_pos ⟨c1, by omega⟩]
      · rw [if_pos (by rw [fa_lt64, pf_lI (by omega), pf_lI (by omega)]; omega), if_neg (fun z => by omega)]
    · rw [if_pos (fun z => c1 (n1.mp z)), if_neg (fun z => c1 z.1)]
  have hval : (if (if lx_kd T L p = 256 ∧ lx_vl T L p ≤ 1000 then (1 : Int32) else 0) = 0 then (0 : Int32) else ((M.2.1 10 0 17).toInt32)) = (if lx_kd T L p = 256 ∧ lx_vl T L p ≤ 1000 then nI (lx_vl T L p) else 0) := by
    by_cases c1 : lx_kd T L p = 256 ∧ lx_vl T L p ≤ 1000
    · obtain ⟨x, x1, x2, x3⟩ := n2 c1.1
      rw [if_pos c1, if_neg (show ¬ (1 : Int32) = 0 by decide), if_pos c1, x1, lN_i, show lx_vl T L p = x by omega]
    · rw [if_neg c1, if_pos rfl, if_neg c1]
  unfold fn_X10_readPart
  rw [show (91 : Int32) = nI 91 from rfl, rsign_ok hx (by decide) (by decide) (by decide), bd_s, if_neg hk, if_pos rfl, hpart, bd_s, hnum, bd_s, hval]
  generalize (if ord then fw ow7 (lx_kd T L p) 7 else fw (fun i => 15 + i) (lx_kd T L p) 8) = q9
  have h15 : (if q9 ≠ (-1 : Int32) then some (1 : Int32) else (if (if lx_kd T L p = 256 ∧ lx_vl T L p ≤ 1000 then (1 : Int32) else 0) = 0 then some (0 : Int32) else some (1 : Int32))) = some (if q9 ≠ (-1 : Int32) then 1 else if lx_kd T L p = 256 ∧ lx_vl T L p ≤ 1000 then 1 else 0) := by
    by_cases c1 : q9 ≠ -1
    · rw [if_pos c1, if_pos c1]
    · rw [if_neg c1, if_neg c1]
      by_cases c2 : lx_kd T L p = 256 ∧ lx_vl T L p ≤ 1000
      · rw [if_pos c2, if_neg (show ¬ (1 : Int32) = 0 by decide)]
      · rw [if_neg c2, if_pos rfl]
  rw [h15, bd_s]
  rfl
theorem rsg_wd {o x y : Nat} (h : rc_ok ord o x) (hd : rc_dec ord o x = (1, y)) : rsg ord (rcu c b (o, x)) b (b + 1) (fun env => some (env y)) 1 := by
  refine ⟨fun k h1 h2 => ?_, ab_seg.word ?_⟩
  · rw [show k = b by omega, rcu_eq]; exact h
  · show rc_dec ord (rcu c b (o, x) b).1 (rcu c b (o, x) b).2 = _
    rw [rcu_eq]; exact hd
theorem rsg_nm {x : Nat} (h : x ≤ 1000) : rsg ord (rcu c b (0, x)) b (b + 1) (fun _ => some (lN x)) 1 := by
  refine ⟨fun k h1 h2 => ?_, ab_seg.num ?_⟩
  · rw [show k = b by omega, rcu_eq]
    refine ⟨Nat.zero_le 30, h, fun _ => ?_⟩
    cases ord with
    | false => exact Nat.zero_le 8
    | true => exact ⟨Nat.zero_le 7, fun z => absurd (show 6 ≤ 0 from z) (by decide)⟩
  · show rc_dec ord (rcu c b (0, x) b).1 (rcu c b (0, x) b).2 = _
    rw [rcu_eq]; rfl
/-- the number behind fed, at -/
theorem rfed_ok {o q : Nat} (ho : o = 6 ∨ o = 7) (h : rmm T L true M P s (rcu c b (o, 0)) (b + 1) q lv dep) (hb4 : b < 400) (hv : rvl P s (b + 1)) (hs : s ≤ 400) (hb : b + 1 + pend P s ≤ 400) : if lx_kd T L q = 256 ∧ lx_vl T L q < 7 then ∃ M', rtl (nI o) M = some (3, M') ∧ rmm T L true M' P s (rcu c b (o, lx_vl T L q)) (b + 1) (lx_nx T L q) lv dep else ∃ M', rtl (nI o) M = some (3, M') ∧ rbad M' q := by
  obtain ⟨n1, n2⟩ := rnum_ok h.1
  have e23 : M.1 10 0 23 - (1 : Int32) = nI b := by rw [h.2.1.2.2.1, show (1 : Int32) = nI 1 from rfl, pk_sub (by omega), Nat.add_sub_cancel]
  have rw0 : rtl (nI o) M = (fn_X10_number 0 6 M).bind fun r23 => some (3, am_si r23.2 53 0 b r23.1) := by
    unfold rtl
    rw [h.2.2.2.2.2.1, if_pos rfl, if_neg (show ¬ (1 : Int32) = 0 by decide), if_neg (show ¬ nI o < (6 : Int32) from fun z => by have := (nI_ltI (b := 6) (by omega) (by decide)).mp z; omega), if_neg (show ¬ M.1 10 0 19 ≠ 0 from fun z => z h.2.2.2.2.1), e23, nI_clamp (by omega)]
    congr 1
    funext r23
    exact ck_in hb4 (by decide)
  rw [rw0]
  unfold fn_X10_number
  have hin : (if (M.1 10 0 16) ≠ (2 : Int32) then some (0 : Int32) else (fn_X10_in (M.2.1 10 0 17) 0 6 M).bind fun r2 => (if r2 = 0 then some (0 : Int32) else some (1 : Int32))) = some (if lx_kd T L q = 256 ∧ lx_vl T L q < 7 then 1 else 0) := by
    by_cases c1 : lx_kd T L q = 256
    · obtain ⟨x, x1, x2, x3⟩ := n2 c1
      rw [if_neg (show ¬ M.1 10 0 16 ≠ (2 : Int32) from fun z => z (n1.mpr c1)), x1, ← nI_l (show x < 2 ^ 31 by omega), show (0 : Int64) = (nI 0).toInt64 from rfl, show (6 : Int64) = (nI 6).toInt64 from rfl, in_32, bd_s]
      by_cases c2 : x < 7
      · rw [if_pos (show nI 0 ≤ nI x ∧ nI x ≤ nI 6 from ⟨nI_le (Nat.zero_le _) (by omega), nI_le (by omega) (by decide)⟩), if_neg (show ¬ (1 : Int32) = 0 by decide), if_pos ⟨c1, by omega⟩]
      · rw [if_neg (show ¬ (nI 0 ≤ nI x ∧ nI x ≤ nI 6) from fun z => by have := (nI_leI (a := x) (b := 6) (by omega) (by decide)).mp z.2; omega), if_pos rfl, if_neg (fun z => by omega)]
    · rw [if_pos (fun z => c1 (n1.mp z)), if_neg (fun z => c1 z.1)]
  rw [hin, bd_s]
  by_cases c1 : lx_kd T L q = 256 ∧ lx_vl T L q < 7
  · rw [if_pos c1, if_pos c1]
    obtain ⟨x, x1, x2, x3⟩ := n2 c1.1
    obtain ⟨M1, e1, e2⟩ := must1 (x := 1) (by decide) h
    rw [e1, bd_s, bd_s, x1, lN_i, show x = lx_vl T L q by omega]
    have k : am_kp [(53, 0)] [] 0 M1 (am_si M1 53 0 b (nI (lx_vl T L q))) := am_kp.si am_kp.rf rfl
    obtain ⟨a1, a2, a3, a4⟩ := e2.2.1
    refine ⟨_, rfl, e2.1.kp k rfl, ⟨a1, a2, a3, fun i hi => ?_⟩, e2.2.2.kp k rfl⟩
    show M1.1 52 0 i = _ ∧ (am_si M1 53 0 b (nI (lx_vl T L q))).1 53 0 i = _
    rw [rd_j]
    have := a4 i hi
    unfold rcu at this ⊢
    by_cases e : i = b
    · rw [if_pos e] at this
      rw [if_pos e, if_pos e]; exact ⟨this.1, rfl⟩
    · rw [if_neg e] at this
      rw [if_neg e, if_neg e]; exact this
  · rw [if_neg c1, if_neg c1]
    obtain ⟨M1, e1, e2, e3, P1, s1, c1', b1, g1, g2, g3, g4⟩ := must0 h hv hs hb
    rw [e1, bd_s, bd_s]
    obtain ⟨y, hy⟩ := any_nI (M.2.1 10 0 17).toInt32
    obtain ⟨a1, a2, a3, a4⟩ := g1
    refine ⟨_, rfl, e2, e3, P1, s1, rcu c1' b ((c1' b).1, y), b1, ⟨a1, a2, a3, fun i hi => ?_⟩, g2, g3, g4⟩
    show M1.1 52 0 i = _ ∧ (am_si M1 53 0 b (M.2.1 10 0 17).toInt32).1 53 0 i = _
    rw [rd_j, hy]
    unfold rcu
    by_cases e : i = b
    · rw [if_pos e, if_pos e]; rw [← e]; exact ⟨(a4 i hi).1, rfl⟩
    · rw [if_neg e, if_neg e]; exact a4 i hi
end RQ
