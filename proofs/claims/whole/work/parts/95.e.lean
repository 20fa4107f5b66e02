/-! orders: the class runs a CLAUSE once -/
section OF
variable {m m' : am_m} {lw : lw_T} {K a2 aw i t T D : Nat} {zs : Nat → oz_T} {S : oS_T}
/-- behind what was done the words are told anew -/
theorem c_after {m5 : am_m} {σ : DS} {dc la : Int32} (h : cWd σ m5) (hj : jq lw m5) (hs : cSc K a2 aw zs m5) (h1 : m5.1 41 0 1 = dc) (h2 : m5.1 41 0 2 = la) : ∃ m6, fn_X9_fillOrderWords (m5.1 5 0 4) m5 = some m6 ∧ cO K a2 aw zs lw (σ, dc, la) m6 ∧ am_kp [(20, 0), (41, 0)] [(80, 0)] 0 m5 m6 := by
  obtain ⟨m6, e1, e2, e3⟩ := cfill_ok (hj.x h.1 h.2.1) hs.2.2.2.2.1
  rw [h1, h2] at e3
  exact ⟨m6, by rw [hs.2.2.2.1]; exact e1, ⟨h.kp e2 rfl rfl, hj.kp e2 rfl, e3, hs.kp e2 rfl⟩, e2⟩
def c1R (K a2 aw : Nat) (zs : Nat → oz_T) (lw : lw_T) (i T t : Nat) (S : oS_T) (m : am_m) : Prop := match oOne lw (zs i) S with
  | some S' => ∃ m', (∀ N, lp_X9_ranClause_10 (N + 1) 0 (nI i) (nI T) (nI t) m = lp_X9_ranClause_10 N 0 (nI i) (nI T) (nI (t + 1)) m') ∧ cO K a2 aw zs lw S' m' ∧ ∀ u, u ≠ 0 → sm_U m m' u
  | none => ∃ m', (∀ N, lp_X9_ranClause_10 (N + 1) 0 (nI i) (nI T) (nI t) m = some (.inr (0, m'))) ∧ ∀ u, u ≠ 0 → sm_U m m' u
theorem c_one (h : cO K a2 aw zs lw S m) (hb : oB D S) (hD : D ≤ 1000000) (hi : i < K) (hd : ozd aw (zs i)) (ht : t < T) (hT : T ≤ 20) : c1R K a2 aw zs lw i T t S m := by
  have he := oE_ok (lw := lw) hb hD
  have hK : K ≤ 12 := h.2.2.2.2.1
  have hc := h.2.2.2.2.2.2.2.2.2.2 i hi
  obtain ⟨z1, z2, z3, z4, z5, z6⟩ := hc
  have H : ∀ (mm : am_m) (j : Nat), am_kp [] [(80, 0)] 0 m mm → j < 6 → fn_X5_headOf 0 (nI i) (nI j) mm = some (m.1 28 0 (6 * i + j)) := fun mm j k hj => by
    rw [headOf_p (K := K) (by rw [k.obj 5 rfl]; exact h.2.2.2.1) hK (by rw [show mm.2.2 = m.2.2 from k.2.2]; exact h.2.2.2.2.2.2.2.2.1) hi hj, k.row 28 rfl]
  -- the TEST
  obtain ⟨m1, e1, k1⟩ := ctell h z5 (fun f hf => (hd.1 f hf).1)
  have cO1 := h.k80 k1
  have u1 : ∀ {mm : am_m}, am_kp [] [(80, 0)] 0 m mm → ∀ u, u ≠ 0 → sm_U m mm u := fun k u _ => sm_U.kp k rfl u
  have start : ∀ N, lp_X9_ranClause_10 (N + 1) 0 (nI i) (nI T) (nI t) m = (if tl_val (zs i).2.2.1 (oEv lw S) ≠ (1 : Int32) then lp_X9_ranClause_10 N 0 (nI i) (nI T) (nI (t + 1)) m1 else (fn_X5_headOf 0 (nI i) 3 m1).bind fun r9 => (fn_X1_tell_o 0 r9 m1).bind fun r11 => (fn_X5_headOf 0 (nI i) 4 r11.2).bind fun r13 => (fn_X1_tell_o 0 r13 r11.2).bind fun r15 => (fn_X5_headOf 0 (nI i) 5 r15.2).bind fun r17 => (fn_X1_tell_o 0 r17 r15.2).bind fun r19 => (if r11.1 = (2000000000 : Int32) then some (.inr (0, r19.2)) else (if r15.1 = (2000000000 : Int32) then some (.inr (0, r19.2)) else (if r19.1 ≠ (2000000000 : Int32) then (fn_X5_headOf 0 (nI i) 0 r19.2).bind fun r24 => (if r24 = 270 then (fn_X9_doHarm r11.1 r15.1 r19.1 r19.2).bind fun r27 => (if 0 ≤ r27.1 then (fn_X9_fillOrderWords (r27.2.1 5 0 4) (am_si r27.2 41 0 1 ((r27.2.1 41 0 1) + (1 : Int32)))).bind fun r30 => lp_X9_ranClause_10 N 0 (nI i) (nI T) (nI t + 1) r30 else some (.inr (0, r27.2))) else (if r24 = 271 then (fn_X9_doFeast r11.1 r19.2).bind fun r33 => (if 0 ≤ r33.1 then (fn_X9_fillOrderWords (r33.2.1 5 0 4) (am_si (am_si r33.2 41 0 2 r33.1) 41 0 1 ((r33.2.1 41 0 1) + (1 : Int32)))).bind fun r36 => lp_X9_ranClause_10 N 0 (nI i) (nI T) (nI t + 1) r36 else some (.inr (0, am_si r33.2 41 0 2 r33.1))) else (if r24 = 272 then (fn_X9_doPardon r11.1 r15.1 r19.2).bind fun r39 => (if 0 ≤ r39.1 then (fn_X9_fillOrderWords (r39.2.1 5 0 4) (am_si r39.2 41 0 1 ((r39.2.1 41 0 1) + (1 : Int32)))).bind fun r42 => lp_X9_ranClause_10 N 0 (nI i) (nI T) (nI t + 1) r42 else some (.inr (0, r39.2))) else (fn_X9_doPass r19.2).bind fun r44 => (if 0 ≤ r44.1 then (fn_X9_fillOrderWords (r44.2.1 5 0 4) (am_si r44.2 41 0 1 ((r44.2.1 41 0 1) + (1 : Int32)))).bind fun r47 => lp_X9_ranClause_10 N 0 (nI i) (nI T) (nI t + 1) r47 else some (.inr (0, r44.2)))))) else some (.inr (0, r19.2)))))) := fun N => by
    rw [lp_X9_ranClause_10.eq_2, if_neg (nI_ge ht (by omega)), show fn_X5_headOf 0 (nI i) 2 m = _ from H m 2 am_kp.rf (by decide), bd_s, e1, bd_s, nI_1]
  unfold c1R oOne
  have tt := tl_test (o := (zs i).2.2.1) (env := oEv lw S) (fun f hf => (hd.1 f hf).2)
  cases hh : oHolds (zs i).2.2.1 (oEv lw S) with
  | false =>
    rw [if_pos rfl]
    refine ⟨m1, fun N => ?_, cO1, u1 k1⟩
    rw [start, if_pos (fun z => by rw [tt.mp z] at hh; cases hh)]
  | true =>
    rw [if_neg (by decide)]
    have t1 : tl_val (zs i).2.2.1 (oEv lw S) = 1 := tt.mpr hh
    -- the SUMS
    obtain ⟨m2, e2, k2⟩ := ctell cO1 (a := m.1 28 0 (6 * i + 3)) (by rw [k1.row 29 rfl]; exact z6 0 (by decide)) (fun f hf => ((hd.2 0 (by decide)).2 f hf).1)
    have k12 := k1.tr k2
    have cO2 := cO1.k80 k2
    obtain ⟨m3, e3, k3⟩ := ctell cO2 (a := m.1 28 0 (6 * i + 4)) (by rw [k12.row 29 rfl]; exact z6 1 (by decide)) (fun f hf => ((hd.2 1 (by decide)).2 f hf).1)
    have k13 := k12.tr k3
    have cO3 := cO2.k80 k3
    obtain ⟨m4, e4, k4⟩ := ctell cO3 (a := m.1 28 0 (6 * i + 5)) (by rw [k13.row 29 rfl]; exact z6 2 (by decide)) (fun f hf => ((hd.2 2 (by decide)).2 f hf).1)
    have k14 := k13.tr k4
    have cO4 := cO3.k80 k4
    obtain ⟨b0, v0⟩ := tl_sum (o := (zs i).2.2.2 0) (fun f hf => ((hd.2 0 (by decide)).2 f hf).2) he
    obtain ⟨b1, v1⟩ := tl_sum (o := (zs i).2.2.2 1) (fun f hf => ((hd.2 1 (by decide)).2 f hf).2) he
    obtain ⟨b2, v2⟩ := tl_sum (o := (zs i).2.2.2 2) (fun f hf => ((hd.2 2 (by decide)).2 f hf).2) he
    have go : ∀ N, lp_X9_ranClause_10 (N + 1) 0 (nI i) (nI T) (nI t) m = (if tl_val ((zs i).2.2.2 0) (oEv lw S) = (2000000000 : Int32) then some (.inr (0, m4)) else (if tl_val ((zs i).2.2.2 1) (oEv lw S) = (2000000000 : Int32) then some (.inr (0, m4)) else (if tl_val ((zs i).2.2.2 2) (oEv lw S) ≠ (2000000000 : Int32) then (if nI (270 + (zs i).1) = 270 then (fn_X9_doHarm (tl_val ((zs i).2.2.2 0) (oEv lw S)) (tl_val ((zs i).2.2.2 1) (oEv lw S)) (tl_val ((zs i).2.2.2 2) (oEv lw S)) m4).bind fun r27 => (if 0 ≤ r27.1 then (fn_X9_fillOrderWords (r27.2.1 5 0 4) (am_si r27.2 41 0 1 ((r27.2.1 41 0 1) + (1 : Int32)))).bind fun r30 => lp_X9_ranClause_10 N 0 (nI i) (nI T) (nI (t + 1)) r30 else some (.inr (0, r27.2))) else (if nI (270 + (zs i).1) = 271 then (fn_X9_doFeast (tl_val ((zs i).2.2.2 0) (oEv lw S)) m4).bind fun r33 => (if 0 ≤ r33.1 then (fn_X9_fillOrderWords (r33.2.1 5 0 4) (am_si (am_si r33.2 41 0 2 r33.1) 41 0 1 ((r33.2.1 41 0 1) + (1 : Int32)))).bind fun r36 => lp_X9_ranClause_10 N 0 (nI i) (nI T) (nI (t + 1)) r36 else some (.inr (0, am_si r33.2 41 0 2 r33.1))) else (if nI (270 + (zs i).1) = 272 then (fn_X9_doPardon (tl_val ((zs i).2.2.2 0) (oEv lw S)) (tl_val ((zs i).2.2.2 1) (oEv lw S)) m4).bind fun r39 => (if 0 ≤ r39.1 then (fn_X9_fillOrderWords (r39.2.1 5 0 4) (am_si r39.2 41 0 1 ((r39.2.1 41 0 1) + (1 : Int32)))).bind fun r42 => lp_X9_ranClause_10 N 0 (nI i) (nI T) (nI (t + 1)) r42 else some (.inr (0, r39.2))) else (fn_X9_doPass m4).bind fun r44 => (if 0 ≤ r44.1 then (fn_X9_fillOrderWords (r44.2.1 5 0 4) (am_si r44.2 41 0 1 ((r44.2.1 41 0 1) + (1 : Int32)))).bind fun r47 => lp_X9_ranClause_10 N 0 (nI i) (nI T) (nI (t + 1)) r47 else some (.inr (0, r44.2)))))) else some (.inr (0, m4))))) := fun N => by
      rw [start, if_neg (fun z => z t1), show fn_X5_headOf 0 (nI i) 3 m1 = _ from H m1 3 k1 (by decide), bd_s, e2, bd_s, show fn_X5_headOf 0 (nI i) 4 m2 = _ from H m2 4 k12 (by decide), bd_s, e3, bd_s, show fn_X5_headOf 0 (nI i) 5 m3 = _ from H m3 5 k13 (by decide), bd_s, e4, bd_s, show fn_X5_headOf 0 (nI i) 0 m4 = _ from H m4 0 k14 (by decide), bd_s, Nat.add_zero, z1, nI_1]
    by_cases br : (oBrk ((zs i).2.2.2 0) (oEv lw S) || (oBrk ((zs i).2.2.2 1) (oEv lw S) || oBrk ((zs i).2.2.2 2) (oEv lw S))) = true
    · rw [if_pos br]
      refine ⟨m4, fun N => ?_, u1 k14⟩
      rw [go]
      by_cases q0 : tl_val ((zs i).2.2.2 0) (oEv lw S) = (2000000000 : Int32)
      · rw [if_pos q0]
      rw [if_neg q0]
      by_cases q1 : tl_val ((zs i).2.2.2 1) (oEv lw S) = (2000000000 : Int32)
      · rw [if_pos q1]
      rw [if_neg q1]
      by_cases q2 : tl_val ((zs i).2.2.2 2) (oEv lw S) = (2000000000 : Int32)
      · rw [if_neg (fun z => z q2)]
      · exfalso
        rw [Bool.or_eq_true, Bool.or_eq_true] at br
        rcases br with w | w | w
        · exact q0 (b0.mpr w)
        · exact q1 (b1.mpr w)
        · exact q2 (b2.mpr w)
    · rw [if_neg br]
      have n0 : oBrk ((zs i).2.2.2 0) (oEv lw S) = false := by
        cases x : oBrk ((zs i).2.2.2 0) (oEv lw S) with
        | false => rfl
        | true => rw [x] at br; exact absurd rfl br
      have n1 : oBrk ((zs i).2.2.2 1) (oEv lw S) = false := by
        cases x : oBrk ((zs i).2.2.2 1) (oEv lw S) with
        | false => rfl
        | true => rw [n0, x] at br; exact absurd rfl br
      have n2 : oBrk ((zs i).2.2.2 2) (oEv lw S) = false := by
        cases x : oBrk ((zs i).2.2.2 2) (oEv lw S) with
        | false => rfl
        | true => rw [n0, n1, x] at br; exact absurd rfl br
      have q0 : ¬ tl_val ((zs i).2.2.2 0) (oEv lw S) = (2000000000 : Int32) := fun z => by rw [b0.mp z] at n0; cases n0
      have q1 : ¬ tl_val ((zs i).2.2.2 1) (oEv lw S) = (2000000000 : Int32) := fun z => by rw [b1.mp z] at n1; cases n1
      have q2 : ¬ tl_val ((zs i).2.2.2 2) (oEv lw S) = (2000000000 : Int32) := fun z => by rw [b2.mp z] at n2; cases n2
      have x0 := v0 n0
      have x1 := v1 n1
      have x2 := v2 n2
      have w41 : m4.1 41 0 1 = S.2.1 := cO4.2.2.1.1
      have w42 : m4.1 41 0 2 = S.2.2 := cO4.2.2.1.2.1
      -- what was done, then the words
      have fin : ∀ (A : Int32 × DS) (m5 m5' : am_m) (la : Int32) (R : Nat → am_m → Option (Sum am_m (Int32 × am_m))), oDo lw (zs i) S = A → cWd A.2 m5 → jq lw m5 → cSc K a2 aw zs m5 → (∀ u, u ≠ 0 → sm_U m4 m5 u) → am_kp [(41, 0)] [] 0 m5 m5' → m5'.1 41 0 1 = S.2.1 + 1 → m5'.1 41 0 2 = la → la = (if (zs i).1 = 1 then A.1 else S.2.2) → (∀ N, lp_X9_ranClause_10 (N + 1) 0 (nI i) (nI T) (nI t) m = if 0 ≤ A.1 then (fn_X9_fillOrderWords (m5'.1 5 0 4) m5').bind fun r => lp_X9_ranClause_10 N 0 (nI i) (nI T) (nI (t + 1)) r else some (.inr (0, (if (zs i).1 = 1 then am_si m5 41 0 2 A.1 else m5)))) → (match (if 0 ≤ (oDo lw (zs i) S).1 then some ((oDo lw (zs i) S).2, S.2.1 + 1, if (zs i).1 = 1 then (oDo lw (zs i) S).1 else S.2.2) else none) with
          | some S' => ∃ m', (∀ N, lp_X9_ranClause_10 (N + 1) 0 (nI i) (nI T) (nI t) m = lp_X9_ranClause_10 N 0 (nI i) (nI T) (nI (t + 1)) m') ∧ cO K a2 aw zs lw S' m' ∧ ∀ u, u ≠ 0 → sm_U m m' u
          | none => ∃ m', (∀ N, lp_X9_ranClause_10 (N + 1) 0 (nI i) (nI T) (nI t) m = some (.inr (0, m'))) ∧ ∀ u, u ≠ 0 → sm_U m m' u) := by
        intro A m5 m5' la R hA hw hj hs hu k5 h1 h2 hla hrun
        rw [hA]
        by_cases ha : 0 ≤ A.1
        · rw [if_pos ha]
          obtain ⟨m6, f1, f2, f3⟩ := c_after (hw.kp k5 rfl rfl) (hj.kp k5 rfl) (hs.kp k5 rfl) h1 h2
          refine ⟨m6, fun N => ?_, ?_, fun u hu0 => (u1 k14 u hu0).tr ((hu u hu0).tr ((sm_U.kp k5 rfl u).tr (sm_U.kp f3 rfl u)))⟩
          · rw [hrun, if_pos ha, f1, bd_s]
          · rw [← hla]; exact f2
        · rw [if_neg ha]
          refine ⟨if (zs i).1 = 1 then am_si m5 41 0 2 A.1 else m5, fun N => by rw [hrun, if_neg ha], fun u hu0 => (u1 k14 u hu0).tr ((hu u hu0).tr ?_)⟩
          by_cases q : (zs i).1 = 1
          · rw [if_pos q]; exact sm_U.si (m := m5) 41 0 2 A.1 u (Or.inr (by decide))
          · rw [if_neg q]; exact ⟨rfl, rfl, rfl, rfl, rfl, rfl⟩
      have cases4 : (zs i).1 = 0 ∨ (zs i).1 = 1 ∨ (zs i).1 = 2 ∨ (zs i).1 = 3 := by omega
      rcases cases4 with hz | hz | hz | hz
      · obtain ⟨m5, f1, f2, f3⟩ := c_harm (oVal ((zs i).2.2.2 0) (oEv lw S)) (oVal ((zs i).2.2.2 1) (oEv lw S)) (oVal ((zs i).2.2.2 2) (oEv lw S)) cO4.1
        have k5 := kp_X9_doHarm _ _ _ _ _ f1
        have e41 : m5.1 41 = m4.1 41 := k5.row 41 rfl
        refine fin (harmA (oVal ((zs i).2.2.2 0) (oEv lw S)) (oVal ((zs i).2.2.2 1) (oEv lw S)) (oVal ((zs i).2.2.2 2) (oEv lw S)) S.1) m5 (am_si m5 41 0 1 (S.2.1 + 1)) S.2.2 (fun _ _ => none) (by unfold oDo oAct; rw [if_pos hz]) f2 (cO4.2.1.kp k5 rfl) (cO4.2.2.2.kp k5 rfl) f3 (am_kp.si am_kp.rf rfl) rfl ?_ ?_ (fun N => ?_)
        · show m5.1 41 0 2 = _
          rw [e41]; exact w42
        · rw [if_neg (by omega)]
        · rw [go, if_neg q0, if_neg q1, if_pos q2, if_pos (by rw [hz]; rfl), x0, x1, x2, f1, bd_s, e41, w41, if_neg (show ¬ (zs i).1 = 1 by omega)]
          rfl
      · obtain ⟨m5, f1, f2, f3, f4⟩ := c_feast (lw := lw) (oVal ((zs i).2.2.2 0) (oEv lw S)) cO4.1 cO4.2.1
        have k5 := kp_X9_doFeast _ _ _ f1
        have e41 : m5.1 41 = m4.1 41 := k5.row 41 rfl
        refine fin (feastA lw (oVal ((zs i).2.2.2 0) (oEv lw S)) S.1) m5 (am_si (am_si m5 41 0 2 (feastA lw (oVal ((zs i).2.2.2 0) (oEv lw S)) S.1).1) 41 0 1 (S.2.1 + 1)) (feastA lw (oVal ((zs i).2.2.2 0) (oEv lw S)) S.1).1 (fun _ _ => none) (by unfold oDo oAct; rw [if_neg (by omega), if_pos hz]) f2 f3 (cO4.2.2.2.kp k5 rfl) f4 (am_kp.si (am_kp.si am_kp.rf rfl) rfl) rfl rfl ?_ (fun N => ?_)
        · rw [if_pos hz]
        · rw [go, if_neg q0, if_neg q1, if_pos q2, if_neg (by rw [hz]; decide), if_pos (by rw [hz]; rfl), x0, f1, bd_s, e41, w41, if_pos hz]
          rfl
      · obtain ⟨m5, f1, f2, f3⟩ := c_pard (oVal ((zs i).2.2.2 0) (oEv lw S)) (oVal ((zs i).2.2.2 1) (oEv lw S)) cO4.1
        have k5 := kp_X9_doPardon _ _ _ _ f1
        have e41 : m5.1 41 = m4.1 41 := k5.row 41 rfl
        refine fin (pardA (oVal ((zs i).2.2.2 0) (oEv lw S)) (oVal ((zs i).2.2.2 1) (oEv lw S)) S.1) m5 (am_si m5 41 0 1 (S.2.1 + 1)) S.2.2 (fun _ _ => none) (by unfold oDo oAct; rw [if_neg (by omega), if_neg (by omega), if_pos hz]) f2 (cO4.2.1.kp k5 rfl) (cO4.2.2.2.kp k5 rfl) f3 (am_kp.si am_kp.rf rfl) rfl ?_ ?_ (fun N => ?_)
        · show m5.1 41 0 2 = _
          rw [e41]; exact w42
        · rw [if_neg (by omega)]
        · rw [go, if_neg q0, if_neg q1, if_pos q2, if_neg (by rw [hz]; decide), if_neg (by rw [hz]; decide), if_pos (by rw [hz]; rfl), x0, x1, f1, bd_s, e41, w41, if_neg (show ¬ (zs i).1 = 1 by omega)]
          rfl
      · obtain ⟨m5, f1, f2, f3, f4⟩ := c_pass (lw := lw) cO4.1 cO4.2.1
        have k5 := kp_X9_doPass _ _ f1
        have e41 : m5.1 41 = m4.1 41 := k5.row 41 rfl
        refine fin (passA lw S.1) m5 (am_si m5 41 0 1 (S.2.1 + 1)) S.2.2 (fun _ _ => none) (by unfold oDo oAct; rw [if_neg (by omega), if_neg (by omega), if_neg (by omega)]) f2 f3 (cO4.2.2.2.kp k5 rfl) f4 (am_kp.si am_kp.rf rfl) rfl ?_ ?_ (fun N => ?_)
        · show m5.1 41 0 2 = _
          rw [e41]; exact w42
        · rw [if_neg (by omega)]
        · rw [go, if_neg q0, if_neg q1, if_pos q2, if_neg (by rw [hz]; decide), if_neg (by rw [hz]; decide), if_neg (by rw [hz]; decide), f1, bd_s, e41, w41, if_neg (show ¬ (zs i).1 = 1 by omega)]
          rfl
end OF
