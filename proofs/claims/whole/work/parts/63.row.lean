/-! a ROW of HARMS off the tape -/
/-- behind i threes: the row, how many HARMS, how many crumbs -/
def rwB (T : Nat → Nat) (had n i : Nat) : Bool := decide (3 * i + 2 < had ∧ (T (3 * i) < n ∧ T (3 * i + 1) < n ∧ T (3 * i) ≠ T (3 * i + 1)) ∧ 1 ≤ T (3 * i + 2) ∧ T (3 * i + 2) ≤ 9)
def rwS (T : Nat → Nat) (had n : Nat) (r : Nat → Int32) : Nat → (Nat → Int32) × Nat × Nat
  | 0 => (r, 0, 0)
  | i + 1 => if rwB T had n i then (harmS (rwS T had n r i).1 (T (3 * i)) (T (3 * i + 1)) (nI (T (3 * i + 2))), (rwS T had n r i).2.1 + 1, (rwS T had n r i).2.2) else ((rwS T had n r i).1, (rwS T had n r i).2.1, (rwS T had n r i).2.2 + 1)
section RW
variable {m : am_m} {T : Nat → Nat} {had n : Nat} {r : Nat → Int32}
theorem rwS_y {i : Nat} (h : rwB T had n i = true) : rwS T had n r (i + 1) = (harmS (rwS T had n r i).1 (T (3 * i)) (T (3 * i + 1)) (nI (T (3 * i + 2))), (rwS T had n r i).2.1 + 1, (rwS T had n r i).2.2) := by
  rw [rwS, h, if_pos rfl]
theorem rwS_n {i : Nat} (h : rwB T had n i = false) : rwS T had n r (i + 1) = ((rwS T had n r i).1, (rwS T had n r i).2.1, (rwS T had n r i).2.2 + 1) := by
  rw [rwS, h, if_neg (by decide)]
theorem rwS_out {k : Nat} (hn : n ≤ 7) (hk : k < 14 ∨ 112 ≤ k) : ∀ i, (rwS T had n r i).1 k = r k
  | 0 => rfl
  | i + 1 => by
    cases h : rwB T had n i with
    | false => rw [rwS_n h]; exact rwS_out hn hk i
    | true =>
      rw [rwS_y h]
      unfold rwB at h
      rw [decide_eq_true_iff] at h
      show harmS (rwS T had n r i).1 _ _ _ k = _
      unfold harmS
      rw [if_neg (by omega), if_neg (by omega)]
      exact rwS_out hn hk i
theorem rwS_W (hW : iv_W 999 r) (hn : nv (r 0) = n) : ∀ i, iv_W 999 (rwS T had n r i).1
  | 0 => hW
  | i + 1 => by
    have h7 := hW.n7
    have ih := rwS_W hW hn i
    have e0 : nv ((rwS T had n r i).1 0) = n := by rw [rwS_out (by omega) (by omega)]; exact hn
    cases h : rwB T had n i with
    | false => rw [rwS_n h]; exact ih
    | true =>
      rw [rwS_y h]
      unfold rwB at h
      rw [decide_eq_true_iff] at h
      exact harmS_W ih (by rw [e0]; exact h.2.1.1) (by rw [e0]; exact h.2.1.2.1) h.2.1.2.2 h.2.2.2
theorem rwS_le : ∀ i, (rwS T had n r i).2.1 ≤ i ∧ (rwS T had n r i).2.2 ≤ i
  | 0 => ⟨Nat.le_refl _, Nat.le_refl _⟩
  | i + 1 => by
    have ih := rwS_le i
    cases h : rwB T had n i with
    | false => rw [rwS_n h]; exact ⟨Nat.le_succ_of_le ih.1, Nat.succ_le_succ ih.2⟩
    | true => rw [rwS_y h]; exact ⟨Nat.succ_le_succ ih.1, Nat.le_succ_of_le ih.2⟩
theorem byteAt_ok {k : Nat} (h7 : m.1 7 0 1 = nI had) (hh : had ≤ 400) (hT : ∀ k, k < had → m.1 35 0 k = nI (T k)) (hk : k < had) : fn_X7_byteAt (nI k) m = some (nI (T k)) := by
  unfold fn_X7_byteAt
  rw [h7, if_neg (nI_pos (by omega)), if_neg (nI_ge hk (by omega)), ck_in (by omega) (by decide), nI_clamp (by omega), hT k hk]
theorem crow_lp (hU : iv_U m 0 r) (hW : iv_W 999 r) (hn : nv (r 0) = n) (h7 : m.1 7 0 1 = nI had) (hh : had ≤ 400) (hT : ∀ k, k < had → m.1 35 0 k = nI (T k)) (hb : ∀ k, k < had → T k < 256) :
    ∃ t, lp_X9_row_23 1000000 0 0 0 m = some t ∧ (t.1 = nI (rwS T had n r ((had + 2) / 3)).2.1 ∧ t.2.1 = nI (rwS T had n r ((had + 2) / 3)).2.2 ∧ iv_U t.2.2 0 (rwS T had n r ((had + 2) / 3)).1 ∧ am_kp [(37, 0), (38, 0)] [] 0 m t.2.2 ∧ ∀ u, u ≠ 0 → sm_U m t.2.2 u) := by
  have hn7 := hW.n7
  refine lp_up0 (fun N x (a : Int32 × Int32 × am_m) => lp_X9_row_23 N a.1 a.2.1 (3 * x) a.2.2) (fun i a => a.1 = nI (rwS T had n r i).2.1 ∧ a.2.1 = nI (rwS T had n r i).2.2 ∧ iv_U a.2.2 0 (rwS T had n r i).1 ∧ am_kp [(37, 0), (38, 0)] [] 0 m a.2.2 ∧ ∀ u, u ≠ 0 → sm_U m a.2.2 u) _ ((had + 2) / 3) (by omega) (fun N a hp => ⟨a, ?_, hp⟩) (fun N i a hi hp => Or.inl ?_) (0, 0, m) ⟨rfl, rfl, hU, am_kp.rf, fun u _ => ⟨rfl, rfl, rfl, rfl, rfl, rfl⟩⟩
  · obtain ⟨p1, p2, p3, p4, p5⟩ := hp
    show lp_X9_row_23 (N + 1) a.1 a.2.1 (3 * nI ((had + 2) / 3)) a.2.2 = _
    rw [lp_X9_row_23.eq_2, p4.fld 7 0 1 rfl, h7, show (3 : Int32) = nI 3 from rfl, pk_mul, if_pos (nI_le (by omega) (by omega))]
  · obtain ⟨p1, p2, p3, p4, p5⟩ := hp
    have e7 : a.2.2.1 7 0 1 = nI had := by rw [p4.fld 7 0 1 rfl]; exact h7
    have eT : ∀ k, k < had → a.2.2.1 35 0 k = nI (T k) := fun k hk => by rw [p4.row 35 rfl]; exact hT k hk
    have W1 := rwS_W (T := T) (had := had) hW hn i
    have e0 : nv ((rwS T had n r i).1 0) = n := by rw [rwS_out (by omega) (by omega)]; exact hn
    have e8 : a.2.2.1 8 0 0 = nI n := by
      have := p3.1.trans W1.r0
      rw [e0] at this
      exact this
    have l1 := rwS_le (T := T) (had := had) (n := n) (r := r) i
    show ∃ a' : Int32 × Int32 × am_m, lp_X9_row_23 (N + 1) a.1 a.2.1 (3 * nI i) a.2.2 = lp_X9_row_23 N a'.1 a'.2.1 (3 * nI (i + 1)) a'.2.2 ∧ _
    have en : (3 : Int32) * nI i + 3 = 3 * nI (i + 1) := by rw [show (3 : Int32) = nI 3 from rfl, pk_mul, nI_add, pk_mul, show 3 * i + 3 = 3 * (i + 1) by omega]
    rw [lp_X9_row_23.eq_2, e7, en, if_neg (show ¬ nI had ≤ 3 * nI i by rw [show (3 : Int32) = nI 3 from rfl, pk_mul]; exact nI_ge (by omega) (by omega))]
    have no : rwB T had n i = false → fn_X9_rowHarm (3 * nI i) a.2.2 = some (0, a.2.2) → ∃ a' : Int32 × Int32 × am_m, ((fn_X9_rowHarm (3 * nI i) a.2.2).bind fun r3 => lp_X9_row_23 N (if r3.1 = 0 then a.1 else (a.1 + 1)) (if r3.1 = 0 then (a.2.1 + 1) else a.2.1) (3 * nI (i + 1)) r3.2) = lp_X9_row_23 N a'.1 a'.2.1 (3 * nI (i + 1)) a'.2.2 ∧ (a'.1 = nI (rwS T had n r (i + 1)).2.1 ∧ a'.2.1 = nI (rwS T had n r (i + 1)).2.2 ∧ iv_U a'.2.2 0 (rwS T had n r (i + 1)).1 ∧ am_kp [(37, 0), (38, 0)] [] 0 m a'.2.2 ∧ ∀ u, u ≠ 0 → sm_U m a'.2.2 u) := fun hB e => by
      rw [e, bd_s]
      refine ⟨(a.1, a.2.1 + 1, a.2.2), rfl, ?_⟩
      rw [rwS_n hB]
      exact ⟨p1, by show a.2.1 + 1 = _; rw [p2, nI_1], p3, p4, p5⟩
    by_cases c1 : 3 * i + 2 < had
    · have b0 := byteAt_ok e7 hh eT (show 3 * i < had by omega)
      have b1 := byteAt_ok e7 hh eT (show 3 * i + 1 < had by omega)
      have b2 := byteAt_ok e7 hh eT c1
      have y0 := hb (3 * i) (by omega)
      have y1 := hb (3 * i + 1) (by omega)
      have y2 := hb (3 * i + 2) (by omega)
      have eR : fn_X9_rowHarm (3 * nI i) a.2.2 = ((fn_X8_hasTwo 0 (nI (T (3 * i))) (nI (T (3 * i + 1))) a.2.2).bind fun r8 => (if r8 = 0 then some ((0 : Int32), a.2.2) else (if nI (T (3 * i + 2)) < (1 : Int32) then some (0, a.2.2) else (if nI (T (3 * i + 2)) ≤ (9 : Int32) then (fn_X8_setHarm 0 (nI (T (3 * i))) (nI (T (3 * i + 1))) (nI (T (3 * i + 2))) (a.2.2.1 39 0 0) a.2.2).bind fun r13 => some (1, r13) else some (0, a.2.2))))) := by
        unfold fn_X9_rowHarm
        rw [e7, show (3 : Int32) = nI 3 from rfl, pk_mul, pk_sub (by omega), if_pos (nI_le (by omega) (by omega)), b0, bd_s, nI_1, b1, bd_s, show (2 : Int32) = nI 2 from rfl, nI_add, b2, bd_s]
      by_cases c2 : T (3 * i) < n ∧ T (3 * i + 1) < n ∧ T (3 * i) ≠ T (3 * i + 1)
      · have hne : nI (T (3 * i)) ≠ nI (T (3 * i + 1)) := nI_ne (by omega) (by omega) c2.2.2
        have eR2 := eR
        rw [hasTwo_ok e8, if_pos ⟨fk_in (by omega) c2.1, fk_in (by omega) c2.2.1, hne⟩, bd_s, if_neg (by decide)] at eR2
        by_cases c3 : 1 ≤ T (3 * i + 2)
        · rw [if_neg (show ¬ nI (T (3 * i + 2)) < (1 : Int32) from nI_nlt (b := 1) c3 (by omega))] at eR2
          by_cases c4 : T (3 * i + 2) ≤ 9
          · have hB : rwB T had n i = true := decide_eq_true ⟨c1, c2, c3, c4⟩
            rw [if_pos (show nI (T (3 * i + 2)) ≤ (9 : Int32) from nI_le (b := 9) c4 (by decide)), csetHarm_ok e8 (by omega) c2.1 c2.2.1 c2.2.2, bd_s] at eR2
            rw [eR2, bd_s]
            refine ⟨(a.1 + 1, a.2.1, am_si (am_si a.2.2 37 0 (7 * T (3 * i) + T (3 * i + 1)) (nI (T (3 * i + 2)))) 38 0 (7 * T (3 * i) + T (3 * i + 1)) (a.2.2.1 39 0 0)), rfl, ?_⟩
            rw [rwS_y hB]
            have e4 : a.2.2.1 39 0 0 = (rwS T had n r i).1 4 := p3.2.2.2.2.1 0 (by decide)
            refine ⟨by show a.1 + 1 = _; rw [p1, nI_1], p2, p3.harm (by omega) (by omega) (fun k => rfl) (fun _ => e4), p4.tr (am_kp.si (am_kp.si am_kp.rf rfl) rfl), fun u hu => (p5 u hu).tr ((sm_U.si (m := a.2.2) 37 0 _ _ u (Or.inl (Ne.symm hu))).tr (sm_U.si (m := am_si a.2.2 37 0 _ _) 38 0 _ _ u (Or.inl (Ne.symm hu))))⟩
          · rw [if_neg (show ¬ nI (T (3 * i + 2)) ≤ (9 : Int32) from nI_ge (a := 9) (by omega) (by omega))] at eR2
            exact no (decide_eq_false (fun z => c4 z.2.2.2)) eR2
        · rw [if_pos (show nI (T (3 * i + 2)) < (1 : Int32) from nI_lt (b := 1) (by omega) (by decide))] at eR2
          exact no (decide_eq_false (fun z => c3 z.2.2.1)) eR2
      · refine no (decide_eq_false (fun z => c2 z.2.1)) ?_
        rw [eR, hasTwo_ok e8, if_neg (fun z => c2 ⟨(fk_iff (by omega) (by omega)).mp z.1, (fk_iff (by omega) (by omega)).mp z.2.1, fun q => z.2.2 (by rw [q])⟩), bd_s, if_pos rfl]
    · refine no (decide_eq_false (fun z => c1 z.1)) ?_
      unfold fn_X9_rowHarm
      rw [e7, show (3 : Int32) = nI 3 from rfl, pk_mul]
      have : ¬ nI (3 * i) ≤ nI had - nI 3 := by
        rw [fa_le, nI_toInt (by omega), pk_sub_toInt (by omega) (by decide)]
        omega
      rw [if_neg this]
theorem rrow_lp (hW : iv_W 999 r) (hr : m.1 44 0 = r) (hn : nv (r 0) = n) (hh : had ≤ 400) (hT : ∀ k, k < had → m.1 50 0 k = nI (T k)) (hb : ∀ k, k < had → T k < 256) (h11 : m.1 10 0 11 = 0) :
    ∃ t, lp_X10_row_35 1000000 (nI had) 0 0 m = some t ∧ (t.1 = nI (rwS T had n r ((had + 2) / 3)).2.1 ∧ t.2.1 10 0 11 = nI (rwS T had n r ((had + 2) / 3)).2.2 ∧ t.2.1 44 0 = (rwS T had n r ((had + 2) / 3)).1 ∧ am_kp [(10, 11), (44, 0)] [] 0 m t.2) := by
  have hn7 := hW.n7
  refine (lp_up0 (fun N x (a : Int32 × am_m) => lp_X10_row_35 N (nI had) a.1 (3 * x) a.2) (fun i a => a.1 = nI (rwS T had n r i).2.1 ∧ a.2.1 10 0 11 = nI (rwS T had n r i).2.2 ∧ a.2.1 44 0 = (rwS T had n r i).1 ∧ am_kp [(10, 11), (44, 0)] [] 0 m a.2) _ ((had + 2) / 3) (by omega) (fun N a hp => ⟨a, ?_, hp⟩) (fun N i a hi hp => Or.inl ?_) (0, m) ⟨rfl, h11, hr, am_kp.rf⟩)
  · show lp_X10_row_35 (N + 1) (nI had) a.1 (3 * nI ((had + 2) / 3)) a.2 = _
    rw [lp_X10_row_35.eq_2, show (3 : Int32) = nI 3 from rfl, pk_mul, if_pos (nI_le (by omega) (by omega))]
  · obtain ⟨p1, p2, p3, p4⟩ := hp
    have W1 := rwS_W (T := T) (had := had) hW hn i
    have e0 : nv ((rwS T had n r i).1 0) = n := by rw [rwS_out (by omega) (by omega)]; exact hn
    have e44 : a.2.1 44 0 0 = nI n := by
      have := W1.r0
      rw [e0] at this
      rw [p3]; exact this
    have eT : ∀ k, k < had → a.2.1 50 0 k = nI (T k) := fun k hk => by rw [p4.row 50 rfl]; exact hT k hk
    have l1 := rwS_le (T := T) (had := had) (n := n) (r := r) i
    show ∃ a' : Int32 × am_m, lp_X10_row_35 (N + 1) (nI had) a.1 (3 * nI i) a.2 = lp_X10_row_35 N (nI had) a'.1 (3 * nI (i + 1)) a'.2 ∧ _
    have e3 : (3 : Int32) * nI i = nI (3 * i) := by rw [show (3 : Int32) = nI 3 from rfl, pk_mul]
    have en : (3 : Int32) * nI i + 3 = 3 * nI (i + 1) := by rw [show (3 : Int32) = nI 3 from rfl, pk_mul, nI_add, pk_mul, show 3 * i + 3 = 3 * (i + 1) by omega]
    have no : rwB T had n i = false → ∃ a' : Int32 × am_m, ((some (a.1, am_si a.2 10 0 11 ((a.2.1 10 0 11) + (1 : Int32)))).bind fun q24 => lp_X10_row_35 N (nI had) q24.1 (3 * nI (i + 1)) q24.2) = lp_X10_row_35 N (nI had) a'.1 (3 * nI (i + 1)) a'.2 ∧ (a'.1 = nI (rwS T had n r (i + 1)).2.1 ∧ a'.2.1 10 0 11 = nI (rwS T had n r (i + 1)).2.2 ∧ a'.2.1 44 0 = (rwS T had n r (i + 1)).1 ∧ am_kp [(10, 11), (44, 0)] [] 0 m a'.2) := fun hB => by
      refine ⟨_, rfl, ?_⟩
      rw [rwS_n hB]
      exact ⟨p1, by show (a.2.1 10 0 11) + (1 : Int32) = _; rw [p2, nI_1], p3, p4.tr (am_kp.si am_kp.rf rfl)⟩
    rw [lp_X10_row_35.eq_2, en, e3, if_neg (nI_ge (by omega) (by omega)), show (2 : Int32) = nI 2 from rfl, nI_add]
    by_cases c1 : 3 * i + 2 < had
    · have y0 := hb (3 * i) (by omega)
      have y1 := hb (3 * i + 1) (by omega)
      have y2 := hb (3 * i + 2) (by omega)
      rw [if_neg (nI_ge c1 (by omega)), ck_in (by omega) (by decide), nI_clamp (by omega), eT _ (by omega), isFolk_ok (by omega) e44, bd_s, nI_1, nI_clamp (by omega), nI_clamp (by omega), eT _ (by omega), eT _ (by omega)]
      by_cases d1 : T (3 * i) < n
      · rw [if_pos (show 0 ≤ nI (T (3 * i)) ∧ nI (T (3 * i)) < nI n from fk_in (by omega) d1), if_neg (show ¬ (1 : Int32) = 0 by decide), ck_in (by omega) (by decide), isFolk_ok (by omega) e44, bd_s]
        by_cases d2 : T (3 * i + 1) < n
        · rw [if_pos (show 0 ≤ nI (T (3 * i + 1)) ∧ nI (T (3 * i + 1)) < nI n from fk_in (by omega) d2), if_neg (show ¬ (1 : Int32) = 0 by decide), ck_in (by omega) (by decide), ck_in (by omega) (by decide)]
          by_cases d3 : T (3 * i) = T (3 * i + 1)
          · rw [if_pos (by rw [d3])]
            exact no (decide_eq_false (fun z => z.2.1.2.2 d3))
          · rw [if_neg (nI_ne (by omega) (by omega) d3), ck_in (by omega) (by decide), show (1 : Int64) = (1 : Int32).toInt64 from rfl, show (9 : Int64) = (9 : Int32).toInt64 from rfl, in_32, bd_s]
            by_cases d4 : 1 ≤ T (3 * i + 2) ∧ T (3 * i + 2) ≤ 9
            · have hB : rwB T had n i = true := decide_eq_true ⟨c1, ⟨d1, d2, d3⟩, d4.1, d4.2⟩
              rw [if_pos (show (1 : Int32) ≤ nI (T (3 * i + 2)) ∧ nI (T (3 * i + 2)) ≤ 9 from ⟨nI_le (a := 1) d4.1 (by omega), nI_le (b := 9) d4.2 (by decide)⟩), if_neg (show ¬ (1 : Int32) = 0 by decide), ck_in (by omega) (by decide), ck_in (by omega) (by decide), ck_in (by omega) (by decide), rset_ok (by omega) (by omega), bd_s, bd_s]
              refine ⟨_, rfl, ?_⟩
              rw [rwS_y hB]
              refine ⟨by show a.1 + 1 = _; rw [p1, nI_1], p2, funext (fun k => ?_), p4.tr (am_kp.si (am_kp.si am_kp.rf rfl) rfl)⟩
              show (am_si (am_si a.2 44 0 (14 + (7 * T (3 * i) + T (3 * i + 1))) (nI (T (3 * i + 2)))) 44 0 (63 + (7 * T (3 * i) + T (3 * i + 1))) (a.2.1 44 0 4)).1 44 0 k = _
              rw [rd_j, rd_j, p3]
              rfl
            · rw [if_neg (show ¬ ((1 : Int32) ≤ nI (T (3 * i + 2)) ∧ nI (T (3 * i + 2)) ≤ 9) from fun z => d4 ⟨(nI_leI (a := 1) (by decide) (by omega)).mp z.1, (nI_leI (b := 9) (by omega) (by decide)).mp z.2⟩), if_pos rfl]
              exact no (decide_eq_false (fun z => d4 z.2.2))
        · rw [if_neg (show ¬ (0 ≤ nI (T (3 * i + 1)) ∧ nI (T (3 * i + 1)) < nI n) from fun z => d2 ((fk_iff (by omega) (by omega)).mp z)), if_pos rfl]
          exact no (decide_eq_false (fun z => d2 z.2.1.2.1))
      · rw [if_neg (show ¬ (0 ≤ nI (T (3 * i)) ∧ nI (T (3 * i)) < nI n) from fun z => d1 ((fk_iff (by omega) (by omega)).mp z)), if_pos rfl]
        exact no (decide_eq_false (fun z => d1 z.2.1.1))
    · rw [if_pos (nI_le (by omega) (by omega))]
      exact no (decide_eq_false (fun z => c1 z.1))
theorem op_row (h : Inv m) : op_ok m (fun m => fn_X9_row m) (fun m => fn_X10_row m) := by
  obtain ⟨had, hh, e7, e13, hb⟩ := h.T
  have hW := h.w
  have hU := h.u
  by_cases h0 : had = 0
  · subst h0
    refine op_refuse h 6 (by decide) (by decide) ?_ ?_
    · show fn_X9_row m = _
      unfold fn_X9_row
      rw [e7, if_neg (by decide)]
      rfl
    · show fn_X10_row _ = _
      unfold fn_X10_row
      have e : (st_9 (-nI 6) m).1 10 0 13 = nI 0 := by rw [(st_9_kp _ m).fld 10 0 13 rfl]; exact e13
      rw [e, if_neg (by decide), am_si_same (m := am_si (st_9 (-nI 6) m) 10 0 0 0) (show (am_si (st_9 (-nI 6) m) 10 0 0 0).1 10 0 13 = 0 from e)]
      rfl
  · have eT : ∀ k, k < had → m.1 50 0 k = nI (nv (m.1 50 0 k)) ∧ nv (m.1 50 0 k) < 256 := fun k hk => by
      obtain ⟨b, h1, h2⟩ := (hb k hk).2
      rw [h2, nv_nI (by omega)]
      exact ⟨rfl, h1⟩
    generalize hTd : (fun k => nv (m.1 50 0 k)) = T
    have eT : ∀ k, k < had → m.1 50 0 k = nI (T k) ∧ T k < 256 := by rw [← hTd]; exact eT
    obtain ⟨n, hn, e44, e8, en⟩ := h.n
    obtain ⟨t, a1, a2, a3, a4, a5, a6⟩ := crow_lp (T := T) hU hW en e7 hh (fun k hk => by rw [(hb k hk).1]; exact (eT k hk).1) (fun k hk => (eT k hk).2)
    have lA := rwS_le (T := T) (had := had) (n := n) (r := m.1 44 0) ((had + 2) / 3)
    let mA : am_m := am_si (am_si (am_si t.2.2 9 0 15 t.2.1) 7 0 1 0) 3 0 1 0
    have kA : am_kp [(37, 0), (38, 0), (9, 15), (7, 1), (3, 1)] [] 0 m mA := (am_kp.mono a5 rfl).tr (am_kp.si (am_kp.si (am_kp.si am_kp.rf rfl) rfl) rfl)
    let mS : am_m := am_si (am_si (am_si (am_si mA 9 0 17 0) 10 0 0 0) 10 0 13 0) 10 0 11 0
    have kS : am_kp [(37, 0), (38, 0), (9, 15), (7, 1), (3, 1), (9, 17), (10, 0), (10, 13), (10, 11)] [] 0 m mS := (am_kp.mono kA rfl).tr (am_kp.si (am_kp.si (am_kp.si (am_kp.si am_kp.rf rfl) rfl) rfl) rfl)
    obtain ⟨q, b1, b2, b3, b4, kq⟩ := rrow_lp (m := mS) (T := T) hW (by rw [kS.row 44 rfl]) en hh (fun k hk => by rw [kS.row 50 rfl]; exact (eT k hk).1) (fun k hk => (eT k hk).2) rfl
    let mB : am_m := am_si (am_si q.2 10 0 8 0) 10 0 1 0
    have kB : am_kp [(10, 11), (44, 0), (10, 8), (10, 1)] [] 0 mS mB := (am_kp.mono kq rfl).tr (am_kp.si (am_kp.si am_kp.rf rfl) rfl)
    have eB : mB.1 44 0 = (rwS T had n (m.1 44 0) ((had + 2) / 3)).1 := b4
    have UA : ∀ u, u ≠ 0 → sm_U m mB u := fun u hu => (a6 u hu).tr ((sm_U.kp (WI := [(9, 15), (7, 1), (3, 1), (9, 17), (10, 0), (10, 13), (10, 11)]) (WL := []) (E := 0) (m := t.2.2) (m' := mS) (am_kp.si (am_kp.si (am_kp.si (am_kp.si (am_kp.si (am_kp.si (am_kp.si am_kp.rf rfl) rfl) rfl) rfl) rfl) rfl) rfl) rfl u).tr (sm_U.kp kB rfl u))
    have U0 : iv_U mB 0 (rwS T had n (m.1 44 0) ((had + 2) / 3)).1 := a4.of ((sm_U.kp (WI := [(9, 15), (7, 1), (3, 1), (9, 17), (10, 0), (10, 13), (10, 11)]) (WL := []) (E := 0) (m := t.2.2) (m' := mS) (am_kp.si (am_kp.si (am_kp.si (am_kp.si (am_kp.si (am_kp.si (am_kp.si am_kp.rf rfl) rfl) rfl) rfl) rfl) rfl) rfl) rfl 0).tr (sm_U.kp kB rfl 0))
    have kall : am_kp [(37, 0), (38, 0), (9, 15), (7, 1), (3, 1), (9, 17), (10, 0), (10, 13), (10, 11), (44, 0), (10, 8), (10, 1)] [] 0 m mB := (am_kp.mono kS rfl).tr (am_kp.mono kB rfl)
    refine ⟨nI (rwS T had n (m.1 44 0) ((had + 2) / 3)).2.1, am_si mA 9 0 17 0, mB, ?_, ?_, Inv0.tp (WI := [(37, 0), (38, 0), (9, 15), (7, 1), (3, 1), (9, 17), (10, 0), (10, 13), (10, 11), (44, 0), (10, 8), (10, 1)]) h.1 (am_kp.mono kall rfl) rfl UA (by rw [eB]; exact rwS_W hW en _) (by rw [eB]; exact U0) (by rw [eB]; exact rwS_out hn (by omega) _) (fun j hj => by rw [eB]; exact rwS_out hn (by omega) _) (hH.zero ?_ rfl) ?_ ?_, ?_, fun k h1 h2 => ?_⟩
    · show fn_X9_row m = _
      unfold fn_X9_row
      rw [e7, if_pos (nI_ne0 (by omega) (by omega)), a1, bd_s]
      unfold fn_X3_clear
      rw [bd_s, a2, told_ok (nI_pos' (by omega)), bd_s]
    · show fn_X10_row (am_si mA 9 0 17 0) = _
      unfold fn_X10_row
      have e : (am_si mA 9 0 17 0).1 10 0 13 = nI had := by
        show mA.1 10 0 13 = _
        rw [kA.fld 10 0 13 rfl]; exact e13
      rw [e, if_pos (nI_ne0 (by omega) (by omega))]
      show ((lp_X10_row_35 1000000 (nI had) 0 0 mS).bind _) = _
      rw [b1, bd_s, b2, lasting_ok (nI_pos' (by omega)), bd_s]
    · rw [kB.fld 3 0 1 rfl]
      rfl
    · unfold hT
      rw [kB.fld 7 0 1 rfl, kB.fld 10 0 13 rfl]
      exact ⟨rfl, 0, by decide, rfl, fun k hk => absurd hk (Nat.not_lt_zero _)⟩
    · show mB.1 9 0 15 = q.2.1 10 0 11
      rw [kB.fld 9 0 15 rfl, b3]
      show t.2.1 = _
      rw [a3]
    · show mB.1 9 0 17 = 0
      rw [kB.fld 9 0 17 rfl]
      rfl
    · rw [kall.row 42 rfl, kall.row 43 rfl]
      exact h.2.2 k h1 h2
end RW
