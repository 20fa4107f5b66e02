/-! the reference goes from TOKEN to TOKEN -/
/-- the TEXT -/
def rtx (T : Nat → Nat) (L : Nat) (M : am_m) : Prop := L ≤ 400 ∧ M.1 10 0 13 = nI L ∧ ∀ k, k < L → T k < 256 ∧ M.1 50 0 k = nI (T k)
/-- it stands at p -/
def rlx (T : Nat → Nat) (L : Nat) (M : am_m) (p : Nat) : Prop := rtx T L M ∧ p ≤ L ∧ M.1 10 0 14 = nI p ∧ M.1 10 0 15 = nI (lx_en T L p) ∧ M.1 10 0 16 = nI (lx_srt T L p) ∧ M.2.1 10 0 17 = lx_wth T L p
section RX
variable {T : Nat → Nat} {L p : Nat} {M M' : am_m}
abbrev lvNx : List (Nat × Nat) := [(10, 14), (10, 15), (10, 16)]
theorem rtx.kp {WI WL : List (Nat × Nat)} {E : Nat} (h : rtx T L M) (k : am_kp WI WL E M M') (hw : (am_hit WI 10 13 || am_hit WI 50 0) = false) : rtx T L M' := by
  rw [Bool.or_eq_false_iff] at hw
  refine ⟨h.1, by rw [k.fld 10 0 13 hw.1]; exact h.2.1, fun j hj => ⟨(h.2.2 j hj).1, ?_⟩⟩
  rw [k.row 50 (by rw [hw.2]; rfl)]; exact (h.2.2 j hj).2
theorem rlx.kp {WI WL : List (Nat × Nat)} {E : Nat} (h : rlx T L M p) (k : am_kp WI WL E M M') (hw : ((am_hit WI 10 13 || am_hit WI 50 0) || (am_hit WI 10 14 || (am_hit WI 10 15 || (am_hit WI 10 16 || am_hit WL 10 17)))) = false) : rlx T L M' p := by
  rw [Bool.or_eq_false_iff, Bool.or_eq_false_iff (x := am_hit WI 10 14), Bool.or_eq_false_iff (x := am_hit WI 10 15), Bool.or_eq_false_iff (x := am_hit WI 10 16)] at hw
  obtain ⟨w0, w1, w2, w3, w4⟩ := hw
  obtain ⟨h0, h1, h2, h3, h4, h5⟩ := h
  exact ⟨h0.kp k w0, h1, by rw [k.fld 10 0 14 w1]; exact h2, by rw [k.fld 10 0 15 w2]; exact h3, by rw [k.fld 10 0 16 w3]; exact h4, by rw [k.fldL 10 0 17 w4]; exact h5⟩
theorem small_ok {t : Nat} (ht : t < 256) : fn_X10_isSmall (nI t) M = some (if isL t then 1 else 0) := by
  unfold fn_X10_isSmall
  by_cases c1 : t < 97
  · rw [if_pos (show nI t < (97 : Int32) from (nI_ltI (b := 97) (by omega) (by decide)).mpr c1), show isL t = false from decide_eq_false (by omega)]
    rfl
  rw [if_neg (show ¬ nI t < (97 : Int32) from fun z => c1 ((nI_ltI (b := 97) (by omega) (by decide)).mp z))]
  by_cases c2 : 122 < t
  · rw [if_pos (show (122 : Int32) < nI t from (nI_ltI (a := 122) (by decide) (by omega)).mpr c2), show isL t = false from decide_eq_false (by omega)]
    rfl
  · rw [if_neg (show ¬ (122 : Int32) < nI t from fun z => c2 ((nI_ltI (a := 122) (by decide) (by omega)).mp z)), show isL t = true from decide_eq_true (by omega)]
    rfl
theorem digit_ok {t : Nat} (ht : t < 256) : fn_X10_isDigit (nI t) M = some (if isD t then 1 else 0) := by
  unfold fn_X10_isDigit
  by_cases c1 : t < 48
  · rw [if_pos (show nI t < (48 : Int32) from (nI_ltI (b := 48) (by omega) (by decide)).mpr c1), show isD t = false from decide_eq_false (by omega)]
    rfl
  rw [if_neg (show ¬ nI t < (48 : Int32) from fun z => c1 ((nI_ltI (b := 48) (by omega) (by decide)).mp z))]
  by_cases c2 : 57 < t
  · rw [if_pos (show (57 : Int32) < nI t from (nI_ltI (a := 57) (by decide) (by omega)).mpr c2), show isD t = false from decide_eq_false (by omega)]
    rfl
  · rw [if_neg (show ¬ (57 : Int32) < nI t from fun z => c2 ((nI_ltI (a := 57) (by decide) (by omega)).mp z)), show isD t = true from decide_eq_true (by omega)]
    rfl
theorem rsk_ok : ∀ (d q N : Nat) (M : am_m), L - q ≤ d → d < N → rtx T L M → q ≤ L → M.1 10 0 14 = nI q → ∃ M', lp_X10_next_8 N M = some M' ∧ M'.1 10 0 14 = nI (lx_sk T L q) ∧ am_kp [(10, 14)] [] 0 M M'
  | d, q, 0, M, _, hN, _, _, _ => by omega
  | d, q, N + 1, M, hd, hN, hx, hq, h14 => by
    have hL := hx.1
    rw [lp_X10_next_8, hx.2.1, h14]
    by_cases c1 : L ≤ q
    · rw [if_pos (show nI L ≤ nI q from nI_le c1 (by omega))]
      refine ⟨M, rfl, ?_, am_kp.rf⟩
      rw [h14, show lx_sk T L q = q from rE_stop (Or.inl c1)]
    rw [if_neg (nI_ge (a := q) (b := L) (by omega) (by omega)), ck_in (by omega) (by decide), nI_clamp (by omega), (hx.2.2 q (by omega)).2]
    have ht := (hx.2.2 q (by omega)).1
    by_cases c2 : T q = 32
    · rw [if_neg (show ¬ nI (T q) ≠ (32 : Int32) from fun z => z (by rw [c2]; rfl)), nI_1]
      cases d with
      | zero => omega
      | succ d =>
        have k1 : am_kp [(10, 14)] [] 0 M (am_si M 10 0 14 (nI (q + 1))) := am_kp.si am_kp.rf rfl
        obtain ⟨M', e1, e2, e3⟩ := rsk_ok d (q + 1) N _ (by omega) (by omega) (hx.kp k1 rfl) (by omega) rfl
        refine ⟨M', e1, ?_, k1.tr e3⟩
        rw [e2]
        unfold lx_sk
        rw [rE_step (p := q) (by omega) (decide_eq_true c2)]
    · rw [if_pos (show nI (T q) ≠ (32 : Int32) from nI_ne (b := 32) (by omega) (by decide) c2)]
      refine ⟨M, rfl, ?_, am_kp.rf⟩
      rw [h14, show lx_sk T L q = q from rE_stop (Or.inr (decide_eq_false c2))]
theorem rwd_ok : ∀ (d q N : Nat) (M : am_m), L - q ≤ d → d < N → rtx T L M → p ≤ q → q ≤ L → M.1 10 0 14 = nI p → M.1 10 0 15 = nI q → M.1 10 0 16 = 1 → M.2.1 10 0 17 = lx_ew T p (q - p) → ∃ M', lp_X10_next_149 N M = some M' ∧ M'.1 10 0 15 = nI (rE T L isL q) ∧ M'.2.1 10 0 17 = lx_ew T p (rE T L isL q - p) ∧ am_kp [(10, 15)] [(10, 17)] 0 M M'
  | d, q, 0, M, _, hN, _, _, _, _, _, _, _ => by omega
  | d, q, N + 1, M, hd, hN, hx, hpq, hq, h14, h15, h16, h17 => by
    have hL := hx.1
    rw [lp_X10_next_149, h16, if_neg (show ¬ (1 : Int32) ≠ 1 from fun z => z rfl), hx.2.1, h15]
    by_cases c1 : L ≤ q
    · rw [if_pos (show nI L ≤ nI q from nI_le c1 (by omega))]
      have e : rE T L isL q = q := rE_stop (Or.inl c1)
      rw [e]
      exact ⟨M, rfl, h15, h17, am_kp.rf⟩
    rw [if_neg (nI_ge (a := q) (b := L) (by omega) (by omega)), ck_in (by omega) (by decide), nI_clamp (by omega), (hx.2.2 q (by omega)).2]
    have ht := (hx.2.2 q (by omega)).1
    rw [small_ok ht, bd_s]
    cases c2 : isL (T q) with
    | false =>
      rw [if_neg (show ¬ false = true by decide), if_pos rfl]
      have e : rE T L isL q = q := rE_stop (Or.inr c2)
      rw [e]
      exact ⟨M, rfl, h15, h17, am_kp.rf⟩
    | true =>
      rw [if_pos rfl, if_neg (show ¬ (1 : Int32) = 0 by decide), h14, pk_sub hpq, h17]
      have st : (if (10 : Int32) ≤ nI (q - p) then some (-1 : Int64) else am_ck (nI q) 400 (some ((lx_ew T p (q - p) * (32 : Int64) + (nI (T q)).toInt64) - (96 : Int64)))) = some (lx_ew T p (q + 1 - p)) := by
        rw [show q + 1 - p = (q - p) + 1 by omega, lx_ew, show p + (q - p) = q by omega]
        by_cases c3 : q - p < 10
        · rw [if_neg (show ¬ (10 : Int32) ≤ nI (q - p) from nI_ge (b := 10) c3 (by decide)), if_pos c3, ck_in (by omega) (by decide)]
        · rw [if_pos (show (10 : Int32) ≤ nI (q - p) from nI_le (a := 10) (by omega) (by omega)), if_neg c3]
      rw [st, bd_s, nI_1]
      cases d with
      | zero => omega
      | succ d =>
        have k1 : am_kp [(10, 15)] [(10, 17)] 0 M (am_si (am_sg M 10 0 17 (lx_ew T p (q + 1 - p))) 10 0 15 (nI (q + 1))) := am_kp.si (am_kp.sg am_kp.rf rfl) rfl
        obtain ⟨M', e1, e2, e3, e4⟩ := rwd_ok d (q + 1) N _ (by omega) (by omega) (hx.kp k1 rfl) (by omega) (by omega) (by rw [k1.fld 10 0 14 rfl]; exact h14) rfl (by rw [k1.fld 10 0 16 rfl]; exact h16) rfl
        rw [rE_step (p := q) (by omega) c2]
        exact ⟨M', e1, e2, e3, k1.tr e4⟩
theorem le_lN {a b : Nat} (ha : a < 2 ^ 63) (hb : b < 2 ^ 63) : lN a ≤ lN b ↔ a ≤ b := by
  rw [fa_le64, pf_lI ha, pf_lI hb]
  omega
theorem rdg_ok : ∀ (d q N : Nat) (M : am_m), L - q ≤ d → d < N → rtx T L M → p ≤ q → q ≤ L → (∀ i, p ≤ i → i < q → isD (T i) = true) → M.1 10 0 15 = nI q → M.1 10 0 16 = 2 → M.2.1 10 0 17 = lN (lx_dn T p (q - p)) → ∃ M', lp_X10_next_243 N M = some M' ∧ M'.1 10 0 15 = nI (rE T L isD q) ∧ M'.2.1 10 0 17 = lN (lx_dn T p (rE T L isD q - p)) ∧ am_kp [(10, 15)] [(10, 17)] 0 M M'
  | d, q, 0, M, _, hN, _, _, _, _, _, _, _ => by omega
  | d, q, N + 1, M, hd, hN, hx, hpq, hq, hall, h15, h16, h17 => by
    have hL := hx.1
    rw [lp_X10_next_243, h16, if_neg (show ¬ (2 : Int32) ≠ 2 from fun z => z rfl), hx.2.1, h15]
    by_cases c1 : L ≤ q
    · rw [if_pos (show nI L ≤ nI q from nI_le c1 (by omega))]
      have e : rE T L isD q = q := rE_stop (Or.inl c1)
      rw [e]
      exact ⟨M, rfl, h15, h17, am_kp.rf⟩
    rw [if_neg (nI_ge (a := q) (b := L) (by omega) (by omega)), ck_in (by omega) (by decide), nI_clamp (by omega), (hx.2.2 q (by omega)).2]
    have ht := (hx.2.2 q (by omega)).1
    rw [digit_ok ht, bd_s]
    cases c2 : isD (T q) with
    | false =>
      rw [if_neg (show ¬ false = true by decide), if_pos rfl]
      have e : rE T L isD q = q := rE_stop (Or.inr c2)
      rw [e]
      exact ⟨M, rfl, h15, h17, am_kp.rf⟩
    | true =>
      rw [if_pos rfl, if_neg (show ¬ (1 : Int32) = 0 by decide), h17]
      have hd9 := (dn_num (T := T) (p := p) (q - p) (fun i hi => hall (p + i) (by omega) (by omega))).2
      have hb : 48 ≤ T q ∧ T q ≤ 57 := of_decide_eq_true c2
      have st : (if (lg_cmp (lN (lx_dn T p (q - p))) (1000000 : Int64)) ≤ 0 then am_ck (nI q) 400 (some ((lN (lx_dn T p (q - p)) * (10 : Int64) + (nI (T q)).toInt64) - (48 : Int64))) else some (lN (lx_dn T p (q - p)))) = some (lN (lx_dn T p (q + 1 - p))) := by
        rw [show q + 1 - p = (q - p) + 1 by omega, lx_dn, show p + (q - p) = q by omega, show (1000000 : Int64) = lN 1000000 from rfl, if_iff ((lg_cmp_le _ _).trans (le_lN (b := 1000000) (show lx_dn T p (q - p) < 2 ^ 63 by omega) (by decide)))]
        by_cases c3 : 1000000 < lx_dn T p (q - p)
        · rw [if_neg (by omega), if_pos c3]
        · rw [if_pos (by omega), if_neg c3, ck_in (by omega) (by decide), nI_l (by omega), show (10 : Int64) = lN 10 from rfl, show (48 : Int64) = lN 48 from rfl, lN_mul, lN_add, lN_sub (by omega)]
          rw [show lx_dn T p (q - p) * 10 + T q - 48 = lx_dn T p (q - p) * 10 + (T q - 48) by omega]
      rw [st, bd_s, nI_1]
      cases d with
      | zero => omega
      | succ d =>
        have k1 : am_kp [(10, 15)] [(10, 17)] 0 M (am_si (am_sg M 10 0 17 (lN (lx_dn T p (q + 1 - p)))) 10 0 15 (nI (q + 1))) := am_kp.si (am_kp.sg am_kp.rf rfl) rfl
        obtain ⟨M', e1, e2, e3, e4⟩ := rdg_ok d (q + 1) N _ (by omega) (by omega) (hx.kp k1 rfl) (by omega) (by omega) (fun i h1 h2 => by by_cases e : i = q; rw [e]; exact c2; exact hall i h1 (by omega)) rfl (by rw [k1.fld 10 0 16 rfl]; exact h16) rfl
        rw [rE_step (p := q) (by omega) c2]
        exact ⟨M', e1, e2, e3, k1.tr e4⟩
end RX
section RY
variable {T : Nat → Nat} {L p : Nat} {M M' : am_m}
/-- from the end of a TOKEN to the next -/
theorem rnext0 {e : Nat} (hx : rtx T L M) (he : e ≤ L) (h15 : M.1 10 0 15 = nI e) : ∃ M', fn_X10_next M = some M' ∧ rlx T L M' (lx_sk T L e) ∧ am_kp lvNx [(10, 17)] 0 M M' := by
  have hL := hx.1
  have k0 : am_kp lvNx [(10, 17)] 0 M (am_si M 10 0 14 (M.1 10 0 15)) := am_kp.si am_kp.rf rfl
  obtain ⟨M1, a1, a2, a3⟩ := rsk_ok (T := T) (L := L) 400 e 1000000 (am_si M 10 0 14 (M.1 10 0 15)) (by omega) (by decide) (hx.kp k0 rfl) he h15
  have k1 : am_kp lvNx [(10, 17)] 0 M M1 := k0.tr (am_kp.mono a3 rfl)
  have hx1 : rtx T L M1 := hx.kp k1 rfl
  have sr := sk_rng (T := T) he
  generalize lx_sk T L e = p at a2 sr ⊢
  have hpL : p ≤ L := sr.2
  have id1 : ∀ M3 : am_m, M3.1 10 0 16 ≠ 1 → lp_X10_next_149 1000000 M3 = some M3 := fun M3 h => by rw [lp_X10_next_149, if_pos h]
  have id2 : ∀ M3 : am_m, M3.1 10 0 16 ≠ 2 → lp_X10_next_243 1000000 M3 = some M3 := fun M3 h => by rw [lp_X10_next_243, if_pos h]
  unfold fn_X10_next
  rw [a1, bd_s, a2, hx1.2.1]
  by_cases c1 : L ≤ p
  · have ep : p = L := by omega
    subst ep
    let M3 : am_m := am_si (am_sg (am_si M1 10 0 15 (nI p)) 10 0 17 0) 10 0 16 0
    have k3 : am_kp lvNx [(10, 17)] 0 M1 M3 := am_kp.si (am_kp.sg (am_kp.si am_kp.rf rfl) rfl) rfl
    rw [if_neg (show ¬ nI p ≠ nI p from fun z => z rfl), bd_s, if_pos (by decide), bd_s, id1 M3 (by show (0 : Int32) ≠ 1; decide), bd_s, id2 M3 (by show (0 : Int32) ≠ 2; decide), bd_s]
    refine ⟨M3, rfl, ⟨hx1.kp k3 rfl, Nat.le_refl _, a2, ?_, ?_, ?_⟩, k1.tr k3⟩
    · rw [en_L]; rfl
    · unfold lx_srt; rw [if_pos (Nat.le_refl _)]; rfl
    · unfold lx_wth; rw [if_pos (Nat.le_refl _)]; rfl
  have hp : p < L := by omega
  have ht := (hx1.2.2 p hp).1
  have ht2 := (hx1.2.2 p hp).2
  rw [if_pos (show nI p ≠ nI L from nI_ne (by omega) (by omega) (by omega)), ck_in (by omega) (by decide), nI_clamp (by omega), ht2, small_ok ht, bd_s]
  cases cl : isL (T p) with
  | true =>
    let M3 : am_m := am_si (am_sg (am_si M1 10 0 15 (nI p)) 10 0 17 0) 10 0 16 1
    have k3 : am_kp lvNx [(10, 17)] 0 M1 M3 := am_kp.si (am_kp.sg (am_kp.si am_kp.rf rfl) rfl) rfl
    obtain ⟨M4, b1, b2, b3, b4⟩ := rwd_ok (T := T) (L := L) (p := p) 400 p 1000000 M3 (by omega) (by decide) (hx1.kp k3 rfl) (Nat.le_refl _) hpL a2 rfl rfl (by rw [Nat.sub_self]; rfl)
    rw [if_pos rfl, if_neg (show ¬ (1 : Int32) = 0 by decide), bd_s, if_pos (show (1 : Int32) ≠ 3 by decide), bd_s]
    show ∃ M', ((lp_X10_next_149 1000000 M3).bind fun q29 => (lp_X10_next_243 1000000 q29).bind fun q41 => some q41) = some M' ∧ _
    rw [b1, bd_s, id2 M4 (by rw [b4.fld 10 0 16 rfl]; show (1 : Int32) ≠ 2; decide), bd_s]
    have k4 : am_kp lvNx [(10, 17)] 0 M3 M4 := am_kp.mono b4 rfl
    have en : lx_en T L p = rE T L isL p := by unfold lx_en; rw [if_neg c1, cl, if_pos rfl, rE_step hp cl]
    refine ⟨M4, rfl, ⟨hx1.kp (k3.tr k4) rfl, hpL, by rw [b4.fld 10 0 14 rfl]; exact a2, by rw [b2, en], ?_, ?_⟩, k1.tr (k3.tr k4)⟩
    · rw [b4.fld 10 0 16 rfl]
      unfold lx_srt; rw [if_neg c1, cl, if_pos rfl]; rfl
    · rw [b3]
      unfold lx_wth; rw [if_neg c1, cl, if_pos rfl, en]
  | false =>
    rw [if_neg (show ¬ false = true by decide), if_pos rfl, ck_in (by omega) (by decide), digit_ok ht, bd_s]
    cases cd : isD (T p) with
    | true =>
      let M3 : am_m := am_si (am_sg (am_si M1 10 0 15 (nI p)) 10 0 17 0) 10 0 16 2
      have k3 : am_kp lvNx [(10, 17)] 0 M1 M3 := am_kp.si (am_kp.sg (am_kp.si am_kp.rf rfl) rfl) rfl
      obtain ⟨M4, b1, b2, b3, b4⟩ := rdg_ok (T := T) (L := L) (p := p) 400 p 1000000 M3 (by omega) (by decide) (hx1.kp k3 rfl) (Nat.le_refl _) hpL (fun i h1 h2 => by omega) rfl rfl (by rw [Nat.sub_self]; rfl)
      rw [if_pos rfl, if_neg (show ¬ (1 : Int32) = 0 by decide), bd_s, if_pos (show (2 : Int32) ≠ 3 by decide), bd_s]
      show ∃ M', ((lp_X10_next_149 1000000 M3).bind fun q29 => (lp_X10_next_243 1000000 q29).bind fun q41 => some q41) = some M' ∧ _
      rw [id1 M3 (by show (2 : Int32) ≠ 1; decide), bd_s, b1, bd_s]
      have k4 : am_kp lvNx [(10, 17)] 0 M3 M4 := am_kp.mono b4 rfl
      have en : lx_en T L p = rE T L isD p := by unfold lx_en; rw [if_neg c1, cl, if_neg (by decide), cd, if_pos rfl, rE_step hp cd]
      refine ⟨M4, rfl, ⟨hx1.kp (k3.tr k4) rfl, hpL, by rw [b4.fld 10 0 14 rfl]; exact a2, by rw [b2, en], ?_, ?_⟩, k1.tr (k3.tr k4)⟩
      · rw [b4.fld 10 0 16 rfl]
        unfold lx_srt; rw [if_neg c1, cl, if_neg (by decide), cd, if_pos rfl]; rfl
      · rw [b3]
        unfold lx_wth; rw [if_neg c1, cl, if_neg (by decide), cd, if_pos rfl, en]
    | false =>
      let M3 : am_m := am_si (am_sg (am_si (am_sg (am_si M1 10 0 15 (nI p)) 10 0 17 0) 10 0 16 3) 10 0 17 (nI (T p)).toInt64) 10 0 15 (nI (p + 1))
      have k3 : am_kp lvNx [(10, 17)] 0 M1 M3 := am_kp.si (am_kp.sg (am_kp.si (am_kp.sg (am_kp.si am_kp.rf rfl) rfl) rfl) rfl) rfl
      rw [if_neg (show ¬ false = true by decide), if_pos rfl, bd_s, if_neg (show ¬ (3 : Int32) ≠ 3 from fun z => z rfl), ck_in (by omega) (by decide), nI_1, bd_s]
      show ∃ M', ((lp_X10_next_149 1000000 M3).bind fun q29 => (lp_X10_next_243 1000000 q29).bind fun q41 => some q41) = some M' ∧ _
      rw [id1 M3 (by show (3 : Int32) ≠ 1; decide), bd_s, id2 M3 (by show (3 : Int32) ≠ 2; decide), bd_s]
      refine ⟨M3, rfl, ⟨hx1.kp k3 rfl, hpL, a2, ?_, ?_, ?_⟩, k1.tr k3⟩
      · unfold lx_en; rw [if_neg c1, cl, if_neg (by decide), cd, if_neg (by decide)]; rfl
      · unfold lx_srt; rw [if_neg c1, cl, if_neg (by decide), cd, if_neg (by decide)]; rfl
      · unfold lx_wth; rw [if_neg c1, cl, if_neg (by decide), cd, if_neg (by decide)]; rfl
theorem rnx_ok (h : rlx T L M p) : ∃ M', fn_X10_next M = some M' ∧ rlx T L M' (lx_nx T L p) ∧ am_kp lvNx [(10, 17)] 0 M M' := rnext0 h.1 (en_rng h.2.1).2.1 h.2.2.2.1
/-- which WORD stands there -/
theorem rword_ok {j : Nat} (h : rlx T L M p) (hj : j < 28) : fn_X10_isWord (lN (lx_cd (lx_W j).reverse)) M = some (if lx_kd T L p = 259 + j then 1 else 0) := by
  obtain ⟨hx, hp, -, -, h16, h17⟩ := h
  unfold fn_X10_isWord
  rw [h16, h17]
  unfold lx_srt lx_wth lx_kd
  by_cases c1 : L ≤ p
  · rw [if_pos c1, if_pos c1, if_pos c1, if_pos (show nI 0 ≠ (1 : Int32) by decide), if_neg (by omega)]
  rw [if_neg c1, if_neg c1, if_neg c1]
  have ht := (hx.2.2 p (by omega)).1
  cases cl : isL (T p) with
  | true =>
    rw [if_pos rfl, if_pos rfl, if_pos rfl, if_neg (show ¬ nI 1 ≠ (1 : Int32) from fun z => z rfl)]
    have en : lx_en T L p = rE T L isL p := by unfold lx_en; rw [if_neg c1, cl, if_pos rfl, rE_step (by omega) cl]
    have all : ∀ i, i < lx_en T L p - p → isL (T (p + i)) = true := fun i hi => rE_in (L := L) (p := p) (by omega) (by rw [← en]; omega)
    have key := (ew_iff (T := T) (p := p) hj all).trans (wk_iff (t := lx_tx T p (lx_en T L p - p)) hj).symm
    by_cases c2 : lx_wk (lx_tx T p (lx_en T L p - p)) = 259 + j
    · rw [if_pos c2, if_neg (fun z => z ((lg_cmp_eq _ _).mpr (key.mpr c2)))]
    · rw [if_neg c2, if_pos (fun z => c2 (key.mp ((lg_cmp_eq _ _).mp z)))]
  | false =>
    rw [if_neg (show ¬ false = true by decide), if_neg (show ¬ false = true by decide), if_neg (show ¬ false = true by decide)]
    cases cd : isD (T p) with
    | true => rw [if_pos rfl, if_pos rfl, if_pos rfl, if_pos (show nI 2 ≠ (1 : Int32) by decide), if_neg (by omega)]
    | false => rw [if_neg (show ¬ false = true by decide), if_neg (show ¬ false = true by decide), if_neg (show ¬ false = true by decide), if_pos (show nI 3 ≠ (1 : Int32) by decide), if_neg (by omega)]
/-- which sign -/
theorem rsign_ok {c : Nat} (h : rlx T L M p) (hc : c < 256) (h1 : isL c = false) (h2 : isD c = false) : fn_X10_isSign (nI c) M = some (if lx_kd T L p = c then 1 else 0) := by
  obtain ⟨hx, hp, -, -, h16, h17⟩ := h
  unfold fn_X10_isSign
  rw [h16, h17]
  have wr := wk_rng (lx_tx T p (lx_en T L p - p))
  unfold lx_srt lx_wth lx_kd
  by_cases c1 : L ≤ p
  · rw [if_pos c1, if_pos c1, if_pos c1, if_pos (show nI 0 ≠ (3 : Int32) by decide), if_neg (by omega)]
  rw [if_neg c1, if_neg c1, if_neg c1]
  have ht := (hx.2.2 p (by omega)).1
  cases cl : isL (T p) with
  | true => rw [if_pos rfl, if_pos rfl, if_pos rfl, if_pos (show nI 1 ≠ (3 : Int32) by decide), if_neg (by omega)]
  | false =>
    rw [if_neg (show ¬ false = true by decide), if_neg (show ¬ false = true by decide), if_neg (show ¬ false = true by decide)]
    cases cd : isD (T p) with
    | true => rw [if_pos rfl, if_pos rfl, if_pos rfl, if_pos (show nI 2 ≠ (3 : Int32) by decide), if_neg (by omega)]
    | false =>
      rw [if_neg (show ¬ false = true by decide), if_neg (show ¬ false = true by decide), if_neg (show ¬ false = true by decide), if_neg (show ¬ nI 3 ≠ (3 : Int32) from fun z => z rfl)]
      by_cases c2 : T p = c
      · rw [if_pos c2, if_neg (fun z => z ((lg_cmp_eq _ _).mpr (by rw [c2])))]
      · rw [if_neg c2, if_pos (fun z => c2 ?_)]
        have := (lg_cmp_eq _ _).mp z
        rw [fa_wide_eq] at this
        exact (nI_eq (by omega) (by omega)).mp this
/-- is it a number; which -/
theorem rnum_ok (h : rlx T L M p) : (M.1 10 0 16 = 2 ↔ lx_kd T L p = 256) ∧ (lx_kd T L p = 256 → ∃ x, M.2.1 10 0 17 = lN x ∧ x ≤ 10000009 ∧ lx_vl T L p = min 1001 x) := by
  obtain ⟨hx, hp, -, -, h16, h17⟩ := h
  rw [h16, h17]
  have wr := wk_rng (lx_tx T p (lx_en T L p - p))
  unfold lx_srt lx_wth lx_kd lx_vl
  by_cases c1 : L ≤ p
  · rw [if_pos c1, if_pos c1, if_pos c1]
    exact ⟨⟨fun z => absurd z (by decide), fun z => by omega⟩, fun z => by omega⟩
  rw [if_neg c1, if_neg c1, if_neg c1, if_neg c1]
  have ht := (hx.2.2 p (by omega)).1
  cases cl : isL (T p) with
  | true =>
    rw [if_pos rfl, if_pos rfl, if_pos rfl, if_pos rfl]
    exact ⟨⟨fun z => absurd z (by decide), fun z => by omega⟩, fun z => by omega⟩
  | false =>
    rw [if_neg (show ¬ false = true by decide), if_neg (show ¬ false = true by decide), if_neg (show ¬ false = true by decide), if_neg (show ¬ false = true by decide)]
    cases cd : isD (T p) with
    | true =>
      rw [if_pos rfl, if_pos rfl, if_pos rfl, if_pos rfl]
      have en : lx_en T L p = rE T L isD p := by unfold lx_en; rw [if_neg c1, cl, if_neg (by decide), cd, if_pos rfl, rE_step (by omega) cd]
      obtain ⟨q1, q2⟩ := dn_num (T := T) (p := p) (lx_en T L p - p) (fun i hi => rE_in (L := L) (p := p) (by omega) (by rw [← en]; omega))
      exact ⟨⟨fun _ => rfl, fun _ => rfl⟩, fun _ => ⟨_, rfl, q2, q1⟩⟩
    | false =>
      rw [if_neg (show ¬ false = true by decide), if_neg (show ¬ false = true by decide), if_neg (show ¬ false = true by decide), if_neg (show ¬ false = true by decide)]
      exact ⟨⟨fun z => absurd z (by decide), fun z => by omega⟩, fun z => by omega⟩
end RY
