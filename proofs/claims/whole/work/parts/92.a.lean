/-! the reference's numbers and words are the pure reader's -/
section RR
variable {T : Nat → Nat} {L p : Nat} {M M' : am_m} {P : rcd} {c : rcd} {s b l lv dep aw : Nat} {ord : Bool}
def rlf (T : Nat → Nat) (L : Nat) (ord : Bool) (M : am_m) (P : rcd) (s : Nat) (c : rcd) (b dep : Nat) (r : Nat ⊕ pst) : Prop := match r with
  | .inr st => ∃ M' c', fn_X10_readPart M = some (3, M') ∧ rmm T L ord M' P s c' (b + 1) st.1 st.2.1 dep ∧ (∀ k, k < b → c' k = c k) ∧ rsg ord c' b (b + 1) st.2.2.2.1 st.2.2.2.2
  | .inl q => ∃ M', fn_X10_readPart M = some (3, M') ∧ rbad M' q
theorem rleaf_ok (h : rmm T L ord M P s c b p lv dep) (hk : lx_kd T L p ≠ 91) (hlv : lv ≤ 50) (hv : rvl P s b) (hs : s ≤ p) (hb : b + pend P s ≤ p) : rlf T L ord M P s c b dep (sp_leaf T L ord p lv aw) := by
  have hpL := h.1.2.1
  have hL := h.1.1.1
  have pin : lx_kd T L p ≠ 257 → p < L := kd_in hpL
  have e := readPart_eq h hk
  have same : ∀ o x : Nat, ∀ k, k < b → rcu c b (o, x) k = c k := fun o x k hk => rcu_ne (by omega)
  -- a failure
  have bad : ∀ x y z : Int32, (x = 0 ∨ 50 ≤ lv) → fn_X10_readPart M = (fn_X10_leaf x y z M).bind (rtl (if ord then fw ow7 (lx_kd T L p) 7 else fw (fun i => 15 + i) (lx_kd T L p) 8)) → ∃ M', fn_X10_readPart M = some (3, M') ∧ rbad M' p := fun x y z hx he => by
    obtain ⟨M1, f1, f2⟩ := leaf0 (x := x) (y := y) (z := z) h hx hlv hv (by omega) (by omega)
    exact ⟨M1, by rw [he, f1]; exact rtl_bad f2, f2⟩
  unfold sp_leaf
  by_cases c1 : 50 ≤ lv
  · rw [if_pos c1]
    exact bad _ _ _ (Or.inr c1) e
  rw [if_neg c1]
  by_cases c2 : lx_kd T L p = 256
  · have q9 : (if ord then fw ow7 (lx_kd T L p) 7 else fw (fun i => 15 + i) (lx_kd T L p) 8) = -1 := by
      cases ord with
      | false => rw [if_neg (by decide)]; exact fw_no 8 (fun i hi => by omega)
      | true => rw [if_pos rfl]; exact fw_no 7 (fun i hi => by omega)
    rw [if_pos c2]
    rw [q9, if_neg (show ¬ (-1 : Int32) ≠ -1 from fun z => z rfl), if_neg (show ¬ (-1 : Int32) ≠ -1 from fun z => z rfl)] at e
    by_cases c3 : lx_vl T L p ≤ 1000
    · rw [if_pos ⟨c2, c3⟩, if_pos ⟨c2, c3⟩] at e
      rw [if_pos c3]
      have := pin (by omega)
      obtain ⟨M1, f1, f2⟩ := leaf1 (o := 0) (a := lx_vl T L p) h (by omega) (by omega)
      exact ⟨M1, rcu c b (0, lx_vl T L p), by rw [e, show fn_X10_leaf 1 0 (nI (lx_vl T L p)) M = some M1 from f1]; exact rtl_small (by decide), f2, same _ _, rsg_nm c3⟩
    · rw [if_neg c3]
      rw [if_neg (fun z => c3 z.2)] at e
      rw [← q9] at e
      exact bad _ _ _ (Or.inl rfl) e
  rw [if_neg c2]
  have nn : ¬ (lx_kd T L p = 256 ∧ lx_vl T L p ≤ 1000) := fun z => c2 z.1
  rw [if_neg nn, if_neg nn] at e
  cases ord with
  | false =>
    rw [if_pos rfl]
    rw [if_neg (show ¬ false = true by decide)] at e bad
    by_cases c3 : 274 ≤ lx_kd T L p ∧ lx_kd T L p ≤ 281
    · rw [if_pos c3]
      have q9 : fw (fun i => 15 + i) (lx_kd T L p) 8 = nI (lx_kd T L p - 273) := by
        have := fw8 (lx_kd T L p - 274) (by omega)
        rw [show 274 + (lx_kd T L p - 274) = lx_kd T L p by omega, show lx_kd T L p - 274 + 1 = lx_kd T L p - 273 by omega] at this
        exact this
      rw [q9, if_pos (nI_m1 (by omega)), if_pos (nI_m1 (by omega))] at e
      have := pin (by omega)
      obtain ⟨M1, f1, f2⟩ := leaf1 (o := lx_kd T L p - 273) (a := 0) h (by omega) (by omega)
      refine ⟨M1, rcu c b (lx_kd T L p - 273, 0), ?_, f2, same _ _, rsg_wd ?_ ?_⟩
      · rw [e, show fn_X10_leaf 1 (nI (lx_kd T L p - 273)) 0 M = some M1 from f1]
        show rtl _ M1 = _
        unfold rtl
        rw [if_pos (show M1.1 10 0 20 = 0 from f2.2.2.2.2.2.1)]
      · exact ⟨by omega, Nat.zero_le _, fun _ => by show lx_kd T L p - 273 ≤ 8; omega⟩
      · unfold rc_dec
        rw [if_neg (by omega), if_pos (by omega)]
        show (1, lx_kd T L p - 273 - 1) = _
        rw [show lx_kd T L p - 273 - 1 = lx_kd T L p - 274 by omega]
    · rw [if_neg c3]
      have q9 : fw (fun i => 15 + i) (lx_kd T L p) 8 = -1 := fw_no 8 (fun i hi => by omega)
      have e2 := e
      rw [q9, if_neg (show ¬ (-1 : Int32) ≠ -1 from fun z => z rfl), if_neg (show ¬ (-1 : Int32) ≠ -1 from fun z => z rfl), ← q9] at e2
      exact bad _ _ _ (Or.inl rfl) e2
  | true =>
    rw [if_neg (show ¬ true = false by decide)]
    rw [if_pos rfl] at e bad
    by_cases c3 : lx_kd T L p = 278 ∨ lx_kd T L p = 286
    · rw [if_pos c3]
      obtain ⟨o, ho, q9, hix⟩ : ∃ o, (o = 6 ∨ o = 7) ∧ fw ow7 (lx_kd T L p) 7 = nI o ∧ (∀ x, rc_dec true o x = (1, (if lx_kd T L p = 286 then 12 else 5) + x)) := by
        rcases c3 with z | z
        · exact ⟨6, Or.inl rfl, by rw [z]; exact fw7 5 (by decide), fun x => by rw [z, if_neg (by decide)]; rfl⟩
        · exact ⟨7, Or.inr rfl, by rw [z]; exact fw7 6 (by decide), fun x => by rw [z, if_pos rfl]; rfl⟩
      rw [q9, if_pos (nI_m1 (by omega)), if_pos (nI_m1 (by omega))] at e
      have := pin (by omega)
      obtain ⟨M1, f1, f2⟩ := leaf1 (o := o) (a := 0) h (by omega) (by omega)
      have hn := nx_in hpL (show lx_kd T L p ≠ 257 by omega)
      have g := rfed_ok ho f2 (by omega) (fun i hi => ⟨(hv i hi).1, (hv i hi).2.1, fun z => Nat.lt_succ_of_lt ((hv i hi).2.2 z)⟩) (by omega) (by omega)
      have e1 : fn_X10_readPart M = rtl (nI o) M1 := by rw [e, show fn_X10_leaf 1 (nI o) 0 M = some M1 from f1]; rfl
      by_cases c4 : lx_kd T L (lx_nx T L p) = 256 ∧ lx_vl T L (lx_nx T L p) < 7
      · rw [if_pos c4] at g ⊢
        obtain ⟨M2, g1, g2⟩ := g
        exact ⟨M2, rcu c b (o, lx_vl T L (lx_nx T L p)), by rw [e1, g1], g2, same _ _, rsg_wd ⟨by omega, by omega, fun _ => ⟨by omega, fun _ => by omega⟩⟩ (hix _)⟩
      · rw [if_neg c4] at g ⊢
        obtain ⟨M2, g1, g2⟩ := g
        exact ⟨M2, by rw [e1, g1], g2⟩
    rw [if_neg c3]
    -- the other words
    have word : ∀ j, j < 5 → lx_kd T L p = 259 + ow7 j → rlf T L true M P s c b dep (sp_wd T L p lv aw j) := by
      intro j hj hkj
      have q9 : fw ow7 (lx_kd T L p) 7 = nI (j + 1) := by rw [hkj]; exact fw7 j (by omega)
      rw [q9, if_pos (nI_m1 (by omega)), if_pos (nI_m1 (by omega))] at e
      have := pin (by omega)
      obtain ⟨M1, f1, f2⟩ := leaf1 (o := j + 1) (a := 0) h (by omega) (by omega)
      refine ⟨M1, rcu c b (j + 1, 0), ?_, f2, same _ _, rsg_wd ⟨by omega, Nat.zero_le _, fun _ => ⟨by omega, fun _ => by omega⟩⟩ ?_⟩
      · rw [e, show fn_X10_leaf 1 (nI (j + 1)) 0 M = some M1 from f1]
        exact rtl_small ((nI_ltI (b := 6) (by omega) (by decide)).mpr (by omega))
      · unfold rc_dec
        rw [if_neg (by omega), if_pos (by omega), if_pos rfl]
        unfold rc_ix
        rw [if_pos (by omega)]
        rfl
    by_cases c4 : lx_kd T L p = 280
    · rw [if_pos c4]
      exact word 0 (by decide) c4
    rw [if_neg c4]
    by_cases c5 : 282 ≤ lx_kd T L p ∧ lx_kd T L p ≤ 285
    · rw [if_pos c5]
      have : lx_kd T L p = 282 ∨ lx_kd T L p = 283 ∨ lx_kd T L p = 284 ∨ lx_kd T L p = 285 := by omega
      rcases this with z | z | z | z
      · rw [show lx_kd T L p - 281 = 1 by omega]; exact word 1 (by decide) z
      · rw [show lx_kd T L p - 281 = 2 by omega]; exact word 2 (by decide) z
      · rw [show lx_kd T L p - 281 = 3 by omega]; exact word 3 (by decide) z
      · rw [show lx_kd T L p - 281 = 4 by omega]; exact word 4 (by decide) z
    · rw [if_neg c5]
      have q9 : fw ow7 (lx_kd T L p) 7 = -1 := fw_no 7 (fun i hi => by
        have : i = 0 ∨ i = 1 ∨ i = 2 ∨ i = 3 ∨ i = 4 ∨ i = 5 ∨ i = 6 := by omega
        rcases this with rfl | rfl | rfl | rfl | rfl | rfl | rfl
        · show lx_kd T L p ≠ 280; omega
        · show lx_kd T L p ≠ 282; omega
        · show lx_kd T L p ≠ 283; omega
        · show lx_kd T L p ≠ 284; omega
        · show lx_kd T L p ≠ 285; omega
        · show lx_kd T L p ≠ 278; omega
        · show lx_kd T L p ≠ 286; omega)
      have e2 := e
      rw [q9, if_neg (show ¬ (-1 : Int32) ≠ -1 from fun z => z rfl), if_neg (show ¬ (-1 : Int32) ≠ -1 from fun z => z rfl), ← q9] at e2
      exact bad _ _ _ (Or.inl rfl) e2
end RR
