/-! the class reads a PART that is no bracket -/
section CF
variable {T : Nat → Nat} {L n p : Nat} {m m' : am_m} {ord : Bool} {c : rcd} {a lv aw : Nat} {rc : am_rc}
theorem clf_gd {o : Option (Int32 × am_m)} {r : Nat ⊕ pst} (h : clf T L n ord o c a r) : clf T L n ord (o.bind fun r13 => am_gd (r13.1 = 0 ∨ r13.1 = 1) (some (r13.1, r13.2))) c a r := by
  cases r with
  | inl q =>
    obtain ⟨m', e1, e2⟩ := h
    exact ⟨m', by rw [e1, bd_s, gd_t (Or.inl rfl)], e2⟩
  | inr st =>
    obtain ⟨m', x, e1, e2⟩ := h
    exact ⟨m', x, by rw [e1, bd_s, gd_t (Or.inr rfl)], e2⟩
theorem corderword (hm : cmm T L n true m c a p (lv + 1) aw) (haw : aw < 128) (hT : ∀ k, k < L → T k < 256) (hpL : p ≤ L) (hL : L ≤ 400) (ha : a ≤ p) : clf T L n true (fn_X4_readOrderWord m) c a (if lx_kd T L p = 278 ∨ lx_kd T L p = 286 then
    (if lx_kd T L (lx_nx T L p) = 256 ∧ lx_vl T L (lx_nx T L p) < 7 then sp_wd T L (lx_nx T L p) lv (if lx_kd T L p = 286 then aw ||| 2 ^ lx_vl T L (lx_nx T L p) else aw) ((if lx_kd T L p = 286 then 12 else 5) + lx_vl T L (lx_nx T L p)) else .inl (lx_nx T L p))
  else if lx_kd T L p = 280 then sp_wd T L p lv aw 0
  else if 282 ≤ lx_kd T L p ∧ lx_kd T L p ≤ 285 then sp_wd T L p lv aw (lx_kd T L p - 281)
  else .inl p) := by
  have hkd := kd_286 hT hpL
  have k6 : m.1 4 0 6 = nI (lx_kd T L p) := hm.1.2.2.1
  have ne : ∀ x : Nat, x ≤ 1000 → lx_kd T L p ≠ x → nI (lx_kd T L p) ≠ nI x := fun x hx h => nI_ne (by omega) (by omega) h
  unfold fn_X4_readOrderWord
  by_cases c1 : lx_kd T L p = 278
  · rw [if_pos (show m.1 4 0 6 = (278 : Int32) by rw [k6, c1]; rfl), if_pos (Or.inl c1)]
    exact cfed hm haw hkd (Or.inl c1) hT hpL hL ha
  rw [if_neg (show ¬ m.1 4 0 6 = (278 : Int32) by rw [k6]; exact ne 278 (by decide) c1)]
  by_cases c2 : lx_kd T L p = 286
  · rw [if_neg (show ¬ m.1 4 0 6 ≠ (286 : Int32) from fun z => z (by rw [k6, c2]; rfl)), if_pos (Or.inr c2)]
    have := cfed hm haw hkd (Or.inr c2) hT hpL hL ha
    exact this
  rw [if_pos (show m.1 4 0 6 ≠ (286 : Int32) by rw [k6]; exact ne 286 (by decide) c2), if_neg (show ¬ (lx_kd T L p = 278 ∨ lx_kd T L p = 286) by omega)]
  by_cases c3 : lx_kd T L p = 280
  · rw [if_neg (show ¬ m.1 4 0 6 ≠ (280 : Int32) from fun z => z (by rw [k6, c3]; rfl)), if_pos c3]
    have := kd_in hpL (show lx_kd T L p ≠ 257 by omega)
    obtain ⟨m', e1, e2⟩ := cwd (x := 0) hm (by decide) (by omega)
    exact ⟨m', _, e1, e2, csg_wd (by decide)⟩
  rw [if_pos (show m.1 4 0 6 ≠ (280 : Int32) by rw [k6]; exact ne 280 (by decide) c3), if_neg c3, k6]
  by_cases c4 : lx_kd T L p < 282
  · rw [if_pos (show nI (lx_kd T L p) < (282 : Int32) from (nI_ltI (b := 282) (by omega) (by decide)).mpr c4), if_neg (show ¬ (282 ≤ lx_kd T L p ∧ lx_kd T L p ≤ 285) by omega)]
    exact cbad hm.1
  rw [if_neg (show ¬ nI (lx_kd T L p) < (282 : Int32) from fun z => c4 ((nI_ltI (b := 282) (by omega) (by decide)).mp z))]
  by_cases c5 : 285 < lx_kd T L p
  · rw [if_pos (show (285 : Int32) < nI (lx_kd T L p) from (nI_ltI (a := 285) (by decide) (by omega)).mpr c5), if_neg (show ¬ (282 ≤ lx_kd T L p ∧ lx_kd T L p ≤ 285) by omega)]
    exact cbad hm.1
  · rw [if_neg (show ¬ (285 : Int32) < nI (lx_kd T L p) from fun z => c5 ((nI_ltI (a := 285) (by decide) (by omega)).mp z)), if_pos (show 282 ≤ lx_kd T L p ∧ lx_kd T L p ≤ 285 by omega), show (282 : Int32) = nI 282 from rfl, show (1 : Int32) = nI 1 from rfl, nI_add, pk_sub (by omega), show 1 + lx_kd T L p - 282 = lx_kd T L p - 281 by omega]
    have := kd_in hpL (show lx_kd T L p ≠ 257 by omega)
    obtain ⟨m', e1, e2⟩ := cwd (x := lx_kd T L p - 281) hm (by show _ < 19; omega) (by omega)
    exact ⟨m', _, e1, e2, csg_wd (by show _ < 19; omega)⟩
theorem cleaf_ok {d : Int32} (hm : cmm T L n ord m c a p lv aw) (hk : lx_kd T L p ≠ 91) (haw : aw < 128) (hlv : lv ≤ 50) (hT : ∀ k, k < L → T k < 256) (hpL : p ≤ L) (hL : L ≤ 400) (ha : a ≤ p) : clf T L n ord (fn_X4_readPart rc d m) c a (sp_leaf T L ord p lv aw) := by
  have hkd := kd_286 hT hpL
  have k6 : m.1 4 0 6 = nI (lx_kd T L p) := hm.1.2.2.1
  have k7 : m.1 4 0 7 = nI (lx_vl T L p) := hm.1.2.2.2
  have k8 : m.1 4 0 8 = nI lv := hm.2.2.1
  have k9 : m.1 4 0 9 = (if ord then 1 else 0) := hm.2.2.2.1
  have vq : lx_vl T L p ≤ 1001 := by
    unfold lx_vl
    split
    · omega
    · split
      · omega
      · split
        · exact num_le _
        · omega
  unfold fn_X4_readPart sp_leaf
  rw [if_pos (show m.1 4 0 6 ≠ (91 : Int32) by rw [k6]; exact nI_ne (b := 91) (by omega) (by decide) hk), k8]
  by_cases c1 : 50 ≤ lv
  · rw [if_pos c1, if_neg (show ¬ nI lv < (50 : Int32) from fun z => by have := (nI_ltI (b := 50) (by omega) (by decide)).mp z; omega)]
    exact cbad hm.1
  rw [if_neg c1, if_pos (show nI lv < (50 : Int32) from (nI_ltI (b := 50) (by omega) (by decide)).mpr (by omega)), nI_1, k6]
  have kk : am_kp [(4, 8)] [] 0 m (am_si m 4 0 8 (nI (lv + 1))) := am_kp.si am_kp.rf rfl
  have hm1 : cmm T L n ord (am_si m 4 0 8 (nI (lv + 1))) c a p (lv + 1) aw := ⟨hm.1.kp kk rfl, hm.2.1, rfl, k9, hm.2.2.2.2⟩
  by_cases c2 : lx_kd T L p = 256
  · rw [if_pos c2, if_pos (show nI (lx_kd T L p) = (256 : Int32) by rw [c2]; rfl), k7]
    have hin := kd_in hpL (show lx_kd T L p ≠ 257 by omega)
    by_cases c3 : lx_vl T L p ≤ 1000
    · rw [if_pos c3, if_pos (show nI (lx_vl T L p) ≤ (1000 : Int32) from nI_le (b := 1000) c3 (by decide))]
      obtain ⟨m1, e1, e2⟩ := cput (t := 256) (w := lx_vl T L p) (by decide) c3 hm1 (by omega)
      obtain ⟨m2, f1, f2⟩ := cgoto e2
      exact ⟨m2, _, by rw [show fn_X5_put 0 256 (nI (lx_vl T L p)) _ = some m1 from e1, bd_s, f1, bd_s], f2, csg_nm c3⟩
    · rw [if_neg c3, if_neg (show ¬ nI (lx_vl T L p) ≤ (1000 : Int32) from fun z => c3 ((nI_leI (b := 1000) (by omega) (by decide)).mp z))]
      exact cbad hm1.1
  rw [if_neg c2, if_neg (show ¬ nI (lx_kd T L p) = (256 : Int32) from nI_ne (b := 256) (by omega) (by decide) c2), k9]
  cases ord with
  | false =>
    rw [if_neg (show ¬ false = true by decide), if_pos rfl, if_pos rfl]
    exact clf_gd (clawword hm1 hkd hpL hL ha)
  | true =>
    rw [if_pos rfl, if_neg (show ¬ (1 : Int32) = 0 by decide), if_neg (show ¬ true = false by decide)]
    exact clf_gd (corderword hm1 haw hT hpL hL ha)
end CF
