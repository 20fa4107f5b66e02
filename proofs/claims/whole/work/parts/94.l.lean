/-! both read a TEXT alike: CLAUSE by CLAUSE -/
def cFin (o : Option (Sum am_m (Int32 × am_m))) : Option (Int32 × am_m) := o.bind fun w22 => (match w22 with
    | .inl q16 => (fn_X4_failed q16).bind fun r18 => am_gd (r18.1 = 0 ∨ r18.1 = 1) (some (r18.1, r18.2))
    | .inr rr21 => some rr21)
def txBad (oc : Option (Int32 × am_m)) (rcl : am_m → Option am_m) (rlp : Nat → am_m → Option am_m) (N : Nat) (M : am_m) : Prop := ∃ q m' r4 q14 r16, oc = some (0, m') ∧ m'.1 4 0 10 = nI q ∧ rcl M = some r4 ∧ rlp N r4 = some q14 ∧ fn_X10_endText q14 = some r16 ∧ r16.1 10 0 19 = 1 ∧ r16.1 10 0 18 = nI q
def txOk {Z : Type} (T : Nat → Nat) (L n : Nat) (ord : Bool) (rr : Nat) (CF : rcd → rcd → Nat → Nat → Nat → (Nat → Int32) → (Nat → Int32) → Nat → Z → Prop) (oc : Option (Int32 × am_m)) (rcl : am_m → Option am_m) (rlp : Nat → am_m → Option am_m) (N : Nat) (m M : am_m) : Prop := ∃ K m' r4 q14 c2 c2' a2 b2 p2 lv2 aw2, ∃ zs : Nat → Z, oc = some (1, m') ∧ rcl M = some r4 ∧ rlp N r4 = some q14 ∧ fn_X10_endText q14 = some (am_si (am_si q14 10 0 20 0) 10 0 13 0) ∧ 1 ≤ K ∧ K ≤ 12 ∧ m'.1 5 0 2 = nI K ∧ q14.1 10 0 21 = nI K ∧ lks T L n ord m' q14 c2 c2' a2 b2 p2 lv2 aw2 ∧ (∀ i, i < K → CF c2 c2' a2 b2 aw2 (m'.1 28 0) (q14.1 rr 0) i (zs i)) ∧ m'.2.2 = m.2.2 ∧ q14.1 10 0 18 = M.1 10 0 18
section LL
variable {Z : Type} {T : Nat → Nat} {L n : Nat} {ord : Bool} {rcl : am_m → Option am_m} {rlp : Nat → am_m → Option am_m} {rr wd : Nat} {CF : rcd → rcd → Nat → Nat → Nat → (Nat → Int32) → (Nat → Int32) → Nat → Z → Prop}
theorem endT_bad {M : am_m} {q : Nat} (h19 : M.1 10 0 19 = 1) (h18 : M.1 10 0 18 = nI q) : ∃ M', fn_X10_endText M = some M' ∧ M'.1 10 0 19 = 1 ∧ M'.1 10 0 18 = nI q := by
  refine ⟨am_si (am_si M 10 0 20 0) 10 0 13 0, ?_, h19, h18⟩
  unfold fn_X10_endText
  rw [if_pos (show M.1 10 0 19 ≠ 0 by rw [h19]; decide), bd_s]
theorem text_loop (hT : ∀ k, k < L → T k < 256) (hrr : am_hit [(10, 14), (10, 15), (10, 16)] rr 0 = false) (h20 : Nat.ble 20 rr = true)
    (hlp : ∀ N M, rlp (N + 1) M = (if (M.1 10 0 19) ≠ 0 then some M else (fn_X10_isSign 59 M).bind fun r7 => (if r7 = 0 then some M else (fn_X10_next M).bind fun r10 => (rcl r10).bind fun r12 => rlp N r12)))
    (hcl : ∀ (k : Nat) (m M : am_m) (c c' : rcd) (a b p lv aw : Nat), lks T L n ord m M c c' a b p lv aw → m.1 5 0 2 = nI k → M.1 10 0 21 = nI k → k < 12 → m.2.2.2.2.2.2.1 28 0 = 72 →
      (∃ q m' M', fn_X4_readClause m = some (0, m') ∧ m'.1 4 0 10 = nI q ∧ rcl M = some M' ∧ M'.1 10 0 19 = 1 ∧ M'.1 10 0 18 = nI q) ∨
      (∃ m' M' c2 c2' a2 b2 p2 lv2 aw2 z, fn_X4_readClause m = some (1, m') ∧ rcl M = some M' ∧ lks T L n ord m' M' c2 c2' a2 b2 p2 lv2 aw2 ∧ lgo c c' a b p aw c2 c2' a2 b2 p2 aw2 ∧ CF c2 c2' a2 b2 aw2 (m'.1 28 0) (M'.1 rr 0) k z ∧ (∀ i, i < 6 * k → m'.1 28 0 i = m.1 28 0 i) ∧ (∀ i, i < wd * k → M'.1 rr 0 i = M.1 rr 0 i) ∧ m'.1 5 0 2 = nI (k + 1) ∧ M'.1 10 0 21 = nI (k + 1) ∧ m'.2.2 = m.2.2))
    (hno : ∀ (M : am_m) (c : rcd) (b p lv : Nat), rce T L ord M c b p lv → M.1 10 0 21 = nI 12 → ∃ M', rcl M = some M' ∧ M'.1 10 0 19 = 1 ∧ M'.1 10 0 18 = nI p)
    (hgo : ∀ (c c' : rcd) (a b p aw : Nat) (c2 c2' : rcd) (a2 b2 p2 aw2 : Nat) (hd rw hd' rw' : Nat → Int32) (i : Nat) (z : Z), CF c c' a b aw hd rw i z → lgo c c' a b p aw c2 c2' a2 b2 p2 aw2 → (∀ j, j < 6 * (i + 1) → hd' j = hd j) → (∀ j, j < wd * (i + 1) → rw' j = rw j) → CF c2 c2' a2 b2 aw2 hd' rw' i z)
    (hbf : ∀ M M', rcl M = some M' → BF M M') :
    ∀ (d k N N' : Nat) (m M : am_m) (c c' : rcd) (a b p lv aw : Nat) (zs : Nat → Z), 12 - k = d → k ≤ 12 → d < N → d + 1 < N' → lks T L n ord m M c c' a b p lv aw → m.1 5 0 2 = nI k → M.1 10 0 21 = nI k → m.2.2.2.2.2.2.1 28 0 = 72 → (∀ i, i < k → CF c c' a b aw (m.1 28 0) (M.1 rr 0) i (zs i)) →
      txBad (cFin (lp_X4_readWhole_39 N (nI k) m)) rcl rlp N' M ∨ txOk T L n ord rr CF (cFin (lp_X4_readWhole_39 N (nI k) m)) rcl rlp N' m M
  | d, k, 0, N', m, M, c, c', a, b, p, lv, aw, zs, _, _, h, _, _, _, _, _, _ => absurd h (Nat.not_lt_zero _)
  | d, k, N + 1, 0, m, M, c, c', a, b, p, lv, aw, zs, _, _, _, h, _, _, _, _, _ => absurd h (Nat.not_lt_zero _)
  | d, k, N + 1, N' + 1, m, M, c, c', a, b, p, lv, aw, zs, hd, hk, hN, hN', hl, h2, h21, h72, hz => by
    rw [lp_X4_readWhole_39.eq_2]
    have lpbad : ∀ M1 : am_m, M1.1 10 0 19 = 1 → rlp (N' + 1) M1 = some M1 := fun M1 z => by rw [hlp, if_pos (show M1.1 10 0 19 ≠ 0 by rw [z]; decide)]
    by_cases e12 : k = 12
    · rw [if_pos (show (12 : Int32) ≤ nI k by rw [e12]; decide)]
      obtain ⟨M1, e1, e2, e3⟩ := hno M c' b p lv hl.2.1 (by rw [h21, e12])
      obtain ⟨m1, f1, f2⟩ := cfail hl.1.1
      obtain ⟨M2, g1, g2, g3⟩ := endT_bad e2 e3
      refine Or.inl ⟨p, m1, M1, M1, M2, ?_, f2, e1, lpbad M1 e2, g1, g2, g3⟩
      unfold cFin
      rw [bd_s]
      show (fn_X4_failed m).bind _ = _
      rw [f1, bd_s, gd_t (Or.inl rfl)]
    · rw [if_neg (show ¬ (12 : Int32) ≤ nI k from nI_ge (b := 12) (by omega) (by decide))]
      rcases hcl k m M c c' a b p lv aw hl h2 h21 (by omega) h72 with ⟨q, m1, M1, e1, e2, e3, e4, e5⟩ | ⟨m1, M1, c2, c2', a2, b2, p2, lv2, aw2, z, e1, e2, e3, e4, e5, e6, e7, e8, e9, e10⟩
      · obtain ⟨M2, g1, g2, g3⟩ := endT_bad e4 e5
        refine Or.inl ⟨q, m1, M1, M1, M2, ?_, e2, e3, lpbad M1 e4, g1, g2, g3⟩
        rw [e1, bd_s, if_neg (show ¬ (0 : Int32) ≠ 0 from fun z => z rfl)]
        rfl
      · rw [e1, bd_s, if_pos (show (1 : Int32) ≠ 0 by decide)]
        have k6 : m1.1 4 0 6 = nI (lx_kd T L p2) := e3.1.1.2.2.1
        have p2L := e3.2.2.1
        have hkd := kd_286 hT p2L
        have h19 : M1.1 10 0 19 = 0 := e3.2.1.2.2.2.1
        have h18 : M1.1 10 0 18 = M.1 10 0 18 := (hbf M M1 e2 h19).2
        have e59 : fn_X10_isSign 59 M1 = some (if lx_kd T L p2 = 59 then 1 else 0) := rsign_ok (c := 59) e3.2.1.1 (by decide) (by decide) (by decide)
        have cf : ∀ i, i < k + 1 → CF c2 c2' a2 b2 aw2 (m1.1 28 0) (M1.1 rr 0) i (if i = k then z else zs i) := fun i hi => by
          by_cases q : i = k
          · rw [if_pos q, q]; exact e5
          · rw [if_neg q]
            exact hgo _ _ _ _ _ _ _ _ _ _ _ _ _ _ _ _ i (zs i) (hz i (by omega)) e4 (fun j hj => e6 j (by have : 6 * (i + 1) ≤ 6 * k := Nat.mul_le_mul_left 6 (by omega); omega)) (fun j hj => e7 j (by have : wd * (i + 1) ≤ wd * k := Nat.mul_le_mul_left wd (by omega); omega))
        have stop : lx_kd T L p2 ≠ 59 → rlp (N' + 1) M1 = some M1 := fun q => by rw [hlp, if_neg (fun z => z h19), e59, bd_s, if_neg q, if_pos rfl]
        have m16 : M1.1 10 0 16 = nI (lx_srt T L p2) := e3.2.1.1.2.2.2.2.1
        by_cases q257 : lx_kd T L p2 = 257
        · have eL : p2 = L := by
            by_cases q : p2 < L
            · exact absurd q257 (kd_lt q (hT p2 q)).1
            · omega
          rw [if_neg (show ¬ m1.1 4 0 6 ≠ (257 : Int32) from fun z => z (by rw [k6, q257]; rfl))]
          refine Or.inr ⟨k + 1, m1, M1, M1, c2, c2', a2, b2, p2, lv2, aw2, fun i => if i = k then z else zs i, rfl, e2, stop (by omega), ?_, by omega, by omega, e8, e9, e3, cf, e10, h18⟩
          unfold fn_X10_endText
          rw [if_neg (fun z => z h19), if_pos (show M1.1 10 0 16 = 0 by rw [m16, eL]; unfold lx_srt; rw [if_pos (Nat.le_refl _)]; rfl), bd_s]
        · rw [if_pos (show m1.1 4 0 6 ≠ (257 : Int32) by rw [k6]; exact nI_ne (b := 257) (by omega) (by decide) q257)]
          have tk := ctook (k := 59) (by decide) e3.1 (by omega)
          by_cases q59 : lx_kd T L p2 = 59
          · rw [if_pos q59] at tk e59
            obtain ⟨m2, t1, t2⟩ := tk
            have kt := kp_X4_took _ _ _ t1
            obtain ⟨M2, f1, f2, f3⟩ := e3.2.1.next
            have up := nx_up (T := T) p2L q257
            have el : m2.2.2 = m1.2.2 := kt.2.2
            rw [show fn_X4_took 59 m1 = some (1, m2) from t1, bd_s, if_pos (show (1 : Int32) ≠ 0 by decide), nI_1]
            have g' : lgo c2 c2' a2 b2 p2 aw2 c2 c2' a2 b2 (lx_nx T L p2) aw2 := ⟨fun _ _ => rfl, fun _ _ => rfl, Nat.le_refl _, Nat.le_refl _, by omega, fun _ z => z⟩
            have erow : M2.1 rr = M1.1 rr := f3.row rr (by rw [h20]; show (true && !am_hit lvNx rr 0) = true; rw [show am_hit lvNx rr 0 = false from hrr]; rfl)
            have ih := text_loop hT hrr h20 hlp hcl hno hgo hbf (12 - (k + 1)) (k + 1) N N' m2 M2 c2 c2' a2 b2 (lx_nx T L p2) lv2 aw2 (fun i => if i = k then z else zs i) rfl (by omega) (by omega) (by omega) ⟨t2, f2, up.2, e3.2.2.2.1, e3.2.2.2.2.1, by have := e3.2.2.2.2.2; omega⟩ (by rw [kt.fld 5 0 2 rfl]; exact e8) (by rw [f3.fld 10 0 21 rfl]; exact e9) (by rw [el, e10]; exact h72) (fun i hi => by
              rw [show m2.1 28 = m1.1 28 from kt.row 28 rfl, erow]
              exact cf i hi)
            have go : ∀ r4, rcl M2 = some r4 → rlp (N' + 1) M1 = rlp N' r4 := fun r4 hr => by rw [hlp, if_neg (fun z => z h19), e59, bd_s, if_neg (show ¬ (1 : Int32) = 0 by decide), f1, bd_s, hr, bd_s]
            rcases ih with ⟨q, m3, r4, q14, r16, i1, i2, i3, i4, i5⟩ | ⟨K, m3, r4, q14, c3, c3', a3, b3, p3, lv3, aw3, zs', i1, i2, i3, i4, i5, i6, i7, i8, i9, i10, i11, i12⟩
            · exact Or.inl ⟨q, m3, M1, q14, r16, i1, i2, e2, by rw [go r4 i3]; exact i4, i5⟩
            · exact Or.inr ⟨K, m3, M1, q14, c3, c3', a3, b3, p3, lv3, aw3, zs', i1, e2, by rw [go r4 i2]; exact i3, i4, i5, i6, i7, i8, i9, i10, by rw [i11, el, e10], by rw [i12, f3.fld 10 0 18 rfl, h18]⟩
          · rw [if_neg q59] at tk
            obtain ⟨m2, t1, t2⟩ := tk
            obtain ⟨M2, f1, f2, f3, f4⟩ := e3.2.1.must0
            refine Or.inl ⟨p2, m2, M1, M1, am_si (am_si M2 10 0 20 0) 10 0 13 0, ?_, t2, e2, stop q59, ?_, f2, f3⟩
            · rw [show fn_X4_took 59 m1 = some (0, m2) from t1, bd_s, if_neg (show ¬ (0 : Int32) ≠ 0 from fun z => z rfl)]
              rfl
            · unfold fn_X10_endText
              have pl : p2 < L := by
                by_cases q : p2 = L
                · rw [q, kd_L] at q257; exact absurd rfl q257
                · omega
              have ne : M1.1 10 0 16 ≠ 0 := by
                rw [m16]
                unfold lx_srt
                rw [if_neg (by omega)]
                by_cases z1 : isL (T p2) = true
                · rw [if_pos z1]; decide
                · rw [if_neg z1]
                  by_cases z2 : isD (T p2) = true
                  · rw [if_pos z2]; decide
                  · rw [if_neg z2]; decide
              rw [if_neg (fun z => z h19), if_neg ne, f1, bd_s, bd_s]
theorem beginT {M : am_m} {a1 : Int32} (ha : a1 = 0 ∨ a1 = 1) (ho : a1 = if ord then 1 else 0) (hx : rtx T L M) (hC : iv_C M.2.1) : ∃ M', fn_X10_beginText a1 M = some M' ∧ rce T L ord M' (fun _ => (0, 0)) 0 (lx_sk T L 0) 0 ∧ M'.1 10 0 21 = 0 ∧ M'.1 10 0 18 = -1 := by
  have k0 : am_kp [(10, 20), (10, 15), (10, 19), (10, 18)] [] 0 M (am_si (am_si (am_si (am_si M 10 0 20 a1) 10 0 15 0) 10 0 19 0) 10 0 18 (-1)) := am_kp.si (am_kp.si (am_kp.si (am_kp.si am_kp.rf rfl) rfl) rfl) rfl
  obtain ⟨M1, e1, e2, e3⟩ := rnext0 (e := 0) (hx.kp k0 rfl) (Nat.zero_le _) (show (am_si (am_si (am_si (am_si M 10 0 20 a1) 10 0 15 0) 10 0 19 0) 10 0 18 (-1)).1 10 0 15 = nI 0 from rfl)
  have k1 : am_kp [(10, 21), (10, 23), (10, 26)] [] 0 M1 (am_si (am_si (am_si M1 10 0 21 0) 10 0 23 0) 10 0 26 0) := am_kp.si (am_kp.si (am_kp.si am_kp.rf rfl) rfl) rfl
  refine ⟨am_si (am_si (am_si M1 10 0 21 0) 10 0 23 0) 10 0 26 0, ?_, ⟨e2.kp k1 rfl, ⟨rfl, fun k hk => absurd hk (Nat.not_lt_zero _)⟩, rfl, ?_, ?_, ?_, Nat.zero_le _⟩, rfl, ?_⟩
  · unfold fn_X10_beginText fn_X10_begin
    rw [gd_t ha, e1, bd_s, bd_s]
  · show M1.1 10 0 19 = 0
    rw [e3.fld 10 0 19 rfl]; rfl
  · show M1.1 10 0 20 = _
    rw [e3.fld 10 0 20 rfl, ← ho]; rfl
  · show iv_C M1.2.1
    exact hC.of (e3.rowL 82 rfl) (e3.rowL 83 rfl) (e3.rowL 84 rfl) (e3.rowL 89 rfl)
  · show M1.1 10 0 18 = -1
    rw [e3.fld 10 0 18 rfl]; rfl
theorem beginC {m : am_m} {a2 : Int32} (ha : a2 = 0 ∨ a2 = 1) (ho : a2 = if ord then 1 else 0) (hx : ctx7 T L m) (h29 : m.2.2.2.2.2.2.1 29 0 = 448) : ∃ m6 n, cmm T L n ord m6 (fun _ => (0, 0)) 0 (lx_sk T L 0) 0 0 ∧ m6.1 5 0 2 = 0 ∧ m6.2.2 = m.2.2 ∧ fn_X4_readWhole a2 m = cFin (lp_X4_readWhole_39 1000000 0 m6) := by
  obtain ⟨m1, n, e1, e2, e3, e4, e5⟩ := csplit_ok hx
  have hL := hx.1
  obtain ⟨t1, t2, t3⟩ := e2.2 0 (by omega)
  let mS : am_m := am_si (am_si (am_si (am_si (am_si (am_si (am_si m1 7 0 1 0) 5 0 2 0) 5 0 3 0) 5 0 4 0) 4 0 8 0) 4 0 9 a2) 4 0 10 (-1)
  have hS : fn_X4_goTo 0 mS = some (am_si (am_si (am_si mS 4 0 5 0) 4 0 6 (m1.1 25 0 0)) 4 0 7 (m1.1 26 0 0)) := by
    unfold fn_X4_goTo fn_J9_min_7cf53 fn_J9_max_7cf53
    have e : mS.1 4 0 4 - (1 : Int32) = nI n := by
      rw [show mS.1 4 0 4 = nI (n + 1) from e2.1, show (1 : Int32) = nI 1 from rfl, pk_sub (by omega), Nat.add_sub_cancel]
    rw [e, if_neg (show ¬ nI n < 0 from nI_pos (by omega)), bd_s, if_neg (show ¬ (0 : Int32) < 0 by decide), bd_s, show (0 : Int32) = nI 0 from rfl, ck_in (by decide) (by decide), ck_in (by decide) (by decide), nI_clamp (by decide)]
    rfl
  refine ⟨am_si (am_si (am_si mS 4 0 5 0) 4 0 6 (m1.1 25 0 0)) 4 0 7 (m1.1 26 0 0), n, ⟨⟨⟨hL, ⟨e2.1, e2.2⟩, e3, e4⟩, ⟨0, Nat.zero_le _, rfl, rfl⟩, t1, t2⟩, ⟨rfl, ?_, fun k hk => absurd hk (Nat.not_lt_zero _)⟩, rfl, ho, rfl, rfl⟩, rfl, e5.2.2, ?_⟩
  · show m1.2.2.2.2.2.2.1 29 0 = 448
    rw [show m1.2.2 = m.2.2 from e5.2.2]; exact h29
  · unfold fn_X4_readWhole fn_X5_clear
    rw [e1, bd_s, bd_s, gd_t ha]
    show (fn_X4_goTo 0 mS).bind _ = _
    rw [hS, bd_s]
    rfl
end LL
