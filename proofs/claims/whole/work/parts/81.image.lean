/-! image: it may make an upland -/
/-- a new upland -/
def nuU (m : am_m) : am_m := (ci_X8_init (am_u2 m.1 8 (m.2.2.2.2.2.2.2 8) (fun _ => 0)) (m.2.2.2.2.2.2.2 8), cg_X8_init (am_u2 m.2.1 8 (m.2.2.2.2.2.2.2 8) (fun _ => 0)) (m.2.2.2.2.2.2.2 8), m.2.2.1, m.2.2.2.1, m.2.2.2.2.1, m.2.2.2.2.2.1, m.2.2.2.2.2.2.1, cc_X8_init (am_u1 m.2.2.2.2.2.2.2 8 (m.2.2.2.2.2.2.2 8 + 1)) (m.2.2.2.2.2.2.2 8))
def fn_X9_image (a1 : Int32) (m : am_m) : Option (Int32 × am_m) :=
  if a1 < 0 then (fn_X9_told (-1) m).bind fun r2 => some (r2.1, r2.2) else if a1 < (2 : Int32) then am_ck a1 2 (match (m.2.2.2.2.2.1 0 a1.toNatClampNeg) with
    | none => (fn_X8_become (m.2.2.2.2.2.2.2 8) 0 (am_su (nuU m) 0 a1.toNatClampNeg (some (m.2.2.2.2.2.2.2 8)))).bind fun r8 => (fn_X9_told 0 r8).bind fun r9 => some (r9.1, r9.2)
    | some u6 => (fn_X8_become u6 0 m).bind fun r10 => (fn_X9_told 0 r10).bind fun r14 => some (r14.1, r14.2)) else (fn_X9_told (-1) m).bind fun r16 => some (r16.1, r16.2)
section IM
variable {m m0 m' : am_m} {u j : Nat}
abbrev lvIm : List (Nat × Nat) := [(8, 0), (8, 1), (8, 2), (8, 3), (9, 17), (10, 0), (10, 1), (36, 0), (37, 0), (38, 0), (39, 0), (40, 0), (45, 0), (91, 0)]
theorem nuU_I {c w : Nat} (h : w ≠ m.2.2.2.2.2.2.2 8 ∨ (c ≠ 8 ∧ ¬ (36 ≤ c ∧ c ≤ 40) ∧ c ≠ 100)) : (nuU m).1 c w = m.1 c w := by
  have ne : ∀ a, (a = 8 ∨ (36 ≤ a ∧ a ≤ 40) ∨ a = 100) → ¬ (c = a ∧ w = m.2.2.2.2.2.2.2 8) := fun a ha z => by
    rcases h with h | h
    · exact h z.2
    · omega
  show ci_X8_init _ _ c w = _
  unfold ci_X8_init
  rw [am_u3_ne (ne 39 (by omega)), am_u2_ne (ne 100 (by omega)), am_u2_ne (ne 40 (by omega)), am_u2_ne (ne 39 (by omega)), am_u2_ne (ne 38 (by omega)), am_u2_ne (ne 37 (by omega)), am_u2_ne (ne 36 (by omega)), am_u3_ne (ne 8 (by omega)), am_u3_ne (ne 8 (by omega)), am_u3_ne (ne 8 (by omega)), am_u3_ne (ne 8 (by omega)), am_u2_ne (ne 8 (by omega))]
theorem nuU_G {c : Nat} (h : c ≠ 8 ∧ ¬ (36 ≤ c ∧ c ≤ 40) ∧ c ≠ 100) : (nuU m).2.1 c = m.2.1 c := by
  funext w
  have ne : ∀ a, (a = 8 ∨ (36 ≤ a ∧ a ≤ 40) ∨ a = 100) → ¬ (c = a ∧ w = m.2.2.2.2.2.2.2 8) := fun a ha z => by omega
  show cg_X8_init _ _ c w = _
  unfold cg_X8_init
  rw [am_u2_ne (ne 100 (by omega)), am_u2_ne (ne 40 (by omega)), am_u2_ne (ne 39 (by omega)), am_u2_ne (ne 38 (by omega)), am_u2_ne (ne 37 (by omega)), am_u2_ne (ne 36 (by omega)), am_u2_ne (ne 8 (by omega))]
theorem nuU_C (c : Nat) : (nuU m).2.2.2.2.2.2.2 c = if c = 8 ∨ (36 ≤ c ∧ c ≤ 40) ∨ c = 100 then m.2.2.2.2.2.2.2 8 + 1 else m.2.2.2.2.2.2.2 c := by
  show cc_X8_init (am_u1 m.2.2.2.2.2.2.2 8 (m.2.2.2.2.2.2.2 8 + 1)) (m.2.2.2.2.2.2.2 8) c = _
  unfold cc_X8_init am_u1
  by_cases h : c = 8 ∨ (36 ≤ c ∧ c ≤ 40) ∨ c = 100
  · rw [if_pos h]
    by_cases a1 : c = 100
    · rw [if_pos a1]
    rw [if_neg a1]
    by_cases a2 : c = 40
    · rw [if_pos a2]
    rw [if_neg a2]
    by_cases a3 : c = 39
    · rw [if_pos a3]
    rw [if_neg a3]
    by_cases a4 : c = 38
    · rw [if_pos a4]
    rw [if_neg a4]
    by_cases a5 : c = 37
    · rw [if_pos a5]
    rw [if_neg a5]
    by_cases a6 : c = 36
    · rw [if_pos a6]
    rw [if_neg a6, if_pos (by omega)]
  · rw [if_neg h, if_neg (by omega), if_neg (by omega), if_neg (by omega), if_neg (by omega), if_neg (by omega), if_neg (by omega), if_neg (by omega)]
theorem iv_K.nx {r r' : Nat → Int32} {D v : Nat} (h : iv_K m v r) (hW : iv_W D r) (he : ∀ k, k < 5518 → r' k = r k) (hl : ∀ k, k < 6 → m'.2.2.2.2.1 u k = m.2.2.2.2.1 v k) (h5 : m'.1 5 = m.1 5) (h28 : m'.1 28 = m.1 28) (h29 : m'.1 29 = m.1 29) (hn : m'.2.2.2.2.2.2.1 = m.2.2.2.2.2.2.1) (hc : m.2.2.2.2.2.2.2 5 = m'.2.2.2.2.2.2.2 5) : iv_K m' u r' := h.move hW he hl (fun s _ _ => ⟨by rw [h5], by rw [h28], by rw [h29], by rw [hn], by rw [hn]⟩) (Nat.le_of_eq hc)
theorem Inv0.im (h : Inv0 m) (k : am_kp lvIm [] 2 m0 m') (hj : j < 2) (hI : ∀ c, c ≠ 8 ∧ ¬ (36 ≤ c ∧ c ≤ 40) ∧ c ≠ 100 → m0.1 c = m.1 c) (hG : ∀ c, c ≠ 8 ∧ ¬ (36 ≤ c ∧ c ≤ 40) ∧ c ≠ 100 → m0.2.1 c = m.2.1 c) (hu : 3 ≤ u) (hU : ∀ w, w ≠ u → sm_U m m' w) (hl : ∀ w, w ≠ u → m'.2.2.2.2.1 w = m.2.2.2.2.1 w) (hlu : ∀ k, k < 6 → m'.2.2.2.2.1 u k = m.2.2.2.2.1 0 k) (hV : iv_U m' u (m.1 44 0)) (hN : m'.2.2.2.2.2.2.1 = m.2.2.2.2.2.2.1) (hC5 : m.2.2.2.2.2.2.2 5 = m'.2.2.2.2.2.2.2 5) (hC8 : m.2.2.2.2.2.2.2 8 ≤ m'.2.2.2.2.2.2.2 8) (hu8 : u < m'.2.2.2.2.2.2.2 8) (hA : iv_A m'.2.2) (hg : ∀ i, m'.2.2.2.2.2.1 0 i = if i = j then some u else m.2.2.2.2.2.1 0 i) (hne : ∀ i, i < 2 → i ≠ j → m.2.2.2.2.2.1 0 i ≠ some u) (h45 : ∀ x, m'.1 45 0 x = if 5518 * j ≤ x ∧ x < 5518 * j + 5518 then m.1 44 0 (x - 5518 * j) else m.1 45 0 x) (h91 : ∀ i, m'.1 91 0 i = if i = j then 1 else m.1 91 0 i) : Inv0 m' := by
  obtain ⟨h1, h2, h3, h4, h5, h6, h7, h8, h9, h10⟩ := h
  have r : ∀ c, (c ≠ 8 ∧ ¬ (36 ≤ c ∧ c ≤ 40) ∧ c ≠ 100) → m0.1 c = m.1 c := hI
  have e44 : m'.1 44 = m.1 44 := (k.row 44 rfl).trans (hI 44 (by omega))
  have e5 : m'.1 5 = m.1 5 := (k.obj 5 rfl).trans (hI 5 (by omega))
  have e28 : m'.1 28 = m.1 28 := (k.row 28 rfl).trans (hI 28 (by omega))
  have e29 : m'.1 29 = m.1 29 := (k.row 29 rfl).trans (hI 29 (by omega))
  have f : ∀ c n i, (c ≠ 8 ∧ ¬ (36 ≤ c ∧ c ≤ 40) ∧ c ≠ 100) → am_hit lvIm c i = false → m'.1 c n i = m.1 c n i := fun c n i hc hh => (k.fld c n i hh).trans (by rw [hI c hc])
  have rw1 : ∀ c, (c ≠ 8 ∧ ¬ (36 ≤ c ∧ c ≤ 40) ∧ c ≠ 100) → (Nat.ble 20 c && !am_hit lvIm c 0) = true → m'.1 c = m.1 c := fun c hc hh => (k.row c hh).trans (hI c hc)
  have rwL : ∀ c, (c ≠ 8 ∧ ¬ (36 ≤ c ∧ c ≤ 40) ∧ c ≠ 100) → (Nat.ble 20 c && !am_hit [] c 0) = true → m'.2.1 c = m.2.1 c := fun c hc hh => (k.rowL c hh).trans (hG c hc)
  refine ⟨by rw [e44]; exact h1, by rw [e44]; exact h2.of (hU 0 (by omega)), by rw [e44]; exact h3.nx h1 (fun _ _ => rfl) (fun i _ => by rw [hl 0 (by omega)]) e5 e28 e29 hN hC5, ?_, ⟨fun i hi => ?_, fun w g1 g2 => ?_⟩, ?_, ?_, ?_, hA, ?_⟩
  · rw [e44, f 3 0 1 (by omega) rfl, rw1 24 (by omega) rfl, f 10 0 8 (by omega) rfl, rw1 46 (by omega) rfl, rw1 47 (by omega) rfl]; exact h4
  · by_cases e : i = j
    · subst e
      have ei : ∀ x, x < 5518 → iv_img m' i x = m.1 44 0 x := fun x hx => by
        show m'.1 45 0 (5518 * i + x) = _
        rw [h45, if_pos (by omega), Nat.add_sub_cancel_left]
      refine Or.inr ⟨by rw [h91, if_pos rfl], u, hu, hu8, by rw [hg, if_pos rfl], h1.cong (fun x hx => ei x (by omega)), hV.cong (fun x hx => ei x (by omega)), h3.nx h1 ei hlu e5 e28 e29 hN hC5⟩
    · have ei : ∀ x, x < 5518 → iv_img m' i x = iv_img m i x := fun x hx => by
        show m'.1 45 0 (5518 * i + x) = _
        rw [h45, if_neg (by omega)]
        rfl
      rcases h5.1 i hi with ⟨a1, a2⟩ | ⟨a1, w, a2, a3, a4, a5, a6, a7⟩
      · exact Or.inl ⟨by rw [h91, if_neg e]; exact a1, by rw [hg, if_neg e]; exact a2⟩
      · have hw : w ≠ u := fun z => hne i hi e (by rw [a4, z])
        exact Or.inr ⟨by rw [h91, if_neg e]; exact a1, w, a2, by omega, by rw [hg, if_neg e]; exact a4, a5.cong (fun x hx => ei x (by omega)), (a6.of (hU w hw)).cong (fun x hx => ei x (by omega)), a7.nx a5 ei (fun i _ => by rw [hl w hw]) e5 e28 e29 hN hC5⟩
  · rw [hg] at g1 g2
    by_cases e : (0 : Nat) = j
    · rw [if_pos e] at g1
      rw [if_neg (by omega)] at g2
      exact hne 1 (by decide) (by omega) (g2.trans g1.symm)
    · rw [if_neg e] at g1
      rw [if_pos (by omega)] at g2
      exact hne 0 (by decide) e (g1.trans g2.symm)
  · obtain ⟨q1, q2, q3, -⟩ := hU 2 (by omega)
    rw [f 10 0 61 (by omega) rfl, rw1 63 (by omega) rfl, q1, q2, q3]; exact h6
  · rw [f 7 0 1 (by omega) rfl, rw1 35 (by omega) rfl, f 10 0 13 (by omega) rfl, rw1 50 (by omega) rfl]; exact h7
  · exact h8.of (f 9 0 15 (by omega) rfl) (f 10 0 11 (by omega) rfl) (f 9 0 16 (by omega) rfl) (f 10 0 57 (by omega) rfl) (f 4 0 10 (by omega) rfl) (f 10 0 18 (by omega) rfl) (f 10 0 20 (by omega) rfl)
  · exact h10.of (rwL 82 (by omega) rfl) (rwL 83 (by omega) rfl) (rwL 84 (by omega) rfl) (rwL 89 (by omega) rfl)
theorem imgrow_ok (hj : j < 2) : ∃ m', lp_X10_image_23 1000000 (nI j) 0 m = some m' ∧ (∀ x, m'.1 45 0 x = if 5518 * j ≤ x ∧ x < 5518 * j + 5518 then m.1 44 0 (x - 5518 * j) else m.1 45 0 x) ∧ am_kp [(45, 0)] [] 0 m m' := by
  refine (lp_up0 (fun N x a => lp_X10_image_23 N (nI j) x a) (fun i m1 => (∀ x, m1.1 45 0 x = if 5518 * j ≤ x ∧ x < 5518 * j + i then m.1 44 0 (x - 5518 * j) else m.1 45 0 x) ∧ am_kp [(45, 0)] [] 0 m m1) (fun m' => (∀ x, m'.1 45 0 x = if 5518 * j ≤ x ∧ x < 5518 * j + 5518 then m.1 44 0 (x - 5518 * j) else m.1 45 0 x) ∧ am_kp [(45, 0)] [] 0 m m') 5518 (by decide) (fun N m1 hh => ⟨m1, ?_, hh⟩) (fun N i m1 hi hh => Or.inl ⟨am_si m1 45 0 (5518 * j + i) (m.1 44 0 i), ?_, fun x => ?_, am_kp.si hh.2 rfl⟩) m ⟨fun x => (if_neg (by omega)).symm, am_kp.rf⟩)
  · show lp_X10_image_23 (N + 1) (nI j) (nI 5518) m1 = _
    rw [lp_X10_image_23.eq_2, if_pos (by decide)]
  · show lp_X10_image_23 (N + 1) (nI j) (nI i) m1 = lp_X10_image_23 N (nI j) (nI (i + 1)) _
    rw [lp_X10_image_23.eq_2, if_neg (show ¬ (5518 : Int32) ≤ nI i from nI_ge (b := 5518) hi (by decide)), show (5518 : Int32) = nI 5518 from rfl, pk_mul, nI_add, ck_in (by omega) (by decide), ck_in (by omega) (by decide), nI_clamp (by omega), nI_clamp (by omega), nI_1, hh.2.row 44 rfl]
  · rw [rd_j, hh.1]
    by_cases e : x = 5518 * j + i
    · rw [if_pos e, if_pos (by omega), e, Nat.add_sub_cancel_left]
    · rw [if_neg e]
      exact if_iff (by omega)
theorem op_image (h : Inv m) (a : Int32) : op_ok m (fun m => fn_X9_image a m) (fun m => fn_X10_image a m) := by
  have hi1 : ∀ M : am_m, fn_X10_in a.toInt64 0 1 M = some (if 0 ≤ a ∧ a ≤ 1 then 1 else 0) := fun M => by
    rw [show (0 : Int64) = (0 : Int32).toInt64 from rfl, show (1 : Int64) = (1 : Int32).toInt64 from rfl, in_32]
  by_cases H1 : 0 ≤ a ∧ a ≤ 1
  · obtain ⟨j, hj31, rfl⟩ := nI_of (an_nn H1.1)
    have hj : j < 2 := by have := (nI_leI (b := 1) hj31 (by decide)).mp H1.2; omega
    have q1 : ¬ nI j < 0 := an_nn H1.1
    have q2 : nI j < (2 : Int32) := (nI_ltI (b := 2) hj31 (by decide)).mpr hj
    -- from the memory in which the upland is there
    have key : ∀ (u : Nat) (m0 : am_m), 3 ≤ u → (∀ c, c ≠ 8 ∧ ¬ (36 ≤ c ∧ c ≤ 40) ∧ c ≠ 100 → m0.1 c = m.1 c) → (∀ c, c ≠ 8 ∧ ¬ (36 ≤ c ∧ c ≤ 40) ∧ c ≠ 100 → m0.2.1 c = m.2.1 c) → (∀ w, w ≠ u → sm_U m m0 w) → m0.2.2.2.2.1 = m.2.2.2.2.1 → m0.2.2.2.2.2.2.1 = m.2.2.2.2.2.2.1 → m.2.2.2.2.2.2.2 5 = m0.2.2.2.2.2.2.2 5 → m.2.2.2.2.2.2.2 8 ≤ m0.2.2.2.2.2.2.2 8 → u < m0.2.2.2.2.2.2.2 8 → iv_A m0.2.2 → (∀ i, m0.2.2.2.2.2.1 0 i = if i = j then some u else m.2.2.2.2.2.1 0 i) → (∀ i, i < 2 → i ≠ j → m.2.2.2.2.2.1 0 i ≠ some u) → fn_X9_image (nI j) m = ((fn_X8_become u 0 m0).bind fun r10 => (fn_X9_told 0 r10).bind fun r14 => some (r14.1, r14.2)) → op_ok m (fun m => fn_X9_image (nI j) m) (fun m => fn_X10_image (nI j) m) := by
      intro u m0 hu hI hG hU0 hl0 hN hC5 hC8 hu8 hA hg hne hcl
      obtain ⟨mA, b1, a8, a36, a37, a38, a39, a40, al, aw, aL, ap, aj, ae⟩ := become_ok (u := u) (v := 0) (by omega) m0
      have kA := kp_X8_become _ _ _ _ b1
      let m1 : am_m := am_si mA 9 0 17 0
      have cls : fn_X9_image (nI j) m = some (0, m1) := by
        rw [hcl, b1, bd_s, told_ok (by decide), bd_s]
      have k1 : am_kp lvIm [] 2 m0 m1 := am_kp.si (am_kp.mono kA rfl) rfl
      let mS : am_m := am_si m1 10 0 0 0
      obtain ⟨mL, c1, c2, c3⟩ := imgrow_ok (m := mS) hj
      let mF : am_m := am_si (am_si mL 91 0 j 1) 10 0 1 0
      have ref : fn_X10_image (nI j) m1 = some (0, mF) := by
        unfold fn_X10_image
        rw [hi1, if_pos H1, bd_s, if_pos (by decide)]
        show (lp_X10_image_23 1000000 (nI j) 0 mS).bind _ = _
        rw [c1, bd_s, ck_in hj (by decide), nI_clamp hj31, tell_ok (by decide), bd_s]
      have kLF : am_kp lvIm [] 0 m1 mF := am_kp.si (am_kp.si ((am_kp.si am_kp.rf rfl : am_kp lvIm [] 0 m1 mS).tr (am_kp.mono c3 rfl)) rfl) rfl
      have kAF : am_kp lvIm [] 0 mA mF := (am_kp.si am_kp.rf rfl : am_kp lvIm [] 0 mA m1).tr kLF
      have kall : am_kp lvIm [] 2 m0 mF := k1.tr (am_kp.mono kLF rfl)
      have uF : ∀ w, sm_U mA mF w := fun w => (sm_U.si (m := mA) 9 0 17 0 w (Or.inr (by decide))).tr ((sm_U.si (m := m1) 10 0 0 0 w (Or.inr (by decide))).tr ((sm_U.kp c3 rfl w).tr ((sm_U.si (m := mL) 91 0 j 1 w (Or.inr (by decide))).tr (sm_U.si (m := am_si mL 91 0 j 1) 10 0 1 0 w (Or.inr (by decide))))))
      have eL : mF.2.2 = mA.2.2 := kAF.2.2
      have eE : mF.2.2.2.2.2 = m0.2.2.2.2.2 := kall.2.2
      have U0 : iv_U m0 0 (m.1 44 0) := h.u.of (hU0 0 (by omega))
      have UA : iv_U mA u (m.1 44 0) := U0.move a8 a36 a37 a38 a39 a40
      have r1 : m1.1 44 = m.1 44 := (k1.row 44 rfl).trans (hI 44 (by omega))
      have r2 : m1.1 45 = m.1 45 := (show m1.1 45 = mA.1 45 from rfl).trans ((kA.row 45 rfl).trans (hI 45 (by omega)))
      have r3 : mL.1 91 = m.1 91 := (c3.row 91 rfl).trans ((show mS.1 91 = mA.1 91 from rfl).trans ((kA.row 91 rfl).trans (hI 91 (by omega))))
      have hAF : iv_A mF.2.2 := by
        obtain ⟨i1, i2, i3, i4, i5, i6, i7, i8, i9, i10⟩ := hA
        have c : ∀ n, mF.2.2.2.2.2.2.2 n = m0.2.2.2.2.2.2.2 n := fun n => by rw [eE]
        have l : ∀ n k, mF.2.2.2.2.2.2.1 n k = m0.2.2.2.2.2.2.1 n k := fun n k => by rw [eE]
        refine ⟨fun a b hab => by rw [l]; exact i1 a b hab, by rw [l]; exact i2, by rw [l]; exact i3, by rw [c]; exact i4, by rw [c, c]; exact i5, by rw [c, c]; exact i6, by rw [c]; exact i7, fun a q1 q2 => by rw [c, c]; exact i8 a q1 q2, by rw [c, c]; exact i9, fun a ha => ?_⟩
        rw [c] at ha
        rw [eL, (aw a (by omega)).2]
        exact i10 a ha
      refine ⟨0, m1, mF, cls, ref, Inv0.im (m0 := m0) (u := u) (j := j) h.1 kall hj hI hG hu (fun w hw => (hU0 w hw).tr ((aw w hw).1.tr (uF w))) (fun w hw => by rw [eL, (aw w hw).2, hl0]) (fun k hk => by rw [eL, al k hk, hl0]) (UA.of (uF u)) (by rw [eE]; exact hN) (by rw [eE]; exact hC5) (by rw [eE]; exact hC8) (by rw [eE]; exact hu8) hAF (fun i => by rw [eE]; exact hg i) hne (fun x => ?_) (fun i => ?_), ?_, fun k g1 g2 => ?_⟩
      · show mL.1 45 0 x = _
        rw [c2]
        show (if _ then m1.1 44 0 _ else m1.1 45 0 x) = _
        rw [r1, r2]
      · show (am_si mL 91 0 j 1).1 91 0 i = _
        rw [rd_j, r3]
      · show mL.1 9 0 17 = 0
        rw [c3.fld 9 0 17 rfl]
        rfl
      · rw [kall.row 42 rfl, kall.row 43 rfl, hI 42 (by omega), hI 43 (by omega)]
        exact h.2.2 k g1 g2
    have hAA := h.1.2.2.2.2.2.2.2.2.1
    obtain ⟨i1, i2, i3, i4, i5, i6, i7, i8, i9, i10⟩ := hAA
    rcases h.1.2.2.2.2.1.1 j hj with ⟨a1, a2⟩ | ⟨a1, u, u3, a3, a4, a5, a6, a7⟩
    · refine key (m.2.2.2.2.2.2.2 8) (am_su (nuU m) 0 j (some (m.2.2.2.2.2.2.2 8))) i7 (fun c hc => funext (fun w => nuU_I (Or.inr hc))) (fun c hc => nuU_G hc) (fun w hw => ⟨nuU_I (c := 8) (Or.inl hw), nuU_I (c := 36) (Or.inl hw), nuU_I (c := 37) (Or.inl hw), nuU_I (c := 38) (Or.inl hw), nuU_I (c := 39) (Or.inl hw), nuU_I (c := 40) (Or.inl hw)⟩) rfl rfl ?_ ?_ ?_ ?_ (fun i => ?_) (fun i hi hne z => ?_) ?_
      · show _ = (nuU m).2.2.2.2.2.2.2 5
        rw [nuU_C, if_neg (by omega)]
      · show _ ≤ (nuU m).2.2.2.2.2.2.2 8
        rw [nuU_C, if_pos (by omega)]; omega
      · show _ < (nuU m).2.2.2.2.2.2.2 8
        rw [nuU_C, if_pos (by omega)]; omega
      · have c : ∀ n, (am_su (nuU m) 0 j (some (m.2.2.2.2.2.2.2 8))).2.2.2.2.2.2.2 n = if n = 8 ∨ (36 ≤ n ∧ n ≤ 40) ∨ n = 100 then m.2.2.2.2.2.2.2 8 + 1 else m.2.2.2.2.2.2.2 n := fun n => nuU_C n
        refine ⟨i1, i2, i3, by rw [c, if_neg (by omega)]; exact i4, by rw [c, c, if_neg (by omega), if_neg (by omega)]; exact i5, by rw [c, c, if_neg (by omega), if_neg (by omega)]; exact i6, by rw [c, if_pos (by omega)]; omega, fun a q1 q2 => by rw [c, c, if_pos (by omega), if_pos (by omega)], by rw [c, c, if_pos (by omega), if_pos (by omega)], fun a ha => ?_⟩
        rw [c, if_pos (by omega)] at ha
        exact i10 a (by omega)
      · show am_u2 m.2.2.2.2.2.1 0 j (some (m.2.2.2.2.2.2.2 8)) 0 i = _
        unfold am_u2
        rw [if_pos rfl]
      · rcases h.1.2.2.2.2.1.1 i hi with ⟨b1, b2⟩ | ⟨b1, w, b2, b3, b4, -⟩
        · rw [b2] at z; cases z
        · rw [b4] at z
          have := Option.some.inj z
          omega
      · unfold fn_X9_image
        rw [if_neg q1, if_pos q2, ck_in hj (by decide), nI_clamp hj31, a2]
    · refine key u m u3 (fun _ _ => rfl) (fun _ _ => rfl) (fun w hw => ⟨rfl, rfl, rfl, rfl, rfl, rfl⟩) rfl rfl rfl (Nat.le_refl _) a3 ⟨i1, i2, i3, i4, i5, i6, i7, i8, i9, i10⟩ (fun i => ?_) (fun i hi hne z => ?_) ?_
      · by_cases e : i = j
        · rw [if_pos e, e]; exact a4
        · rw [if_neg e]
      · have d := h.1.2.2.2.2.1.2 u
        have : (i = 0 ∧ j = 1) ∨ (i = 1 ∧ j = 0) := by omega
        rcases this with ⟨rfl, rfl⟩ | ⟨rfl, rfl⟩
        · exact d z a4
        · exact d a4 z
      · unfold fn_X9_image
        rw [if_neg q1, if_pos q2, ck_in hj (by decide), nI_clamp hj31, a4]
  · refine op_refuse h 1 (by decide) (by decide) ?_ ?_
    · show fn_X9_image a m = _
      unfold fn_X9_image
      by_cases a0 : a < 0
      · rw [if_pos a0]; rfl
      · rw [if_neg a0, if_neg]
        · rfl
        · intro z
          obtain ⟨j, hj31, rfl⟩ := nI_of a0
          have := (nI_ltI (b := 2) hj31 (by decide)).mp z
          exact H1 ⟨fa_of_nlt a0, (nI_leI (b := 1) hj31 (by decide)).mpr (by omega)⟩
    · show fn_X10_image a _ = _
      unfold fn_X10_image
      rw [hi1, if_neg H1, bd_s, if_neg (by decide)]
      rfl
end IM
