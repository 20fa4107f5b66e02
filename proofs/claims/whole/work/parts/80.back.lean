/-! back -/
section BK
variable {m m' : am_m}
abbrev lvBk : List (Nat × Nat) := [(3, 1), (8, 0), (8, 1), (8, 2), (8, 3), (9, 17), (10, 0), (10, 1), (10, 8), (36, 0), (37, 0), (38, 0), (39, 0), (40, 0), (44, 0)]
theorem Inv0.bk (h : Inv0 m) (k : am_kp lvBk [] 2 m m') (hU : ∀ u, u ≠ 0 → sm_U m m' u) (hl : ∀ u, u ≠ 0 → m'.2.2.2.2.1 u = m.2.2.2.2.1 u) (hW : iv_W 999 (m'.1 44 0)) (hV : iv_U m' 0 (m'.1 44 0)) (hK : iv_K m' 0 (m'.1 44 0)) (hhH : hH m') : Inv0 m' := by
  obtain ⟨h1, h2, h3, h4, h5, h6, h7, h8, h9, h10⟩ := h
  have he : m'.2.2.2.2.2 = m.2.2.2.2.2 := k.2.2
  have hS : sm_S m m' := sm_S.of5 (k.obj 5 rfl) (k.row 28 rfl) (k.row 29 rfl)
  have he2 : m'.2.2.2.2.2.2 = m.2.2.2.2.2.2 := by rw [he]
  refine ⟨hW, hV, hK, hhH, ?_, ?_, ?_, ?_, ?_, ?_⟩
  · have e1 : m'.2.2.2.2.2.1 = m.2.2.2.2.2.1 := by rw [he]
    have e45 : m'.1 45 = m.1 45 := k.row 45 rfl
    have ei : ∀ j, iv_img m' j = iv_img m j := fun j => by unfold iv_img; rw [e45]
    refine ⟨fun j hj => ?_, by rw [e1]; exact h5.2⟩
    rcases h5.1 j hj with ⟨a1, a2⟩ | ⟨a1, u, a2, a3, a4, a5, a6, a7⟩
    · exact Or.inl ⟨by rw [k.row 91 rfl]; exact a1, by rw [e1]; exact a2⟩
    · exact Or.inr ⟨by rw [k.row 91 rfl]; exact a1, u, a2, by rw [he]; exact a3, by rw [e1]; exact a4, by rw [ei]; exact a5, by rw [ei]; exact a6.of (hU u (by omega)), by rw [ei]; exact a7.of rfl (fun _ _ => rfl) hS (hl u (by omega)) he2⟩
  · obtain ⟨q1, q2, q3, -⟩ := hU 2 (by decide)
    rw [k.fld 10 0 61 rfl, k.row 63 rfl, q1, q2, q3]; exact h6
  · rw [k.fld 7 0 1 rfl, k.row 35 rfl, k.fld 10 0 13 rfl, k.row 50 rfl]; exact h7
  · exact h8.of (k.fld 9 0 15 rfl) (k.fld 10 0 11 rfl) (k.fld 9 0 16 rfl) (k.fld 10 0 57 rfl) (k.fld 4 0 10 rfl) (k.fld 10 0 18 rfl) (k.fld 10 0 20 rfl)
  · obtain ⟨i1, i2, i3, i4, i5, i6, i7, i8, i9, i10⟩ := h9
    have c : ∀ n, m'.2.2.2.2.2.2.2 n = m.2.2.2.2.2.2.2 n := fun n => by rw [he]
    have l : ∀ n k, m'.2.2.2.2.2.2.1 n k = m.2.2.2.2.2.2.1 n k := fun n k => by rw [he]
    refine ⟨fun a b hab => by rw [l]; exact i1 a b hab, by rw [l]; exact i2, by rw [l]; exact i3, by rw [c]; exact i4, by rw [c, c]; exact i5, by rw [c, c]; exact i6, by rw [c]; exact i7, fun a q1 q2 => by rw [c, c]; exact i8 a q1 q2, by rw [c, c]; exact i9, fun a ha => ?_⟩
    rw [c] at ha
    rw [hl a (by omega)]
    exact i10 a ha
  · exact h10.of (k.rowL 82 rfl) (k.rowL 83 rfl) (k.rowL 84 rfl) (k.rowL 89 rfl)
theorem backrow_ok {k : Nat} (hk : k < 2) : ∃ m', lp_X10_back_39 1000000 (nI k) 0 m = some m' ∧ (∀ x, m'.1 44 0 x = if x < 5518 then iv_img m k x else m.1 44 0 x) ∧ am_kp [(44, 0)] [] 0 m m' := by
  refine (lp_up0 (fun N x a => lp_X10_back_39 N (nI k) x a) (fun i m1 => (∀ x, m1.1 44 0 x = if x < i then iv_img m k x else m.1 44 0 x) ∧ am_kp [(44, 0)] [] 0 m m1) (fun m' => (∀ x, m'.1 44 0 x = if x < 5518 then iv_img m k x else m.1 44 0 x) ∧ am_kp [(44, 0)] [] 0 m m') 5518 (by decide) (fun N m1 hh => ⟨m1, ?_, hh⟩) (fun N i m1 hi hh => Or.inl ⟨am_si m1 44 0 i (iv_img m k i), ?_, fun x => ?_, am_kp.si hh.2 rfl⟩) m ⟨fun x => (if_neg (by omega)).symm, am_kp.rf⟩)
  · show lp_X10_back_39 (N + 1) (nI k) (nI 5518) m1 = _
    rw [lp_X10_back_39.eq_2, if_pos (by decide)]
  · show lp_X10_back_39 (N + 1) (nI k) (nI i) m1 = lp_X10_back_39 N (nI k) (nI (i + 1)) _
    rw [lp_X10_back_39.eq_2, if_neg (show ¬ (5518 : Int32) ≤ nI i from nI_ge (b := 5518) hi (by decide)), show (5518 : Int32) = nI 5518 from rfl, pk_mul, nI_add, ck_in (by omega) (by decide), ck_in (by omega) (by decide), nI_clamp (by omega), nI_clamp (by omega), nI_1, hh.2.row 45 rfl]
    rfl
  · rw [rd_j, hh.1]
    by_cases e : x = i
    · rw [if_pos e, if_pos (by omega), e]
    · rw [if_neg e]
      exact if_iff (by omega)
theorem op_back (h : Inv m) (a : Int32) : op_ok m (fun m => fn_X9_back a m) (fun m => fn_X10_back a m) := by
  have hi1 : ∀ M : am_m, fn_X10_in a.toInt64 0 1 M = some (if 0 ≤ a ∧ a ≤ 1 then 1 else 0) := fun M => by
    rw [show (0 : Int64) = (0 : Int32).toInt64 from rfl, show (1 : Int64) = (1 : Int32).toInt64 from rfl, in_32]
  by_cases H1 : 0 ≤ a ∧ a ≤ 1
  · obtain ⟨j, hj31, rfl⟩ := nI_of (an_nn H1.1)
    have hj : j < 2 := by have := (nI_leI (b := 1) hj31 (by decide)).mp H1.2; omega
    have q1 : ¬ nI j < 0 := an_nn H1.1
    have q2 : nI j < (2 : Int32) := (nI_ltI (b := 2) hj31 (by decide)).mpr hj
    rcases h.1.2.2.2.2.1.1 j hj with ⟨a1, a2⟩ | ⟨a1, u, u3, a3, a4, a5, a6, a7⟩
    · refine op_refuse h 2 (by decide) (by decide) ?_ ?_
      · show fn_X9_back (nI j) m = _
        unfold fn_X9_back
        rw [if_neg q1, if_pos q2, ck_in hj (by decide), nI_clamp hj31, a2]
        rfl
      · show fn_X10_back (nI j) _ = _
        unfold fn_X10_back
        rw [hi1, if_pos H1, bd_s, if_pos (by decide), ck_in hj (by decide), nI_clamp hj31, (st_9_kp _ m).row 91 rfl, a1, if_neg (by decide)]
        rfl
    · obtain ⟨mA, b1, a8, a36, a37, a38, a39, a40, al, aw, aL, ap, aj, ae⟩ := become_ok (u := 0) (v := u) (by omega) m
      have kA := kp_X8_become _ _ _ _ b1
      let m1 : am_m := am_si (am_si mA 3 0 1 0) 9 0 17 0
      have cls : fn_X9_back (nI j) m = some (0, m1) := by
        unfold fn_X9_back
        rw [if_neg q1, if_pos q2, ck_in hj (by decide), nI_clamp hj31, a4]
        show (fn_X8_become 0 u m).bind _ = _
        rw [b1, bd_s]
        unfold fn_X3_clear
        rw [bd_s, told_ok (by decide), bd_s]
      have k1 : am_kp lvBk [] 2 m m1 := am_kp.si (am_kp.si (am_kp.mono kA rfl) rfl) rfl
      let mS : am_m := am_si m1 10 0 0 0
      obtain ⟨mL, c1, c2, c3⟩ := backrow_ok (m := mS) hj
      let mF : am_m := am_si (am_si mL 10 0 8 0) 10 0 1 0
      have eimg : iv_img mS j = iv_img m j := by
        unfold iv_img
        show (fun k => m1.1 45 0 _) = _
        rw [k1.row 45 rfl]
      have ref : fn_X10_back (nI j) m1 = some (0, mF) := by
        unfold fn_X10_back
        rw [hi1, if_pos H1, bd_s, if_pos (by decide), ck_in hj (by decide), nI_clamp hj31, k1.row 91 rfl, a1, if_pos (by decide)]
        show (lp_X10_back_39 1000000 (nI j) 0 mS).bind _ = _
        rw [c1, bd_s, lasting_ok (by decide), bd_s]
      have kLF : am_kp lvBk [] 0 m1 mF := am_kp.si (am_kp.si ((am_kp.si am_kp.rf rfl : am_kp lvBk [] 0 m1 mS).tr (am_kp.mono c3 rfl)) rfl) rfl
      have kAF : am_kp lvBk [] 0 mA mF := (am_kp.si (am_kp.si am_kp.rf rfl) rfl : am_kp lvBk [] 0 mA m1).tr kLF
      have kall : am_kp lvBk [] 2 m mF := k1.tr (am_kp.mono kLF rfl)
      have uF : ∀ u, sm_U mA mF u := fun u => ((sm_U.si (m := mA) 3 0 1 0 u (Or.inr (by decide))).tr (sm_U.si (m := am_si mA 3 0 1 0) 9 0 17 0 u (Or.inr (by decide)))).tr ((sm_U.si (m := m1) 10 0 0 0 u (Or.inr (by decide))).tr ((sm_U.kp c3 rfl u).tr ((sm_U.si (m := mL) 10 0 8 0 u (Or.inr (by decide))).tr (sm_U.si (m := am_si mL 10 0 8 0) 10 0 1 0 u (Or.inr (by decide))))))
      have eL : mF.2.2 = mA.2.2 := kAF.2.2
      have r44 : ∀ x, x < 5518 → mF.1 44 0 x = iv_img m j x := fun x hx => by
        show mL.1 44 0 x = _
        rw [c2, if_pos hx, eimg]
      have hWF : iv_W 999 (mF.1 44 0) := a5.cong (fun k hk => r44 k (by omega))
      have U1 : iv_U mA 0 (iv_img m j) := a6.move a8 a36 a37 a38 a39 a40
      have hVF : iv_U mF 0 (mF.1 44 0) := (U1.of (uF 0)).cong (fun k hk => r44 k (by omega))
      have hKF : iv_K mF 0 (mF.1 44 0) := by
        refine a7.move a5 r44 (fun k hk => by rw [eL]; exact al k hk) (fun s s1 s2 => ⟨?_, ?_, ?_, ?_, ?_⟩) ?_
        · rw [kall.obj 5 rfl]
        · rw [kall.row 28 rfl]
        · rw [kall.row 29 rfl]
        · rw [show mF.2.2.2.2.2 = m.2.2.2.2.2 from kall.2.2]
        · rw [show mF.2.2.2.2.2 = m.2.2.2.2.2 from kall.2.2]
        · rw [show mF.2.2.2.2.2 = m.2.2.2.2.2 from kall.2.2]; exact Nat.le_refl _
      refine ⟨0, m1, mF, cls, ref, Inv0.bk h.1 kall (fun w hw => (aw w hw).1.tr (uF w)) (fun w hw => by rw [eL]; exact (aw w hw).2) hWF hVF hKF (hH.zero ?_ rfl), ?_, fun k g1 g2 => ?_⟩
      · show mL.1 3 0 1 = 0
        rw [c3.fld 3 0 1 rfl]
        rfl
      · show mL.1 9 0 17 = 0
        rw [c3.fld 9 0 17 rfl]
        rfl
      · rw [kall.row 42 rfl, kall.row 43 rfl]
        exact h.2.2 k g1 g2
  · refine op_refuse h 1 (by decide) (by decide) ?_ ?_
    · show fn_X9_back a m = _
      unfold fn_X9_back
      by_cases a0 : a < 0
      · rw [if_pos a0]; rfl
      · rw [if_neg a0, if_neg]
        · rfl
        · intro z
          obtain ⟨j, hj31, rfl⟩ := nI_of a0
          have := (nI_ltI (b := 2) hj31 (by decide)).mp z
          exact H1 ⟨fa_of_nlt a0, (nI_leI (b := 1) hj31 (by decide)).mpr (by omega)⟩
    · show fn_X10_back a _ = _
      unfold fn_X10_back
      rw [hi1, if_neg H1, bd_s, if_neg (by decide)]
      rfl
end BK
