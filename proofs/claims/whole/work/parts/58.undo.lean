/-! pardon, undo -/
section PD
variable {m : am_m} {r : Nat → Int32} {p q w z : Nat}
theorem c_pard {σ : DS} (a b : Int32) (h : cWd σ m) : ∃ m', fn_X9_doPardon a b m = some ((pardA a b σ).1, m') ∧ cWd (pardA a b σ).2 m' ∧ (∀ u, u ≠ 0 → sm_U m m' u) := by
  obtain ⟨hU, hW, hH⟩ := h
  have h7 := hW.n7
  have e8 : m.1 8 0 0 = nI (nv (σ.1 0)) := hU.1.trans hW.r0
  have same : ∀ u, u ≠ 0 → sm_U m m u := fun u _ => ⟨rfl, rfl, rfl, rfl, rfl, rfl⟩
  unfold fn_X9_doPardon pardA
  by_cases hab : a = b
  · rw [if_neg (fun z => z hab), if_pos hab]; exact ⟨m, rfl, ⟨hU, hW, hH⟩, same⟩
  rw [if_pos hab, if_neg hab, hasTwo_ok e8, bd_s]
  by_cases hf : (0 ≤ a ∧ a < nI (nv (σ.1 0))) ∧ (0 ≤ b ∧ b < nI (nv (σ.1 0)))
  · obtain ⟨p, q, hp, hq, rfl, rfl, np, nq⟩ := fk_both h7 hf
    have hne : p ≠ q := fun z => hab (by rw [z])
    rw [if_pos (show (0 ≤ nI p ∧ nI p < nI (nv (σ.1 0))) ∧ (0 ≤ nI q ∧ nI q < nI (nv (σ.1 0))) ∧ nI p ≠ nI q from ⟨hf.1, hf.2, hab⟩), if_pos (show (1 : Int32) ≠ 0 by decide), if_neg (fun z => z hf), np, nq]
    have ew := cweight_ok e8 h7 hp hq hne
    rw [hU.2.2.2.2.2.2.1 _ (by omega)] at ew
    have es := csince_ok e8 h7 hp hq hne
    rw [ew, bd_s]
    by_cases hw : σ.1 (14 + (7 * p + q)) = 0
    · rw [if_neg (fun z => z hw), if_pos hw]; exact ⟨m, rfl, ⟨hU, hW, hH⟩, same⟩
    · rw [if_pos hw, if_neg hw]
      obtain ⟨m1, e1, q1⟩ := keep_ok (z := 2) hH hU hW (by decide) ew es
      have k1 := kp_X3_keep _ _ _ _ _ _ _ e1
      have U1 : iv_U m1 0 σ.1 := hU.of (sm_U.kp k1 rfl 0)
      have e1 : fn_X3_keep 0 2 (nI p) (nI q) 0 m = some m1 := e1
      rw [e1, bd_s, csetHarm_ok (n := nv (σ.1 0)) (by rw [k1.obj 8 rfl]; exact e8) h7 hp hq hne, bd_s]
      refine ⟨_, rfl, ⟨U1.harm (d' := σ.1 (63 + (7 * p + q))) (by omega) (by omega) (fun k => ?_) (fun z => absurd z (by decide)), pardS_W hW hp hq, ?_⟩, fun u hu => ?_⟩
      · show pardS σ.1 p q k = _
        unfold pardS
        by_cases e : k = 63 + (7 * p + q)
        · rw [if_pos e, if_neg (by omega), e]
        · rw [if_neg e]; rfl
      · refine q1 _ (fun k hk => ?_) (harm_step hW hp hq hne (fun k h1 h2 => ?_) (fun hz => ?_)) _ rfl rfl
        · show pardS σ.1 p q k = _
          unfold pardS; rw [if_neg (by omega)]
        · show pardS σ.1 p q k = _
          unfold pardS; rw [if_neg h1]
        · exact hU.2.2.2.2.2.2.2.1 _ (by omega) hz
      · exact (sm_U.kp k1 rfl u).tr ((sm_U.si (m := m1) 37 0 (7 * p + q) 0 u (Or.inl (Ne.symm hu))).tr (sm_U.si (m := am_si m1 37 0 (7 * p + q) 0) 38 0 (7 * p + q) 0 u (Or.inl (Ne.symm hu))))
  · rw [if_neg (show ¬ ((0 ≤ a ∧ a < nI (nv (σ.1 0))) ∧ (0 ≤ b ∧ b < nI (nv (σ.1 0))) ∧ a ≠ b) from fun z => hf ⟨z.1, z.2.1⟩), if_neg (show ¬ (0 : Int32) ≠ 0 by decide), if_pos hf]
    exact ⟨m, rfl, ⟨hU, hW, hH⟩, same⟩
theorem r_pard {σ : DS} (a b : Int32) (hW : iv_W 999 σ.1) (hK : σ.2.1 ≤ 16) (h : rWd σ m) : ∃ m', fn_X10_pardonNow a b m = some ((pardA a b σ).1, m') ∧ rWd (pardA a b σ).2 m' := by
  obtain ⟨h44, hH⟩ := h
  have h7 := hW.n7
  have e0 : m.1 44 0 0 = nI (nv (σ.1 0)) := by rw [h44]; exact hW.r0
  unfold fn_X10_pardonNow pardA
  by_cases hab : a = b
  · rw [if_neg (fun z => z hab), if_pos hab]; exact ⟨m, rfl, h44, hH⟩
  rw [if_pos hab, if_neg hab, isFolk_ok h7 e0, bd_s]
  by_cases ha : 0 ≤ a ∧ a < nI (nv (σ.1 0))
  · rw [if_pos ha, if_neg (show ¬ (1 : Int32) = 0 by decide), isFolk_ok h7 e0, bd_s]
    by_cases hb : 0 ≤ b ∧ b < nI (nv (σ.1 0))
    · obtain ⟨p, q, hp, hq, rfl, rfl, np, nq⟩ := fk_both h7 ⟨ha, hb⟩
      rw [if_pos hb, if_pos (show (1 : Int32) ≠ 0 by decide), if_neg (fun z => z ⟨ha, hb⟩), np, nq, weightOf_ok (by omega) (by omega), bd_s, h44]
      by_cases hw : σ.1 (14 + (7 * p + q)) = 0
      · rw [if_neg (fun z => z hw), if_pos hw]; exact ⟨m, rfl, h44, hH⟩
      · rw [if_pos hw, if_neg hw]
        obtain ⟨m1, e1, q1⟩ := remember_ok (z := 2) hH hK
        have k1 := kp_X10_remember _ _ _ e1
        have e1 : fn_X10_remember 2 m = some m1 := e1
        rw [e1, bd_s, show ((14 : Int32) + (7 : Int32) * nI p) + nI q = nI (14 + (7 * p + q)) by rw [show (14 : Int32) = nI 14 from rfl, show (7 : Int32) = nI 7 from rfl, pk_mul, nI_add, nI_add, Nat.add_assoc], ck_in (by omega) (by decide), nI_clamp (by omega)]
        rw [h44] at q1
        refine ⟨_, rfl, funext (fun k => ?_), q1⟩
        show (am_si m1 44 0 (14 + (7 * p + q)) 0).1 44 0 k = pardS σ.1 p q k
        rw [rd_j, k1.row 44 rfl, h44]
        rfl
    · rw [if_neg hb, if_neg (show ¬ (0 : Int32) ≠ 0 by decide), if_pos (fun z => hb z.2)]
      exact ⟨m, rfl, h44, hH⟩
  · rw [if_neg ha, if_pos (show (0 : Int32) = 0 from rfl), if_pos (fun z => ha z.1)]
    exact ⟨m, rfl, h44, hH⟩
theorem pardA_ok {σ : DS} (a b : Int32) (hW : iv_W 999 σ.1) : an_ok (pardA a b σ).1 ∧ keepR σ.1 (pardA a b σ).2.1 := by
  have h7 := hW.n7
  unfold pardA
  by_cases h1 : a = b
  · rw [if_pos h1]; exact ⟨an_no 1 (by decide) (by decide), keepR.rf⟩
  rw [if_neg h1]
  by_cases h2 : (0 ≤ a ∧ a < nI (nv (σ.1 0))) ∧ (0 ≤ b ∧ b < nI (nv (σ.1 0)))
  · rw [if_neg (fun z => z h2)]
    obtain ⟨p, q, hp, hq, rfl, rfl, np, nq⟩ := fk_both h7 h2
    rw [np, nq]
    by_cases h3 : σ.1 (14 + (7 * p + q)) = 0
    · rw [if_pos h3]; exact ⟨an_no 3 (by decide) (by decide), keepR.rf⟩
    · rw [if_neg h3]
      refine ⟨w_ok hW (by omega) (by omega), fun k hk => ?_⟩
      show pardS σ.1 p q k = σ.1 k
      unfold pardS; rw [if_neg (by omega)]
  · rw [if_pos h2]; exact ⟨an_no 2 (by decide) (by decide), keepR.rf⟩
theorem op_pardon (h : Inv m) (a b : Int32) : op_ok m (fun m => fn_X9_pardon a b m) (fun m => fn_X10_pardon a b m) := by
  refine op_act (F := fn_X9_doPardon a b) (G := fn_X10_pardonNow a b) (A := pardA a b) h (fun σ e w => ?_) (fun σ m1 e w w1 _ => ?_) (fun σ e w => pardA_ok a b w.2.1)
  · obtain ⟨m', e1, e2, e3⟩ := c_pard a b w
    exact ⟨m', e1, e2, e3, am_kp.mono (kp_X9_doPardon _ _ _ _ e1) rfl⟩
  · obtain ⟨m', e1, e2⟩ := r_pard a b w.2.1 w.2.2.1 w1
    exact ⟨m', e1, e2, am_kp.mono (kp_X10_pardonNow _ _ _ _ e1) rfl⟩
end PD
section UN
variable {m : am_m} {r : Nat → Int32}
/-- the last deed undone -/
theorem op_undo (h : Inv m) : op_ok m (fun m => fn_X9_undo m) (fun m => fn_X10_undo m) := by
  obtain ⟨h1, K, hK, h3, h4⟩ := h.1.2.2.2.1
  have hW := h.w
  have hU := h.u
  have h7 := hW.n7
  cases K with
  | zero =>
    refine op_refuse h 3 (by decide) (by decide) ?_ ?_
    · show fn_X9_undo m = _
      unfold fn_X9_undo fn_X3_undoLatest
      rw [if_neg (by rw [h1, h3]; decide), bd_s]
      rfl
    · show fn_X10_undo _ = _
      unfold fn_X10_undo
      rw [if_neg (by rw [(st_9_kp _ m).fld 10 0 8 rfl, h3]; decide)]
      rfl
  | succ K =>
    obtain ⟨g1, ⟨z, hz, g2⟩, g3, g4⟩ := h4 K (by omega)
    rw [if_pos rfl] at g4
    obtain ⟨s1, s2, s3, s4, s5⟩ := g4
    -- the row behind it
    generalize er : iv_put (m.1 44 0) (fun i => m.1 46 0 (108 * K + i)) = r' at g3
    have r'i : ∀ i, i < 108 → r' (4 + i) = m.1 46 0 (108 * K + i) := fun i hi => by
      rw [← er]
      unfold iv_put
      rw [if_pos (by omega), Nat.add_sub_cancel_left]
    have r'o : ∀ k, (k < 4 ∨ 112 ≤ k) → r' k = m.1 44 0 k := fun k hk => by
      rw [← er]
      unfold iv_put
      rw [if_neg (by omega)]
    have ek : m.1 3 0 1 = nI (K + 1) := h1.trans h3
    have e8 : m.1 8 0 0 = nI (nv (m.1 44 0 0)) := hU.1.trans hW.r0
    -- the class: its day, who was fed, its HARM
    let mC : am_m := am_sc (am_si (am_si m 3 0 1 (nI K)) 39 0 0 (m.1 24 0 (13 * K + 5))) 24 0 36 0 (13 * K + 6) 0 7
    have c39 : ∀ k, mC.1 39 0 k = if k = 0 then m.1 24 0 (13 * K + 5) else m.1 39 0 k := fun k => by
      show (am_si (am_si m 3 0 1 (nI K)) 39 0 0 (m.1 24 0 (13 * K + 5))).1 39 0 k = _
      rw [rd_j]
      rfl
    have c36 : ∀ k, k < 7 → mC.1 36 0 k = m.1 24 0 (13 * K + (6 + k)) := fun k hk => by
      show (am_sc (am_si (am_si m 3 0 1 (nI K)) 39 0 0 (m.1 24 0 (13 * K + 5))) 24 0 36 0 (13 * K + 6) 0 7).1 36 0 k = _
      rw [rd_sc, if_pos ⟨rfl, rfl⟩, pk_cpy_in (Nat.zero_le _) (by omega)]
      show m.1 24 0 (13 * K + 6 + (k - 0)) = _
      rw [Nat.sub_zero, Nat.add_assoc]
    have hset : ∃ mD, fn_X8_setHarm 0 (m.1 24 0 (13 * K + 1)) (m.1 24 0 (13 * K + 2)) (m.1 24 0 (13 * K + 3)) (m.1 24 0 (13 * K + 4)) mC = some mD ∧ mD.1 24 = m.1 24 ∧ mD.1 3 0 1 = nI K ∧ iv_U mD 0 r' ∧ (∀ u, u ≠ 0 → sm_U m mD u) ∧ am_kp lv0 sc_L 1 m mD := by
      have mC8 : mC.1 8 = m.1 8 := rfl
      have fin : ∀ mD : am_m, mD.1 8 0 = m.1 8 0 → mD.1 36 0 = mC.1 36 0 → mD.1 39 0 = mC.1 39 0 → mD.1 40 0 = m.1 40 0 → (∀ p q, p < 7 → q < 7 → mD.1 37 0 (7 * p + q) = r' (14 + (7 * p + q)) ∧ (0 < nv (r' (14 + (7 * p + q))) → mD.1 38 0 (7 * p + q) = r' (63 + (7 * p + q)))) → iv_U mD 0 r' := by
        intro mD f8 f36 f39 f40 fw
        unfold iv_U
        rw [f8, f36, f39, f40]
        refine iv_V.ch hU (fun k hk => Or.inl ⟨rfl, r'o k (by omega)⟩) (fun k hk => ?_) (fun k hk => Or.inr ?_) (fun k hk => Or.inr ?_) (fun k hk => Or.inl ⟨rfl, r'o _ (by omega)⟩)
        · have : k = 0 ∨ k = 1 ∨ k = 2 := by omega
          rcases this with rfl | rfl | rfl
          · refine Or.inr ?_
            rw [c39, if_pos rfl, r'i 0 (by omega)]; exact s3
          · exact Or.inl ⟨by rw [c39, if_neg (by decide)], by rw [r'i 1 (by omega)]; exact s1⟩
          · exact Or.inl ⟨by rw [c39, if_neg (by decide)], by rw [r'i 2 (by omega)]; exact s2⟩
        · rw [c36 k hk, show 7 + k = 4 + (3 + k) by omega, r'i _ (by omega)]; exact s4 k hk
        · have := fw (k / 7) (k % 7) (by omega) (by omega)
          rw [show 7 * (k / 7) + k % 7 = k by omega] at this
          exact this
      have ra : ∀ p q, p < 7 → q < 7 → r' (14 + (7 * p + q)) = m.1 46 0 (108 * K + (10 + (7 * p + q))) ∧ r' (63 + (7 * p + q)) = m.1 46 0 (108 * K + (59 + (7 * p + q))) := fun p q hp hq => ⟨by rw [show 14 + (7 * p + q) = 4 + (10 + (7 * p + q)) by omega, r'i _ (by omega)], by rw [show 63 + (7 * p + q) = 4 + (59 + (7 * p + q)) by omega, r'i _ (by omega)]⟩
      -- a cell that the deed didn't touch
      have cell : ∀ p q, p < 7 → q < 7 → ¬ (m.1 24 0 (13 * K + 1) = nI p ∧ m.1 24 0 (13 * K + 2) = nI q ∧ p < nv (m.1 44 0 0) ∧ q < nv (m.1 44 0 0) ∧ p ≠ q) → m.1 37 0 (7 * p + q) = r' (14 + (7 * p + q)) ∧ (0 < nv (r' (14 + (7 * p + q))) → m.1 38 0 (7 * p + q) = r' (63 + (7 * p + q))) := by
        intro p q hp hq hn
        have t := s5 p q hp hq
        have t : (if m.1 24 0 (13 * K + 1) = nI p ∧ m.1 24 0 (13 * K + 2) = nI q ∧ p < nv (m.1 44 0 0) ∧ q < nv (m.1 44 0 0) ∧ p ≠ q then m.1 24 0 (13 * K + 3) = m.1 46 0 (108 * K + (10 + (7 * p + q))) ∧ (0 < nv (m.1 46 0 (108 * K + (10 + (7 * p + q)))) → m.1 24 0 (13 * K + 4) = m.1 46 0 (108 * K + (59 + (7 * p + q)))) else m.1 46 0 (108 * K + (10 + (7 * p + q))) = m.1 44 0 (4 + (10 + (7 * p + q))) ∧ (0 < nv (m.1 46 0 (108 * K + (10 + (7 * p + q)))) → m.1 46 0 (108 * K + (59 + (7 * p + q))) = m.1 44 0 (4 + (59 + (7 * p + q))))) := t
        rw [if_neg hn] at t
        obtain ⟨ra1, ra2⟩ := ra p q hp hq
        rw [ra1, ra2]
        refine ⟨?_, fun hz => ?_⟩
        · rw [t.1, hU.2.2.2.2.2.2.1 _ (by omega), show 4 + (10 + (7 * p + q)) = 14 + (7 * p + q) by omega]
        · rw [t.2 hz, show 4 + (59 + (7 * p + q)) = 63 + (7 * p + q) by omega]
          refine hU.2.2.2.2.2.2.2.1 _ (by omega) ?_
          rw [t.1, show 4 + (10 + (7 * p + q)) = 14 + (7 * p + q) by omega] at hz
          exact hz
      have uC : ∀ u, u ≠ 0 → sm_U m mC u := fun u hu => by
        have e36 : mC.1 36 u = m.1 36 u := by
          show (am_u2 (am_si (am_si m 3 0 1 (nI K)) 39 0 0 (m.1 24 0 (13 * K + 5))).1 36 0 _) 36 u = _
          rw [am_u2_ne (fun z => hu z.2)]
          rfl
        have e39 : mC.1 39 u = m.1 39 u := by
          show am_u3 (am_si m 3 0 1 (nI K)).1 39 0 0 _ 39 u = (am_si m 3 0 1 (nI K)).1 39 u
          exact u3_row 39 u (Or.inr hu)
        exact ⟨rfl, e36, rfl, rfl, e39, rfl⟩
      have kC : am_kp lv0 sc_L 1 m mC := am_kp.sc (am_kp.si (am_kp.si am_kp.rf rfl) rfl) rfl
      by_cases H : (0 ≤ m.1 24 0 (13 * K + 1) ∧ m.1 24 0 (13 * K + 1) < nI (nv (m.1 44 0 0))) ∧ (0 ≤ m.1 24 0 (13 * K + 2) ∧ m.1 24 0 (13 * K + 2) < nI (nv (m.1 44 0 0))) ∧ m.1 24 0 (13 * K + 1) ≠ m.1 24 0 (13 * K + 2)
      · obtain ⟨p, q, hp, hq, ep, eq, -, -⟩ := fk_both h7 ⟨H.1, H.2.1⟩
        have hne : p ≠ q := fun z => H.2.2 (by rw [ep, eq, z])
        rw [ep, eq, csetHarm_ok (m := mC) e8 h7 hp hq hne]
        refine ⟨_, rfl, rfl, rfl, fin _ rfl rfl rfl rfl (fun p' q' hp' hq' => ?_), fun u hu => (uC u hu).tr ((sm_U.si (m := mC) 37 0 (7 * p + q) (m.1 24 0 (13 * K + 3)) u (Or.inl (Ne.symm hu))).tr (sm_U.si (m := am_si mC 37 0 (7 * p + q) (m.1 24 0 (13 * K + 3))) 38 0 (7 * p + q) (m.1 24 0 (13 * K + 4)) u (Or.inl (Ne.symm hu)))), am_kp.si (am_kp.si kC rfl) rfl⟩
        have f37 : ∀ k, (am_si (am_si mC 37 0 (7 * p + q) (m.1 24 0 (13 * K + 3))) 38 0 (7 * p + q) (m.1 24 0 (13 * K + 4))).1 37 0 k = if k = 7 * p + q then m.1 24 0 (13 * K + 3) else m.1 37 0 k := fun k => by
          show (am_si mC 37 0 (7 * p + q) (m.1 24 0 (13 * K + 3))).1 37 0 k = _
          rw [rd_j]
          rfl
        have f38 : ∀ k, (am_si (am_si mC 37 0 (7 * p + q) (m.1 24 0 (13 * K + 3))) 38 0 (7 * p + q) (m.1 24 0 (13 * K + 4))).1 38 0 k = if k = 7 * p + q then m.1 24 0 (13 * K + 4) else m.1 38 0 k := fun k => by
          rw [rd_j]
          rfl
        rw [f37, f38]
        by_cases e : p' = p ∧ q' = q
        · obtain ⟨rfl, rfl⟩ := e
          rw [if_pos rfl, if_pos rfl]
          have t := s5 p' q' hp' hq'
          have t : (if m.1 24 0 (13 * K + 1) = nI p' ∧ m.1 24 0 (13 * K + 2) = nI q' ∧ p' < nv (m.1 44 0 0) ∧ q' < nv (m.1 44 0 0) ∧ p' ≠ q' then m.1 24 0 (13 * K + 3) = m.1 46 0 (108 * K + (10 + (7 * p' + q'))) ∧ (0 < nv (m.1 46 0 (108 * K + (10 + (7 * p' + q')))) → m.1 24 0 (13 * K + 4) = m.1 46 0 (108 * K + (59 + (7 * p' + q')))) else _) := t
          rw [if_pos ⟨ep, eq, hp, hq, hne⟩] at t
          obtain ⟨ra1, ra2⟩ := ra p' q' hp' hq'
          rw [ra1, ra2]
          exact t
        · rw [if_neg (by omega), if_neg (by omega)]
          refine cell p' q' hp' hq' (fun w => e ⟨?_, ?_⟩)
          · exact ((nI_eq (by omega) (by omega)).mp (w.1.symm.trans ep))
          · exact ((nI_eq (by omega) (by omega)).mp (w.2.1.symm.trans eq))
      · refine ⟨mC, ?_, rfl, rfl, fin _ rfl rfl rfl rfl (fun p q hp hq => cell p q hp hq (fun w => H ?_)), uC, kC⟩
        · unfold fn_X8_setHarm
          rw [hasTwo_ok (m := mC) e8, if_neg H, bd_s, if_pos rfl]
        · rw [w.1, w.2.1]
          exact ⟨fk_in h7 w.2.2.1, fk_in h7 w.2.2.2.1, nI_ne (by omega) (by omega) w.2.2.2.2⟩
    obtain ⟨mD, d1, d2, d3, d4, d5, d6⟩ := hset
    have gz : m.1 24 0 (13 * K) = nI z := g1.symm.trans g2
    -- the reference
    obtain ⟨mB, b1, b2⟩ := putBack_ok (m := am_si (am_si (am_si mD 9 0 17 0) 10 0 0 0) 10 0 8 (nI K)) (K := K) (by omega)
    have kB := kp_X10_putBack _ _ _ b1
    have kD : am_kp [(3, 1), (8, 0), (24, 0), (36, 0), (37, 0), (38, 0), (39, 0)] [] 0 m mD := (am_kp.sc (am_kp.si (am_kp.si am_kp.rf rfl) rfl) rfl : am_kp [(3, 1), (8, 0), (24, 0), (36, 0), (37, 0), (38, 0), (39, 0)] [] 0 m mC).tr (am_kp.mono (kp_X8_setHarm _ _ _ _ _ _ _ d1) rfl)
    have eB : mB.1 44 0 = r' := by
      funext k
      rw [b2]
      show (if 4 ≤ k ∧ k < 112 then mD.1 46 0 (108 * K + (k - 4)) else mD.1 44 0 k) = r' k
      rw [kD.row 46 rfl, kD.row 44 rfl]
      by_cases hk : 4 ≤ k ∧ k < 112
      · rw [if_pos hk, ← r'i (k - 4) (by omega), show 4 + (k - 4) = k by omega]
      · rw [if_neg hk, r'o k (by omega)]
    have hm8 : (am_si mD 9 0 17 0).1 10 0 8 = nI (K + 1) := by
      show mD.1 10 0 8 = _
      rw [kD.fld 10 0 8 rfl, h3]
    have uB : ∀ u, sm_U mD mB u := fun u => (sm_U.si (m := mD) 9 0 17 0 u (Or.inr (by decide))).tr ((sm_U.si (m := am_si mD 9 0 17 0) 10 0 0 0 u (Or.inr (by decide))).tr ((sm_U.si (m := am_si (am_si mD 9 0 17 0) 10 0 0 0) 10 0 8 (nI K) u (Or.inr (by decide))).tr (sm_U.kp kB rfl u)))
    refine op_done (nI z) h (mA := mD) (mB := mB) ?_ ?_ d6 (am_kp.tr (am_kp.si (am_kp.si am_kp.rf rfl) rfl) (am_kp.mono kB rfl)) (fun u hu => (d5 u hu).tr (uB u)) (by rw [eB]; exact g3) (by rw [eB]; exact d4.of (uB 0)) (by rw [eB]; exact r'o 2 (by omega)) (fun j hj => by rw [eB]; exact r'o j (by omega)) ?_
    · show fn_X9_undo m = _
      unfold fn_X9_undo fn_X3_undoLatest
      have ei : ∀ i, i < 13 → ((am_si m 3 0 1 ((m.1 3 0 1) - (1 : Int32))).1 3 0 1) * (13 : Int32) + nI i = nI (13 * K + i) := fun i _ => by
        show ((m.1 3 0 1) - (1 : Int32)) * (13 : Int32) + nI i = _
        rw [ek, nI_pred, i13]
      have hg : ¬ (nI (13 * K + 6) < 0 ∨ (0 : Int32) < 0 ∨ (7 : Int32) < 0 ∨ 208 < 13 * K + 6 + (7 : Int32).toNatClampNeg ∨ 7 < (0 : Int32).toNatClampNeg + (7 : Int32).toNatClampNeg) := by
        have e7 : (7 : Int32).toNatClampNeg = 7 := by decide
        rintro (z | z | z | z | z)
        · exact nI_pos (by omega) z
        · exact absurd z (by decide)
        · exact absurd z (by decide)
        · omega
        · exact absurd z (by decide)
      rw [show (((am_si m 3 0 1 ((m.1 3 0 1) - (1 : Int32))).1 3 0 1) * (13 : Int32) + (5 : Int32)) = nI (13 * K + 5) from ei 5 (by omega), show (((am_si m 3 0 1 ((m.1 3 0 1) - (1 : Int32))).1 3 0 1) * (13 : Int32) + (6 : Int32)) = nI (13 * K + 6) from ei 6 (by omega), show (((am_si m 3 0 1 ((m.1 3 0 1) - (1 : Int32))).1 3 0 1) * (13 : Int32) + (1 : Int32)) = nI (13 * K + 1) from ei 1 (by omega), show (((am_si m 3 0 1 ((m.1 3 0 1) - (1 : Int32))).1 3 0 1) * (13 : Int32) + (2 : Int32)) = nI (13 * K + 2) from ei 2 (by omega), show (((am_si m 3 0 1 ((m.1 3 0 1) - (1 : Int32))).1 3 0 1) * (13 : Int32) + (3 : Int32)) = nI (13 * K + 3) from ei 3 (by omega), show (((am_si m 3 0 1 ((m.1 3 0 1) - (1 : Int32))).1 3 0 1) * (13 : Int32) + (4 : Int32)) = nI (13 * K + 4) from ei 4 (by omega), show (((am_si m 3 0 1 ((m.1 3 0 1) - (1 : Int32))).1 3 0 1) * (13 : Int32) + (0 : Int32)) = nI (13 * K + 0) from ei 0 (by omega), nI_clamp (by omega), nI_clamp (by omega), nI_clamp (by omega), nI_clamp (by omega), nI_clamp (by omega), nI_clamp (by omega), nI_clamp (by omega), gd_t hg, ck_in (by omega) (by decide), ck_in (by omega) (by decide), ck_in (by omega) (by decide), ck_in (by omega) (by decide), ck_in (by omega) (by decide), ek, nI_pred, if_pos (show (1 : Int32) ≤ nI (K + 1) from nI_le (a := 1) (by omega) (by omega))]
      show (Option.bind (Option.bind (fn_X8_setHarm 0 (m.1 24 0 (13 * K + 1)) (m.1 24 0 (13 * K + 2)) (m.1 24 0 (13 * K + 3)) (m.1 24 0 (13 * K + 4)) mC) _) _) = _
      rw [d1, bd_s, ck_in (by omega) (by decide), bd_s, d2, Nat.add_zero, gz, told_ok (nI_pos' (by omega)), bd_s]
    · show fn_X10_undo (am_si mD 9 0 17 0) = _
      unfold fn_X10_undo
      rw [hm8, if_pos (nI_ne0 (by omega) (by omega)), nI_pred, b1, bd_s, show mB.1 10 0 8 = nI K from kB.fld 10 0 8 rfl, ck_in (by omega) (by decide), nI_clamp (by omega), kB.row 47 rfl]
      show ((fn_X10_tell (mD.1 47 0 K) mB).bind _) = _
      rw [kD.row 47 rfl, g2, tell_ok (nI_pos' (by omega)), bd_s]
    · refine ⟨?_, K, by omega, ?_, fun j hj => ?_⟩
      · rw [kB.fld 3 0 1 rfl, kB.fld 10 0 8 rfl]; exact d3
      · rw [kB.fld 10 0 8 rfl]; rfl
      · obtain ⟨t1, t2, t3, t4⟩ := h4 j (by omega)
        have e24 : mB.1 24 0 = m.1 24 0 := by rw [kB.row 24 rfl]; show mD.1 24 0 = _; rw [d2]
        have e46 : mB.1 46 0 = m.1 46 0 := by rw [kB.row 46 rfl]; show mD.1 46 0 = _; rw [kD.row 46 rfl]
        have e47 : mB.1 47 0 = m.1 47 0 := by rw [kB.row 47 rfl]; show mD.1 47 0 = _; rw [kD.row 47 rfl]
        rw [e24, e46, e47, eB]
        have ep : ∀ s : Nat → Int32, iv_put r' s = iv_put (m.1 44 0) s := fun s => by
          funext k
          unfold iv_put
          by_cases hk : 4 ≤ k ∧ k < 112
          · rw [if_pos hk, if_pos hk]
          · rw [if_neg hk, if_neg hk]; exact r'o k (by omega)
        refine ⟨t1, t2, by rw [ep]; exact t3, ?_⟩
        rw [r'o 0 (by omega)]
        refine t4.cong (fun _ _ => rfl) (fun i hi => ?_) (fun _ _ => rfl)
        rw [if_neg (show ¬ j + 1 = K + 1 by omega)]
        by_cases e : j + 1 = K
        · rw [if_pos e, e]; exact r'i i hi
        · rw [if_neg e]
end UN
