/-! the class's numbers and words are the pure reader's -/
section CE
variable {T : Nat → Nat} {L n p : Nat} {m m' : am_m} {ord : Bool} {c : rcd} {a lv aw dep : Nat} {rc : am_rc}
def clf (T : Nat → Nat) (L n : Nat) (ord : Bool) (o : Option (Int32 × am_m)) (c : rcd) (a : Nat) (r : Nat ⊕ pst) : Prop := match r with
  | .inr st => ∃ m' x, o = some (1, m') ∧ cmm T L n ord m' (rcu c a x) (a + 1) st.1 st.2.1 st.2.2.1 ∧ csg ord (rcu c a x) a (a + 1) st.2.2.2.1 st.2.2.2.2
  | .inl q => ∃ m', o = some (0, m') ∧ m'.1 4 0 10 = nI q
/-- a word is put down -/
theorem cwd {x : Nat} (hm : cmm T L n ord m c a p lv aw) (hx : x < if ord then 19 else 8) (ha : a < 448) : ∃ m', ((fn_X5_put 0 258 (nI x) m).bind fun r6 => (fn_X4_goTo ((r6.1 4 0 5) + (1 : Int32)) r6).bind fun r8 => some ((1 : Int32), r8)) = some (1, m') ∧ cmm T L n ord m' (rcu c a (258, x)) (a + 1) (lx_nx T L p) lv aw := by
  have hx2 : x ≤ 1000 := by cases ord <;> simp at hx <;> omega
  obtain ⟨m1, e1, e2⟩ := cput (t := 258) (w := x) (by decide) hx2 hm ha
  obtain ⟨m2, f1, f2⟩ := cgoto e2
  exact ⟨m2, by rw [show fn_X5_put 0 258 (nI x) m = some m1 from e1, bd_s, f1, bd_s], f2⟩
theorem cbad (hm : cat T L n m p) : ∃ m', ((fn_X4_failed m).bind fun r2 => am_gd (r2.1 = 0 ∨ r2.1 = 1) (some (r2.1, r2.2))) = some (0, m') ∧ m'.1 4 0 10 = nI p := by
  obtain ⟨m', e1, e2⟩ := cfail hm
  exact ⟨m', by rw [e1, bd_s, gd_t (Or.inl rfl)], e2⟩
theorem clawword (hm : cmm T L n false m c a p (lv + 1) aw) (hkd : lx_kd T L p ≤ 286) (hpL : p ≤ L) (hL : L ≤ 400) (ha : a ≤ p) : clf T L n false (fn_X4_readLawWord m) c a (if 274 ≤ lx_kd T L p ∧ lx_kd T L p ≤ 281 then sp_wd T L p lv aw (lx_kd T L p - 274) else .inl p) := by
  unfold fn_X4_readLawWord
  rw [hm.1.2.2.1]
  by_cases c1 : lx_kd T L p < 274
  · rw [if_neg (show ¬ (274 ≤ lx_kd T L p ∧ lx_kd T L p ≤ 281) by omega), if_pos (show nI (lx_kd T L p) < (274 : Int32) from (nI_ltI (b := 274) (by omega) (by decide)).mpr c1)]
    exact cbad hm.1
  rw [if_neg (show ¬ nI (lx_kd T L p) < (274 : Int32) from fun z => c1 ((nI_ltI (b := 274) (by omega) (by decide)).mp z))]
  by_cases c2 : lx_kd T L p ≤ 281
  · rw [if_pos (show (274 ≤ lx_kd T L p ∧ lx_kd T L p ≤ 281) from ⟨by omega, c2⟩), if_pos (show nI (lx_kd T L p) ≤ (281 : Int32) from nI_le (b := 281) c2 (by decide)), show (274 : Int32) = nI 274 from rfl, pk_sub (by omega)]
    have := kd_in hpL (show lx_kd T L p ≠ 257 by omega)
    obtain ⟨m', e1, e2⟩ := cwd (x := lx_kd T L p - 274) hm (by show _ < 8; omega) (by omega)
    exact ⟨m', _, e1, e2, csg_wd (by show _ < 8; omega)⟩
  · rw [if_neg (show ¬ (274 ≤ lx_kd T L p ∧ lx_kd T L p ≤ 281) by omega), if_neg (show ¬ nI (lx_kd T L p) ≤ (281 : Int32) from fun z => c2 ((nI_leI (b := 281) (by omega) (by decide)).mp z))]
    exact cbad hm.1
/-- fed, at: the number behind it -/
theorem cfed (hm : cmm T L n true m c a p (lv + 1) aw) (haw : aw < 128) (hkd : lx_kd T L p ≤ 286) (hk : lx_kd T L p = 278 ∨ lx_kd T L p = 286) (hT : ∀ k, k < L → T k < 256) (hpL : p ≤ L) (hL : L ≤ 400) (ha : a ≤ p) : clf T L n true ((fn_X4_goTo ((m.1 4 0 5) + (1 : Int32)) m).bind fun r2 => (if (r2.1 4 0 6) ≠ (256 : Int32) then (fn_X4_failed r2).bind fun r5 => am_gd (r5.1 = 0 ∨ r5.1 = 1) (some (r5.1, r5.2)) else (if (r2.1 4 0 7) < (7 : Int32) then (fn_X5_put 0 258 ((if (m.1 4 0 6) ≠ (286 : Int32) then (5 : Int32) else (12 : Int32)) + (r2.1 4 0 7)) r2).bind fun r10 => (fn_X4_goTo ((r10.1 4 0 5) + (1 : Int32)) (am_si r10 5 0 4 ((r10.1 5 0 4) ||| (if (m.1 4 0 6) ≠ (286 : Int32) then (0 : Int32) else ((1 : Int32) <<< ((r10.1 4 0 7) &&& 31)))))).bind fun r13 => some (1, r13) else (fn_X4_failed r2).bind fun r15 => am_gd (r15.1 = 0 ∨ r15.1 = 1) (some (r15.1, r15.2))))) c a (if lx_kd T L (lx_nx T L p) = 256 ∧ lx_vl T L (lx_nx T L p) < 7 then sp_wd T L (lx_nx T L p) lv (if lx_kd T L p = 286 then aw ||| 2 ^ lx_vl T L (lx_nx T L p) else aw) ((if lx_kd T L p = 286 then 12 else 5) + lx_vl T L (lx_nx T L p)) else .inl (lx_nx T L p)) := by
  have hin := kd_in hpL (show lx_kd T L p ≠ 257 by omega)
  have k6 : m.1 4 0 6 = nI (lx_kd T L p) := hm.1.2.2.1
  obtain ⟨m1, e1, e2⟩ := cgoto hm
  have hx := nx_in hpL (show lx_kd T L p ≠ 257 by omega)
  have kq := kd_286 hT hx.2
  have vq : lx_vl T L (lx_nx T L p) ≤ 1001 := by
    unfold lx_vl
    split
    · omega
    · split
      · omega
      · split
        · exact num_le _
        · omega
  rw [e1, bd_s, e2.1.2.2.1, e2.1.2.2.2, k6]
  by_cases c1 : lx_kd T L (lx_nx T L p) = 256
  · rw [if_neg (show ¬ nI (lx_kd T L (lx_nx T L p)) ≠ (256 : Int32) from fun z => z (by rw [c1]; rfl))]
    by_cases c2 : lx_vl T L (lx_nx T L p) < 7
    · rw [if_pos (show lx_kd T L (lx_nx T L p) = 256 ∧ lx_vl T L (lx_nx T L p) < 7 from ⟨c1, c2⟩), if_pos (show nI (lx_vl T L (lx_nx T L p)) < (7 : Int32) from (nI_ltI (b := 7) (by omega) (by decide)).mpr c2)]
      generalize hv : lx_vl T L (lx_nx T L p) = v at *
      have fin : ∀ (base mk : Nat), base + v < 19 → mk < 128 → (∀ r10 : am_m, r10.1 5 0 4 = nI aw → r10.1 4 0 7 = nI v → (r10.1 5 0 4) ||| (if nI (lx_kd T L p) ≠ (286 : Int32) then (0 : Int32) else ((1 : Int32) <<< ((r10.1 4 0 7) &&& 31))) = nI mk) → (if nI (lx_kd T L p) ≠ (286 : Int32) then (5 : Int32) else (12 : Int32)) + nI v = nI (base + v) → clf T L n true ((fn_X5_put 0 258 ((if nI (lx_kd T L p) ≠ (286 : Int32) then (5 : Int32) else (12 : Int32)) + nI v) m1).bind fun r10 => (fn_X4_goTo ((r10.1 4 0 5) + (1 : Int32)) (am_si r10 5 0 4 ((r10.1 5 0 4) ||| (if nI (lx_kd T L p) ≠ (286 : Int32) then (0 : Int32) else ((1 : Int32) <<< ((r10.1 4 0 7) &&& 31)))))).bind fun r13 => some (1, r13)) c a (sp_wd T L (lx_nx T L p) lv mk (base + v)) := by
        intro base mk hb hmk hor hsum
        rw [hsum]
        obtain ⟨m2, f1, f2⟩ := cput (t := 258) (w := base + v) (by decide) (by omega) e2 (by omega)
        obtain ⟨g1, g2, g3, g4, g5, g6⟩ := f2
        have k : am_kp [(5, 4)] [] 0 m2 (am_si m2 5 0 4 (nI mk)) := am_kp.si am_kp.rf rfl
        have f3 : cmm T L n true (am_si m2 5 0 4 (nI mk)) (rcu c a (258, base + v)) (a + 1) (lx_nx T L p) (lv + 1) mk := ⟨g1.kp k rfl, g2, g3, g4, rfl, g6⟩
        obtain ⟨m3, i1, i2⟩ := cgoto f3
        refine ⟨m3, (258, base + v), ?_, i2, csg_wd hb⟩
        rw [show fn_X5_put 0 258 (nI (base + v)) m1 = some m2 from f1, bd_s, hor m2 g5 (by rw [g1.2.2.2, hv])]
        rw [show fn_X4_goTo ((m2.1 4 0 5) + (1 : Int32)) (am_si m2 5 0 4 (nI mk)) = some m3 from i1, bd_s]
      rcases hk with z | z
      · rw [z] at fin ⊢
        rw [if_neg (show ¬ 278 = 286 by decide), if_neg (show ¬ 278 = 286 by decide)]
        refine fin 5 aw (by omega) haw (fun r10 q1 q2 => ?_) ?_
        · rw [q1, if_pos (show nI 278 ≠ (286 : Int32) by decide), show (0 : Int32) = nI 0 from rfl, fa_or, Nat.or_zero]
        · rw [if_pos (show nI 278 ≠ (286 : Int32) by decide), show (5 : Int32) = nI 5 from rfl, nI_add]
      · rw [z] at fin ⊢
        rw [if_pos rfl, if_pos rfl]
        refine fin 12 (aw ||| 2 ^ v) (by omega) (Nat.or_lt_two_pow (n := 7) haw (Nat.pow_lt_pow_right (by decide) c2)) (fun r10 q1 q2 => ?_) ?_
        · rw [q1, q2, if_neg (show ¬ nI 286 ≠ (286 : Int32) from fun z => z rfl), sh1 v (by omega), fa_or]
        · rw [if_neg (show ¬ nI 286 ≠ (286 : Int32) from fun z => z rfl), show (12 : Int32) = nI 12 from rfl, nI_add]
    · rw [if_neg (show ¬ (lx_kd T L (lx_nx T L p) = 256 ∧ lx_vl T L (lx_nx T L p) < 7) from fun z => c2 z.2), if_neg (show ¬ nI (lx_vl T L (lx_nx T L p)) < (7 : Int32) from fun z => c2 ((nI_ltI (b := 7) (by omega) (by decide)).mp z))]
      exact cbad e2.1
  · rw [if_neg (show ¬ (lx_kd T L (lx_nx T L p) = 256 ∧ lx_vl T L (lx_nx T L p) < 7) from fun z => c1 z.1), if_pos (show nI (lx_kd T L (lx_nx T L p)) ≠ (256 : Int32) from nI_ne (b := 256) (by omega) (by decide) c1)]
    exact cbad e2.1
end CE
