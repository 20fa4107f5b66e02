/-! orders: all that is run; the class runs it -/
def oRep (lw : lw_T) (z : oz_T) : Nat → oS_T → Option oS_T
  | 0, S => some S
  | n + 1, S => match oOne lw z S with
    | some S' => oRep lw z n S'
    | none => none
def oAll (lw : lw_T) (zs : Nat → oz_T) : Nat → Nat → oS_T → Sum Nat oS_T
  | 0, _, S => .inr S
  | n + 1, i, S => match oRep lw (zs i) (zs i).2.1 S with
    | some S' => oAll lw zs n (i + 1) S'
    | none => .inl i
def dsI (σ : DS) : Prop := iv_W 999 σ.1 ∧ σ.2.1 ≤ 16
def oI (D : Nat) (r0 : Nat → Int32) (S : oS_T) : Prop := oB D S ∧ S.1.2.1 ≤ 16 ∧ keepR r0 S.1.1
abbrev lvRun : List (Nat × Nat) := [(3, 1), (20, 0), (24, 0), (36, 0), (37, 0), (38, 0), (39, 0), (41, 0)]
section OG
variable {m m' : am_m} {lw : lw_T} {K a2 aw i t T D : Nat} {zs : Nat → oz_T} {S S' : oS_T} {σ : DS} {r0 : Nat → Int32} {z : oz_T}
theorem oRep_s {n : Nat} (e : oOne lw z S = some S') : oRep lw z (n + 1) S = oRep lw z n S' := by
  show (match oOne lw z S with
    | some S' => oRep lw z n S'
    | none => none) = _
  rw [e]
theorem oRep_n {n : Nat} (e : oOne lw z S = none) : oRep lw z (n + 1) S = none := by
  show (match oOne lw z S with
    | some S' => oRep lw z n S'
    | none => none) = _
  rw [e]
theorem oAll_s {n : Nat} (e : oRep lw (zs i) (zs i).2.1 S = some S') : oAll lw zs (n + 1) i S = oAll lw zs n (i + 1) S' := by
  show (match oRep lw (zs i) (zs i).2.1 S with
    | some S' => oAll lw zs n (i + 1) S'
    | none => .inl i) = _
  rw [e]
theorem oAll_n {n : Nat} (e : oRep lw (zs i) (zs i).2.1 S = none) : oAll lw zs (n + 1) i S = .inl i := by
  show (match oRep lw (zs i) (zs i).2.1 S with
    | some S' => oAll lw zs n (i + 1) S'
    | none => .inl i) = _
  rw [e]
theorem reK_le {K : Nat} (h : K ≤ 16) : reK K ≤ 16 := by
  unfold reK
  by_cases e : K = 16
  · rw [if_pos e]; exact Nat.le_refl _
  · rw [if_neg e]; omega
theorem harmA_I (a b c : Int32) (h : dsI σ) : dsI (harmA a b c σ).2 := by
  obtain ⟨hW, hK⟩ := h
  have h7 := hW.n7
  unfold harmA
  by_cases h1 : c < 1 ∨ 9 < c ∨ a = b
  · rw [if_pos h1]; exact ⟨hW, hK⟩
  rw [if_neg h1]
  by_cases h2 : (0 ≤ a ∧ a < nI (nv (σ.1 0))) ∧ (0 ≤ b ∧ b < nI (nv (σ.1 0)))
  · rw [if_neg (fun z => z h2)]
    obtain ⟨p, q, hp, hq, ea, eb, np, nq⟩ := fk_both h7 h2
    rw [np, nq]
    by_cases h3 : σ.1 (14 + (7 * p + q)) = c
    · rw [if_pos h3]; exact ⟨hW, hK⟩
    · rw [if_neg h3]
      have c1 : ¬ c < 1 := fun z => h1 (Or.inl z)
      have c9 : ¬ 9 < c := fun z => h1 (Or.inr (Or.inl z))
      obtain ⟨w, hw31, ew⟩ := nI_of (show ¬ c < 0 from fun z => c1 (fa_trans z (by decide)))
      rw [ew] at c9 ⊢
      have hw9 : w ≤ 9 := by
        by_cases z : w ≤ 9
        · exact z
        · exact absurd (nI_lt (a := 9) (by omega) hw31) c9
      exact ⟨harmS_W hW hp hq (fun z => h1 (Or.inr (Or.inr (by rw [ea, eb, z])))) hw9, reK_le hK⟩
  · rw [if_pos h2]; exact ⟨hW, hK⟩
theorem pardA_I (a b : Int32) (h : dsI σ) : dsI (pardA a b σ).2 := by
  obtain ⟨hW, hK⟩ := h
  have h7 := hW.n7
  unfold pardA
  by_cases h1 : a = b
  · rw [if_pos h1]; exact ⟨hW, hK⟩
  rw [if_neg h1]
  by_cases h2 : (0 ≤ a ∧ a < nI (nv (σ.1 0))) ∧ (0 ≤ b ∧ b < nI (nv (σ.1 0)))
  · rw [if_neg (fun z => z h2)]
    obtain ⟨p, q, hp, hq, ea, eb, np, nq⟩ := fk_both h7 h2
    rw [np, nq]
    by_cases h3 : σ.1 (14 + (7 * p + q)) = 0
    · rw [if_pos h3]; exact ⟨hW, hK⟩
    · rw [if_neg h3]; exact ⟨pardS_W hW hp hq, reK_le hK⟩
  · rw [if_pos h2]; exact ⟨hW, hK⟩
theorem feastA_I (a : Int32) (h : dsI σ) : dsI (feastA lw a σ).2 := by
  unfold feastA
  by_cases h1 : 0 ≤ a ∧ a ≤ 127
  · rw [if_neg (fun z => z h1)]
    by_cases h2 : nv a < 2 ^ nv (σ.1 0)
    · rw [if_neg (fun z => z h2)]
      by_cases h3 : tb (rowOf (nv (σ.1 0)) (mtx σ.1 lw)) (nv (σ.1 0)) (nv a) = false
      · rw [if_pos h3]; exact h
      · rw [if_neg h3]; exact ⟨feastS_W h.1, reK_le h.2⟩
    · rw [if_pos h2]; exact h
  · rw [if_pos h1]; exact h
theorem passA_I (h : dsI σ) : dsI (passA lw σ).2 := by
  unfold passA
  by_cases h1 : σ.1 4 = 999
  · rw [if_pos h1]; exact h
  · rw [if_neg h1]
    have e4 := h.1.k (k := 4) (by decide) (by decide)
    have h4 := h.1.2.2.2.2.2.1
    have : nv (σ.1 4) ≠ 999 := fun z => h1 (by rw [e4, z]; rfl)
    exact ⟨passS_W h.1 (Nat.le_refl _) (by omega) (by decide), reK_le h.2⟩
theorem oAct_I (a b c : Int32) (hh : Nat) (h : dsI σ) : dsI (oAct lw hh a b c σ).2 ∧ an_ok (oAct lw hh a b c σ).1 ∧ keepR σ.1 (oAct lw hh a b c σ).2.1 := by
  unfold oAct
  by_cases h0 : hh = 0
  · rw [if_pos h0]; exact ⟨harmA_I a b c h, harmA_ok a b c h.1⟩
  rw [if_neg h0]
  by_cases h1 : hh = 1
  · rw [if_pos h1]; exact ⟨feastA_I a h, feastA_ok a h.1⟩
  rw [if_neg h1]
  by_cases h2 : hh = 2
  · rw [if_pos h2]; exact ⟨pardA_I a b h, pardA_ok a b h.1⟩
  rw [if_neg h2]
  exact ⟨passA_I h, passA_ok h.1⟩
theorem feastA_7 (a : Int32) (h : 0 ≤ (feastA lw a σ).1) : ∃ l, l ≤ 7 ∧ (feastA lw a σ).1 = nI l := by
  unfold feastA at h ⊢
  by_cases h1 : 0 ≤ a ∧ a ≤ 127
  · rw [if_neg (fun z => z h1)] at h ⊢
    by_cases h2 : nv a < 2 ^ nv (σ.1 0)
    · rw [if_neg (fun z => z h2)] at h ⊢
      by_cases h3 : tb (rowOf (nv (σ.1 0)) (mtx σ.1 lw)) (nv (σ.1 0)) (nv a) = false
      · rw [if_pos h3] at h; exact absurd (show (0 : Int32) ≤ -3 from h) (by decide)
      · rw [if_neg h3]; exact ⟨_, pc_le _, rfl⟩
    · rw [if_pos h2] at h; exact absurd (show (0 : Int32) ≤ -2 from h) (by decide)
  · rw [if_pos h1] at h; exact absurd (show (0 : Int32) ≤ -1 from h) (by decide)
theorem oOne_I (hb : oI D r0 S) (e : oOne lw z S = some S') : oI (D + 1) r0 S' := by
  obtain ⟨⟨⟨d, d1, d2⟩, hl, hW⟩, hK, hR⟩ := hb
  unfold oOne at e
  by_cases c1 : oHolds z.2.2.1 (oEv lw S) = false
  · rw [if_pos c1] at e
    cases e
    exact ⟨⟨⟨d, by omega, d2⟩, hl, hW⟩, hK, hR⟩
  rw [if_neg c1] at e
  by_cases c2 : (oBrk (z.2.2.2 0) (oEv lw S) || (oBrk (z.2.2.2 1) (oEv lw S) || oBrk (z.2.2.2 2) (oEv lw S))) = true
  · rw [if_pos c2] at e; cases e
  rw [if_neg c2] at e
  by_cases c3 : 0 ≤ (oDo lw z S).1
  · rw [if_pos c3] at e
    cases e
    obtain ⟨g1, g2, g3⟩ := oAct_I (lw := lw) (σ := S.1) (oVal (z.2.2.2 0) (oEv lw S)) (oVal (z.2.2.2 1) (oEv lw S)) (oVal (z.2.2.2 2) (oEv lw S)) z.1 ⟨hW, hK⟩
    refine ⟨⟨⟨d + 1, by omega, ?_⟩, ?_, g1.1⟩, g1.2, fun k hk => (g3 k hk).trans (hR k hk)⟩
    · show S.2.1 + 1 = nI (d + 1)
      rw [d2, nI_1]
    · show (if z.1 = 1 then (oDo lw z S).1 else S.2.2) = -1 ∨ ∃ l, l ≤ 7 ∧ (if z.1 = 1 then (oDo lw z S).1 else S.2.2) = nI l
      by_cases q : z.1 = 1
      · rw [if_pos q]
        have e : oDo lw z S = feastA lw (oVal (z.2.2.2 0) (oEv lw S)) S.1 := by unfold oDo oAct; rw [if_neg (by omega), if_pos q]
        rw [e] at c3 ⊢
        exact Or.inr (feastA_7 _ c3)
      · rw [if_neg q]; exact hl
  · rw [if_neg c3] at e; cases e
theorem oI.mono {D' : Nat} (h : oI D r0 S) (hD : D ≤ D') : oI D' r0 S := by
  obtain ⟨⟨⟨d, d1, d2⟩, hl, hW⟩, hK, hR⟩ := h
  exact ⟨⟨⟨d, by omega, d2⟩, hl, hW⟩, hK, hR⟩
def crR (K a2 aw : Nat) (zs : Nat → oz_T) (lw : lw_T) (r0 : Nat → Int32) (i T n t D N : Nat) (S : oS_T) (m : am_m) : Prop := match oRep lw (zs i) n S with
  | some S' => ∃ m', lp_X9_ranClause_10 N 0 (nI i) (nI T) (nI t) m = some (.inl m') ∧ cO K a2 aw zs lw S' m' ∧ oI (D + n) r0 S' ∧ ∀ u, u ≠ 0 → sm_U m m' u
  | none => ∃ m', lp_X9_ranClause_10 N 0 (nI i) (nI T) (nI t) m = some (.inr (0, m')) ∧ ∀ u, u ≠ 0 → sm_U m m' u
theorem c_rep (hz : ozd aw (zs i)) (hi : i < K) (hT : T ≤ 20) : ∀ (n t D N : Nat) (S : oS_T) (m : am_m), t + n = T → n < N → D + n ≤ 1000000 → cO K a2 aw zs lw S m → oI D r0 S → crR K a2 aw zs lw r0 i T n t D N S m
  | 0, t, D, N, S, m, ht, hN, hD, hc, hI => by
    obtain ⟨N', rfl⟩ : ∃ N', N = N' + 1 := ⟨N - 1, by omega⟩
    refine ⟨m, ?_, hc, hI, fun u _ => ⟨rfl, rfl, rfl, rfl, rfl, rfl⟩⟩
    rw [lp_X9_ranClause_10.eq_2, if_pos (nI_le (by omega) (by omega))]
  | n + 1, t, D, N, S, m, ht, hN, hD, hc, hI => by
    obtain ⟨N', rfl⟩ : ∃ N', N = N' + 1 := ⟨N - 1, by omega⟩
    have h1 := c_one hc hI.1 (by omega) hi hz (show t < T by omega) hT
    unfold c1R at h1
    unfold crR
    cases e : oOne lw (zs i) S with
    | none =>
      rw [e] at h1
      rw [oRep_n e]
      obtain ⟨m', f1, f2⟩ := h1
      exact ⟨m', f1 N', f2⟩
    | some S' =>
      rw [e] at h1
      rw [oRep_s e]
      obtain ⟨m', f1, f2, f3⟩ := h1
      have ih := c_rep hz hi hT n (t + 1) (D + 1) N' S' m' (by omega) (by omega) (by omega) f2 (oOne_I hI e)
      unfold crR at ih
      cases e2 : oRep lw (zs i) n S' with
      | none =>
        rw [e2] at ih
        obtain ⟨m2, g1, g2⟩ := ih
        exact ⟨m2, (f1 N').trans g1, fun u hu => (f3 u hu).tr (g2 u hu)⟩
      | some S2 =>
        rw [e2] at ih
        obtain ⟨m2, g1, g2, g3, g4⟩ := ih
        exact ⟨m2, (f1 N').trans g1, g2, g3.mono (by omega), fun u hu => (f3 u hu).tr (g4 u hu)⟩
def caR (K a2 aw : Nat) (zs : Nat → oz_T) (lw : lw_T) (r0 : Nat → Int32) (i n N : Nat) (S : oS_T) (m : am_m) : Prop := match oAll lw zs n i S with
  | .inr S' => ∃ m', lp_X9_orders_83 N (nI i) m = some (.inl m') ∧ cO K a2 aw zs lw S' m' ∧ oI 1000000 r0 S' ∧ (∀ u, u ≠ 0 → sm_U m m' u) ∧ sm_3 m m' ∧ am_kp lvRun [(80, 0)] 0 m m'
  | .inl j => ∃ m', lp_X9_orders_83 N (nI i) m = ((fn_X8_become 0 1 m').bind fun r16 => (fn_X3_become 0 1 r16).bind fun r18 => (fn_X9_told (-3) (am_si r18 9 0 16 (nI j))).bind fun r20 => some (.inr (r20.1, r20.2))) ∧ j < 12 ∧ (∀ u, u ≠ 0 → sm_U m m' u) ∧ sm_3 m m' ∧ am_kp lvRun [(80, 0)] 0 m m'
theorem c_all (hz : ∀ i, i < K → ozd aw (zs i)) : ∀ (n i D N : Nat) (S : oS_T) (m : am_m), i + n = K → n < N → D + 20 * n ≤ 1000000 → cO K a2 aw zs lw S m → oI D r0 S → caR K a2 aw zs lw r0 i n N S m
  | 0, i, D, N, S, m, ht, hN, hD, hc, hI => by
    obtain ⟨N', rfl⟩ : ∃ N', N = N' + 1 := ⟨N - 1, by omega⟩
    have h12 : K ≤ 12 := hc.2.2.2.2.1
    refine ⟨m, ?_, hc, hI.mono (by omega), fun u _ => ⟨rfl, rfl, rfl, rfl, rfl, rfl⟩, sm_3.rf, am_kp.rf⟩
    rw [lp_X9_orders_83.eq_2, hc.2.2.2.1, if_pos (nI_le (by omega) (by omega))]
  | n + 1, i, D, N, S, m, ht, hN, hD, hc, hI => by
    obtain ⟨N', rfl⟩ : ∃ N', N = N' + 1 := ⟨N - 1, by omega⟩
    have h2 : m.1 5 0 2 = nI K := hc.2.2.2.1
    have h12 : K ≤ 12 := hc.2.2.2.2.1
    have h28 : m.2.2.2.2.2.2.1 28 0 = 72 := hc.2.2.2.2.2.2.2.2.1
    obtain ⟨z1, z2, z3, z4, -⟩ := hc.2.2.2.2.2.2.2.2.2.2 i (by omega)
    have hh : fn_X5_headOf 0 (nI i) 1 m = some (nI (zs i).2.1) := by
      rw [show fn_X5_headOf 0 (nI i) 1 m = _ from headOf_p (j := 1) h2 h12 h28 (show i < K by omega) (by decide), z3]
    have rep := c_rep (r0 := r0) (hz i (by omega)) (show i < K by omega) z4 (zs i).2.1 0 D 1000000 S m (by omega) (by omega) (by omega) hc hI
    have st : lp_X9_orders_83 (N' + 1) (nI i) m = ((fn_X9_ranClause 0 (nI i) m).bind fun r13 => (if r13.1 ≠ 0 then lp_X9_orders_83 N' (nI (i + 1)) r13.2 else (fn_X8_become 0 1 r13.2).bind fun r16 => (fn_X3_become 0 1 r16).bind fun r18 => (fn_X9_told (-3) (am_si r18 9 0 16 (nI i))).bind fun r20 => some (.inr (r20.1, r20.2)))) := by
      rw [lp_X9_orders_83.eq_2, h2, if_neg (nI_ge (by omega) (by omega)), nI_1]
    unfold crR at rep
    unfold caR
    cases e : oRep lw (zs i) (zs i).2.1 S with
    | none =>
      rw [e] at rep
      rw [oAll_n e]
      obtain ⟨m', f1, f2⟩ := rep
      have f1 : lp_X9_ranClause_10 1000000 0 (nI i) (nI (zs i).2.1) 0 m = some (.inr (0, m')) := f1
      have er : fn_X9_ranClause 0 (nI i) m = some (0, m') := by
        unfold fn_X9_ranClause
        rw [hh, bd_s, f1, bd_s]
      refine ⟨m', ?_, by omega, f2, k3_X9_ranClause _ _ _ _ er, kp_X9_ranClause _ _ _ _ er⟩
      rw [st, er, bd_s, if_neg (show ¬ (0 : Int32) ≠ 0 from fun z => z rfl)]
    | some S' =>
      rw [e] at rep
      rw [oAll_s e]
      obtain ⟨m', f1, f2, f3, f4⟩ := rep
      have f1 : lp_X9_ranClause_10 1000000 0 (nI i) (nI (zs i).2.1) 0 m = some (.inl m') := f1
      have er : fn_X9_ranClause 0 (nI i) m = some (1, m') := by
        unfold fn_X9_ranClause
        rw [hh, bd_s, f1, bd_s]
      have k3 := k3_X9_ranClause _ _ _ _ er
      have kp := kp_X9_ranClause _ _ _ _ er
      have ih := c_all hz n (i + 1) (D + (zs i).2.1) N' S' m' (by omega) (by omega) (by omega) f2 f3
      have st2 : lp_X9_orders_83 (N' + 1) (nI i) m = lp_X9_orders_83 N' (nI (i + 1)) m' := by
        rw [st, er, bd_s, if_pos (show (1 : Int32) ≠ 0 by decide)]
      unfold caR at ih
      cases e2 : oAll lw zs n (i + 1) S' with
      | inl j =>
        rw [e2] at ih
        obtain ⟨m2, g1, g2, g3, g4, g5⟩ := ih
        exact ⟨m2, st2.trans g1, g2, fun u hu => (f4 u hu).tr (g3 u hu), sm_3.tr k3 g4, kp.tr g5⟩
      | inr S2 =>
        rw [e2] at ih
        obtain ⟨m2, g1, g2, g3, g4, g5, g6⟩ := ih
        exact ⟨m2, st2.trans g1, g2, g3, fun u hu => (f4 u hu).tr (g4 u hu), sm_3.tr k3 g5, kp.tr g6⟩
end OG
