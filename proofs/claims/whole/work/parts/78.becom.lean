/-! an upland becomes as another one is -/
section BC
variable {m m' : am_m} {r r' : Nat → Int32} {D u v : Nat}
theorem iv_W.cong (h : iv_W D r) (he : ∀ k, k < 118 → r' k = r k) : iv_W D r' := by
  obtain ⟨w1, w2, w3, w4, w5, w6, w7, w8, w9, w10, w11, w12⟩ := h
  refine ⟨fun k hk h3 => by rw [he k hk]; exact w1 k hk h3, by rw [he 0 (by omega)]; exact w2, by rw [he 1 (by omega)]; exact w3, by rw [he 2 (by omega)]; exact w4, by rw [he 3 (by omega), he 2 (by omega)]; exact w5, by rw [he 4 (by omega)]; exact w6, by rw [he 5 (by omega)]; exact w7, by rw [he 6 (by omega)]; exact w8, fun k hk => by rw [he _ (by omega)]; exact w9 k hk, fun p q hp hq => by rw [he _ (by omega), he 0 (by omega)]; exact w10 p q hp hq, fun k hk => by rw [he _ (by omega)]; exact w11 k hk, fun k hk => by rw [he _ (by omega)]; exact w12 k hk⟩
theorem iv_V.cong {o fed weight since term seen : Nat → Int32} (h : iv_V o fed weight since term seen r) (he : ∀ k, k < 118 → r' k = r k) : iv_V o fed weight since term seen r' := by
  obtain ⟨v1, v2, v3, v4, v5, v6, v7, v8, v9⟩ := h
  exact ⟨by rw [he 0 (by omega)]; exact v1, by rw [he 1 (by omega)]; exact v2, by rw [he 2 (by omega)]; exact v3, by rw [he 3 (by omega)]; exact v4, fun k hk => by rw [he _ (by omega)]; exact v5 k hk, fun k hk => by rw [he _ (by omega)]; exact v6 k hk, fun k hk => by rw [he _ (by omega)]; exact v7 k hk, fun k hk hz => by rw [he _ (by omega)] at hz ⊢; exact v8 k hk hz, fun k hk => by rw [he _ (by omega)]; exact v9 k hk⟩
/-- the same upland elsewhere -/
theorem iv_U.move (h : iv_U m v r) (h8 : ∀ k, k < 4 → m'.1 8 u k = m.1 8 v k) (h36 : ∀ k, k < 7 → m'.1 36 u k = m.1 36 v k) (h37 : ∀ k, k < 49 → m'.1 37 u k = m.1 37 v k) (h38 : ∀ k, k < 49 → m'.1 38 u k = m.1 38 v k) (h39 : ∀ k, k < 3 → m'.1 39 u k = m.1 39 v k) (h40 : ∀ k, k < 6 → m'.1 40 u k = m.1 40 v k) : iv_U m' u r := by
  obtain ⟨v1, v2, v3, v4, v5, v6, v7, v8, v9⟩ := h
  exact ⟨by rw [h8 0 (by omega)]; exact v1, by rw [h8 1 (by omega)]; exact v2, by rw [h8 2 (by omega)]; exact v3, by rw [h8 3 (by omega)]; exact v4, fun k hk => by rw [h39 k hk]; exact v5 k hk, fun k hk => by rw [h36 k hk]; exact v6 k hk, fun k hk => by rw [h37 k hk]; exact v7 k hk, fun k hk hz => by rw [h38 k hk]; exact v8 k hk hz, fun k hk => by rw [h40 k hk]; exact v9 k hk⟩
theorem iv_LR.cong {n : Nat} {cs : Nat → cl_T} (h : iv_LR r n cs) (hn : n ≤ 12) (he : ∀ j, j < 900 → r' j = r j) : iv_LR r' n cs := by
  obtain ⟨h1, h2⟩ := h
  have ok : ∀ (a b : Nat) (o : Option dn), a < 900 → b < 900 → rl_ok false (fun k => r (98 + 2 * k)) (fun k => r (98 + 2 * k + 1)) (r a) (r b) o → rl_ok false (fun k => r' (98 + 2 * k)) (fun k => r' (98 + 2 * k + 1)) (r' a) (r' b) o := fun a b o ha hb q => by
    rw [he a ha, he b hb]
    cases o with
    | none => exact q
    | some f =>
      obtain ⟨x, y, h, c, q1, q2, q3, q4, q5, q6⟩ := q
      refine ⟨x, y, h, c, q1, q2, q3, q4, fun k g1 g2 => ?_, q6⟩
      obtain ⟨p, q, z1, z2, z3⟩ := q5 k g1 g2
      exact ⟨p, q, by show r' (98 + 2 * k) = _; rw [he _ (by omega)]; exact z1, by show r' (98 + 2 * k + 1) = _; rw [he _ (by omega)]; exact z2, z3⟩
  refine ⟨by rw [he 1 (by omega)]; exact h1, fun i hi => ?_⟩
  obtain ⟨g1, g2, g3⟩ := h2 i hi
  exact ⟨by rw [he _ (by omega)]; exact g1, ok _ _ _ (by omega) (by omega) g2, ok _ _ _ (by omega) (by omega) g3⟩
/-- the LAWS of an upland, elsewhere -/
theorem iv_K.move (h : iv_K m v r) (hW : iv_W D r) (he : ∀ k, k < 5518 → r' k = r k) (hl : ∀ k, k < 6 → m'.2.2.2.2.1 u k = m.2.2.2.2.1 v k) (hS : ∀ s, 1 ≤ s → s < m.2.2.2.2.2.2.2 5 → m'.1 5 s = m.1 5 s ∧ m'.1 28 s = m.1 28 s ∧ m'.1 29 s = m.1 29 s ∧ m'.2.2.2.2.2.2.1 28 s = m.2.2.2.2.2.2.1 28 s ∧ m'.2.2.2.2.2.2.1 29 s = m.2.2.2.2.2.2.1 29 s) (hc : m.2.2.2.2.2.2.2 5 ≤ m'.2.2.2.2.2.2.2 5) : iv_K m' u r' := by
  intro k hk
  rw [he 2 (by omega)] at hk
  have h6 := hW.2.2.2.1
  obtain ⟨s, g1, g2, g3, n, cs, g4, g5, g6⟩ := h k hk
  refine ⟨s, g1, by omega, by rw [hl k (by omega)]; exact g3, n, cs, g4, g5.cong g4.1 (fun j hj => he _ (by omega)), ?_⟩
  obtain ⟨e1, e2, e3, e4, e5⟩ := hS s g1 g2
  rw [e1, e2, e3, e4, e5]
  exact g6
theorem become_ok (huv : u ≠ v) (m : am_m) : ∃ m', fn_X8_become u v m = some m' ∧ (∀ k, k < 4 → m'.1 8 u k = m.1 8 v k) ∧ (∀ k, k < 7 → m'.1 36 u k = m.1 36 v k) ∧ (∀ k, k < 49 → m'.1 37 u k = m.1 37 v k) ∧ (∀ k, k < 49 → m'.1 38 u k = m.1 38 v k) ∧ (∀ k, k < 3 → m'.1 39 u k = m.1 39 v k) ∧ (∀ k, k < 6 → m'.1 40 u k = m.1 40 v k) ∧ (∀ k, k < 6 → m'.2.2.2.2.1 u k = m.2.2.2.2.1 v k) ∧ (∀ w, w ≠ u → sm_U m m' w ∧ m'.2.2.2.2.1 w = m.2.2.2.2.1 w) ∧ m'.2.1 = m.2.1 ∧ m'.2.2.1 = m.2.2.1 ∧ m'.2.2.2.1 = m.2.2.2.1 ∧ m'.2.2.2.2.2 = m.2.2.2.2.2 := by
  have r8 : ∀ (M : am_m) (k : Nat) (x : Int32) (j : Nat), (am_si M 8 u k x).1 8 v j = M.1 8 v j := fun M k x j => by
    rw [rd_si, if_neg (fun z => huv z.2.1.symm)]
  let q4 : am_m := am_si (am_si (am_si (am_si m 8 u 0 (m.1 8 v 0)) 8 u 1 (m.1 8 v 1)) 8 u 2 (m.1 8 v 2)) 8 u 3 (m.1 8 v 3)
  let q5 : am_m := am_sc q4 36 v 36 u 0 0 7
  let q6 : am_m := am_sc q5 37 v 37 u 0 0 49
  let q7 : am_m := am_sc q6 38 v 38 u 0 0 49
  let q8 : am_m := am_sc q7 39 v 39 u 0 0 3
  let q9 : am_m := am_sc q8 40 v 40 u 0 0 6
  have e8 : ∀ k, k < 4 → q9.1 8 u k = m.1 8 v k := fun k hk => by
    show q4.1 8 u k = _
    show (am_si (am_si (am_si (am_si m 8 u 0 (m.1 8 v 0)) 8 u 1 (m.1 8 v 1)) 8 u 2 (m.1 8 v 2)) 8 u 3 (m.1 8 v 3)).1 8 u k = _
    rw [rd_j, rd_j, rd_j, rd_j]
    have : k = 0 ∨ k = 1 ∨ k = 2 ∨ k = 3 := by omega
    rcases this with rfl | rfl | rfl | rfl <;> rfl
  have cp : ∀ (c n : Nat) (M : am_m) (k : Nat), k < n → (am_sc M c v c u 0 0 n).1 c u k = M.1 c v k := fun c n M k hk => by
    rw [rd_sc, if_pos ⟨rfl, rfl⟩, pk_cpy_in (Nat.zero_le _) (by omega)]
    show M.1 c v (0 + (k - 0)) = _
    rw [Nat.sub_zero, Nat.zero_add]
  have e36 : ∀ k, k < 7 → q9.1 36 u k = m.1 36 v k := fun k hk => cp 36 7 q4 k hk
  have e37 : ∀ k, k < 49 → q9.1 37 u k = m.1 37 v k := fun k hk => cp 37 49 q5 k hk
  have e38 : ∀ k, k < 49 → q9.1 38 u k = m.1 38 v k := fun k hk => cp 38 49 q6 k hk
  have e39 : ∀ k, k < 3 → q9.1 39 u k = m.1 39 v k := fun k hk => cp 39 3 q7 k hk
  have e40 : ∀ k, k < 6 → q9.1 40 u k = m.1 40 v k := fun k hk => cp 40 6 q8 k hk
  have scu : ∀ (c n : Nat) (M : am_m) (w : Nat), w ≠ u → (am_sc M c v c u 0 0 n).1 c w = M.1 c w := fun c n M w hw => by
    funext k
    rw [rd_sc, if_neg (fun z => hw z.2)]
  have ew : ∀ w, w ≠ u → sm_U m q9 w := fun w hw => by
    refine ⟨?_, scu 36 7 q4 w hw, scu 37 49 q5 w hw, scu 38 49 q6 w hw, scu 39 3 q7 w hw, scu 40 6 q8 w hw⟩
    show q4.1 8 w = _
    funext k
    show (am_si (am_si (am_si (am_si m 8 u 0 (m.1 8 v 0)) 8 u 1 (m.1 8 v 1)) 8 u 2 (m.1 8 v 2)) 8 u 3 (m.1 8 v 3)).1 8 w k = _
    rw [rd_si, if_neg (fun z => hw z.2.1), rd_si, if_neg (fun z => hw z.2.1), rd_si, if_neg (fun z => hw z.2.1), rd_si, if_neg (fun z => hw z.2.1)]
  have key : ∃ m', lp_X8_become_108 1000000 u v 0 q9 = some m' ∧ (m'.1 = q9.1 ∧ m'.2.1 = m.2.1 ∧ m'.2.2.1 = m.2.2.1 ∧ m'.2.2.2.1 = m.2.2.2.1 ∧ m'.2.2.2.2.2 = m.2.2.2.2.2 ∧ (∀ k, k < 6 → m'.2.2.2.2.1 u k = m.2.2.2.2.1 v k) ∧ ∀ w, w ≠ u → m'.2.2.2.2.1 w = m.2.2.2.2.1 w) := by
    refine lp_up0 (fun N x a => lp_X8_become_108 N u v x a) (fun i m1 => m1.1 = q9.1 ∧ m1.2.1 = m.2.1 ∧ m1.2.2.1 = m.2.2.1 ∧ m1.2.2.2.1 = m.2.2.2.1 ∧ m1.2.2.2.2.2 = m.2.2.2.2.2 ∧ (∀ k, k < i → m1.2.2.2.2.1 u k = m.2.2.2.2.1 v k) ∧ ∀ w, w ≠ u → m1.2.2.2.2.1 w = m.2.2.2.2.1 w) _ 6 (by decide) (fun N m1 hh => ⟨m1, ?_, hh⟩) (fun N i m1 hi hh => Or.inl ?_) q9 ⟨rfl, rfl, rfl, rfl, rfl, fun k hk => absurd hk (Nat.not_lt_zero _), fun _ _ => rfl⟩
    · show lp_X8_become_108 (N + 1) u v (nI 6) m1 = _
      rw [lp_X8_become_108.eq_2, if_pos (by decide)]
    · obtain ⟨h1, h2, h3, h4, h5, h6, h7⟩ := hh
      have lu : ∀ w k, (am_ss m1 u i (m.2.2.2.2.1 v i)).2.2.2.2.1 w k = if w = u ∧ k = i then m.2.2.2.2.1 v i else m1.2.2.2.2.1 w k := fun w k => by
        show am_u2 m1.2.2.2.2.1 u i (m.2.2.2.2.1 v i) w k = _
        unfold am_u2
        by_cases a1 : w = u
        · by_cases a2 : k = i
          · rw [if_pos a1, if_pos a2, if_pos ⟨a1, a2⟩]
          · rw [if_pos a1, if_neg a2, if_neg (fun z => a2 z.2)]
        · rw [if_neg a1, if_neg (fun z => a1 z.1)]
      refine ⟨am_ss m1 u i (m.2.2.2.2.1 v i), ?_, h1, h2, h3, h4, h5, fun k hk => ?_, fun w hw => ?_⟩
      · show lp_X8_become_108 (N + 1) u v (nI i) m1 = lp_X8_become_108 N u v (nI (i + 1)) _
        rw [lp_X8_become_108.eq_2, if_neg (show ¬ (6 : Int32) ≤ nI i from nI_ge (b := 6) hi (by decide)), ck_in (by omega) (by decide), ck_in (by omega) (by decide), nI_clamp (by omega), nI_1, h7 v (Ne.symm huv)]
      · rw [lu]
        by_cases e : k = i
        · rw [if_pos ⟨rfl, e⟩, e]
        · rw [if_neg (fun z => e z.2)]; exact h6 k (by omega)
      · funext k
        rw [lu, if_neg (fun z => hw z.1), h7 w hw]
  obtain ⟨m', f1, f2, f3, f4, f5, f6, f7, f8⟩ := key
  refine ⟨m', ?_, fun k hk => by rw [f2]; exact e8 k hk, fun k hk => by rw [f2]; exact e36 k hk, fun k hk => by rw [f2]; exact e37 k hk, fun k hk => by rw [f2]; exact e38 k hk, fun k hk => by rw [f2]; exact e39 k hk, fun k hk => by rw [f2]; exact e40 k hk, f7, fun w hw => ⟨?_, f8 w hw⟩, f3, f4, f5, f6⟩
  · unfold fn_X8_become
    rw [gd_t (by decide), gd_t (by decide), gd_t (by decide), gd_t (by decide), gd_t (by decide)]
    simp only [r8]
    show ((lp_X8_become_108 1000000 u v 0 q9).bind _) = _
    rw [f1, bd_s]
  · have := ew w hw
    exact ⟨by rw [f2]; exact this.1, by rw [f2]; exact this.2.1, by rw [f2]; exact this.2.2.1, by rw [f2]; exact this.2.2.2.1, by rw [f2]; exact this.2.2.2.2.1, by rw [f2]; exact this.2.2.2.2.2⟩
end BC
