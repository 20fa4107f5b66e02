/-! the SUMS of a CLAUSE of ORDERS, one behind another -/
def rO1 (k j : Nat) (M : am_m) : Option am_m := match j with
  | 0 => fn_X10_readSum (nI (10 * k + 1)) M
  | 1 => fn_X10_readBehind 655 (nI (10 * k + 3)) M
  | _ => fn_X10_readBehind 89 (nI (10 * k + 5)) M
def rO (k s j : Nat) (M : am_m) : Option am_m := if j < s then rO1 k j M else some M
def rC (k s : Nat) : Nat → am_m → Option am_m
  | 0, Q => some Q
  | e + 1, Q => (rO k s (2 - e) Q).bind (rC k s e)
def oSt (T : Nat → Nat) (L n k s j : Nat) (m2 M2 m Q : am_m) (c0 c0' : rcd) (a0 b0 p0 aw0 : Nat) : Prop := ∃ c c' a b p lv aw, ∃ (B B2 : Nat → Nat) (S : Nat → Option dn), lks T L n true m Q c c' a b p lv aw ∧ lgo c0 c0' a0 b0 p0 aw0 c c' a b p aw ∧ (j = 0 → a + 1 ≤ p) ∧ (∀ i, i < 3 → Q.1 61 0 (10 * k + 1 + 2 * i) = nI (B i) ∧ Q.1 61 0 (10 * k + 2 + 2 * i) = nI (B2 i) ∧ xo true c c' a b aw (m.1 28 0 (6 * k + 3 + i)) (B i) (B2 i) (S i) ∧ (i < j ↔ S i ≠ none) ∧ ∀ f, S i = some f → dn_bd f) ∧ (∀ i, i < 6 * k + 3 → m.1 28 0 i = m2.1 28 0 i) ∧ (∀ i, (i ≤ 10 * k ∨ 10 * k + 7 ≤ i) → Q.1 61 0 i = M2.1 61 0 i) ∧ m.1 5 0 2 = nI (k + 1) ∧ m.2.2 = m2.2.2 ∧ Q.1 10 0 21 = nI (k + 1) ∧ ∀ N, lp_X4_readClause_42 (N + j) (nI s) 0 m2 = lp_X4_readClause_42 N (nI s) (nI j) m
section LI
variable {T : Nat → Nat} {L n p : Nat} {m m' m2 M M' M2 Q : am_m} {c c' : rcd} {a b lv aw k s j : Nat}
theorem rO_bad {q : Nat} (hk : k < 12) (hj : j < 3) (h19 : M.1 10 0 19 = 1) (h18 : M.1 10 0 18 = nI q) : ∃ M', rO k s j M = some M' ∧ M'.1 10 0 19 = 1 ∧ M'.1 10 0 18 = nI q := by
  unfold rO
  by_cases e : j < s
  · rw [if_pos e]
    have : j = 0 ∨ j = 1 ∨ j = 2 := by omega
    rcases this with rfl | rfl | rfl
    · exact rsum_bad (by omega) h19 h18
    · exact rbeh_bad (by omega) h19 h18
    · exact rbeh_bad (by omega) h19 h18
  · rw [if_neg e]
    exact ⟨M, rfl, h19, h18⟩
theorem rC_bad {q : Nat} (hk : k < 12) : ∀ (e : Nat) (M : am_m), e ≤ 3 → M.1 10 0 19 = 1 → M.1 10 0 18 = nI q → ∃ M', rC k s e M = some M' ∧ M'.1 10 0 19 = 1 ∧ M'.1 10 0 18 = nI q
  | 0, M, _, h19, h18 => ⟨M, rfl, h19, h18⟩
  | e + 1, M, he, h19, h18 => by
    obtain ⟨M1, e1, e2, e3⟩ := rO_bad (s := s) (j := 2 - e) hk (by omega) h19 h18
    obtain ⟨M2, f1, f2⟩ := rC_bad hk e M1 (by omega) e2 e3
    refine ⟨M2, ?_, f2⟩
    unfold rC
    rw [e1, bd_s]; exact f1
theorem oSt_step (hT : ∀ k, k < L → T k < 256) (hk12 : k < 12) (hl : m2.2.2.2.2.2.2.1 28 0 = 72) (hj : j < s) (hs3 : s ≤ 3) (h : oSt T L n k s j m2 M2 m Q c c' a b p aw) :
    (∃ q m3 Q', (∀ N, lp_X4_readClause_42 (N + (j + 1)) (nI s) 0 m2 = some (.inr (0, m3))) ∧ m3.1 4 0 10 = nI q ∧ rO1 k j Q = some Q' ∧ Q'.1 10 0 19 = 1 ∧ Q'.1 10 0 18 = nI q) ∨ ∃ m' Q', rO1 k j Q = some Q' ∧ oSt T L n k s (j + 1) m2 M2 m' Q' c c' a b p aw := by
  obtain ⟨c1, c1', a1, b1, p1, lv1, aw1, B, B2, S, h1, h2, h3, h4, h5, h6, h7, h8, h9, h10⟩ := h
  have hl1 : m.2.2.2.2.2.2.1 28 0 = 72 := by rw [h8]; exact hl
  have R : oRes T L n k s j m Q c1 c1' a1 b1 p1 aw1 (rO1 k j Q) := by
    have : j = 0 ∨ j = 1 ∨ j = 2 := by omega
    rcases this with rfl | rfl | rfl
    · exact osum0 hT h1 (h3 rfl) h7 hk12 hl1 hj hs3
    · exact osumj hT h1 h7 hk12 hl1 (Or.inl ⟨rfl, rfl⟩) hj hs3
    · exact osumj hT h1 h7 hk12 hl1 (Or.inr ⟨rfl, rfl⟩) hj hs3
  rcases R with ⟨q, m3, M3, g1, g2, g3, g4, g5⟩ | ⟨m3, M3, c2, c2', a2, b2, p2, lv2, aw2, f, g1, g2, g3, g4, g5, g6, g7, g8, g9, g10, g11⟩
  · refine Or.inl ⟨q, m3, M3, fun N => ?_, g2, g3, g4, g5⟩
    rw [show N + (j + 1) = (N + 1) + j by omega, h10, g1]
  · refine Or.inr ⟨m3, M3, g2, c2, c2', a2, b2, p2, lv2, aw2, (fun i => if i = j then b1 else B i), (fun i => if i = j then b2 else B2 i), (fun i => if i = j then some f else S i), g3, h2.tr g4, (fun z => by omega), fun i hi => ?_, fun i hi => ?_, fun i hi => ?_, by rw [g8]; exact h7, by rw [g9]; exact h8, by rw [g11]; exact h9, fun N => ?_⟩
    · obtain ⟨x1, x2, x3, x4, x5⟩ := h4 i hi
      by_cases e : i = j
      · subst e
        show M3.1 61 0 _ = nI (if i = i then b1 else B i) ∧ M3.1 61 0 _ = nI (if i = i then b2 else B2 i) ∧ xo true c2 c2' a2 b2 aw2 _ (if i = i then b1 else B i) (if i = i then b2 else B2 i) (if i = i then some f else S i) ∧ (i < i + 1 ↔ (if i = i then some f else S i) ≠ none) ∧ ∀ f', (if i = i then some f else S i) = some f' → dn_bd f'
        rw [if_pos rfl, if_pos rfl, if_pos rfl, g10, g10, g7, if_neg (by omega), if_pos rfl, if_pos rfl, if_pos rfl]
        exact ⟨rfl, rfl, ⟨a1, rfl, g5⟩, ⟨fun _ z => (by cases z), fun _ => by omega⟩, fun f' hf => by cases hf; exact g6⟩
      · show M3.1 61 0 _ = nI (if i = j then b1 else B i) ∧ M3.1 61 0 _ = nI (if i = j then b2 else B2 i) ∧ xo true c2 c2' a2 b2 aw2 _ (if i = j then b1 else B i) (if i = j then b2 else B2 i) (if i = j then some f else S i) ∧ (i < j + 1 ↔ (if i = j then some f else S i) ≠ none) ∧ ∀ f', (if i = j then some f else S i) = some f' → dn_bd f'
        rw [if_neg e, if_neg e, if_neg e, g10, g10, g7, if_neg (by omega), if_neg (by omega), if_neg (by omega), if_neg (by omega), if_neg (by omega)]
        exact ⟨x1, x2, x3.go g4, by rw [← x4]; omega, x5⟩
    · rw [g7, if_neg (by omega), h5 i hi]
    · rw [g10, if_neg (by omega), if_neg (by omega), h6 i hi]
    · rw [show N + (j + 1) = (N + 1) + j by omega, h10, g1]
theorem oSt_all (hT : ∀ k, k < L → T k < 256) (hk12 : k < 12) (hl : m2.2.2.2.2.2.2.1 28 0 = 72) (hs3 : s ≤ 3) : ∀ (e : Nat) (m Q : am_m), e ≤ 3 → oSt T L n k s (min (3 - e) s) m2 M2 m Q c c' a b p aw →
    (∃ q m3 Q', lp_X4_readClause_42 1000000 (nI s) 0 m2 = some (.inr (0, m3)) ∧ m3.1 4 0 10 = nI q ∧ rC k s e Q = some Q' ∧ Q'.1 10 0 19 = 1 ∧ Q'.1 10 0 18 = nI q) ∨ ∃ m' Q', lp_X4_readClause_42 1000000 (nI s) 0 m2 = some (.inl m') ∧ rC k s e Q = some Q' ∧ oSt T L n k s s m2 M2 m' Q' c c' a b p aw
  | 0, m, Q, _, h => by
    rw [show min (3 - 0) s = s by omega] at h
    refine Or.inr ⟨m, Q, ?_, rfl, h⟩
    obtain ⟨c1, c1', a1, b1, p1, lv1, aw1, B, B2, S, h1, h2, h3, h4, h5, h6, h7, h8, h9, h10⟩ := h
    have := h10 (1000000 - s - 1 + 1)
    rw [show 1000000 - s - 1 + 1 + s = 1000000 by omega] at this
    rw [this]; exact cl_end hs3
  | e + 1, m, Q, he, h => by
    by_cases q : 2 - e < s
    · rw [show min (3 - (e + 1)) s = 2 - e by omega] at h
      have hO : rO k s (2 - e) Q = rO1 k (2 - e) Q := if_pos q
      rcases oSt_step hT hk12 hl q hs3 h with ⟨q1, m3, Q', g1, g2, g3, g4, g5⟩ | ⟨m', Q', g1, g2⟩
      · obtain ⟨Q2, f1, f2⟩ := rC_bad (s := s) hk12 e Q' (by omega) g4 g5
        refine Or.inl ⟨q1, m3, Q2, ?_, g2, ?_, f2⟩
        · have := g1 (1000000 - (2 - e + 1))
          rw [show 1000000 - (2 - e + 1) + (2 - e + 1) = 1000000 by omega] at this
          exact this
        · unfold rC
          rw [hO, g3, bd_s]; exact f1
      · have ih := oSt_all hT hk12 hl hs3 e m' Q' (by omega) (by rw [show min (3 - e) s = 2 - e + 1 by omega]; exact g2)
        have er : rC k s (e + 1) Q = rC k s e Q' := by
          show (rO k s (2 - e) Q).bind (rC k s e) = _
          rw [hO, g1, bd_s]
        rw [er]; exact ih
    · have ih := oSt_all hT hk12 hl hs3 e m Q (by omega) (by rw [show min (3 - e) s = min (3 - (e + 1)) s by omega]; exact h)
      have er : rC k s (e + 1) Q = rC k s e Q := by
        show (rO k s (2 - e) Q).bind (rC k s e) = _
        rw [show rO k s (2 - e) Q = some Q from if_neg q, bd_s]
      rw [er]; exact ih
end LI
