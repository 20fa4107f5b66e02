/-! the reference reads a SUM, a TEST -/
def rce (T : Nat → Nat) (L : Nat) (ord : Bool) (M : am_m) (c : rcd) (b p lv : Nat) : Prop := rlx T L M p ∧ (M.1 10 0 23 = nI b ∧ ∀ k, k < b → M.1 52 0 k = nI (c k).1 ∧ M.1 53 0 k = nI (c k).2) ∧ M.1 10 0 26 = nI lv ∧ M.1 10 0 19 = 0 ∧ M.1 10 0 20 = (if ord then 1 else 0) ∧ iv_C M.2.1 ∧ b ≤ p
def rxp (T : Nat → Nat) (L : Nat) (ord : Bool) (M : am_m) (a1 : Int32) (c : rcd) (b : Nat) (r : Nat ⊕ pst) : Prop := match r with
  | .inr st => ∃ M' c' b', fn_X10_readExpression a1 M = some M' ∧ rce T L ord M' c' b' st.1 st.2.1 ∧ (∀ k, k < b → c' k = c k) ∧ rsg ord c' b b' st.2.2.2.1 st.2.2.2.2
  | .inl q => ∃ M', fn_X10_readExpression a1 M = some M' ∧ M'.1 10 0 19 = 1 ∧ M'.1 10 0 18 = nI q
section RB
variable {T : Nat → Nat} {L p : Nat} {M M' : am_m} {c : rcd} {b lv aw : Nat} {ord : Bool}
theorem rexpr_ok {n w : Nat} {a1 : Int32} {st : pst} {r : Nat ⊕ pst} (hw : w = 4 ∧ a1 = 0 ∨ w = 0 ∧ a1 = 1) (h : rce T L ord M c b st.1 st.2.1) (hg : pq_g L st) (hs : sp T L ord n w 0 st = some r) : rxp T L ord M a1 c b r := by
  obtain ⟨h1, h2, h3, h4, h5, h6, h7⟩ := h
  have hL := h1.1.1
  have k0 : am_kp [(10, 29), (10, 30)] [] 0 M (am_si (am_si M 10 0 29 0) 10 0 30 0) := am_kp.si (am_kp.si am_kp.rf rfl) rfl
  have hm : rmm T L ord (am_si (am_si M 10 0 29 0) 10 0 30 0) (fun _ => (20, 0)) 0 c b st.1 st.2.1 0 := ⟨h1.kp k0 rfl, ⟨rfl, fun i hi => absurd hi (Nat.not_lt_zero _), h2.1, h2.2⟩, h3, rfl, h4, h5, h6⟩
  have hin : pq_in T L w st := ⟨hg, fun z => by omega, fun z => by omega, fun z => by omega⟩
  have hn : rnv (fun _ => (20, 0)) 0 b st.1 := ⟨Nat.zero_le _, h7, fun i hi => absurd hi (Nat.not_lt_zero _)⟩
  have ht : rin w (if a1 = 0 then 1 else 0) (lx_kd T L st.1) := by
    rcases hw with ⟨rfl, rfl⟩ | ⟨rfl, rfl⟩
    · exact ⟨fun z => by omega, fun z => by omega, fun _ => Or.inl (if_pos rfl), fun z => by omega, fun z => by omega⟩
    · exact ⟨fun _ => if_neg (by decide), fun z => by omega, fun z => by omega, fun z => by omega, fun z => by omega⟩
  have key := rsim (a1 := a1) n w 0 (if a1 = 0 then 1 else 0) st r _ (fun _ => (20, 0)) c 0 b 0 b (by omega) hs hin hm hn (by decide) ht (fun _ => ⟨rfl, rfl⟩) (fun z => by omega) (Or.inl rfl) (fun z => by
    rcases hw with ⟨rfl, rfl⟩ | ⟨rfl, rfl⟩
    · exact absurd z (by decide)
    · exact Or.inr ⟨rfl, by decide⟩)
  cases r with
  | inl q =>
    obtain ⟨M1, k, q1, q2, b1, b2, P, s, c1, b3, g1, g2, g3, g4⟩ := key
    obtain ⟨M2, e1, e2, e3⟩ := rstl_ok (l := 1) (by decide) (by decide) g1 g2 g3 g4
    refine ⟨M2, ?_, by rw [e3.fld 10 0 19 rfl]; exact b1, by rw [e3.fld 10 0 18 rfl]; exact b2⟩
    unfold fn_X10_readExpression
    have := q2 (1000000 - k)
    rw [show 1000000 - k + k = 1000000 by omega] at this
    rw [this, bd_s, show fn_X10_settle 1 M1 = some M2 from e1, bd_s]
  | inr s' =>
    have kk : pq_out T L w st s' := sp_ok n w _ _ _ (by omega) hs hin
    obtain ⟨q0, M1, P, s, c1, b1, k, q1, q2, q3, q4, q5, q6, q7⟩ := key
    have h19 : M1.1 10 0 19 = 0 := q3.2.2.2.2.1
    have pL : s'.1 ≤ L := kk.1.1
    have inz : inn P s = 0 := by
      rw [q7.inn q4.2.2 (by rcases hw with ⟨rfl, -⟩ | ⟨rfl, -⟩ <;> decide)]
      rfl
    have fin : ∀ N, lp_X10_readExpression_20 (N + 2) a1 (tout w) M1 = some M1 := by
      intro N
      have stop : lp_X10_readExpression_20 (N + 1) a1 4 M1 = some M1 := by
        rw [lp_X10_readExpression_20, if_neg (fun z => z h19), if_pos rfl]
      rcases hw with ⟨rfl, rfl⟩ | ⟨rfl, rfl⟩
      · have ke1 := kk.2.2.2.2.2.2.1 (by omega)
        have ke2 := kk.2.2.2.2.2.2.2.1 (by omega)
        rw [show N + 2 = (N + 1) + 1 from rfl, show tout 4 = 3 from rfl, lpe3 h19 (bs_over q3 q4 ⟨ke2.1, ke2.2, ke1.1, ke1.2.1, ke1.2.2⟩ inz)]
        exact stop
      · rw [show N + 2 = (N + 1) + 1 from rfl, show tout 0 = 2 from rfl, lpe2 h19 (bt_over q3 q4 ⟨kk.2.2.2.2.2.2.2.2.2 (by omega), kk.2.2.2.2.2.2.2.2.1 (by omega)⟩ inz)]
        exact stop
    have rv1 : rv ord P 1 0 b s c1 b1 s'.2.2.2.1 s'.2.2.2.2 := q7.low (by rcases hw with ⟨rfl, -⟩ | ⟨rfl, -⟩ <;> decide)
    obtain ⟨M2, c2, b2, e1, e2, e3, e4, e5⟩ := rsettle q3 q4 (by decide) (by decide) rv1 (Or.inl rfl)
    refine ⟨M2, c2, b2, ?_, ⟨e2.1, ⟨e2.2.1.2.2.1, e2.2.1.2.2.2⟩, e2.2.2.1, e2.2.2.2.2.1, e2.2.2.2.2.2.1, e2.2.2.2.2.2.2, by have := e5.2.1; omega⟩, fun j hj => by rw [e3 j hj, q6 j hj], e4⟩
    unfold fn_X10_readExpression
    have a := q2 (1000000 - k)
    rw [show 1000000 - k + k = 1000000 by omega] at a
    have d := fin (1000000 - k - 2)
    rw [show 1000000 - k - 2 + 2 = 1000000 - k by omega] at d
    rw [a, d, bd_s, show fn_X10_settle 1 M1 = some M2 from e1, bd_s]
end RB
