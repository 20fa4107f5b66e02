/-! all that the pure reader reads is well -/
section SL
variable {T : Nat → Nat} {L : Nat} {ord : Bool} {s s1 s2 : pst} {r : Nat ⊕ pst} {w w1 w2 : Nat}
theorem lf_ok {q aw' : Nat} {f : dn} (hg : pq_g L s) (hlv : s.2.1 < 50) (hq : s.1 ≤ q) (hqL : q ≤ L) (hk : lx_kd T L q ≠ 257) (haw : aw' < 128) (hb : pq_b s.2.2.1 aw') (hdw : dw aw' f) (hbd : dn_bd f) : pq_out T L 6 s (lx_nx T L q, s.2.1 + 1, aw', f, 1) := by
  have := nx_in hqL hk
  refine ⟨⟨this.2, hlv, haw⟩, by show s.1 ≤ lx_nx T L q; omega, fun _ => by show s.1 < lx_nx T L q; omega, hb, ⟨Nat.le_refl 1, hdw, fun z => absurd z (by decide), fun _ => hbd⟩, Nat.le_refl _, ⟨fun z => by omega, fun z => by omega, fun z => by omega, fun z => by omega⟩⟩
theorem bd_wd (x : Nat) : dn_bd (fun env => some (env x)) := by
  intro env v he h
  have e := Option.some.inj h
  have := he x
  rw [← e]
  rw [fa_le64, fa_le64] at this ⊢
  have a1 : (-1000000 : Int64).toInt = -1000000 := by decide
  have a2 : (1000000 : Int64).toInt = 1000000 := by decide
  have a3 : (-1000000000 : Int64).toInt = -1000000000 := by decide
  have a4 : (1000000000 : Int64).toInt = 1000000000 := by decide
  omega
theorem bd_nm {x : Nat} (h : x ≤ 1001) : dn_bd (fun _ => some (lN x)) := by
  intro env v _ h2
  have e := Option.some.inj h2
  rw [← e, fa_le64, fa_le64, pf_lI (by omega)]
  have a3 : (-1000000000 : Int64).toInt = -1000000000 := by decide
  have a4 : (1000000000 : Int64).toInt = 1000000000 := by decide
  omega
theorem dw_wd {aw x : Nat} (h : x < 12 ∨ ∃ N, N < 7 ∧ x = 12 + N ∧ aw.testBit N = true) : dw aw (fun env => some (env x)) := by
  intro env env' h1 h2
  show some (env x) = some (env' x)
  rcases h with h | ⟨N, hN, rfl, hb⟩
  · rw [h1 x h]
  · rw [h2 N hN hb]
theorem leaf_ok (hg : pq_g L s) : pq_res T L 6 s (sp_leaf T L ord s.1 s.2.1 s.2.2.1) := by
  have hp := hg.1
  have rf : pq_b s.2.2.1 s.2.2.1 := fun _ q => q
  have bad : ∀ q, s.1 ≤ q → q ≤ L → pq_res T L 6 s (.inl q) := fun q h1 h2 => ⟨h1, h2⟩
  unfold sp_leaf sp_wd
  by_cases c1 : 50 ≤ s.2.1
  · rw [if_pos c1]; exact bad _ (Nat.le_refl _) hp
  rw [if_neg c1]
  by_cases c2 : lx_kd T L s.1 = 256
  · rw [if_pos c2]
    by_cases c3 : lx_vl T L s.1 ≤ 1000
    · rw [if_pos c3]
      exact lf_ok hg (by omega) (Nat.le_refl _) hp (by omega) hg.2.2 rf (fun _ _ _ _ => rfl) (bd_nm (by omega))
    · rw [if_neg c3]; exact bad _ (Nat.le_refl _) hp
  rw [if_neg c2]
  cases ord with
  | false =>
    rw [if_pos rfl]
    by_cases c3 : 274 ≤ lx_kd T L s.1 ∧ lx_kd T L s.1 ≤ 281
    · rw [if_pos c3]
      exact lf_ok hg (by omega) (Nat.le_refl _) hp (by omega) hg.2.2 rf (dw_wd (Or.inl (by omega))) (bd_wd _)
    · rw [if_neg c3]; exact bad _ (Nat.le_refl _) hp
  | true =>
    rw [if_neg (by decide)]
    by_cases c3 : lx_kd T L s.1 = 278 ∨ lx_kd T L s.1 = 286
    · rw [if_pos c3]
      have hn := nx_in hp (show lx_kd T L s.1 ≠ 257 by omega)
      by_cases c4 : lx_kd T L (lx_nx T L s.1) = 256 ∧ lx_vl T L (lx_nx T L s.1) < 7
      · rw [if_pos c4]
        have h128 : s.2.2.1 ||| 2 ^ lx_vl T L (lx_nx T L s.1) < 128 := Nat.or_lt_two_pow (n := 7) hg.2.2 (Nat.pow_lt_pow_right (by decide) c4.2)
        by_cases c5 : lx_kd T L s.1 = 286
        · rw [if_pos c5, if_pos c5]
          refine lf_ok hg (by omega) (by omega) hn.2 (by omega) h128 (fun N q => by rw [or_bit, q, Bool.true_or]) (dw_wd (Or.inr ⟨_, c4.2, rfl, ?_⟩)) (bd_wd _)
          rw [or_bit, decide_eq_true rfl, Bool.or_true]
        · rw [if_neg c5, if_neg c5]
          exact lf_ok hg (by omega) (by omega) hn.2 (by omega) hg.2.2 rf (dw_wd (Or.inl (by omega))) (bd_wd _)
      · rw [if_neg c4]; exact bad _ (by omega) hn.2
    rw [if_neg c3]
    by_cases c4 : lx_kd T L s.1 = 280
    · rw [if_pos c4]
      exact lf_ok hg (by omega) (Nat.le_refl _) hp (by omega) hg.2.2 rf (dw_wd (Or.inl (by omega))) (bd_wd _)
    rw [if_neg c4]
    by_cases c5 : 282 ≤ lx_kd T L s.1 ∧ lx_kd T L s.1 ≤ 285
    · rw [if_pos c5]
      exact lf_ok hg (by omega) (Nat.le_refl _) hp (by omega) hg.2.2 rf (dw_wd (Or.inl (by omega))) (bd_wd _)
    · rw [if_neg c5]; exact bad _ (Nat.le_refl _) hp
/-- a first one, then the loop behind it -/
theorem pq_seq (h1 : pq_out T L w1 s s1) (h2 : pq_res T L w2 s1 r) (hw1 : w1 ≤ 6) (hw2 : 7 ≤ w2) (hw : w ≤ 6) (ht : tst w = tst w2) (he : ∀ k, pq_e w2 k → pq_e w k) : pq_res T L w s r := by
  obtain ⟨a1, a2, a3, a4, a5, a6, a7⟩ := h1
  have a3 := a3 hw1
  rw [if_pos hw1] at a6
  cases r with
  | inl q => exact ⟨Nat.le_trans a2 h2.1, h2.2⟩
  | inr s' =>
    obtain ⟨b1, b2, b3, b4, b5, b6, b7⟩ := h2
    rw [if_neg (by omega)] at b6
    refine ⟨b1, by omega, fun _ => by omega, fun N q => b4 N (a4 N q), ⟨b5.1, b5.2.1, by rw [ht]; exact b5.2.2.1, by rw [ht]; exact b5.2.2.2⟩, ?_, he _ b7⟩
    rw [if_pos hw]; omega
/-- once more round the loop -/
theorem pq_loop {J : dn} (hw1 : w1 ≤ 6) (hw2 : 7 ≤ w2) (hg : pq_g L s) (hk : lx_kd T L s.1 ≠ 257) (h1 : pq_out T L w1 (sp_at (lx_nx T L s.1) s) s2) (h2 : pq_res T L w2 (s2.1, s2.2.1, s2.2.2.1, J, s.2.2.2.2 + s2.2.2.2.2) r) : pq_res T L w2 s r := by
  have hn := nx_in hg.1 hk
  obtain ⟨a1, a2, a3, a4, a5, a6, a7⟩ := h1
  have a3 : lx_nx T L s.1 < s2.1 := a3 hw1
  rw [if_pos hw1] at a6
  have a6 : s.2.1 + s2.2.2.2.2 ≤ s2.2.1 + 0 := a6
  cases r with
  | inl q =>
    have h2 : s2.1 ≤ q ∧ q ≤ L := h2
    exact ⟨by omega, h2.2⟩
  | inr s' =>
    obtain ⟨b1, b2, b3, b4, b5, b6, b7⟩ := h2
    have b2 : s2.1 ≤ s'.1 := b2
    rw [if_neg (by omega)] at b6
    have b6 : s2.2.1 + s'.2.2.2.2 ≤ s'.2.1 + (s.2.2.2.2 + s2.2.2.2.2) := b6
    refine ⟨b1, by omega, fun z => by omega, fun N q => b4 N (a4 N q), b5, ?_, b7⟩
    rw [if_neg (by omega)]; omega
theorem sp_ok : ∀ (n w dep : Nat) (s : pst) (r : Nat ⊕ pst), w ≤ 10 → sp T L ord n w dep s = some r → pq_in T L w s → pq_res T L w s r
  | 0, _, _, _, _, _, h, _ => by cases h
  | n + 1, w, dep, s, r, hw, h, hin => by
    have ih := sp_ok n
    have hg := hin.1
    have hp := hg.1
    have pin : ∀ (w1 : Nat) (p1 : Nat), w1 ≤ 6 → p1 ≤ L → pq_in T L w1 (sp_at p1 s) := fun w1 p1 h1 h2 => ⟨⟨h2, hg.2.1, hg.2.2⟩, fun z => by omega, fun z => by omega, fun z => by omega⟩
    have pin0 : ∀ w1 : Nat, w1 ≤ 6 → pq_in T L w1 s := fun w1 h1 => pin w1 s.1 h1 hp
    have bad : ∀ (w1 : Nat) (q : Nat), s.1 ≤ q → q ≤ L → pq_res T L w1 s (.inl q) := fun w1 q h1 h2 => ⟨h1, h2⟩
    -- a bracket
    have brk : ∀ (w0 c w1 : Nat), (w0 = 2 ∧ w1 = 0 ∨ w0 = 6 ∧ w1 = 4) → c ≠ 257 → lx_kd T L s.1 ≠ 257 → pb (sp T L ord n w1 (dep + 1) (sp_at (lx_nx T L s.1) s)) (sp_cl T L c) = some r → pq_res T L w0 s r := by
      intro w0 c w1 hww hc hk h
      have hn := nx_in hp hk
      rcases pb_of h with ⟨q, e1, rfl⟩ | ⟨s2, e1, e2⟩
      · have := ih w1 _ _ _ (by omega) e1 (pin w1 _ (by omega) hn.2)
        exact bad _ q (by have : lx_nx T L s.1 ≤ q := this.1; omega) this.2
      · have k := ih w1 _ _ _ (by omega) e1 (pin w1 _ (by omega) hn.2)
        obtain ⟨a1, a2, a3, a4, a5, a6, a7⟩ := k
        have a2 : lx_nx T L s.1 ≤ s2.1 := a2
        unfold sp_cl at e2
        by_cases c1 : lx_kd T L s2.1 = c
        · rw [if_pos c1] at e2
          have e := Option.some.inj e2
          subst e
          have hn2 := nx_in a1.1 (show lx_kd T L s2.1 ≠ 257 by omega)
          rw [if_pos (by omega)] at a6
          have a6 : s.2.1 + s2.2.2.2.2 ≤ s2.2.1 + 0 := a6
          have et : tst w0 = tst w1 := by rcases hww with ⟨rfl, rfl⟩ | ⟨rfl, rfl⟩ <;> rfl
          refine ⟨⟨hn2.2, a1.2⟩, by show s.1 ≤ lx_nx T L s2.1; omega, fun _ => by show s.1 < lx_nx T L s2.1; omega, a4, ⟨a5.1, a5.2.1, by rw [et]; exact a5.2.2.1, by rw [et]; exact a5.2.2.2⟩, ?_, ?_⟩
          · rw [if_pos (by omega)]; exact a6
          · rcases hww with ⟨rfl, rfl⟩ | ⟨rfl, rfl⟩
            · exact ⟨fun z => by omega, fun z => by omega, fun z => by omega, fun z => by omega⟩
            · exact ⟨fun z => by omega, fun z => by omega, fun z => by omega, fun z => by omega⟩
        · rw [if_neg c1] at e2
          have e := Option.some.inj e2
          subst e
          exact bad _ _ (by omega) a1.1
    rw [sp] at h
    have hw' : w = 0 ∨ w = 1 ∨ w = 2 ∨ w = 3 ∨ w = 4 ∨ w = 5 ∨ w = 6 ∨ w = 7 ∨ w = 8 ∨ w = 9 ∨ w = 10 := by omega
    rcases hw' with rfl | rfl | rfl | rfl | rfl | rfl | rfl | rfl | rfl | rfl | rfl
    · rw [if_pos rfl] at h
      rcases pb_of h with ⟨q, e1, rfl⟩ | ⟨s1, e1, e2⟩
      · exact ih 1 _ _ _ (by omega) e1 (pin0 1 (by omega))
      · have k : pq_out T L 1 s s1 := ih 1 _ _ _ (by omega) e1 (pin0 1 (by omega))
        exact pq_seq k (ih 7 _ _ _ (by omega) e2 ⟨k.1, fun _ => k.2.2.2.2.1, fun _ => k.2.2.2.2.2.2.2.2.1 (by omega), fun z => by omega⟩) (by omega) (by omega) (by omega) rfl (fun k q => ⟨fun z => by omega, fun z => by omega, fun _ => q.2.2.1 (by omega), fun _ => q.2.2.2 (by omega)⟩)
    · rw [if_neg (by decide), if_pos rfl] at h
      rcases pb_of h with ⟨q, e1, rfl⟩ | ⟨s1, e1, e2⟩
      · exact ih 2 _ _ _ (by omega) e1 (pin0 2 (by omega))
      · have k : pq_out T L 2 s s1 := ih 2 _ _ _ (by omega) e1 (pin0 2 (by omega))
        exact pq_seq k (ih 8 _ _ _ (by omega) e2 ⟨k.1, fun _ => k.2.2.2.2.1, fun z => by omega, fun z => by omega⟩) (by omega) (by omega) (by omega) rfl (fun k q => ⟨fun z => by omega, fun z => by omega, fun _ => q.2.2.1 (by omega), fun z => by omega⟩)
    · rw [if_neg (by decide), if_neg (by decide), if_pos rfl] at h
      by_cases c1 : lx_kd T L s.1 = 261
      · rw [if_pos c1] at h
        have hn := nx_in hp (show lx_kd T L s.1 ≠ 257 by omega)
        rcases pb_of h with ⟨q, e1, rfl⟩ | ⟨s2, e1, e2⟩
        · have := ih 2 _ _ _ (by omega) e1 (pin 2 _ (by omega) hn.2)
          exact bad _ q (by have : lx_nx T L s.1 ≤ q := this.1; omega) this.2
        · obtain ⟨a1, a2, a3, a4, a5, a6, a7⟩ : pq_out T L 2 _ s2 := ih 2 _ _ _ (by omega) e1 (pin 2 _ (by omega) hn.2)
          have e := Option.some.inj e2
          subst e
          have a2 : lx_nx T L s.1 ≤ s2.1 := a2
          exact ⟨a1, by show s.1 ≤ s2.1; omega, fun _ => by show s.1 < s2.1; omega, a4, ⟨a5.1, dw_not a5.2.1, fun z => t01_not (a5.2.2.1 z), fun z => absurd z (by decide)⟩, a6, a7⟩
      · rw [if_neg c1] at h
        by_cases c2 : lx_kd T L s.1 = 40
        · rw [if_pos c2] at h
          by_cases c3 : dep < 8
          · rw [if_pos c3] at h
            exact brk 2 41 0 (Or.inl ⟨rfl, rfl⟩) (by decide) (by omega) h
          · rw [if_neg c3] at h
            have e := Option.some.inj h
            subst e
            exact bad _ _ (Nat.le_refl _) hp
        · rw [if_neg c2] at h
          have k := ih 3 _ _ _ (by omega) h (pin0 3 (by omega))
          cases r with
          | inl q => exact k
          | inr s' =>
            obtain ⟨a1, a2, a3, a4, a5, a6, a7⟩ := k
            exact ⟨a1, a2, fun _ => a3 (by omega), a4, a5, a6, ⟨fun z => by omega, fun z => by omega, fun z => by omega, fun z => by omega⟩⟩
    · rw [if_neg (by decide), if_neg (by decide), if_neg (by decide), if_pos rfl] at h
      rcases pb_of h with ⟨q, e1, rfl⟩ | ⟨s1, e1, e2⟩
      · exact ih 4 _ _ _ (by omega) e1 (pin0 4 (by omega))
      · obtain ⟨a1, a2, a3, a4, a5, a6, a7⟩ : pq_out T L 4 s s1 := ih 4 _ _ _ (by omega) e1 (pin0 4 (by omega))
        by_cases c1 : lx_kd T L s1.1 = 60 ∨ lx_kd T L s1.1 = 62 ∨ lx_kd T L s1.1 = 61
        · rw [if_pos c1] at e2
          have hn := nx_in a1.1 (show lx_kd T L s1.1 ≠ 257 by omega)
          have pin1 : pq_in T L 4 (sp_at (lx_nx T L s1.1) s1) := ⟨⟨hn.2, a1.2⟩, fun z => by omega, fun z => by omega, fun z => by omega⟩
          rcases pb_of e2 with ⟨q, e3, rfl⟩ | ⟨s2, e3, e4⟩
          · have := ih 4 _ _ _ (by omega) e3 pin1
            exact bad _ q (by have : lx_nx T L s1.1 ≤ q := this.1; omega) this.2
          · obtain ⟨b1, b2, b3, b4, b5, b6, b7⟩ : pq_out T L 4 _ s2 := ih 4 _ _ _ (by omega) e3 pin1
            have e := Option.some.inj e4
            subst e
            have b2 : lx_nx T L s1.1 ≤ s2.1 := b2
            rw [if_pos (by omega)] at a6 b6
            have b6 : s1.2.1 + s2.2.2.2.2 ≤ s2.2.1 + 0 := b6
            have a5h := a5.1
            have ho : 5 ≤ sp_o (lx_kd T L s1.1) ∧ sp_o (lx_kd T L s1.1) ≤ 7 := by
              unfold sp_o
              rcases c1 with c | c | c <;> rw [c] <;> decide
            refine ⟨b1, by show s.1 ≤ s2.1; omega, fun _ => by show s.1 < s2.1; omega, fun N q => b4 N (a4 N q), ⟨by show 1 ≤ s1.2.2.2.2 + s2.2.2.2.2; omega, dw_two (a5.2.1.mono b4) b5.2.1, fun _ => t01_two ho, fun z => absurd z (by decide)⟩, ?_, ⟨fun z => by omega, fun z => by omega, fun z => by omega, fun z => by omega⟩⟩
            rw [if_pos (by omega)]
            show s.2.1 + (s1.2.2.2.2 + s2.2.2.2.2) ≤ s2.2.1 + 0
            omega
        · rw [if_neg c1] at e2
          have e := Option.some.inj e2
          subst e
          exact bad _ _ a2 a1.1
    · rw [if_neg (by decide), if_neg (by decide), if_neg (by decide), if_neg (by decide), if_pos rfl] at h
      rcases pb_of h with ⟨q, e1, rfl⟩ | ⟨s1, e1, e2⟩
      · exact ih 5 _ _ _ (by omega) e1 (pin0 5 (by omega))
      · have k : pq_out T L 5 s s1 := ih 5 _ _ _ (by omega) e1 (pin0 5 (by omega))
        exact pq_seq k (ih 9 _ _ _ (by omega) e2 ⟨k.1, fun _ => k.2.2.2.2.1, fun z => by omega, fun _ => k.2.2.2.2.2.2.1 (by omega)⟩) (by omega) (by omega) (by omega) rfl (fun k q => ⟨fun _ => q.1 (by omega), fun _ => q.2.1 (by omega), fun z => by omega, fun z => by omega⟩)
    · rw [if_neg (by decide), if_neg (by decide), if_neg (by decide), if_neg (by decide), if_neg (by decide), if_pos rfl] at h
      rcases pb_of h with ⟨q, e1, rfl⟩ | ⟨s1, e1, e2⟩
      · exact ih 6 _ _ _ (by omega) e1 (pin0 6 (by omega))
      · have k : pq_out T L 6 s s1 := ih 6 _ _ _ (by omega) e1 (pin0 6 (by omega))
        exact pq_seq k (ih 10 _ _ _ (by omega) e2 ⟨k.1, fun _ => k.2.2.2.2.1, fun z => by omega, fun z => by omega⟩) (by omega) (by omega) (by omega) rfl (fun k q => ⟨fun _ => q.1 (by omega), fun z => by omega, fun z => by omega, fun z => by omega⟩)
    · rw [if_neg (by decide), if_neg (by decide), if_neg (by decide), if_neg (by decide), if_neg (by decide), if_neg (by decide), if_pos rfl] at h
      by_cases c2 : lx_kd T L s.1 = 91
      · rw [if_pos c2] at h
        by_cases c3 : dep < 8
        · rw [if_pos c3] at h
          exact brk 6 93 4 (Or.inr ⟨rfl, rfl⟩) (by decide) (by omega) h
        · rw [if_neg c3] at h
          have e := Option.some.inj h
          subst e
          exact bad _ _ (Nat.le_refl _) hp
      · rw [if_neg c2] at h
        have e := Option.some.inj h
        subst e
        exact leaf_ok hg
    · rw [if_neg (by decide), if_neg (by decide), if_neg (by decide), if_neg (by decide), if_neg (by decide), if_neg (by decide), if_neg (by decide), if_pos rfl] at h
      have hf := hin.2.1 (by omega)
      by_cases c1 : lx_kd T L s.1 = 259
      · rw [if_pos c1] at h
        have hk : lx_kd T L s.1 ≠ 257 := by omega
        have hn := nx_in hp hk
        rcases pb_of h with ⟨q, e1, rfl⟩ | ⟨s2, e1, e2⟩
        · have := ih 1 _ _ _ (by omega) e1 (pin 1 _ (by omega) hn.2)
          exact bad _ q (by have : lx_nx T L s.1 ≤ q := this.1; omega) this.2
        · have k : pq_out T L 1 _ s2 := ih 1 _ _ _ (by omega) e1 (pin 1 _ (by omega) hn.2)
          exact pq_loop (by omega) (by omega) hg hk k (ih 7 _ _ _ (by omega) e2 ⟨k.1, fun _ => ⟨by show 1 ≤ s.2.2.2.2 + s2.2.2.2.2; have := hf.1; omega, dw_both (hf.2.1.mono k.2.2.2.1) k.2.2.2.2.1.2.1, fun _ => t01_both (hf.2.2.1 rfl) (k.2.2.2.2.1.2.2.1 rfl), fun z => absurd z (by decide)⟩, fun _ => k.2.2.2.2.2.2.2.2.1 (by omega), fun z => by omega⟩)
      · rw [if_neg c1] at h
        have e := Option.some.inj h
        subst e
        exact ⟨hg, Nat.le_refl _, fun z => by omega, fun _ q => q, hf, by rw [if_neg (by omega)]; omega, ⟨fun z => by omega, fun z => by omega, fun _ => hin.2.2.1 rfl, fun _ => c1⟩⟩
    · rw [if_neg (by decide), if_neg (by decide), if_neg (by decide), if_neg (by decide), if_neg (by decide), if_neg (by decide), if_neg (by decide), if_neg (by decide), if_pos rfl] at h
      have hf := hin.2.1 (by omega)
      by_cases c1 : lx_kd T L s.1 = 260
      · rw [if_pos c1] at h
        have hk : lx_kd T L s.1 ≠ 257 := by omega
        have hn := nx_in hp hk
        rcases pb_of h with ⟨q, e1, rfl⟩ | ⟨s2, e1, e2⟩
        · have := ih 2 _ _ _ (by omega) e1 (pin 2 _ (by omega) hn.2)
          exact bad _ q (by have : lx_nx T L s.1 ≤ q := this.1; omega) this.2
        · have k : pq_out T L 2 _ s2 := ih 2 _ _ _ (by omega) e1 (pin 2 _ (by omega) hn.2)
          exact pq_loop (by omega) (by omega) hg hk k (ih 8 _ _ _ (by omega) e2 ⟨k.1, fun _ => ⟨by show 1 ≤ s.2.2.2.2 + s2.2.2.2.2; have := hf.1; omega, dw_both (hf.2.1.mono k.2.2.2.1) k.2.2.2.2.1.2.1, fun _ => t01_both (hf.2.2.1 rfl) (k.2.2.2.2.1.2.2.1 rfl), fun z => absurd z (by decide)⟩, fun z => by omega, fun z => by omega⟩)
      · rw [if_neg c1] at h
        have e := Option.some.inj h
        subst e
        exact ⟨hg, Nat.le_refl _, fun z => by omega, fun _ q => q, hf, by rw [if_neg (by omega)]; omega, ⟨fun z => by omega, fun z => by omega, fun _ => c1, fun z => by omega⟩⟩
    · rw [if_neg (by decide), if_neg (by decide), if_neg (by decide), if_neg (by decide), if_neg (by decide), if_neg (by decide), if_neg (by decide), if_neg (by decide), if_neg (by decide), if_pos rfl] at h
      have hf := hin.2.1 (by omega)
      by_cases c1 : lx_kd T L s.1 = 43 ∨ lx_kd T L s.1 = 45
      · rw [if_pos c1] at h
        have hk : lx_kd T L s.1 ≠ 257 := by omega
        have hn := nx_in hp hk
        have ho : sp_o (lx_kd T L s.1) ≤ 4 := by
          unfold sp_o
          rcases c1 with c | c <;> rw [c] <;> decide
        rcases pb_of h with ⟨q, e1, rfl⟩ | ⟨s2, e1, e2⟩
        · have := ih 5 _ _ _ (by omega) e1 (pin 5 _ (by omega) hn.2)
          exact bad _ q (by have : lx_nx T L s.1 ≤ q := this.1; omega) this.2
        · have k : pq_out T L 5 _ s2 := ih 5 _ _ _ (by omega) e1 (pin 5 _ (by omega) hn.2)
          exact pq_loop (by omega) (by omega) hg hk k (ih 9 _ _ _ (by omega) e2 ⟨k.1, fun _ => ⟨by show 1 ≤ s.2.2.2.2 + s2.2.2.2.2; have := hf.1; omega, dw_two (hf.2.1.mono k.2.2.2.1) k.2.2.2.2.1.2.1, fun z => absurd z (by decide), fun _ => bd_two ho⟩, fun z => by omega, fun _ => k.2.2.2.2.2.2.1 (by omega)⟩)
      · rw [if_neg c1] at h
        have e := Option.some.inj h
        subst e
        exact ⟨hg, Nat.le_refl _, fun z => by omega, fun _ q => q, hf, by rw [if_neg (by omega)]; omega, ⟨fun _ => hin.2.2.2 rfl, fun _ => by omega, fun z => by omega, fun z => by omega⟩⟩
    · rw [if_neg (by decide), if_neg (by decide), if_neg (by decide), if_neg (by decide), if_neg (by decide), if_neg (by decide), if_neg (by decide), if_neg (by decide), if_neg (by decide), if_neg (by decide)] at h
      have hf := hin.2.1 (by omega)
      by_cases c1 : lx_kd T L s.1 = 42 ∨ lx_kd T L s.1 = 47 ∨ lx_kd T L s.1 = 37
      · rw [if_pos c1] at h
        have hk : lx_kd T L s.1 ≠ 257 := by omega
        have hn := nx_in hp hk
        have ho : sp_o (lx_kd T L s.1) ≤ 4 := by
          unfold sp_o
          rcases c1 with c | c | c <;> rw [c] <;> decide
        rcases pb_of h with ⟨q, e1, rfl⟩ | ⟨s2, e1, e2⟩
        · have := ih 6 _ _ _ (by omega) e1 (pin 6 _ (by omega) hn.2)
          exact bad _ q (by have : lx_nx T L s.1 ≤ q := this.1; omega) this.2
        · have k : pq_out T L 6 _ s2 := ih 6 _ _ _ (by omega) e1 (pin 6 _ (by omega) hn.2)
          exact pq_loop (by omega) (by omega) hg hk k (ih 10 _ _ _ (by omega) e2 ⟨k.1, fun _ => ⟨by show 1 ≤ s.2.2.2.2 + s2.2.2.2.2; have := hf.1; omega, dw_two (hf.2.1.mono k.2.2.2.1) k.2.2.2.2.1.2.1, fun z => absurd z (by decide), fun _ => bd_two ho⟩, fun z => by omega, fun z => by omega⟩)
      · rw [if_neg c1] at h
        have e := Option.some.inj h
        subst e
        exact ⟨hg, Nat.le_refl _, fun z => by omega, fun _ q => q, hf, by rw [if_neg (by omega)]; omega, ⟨fun _ => by omega, fun z => by omega, fun z => by omega, fun z => by omega⟩⟩
end SL
