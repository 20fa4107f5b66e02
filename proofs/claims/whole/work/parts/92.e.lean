/-! the reference's loop follows the pure reader: the proof -/
section RA
variable {T : Nat → Nat} {L : Nat} {ord : Bool} {a1 : Int32}
theorem rres.w {M : am_m} {t : Int32} {w w1 : Nat} {P c : rcd} {s0 b0 dep p : Nat} {r : Nat ⊕ pst} (hl : lev w ≤ lev w1) (ht : tout w1 = tout w) (h : rres T L ord a1 M t w1 P c s0 b0 dep p r) : rres T L ord a1 M t w P c s0 b0 dep p r := by
  cases r with
  | inl q => exact h
  | inr st =>
    obtain ⟨h0, M', P', s1, c', b', k, h1, h2, h3, h4, h5, h6, h7⟩ := h
    exact ⟨h0, M', P', s1, c', b', k, h1, fun N => by rw [← ht]; exact h2 N, h3, h4, h5, h6, h7.low hl⟩
theorem isc_bdry {P : rcd} {s0 : Nat} (h : s0 = 0 ∨ bnd (P (s0 - 1)).1 < 4) : isc P s0 = false := by
  cases s0 with
  | zero => rfl
  | succ s =>
    have h : bnd (P s).1 < 4 := by
      rcases h with h | h
      · omega
      · exact h
    have : 28 ≤ (P s).1 := by
      unfold bnd at h
      by_cases q : 28 ≤ (P s).1
      · exact q
      · exfalso
        rw [if_neg (by omega), if_neg (by omega), if_neg (by omega), if_neg (by omega)] at h
        by_cases q2 : 25 ≤ (P s).1
        · rw [if_pos q2] at h; omega
        · rw [if_neg q2] at h
          by_cases q3 : 22 ≤ (P s).1
          · rw [if_pos q3] at h; omega
          · rw [if_neg q3] at h; omega
    rw [isc, if_neg (by omega), decide_eq_false (by omega)]
theorem chain {M M1 M2 : am_m} {t t1 t2 : Int32} {k1 k2 : Nat} (h1 : ∀ N, lp_X10_readExpression_20 (N + k1) a1 t M = lp_X10_readExpression_20 N a1 t1 M1) (h2 : ∀ N, lp_X10_readExpression_20 (N + k2) a1 t1 M1 = lp_X10_readExpression_20 N a1 t2 M2) (N : Nat) : lp_X10_readExpression_20 (N + (k2 + k1)) a1 t M = lp_X10_readExpression_20 N a1 t2 M2 := by rw [← Nat.add_assoc, h1, h2]
theorem rsim : ∀ (n w dep : Nat) (t : Int32) (st : pst) (r : Nat ⊕ pst) (M : am_m) (P c : rcd) (s b s0 b0 : Nat), w ≤ 10 → sp T L ord n w dep st = some r → pq_in T L w st → rmm T L ord M P s c b st.1 st.2.1 dep → rnv P s b st.1 → dep ≤ 8 → rin w t (lx_kd T L st.1) → (w ≤ 6 → s0 = s ∧ b0 = b) → (7 ≤ w → rv ord P (lev w) s0 b0 s c b st.2.2.2.1 st.2.2.2.2) → (s0 = 0 ∨ bnd (P (s0 - 1)).1 < lev w + (if w = 2 then 1 else 0)) → (tst w = true → tcx a1 P s0) → rres T L ord a1 M t w P c s0 b0 dep st.1 r
  | 0, _, _, _, _, _, _, _, _, _, _, _, _, _, h, _, _, _, _, _, _, _, _, _ => by cases h
  | n + 1, w, dep, t, st, r, M, P, c, s, b, s0, b0, hw, h, hin, hm, hn, hd, ht, hs6, hs7, hb, hcx => by
    have ih := rsim n
    have hg := hin.1
    have hp := hg.1
    have hL := hm.1.1.1
    have h19 : M.1 10 0 19 = 0 := hm.2.2.2.2.1
    obtain ⟨n1, n2, n3⟩ := hn
    have hn : rnv P s b st.1 := ⟨n1, n2, n3⟩
    have pin : ∀ (w1 p1 : Nat), w1 ≤ 6 → p1 ≤ L → pq_in T L w1 (sp_at p1 st) := fun w1 p1 h1 h2 => ⟨⟨h2, hg.2.1, hg.2.2⟩, fun z => by omega, fun z => by omega, fun z => by omega⟩
    have pin0 : ∀ w1 : Nat, w1 ≤ 6 → pq_in T L w1 st := fun w1 h1 => pin w1 st.1 h1 hp
    have cgb : ∀ (P1 : rcd) (l' : Nat), (∀ i, i < s0 → P1 i = P i) → (s0 = 0 ∨ bnd (P (s0 - 1)).1 < l') → (s0 = 0 ∨ bnd (P1 (s0 - 1)).1 < l') := fun P1 l' h1 h2 => by
      by_cases e : s0 = 0
      · exact Or.inl e
      · rw [h1 _ (by omega)]; exact h2
    have cgi : ∀ (P1 : rcd), (∀ i, i < s0 → P1 i = P i) → tcx a1 P s0 → tcx a1 P1 s0 := fun P1 h1 h2 => by
      unfold tcx at h2 ⊢
      rw [inn_cong h1]; exact h2
    -- a first one, then the loop behind it
    have seq : ∀ (w1 w2 : Nat) (s1 : pst), w1 ≤ 6 → 7 ≤ w2 → w2 ≤ 10 → lev w2 ≤ lev w1 → lev w = lev w2 → tout w2 = tout w → tst w2 = tst w → w ≠ 2 → rin w2 (tout w1) (lx_kd T L s1.1) → pq_in T L w2 s1 → sp T L ord n w2 dep s1 = some r → rres T L ord a1 M t w1 P c s0 b0 dep st.1 (.inr s1) → rres T L ord a1 M t w P c s0 b0 dep st.1 r := by
      intro w1 w2 s1 h1 h2 h3 h4 h5 h6 h7 h8 h9 h10 h11 h12
      obtain ⟨q0, M', P', sa, c', b', k, q1, q2, q3, q4, q5, q6, q7⟩ := h12
      rw [if_neg h8, h5] at hb
      refine rres.pre q0 h10.1.1 q1 q2 q5 q6 (rres.w (Nat.le_of_eq h5) h6 (ih w2 dep (tout w1) s1 r M' P' c' sa b' s0 b0 h3 h11 h10 q3 q4 hd h9 (fun z => by omega) (fun _ => q7.low h4) (cgb P' _ q5 (by rw [if_neg (by omega)]; exact hb)) (fun z => cgi P' q5 (hcx (by rw [← h7]; exact z)))))
    rw [sp] at h
    have hw' : w = 0 ∨ w = 1 ∨ w = 2 ∨ w = 3 ∨ w = 4 ∨ w = 5 ∨ w = 6 ∨ w = 7 ∨ w = 8 ∨ w = 9 ∨ w = 10 := by omega
    rcases hw' with rfl | rfl | rfl | rfl | rfl | rfl | rfl | rfl | rfl | rfl | rfl
    · rw [if_pos rfl] at h
      have hb1 : s0 = 0 ∨ bnd (P (s0 - 1)).1 < lev 1 + (if 1 = 2 then 1 else 0) := hb.imp id (fun z => by have z : bnd (P (s0 - 1)).1 < 1 := z; show _ < 2; omega)
      rcases pb_of h with ⟨q, e1, rfl⟩ | ⟨s1, e1, e2⟩
      · exact rres.w (w1 := 1) (by decide) rfl (ih 1 dep t st _ M P c s b s0 b0 (by omega) e1 (pin0 1 (by omega)) hm hn hd ⟨fun _ => ht.1 (by omega), fun z => by omega, fun z => by omega, fun z => by omega, fun z => by omega⟩ (fun _ => hs6 (by omega)) (fun z => by omega) hb1 (fun _ => hcx rfl)) |> fun z => z
      · have k : pq_out T L 1 st s1 := sp_ok n 1 _ _ _ (by omega) e1 (pin0 1 (by omega))
        exact seq 1 7 s1 (by omega) (by omega) (by omega) (by decide) rfl rfl rfl (by omega) ⟨fun z => by omega, fun z => by omega, fun z => by omega, fun _ => rfl, fun z => by omega⟩ ⟨k.1, fun _ => k.2.2.2.2.1, fun _ => k.2.2.2.2.2.2.2.2.1 (by omega), fun z => by omega⟩ e2 (ih 1 dep t st _ M P c s b s0 b0 (by omega) e1 (pin0 1 (by omega)) hm hn hd ⟨fun _ => ht.1 (by omega), fun z => by omega, fun z => by omega, fun z => by omega, fun z => by omega⟩ (fun _ => hs6 (by omega)) (fun z => by omega) hb1 (fun _ => hcx rfl))
    · rw [if_neg (by decide), if_pos rfl] at h
      have hb1 : s0 = 0 ∨ bnd (P (s0 - 1)).1 < lev 2 + (if 2 = 2 then 1 else 0) := hb.imp id (fun z => by have z : bnd (P (s0 - 1)).1 < 2 := z; show _ < 4; omega)
      rcases pb_of h with ⟨q, e1, rfl⟩ | ⟨s1, e1, e2⟩
      · exact rres.w (w1 := 2) (by decide) rfl (ih 2 dep t st _ M P c s b s0 b0 (by omega) e1 (pin0 2 (by omega)) hm hn hd ⟨fun _ => ht.1 (by omega), fun z => by omega, fun z => by omega, fun z => by omega, fun z => by omega⟩ (fun _ => hs6 (by omega)) (fun z => by omega) hb1 (fun _ => hcx rfl))
      · have k : pq_out T L 2 st s1 := sp_ok n 2 _ _ _ (by omega) e1 (pin0 2 (by omega))
        exact seq 2 8 s1 (by omega) (by omega) (by omega) (by decide) rfl rfl rfl (by omega) ⟨fun z => by omega, fun z => by omega, fun z => by omega, fun _ => rfl, fun z => by omega⟩ ⟨k.1, fun _ => k.2.2.2.2.1, fun z => by omega, fun z => by omega⟩ e2 (ih 2 dep t st _ M P c s b s0 b0 (by omega) e1 (pin0 2 (by omega)) hm hn hd ⟨fun _ => ht.1 (by omega), fun z => by omega, fun z => by omega, fun z => by omega, fun z => by omega⟩ (fun _ => hs6 (by omega)) (fun z => by omega) hb1 (fun _ => hcx rfl))
    · rw [if_neg (by decide), if_neg (by decide), if_pos rfl] at h
      have es := (hs6 (by omega)).1
      have eb := (hs6 (by omega)).2
      subst es
      subst eb
      have ht0 : t = 0 := ht.1 (by omega)
      subst ht0
      by_cases c1 : lx_kd T L st.1 = 261
      · rw [if_pos c1] at h
        have hx := nx_in hp (show lx_kd T L st.1 ≠ 257 by omega)
        obtain ⟨M1, o1, o2⟩ := pl_not hm (by omega) c1
        have nv1 : rnv (rcu P s0 (28, 0)) (s0 + 1) b0 (lx_nx T L st.1) := hn.push hx.1 (by decide) (fun z => by omega)
        have i1 : inn (rcu P s0 (28, 0)) (s0 + 1) = inn P s0 := by
          rw [inn, rcu_eq, if_neg (by decide)]
          exact inn_cong (fun i hi => rcu_ne (by omega))
        have r4 : ∀ r', sp T L ord n 2 dep (sp_at (lx_nx T L st.1) st) = some r' → rres T L ord a1 M1 0 2 (rcu P s0 (28, 0)) c (s0 + 1) b0 dep (lx_nx T L st.1) r' := fun r' e1 => ih 2 dep 0 (sp_at (lx_nx T L st.1) st) r' M1 (rcu P s0 (28, 0)) c (s0 + 1) b0 (s0 + 1) b0 (by omega) e1 (pin 2 _ (by omega) hx.2) o2 nv1 hd ⟨fun _ => rfl, fun z => by omega, fun z => by omega, fun z => by omega, fun z => by omega⟩ (fun _ => ⟨rfl, rfl⟩) (fun z => by omega) (Or.inr (by rw [Nat.add_sub_cancel, rcu_eq]; decide)) (fun _ => by unfold tcx; rw [i1]; exact hcx rfl)
        rcases pb_of h with ⟨q, e1, rfl⟩ | ⟨s2, e1, e2⟩
        · exact rres.fail (k1 := 1) (by omega) hx.2 (by omega) (lpe0 h19 o1) (r4 _ e1)
        · obtain ⟨q0, M2, P2, s2', c2', b2', k2, q1, q2, q3, q4, q5, q6, q7⟩ := r4 _ e1
          have e := Option.some.inj e2
          subst e
          have eP : P2 s0 = (28, 0) := by rw [q5 s0 (by omega), rcu_eq]
          exact ⟨by show st.1 ≤ s2.1; omega, M2, P2, s2', c2', b2', k2 + 1, by show k2 + 1 ≤ 2 * (s2.1 - st.1); omega, chain (lpe0 h19 o1) q2, q3, q4, fun i hi => by rw [q5 i (by omega), rcu_ne (by omega)], q6, rv_not eP q7 (by decide) (by decide)⟩
      rw [if_neg c1] at h
      by_cases c2 : lx_kd T L st.1 = 40
      · rw [if_pos c2] at h
        have hx := nx_in hp (show lx_kd T L st.1 ≠ 257 by omega)
        by_cases c3 : dep < 8
        · rw [if_pos c3] at h
          obtain ⟨M1, o1, o2⟩ := open1 (o := 31) hm c3 (by omega)
          have e0 : fn_X10_readPlain M = some (0, M1) := by rw [pl_open hm c2, show fn_X10_openBracket 31 M = some M1 from o1, bd_s]
          have nv1 : rnv (rcu P s0 (31, 0)) (s0 + 1) b0 (lx_nx T L st.1) := hn.push hx.1 (by decide) (fun z => by omega)
          have r4 : ∀ r', sp T L ord n 0 (dep + 1) (sp_at (lx_nx T L st.1) st) = some r' → rres T L ord a1 M1 0 0 (rcu P s0 (31, 0)) c (s0 + 1) b0 (dep + 1) (lx_nx T L st.1) r' := fun r' e1 => ih 0 (dep + 1) 0 (sp_at (lx_nx T L st.1) st) r' M1 (rcu P s0 (31, 0)) c (s0 + 1) b0 (s0 + 1) b0 (by omega) e1 (pin 0 _ (by omega) hx.2) o2 nv1 (by omega) ⟨fun _ => rfl, fun z => by omega, fun z => by omega, fun z => by omega, fun z => by omega⟩ (fun _ => ⟨rfl, rfl⟩) (fun z => by omega) (Or.inr (by rw [Nat.add_sub_cancel, rcu_eq]; decide)) (fun _ => Or.inl (by rw [inn, rcu_eq]; rfl))
          rcases pb_of h with ⟨q, e1, rfl⟩ | ⟨s2, e1, e2⟩
          · exact rres.fail (k1 := 1) (by omega) hx.2 (by omega) (lpe0 h19 e0) (r4 _ e1)
          · have k : pq_out T L 0 _ s2 := sp_ok n 0 _ _ _ (by omega) e1 (pin 0 _ (by omega) hx.2)
            obtain ⟨q0, M2, P2, s2', c2', b2', k2, q1, q2, q3, q4, q5, q6, q7⟩ := r4 _ e1
            have eP : P2 s0 = (31, 0) := by rw [q5 s0 (by omega), rcu_eq]
            have iP : inn P2 s2' = 31 := by rw [q7.inn q4.2.2 (by decide), inn, eP]; rfl
            have g := bt_cl (s0 := s0) q3 q4 ⟨k.2.2.2.2.2.2.2.2.2 (by omega), k.2.2.2.2.2.2.2.2.1 (by omega)⟩ iP (by rw [eP]) q7
            unfold sp_cl at e2
            by_cases c4 : lx_kd T L s2.1 = 41
            · rw [if_pos c4] at e2 g
              have e := Option.some.inj e2
              subst e
              have hx2 := nx_in k.1.1 (show lx_kd T L s2.1 ≠ 257 by omega)
              obtain ⟨M3, c3', b3', g1, g2, g3, g4, g5⟩ := g
              exact ⟨by show st.1 ≤ lx_nx T L s2.1; omega, M3, P2, s0, c3', b3', 1 + (k2 + 1), by show 1 + (k2 + 1) ≤ 2 * (lx_nx T L s2.1 - st.1); omega, chain (chain (lpe0 h19 e0) q2) (lpe2 q3.2.2.2.2.1 g1), g2, g5, fun i hi => by rw [q5 i (by omega), rcu_ne (by omega)], fun j hj => by rw [g3 j hj, q6 j hj], rv.of g4⟩
            · rw [if_neg c4] at e2 g
              have e := Option.some.inj e2
              subst e
              obtain ⟨M3, g1, g2⟩ := g
              exact rres.fail (k1 := k2 + 1) (p1 := s2.1) (w1 := 2) (P1 := P) (c1 := c) (s1 := 0) (b1 := 0) (dep1 := 0) (by omega) k.1.1 (by omega) (chain (lpe0 h19 e0) q2) (rres.bad (lpe2 q3.2.2.2.2.1 g1) g2)
        · rw [if_neg c3] at h
          have e := Option.some.inj h
          subst e
          obtain ⟨M1, o1, o2⟩ := open0 (o := 31) hm (by omega) hd n3 (by omega) (by omega)
          exact rres.bad (lpe0 h19 (show fn_X10_readPlain M = some (0, M1) by rw [pl_open hm c2, show fn_X10_openBracket 31 M = some M1 from o1, bd_s])) o2
      · rw [if_neg c2] at h
        exact rres.w (w1 := 3) (by decide) rfl (ih 3 dep 0 st r M P c s0 b0 s0 b0 (by omega) h (pin0 3 (by omega)) hm hn hd ⟨fun z => by omega, fun _ => ⟨rfl, c1, c2⟩, fun z => by omega, fun z => by omega, fun z => by omega⟩ (fun _ => ⟨rfl, rfl⟩) (fun z => by omega) hb (fun _ => hcx rfl))
    · rw [if_neg (by decide), if_neg (by decide), if_neg (by decide), if_pos rfl] at h
      have es := (hs6 (by omega)).1
      have eb := (hs6 (by omega)).2
      subst es
      subst eb
      have ht3 := ht.2.1 rfl
      have hb4 : s0 = 0 ∨ bnd (P (s0 - 1)).1 < 4 := hb
      have r4 : ∀ r', sp T L ord n 4 dep st = some r' → rres T L ord a1 M t 4 P c s0 b0 dep st.1 r' := fun r' e1 => ih 4 dep t st r' M P c s0 b0 s0 b0 (by omega) e1 (pin0 4 (by omega)) hm hn hd ⟨fun z => by omega, fun z => by omega, fun _ => Or.inr ht3, fun z => by omega, fun z => by omega⟩ (fun _ => ⟨rfl, rfl⟩) (fun z => by omega) (hb4.imp id (fun z => by show _ < 5; omega)) (fun z => absurd z (by decide))
      rcases pb_of h with ⟨q, e1, rfl⟩ | ⟨s1, e1, e2⟩
      · exact r4 _ e1
      · have k : pq_out T L 4 st s1 := sp_ok n 4 _ _ _ (by omega) e1 (pin0 4 (by omega))
        obtain ⟨q0, M1, P1, s1', c1, b1, k1, q1, q2, q3, q4, q5, q6, q7⟩ := r4 _ e1
        have ke1 := k.2.2.2.2.2.2.1 (by omega)
        have ke2 := k.2.2.2.2.2.2.2.1 (by omega)
        have hbb := cgb P1 4 q5 hb4
        have tc1 : tcx a1 P1 s1' := by
          have := cgi P1 q5 (hcx rfl)
          unfold tcx at this ⊢
          rw [q7.inn q4.2.2 (by decide)]; exact this
        have i1 : isc P1 s1' = false := by rw [q7.isc q4.2.2 (by decide)]; exact isc_bdry hbb
        have e3 := bs_tcx (a1 := a1) q3 q4 ⟨ke2.1, ke2.2, ke1.1, ke1.2.1, ke1.2.2⟩ tc1
        rw [i1, if_neg (by decide)] at e3
        have g := cmpK q3 q4 q7 (hbb.imp id (fun z => by omega))
        have h191 : M1.1 10 0 19 = 0 := q3.2.2.2.2.1
        by_cases cc : lx_kd T L s1.1 = 60 ∨ lx_kd T L s1.1 = 62 ∨ lx_kd T L s1.1 = 61
        · rw [if_pos cc] at e2 g
          obtain ⟨M2, c2, b2, g1, g2, g3, g4, g5⟩ := g
          have hx := nx_in k.1.1 (show lx_kd T L s1.1 ≠ 257 by omega)
          have ho : 5 ≤ sp_o (lx_kd T L s1.1) ∧ sp_o (lx_kd T L s1.1) ≤ 7 ∧ bnd (20 + sp_o (lx_kd T L s1.1)) = 4 := by rcases cc with z | z | z <;> rw [z] <;> decide
          have st2 := chain q2 (lpe3 h191 (e3.trans g1))
          have pin1 : pq_in T L 4 (sp_at (lx_nx T L s1.1) s1) := ⟨⟨hx.2, k.1.2⟩, fun z => by omega, fun z => by omega, fun z => by omega⟩
          have r5 : ∀ r', sp T L ord n 4 dep (sp_at (lx_nx T L s1.1) s1) = some r' → rres T L ord a1 M2 1 4 (rcu P1 s0 (20 + sp_o (lx_kd T L s1.1), 0)) c2 (s0 + 1) b2 dep (lx_nx T L s1.1) r' := fun r' e4 => ih 4 dep 1 (sp_at (lx_nx T L s1.1) s1) r' M2 (rcu P1 s0 (20 + sp_o (lx_kd T L s1.1), 0)) c2 (s0 + 1) b2 (s0 + 1) b2 (by omega) e4 pin1 g2 g5 hd ⟨fun z => by omega, fun z => by omega, fun _ => Or.inl rfl, fun z => by omega, fun z => by omega⟩ (fun _ => ⟨rfl, rfl⟩) (fun z => by omega) (Or.inr (by rw [Nat.add_sub_cancel, rcu_eq]; show bnd (20 + sp_o (lx_kd T L s1.1)) < 5; rw [ho.2.2]; decide)) (fun z => absurd z (by decide))
          rcases pb_of e2 with ⟨q, e4, rfl⟩ | ⟨s2, e4, e5⟩
          · exact rres.fail (k1 := 1 + k1) (by omega) hx.2 (by omega) st2 (r5 _ e4)
          · have k' : pq_out T L 4 _ s2 := sp_ok n 4 _ _ _ (by omega) e4 pin1
            obtain ⟨w0, M3, P3, s3, c3, b3, k3, w1, w2, w3, w4, w5, w6, w7⟩ := r5 _ e4
            have e := Option.some.inj e5
            subst e
            have kf1 := k'.2.2.2.2.2.2.1 (by omega)
            have kf2 := k'.2.2.2.2.2.2.2.1 (by omega)
            have eP : P3 s0 = (20 + sp_o (lx_kd T L s1.1), 0) := by rw [w5 s0 (by omega), rcu_eq]
            have agr : ∀ i, i < s0 → P3 i = P i := fun i hi => by rw [w5 i (by omega), rcu_ne (by omega), q5 i hi]
            have tc3 : tcx a1 P3 s3 := by
              have := cgi P3 agr (hcx rfl)
              unfold tcx at this ⊢
              rw [w7.inn w4.2.2 (by decide), inn, eP, if_neg (by show ¬ 31 ≤ 20 + sp_o (lx_kd T L s1.1); omega)]; exact this
            have i3 : isc P3 s3 = true := by
              rw [w7.isc w4.2.2 (by decide), isc, eP, if_neg (by show ¬ (20 ≤ 20 + sp_o (lx_kd T L s1.1) ∧ 20 + sp_o (lx_kd T L s1.1) ≤ 24); omega)]
              exact decide_eq_true (by show 25 ≤ 20 + sp_o (lx_kd T L s1.1) ∧ 20 + sp_o (lx_kd T L s1.1) ≤ 27; omega)
            have e6 := bs_tcx (a1 := a1) w3 w4 ⟨kf2.1, kf2.2, kf1.1, kf1.2.1, kf1.2.2⟩ tc3
            rw [i3, if_pos rfl] at e6
            have lb := g4.2.1
            exact ⟨by show st.1 ≤ s2.1; omega, M3, P3, s3, c3, b3, 1 + (k3 + (1 + k1)), by show 1 + (k3 + (1 + k1)) ≤ 2 * (s2.1 - st.1); omega, chain (chain st2 w2) (lpe3 w3.2.2.2.2.1 e6), w3, w4, agr, fun j hj => by rw [w6 j (by omega), g3 j hj, q6 j hj], rv_two (by omega) g4 (by omega) eP w7 w6 (by decide) (by rw [ho.2.2]; decide)⟩
        · rw [if_neg cc] at e2 g
          have e := Option.some.inj e2
          subst e
          obtain ⟨M2, g1, g2⟩ := g
          exact rres.fail (k1 := k1) (p1 := s1.1) (w1 := 3) (P1 := P) (c1 := c) (s1 := 0) (b1 := 0) (dep1 := 0) q0 k.1.1 q1 q2 (rres.bad (lpe3 h191 (e3.trans g1)) g2)
    · rw [if_neg (by decide), if_neg (by decide), if_neg (by decide), if_neg (by decide), if_pos rfl] at h
      have hb1 : s0 = 0 ∨ bnd (P (s0 - 1)).1 < lev 5 + (if 5 = 2 then 1 else 0) := hb.imp id (fun z => by have z : bnd (P (s0 - 1)).1 < 5 := z; show _ < 6; omega)
      rcases pb_of h with ⟨q, e1, rfl⟩ | ⟨s1, e1, e2⟩
      · exact rres.w (w1 := 5) (by decide) rfl (ih 5 dep t st _ M P c s b s0 b0 (by omega) e1 (pin0 5 (by omega)) hm hn hd ⟨fun z => by omega, fun z => by omega, fun _ => ht.2.2.1 (by omega), fun z => by omega, fun z => by omega⟩ (fun _ => hs6 (by omega)) (fun z => by omega) hb1 (fun z => absurd z (by decide)))
      · have k : pq_out T L 5 st s1 := sp_ok n 5 _ _ _ (by omega) e1 (pin0 5 (by omega))
        exact seq 5 9 s1 (by omega) (by omega) (by omega) (by decide) rfl rfl rfl (by omega) ⟨fun z => by omega, fun z => by omega, fun z => by omega, fun z => by omega, fun _ => rfl⟩ ⟨k.1, fun _ => k.2.2.2.2.1, fun z => by omega, fun _ => k.2.2.2.2.2.2.1 (by omega)⟩ e2 (ih 5 dep t st _ M P c s b s0 b0 (by omega) e1 (pin0 5 (by omega)) hm hn hd ⟨fun z => by omega, fun z => by omega, fun _ => ht.2.2.1 (by omega), fun z => by omega, fun z => by omega⟩ (fun _ => hs6 (by omega)) (fun z => by omega) hb1 (fun z => absurd z (by decide)))
    · rw [if_neg (by decide), if_neg (by decide), if_neg (by decide), if_neg (by decide), if_neg (by decide), if_pos rfl] at h
      have hb1 : s0 = 0 ∨ bnd (P (s0 - 1)).1 < lev 6 + (if 6 = 2 then 1 else 0) := hb.imp id (fun z => by have z : bnd (P (s0 - 1)).1 < 6 := z; show _ < 7; omega)
      rcases pb_of h with ⟨q, e1, rfl⟩ | ⟨s1, e1, e2⟩
      · exact rres.w (w1 := 6) (by decide) rfl (ih 6 dep t st _ M P c s b s0 b0 (by omega) e1 (pin0 6 (by omega)) hm hn hd ⟨fun z => by omega, fun z => by omega, fun _ => ht.2.2.1 (by omega), fun z => by omega, fun z => by omega⟩ (fun _ => hs6 (by omega)) (fun z => by omega) hb1 (fun z => absurd z (by decide)))
      · have k : pq_out T L 6 st s1 := sp_ok n 6 _ _ _ (by omega) e1 (pin0 6 (by omega))
        exact seq 6 10 s1 (by omega) (by omega) (by omega) (by decide) rfl rfl rfl (by omega) ⟨fun z => by omega, fun z => by omega, fun z => by omega, fun z => by omega, fun _ => rfl⟩ ⟨k.1, fun _ => k.2.2.2.2.1, fun z => by omega, fun z => by omega⟩ e2 (ih 6 dep t st _ M P c s b s0 b0 (by omega) e1 (pin0 6 (by omega)) hm hn hd ⟨fun z => by omega, fun z => by omega, fun _ => ht.2.2.1 (by omega), fun z => by omega, fun z => by omega⟩ (fun _ => hs6 (by omega)) (fun z => by omega) hb1 (fun z => absurd z (by decide)))
    · rw [if_neg (by decide), if_neg (by decide), if_neg (by decide), if_neg (by decide), if_neg (by decide), if_neg (by decide), if_pos rfl] at h
      have es := (hs6 (by omega)).1
      have eb := (hs6 (by omega)).2
      subst es
      subst eb
      have ht1 := ht.2.2.1 (by omega)
      by_cases c2 : lx_kd T L st.1 = 91
      · rw [if_pos c2] at h
        have hx := nx_in hp (show lx_kd T L st.1 ≠ 257 by omega)
        by_cases c3 : dep < 8
        · rw [if_pos c3] at h
          obtain ⟨M1, o1, o2⟩ := open1 (o := 32) hm c3 (by omega)
          have e0 : fn_X10_readPart M = some (1, M1) := by rw [pt_open hm c2, show fn_X10_openBracket 32 M = some M1 from o1, bd_s]
          have nv1 : rnv (rcu P s0 (32, 0)) (s0 + 1) b0 (lx_nx T L st.1) := hn.push hx.1 (by decide) (fun z => by omega)
          have r4 : ∀ r', sp T L ord n 4 (dep + 1) (sp_at (lx_nx T L st.1) st) = some r' → rres T L ord a1 M1 1 4 (rcu P s0 (32, 0)) c (s0 + 1) b0 (dep + 1) (lx_nx T L st.1) r' := fun r' e1 => ih 4 (dep + 1) 1 (sp_at (lx_nx T L st.1) st) r' M1 (rcu P s0 (32, 0)) c (s0 + 1) b0 (s0 + 1) b0 (by omega) e1 (pin 4 _ (by omega) hx.2) o2 nv1 (by omega) ⟨fun z => by omega, fun z => by omega, fun _ => Or.inl rfl, fun z => by omega, fun z => by omega⟩ (fun _ => ⟨rfl, rfl⟩) (fun z => by omega) (Or.inr (by rw [Nat.add_sub_cancel, rcu_eq]; decide)) (fun z => absurd z (by decide))
          rcases pb_of h with ⟨q, e1, rfl⟩ | ⟨s2, e1, e2⟩
          · exact rres.fail (k1 := 1) (by omega) hx.2 (by omega) (lpe01 hm ht1 e0) (r4 _ e1)
          · have k : pq_out T L 4 _ s2 := sp_ok n 4 _ _ _ (by omega) e1 (pin 4 _ (by omega) hx.2)
            obtain ⟨q0, M2, P2, s2', c2', b2', k2, q1, q2, q3, q4, q5, q6, q7⟩ := r4 _ e1
            have eP : P2 s0 = (32, 0) := by rw [q5 s0 (by omega), rcu_eq]
            have iP : inn P2 s2' = 32 := by rw [q7.inn q4.2.2 (by decide), inn, eP]; rfl
            have ke1 := k.2.2.2.2.2.2.1 (by omega)
            have ke2 := k.2.2.2.2.2.2.2.1 (by omega)
            have g := bs_cl (a1 := a1) (s0 := s0) q3 q4 ⟨ke2.1, ke2.2, ke1.1, ke1.2.1, ke1.2.2⟩ iP (by rw [eP]) q7 hd
            unfold sp_cl at e2
            by_cases c4 : lx_kd T L s2.1 = 93
            · rw [if_pos c4] at e2 g
              have e := Option.some.inj e2
              subst e
              have hx2 := nx_in k.1.1 (show lx_kd T L s2.1 ≠ 257 by omega)
              obtain ⟨M3, c3', b3', g1, g2, g3, g4, g5⟩ := g
              exact ⟨by show st.1 ≤ lx_nx T L s2.1; omega, M3, P2, s0, c3', b3', 1 + (k2 + 1), by show 1 + (k2 + 1) ≤ 2 * (lx_nx T L s2.1 - st.1); omega, chain (chain (lpe01 hm ht1 e0) q2) (lpe3 q3.2.2.2.2.1 g1), g2, g5, fun i hi => by rw [q5 i (by omega), rcu_ne (by omega)], fun j hj => by rw [g3 j hj, q6 j hj], rv.of g4⟩
            · rw [if_neg c4] at e2 g
              have e := Option.some.inj e2
              subst e
              obtain ⟨M3, g1, g2⟩ := g
              exact rres.fail (k1 := k2 + 1) (p1 := s2.1) (w1 := 2) (P1 := P) (c1 := c) (s1 := 0) (b1 := 0) (dep1 := 0) (by omega) k.1.1 (by omega) (chain (lpe01 hm ht1 e0) q2) (rres.bad (lpe3 q3.2.2.2.2.1 g1) g2)
        · rw [if_neg c3] at h
          have e := Option.some.inj h
          subst e
          obtain ⟨M1, o1, o2⟩ := open0 (o := 32) hm (by omega) hd n3 (by omega) (by omega)
          exact rres.bad (lpe01 hm ht1 (show fn_X10_readPart M = some (1, M1) by rw [pt_open hm c2, show fn_X10_openBracket 32 M = some M1 from o1, bd_s])) o2
      · rw [if_neg c2] at h
        have e := Option.some.inj h
        subst e
        have g := rleaf_ok (aw := st.2.2.1) hm c2 hg.2.1 n3 n1 n2
        have lk := leaf_ok (T := T) (ord := ord) hg
        generalize sp_leaf T L ord st.1 st.2.1 st.2.2.1 = r at g lk ⊢
        cases r with
        | inl q =>
          obtain ⟨M1, g1, g2⟩ := g
          exact rres.bad (lpe01 hm ht1 g1) g2
        | inr s' =>
          obtain ⟨M1, c1, g1, g2, g3, g4⟩ := g
          have l1 := lk.2.2.1 (by omega)
          exact ⟨by omega, M1, P, s0, c1, b0 + 1, 1, by omega, lpe01 hm ht1 g1, g2, ⟨by omega, by omega, fun i hi => ⟨(n3 i hi).1, (n3 i hi).2.1, fun z => Nat.lt_succ_of_lt ((n3 i hi).2.2 z)⟩⟩, fun _ _ => rfl, g3, rv.of g4⟩
    · rw [if_neg (by decide), if_neg (by decide), if_neg (by decide), if_neg (by decide), if_neg (by decide), if_neg (by decide), if_neg (by decide), if_pos rfl] at h
      have hf := hin.2.1 (by omega)
      have hr := hs7 (by omega)
      have ht2 : t = 2 := ht.2.2.2.1 (by omega)
      subst ht2
      by_cases c1 : lx_kd T L st.1 = 259
      · rw [if_pos c1] at h
        have hx := nx_in hp (show lx_kd T L st.1 ≠ 257 by omega)
        obtain ⟨M1, c2, b2, g1, g2, g3, g4, g5⟩ := bt_two (o := 30) (l := 1) hm hn (Or.inr ⟨rfl, c1⟩) rfl hr hb
        have lb := g4.2.1
        have i1 : inn (rcu P s0 (30, b2)) (s0 + 1) = inn P s0 := by
          rw [inn, rcu_eq, if_neg (by show ¬ 31 ≤ 30; decide)]
          exact inn_cong (fun i hi => rcu_ne (by omega))
        have r4 : ∀ r', sp T L ord n 1 dep (sp_at (lx_nx T L st.1) st) = some r' → rres T L ord a1 M1 0 1 (rcu P s0 (30, b2)) (rcu c2 b2 (30, 0)) (s0 + 1) (b2 + 1) dep (lx_nx T L st.1) r' := fun r' e1 => ih 1 dep 0 (sp_at (lx_nx T L st.1) st) r' M1 (rcu P s0 (30, b2)) (rcu c2 b2 (30, 0)) (s0 + 1) (b2 + 1) (s0 + 1) (b2 + 1) (by omega) e1 (pin 1 _ (by omega) hx.2) g2 g5 hd ⟨fun _ => rfl, fun z => by omega, fun z => by omega, fun z => by omega, fun z => by omega⟩ (fun _ => ⟨rfl, rfl⟩) (fun z => by omega) (Or.inr (by rw [Nat.add_sub_cancel, rcu_eq]; show bnd 30 < _; decide)) (fun _ => by unfold tcx; rw [i1]; exact hcx rfl)
        rcases pb_of h with ⟨q, e1, rfl⟩ | ⟨s2, e1, e2⟩
        · exact rres.fail (k1 := 1) (by omega) hx.2 (by omega) (lpe2 h19 g1) (r4 _ e1)
        · have k : pq_out T L 1 _ s2 := sp_ok n 1 _ _ _ (by omega) e1 (pin 1 _ (by omega) hx.2)
          obtain ⟨q0, M2, P2, s2', c2', b2', k2, q1, q2, q3, q4, q5, q6, q7⟩ := r4 _ e1
          have eP : P2 s0 = (30, b2) := by rw [q5 s0 (by omega), rcu_eq]
          have cb : c2' b2 = (30, 0) := by rw [q6 b2 (by omega), rcu_eq]
          have agr : ∀ i, i < s0 → P2 i = P i := fun i hi => by rw [q5 i (by omega), rcu_ne (by omega)]
          have p2L : s2.1 ≤ L := k.1.1
          have rvj : rv ord P2 1 s0 b0 s2' c2' b2' (dn_both 1 st.2.2.2.1 s2.2.2.2.1) (st.2.2.2.2 + s2.2.2.2.2) := rv_both (o := 30) (Or.inr ⟨rfl, rfl⟩) g4 eP q7 (fun j hj => by rw [q6 j (by omega), rcu_ne (by omega)]) (by rw [cb]) (by decide) (by decide) (by have := q4.1; have := q4.2.1; omega) q4.2.2 (by decide)
          exact rres.pre (p1 := s2.1) (k1 := k2 + 1) (by omega) p2L (by omega) (chain (lpe2 h19 g1) q2) agr (fun j hj => by rw [q6 j (by omega), rcu_ne (by omega), g3 j hj]) (ih 7 dep 2 (sp_both 1 st s2) r M2 P2 c2' s2' b2' s0 b0 (by omega) e2 ⟨k.1, fun _ => ⟨by show 1 ≤ st.2.2.2.2 + s2.2.2.2.2; have := hf.1; omega, dw_both (hf.2.1.mono k.2.2.2.1) k.2.2.2.2.1.2.1, fun _ => t01_both (hf.2.2.1 rfl) (k.2.2.2.2.1.2.2.1 rfl), fun z => absurd z (by decide)⟩, fun _ => k.2.2.2.2.2.2.2.2.1 (by omega), fun z => by omega⟩ q3 q4 hd ⟨fun z => by omega, fun z => by omega, fun z => by omega, fun _ => rfl, fun z => by omega⟩ (fun z => by omega) (fun _ => rvj) (cgb P2 _ agr hb) (fun _ => cgi P2 agr (hcx rfl)))
      · rw [if_neg c1] at h
        have e := Option.some.inj h
        subst e
        exact ⟨Nat.le_refl _, M, P, s, c, b, 0, Nat.zero_le _, fun N => rfl, hm, hn, fun _ _ => rfl, fun _ _ => rfl, hr⟩
    · rw [if_neg (by decide), if_neg (by decide), if_neg (by decide), if_neg (by decide), if_neg (by decide), if_neg (by decide), if_neg (by decide), if_neg (by decide), if_pos rfl] at h
      have hf := hin.2.1 (by omega)
      have hr := hs7 (by omega)
      have ht2 : t = 2 := ht.2.2.2.1 (by omega)
      subst ht2
      by_cases c1 : lx_kd T L st.1 = 260
      · rw [if_pos c1] at h
        have hx := nx_in hp (show lx_kd T L st.1 ≠ 257 by omega)
        obtain ⟨M1, c2, b2, g1, g2, g3, g4, g5⟩ := bt_two (o := 29) (l := 2) hm hn (Or.inl ⟨rfl, c1⟩) rfl hr hb
        have lb := g4.2.1
        have i1 : inn (rcu P s0 (29, b2)) (s0 + 1) = inn P s0 := by
          rw [inn, rcu_eq, if_neg (by show ¬ 31 ≤ 29; decide)]
          exact inn_cong (fun i hi => rcu_ne (by omega))
        have r4 : ∀ r', sp T L ord n 2 dep (sp_at (lx_nx T L st.1) st) = some r' → rres T L ord a1 M1 0 2 (rcu P s0 (29, b2)) (rcu c2 b2 (29, 0)) (s0 + 1) (b2 + 1) dep (lx_nx T L st.1) r' := fun r' e1 => ih 2 dep 0 (sp_at (lx_nx T L st.1) st) r' M1 (rcu P s0 (29, b2)) (rcu c2 b2 (29, 0)) (s0 + 1) (b2 + 1) (s0 + 1) (b2 + 1) (by omega) e1 (pin 2 _ (by omega) hx.2) g2 g5 hd ⟨fun _ => rfl, fun z => by omega, fun z => by omega, fun z => by omega, fun z => by omega⟩ (fun _ => ⟨rfl, rfl⟩) (fun z => by omega) (Or.inr (by rw [Nat.add_sub_cancel, rcu_eq]; show bnd 29 < _; decide)) (fun _ => by unfold tcx; rw [i1]; exact hcx rfl)
        rcases pb_of h with ⟨q, e1, rfl⟩ | ⟨s2, e1, e2⟩
        · exact rres.fail (k1 := 1) (by omega) hx.2 (by omega) (lpe2 h19 g1) (r4 _ e1)
        · have k : pq_out T L 2 _ s2 := sp_ok n 2 _ _ _ (by omega) e1 (pin 2 _ (by omega) hx.2)
          obtain ⟨q0, M2, P2, s2', c2', b2', k2, q1, q2, q3, q4, q5, q6, q7⟩ := r4 _ e1
          have eP : P2 s0 = (29, b2) := by rw [q5 s0 (by omega), rcu_eq]
          have cb : c2' b2 = (29, 0) := by rw [q6 b2 (by omega), rcu_eq]
          have agr : ∀ i, i < s0 → P2 i = P i := fun i hi => by rw [q5 i (by omega), rcu_ne (by omega)]
          have p2L : s2.1 ≤ L := k.1.1
          have rvj : rv ord P2 2 s0 b0 s2' c2' b2' (dn_both 0 st.2.2.2.1 s2.2.2.2.1) (st.2.2.2.2 + s2.2.2.2.2) := rv_both (o := 29) (Or.inl ⟨rfl, rfl⟩) g4 eP q7 (fun j hj => by rw [q6 j (by omega), rcu_ne (by omega)]) (by rw [cb]) (by decide) (by decide) (by have := q4.1; have := q4.2.1; omega) q4.2.2 (by decide)
          exact rres.pre (p1 := s2.1) (k1 := k2 + 1) (by omega) p2L (by omega) (chain (lpe2 h19 g1) q2) agr (fun j hj => by rw [q6 j (by omega), rcu_ne (by omega), g3 j hj]) (ih 8 dep 2 (sp_both 0 st s2) r M2 P2 c2' s2' b2' s0 b0 (by omega) e2 ⟨k.1, fun _ => ⟨by show 1 ≤ st.2.2.2.2 + s2.2.2.2.2; have := hf.1; omega, dw_both (hf.2.1.mono k.2.2.2.1) k.2.2.2.2.1.2.1, fun _ => t01_both (hf.2.2.1 rfl) (k.2.2.2.2.1.2.2.1 rfl), fun z => absurd z (by decide)⟩, fun z => by omega, fun z => by omega⟩ q3 q4 hd ⟨fun z => by omega, fun z => by omega, fun z => by omega, fun _ => rfl, fun z => by omega⟩ (fun z => by omega) (fun _ => rvj) (cgb P2 _ agr hb) (fun _ => cgi P2 agr (hcx rfl)))
      · rw [if_neg c1] at h
        have e := Option.some.inj h
        subst e
        exact ⟨Nat.le_refl _, M, P, s, c, b, 0, Nat.zero_le _, fun N => rfl, hm, hn, fun _ _ => rfl, fun _ _ => rfl, hr⟩
    · rw [if_neg (by decide), if_neg (by decide), if_neg (by decide), if_neg (by decide), if_neg (by decide), if_neg (by decide), if_neg (by decide), if_neg (by decide), if_neg (by decide), if_pos rfl] at h
      have hf := hin.2.1 (by omega)
      have hr := hs7 (by omega)
      have ht2 : t = 3 := ht.2.2.2.2 (by omega)
      subst ht2
      by_cases c1 : lx_kd T L st.1 = 43 ∨ lx_kd T L st.1 = 45
      · rw [if_pos c1] at h
        have hx := nx_in hp (show lx_kd T L st.1 ≠ 257 by omega)
        have ho : sp_o (lx_kd T L st.1) ≤ 4 ∧ bnd (20 + sp_o (lx_kd T L st.1)) = 5 := by rcases c1 with z | z <;> rw [z] <;> decide
        obtain ⟨M1, c2, b2, g1, g2, g3, g4, g5⟩ := bs_op (a1 := a1) (l := 5) hm hn rfl (by omega) ho.2.symm hr hb
        have lb := g4.2.1
        have r4 : ∀ r', sp T L ord n 5 dep (sp_at (lx_nx T L st.1) st) = some r' → rres T L ord a1 M1 1 5 (rcu P s0 (20 + sp_o (lx_kd T L st.1), 0)) c2 (s0 + 1) b2 dep (lx_nx T L st.1) r' := fun r' e1 => ih 5 dep 1 (sp_at (lx_nx T L st.1) st) r' M1 (rcu P s0 (20 + sp_o (lx_kd T L st.1), 0)) c2 (s0 + 1) b2 (s0 + 1) b2 (by omega) e1 (pin 5 _ (by omega) hx.2) g2 g5 hd ⟨fun z => by omega, fun z => by omega, fun _ => Or.inl rfl, fun z => by omega, fun z => by omega⟩ (fun _ => ⟨rfl, rfl⟩) (fun z => by omega) (Or.inr (by rw [Nat.add_sub_cancel, rcu_eq]; show bnd (20 + sp_o (lx_kd T L st.1)) < 6; rw [ho.2]; decide)) (fun z => absurd z (by decide))
        rcases pb_of h with ⟨q, e1, rfl⟩ | ⟨s2, e1, e2⟩
        · exact rres.fail (k1 := 1) (by omega) hx.2 (by omega) (lpe3 h19 g1) (r4 _ e1)
        · have k : pq_out T L 5 _ s2 := sp_ok n 5 _ _ _ (by omega) e1 (pin 5 _ (by omega) hx.2)
          obtain ⟨q0, M2, P2, s2', c2', b2', k2, q1, q2, q3, q4, q5, q6, q7⟩ := r4 _ e1
          have eP : P2 s0 = (20 + sp_o (lx_kd T L st.1), 0) := by rw [q5 s0 (by omega), rcu_eq]
          have agr : ∀ i, i < s0 → P2 i = P i := fun i hi => by rw [q5 i (by omega), rcu_ne (by omega)]
          have p2L : s2.1 ≤ L := k.1.1
          have rvj : rv ord P2 5 s0 b0 s2' c2' b2' (dn_two (sp_o (lx_kd T L st.1)) st.2.2.2.1 s2.2.2.2.1) (st.2.2.2.2 + s2.2.2.2.2) := rv_two (by omega) g4 (by omega) eP q7 q6 (by decide) (by rw [ho.2]; decide)
          exact rres.pre (p1 := s2.1) (k1 := k2 + 1) (by omega) p2L (by omega) (chain (lpe3 h19 g1) q2) agr (fun j hj => by rw [q6 j (by omega), g3 j hj]) (ih 9 dep 3 (sp_two (sp_o (lx_kd T L st.1)) st s2) r M2 P2 c2' s2' b2' s0 b0 (by omega) e2 ⟨k.1, fun _ => ⟨by show 1 ≤ st.2.2.2.2 + s2.2.2.2.2; have := hf.1; omega, dw_two (hf.2.1.mono k.2.2.2.1) k.2.2.2.2.1.2.1, fun z => absurd z (by decide), fun _ => bd_two ho.1⟩, fun z => by omega, fun _ => k.2.2.2.2.2.2.1 (by omega)⟩ q3 q4 hd ⟨fun z => by omega, fun z => by omega, fun z => by omega, fun z => by omega, fun _ => rfl⟩ (fun z => by omega) (fun _ => rvj) (cgb P2 _ agr hb) (fun z => absurd z (by decide)))
      · rw [if_neg c1] at h
        have e := Option.some.inj h
        subst e
        exact ⟨Nat.le_refl _, M, P, s, c, b, 0, Nat.zero_le _, fun N => rfl, hm, hn, fun _ _ => rfl, fun _ _ => rfl, hr⟩
    · rw [if_neg (by decide), if_neg (by decide), if_neg (by decide), if_neg (by decide), if_neg (by decide), if_neg (by decide), if_neg (by decide), if_neg (by decide), if_neg (by decide), if_neg (by decide)] at h
      have hf := hin.2.1 (by omega)
      have hr := hs7 (by omega)
      have ht2 : t = 3 := ht.2.2.2.2 (by omega)
      subst ht2
      by_cases c1 : lx_kd T L st.1 = 42 ∨ lx_kd T L st.1 = 47 ∨ lx_kd T L st.1 = 37
      · rw [if_pos c1] at h
        have hx := nx_in hp (show lx_kd T L st.1 ≠ 257 by omega)
        have ho : sp_o (lx_kd T L st.1) ≤ 4 ∧ bnd (20 + sp_o (lx_kd T L st.1)) = 6 := by rcases c1 with z | z | z <;> rw [z] <;> decide
        obtain ⟨M1, c2, b2, g1, g2, g3, g4, g5⟩ := bs_op (a1 := a1) (l := 6) hm hn rfl (by omega) ho.2.symm hr hb
        have lb := g4.2.1
        have r4 : ∀ r', sp T L ord n 6 dep (sp_at (lx_nx T L st.1) st) = some r' → rres T L ord a1 M1 1 6 (rcu P s0 (20 + sp_o (lx_kd T L st.1), 0)) c2 (s0 + 1) b2 dep (lx_nx T L st.1) r' := fun r' e1 => ih 6 dep 1 (sp_at (lx_nx T L st.1) st) r' M1 (rcu P s0 (20 + sp_o (lx_kd T L st.1), 0)) c2 (s0 + 1) b2 (s0 + 1) b2 (by omega) e1 (pin 6 _ (by omega) hx.2) g2 g5 hd ⟨fun z => by omega, fun z => by omega, fun _ => Or.inl rfl, fun z => by omega, fun z => by omega⟩ (fun _ => ⟨rfl, rfl⟩) (fun z => by omega) (Or.inr (by rw [Nat.add_sub_cancel, rcu_eq]; show bnd (20 + sp_o (lx_kd T L st.1)) < 7; rw [ho.2]; decide)) (fun z => absurd z (by decide))
        rcases pb_of h with ⟨q, e1, rfl⟩ | ⟨s2, e1, e2⟩
        · exact rres.fail (k1 := 1) (by omega) hx.2 (by omega) (lpe3 h19 g1) (r4 _ e1)
        · have k : pq_out T L 6 _ s2 := sp_ok n 6 _ _ _ (by omega) e1 (pin 6 _ (by omega) hx.2)
          obtain ⟨q0, M2, P2, s2', c2', b2', k2, q1, q2, q3, q4, q5, q6, q7⟩ := r4 _ e1
          have eP : P2 s0 = (20 + sp_o (lx_kd T L st.1), 0) := by rw [q5 s0 (by omega), rcu_eq]
          have agr : ∀ i, i < s0 → P2 i = P i := fun i hi => by rw [q5 i (by omega), rcu_ne (by omega)]
          have p2L : s2.1 ≤ L := k.1.1
          have rvj : rv ord P2 6 s0 b0 s2' c2' b2' (dn_two (sp_o (lx_kd T L st.1)) st.2.2.2.1 s2.2.2.2.1) (st.2.2.2.2 + s2.2.2.2.2) := rv_two (by omega) g4 (by omega) eP q7 q6 (by decide) (by rw [ho.2]; decide)
          exact rres.pre (p1 := s2.1) (k1 := k2 + 1) (by omega) p2L (by omega) (chain (lpe3 h19 g1) q2) agr (fun j hj => by rw [q6 j (by omega), g3 j hj]) (ih 10 dep 3 (sp_two (sp_o (lx_kd T L st.1)) st s2) r M2 P2 c2' s2' b2' s0 b0 (by omega) e2 ⟨k.1, fun _ => ⟨by show 1 ≤ st.2.2.2.2 + s2.2.2.2.2; have := hf.1; omega, dw_two (hf.2.1.mono k.2.2.2.1) k.2.2.2.2.1.2.1, fun z => absurd z (by decide), fun _ => bd_two ho.1⟩, fun z => by omega, fun z => by omega⟩ q3 q4 hd ⟨fun z => by omega, fun z => by omega, fun z => by omega, fun z => by omega, fun _ => rfl⟩ (fun z => by omega) (fun _ => rvj) (cgb P2 _ agr hb) (fun z => absurd z (by decide)))
      · rw [if_neg c1] at h
        have e := Option.some.inj h
        subst e
        exact ⟨Nat.le_refl _, M, P, s, c, b, 0, Nat.zero_le _, fun N => rfl, hm, hn, fun _ _ => rfl, fun _ _ => rfl, hr⟩
end RA
