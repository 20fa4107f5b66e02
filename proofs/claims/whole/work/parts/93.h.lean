/-! the class's loops follow the pure reader: SUM, and, or -/
section CH
variable {T : Nat → Nat} {L n : Nat} {ord : Bool} {rc : am_rc} {dep a0 : Nat}
theorem csumloop (hrc : cS T L n ord rc 5 dep) (hT : ∀ k, k < L → T k < 256) : ∀ (d i N : Nat) (m : am_m) (c : rcd) (a : Nat) (st : pst), L - st.1 ≤ d → d < N → i ≤ st.1 → cmm T L n ord m c a st.1 st.2.1 st.2.2.1 → csg ord c a0 a st.2.2.2.1 st.2.2.2.2 → pq_in T L 9 st → a ≤ st.1 → a0 ≤ a → ∃ K r, sp T L ord K 9 dep st = some r ∧ lres T L n ord (lp_X4_readSum_12 rc N (nI dep) (nI i) m) c a0 a st.1 r
  | d, i, 0, m, c, a, st, _, hN, _, _, _, _, _, _ => by omega
  | d, i, N + 1, m, c, a, st, hd, hN, hi, hm, hs, hin, ha, ha0 => by
    have hp := hin.1.1
    have hL := hm.1.1.1
    have hkd := kd_286 hT hp
    have k6 : m.1 4 0 6 = nI (lx_kd T L st.1) := hm.1.2.2.1
    rw [lp_X4_readSum_12, if_neg (show ¬ (401 : Int32) ≤ nI i from nI_ge (b := 401) (by omega) (by decide))]
    -- one more
    have more : ∀ k : Nat, lx_kd T L st.1 = k → (k = 43 ∨ k = 45) → ∃ K r, sp T L ord K 9 dep st = some r ∧ lres T L n ord ((fn_X4_goTo ((m.1 4 0 5) + (1 : Int32)) m).bind fun r6 => (rc 5 (nI dep) r6).bind fun r8 => (if r8.1 ≠ 0 then (fn_X5_put 0 (m.1 4 0 6) 0 r8.2).bind fun r11 => lp_X4_readSum_12 rc N (nI dep) (nI i + 1) r11 else some (.inr (0, r8.2)))) c a0 a st.1 r := by
      intro k hk hk3
      have hx := nx_in hp (show lx_kd T L st.1 ≠ 257 by omega)
      have hf := hin.2.1 (by omega)
      have ho : sp_o (lx_kd T L st.1) ≤ 4 := by rw [hk]; rcases hk3 with rfl | rfl <;> decide
      obtain ⟨m1, e1, e2⟩ := cgoto hm
      have g1 : pq_g L (sp_at (lx_nx T L st.1) st) := ⟨hx.2, hin.1.2⟩
      obtain ⟨K1, r1, s1, s2⟩ := hrc m1 c a (sp_at (lx_nx T L st.1) st) e2 g1 (by show a ≤ lx_nx T L st.1; omega)
      have step : ∀ K r, sp T L ord (K + 1) 9 dep st = some r ↔ pb (sp T L ord K 5 dep (sp_at (lx_nx T L st.1) st)) (fun s2 => sp T L ord K 9 dep (sp_two (sp_o (lx_kd T L st.1)) st s2)) = some r := fun K r => by
        rw [sp, if_neg (by decide), if_neg (by decide), if_neg (by decide), if_neg (by decide), if_neg (by decide), if_neg (by decide), if_neg (by decide), if_neg (by decide), if_neg (by decide), if_pos rfl, if_pos (show lx_kd T L st.1 = 43 ∨ lx_kd T L st.1 = 45 by omega)]
      rw [e1, bd_s]
      cases r1 with
      | inl q =>
        obtain ⟨m2, f1, f2⟩ := s2
        refine ⟨K1 + 1, .inl q, (step K1 _).mpr (by rw [s1]; rfl), m2, ?_, f2⟩
        rw [f1, bd_s, if_neg (show ¬ (0 : Int32) ≠ 0 from fun z => z rfl)]
      | inr t2 =>
        obtain ⟨m2, c2, a2, f1, f2, f3, f4, f5⟩ := s2
        have f4 : a2 + lx_nx T L st.1 ≤ a + t2.1 := f4
        have kk : pq_out T L 5 _ t2 := sp_ok K1 5 _ _ _ (by omega) s1 ⟨g1, fun z => by omega, fun z => by omega, fun z => by omega⟩
        have pt : lx_nx T L st.1 < t2.1 := kk.2.2.1 (by omega)
        have pL : t2.1 ≤ L := kk.1.1
        have la := hs.2.1
        have lb := f5.2.1
        obtain ⟨m3, h1, h2⟩ := cput (t := k) (w := 0) (by omega) (by omega) f2 (by omega)
        have sg2 : csg ord (rcu c2 a2 (k, 0)) a0 (a2 + 1) (dn_two (sp_o (lx_kd T L st.1)) st.2.2.2.1 t2.2.2.2.1) (st.2.2.2.2 + t2.2.2.2.2) := by
          rw [hk]; exact csg_two (by omega) hs f5 f3
        obtain ⟨d, rfl⟩ : ∃ e, d = e + 1 := ⟨d - 1, by omega⟩
        obtain ⟨K2, r, w1, w2⟩ := csumloop hrc hT d (i + 1) N m3 (rcu c2 a2 (k, 0)) (a2 + 1) (sp_two (sp_o (lx_kd T L st.1)) st t2) (by show L - t2.1 ≤ d; omega) (by omega) (by show i + 1 ≤ t2.1; omega) h2 sg2 ⟨kk.1, fun _ => ⟨by show 1 ≤ st.2.2.2.2 + t2.2.2.2.2; have := hf.1; omega, dw_two (hf.2.1.mono kk.2.2.2.1) kk.2.2.2.2.1.2.1, fun z => absurd z (by decide), fun _ => bd_two ho⟩, fun z => by omega, fun _ => kk.2.2.2.2.2.2.1 (by omega)⟩ (by show a2 + 1 ≤ t2.1; omega) (by omega)
        refine ⟨K1 + K2 + 1, r, (step _ _).mpr (by rw [sp_le s1 (show K1 ≤ K1 + K2 by omega)]; exact sp_le w1 (by omega)), ?_⟩
        rw [f1, bd_s, if_pos (show (1 : Int32) ≠ 0 by decide), k6, hk, show fn_X5_put 0 (nI k) 0 m2 = some m3 from h1, bd_s, nI_1]
        cases r with
        | inl q => exact w2
        | inr t3 =>
          obtain ⟨m4, c4, a4, v1, v2, v3, v4, v5⟩ := w2
          have v4 : a4 + t2.1 ≤ a2 + 1 + t3.1 := v4
          exact ⟨m4, c4, a4, v1, v2, fun j hj => by rw [v3 j hj, rcu_ne (by omega), f3 j (by omega)], by omega, v5⟩
    have nI_q : ∀ x : Nat, x ≤ 300 → lx_kd T L st.1 ≠ x → ¬ m.1 4 0 6 = nI x := fun x hx h => by rw [k6]; exact nI_ne (by omega) (by omega) h
    by_cases c1 : lx_kd T L st.1 = 43
    · rw [if_pos (show m.1 4 0 6 = (43 : Int32) by rw [k6, c1]; rfl)]
      exact more 43 c1 (by omega)
    rw [if_neg (show ¬ m.1 4 0 6 = (43 : Int32) from nI_q 43 (by decide) c1)]
    by_cases c3 : lx_kd T L st.1 = 45
    · rw [if_neg (show ¬ m.1 4 0 6 ≠ (45 : Int32) from fun z => z (by rw [k6, c3]; rfl))]
      exact more 45 c3 (by omega)
    rw [if_pos (show m.1 4 0 6 ≠ (45 : Int32) from nI_q 45 (by decide) c3)]
    refine ⟨1, .inr st, ?_, m, c, a, rfl, hm, fun _ _ => rfl, by omega, hs⟩
    rw [sp, if_neg (by decide), if_neg (by decide), if_neg (by decide), if_neg (by decide), if_neg (by decide), if_neg (by decide), if_neg (by decide), if_neg (by decide), if_neg (by decide), if_pos rfl, if_neg (show ¬ (lx_kd T L st.1 = 43 ∨ lx_kd T L st.1 = 45) by omega)]
theorem cbothloop (hrc : cS T L n ord rc 2 dep) (hT : ∀ k, k < L → T k < 256) : ∀ (d i N : Nat) (m : am_m) (c : rcd) (a : Nat) (st : pst), L - st.1 ≤ d → d < N → i ≤ st.1 → cmm T L n ord m c a st.1 st.2.1 st.2.2.1 → csg ord c a0 a st.2.2.2.1 st.2.2.2.2 → pq_in T L 8 st → a ≤ st.1 → a0 ≤ a → ∃ K r, sp T L ord K 8 dep st = some r ∧ lres T L n ord (lp_X4_readBoth_12 rc N (nI dep) (nI i) m) c a0 a st.1 r
  | d, i, 0, m, c, a, st, _, hN, _, _, _, _, _, _ => by omega
  | d, i, N + 1, m, c, a, st, hd, hN, hi, hm, hs, hin, ha, ha0 => by
    have hp := hin.1.1
    have hL := hm.1.1.1
    have hkd := kd_286 hT hp
    have k6 : m.1 4 0 6 = nI (lx_kd T L st.1) := hm.1.2.2.1
    have a3 : m.1 5 0 3 = nI a := hm.2.1.1
    have la := hs.2.1
    have hf := hin.2.1 (by omega)
    rw [lp_X4_readBoth_12, if_neg (show ¬ (401 : Int32) ≤ nI i from nI_ge (b := 401) (by omega) (by decide))]
    by_cases c1 : lx_kd T L st.1 = 260
    · rw [if_neg (show ¬ m.1 4 0 6 ≠ (260 : Int32) from fun z => z (by rw [k6, c1]; rfl)), a3]
      have hx := nx_in hp (show lx_kd T L st.1 ≠ 257 by omega)
      obtain ⟨m0, p1, p2⟩ := cput (t := 260) (w := 0) (by decide) (by omega) hm (by omega)
      obtain ⟨m1, e1, e2⟩ := cgoto p2
      have g1 : pq_g L (sp_at (lx_nx T L st.1) st) := ⟨hx.2, hin.1.2⟩
      obtain ⟨K1, r1, s1, s2⟩ := hrc m1 (rcu c a (260, 0)) (a + 1) (sp_at (lx_nx T L st.1) st) e2 g1 (by show a + 1 ≤ lx_nx T L st.1; omega)
      have step : ∀ K r, sp T L ord (K + 1) 8 dep st = some r ↔ pb (sp T L ord K 2 dep (sp_at (lx_nx T L st.1) st)) (fun s2 => sp T L ord K 8 dep (sp_both 0 st s2)) = some r := fun K r => by
        rw [sp, if_neg (by decide), if_neg (by decide), if_neg (by decide), if_neg (by decide), if_neg (by decide), if_neg (by decide), if_neg (by decide), if_neg (by decide), if_pos rfl, if_pos c1]
      rw [show fn_X5_put 0 260 0 m = some m0 from p1, bd_s, e1, bd_s]
      cases r1 with
      | inl q =>
        obtain ⟨m2, f1, f2⟩ := s2
        refine ⟨K1 + 1, .inl q, (step K1 _).mpr (by rw [s1]; rfl), m2, ?_, f2⟩
        rw [f1, bd_s, if_neg (show ¬ (0 : Int32) ≠ 0 from fun z => z rfl)]
      | inr t2 =>
        obtain ⟨m2, c2, a2, f1, f2, f3, f4, f5⟩ := s2
        have f4 : a2 + lx_nx T L st.1 ≤ a + 1 + t2.1 := f4
        have kk : pq_out T L 2 _ t2 := sp_ok K1 2 _ _ _ (by omega) s1 ⟨g1, fun z => by omega, fun z => by omega, fun z => by omega⟩
        have pt : lx_nx T L st.1 < t2.1 := kk.2.2.1 (by omega)
        have pL : t2.1 ≤ L := kk.1.1
        have lb := f5.2.1
        have c2c : ∀ j, j < a → c2 j = c j := fun j hj => by rw [f3 j (by omega), rcu_ne (by omega)]
        obtain ⟨m3, h1, h2⟩ := cskip (t := 260) (a1 := a) (by decide) f2 (by omega) (by omega)
        have sg2 : csg ord (rcu c2 a (260, a2)) a0 a2 (dn_both 0 st.2.2.2.1 t2.2.2.2.1) (st.2.2.2.2 + t2.2.2.2.2) := csg_both (Or.inl ⟨rfl, rfl⟩) hs f5 c2c (by omega)
        obtain ⟨d, rfl⟩ : ∃ e, d = e + 1 := ⟨d - 1, by omega⟩
        obtain ⟨K2, r, w1, w2⟩ := cbothloop hrc hT d (i + 1) N m3 (rcu c2 a (260, a2)) a2 (sp_both 0 st t2) (by show L - t2.1 ≤ d; omega) (by omega) (by show i + 1 ≤ t2.1; omega) h2 sg2 ⟨kk.1, fun _ => ⟨by show 1 ≤ st.2.2.2.2 + t2.2.2.2.2; have := hf.1; omega, dw_both (hf.2.1.mono kk.2.2.2.1) kk.2.2.2.2.1.2.1, fun _ => t01_both (hf.2.2.1 rfl) (kk.2.2.2.2.1.2.2.1 rfl), fun z => absurd z (by decide)⟩, fun z => by omega, fun z => by omega⟩ (by show a2 ≤ t2.1; omega) (by omega)
        refine ⟨K1 + K2 + 1, r, (step _ _).mpr (by rw [sp_le s1 (show K1 ≤ K1 + K2 by omega)]; exact sp_le w1 (by omega)), ?_⟩
        rw [f1, bd_s, if_pos (show (1 : Int32) ≠ 0 by decide), show fn_X5_skipToHere 0 (nI a) 260 m2 = some m3 from h1, bd_s, nI_1]
        cases r with
        | inl q => exact w2
        | inr t3 =>
          obtain ⟨m4, c4, a4, v1, v2, v3, v4, v5⟩ := w2
          have v4 : a4 + t2.1 ≤ a2 + t3.1 := v4
          exact ⟨m4, c4, a4, v1, v2, fun j hj => by rw [v3 j hj, rcu_ne (by omega), c2c j (by omega)], by omega, v5⟩
    rw [if_pos (show m.1 4 0 6 ≠ (260 : Int32) by rw [k6]; exact nI_ne (b := 260) (by omega) (by decide) c1)]
    refine ⟨1, .inr st, ?_, m, c, a, rfl, hm, fun _ _ => rfl, by omega, hs⟩
    rw [sp, if_neg (by decide), if_neg (by decide), if_neg (by decide), if_neg (by decide), if_neg (by decide), if_neg (by decide), if_neg (by decide), if_neg (by decide), if_pos rfl, if_neg c1]
theorem ctestloop (hrc : cS T L n ord rc 1 dep) (hT : ∀ k, k < L → T k < 256) : ∀ (d i N : Nat) (m : am_m) (c : rcd) (a : Nat) (st : pst), L - st.1 ≤ d → d < N → i ≤ st.1 → cmm T L n ord m c a st.1 st.2.1 st.2.2.1 → csg ord c a0 a st.2.2.2.1 st.2.2.2.2 → pq_in T L 7 st → a ≤ st.1 → a0 ≤ a → ∃ K r, sp T L ord K 7 dep st = some r ∧ lres T L n ord (lp_X4_readTest_12 rc N (nI dep) (nI i) m) c a0 a st.1 r
  | d, i, 0, m, c, a, st, _, hN, _, _, _, _, _, _ => by omega
  | d, i, N + 1, m, c, a, st, hd, hN, hi, hm, hs, hin, ha, ha0 => by
    have hp := hin.1.1
    have hL := hm.1.1.1
    have hkd := kd_286 hT hp
    have k6 : m.1 4 0 6 = nI (lx_kd T L st.1) := hm.1.2.2.1
    have a3 : m.1 5 0 3 = nI a := hm.2.1.1
    have la := hs.2.1
    have hf := hin.2.1 (by omega)
    rw [lp_X4_readTest_12, if_neg (show ¬ (401 : Int32) ≤ nI i from nI_ge (b := 401) (by omega) (by decide))]
    by_cases c1 : lx_kd T L st.1 = 259
    · rw [if_neg (show ¬ m.1 4 0 6 ≠ (259 : Int32) from fun z => z (by rw [k6, c1]; rfl)), a3]
      have hx := nx_in hp (show lx_kd T L st.1 ≠ 257 by omega)
      obtain ⟨m0, p1, p2⟩ := cput (t := 259) (w := 0) (by decide) (by omega) hm (by omega)
      obtain ⟨m1, e1, e2⟩ := cgoto p2
      have g1 : pq_g L (sp_at (lx_nx T L st.1) st) := ⟨hx.2, hin.1.2⟩
      obtain ⟨K1, r1, s1, s2⟩ := hrc m1 (rcu c a (259, 0)) (a + 1) (sp_at (lx_nx T L st.1) st) e2 g1 (by show a + 1 ≤ lx_nx T L st.1; omega)
      have step : ∀ K r, sp T L ord (K + 1) 7 dep st = some r ↔ pb (sp T L ord K 1 dep (sp_at (lx_nx T L st.1) st)) (fun s2 => sp T L ord K 7 dep (sp_both 1 st s2)) = some r := fun K r => by
        rw [sp, if_neg (by decide), if_neg (by decide), if_neg (by decide), if_neg (by decide), if_neg (by decide), if_neg (by decide), if_neg (by decide), if_pos rfl, if_pos c1]
      rw [show fn_X5_put 0 259 0 m = some m0 from p1, bd_s, e1, bd_s]
      cases r1 with
      | inl q =>
        obtain ⟨m2, f1, f2⟩ := s2
        refine ⟨K1 + 1, .inl q, (step K1 _).mpr (by rw [s1]; rfl), m2, ?_, f2⟩
        rw [f1, bd_s, if_neg (show ¬ (0 : Int32) ≠ 0 from fun z => z rfl)]
      | inr t2 =>
        obtain ⟨m2, c2, a2, f1, f2, f3, f4, f5⟩ := s2
        have f4 : a2 + lx_nx T L st.1 ≤ a + 1 + t2.1 := f4
        have kk : pq_out T L 1 _ t2 := sp_ok K1 1 _ _ _ (by omega) s1 ⟨g1, fun z => by omega, fun z => by omega, fun z => by omega⟩
        have pt : lx_nx T L st.1 < t2.1 := kk.2.2.1 (by omega)
        have pL : t2.1 ≤ L := kk.1.1
        have lb := f5.2.1
        have c2c : ∀ j, j < a → c2 j = c j := fun j hj => by rw [f3 j (by omega), rcu_ne (by omega)]
        obtain ⟨m3, h1, h2⟩ := cskip (t := 259) (a1 := a) (by decide) f2 (by omega) (by omega)
        have sg2 : csg ord (rcu c2 a (259, a2)) a0 a2 (dn_both 1 st.2.2.2.1 t2.2.2.2.1) (st.2.2.2.2 + t2.2.2.2.2) := csg_both (Or.inr ⟨rfl, rfl⟩) hs f5 c2c (by omega)
        obtain ⟨d, rfl⟩ : ∃ e, d = e + 1 := ⟨d - 1, by omega⟩
        obtain ⟨K2, r, w1, w2⟩ := ctestloop hrc hT d (i + 1) N m3 (rcu c2 a (259, a2)) a2 (sp_both 1 st t2) (by show L - t2.1 ≤ d; omega) (by omega) (by show i + 1 ≤ t2.1; omega) h2 sg2 ⟨kk.1, fun _ => ⟨by show 1 ≤ st.2.2.2.2 + t2.2.2.2.2; have := hf.1; omega, dw_both (hf.2.1.mono kk.2.2.2.1) kk.2.2.2.2.1.2.1, fun _ => t01_both (hf.2.2.1 rfl) (kk.2.2.2.2.1.2.2.1 rfl), fun z => absurd z (by decide)⟩, fun _ => kk.2.2.2.2.2.2.2.2.1 (by omega), fun z => by omega⟩ (by show a2 ≤ t2.1; omega) (by omega)
        refine ⟨K1 + K2 + 1, r, (step _ _).mpr (by rw [sp_le s1 (show K1 ≤ K1 + K2 by omega)]; exact sp_le w1 (by omega)), ?_⟩
        rw [f1, bd_s, if_pos (show (1 : Int32) ≠ 0 by decide), show fn_X5_skipToHere 0 (nI a) 259 m2 = some m3 from h1, bd_s, nI_1]
        cases r with
        | inl q => exact w2
        | inr t3 =>
          obtain ⟨m4, c4, a4, v1, v2, v3, v4, v5⟩ := w2
          have v4 : a4 + t2.1 ≤ a2 + t3.1 := v4
          exact ⟨m4, c4, a4, v1, v2, fun j hj => by rw [v3 j hj, rcu_ne (by omega), c2c j (by omega)], by omega, v5⟩
    rw [if_pos (show m.1 4 0 6 ≠ (259 : Int32) by rw [k6]; exact nI_ne (b := 259) (by omega) (by decide) c1)]
    refine ⟨1, .inr st, ?_, m, c, a, rfl, hm, fun _ _ => rfl, by omega, hs⟩
    rw [sp, if_neg (by decide), if_neg (by decide), if_neg (by decide), if_neg (by decide), if_neg (by decide), if_neg (by decide), if_neg (by decide), if_pos rfl, if_neg c1]
end CH
