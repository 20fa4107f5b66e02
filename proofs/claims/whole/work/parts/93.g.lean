/-! the class's loops follow the pure reader -/
def cres (T : Nat → Nat) (L n : Nat) (ord : Bool) (o : Option (Int32 × am_m)) (c : rcd) (a0 a p : Nat) (r : Nat ⊕ pst) : Prop := match r with
  | .inr st => ∃ m' c' a', o = some (1, m') ∧ cmm T L n ord m' c' a' st.1 st.2.1 st.2.2.1 ∧ (∀ k, k < a0 → c' k = c k) ∧ a' + p ≤ a + st.1 ∧ csg ord c' a0 a' st.2.2.2.1 st.2.2.2.2
  | .inl q => ∃ m', o = some (0, m') ∧ m'.1 4 0 10 = nI q
def lres (T : Nat → Nat) (L n : Nat) (ord : Bool) (o : Option (Sum am_m (Int32 × am_m))) (c : rcd) (a0 a p : Nat) (r : Nat ⊕ pst) : Prop := match r with
  | .inr st => ∃ m' c' a', o = some (.inl m') ∧ cmm T L n ord m' c' a' st.1 st.2.1 st.2.2.1 ∧ (∀ k, k < a0 → c' k = c k) ∧ a' + p ≤ a + st.1 ∧ csg ord c' a0 a' st.2.2.2.1 st.2.2.2.2
  | .inl q => ∃ m', o = some (.inr (0, m')) ∧ m'.1 4 0 10 = nI q
/-- a method of the class that follows the pure reader -/
def cS (T : Nat → Nat) (L n : Nat) (ord : Bool) (rc : am_rc) (w dep : Nat) : Prop := ∀ (m : am_m) (c : rcd) (a : Nat) (st : pst), cmm T L n ord m c a st.1 st.2.1 st.2.2.1 → pq_g L st → a ≤ st.1 → ∃ K r, sp T L ord K w dep st = some r ∧ cres T L n ord (rc w (nI dep) m) c a a st.1 r
section CG
variable {T : Nat → Nat} {L n : Nat} {ord : Bool} {rc : am_rc} {dep a0 : Nat}
theorem cres.in0 {o : Option (Int32 × am_m)} {c : rcd} {a p w : Nat} {st : pst} (hg : pq_g L st) (hw : w ≤ 6) : pq_in T L w st := ⟨hg, fun z => by omega, fun z => by omega, fun z => by omega⟩
theorem ctermloop (hrc : cS T L n ord rc 6 dep) (hT : ∀ k, k < L → T k < 256) : ∀ (d i N : Nat) (m : am_m) (c : rcd) (a : Nat) (st : pst), L - st.1 ≤ d → d < N → i ≤ st.1 → cmm T L n ord m c a st.1 st.2.1 st.2.2.1 → csg ord c a0 a st.2.2.2.1 st.2.2.2.2 → pq_in T L 10 st → a ≤ st.1 → a0 ≤ a → ∃ K r, sp T L ord K 10 dep st = some r ∧ lres T L n ord (lp_X4_readTerm_12 rc N (nI dep) (nI i) m) c a0 a st.1 r
  | d, i, 0, m, c, a, st, _, hN, _, _, _, _, _, _ => by omega
  | d, i, N + 1, m, c, a, st, hd, hN, hi, hm, hs, hin, ha, ha0 => by
    have hp := hin.1.1
    have hL := hm.1.1.1
    have hkd := kd_286 hT hp
    have k6 : m.1 4 0 6 = nI (lx_kd T L st.1) := hm.1.2.2.1
    rw [lp_X4_readTerm_12, if_neg (show ¬ (401 : Int32) ≤ nI i from nI_ge (b := 401) (by omega) (by decide))]
    -- one more
    have more : ∀ k : Nat, lx_kd T L st.1 = k → (k = 42 ∨ k = 47 ∨ k = 37) → ∃ K r, sp T L ord K 10 dep st = some r ∧ lres T L n ord ((fn_X4_goTo ((m.1 4 0 5) + (1 : Int32)) m).bind fun r6 => (rc 6 (nI dep) r6).bind fun r8 => (if r8.1 ≠ 0 then (fn_X5_put 0 (m.1 4 0 6) 0 r8.2).bind fun r11 => lp_X4_readTerm_12 rc N (nI dep) (nI i + 1) r11 else some (.inr (0, r8.2)))) c a0 a st.1 r := by
      intro k hk hk3
      have hx := nx_in hp (show lx_kd T L st.1 ≠ 257 by omega)
      have hf := hin.2.1 (by omega)
      have ho : sp_o (lx_kd T L st.1) ≤ 4 := by rw [hk]; rcases hk3 with rfl | rfl | rfl <;> decide
      obtain ⟨m1, e1, e2⟩ := cgoto hm
      have g1 : pq_g L (sp_at (lx_nx T L st.1) st) := ⟨hx.2, hin.1.2⟩
      obtain ⟨K1, r1, s1, s2⟩ := hrc m1 c a (sp_at (lx_nx T L st.1) st) e2 g1 (by show a ≤ lx_nx T L st.1; omega)
      have step : ∀ K r, sp T L ord (K + 1) 10 dep st = some r ↔ pb (sp T L ord K 6 dep (sp_at (lx_nx T L st.1) st)) (fun s2 => sp T L ord K 10 dep (sp_two (sp_o (lx_kd T L st.1)) st s2)) = some r := fun K r => by
        rw [sp, if_neg (by decide), if_neg (by decide), if_neg (by decide), if_neg (by decide), if_neg (by decide), if_neg (by decide), if_neg (by decide), if_neg (by decide), if_neg (by decide), if_neg (by decide), if_pos (show lx_kd T L st.1 = 42 ∨ lx_kd T L st.1 = 47 ∨ lx_kd T L st.1 = 37 by omega)]
      rw [e1, bd_s]
      cases r1 with
      | inl q =>
        obtain ⟨m2, f1, f2⟩ := s2
        refine ⟨K1 + 1, .inl q, (step K1 _).mpr (by rw [s1]; rfl), m2, ?_, f2⟩
        rw [f1, bd_s, if_neg (show ¬ (0 : Int32) ≠ 0 from fun z => z rfl)]
      | inr t2 =>
        obtain ⟨m2, c2, a2, f1, f2, f3, f4, f5⟩ := s2
        have f4 : a2 + lx_nx T L st.1 ≤ a + t2.1 := f4
        have kk : pq_out T L 6 _ t2 := sp_ok K1 6 _ _ _ (by omega) s1 ⟨g1, fun z => by omega, fun z => by omega, fun z => by omega⟩
        have pt : lx_nx T L st.1 < t2.1 := kk.2.2.1 (by omega)
        have pL : t2.1 ≤ L := kk.1.1
        have la := hs.2.1
        have lb := f5.2.1
        obtain ⟨m3, h1, h2⟩ := cput (t := k) (w := 0) (by omega) (by omega) f2 (by omega)
        have sg2 : csg ord (rcu c2 a2 (k, 0)) a0 (a2 + 1) (dn_two (sp_o (lx_kd T L st.1)) st.2.2.2.1 t2.2.2.2.1) (st.2.2.2.2 + t2.2.2.2.2) := by
          rw [hk]; exact csg_two (by omega) hs f5 f3
        obtain ⟨d, rfl⟩ : ∃ e, d = e + 1 := ⟨d - 1, by omega⟩
        obtain ⟨K2, r, w1, w2⟩ := ctermloop hrc hT d (i + 1) N m3 (rcu c2 a2 (k, 0)) (a2 + 1) (sp_two (sp_o (lx_kd T L st.1)) st t2) (by show L - t2.1 ≤ d; omega) (by omega) (by show i + 1 ≤ t2.1; omega) h2 sg2 ⟨kk.1, fun _ => ⟨by show 1 ≤ st.2.2.2.2 + t2.2.2.2.2; have := hf.1; omega, dw_two (hf.2.1.mono kk.2.2.2.1) kk.2.2.2.2.1.2.1, fun z => absurd z (by decide), fun _ => bd_two ho⟩, fun z => by omega, fun z => by omega⟩ (by show a2 + 1 ≤ t2.1; omega) (by omega)
        refine ⟨K1 + K2 + 1, r, (step _ _).mpr (by rw [sp_le s1 (show K1 ≤ K1 + K2 by omega)]; exact sp_le w1 (by omega)), ?_⟩
        rw [f1, bd_s, if_pos (show (1 : Int32) ≠ 0 by decide), k6, hk, show fn_X5_put 0 (nI k) 0 m2 = some m3 from h1, bd_s, nI_1]
        cases r with
        | inl q => exact w2
        | inr t3 =>
          obtain ⟨m4, c4, a4, v1, v2, v3, v4, v5⟩ := w2
          have v4 : a4 + t2.1 ≤ a2 + 1 + t3.1 := v4
          exact ⟨m4, c4, a4, v1, v2, fun j hj => by rw [v3 j hj, rcu_ne (by omega), f3 j (by omega)], by omega, v5⟩
    have nI_q : ∀ x : Nat, x ≤ 300 → lx_kd T L st.1 ≠ x → ¬ m.1 4 0 6 = nI x := fun x hx h => by rw [k6]; exact nI_ne (by omega) (by omega) h
    by_cases c1 : lx_kd T L st.1 = 42
    · rw [if_pos (show m.1 4 0 6 = (42 : Int32) by rw [k6, c1]; rfl)]
      exact more 42 c1 (by omega)
    rw [if_neg (show ¬ m.1 4 0 6 = (42 : Int32) from nI_q 42 (by decide) c1)]
    by_cases c2 : lx_kd T L st.1 = 47
    · rw [if_pos (show m.1 4 0 6 = (47 : Int32) by rw [k6, c2]; rfl)]
      exact more 47 c2 (by omega)
    rw [if_neg (show ¬ m.1 4 0 6 = (47 : Int32) from nI_q 47 (by decide) c2)]
    by_cases c3 : lx_kd T L st.1 = 37
    · rw [if_neg (show ¬ m.1 4 0 6 ≠ (37 : Int32) from fun z => z (by rw [k6, c3]; rfl))]
      exact more 37 c3 (by omega)
    rw [if_pos (show m.1 4 0 6 ≠ (37 : Int32) from nI_q 37 (by decide) c3)]
    refine ⟨1, .inr st, ?_, m, c, a, rfl, hm, fun _ _ => rfl, by omega, hs⟩
    rw [sp, if_neg (by decide), if_neg (by decide), if_neg (by decide), if_neg (by decide), if_neg (by decide), if_neg (by decide), if_neg (by decide), if_neg (by decide), if_neg (by decide), if_neg (by decide), if_neg (show ¬ (lx_kd T L st.1 = 42 ∨ lx_kd T L st.1 = 47 ∨ lx_kd T L st.1 = 37) by omega)]
end CG
