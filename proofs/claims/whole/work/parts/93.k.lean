/-! the class's PLAIN, and all of its reader -/
def nj (j : Nat) (r : Nat ⊕ pst) : Nat ⊕ pst := match r with
  | .inl q => .inl q
  | .inr s => .inr (if j % 2 = 1 then sp_not s else s)
section CK
variable {T : Nat → Nat} {L n : Nat} {ord : Bool} {rc : am_rc} {dep : Nat} {c : rcd} {a : Nat}
theorem sp_nn (s : pst) : sp_not (sp_not s) = s := by
  unfold sp_not
  show (s.1, s.2.1, s.2.2.1, dn_not (dn_not s.2.2.2.1), s.2.2.2.2) = s
  rw [not_not]
theorem cnots (hT : ∀ k, k < L → T k < 256) : ∀ (d i N fl : Nat) (m : am_m) (st : pst), L - st.1 ≤ d → d < N → i ≤ st.1 → fl < 2 → cmm T L n ord m c a st.1 st.2.1 st.2.2.1 → st.1 ≤ L → ∃ j m1 p1, lp_X4_readPlain_4 rc N (nI dep) (nI fl) (nI i) m = some (nI ((fl + j) % 2), m1) ∧ cmm T L n ord m1 c a p1 st.2.1 st.2.2.1 ∧ lx_kd T L p1 ≠ 261 ∧ st.1 + j ≤ p1 ∧ p1 ≤ L ∧ ∀ K r, sp T L ord K 2 dep (sp_at p1 st) = some r → sp T L ord (K + j) 2 dep st = some (nj j r)
  | d, i, 0, fl, m, st, _, hN, _, _, _, _ => by omega
  | d, i, N + 1, fl, m, st, hd, hN, hi, hf, hm, hp => by
    have hL := hm.1.1.1
    have hkd := kd_286 hT hp
    have k6 : m.1 4 0 6 = nI (lx_kd T L st.1) := hm.1.2.2.1
    rw [lp_X4_readPlain_4, if_neg (show ¬ (401 : Int32) ≤ nI i from nI_ge (b := 401) (by omega) (by decide))]
    by_cases c1 : lx_kd T L st.1 = 261
    · rw [if_neg (show ¬ m.1 4 0 6 ≠ (261 : Int32) from fun z => z (by rw [k6, c1]; rfl)), nI_1]
      have hx := nx_in hp (show lx_kd T L st.1 ≠ 257 by omega)
      obtain ⟨m1, e1, e2⟩ := cgoto hm
      have fl2 : (if nI fl ≠ 0 then (0 : Int32) else (1 : Int32)) = nI (1 - fl) := by
        have : fl = 0 ∨ fl = 1 := by omega
        rcases this with rfl | rfl <;> rfl
      obtain ⟨d, rfl⟩ : ∃ e, d = e + 1 := ⟨d - 1, by omega⟩
      obtain ⟨j, m2, p1, g1, g2, g3, g4, g5, g6⟩ := cnots hT d (i + 1) N (1 - fl) m1 (sp_at (lx_nx T L st.1) st) (by show L - lx_nx T L st.1 ≤ d; omega) (by omega) (by show i + 1 ≤ lx_nx T L st.1; omega) (by omega) e2 hx.2
      have g4 : lx_nx T L st.1 + j ≤ p1 := g4
      refine ⟨j + 1, m2, p1, ?_, g2, g3, by omega, g5, fun K r hr => ?_⟩
      · rw [e1, bd_s, fl2, g1, show (1 - fl + j) % 2 = (fl + (j + 1)) % 2 by omega]
      · rw [show K + (j + 1) = (K + j) + 1 from rfl, sp, if_neg (by decide), if_neg (by decide), if_pos rfl, if_pos c1, g6 K r hr]
        cases r with
        | inl q => rfl
        | inr s =>
          show some (Sum.inr (sp_not (if j % 2 = 1 then sp_not s else s))) = some (Sum.inr (if (j + 1) % 2 = 1 then sp_not s else s))
          by_cases q : j % 2 = 1
          · rw [if_pos q, if_neg (by omega), sp_nn]
          · rw [if_neg q, if_pos (by omega)]
    · rw [if_pos (show m.1 4 0 6 ≠ (261 : Int32) by rw [k6]; exact nI_ne (b := 261) (by omega) (by decide) c1)]
      refine ⟨0, m, st.1, by rw [Nat.add_zero, Nat.mod_eq_of_lt hf], hm, c1, Nat.le_refl _, hp, fun K r hr => ?_⟩
      have hr : sp T L ord K 2 dep st = some r := hr
      rw [Nat.add_zero, hr]
      cases r with
      | inl q => rfl
      | inr s => rfl
/-- the nots are put down -/
theorem cfin {m' : am_m} {c' : rcd} {a' p p1 j : Nat} {s : pst} (hm : cmm T L n ord m' c' a' s.1 s.2.1 s.2.2.1) (hc : ∀ k, k < a → c' k = c k) (hp : p + j ≤ p1) (hb : a' + p1 ≤ a + s.1) (hs : csg ord c' a a' s.2.2.2.1 s.2.2.2.2) (ha : a' < 448) : cres T L n ord (if nI (j % 2) = (0 : Int32) then some (1, m') else (fn_X5_put 0 261 0 m').bind fun r13 => some (1, r13)) c a a p (nj j (.inr s)) := by
  have lb := hs.2.1
  have : j % 2 = 0 ∨ j % 2 = 1 := by omega
  rcases this with z | z
  · have e : nj j (.inr s) = .inr s := by show Sum.inr (if j % 2 = 1 then sp_not s else s) = _; rw [if_neg (show ¬ j % 2 = 1 by omega)]
    rw [e, z, if_pos (show nI 0 = (0 : Int32) from rfl)]
    exact ⟨m', c', a', rfl, hm, hc, by omega, hs⟩
  · have e : nj j (.inr s) = .inr (sp_not s) := by show Sum.inr (if j % 2 = 1 then sp_not s else s) = _; rw [if_pos z]
    rw [e, z, if_neg (show ¬ nI 1 = (0 : Int32) by decide)]
    obtain ⟨m1, e1, e2⟩ := cput (t := 261) (w := 0) (by decide) (by omega) hm ha
    exact ⟨m1, rcu c' a' (261, 0), a' + 1, by rw [show fn_X5_put 0 261 0 m' = some m1 from e1, bd_s], e2, fun k hk => by rw [rcu_ne (by omega), hc k hk], by show a' + 1 + p ≤ a + s.1; omega, csg_not hs⟩
theorem cS2 (hT : ∀ k, k < L → T k < 256) (hd : dep ≤ 8) (hrc : cS T L n ord rc 3 dep) (hrc0 : dep < 8 → cS T L n ord rc 0 (dep + 1)) : ∀ (m : am_m) (c : rcd) (a : Nat) (st : pst), cmm T L n ord m c a st.1 st.2.1 st.2.2.1 → pq_g L st → a ≤ st.1 → ∃ K r, sp T L ord K 2 dep st = some r ∧ cres T L n ord (fn_X4_readPlain rc (nI dep) m) c a a st.1 r := by
  intro m c a st hm hg ha
  have hL := hm.1.1.1
  obtain ⟨j, m1, p1, e1, e2, e3, e4, e5, e6⟩ := cnots (rc := rc) (dep := dep) hT L 0 1000000 0 m st (by omega) (by omega) (by omega) (by omega) hm hg.1
  have k6 : m1.1 4 0 6 = nI (lx_kd T L p1) := e2.1.2.2.1
  have hkd := kd_286 hT e5
  have g0 : pq_g L (sp_at p1 st) := ⟨e5, hg.2⟩
  have two : ∀ K, sp T L ord (K + 1) 2 dep (sp_at p1 st) = (if lx_kd T L p1 = 40 then (if dep < 8 then pb (sp T L ord K 0 (dep + 1) (sp_at (lx_nx T L p1) st)) (sp_cl T L 41) else some (.inl p1)) else sp T L ord K 3 dep (sp_at p1 st)) := fun K => by
    rw [sp, if_neg (by decide), if_neg (by decide), if_pos rfl, if_neg (show ¬ lx_kd T L (sp_at p1 st).1 = 261 from e3)]
    rfl
  rw [Nat.zero_add] at e1
  unfold fn_X4_readPlain
  rw [show lp_X4_readPlain_4 rc 1000000 (nI dep) 0 0 m = _ from e1, bd_s]
  dsimp only
  by_cases c1 : lx_kd T L p1 = 40
  · rw [if_neg (show ¬ m1.1 4 0 6 ≠ (40 : Int32) from fun z => z (by rw [k6, c1]; rfl))]
    by_cases c2 : dep < 8
    · rw [if_pos (show nI dep < (8 : Int32) from (nI_ltI (b := 8) (by omega) (by decide)).mpr c2), nI_1]
      have hx := nx_in e5 (show lx_kd T L p1 ≠ 257 by omega)
      obtain ⟨m2, f1, f2⟩ := cgoto e2
      obtain ⟨K1, r1, s1, s2⟩ := hrc0 c2 m2 c a (sp_at (lx_nx T L p1) st) f2 ⟨hx.2, hg.2⟩ (by show a ≤ lx_nx T L p1; omega)
      have step : ∀ r, pb (some r1) (sp_cl T L 41) = some r → sp T L ord (K1 + 1 + j) 2 dep st = some (nj j r) := fun r hr => e6 _ _ (by rw [two, if_pos c1, if_pos c2, s1]; exact hr)
      rw [f1, bd_s]
      cases r1 with
      | inl q =>
        obtain ⟨m3, h1, h2⟩ := s2
        exact ⟨_, .inl q, step _ rfl, m3, by rw [h1, bd_s, if_pos rfl], h2⟩
      | inr t1 =>
        obtain ⟨m3, c3, a3, h1, h2, h3, h4, h5⟩ := s2
        have h4 : a3 + lx_nx T L p1 ≤ a + t1.1 := h4
        have kk : pq_out T L 0 _ t1 := sp_ok K1 0 _ _ _ (by omega) s1 ⟨⟨hx.2, hg.2⟩, fun z => by omega, fun z => by omega, fun z => by omega⟩
        have kt := kd_286 hT kk.1.1
        have tk := ctook (k := 41) (by decide) h2 (by omega)
        by_cases c3' : lx_kd T L t1.1 = 41
        · rw [if_pos c3'] at tk
          obtain ⟨m4, i1, i2⟩ := tk
          have hx2 := nx_in kk.1.1 (show lx_kd T L t1.1 ≠ 257 by omega)
          refine ⟨_, nj j (.inr (lx_nx T L t1.1, t1.2)), step (.inr (lx_nx T L t1.1, t1.2)) (by show sp_cl T L 41 t1 = _; unfold sp_cl; rw [if_pos c3']), ?_⟩
          rw [h1, bd_s, if_neg (show ¬ (1 : Int32) = 0 by decide), show fn_X4_took 41 m3 = some (1, m4) from i1, bd_s, if_pos (show (1 : Int32) ≠ 0 by decide)]
          exact cfin (s := (lx_nx T L t1.1, t1.2)) i2 h3 e4 (by show a3 + p1 ≤ a + lx_nx T L t1.1; omega) h5 (by omega)
        · rw [if_neg c3'] at tk
          obtain ⟨m4, i1, i2⟩ := tk
          refine ⟨_, .inl t1.1, step (.inl t1.1) (by show sp_cl T L 41 t1 = _; unfold sp_cl; rw [if_neg c3']), m4, ?_, i2⟩
          rw [h1, bd_s, if_neg (show ¬ (1 : Int32) = 0 by decide), show fn_X4_took 41 m3 = some (0, m4) from i1, bd_s, if_neg (show ¬ (0 : Int32) ≠ 0 from fun z => z rfl)]
    · rw [if_neg (show ¬ nI dep < (8 : Int32) from fun z => c2 ((nI_ltI (b := 8) (by omega) (by decide)).mp z))]
      obtain ⟨m', i1, i2⟩ := cbad e2.1
      exact ⟨_, .inl p1, e6 1 (.inl p1) (by rw [two, if_pos c1, if_neg c2]), m', i1, i2⟩
  · rw [if_pos (show m1.1 4 0 6 ≠ (40 : Int32) by rw [k6]; exact nI_ne (b := 40) (by omega) (by decide) c1)]
    obtain ⟨K1, r1, s1, s2⟩ := hrc m1 c a (sp_at p1 st) e2 g0 (by show a ≤ p1; omega)
    have step : sp T L ord (K1 + 1 + j) 2 dep st = some (nj j r1) := e6 _ _ (by rw [two, if_neg c1, s1])
    refine ⟨_, nj j r1, step, ?_⟩
    cases r1 with
    | inl q =>
      obtain ⟨m3, h1, h2⟩ := s2
      exact ⟨m3, by rw [h1, bd_s, if_neg (show ¬ (0 : Int32) ≠ 0 from fun z => z rfl)], h2⟩
    | inr t1 =>
      obtain ⟨m3, c3, a3, h1, h2, h3, h4, h5⟩ := s2
      have h4 : a3 + p1 ≤ a + t1.1 := h4
      have kk : pq_out T L 3 _ t1 := sp_ok K1 3 _ _ _ (by omega) s1 ⟨g0, fun z => by omega, fun z => by omega, fun z => by omega⟩
      have := kk.1.1
      rw [h1, bd_s, if_pos (show (1 : Int32) ≠ 0 by decide)]
      exact cfin h2 h3 e4 h4 h5 (by omega)
/-- the class's reader follows the pure reader -/
theorem csim (hT : ∀ k, k < L → T k < 256) : ∀ (N w dep : Nat), w ≤ 6 → dep ≤ 8 → (7 - w) + 3 * (8 - dep) ≤ N → cS T L n ord (am_rd N) w dep
  | 0, w, dep, h1, h2, h3 => by omega
  | N + 1, w, dep, h1, h2, h3 => by
    have ih := csim hT N
    have : w = 0 ∨ w = 1 ∨ w = 2 ∨ w = 3 ∨ w = 4 ∨ w = 5 ∨ w = 6 := by omega
    rcases this with rfl | rfl | rfl | rfl | rfl | rfl | rfl
    · exact cS0 hT (ih 1 dep (by omega) h2 (by omega))
    · exact cS1 hT (ih 2 dep (by omega) h2 (by omega))
    · exact cS2 hT h2 (ih 3 dep (by omega) h2 (by omega)) (fun z => ih 0 (dep + 1) (by omega) (by omega) (by omega))
    · exact cS3 hT (ih 4 dep (by omega) h2 (by omega))
    · exact cS4 hT (ih 5 dep (by omega) h2 (by omega))
    · exact cS5 hT (ih 6 dep (by omega) h2 (by omega))
    · exact cS6 hT h2 (fun z => ih 4 (dep + 1) (by omega) (by omega) (by omega))
end CK
