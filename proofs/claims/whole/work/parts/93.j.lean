/-! the class's PART and COMPARED follow the pure reader -/
section CJ
variable {T : Nat → Nat} {L n : Nat} {ord : Bool} {rc : am_rc} {dep : Nat}
theorem cS6 (hT : ∀ k, k < L → T k < 256) (hd : dep ≤ 8) (hrc : dep < 8 → cS T L n ord rc 4 (dep + 1)) : ∀ (m : am_m) (c : rcd) (a : Nat) (st : pst), cmm T L n ord m c a st.1 st.2.1 st.2.2.1 → pq_g L st → a ≤ st.1 → ∃ K r, sp T L ord K 6 dep st = some r ∧ cres T L n ord (fn_X4_readPart rc (nI dep) m) c a a st.1 r := by
  intro m c a st hm hg ha
  have hL := hm.1.1.1
  have k6 : m.1 4 0 6 = nI (lx_kd T L st.1) := hm.1.2.2.1
  have six : ∀ K, sp T L ord (K + 1) 6 dep st = (if lx_kd T L st.1 = 91 then (if dep < 8 then pb (sp T L ord K 4 (dep + 1) (sp_at (lx_nx T L st.1) st)) (sp_cl T L 93) else some (.inl st.1)) else some (sp_leaf T L ord st.1 st.2.1 st.2.2.1)) := fun K => by
    rw [sp, if_neg (by decide), if_neg (by decide), if_neg (by decide), if_neg (by decide), if_neg (by decide), if_neg (by decide), if_pos rfl]
  by_cases c1 : lx_kd T L st.1 = 91
  · have hx := nx_in hg.1 (show lx_kd T L st.1 ≠ 257 by omega)
    unfold fn_X4_readPart
    rw [if_neg (show ¬ m.1 4 0 6 ≠ (91 : Int32) from fun z => z (by rw [k6, c1]; rfl))]
    by_cases c2 : dep < 8
    · rw [if_pos (show nI dep < (8 : Int32) from (nI_ltI (b := 8) (by omega) (by decide)).mpr c2), nI_1]
      obtain ⟨m1, e1, e2⟩ := cgoto hm
      have g1 : pq_g L (sp_at (lx_nx T L st.1) st) := ⟨hx.2, hg.2⟩
      obtain ⟨K1, r1, s1, s2⟩ := hrc c2 m1 c a (sp_at (lx_nx T L st.1) st) e2 g1 (by show a ≤ lx_nx T L st.1; omega)
      have step : ∀ r, pb (some r1) (sp_cl T L 93) = some r → sp T L ord (K1 + 1) 6 dep st = some r := fun r hr => by
        rw [six, if_pos c1, if_pos c2, s1]; exact hr
      rw [e1, bd_s]
      cases r1 with
      | inl q =>
        obtain ⟨m2, f1, f2⟩ := s2
        exact ⟨K1 + 1, .inl q, step _ rfl, m2, by rw [f1, bd_s, if_pos rfl], f2⟩
      | inr t1 =>
        obtain ⟨m2, c2', a2, f1, f2, f3, f4, f5⟩ := s2
        have f4 : a2 + lx_nx T L st.1 ≤ a + t1.1 := f4
        have kk : pq_out T L 4 _ t1 := sp_ok K1 4 _ _ _ (by omega) s1 ⟨g1, fun z => by omega, fun z => by omega, fun z => by omega⟩
        have kt := kd_286 hT kk.1.1
        have tk := ctook (k := 93) (by decide) f2 (by omega)
        by_cases c3 : lx_kd T L t1.1 = 93
        · rw [if_pos c3] at tk
          obtain ⟨m3, h1, h2⟩ := tk
          have hx2 := nx_in kk.1.1 (show lx_kd T L t1.1 ≠ 257 by omega)
          refine ⟨K1 + 1, .inr (lx_nx T L t1.1, t1.2), step _ (by show sp_cl T L 93 t1 = _; unfold sp_cl; rw [if_pos c3]), m3, c2', a2, ?_, h2, f3, by show a2 + st.1 ≤ a + lx_nx T L t1.1; omega, f5⟩
          rw [f1, bd_s, if_neg (show ¬ (1 : Int32) = 0 by decide), show fn_X4_took 93 m2 = some (1, m3) from h1, bd_s, if_neg (show ¬ (1 : Int32) = 0 by decide)]
        · rw [if_neg c3] at tk
          obtain ⟨m3, h1, h2⟩ := tk
          refine ⟨K1 + 1, .inl t1.1, step _ (by show sp_cl T L 93 t1 = _; unfold sp_cl; rw [if_neg c3]), m3, ?_, h2⟩
          rw [f1, bd_s, if_neg (show ¬ (1 : Int32) = 0 by decide), show fn_X4_took 93 m2 = some (0, m3) from h1, bd_s, if_pos rfl]
    · rw [if_neg (show ¬ nI dep < (8 : Int32) from fun z => c2 ((nI_ltI (b := 8) (by omega) (by decide)).mp z))]
      obtain ⟨m', e1, e2⟩ := cbad hm.1
      exact ⟨1, .inl st.1, by rw [six, if_pos c1, if_neg c2], m', e1, e2⟩
  · have lf := cleaf_ok (rc := rc) (d := nI dep) hm c1 hg.2.2 hg.2.1 hT hg.1 hL ha
    have lk := leaf_ok (T := T) (ord := ord) hg
    refine ⟨1, sp_leaf T L ord st.1 st.2.1 st.2.2.1, by rw [six, if_neg c1], ?_⟩
    generalize sp_leaf T L ord st.1 st.2.1 st.2.2.1 = r at lf lk ⊢
    cases r with
    | inl q => exact lf
    | inr t =>
      obtain ⟨m', x, e1, e2, e3⟩ := lf
      have l1 := lk.2.2.1 (by omega)
      exact ⟨m', rcu c a x, a + 1, e1, e2, fun k hk => rcu_ne (by omega), by omega, e3⟩
theorem cS3 (hT : ∀ k, k < L → T k < 256) (hrc : cS T L n ord rc 4 dep) : ∀ (m : am_m) (c : rcd) (a : Nat) (st : pst), cmm T L n ord m c a st.1 st.2.1 st.2.2.1 → pq_g L st → a ≤ st.1 → ∃ K r, sp T L ord K 3 dep st = some r ∧ cres T L n ord (fn_X4_readCompared rc (nI dep) m) c a a st.1 r := by
  intro m c a st hm hg ha
  have hL := hm.1.1.1
  obtain ⟨K1, r1, s1, s2⟩ := hrc m c a st hm hg ha
  have three : ∀ K, sp T L ord (K + 1) 3 dep st = pb (sp T L ord K 4 dep st) (fun s1 => if lx_kd T L s1.1 = 60 ∨ lx_kd T L s1.1 = 62 ∨ lx_kd T L s1.1 = 61 then pb (sp T L ord K 4 dep (sp_at (lx_nx T L s1.1) s1)) (fun s2 => some (.inr (sp_two (sp_o (lx_kd T L s1.1)) s1 s2))) else some (.inl s1.1)) := fun K => by
    rw [sp, if_neg (by decide), if_neg (by decide), if_neg (by decide), if_pos rfl]
  unfold fn_X4_readCompared
  cases r1 with
  | inl q =>
    obtain ⟨m2, f1, f2⟩ := s2
    exact ⟨K1 + 1, .inl q, by rw [three, s1]; rfl, m2, by rw [f1, bd_s, if_neg (show ¬ (0 : Int32) ≠ 0 from fun z => z rfl)], f2⟩
  | inr t1 =>
    obtain ⟨m2, c2, a2, f1, f2, f3, f4, f5⟩ := s2
    have kk : pq_out T L 4 st t1 := sp_ok K1 4 _ _ _ (by omega) s1 ⟨hg, fun z => by omega, fun z => by omega, fun z => by omega⟩
    have kt := kd_286 hT kk.1.1
    have k6 : m2.1 4 0 6 = nI (lx_kd T L t1.1) := f2.1.2.2.1
    have pt : st.1 < t1.1 := kk.2.2.1 (by omega)
    have pL : t1.1 ≤ L := kk.1.1
    have lb := f5.2.1
    rw [f1, bd_s, if_pos (show (1 : Int32) ≠ 0 by decide)]
    have nq : ∀ x : Nat, x ≤ 300 → lx_kd T L t1.1 ≠ x → ¬ m2.1 4 0 6 = nI x := fun x hx h => by rw [k6]; exact nI_ne (by omega) (by omega) h
    have more : ∀ k : Nat, lx_kd T L t1.1 = k → (k = 60 ∨ k = 62 ∨ k = 61) → ∃ K r, sp T L ord K 3 dep st = some r ∧ cres T L n ord ((fn_X4_goTo ((m2.1 4 0 5) + (1 : Int32)) m2).bind fun r5 => (rc 4 (nI dep) r5).bind fun r7 => (if r7.1 ≠ 0 then (fn_X5_put 0 (m2.1 4 0 6) 0 r7.2).bind fun r10 => some (1, r10) else some (0, r7.2))) c a a st.1 r := by
      intro k hk hk3
      have hx := nx_in kk.1.1 (show lx_kd T L t1.1 ≠ 257 by omega)
      obtain ⟨m3, e1, e2⟩ := cgoto f2
      have g1 : pq_g L (sp_at (lx_nx T L t1.1) t1) := ⟨hx.2, kk.1.2⟩
      obtain ⟨K2, r2, w1, w2⟩ := hrc m3 c2 a2 (sp_at (lx_nx T L t1.1) t1) e2 g1 (by show a2 ≤ lx_nx T L t1.1; omega)
      have step : ∀ r, pb (some r2) (fun s2 => some (.inr (sp_two (sp_o (lx_kd T L t1.1)) t1 s2))) = some r → sp T L ord (K1 + K2 + 1) 3 dep st = some r := fun r hr => by
        rw [three, sp_le s1 (show K1 ≤ K1 + K2 by omega)]
        show (if lx_kd T L t1.1 = 60 ∨ lx_kd T L t1.1 = 62 ∨ lx_kd T L t1.1 = 61 then _ else _) = _
        rw [if_pos (by omega), sp_le w1 (show K2 ≤ K1 + K2 by omega)]
        exact hr
      rw [e1, bd_s]
      cases r2 with
      | inl q =>
        obtain ⟨m4, g3, g4⟩ := w2
        exact ⟨_, .inl q, step _ rfl, m4, by rw [g3, bd_s, if_neg (show ¬ (0 : Int32) ≠ 0 from fun z => z rfl)], g4⟩
      | inr t2 =>
        obtain ⟨m4, c4, a4, v1, v2, v3, v4, v5⟩ := w2
        have v4 : a4 + lx_nx T L t1.1 ≤ a2 + t2.1 := v4
        have kk2 : pq_out T L 4 _ t2 := sp_ok K2 4 _ _ _ (by omega) w1 ⟨g1, fun z => by omega, fun z => by omega, fun z => by omega⟩
        have p2 : lx_nx T L t1.1 < t2.1 := kk2.2.2.1 (by omega)
        have p2L : t2.1 ≤ L := kk2.1.1
        have lc := v5.2.1
        obtain ⟨m5, h1, h2⟩ := cput (t := k) (w := 0) (by omega) (by omega) v2 (by omega)
        refine ⟨_, .inr (sp_two (sp_o (lx_kd T L t1.1)) t1 t2), step _ rfl, m5, rcu c4 a4 (k, 0), a4 + 1, ?_, h2, fun j hj => by rw [rcu_ne (by omega), v3 j (by omega), f3 j hj], by show a4 + 1 + st.1 ≤ a + t2.1; omega, ?_⟩
        · rw [v1, bd_s, if_pos (show (1 : Int32) ≠ 0 by decide), k6, hk, show fn_X5_put 0 (nI k) 0 m4 = some m5 from h1, bd_s]
        · show csg ord (rcu c4 a4 (k, 0)) a (a4 + 1) (dn_two (sp_o (lx_kd T L t1.1)) t1.2.2.2.1 t2.2.2.2.1) (t1.2.2.2.2 + t2.2.2.2.2)
          rw [hk]; exact csg_two (by omega) f5 v5 v3
    by_cases c1 : lx_kd T L t1.1 = 60
    · rw [if_pos (show m2.1 4 0 6 = (60 : Int32) by rw [k6, c1]; rfl)]
      exact more 60 c1 (by omega)
    rw [if_neg (show ¬ m2.1 4 0 6 = (60 : Int32) from nq 60 (by decide) c1)]
    by_cases c2 : lx_kd T L t1.1 = 62
    · rw [if_pos (show m2.1 4 0 6 = (62 : Int32) by rw [k6, c2]; rfl)]
      exact more 62 c2 (by omega)
    rw [if_neg (show ¬ m2.1 4 0 6 = (62 : Int32) from nq 62 (by decide) c2)]
    by_cases c3 : lx_kd T L t1.1 = 61
    · rw [if_pos (show m2.1 4 0 6 = (61 : Int32) by rw [k6, c3]; rfl)]
      exact more 61 c3 (by omega)
    rw [if_neg (show ¬ m2.1 4 0 6 = (61 : Int32) from nq 61 (by decide) c3)]
    obtain ⟨m', e1, e2⟩ := cbad f2.1
    refine ⟨K1 + 1, .inl t1.1, ?_, m', e1, e2⟩
    rw [three, s1]
    show (if lx_kd T L t1.1 = 60 ∨ lx_kd T L t1.1 = 62 ∨ lx_kd T L t1.1 = 61 then _ else _) = _
    rw [if_neg (by omega)]
end CJ
