/-! the class's methods with a loop follow the pure reader -/
section CI
variable {T : Nat → Nat} {L n : Nat} {ord : Bool} {rc : am_rc} {dep w wi wl : Nat}
theorem cseq (hsp : ∀ K st, sp T L ord (K + 1) w dep st = pb (sp T L ord K wi dep st) (sp T L ord K wl dep)) (hwi : wi ≤ 6) (hrc : cS T L n ord rc wi dep) (lp : am_m → Option (Sum am_m (Int32 × am_m))) (hloop : ∀ (m : am_m) (c : rcd) (a a0 : Nat) (st : pst), cmm T L n ord m c a st.1 st.2.1 st.2.2.1 → csg ord c a0 a st.2.2.2.1 st.2.2.2.2 → pq_in T L wl st → a ≤ st.1 → a0 ≤ a → ∃ K r, sp T L ord K wl dep st = some r ∧ lres T L n ord (lp m) c a0 a st.1 r) (hin : ∀ s s1, pq_out T L wi s s1 → pq_in T L wl s1) (F : am_m → Option (Int32 × am_m)) (hF : ∀ m, F m = (rc wi (nI dep) m).bind fun r1 => (if r1.1 ≠ 0 then (lp r1.2).bind fun w18 => (match w18 with
    | .inl q15 => some (1, q15)
    | .inr rr17 => some rr17) else some (0, r1.2))) : ∀ (m : am_m) (c : rcd) (a : Nat) (st : pst), cmm T L n ord m c a st.1 st.2.1 st.2.2.1 → pq_g L st → a ≤ st.1 → ∃ K r, sp T L ord K w dep st = some r ∧ cres T L n ord (F m) c a a st.1 r := by
  intro m c a st hm hg ha
  obtain ⟨K1, r1, s1, s2⟩ := hrc m c a st hm hg ha
  rw [hF]
  cases r1 with
  | inl q =>
    obtain ⟨m2, f1, f2⟩ := s2
    exact ⟨K1 + 1, .inl q, by rw [hsp, s1]; rfl, m2, by rw [f1, bd_s, if_neg (show ¬ (0 : Int32) ≠ 0 from fun z => z rfl)], f2⟩
  | inr t1 =>
    obtain ⟨m2, c2, a2, f1, f2, f3, f4, f5⟩ := s2
    have kk : pq_out T L wi st t1 := sp_ok K1 wi _ _ _ (by omega) s1 ⟨hg, fun z => by omega, fun z => by omega, fun z => by omega⟩
    have lb := f5.2.1
    obtain ⟨K2, r, w1, w2⟩ := hloop m2 c2 a2 a t1 f2 f5 (hin _ _ kk) (by omega) (by omega)
    refine ⟨K1 + K2 + 1, r, by rw [hsp, sp_le s1 (show K1 ≤ K1 + K2 by omega)]; exact sp_le w1 (by omega), ?_⟩
    rw [f1, bd_s, if_pos (show (1 : Int32) ≠ 0 by decide)]
    cases r with
    | inl q =>
      obtain ⟨m3, g1, g2⟩ := w2
      exact ⟨m3, by rw [g1]; rfl, g2⟩
    | inr t3 =>
      obtain ⟨m4, c4, a4, v1, v2, v3, v4, v5⟩ := w2
      exact ⟨m4, c4, a4, by rw [v1]; rfl, v2, fun j hj => by rw [v3 j hj, f3 j hj], by omega, v5⟩
theorem cS5 (hT : ∀ k, k < L → T k < 256) (hrc : cS T L n ord rc 6 dep) : ∀ (m : am_m) (c : rcd) (a : Nat) (st : pst), cmm T L n ord m c a st.1 st.2.1 st.2.2.1 → pq_g L st → a ≤ st.1 → ∃ K r, sp T L ord K 5 dep st = some r ∧ cres T L n ord (fn_X4_readTerm rc (nI dep) m) c a a st.1 r :=
  cseq (w := 5) (wi := 6) (wl := 10) (fun K st => by rw [sp, if_neg (by decide), if_neg (by decide), if_neg (by decide), if_neg (by decide), if_neg (by decide), if_pos rfl]) (by decide) hrc (fun m => lp_X4_readTerm_12 rc 1000000 (nI dep) 0 m) (fun m c a a0 st h1 h2 h3 h4 h5 => ctermloop hrc hT L 0 1000000 m c a st (by omega) (by have := h1.1.1.1; omega) (by omega) h1 h2 h3 h4 h5) (fun s s1 k => ⟨k.1, fun _ => k.2.2.2.2.1, fun z => by omega, fun z => by omega⟩) (fun m => fn_X4_readTerm rc (nI dep) m) (fun m => rfl)
theorem cS4 (hT : ∀ k, k < L → T k < 256) (hrc : cS T L n ord rc 5 dep) : ∀ (m : am_m) (c : rcd) (a : Nat) (st : pst), cmm T L n ord m c a st.1 st.2.1 st.2.2.1 → pq_g L st → a ≤ st.1 → ∃ K r, sp T L ord K 4 dep st = some r ∧ cres T L n ord (fn_X4_readSum rc (nI dep) m) c a a st.1 r :=
  cseq (w := 4) (wi := 5) (wl := 9) (fun K st => by rw [sp, if_neg (by decide), if_neg (by decide), if_neg (by decide), if_neg (by decide), if_pos rfl]) (by decide) hrc (fun m => lp_X4_readSum_12 rc 1000000 (nI dep) 0 m) (fun m c a a0 st h1 h2 h3 h4 h5 => csumloop hrc hT L 0 1000000 m c a st (by omega) (by have := h1.1.1.1; omega) (by omega) h1 h2 h3 h4 h5) (fun s s1 k => ⟨k.1, fun _ => k.2.2.2.2.1, fun z => by omega, fun _ => k.2.2.2.2.2.2.1 (by omega)⟩) (fun m => fn_X4_readSum rc (nI dep) m) (fun m => rfl)
theorem cS1 (hT : ∀ k, k < L → T k < 256) (hrc : cS T L n ord rc 2 dep) : ∀ (m : am_m) (c : rcd) (a : Nat) (st : pst), cmm T L n ord m c a st.1 st.2.1 st.2.2.1 → pq_g L st → a ≤ st.1 → ∃ K r, sp T L ord K 1 dep st = some r ∧ cres T L n ord (fn_X4_readBoth rc (nI dep) m) c a a st.1 r :=
  cseq (w := 1) (wi := 2) (wl := 8) (fun K st => by rw [sp, if_neg (by decide), if_pos rfl]) (by decide) hrc (fun m => lp_X4_readBoth_12 rc 1000000 (nI dep) 0 m) (fun m c a a0 st h1 h2 h3 h4 h5 => cbothloop hrc hT L 0 1000000 m c a st (by omega) (by have := h1.1.1.1; omega) (by omega) h1 h2 h3 h4 h5) (fun s s1 k => ⟨k.1, fun _ => k.2.2.2.2.1, fun z => by omega, fun z => by omega⟩) (fun m => fn_X4_readBoth rc (nI dep) m) (fun m => rfl)
theorem cS0 (hT : ∀ k, k < L → T k < 256) (hrc : cS T L n ord rc 1 dep) : ∀ (m : am_m) (c : rcd) (a : Nat) (st : pst), cmm T L n ord m c a st.1 st.2.1 st.2.2.1 → pq_g L st → a ≤ st.1 → ∃ K r, sp T L ord K 0 dep st = some r ∧ cres T L n ord (fn_X4_readTest rc (nI dep) m) c a a st.1 r :=
  cseq (w := 0) (wi := 1) (wl := 7) (fun K st => by rw [sp, if_pos rfl]) (by decide) hrc (fun m => lp_X4_readTest_12 rc 1000000 (nI dep) 0 m) (fun m c a a0 st h1 h2 h3 h4 h5 => ctestloop hrc hT L 0 1000000 m c a st (by omega) (by have := h1.1.1.1; omega) (by omega) h1 h2 h3 h4 h5) (fun s s1 k => ⟨k.1, fun _ => k.2.2.2.2.1, fun _ => k.2.2.2.2.2.2.2.2.1 (by omega), fun z => by omega⟩) (fun m => fn_X4_readTest rc (nI dep) m) (fun m => rfl)
end CI
