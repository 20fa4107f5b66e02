/-! the class splits a TEXT as the pure lexer does -/
def plc (T : Nat → Nat) (L : Nat) : Nat → Nat
  | 0 => lx_sk T L 0
  | i + 1 => lx_nx T L (plc T L i)
def ctk (T : Nat → Nat) (L : Nat) (m : am_m) (i : Nat) : Prop := m.1 4 0 4 = nI i ∧ ∀ j, j < i → m.1 25 0 j = nI (lx_kd T L (plc T L j)) ∧ m.1 26 0 j = nI (lx_vl T L (plc T L j)) ∧ m.1 27 0 j = nI (plc T L j)
section CS
variable {T : Nat → Nat} {L p : Nat} {m m' : am_m}
theorem plc_le : ∀ i, plc T L i ≤ L
  | 0 => (sk_rng (Nat.zero_le L)).2
  | i + 1 => (nx_rng (plc_le i)).2.1
theorem plc_const {n : Nat} (h : plc T L n = L) : ∀ i, n ≤ i → plc T L i = L := by
  intro i hi
  obtain ⟨d, rfl⟩ : ∃ d, i = n + d := ⟨i - n, by omega⟩
  clear hi
  induction d with
  | zero => exact h
  | succ d ih => show lx_nx T L (plc T L (n + d)) = L; rw [ih, nx_L]
abbrev lvTk : List (Nat × Nat) := [(4, 4), (25, 0), (26, 0), (27, 0)]
theorem addTok {i : Nat} {a b c : Int32} (h : ctk T L m i) (hi : i < 401) (ha : a = nI (lx_kd T L (plc T L i))) (hb : b = nI (lx_vl T L (plc T L i))) (hc : c = nI (plc T L i)) : ∃ m', fn_X4_addToken a b c m = some m' ∧ ctk T L m' (i + 1) ∧ am_kp lvTk [] 0 m m' := by
  refine ⟨am_si (am_si (am_si (am_si m 25 0 i a) 26 0 i b) 27 0 i c) 4 0 4 (nI (i + 1)), ?_, ⟨rfl, fun j hj => ?_⟩, am_kp.si (am_kp.si (am_kp.si (am_kp.si am_kp.rf rfl) rfl) rfl) rfl⟩
  · unfold fn_X4_addToken
    rw [h.1, if_neg (show ¬ (401 : Int32) ≤ nI i from nI_ge (b := 401) hi (by decide)), ck_in hi (by decide), ck_in hi (by decide), ck_in hi (by decide), nI_clamp (by omega), nI_1]
  · show (am_si m 25 0 i a).1 25 0 j = _ ∧ (am_si (am_si m 25 0 i a) 26 0 i b).1 26 0 j = _ ∧ (am_si (am_si (am_si m 25 0 i a) 26 0 i b) 27 0 i c).1 27 0 j = _
    rw [rd_j, rd_j, rd_j]
    by_cases e : j = i
    · rw [if_pos e, if_pos e, if_pos e, e]; exact ⟨ha, hb, hc⟩
    · rw [if_neg e, if_neg e, if_neg e]; exact h.2 j (by omega)
theorem cruns (h : ctx7 T L m) {x3 : Int32} : ∀ (d q N : Nat), L - q ≤ d → d < N → q ≤ L → lp_X4_split_35 N (nI q) x3 m = some (nI (rE T L isL q)) ∧ lp_X4_split_83 N (nI q) x3 m = some (nI (rE T L isD q)) := by
  have hL := h.1
  have stop : ∀ N, lp_X4_split_35 (N + 1) (nI L) x3 m = some (nI L) ∧ lp_X4_split_83 (N + 1) (nI L) x3 m = some (nI L) := fun N => by
    rw [lp_X4_split_35, lp_X4_split_83, h.2.1, if_pos (show nI L ≤ nI L from nI_le (Nat.le_refl _) (by omega)), if_pos (show nI L ≤ nI L from nI_le (Nat.le_refl _) (by omega))]
    exact ⟨rfl, rfl⟩
  intro d
  induction d with
  | zero =>
    intro q N h1 h2 h3
    obtain ⟨N, rfl⟩ : ∃ n, N = n + 1 := ⟨N - 1, by omega⟩
    have e : q = L := by omega
    subst e
    rw [rE_stop (Or.inl (Nat.le_refl _)), rE_stop (Or.inl (Nat.le_refl _))]
    exact stop N
  | succ d ih =>
    intro q N h1 h2 h3
    obtain ⟨N, rfl⟩ : ∃ n, N = n + 1 := ⟨N - 1, by omega⟩
    by_cases e : q = L
    · subst e
      rw [rE_stop (Or.inl (Nat.le_refl _)), rE_stop (Or.inl (Nat.le_refl _))]
      exact stop N
    have ht := (h.2.2 q (by omega)).1
    have ih := ih (q + 1) N (by omega) (by omega) (by omega)
    rw [lp_X4_split_35, lp_X4_split_83, h.2.1, if_neg (nI_ge (by omega) (by omega)), if_neg (nI_ge (by omega) (by omega)), cbyte h (by omega), bd_s, bd_s, cletter_ok ht, bd_s, cdigit_ok ht, bd_s, nI_1]
    constructor
    · cases c1 : isL (T q) with
      | false => rw [if_neg (show ¬ false = true by decide), if_pos rfl, rE_stop (Or.inr c1)]
      | true => rw [if_pos rfl, if_neg (show ¬ (1 : Int32) = 0 by decide), rE_step (by omega) c1]; exact ih.1
    · cases c1 : isD (T q) with
      | false => rw [if_neg (show ¬ false = true by decide), if_pos rfl, rE_stop (Or.inr c1)]
      | true => rw [if_pos rfl, if_neg (show ¬ (1 : Int32) = 0 by decide), rE_step (by omega) c1]; exact ih.2
theorem csplit0 : ∀ (d q i N : Nat) (m : am_m), L - q ≤ d → d < N → q ≤ L → i ≤ q → lx_sk T L q = plc T L i → ctx7 T L m → ctk T L m i → ∃ m' n, lp_X4_split_7 N (nI q) m = some m' ∧ ctk T L m' n ∧ plc T L n = L ∧ n ≤ L ∧ am_kp lvTk [] 0 m m'
  | d, q, i, 0, m, _, hN, _, _, _, _, _ => by omega
  | d, q, i, N + 1, m, hd, hN, hq, hi, hp, hx, hk => by
    have hL := hx.1
    rw [lp_X4_split_7, hx.2.1]
    by_cases c0 : L ≤ q
    · have e : q = L := by omega
      subst e
      rw [if_pos (show nI q ≤ nI q from nI_le (Nat.le_refl _) (by omega))]
      exact ⟨m, i, rfl, hk, by rw [← hp, sk_L], hi, am_kp.rf⟩
    obtain ⟨d, rfl⟩ : ∃ e, d = e + 1 := ⟨d - 1, by omega⟩
    have ht := (hx.2.2 q (by omega)).1
    rw [if_neg (nI_ge (by omega) (by omega)), cbyte hx (by omega), bd_s, cletter_ok ht, bd_s]
    -- a TOKEN is added
    have tok : ∀ (a b : Nat) (e : Nat), T q ≠ 32 → lx_kd T L q = a → lx_vl T L q = b → lx_en T L q = e → ∃ m1, fn_X4_addToken (nI a) (nI b) (nI q) m = some m1 ∧ ∃ m' n, lp_X4_split_7 N (nI e) m1 = some m' ∧ ctk T L m' n ∧ plc T L n = L ∧ n ≤ L ∧ am_kp lvTk [] 0 m m' := by
      intro a b e h32 h1 h2 h3
      have eq : plc T L i = q := by rw [← hp]; exact rE_stop (Or.inr (decide_eq_false h32))
      have er := en_rng (T := T) (L := L) (p := q) hq
      obtain ⟨m1, f1, f2, f3⟩ := addTok (a := nI a) (b := nI b) (c := nI q) hk (by omega) (by rw [eq, h1]) (by rw [eq, h2]) (by rw [eq])
      have := er.2.2 (by omega)
      obtain ⟨m', n, g1, g2, g3, g4, g5⟩ := csplit0 d e (i + 1) N m1 (by omega) (by omega) (by omega) (by omega) (by show _ = lx_nx T L (plc T L i); rw [eq, ← h3]; rfl) (hx.kp f3 rfl) f2
      exact ⟨m1, f1, m', n, g1, g2, g3, g4, f3.tr g5⟩
    cases cl : isL (T q) with
    | true =>
      have n32 : T q ≠ 32 := fun z => by rw [z] at cl; cases cl
      have en : lx_en T L q = rE T L isL (q + 1) := by unfold lx_en; rw [if_neg c0, cl, if_pos rfl]
      have er := en_rng (T := T) (L := L) (p := q) hq
      rw [if_pos rfl, if_neg (show ¬ (1 : Int32) = 0 by decide), nI_1, (cruns hx L (q + 1) 1000000 (by omega) (by omega) (by omega)).1, bd_s, ← en, cword_ok hx er.2.1 er.1, bd_s]
      obtain ⟨m1, f1, g⟩ := tok (lx_wk (lx_tx T q (lx_en T L q - q))) 0 (lx_en T L q) n32 (by unfold lx_kd; rw [if_neg c0, cl, if_pos rfl]) (by unfold lx_vl; rw [if_neg c0, cl, if_pos rfl]) rfl
      rw [show fn_X4_addToken (nI (lx_wk (lx_tx T q (lx_en T L q - q)))) 0 (nI q) m = some m1 from f1, bd_s, bd_s]
      exact g
    | false =>
      rw [if_neg (show ¬ false = true by decide), if_pos rfl, cdigit_ok ht, bd_s]
      cases cd : isD (T q) with
      | true =>
        have n32 : T q ≠ 32 := fun z => by rw [z] at cd; cases cd
        have en : lx_en T L q = rE T L isD (q + 1) := by unfold lx_en; rw [if_neg c0, cl, if_neg (by decide), cd, if_pos rfl]
        have en2 : lx_en T L q = rE T L isD q := by rw [en, rE_step (p := q) (by omega) cd]
        have er := en_rng (T := T) (L := L) (p := q) hq
        rw [if_pos rfl, if_neg (show ¬ (1 : Int32) = 0 by decide), nI_1, (cruns hx L (q + 1) 1000000 (by omega) (by omega) (by omega)).2, bd_s, ← en, cnum_ok hx er.2.1 er.1 (fun i h1 h2 => rE_in (L := L) (p := q) h1 (by rw [← en2]; exact h2)), bd_s]
        obtain ⟨m1, f1, g⟩ := tok 256 (lx_num T q (lx_en T L q - q)) (lx_en T L q) n32 (by unfold lx_kd; rw [if_neg c0, cl, if_neg (by decide), cd, if_pos rfl]) (by unfold lx_vl; rw [if_neg c0, cl, if_neg (by decide), cd, if_pos rfl]) rfl
        rw [show fn_X4_addToken 256 (nI (lx_num T q (lx_en T L q - q))) (nI q) m = some m1 from f1, bd_s, bd_s]
        exact g
      | false =>
        rw [if_neg (show ¬ false = true by decide), if_pos rfl, nI_1]
        by_cases c3 : T q = 32
        · rw [if_pos (show nI (T q) = (32 : Int32) by rw [c3]; rfl), bd_s]
          exact csplit0 d (q + 1) i N m (by omega) (by omega) (by omega) (by omega) (by rw [← hp]; unfold lx_sk; rw [rE_step (p := q) (by omega) (decide_eq_true c3)]) hx hk
        · rw [if_neg (show ¬ nI (T q) = (32 : Int32) from nI_ne (b := 32) (by omega) (by decide) c3)]
          obtain ⟨m1, f1, g⟩ := tok (T q) 0 (q + 1) c3 (by unfold lx_kd; rw [if_neg c0, cl, if_neg (by decide), cd, if_neg (by decide)]) (by unfold lx_vl; rw [if_neg c0, cl, if_neg (by decide), cd, if_neg (by decide)]) (by unfold lx_en; rw [if_neg c0, cl, if_neg (by decide), cd, if_neg (by decide)])
          rw [show fn_X4_addToken (nI (T q)) 0 (nI q) m = some m1 from f1, bd_s, bd_s]
          exact g
theorem csplit_ok (h : ctx7 T L m) : ∃ m' n, fn_X4_split m = some m' ∧ ctk T L m' (n + 1) ∧ plc T L n = L ∧ n ≤ L ∧ am_kp lvTk [] 0 m m' := by
  have hL := h.1
  have k0 : am_kp lvTk [] 0 m (am_si m 4 0 4 0) := am_kp.si am_kp.rf rfl
  obtain ⟨m1, n, e1, e2, e3, e4, e5⟩ := csplit0 (T := T) (L := L) L 0 0 1000000 (am_si m 4 0 4 0) (by omega) (by omega) (by omega) (by omega) rfl (h.kp k0 rfl) ⟨rfl, fun j hj => absurd hj (Nat.not_lt_zero _)⟩
  have l7 : m1.1 7 0 1 = nI L := by rw [e5.fld 7 0 1 rfl]; exact h.2.1
  obtain ⟨m2, f1, f2, f3⟩ := addTok (a := 257) (b := 0) (c := nI L) e2 (by omega) (by rw [e3, kd_L]; rfl) (by rw [e3]; unfold lx_vl; rw [if_pos (Nat.le_refl _)]; rfl) (by rw [e3])
  refine ⟨m2, n, ?_, f2, e3, e4, k0.tr (e5.tr f3)⟩
  unfold fn_X4_split
  rw [show lp_X4_split_7 1000000 0 (am_si m 4 0 4 0) = some m1 from e1, bd_s, l7, f1, bd_s]
end CS
