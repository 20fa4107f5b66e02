/-! steps of a run, for proofs by program -/
def am_Go (d k : Nat) (S : am_S) (r : Option am_V) (M' : am_M) (kc ks : Nat) : Prop := ∃ n, am_Rn am_cod (am_Ex am_cod d) k n S r M' kc ks
def am_st (tb : List (Nat × (am_S → am_R))) : Nat → am_S → Option am_S
  | 0, S => some S
  | n + 1, S => match am_look tb S.1 S with
    | .inl (S', 0, 0) => am_st tb n S'
    | _ => none
section GO
variable {d k kc ks : Nat} {S S' : am_S} {r : Option am_V} {M' : am_M} {tb : List (Nat × (am_S → am_R))}
theorem am_Go.c1 (htb : am_tab k = tb) (h : am_look tb S.1 S = am_c S') (g : am_Go d k S' r M' kc ks) : am_Go d k S r M' kc ks := by
  obtain ⟨n, hn⟩ := g
  refine ⟨n + 1, S.2.1, am_le_rf, ?_⟩
  have h2 : am_cod k S.1 S = am_c S' := by unfold am_cod; rw [htb]; exact h
  rw [show (S.1, S.2.1, S.2.2.1, S.2.2.2) = S from rfl, h2]
  exact ⟨kc, ks, (Nat.zero_add _).symm, (Nat.zero_add _).symm, hn⟩
theorem am_Go.n (htb : am_tab k = tb) (n : Nat) {S S' : am_S} (h : am_st tb n S = some S') (g : am_Go d k S' r M' kc ks) : am_Go d k S r M' kc ks := by
  induction n generalizing S with
  | zero => cases h; exact g
  | succ n ih =>
    unfold am_st at h
    split at h
    · rename_i S2 h2
      exact am_Go.c1 htb h2 (ih h)
    · cases h
theorem am_Go.fg {pc : Nat} {L L0 : List (Option am_V)} {st : List am_V} {M : am_M} (hl : am_le L0 L) (g : am_Go d k (pc, L0, st, M) r M' kc ks) : am_Go d k (pc, L, st, M) r M' kc ks := by
  obtain ⟨n, hn⟩ := g
  cases n with
  | zero => exact hn.elim
  | succ n =>
    obtain ⟨L1, h1, h2⟩ := hn
    exact ⟨n + 1, L1, h1.tr hl, h2⟩
theorem am_Go.rt {M : am_M} (htb : am_tab k = tb) (h : am_look tb S.1 S = .inr (.inl (r, M))) : am_Go d k S r M 0 0 := by
  refine ⟨1, S.2.1, am_le_rf, ?_⟩
  have h2 : am_cod k S.1 S = .inr (.inl (r, M)) := by unfold am_cod; rw [htb]; exact h
  rw [show (S.1, S.2.1, S.2.2.1, S.2.2.2) = S from rfl, h2]
  exact ⟨rfl, rfl, rfl, rfl⟩
theorem am_Go.al {dc ds : Nat} (htb : am_tab k = tb) (h : am_look tb S.1 S = .inl (S', dc, ds)) (g : am_Go d k S' r M' kc ks) : am_Go d k S r M' (dc + kc) (ds + ks) := by
  obtain ⟨n, hn⟩ := g
  refine ⟨n + 1, S.2.1, am_le_rf, ?_⟩
  have h2 : am_cod k S.1 S = .inl (S', dc, ds) := by unfold am_cod; rw [htb]; exact h
  rw [show (S.1, S.2.1, S.2.2.1, S.2.2.2) = S from rfl, h2]
  exact ⟨kc, ks, rfl, rfl, hn⟩
theorem am_Go.ca {k' pc' k1 s1 : Nat} {as rest : List am_V} {L' : List (Option am_V)} {M M1 : am_M} {r1 : Option am_V} (htb : am_tab k = tb) (h : am_look tb S.1 S = .inr (.inr (.inl (k', as, M, pc', L', rest)))) (hc : am_Ex am_cod d k' as M r1 M1 k1 s1) (g : am_Go d k (pc', L', r1.toList ++ rest, M1) r M' kc ks) : am_Go d k S r M' (k1 + kc) (s1 + ks) := by
  obtain ⟨n, hn⟩ := g
  refine ⟨n + 1, S.2.1, am_le_rf, ?_⟩
  have h2 : am_cod k S.1 S = .inr (.inr (.inl (k', as, M, pc', L', rest))) := by unfold am_cod; rw [htb]; exact h
  rw [show (S.1, S.2.1, S.2.2.1, S.2.2.2) = S from rfl, h2]
  exact ⟨r1, M1, k1, s1, kc, ks, hc, rfl, rfl, hn⟩
theorem am_Go.cl {k' pc' : Nat} {as rest : List am_V} {L' : List (Option am_V)} {M M1 : am_M} {r1 : Option am_V} (htb : am_tab k = tb) (h : am_look tb S.1 S = .inr (.inr (.inl (k', as, M, pc', L', rest)))) (hc : am_Ex am_cod d k' as M r1 M1 0 0) (g : am_Go d k (pc', L', r1.toList ++ rest, M1) r M' kc ks) : am_Go d k S r M' kc ks := by
  have h2 := am_Go.ca htb h hc g
  rw [Nat.zero_add, Nat.zero_add] at h2
  exact h2
end GO
/-- a bound row place is used -/
def am_ck {α : Type} (i : Int32) (n : Nat) (o : Option α) : Option α := if i < 0 ∨ n ≤ i.toNatClampNeg then none else o
theorem am_ck_some {α : Type} {i : Int32} {n : Nat} {o : Option α} {t : α} (h : am_ck i n o = some t) : ¬ (i < 0 ∨ n ≤ i.toNatClampNeg) ∧ o = some t := by
  unfold am_ck at h
  by_cases c : i < 0 ∨ n ≤ i.toNatClampNeg
  · rw [if_pos c] at h; cases h
  · rw [if_neg c] at h; exact ⟨c, h⟩
def am_gd {α : Type} (c : Prop) [Decidable c] (o : Option α) : Option α := if c then o else none
theorem am_gd_some {α : Type} {c : Prop} [Decidable c] {o : Option α} {t : α} (h : am_gd c o = some t) : c ∧ o = some t := by
  unfold am_gd at h
  by_cases hc : c
  · rw [if_pos hc] at h; exact ⟨hc, h⟩
  · rw [if_neg hc] at h; cases h
theorem am_bd {α β : Type} {o : Option α} {f : α → Option β} {t : β} (h : o.bind f = some t) : ∃ a, o = some a ∧ f a = some t := by
  cases o with
  | none => cases h
  | some a => exact ⟨a, rfl, h⟩
theorem am_Rn_mono {cod : Nat → Nat → am_S → am_R} {C C' : Nat → List am_V → am_M → Option am_V → am_M → Nat → Nat → Prop} (hC : ∀ k as M r M' kc ks, C k as M r M' kc ks → C' k as M r M' kc ks) {k : Nat} : ∀ (n : Nat) (S : am_S) (r : Option am_V) (M' : am_M) (kc ks : Nat), am_Rn cod C k n S r M' kc ks → am_Rn cod C' k n S r M' kc ks
  | 0, _, _, _, _, _, h => h
  | n + 1, S, r, M', kc, ks, h => by
    obtain ⟨L0, hl, h⟩ := h
    refine ⟨L0, hl, ?_⟩
    generalize cod k S.1 (S.1, L0, S.2.2.1, S.2.2.2) = res at h ⊢
    rcases res with ⟨S', dc, ds⟩ | ⟨r0, M0⟩ | ⟨k', as, M2, pc', L', rest⟩ | u
    · obtain ⟨kc', ks', e1, e2, h3⟩ := h
      exact ⟨kc', ks', e1, e2, am_Rn_mono hC n S' r M' kc' ks' h3⟩
    · exact h
    · obtain ⟨r1, M1, k1, s1, kc', ks', hc, e1, e2, h3⟩ := h
      exact ⟨r1, M1, k1, s1, kc', ks', hC _ _ _ _ _ _ _ hc, e1, e2, am_Rn_mono hC n _ r M' kc' ks' h3⟩
    · exact h
theorem am_Ex_succ {cod : Nat → Nat → am_S → am_R} : ∀ (d : Nat) (k : Nat) (as : List am_V) (M : am_M) (r : Option am_V) (M' : am_M) (kc ks : Nat), am_Ex cod d k as M r M' kc ks → am_Ex cod (d + 1) k as M r M' kc ks
  | 0, _, _, _, _, _, _, _, h => h.elim
  | d + 1, k, as, M, r, M', kc, ks, h => by
    obtain ⟨h1, n, h2⟩ := h
    exact ⟨h1, n, am_Rn_mono (am_Ex_succ d) n _ r M' kc ks h2⟩
theorem am_Ex_mono {cod : Nat → Nat → am_S → am_R} {d d' k : Nat} {as : List am_V} {M : am_M} {r : Option am_V} {M' : am_M} {kc ks : Nat} (hd : d ≤ d') (h : am_Ex cod d k as M r M' kc ks) : am_Ex cod d' k as M r M' kc ks := by
  obtain ⟨e, rfl⟩ : ∃ e, d' = d + e := ⟨d' - d, by omega⟩
  clear hd
  induction e with
  | zero => exact h
  | succ e ih => exact am_Ex_succ _ _ _ _ _ _ _ _ ih
