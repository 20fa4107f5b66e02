/-! what code for a stack tells: an abstract machine for the codes of both -/
abbrev dn : Type := (Nat → Int64) → Option Int64
/-- a number that isn't too far -/
def dn_in (v : Int64) : Option Int64 := if v < -1000000000 ∨ 1000000000 < v then none else some v
def dn_op (o : Nat) (a b : Int64) : Option Int64 := match o with
  | 0 => dn_in (a + b)
  | 1 => dn_in (a - b)
  | 2 => dn_in (a * b)
  | 3 => if b = 0 then none else dn_in (a / b)
  | 4 => if b = 0 then none else dn_in (a - a / b * b)
  | 5 => some (if a < b then 1 else 0)
  | 6 => some (if b < a then 1 else 0)
  | _ => some (if a = b then 1 else 0)
/-- a cell: 0 a number, 1 a word, 2 .. 9 two are joined, 10 not, 11 and, 12 or, 13 the end -/
abbrev ab_C : Type := Nat → Nat × Nat
def ab_step (c : ab_C) (env : Nat → Int64) (k : Nat) (st : List Int64) : Option (Nat × List Int64) :=
  if (c k).1 = 0 then some (k + 1, lN (c k).2 :: st)
  else if (c k).1 = 1 then some (k + 1, env (c k).2 :: st)
  else if (c k).1 < 10 then (match st with
    | y :: x :: r => (dn_op ((c k).1 - 2) x y).map (fun v => (k + 1, v :: r))
    | _ => none)
  else if (c k).1 = 10 then (match st with
    | x :: r => some (k + 1, (1 - x) :: r)
    | _ => none)
  else if (c k).1 = 11 then (match st with
    | x :: r => if x = 0 then some ((c k).2, x :: r) else some (k + 1, r)
    | _ => none)
  else if (c k).1 = 12 then (match st with
    | x :: r => if x = 1 then some ((c k).2, x :: r) else some (k + 1, r)
    | _ => none)
  else none
/-- goes on in the cells from lo to hi, with at most H in the stack, to k' -/
def ab_to (c : ab_C) (env : Nat → Int64) (lo hi H : Nat) : Nat → Nat → List Int64 → Nat → List Int64 → Prop
  | 0, k, st, k', st' => k = k' ∧ st = st'
  | j + 1, k, st, k', st' => lo ≤ k ∧ k < hi ∧ st.length ≤ H ∧ ∃ k1 st1, ab_step c env k st = some (k1, st1) ∧ k < k1 ∧ st1.length ≤ H ∧ ab_to c env lo hi H j k1 st1 k' st'
/-- breaks on the way -/
def ab_br (c : ab_C) (env : Nat → Int64) (lo hi H : Nat) : Nat → Nat → List Int64 → Prop
  | 0, k, st => lo ≤ k ∧ k < hi ∧ st.length ≤ H ∧ 2 ≤ (c k).1 ∧ (c k).1 < 10 ∧ ∃ y x r, st = y :: x :: r ∧ dn_op ((c k).1 - 2) x y = none
  | j + 1, k, st => lo ≤ k ∧ k < hi ∧ st.length ≤ H ∧ ∃ k1 st1, ab_step c env k st = some (k1, st1) ∧ k < k1 ∧ st1.length ≤ H ∧ ab_br c env lo hi H j k1 st1
/-- the cells from a to b tell f, and need h places of the stack -/
def ab_seg (c : ab_C) (a b : Nat) (f : dn) (h : Nat) : Prop := a < b ∧ 1 ≤ h ∧ ∀ (env : Nat → Int64) (st : List Int64), match f env with
  | some v => ∃ j, ab_to c env a b (st.length + h) j a st b (v :: st)
  | none => ∃ j, ab_br c env a b (st.length + h) j a st
section AB
variable {c : ab_C} {env : Nat → Int64} {lo hi H lo' hi' H' : Nat}
theorem ab_to.mono (h1 : lo' ≤ lo) (h2 : hi ≤ hi') (h3 : H ≤ H') : ∀ {j k : Nat} {st : List Int64} {k' : Nat} {st' : List Int64}, ab_to c env lo hi H j k st k' st' → ab_to c env lo' hi' H' j k st k' st'
  | 0, _, _, _, _, h => h
  | j + 1, _, _, _, _, h => by
    obtain ⟨g1, g2, g3, k1, st1, g4, g5, g6, g7⟩ := h
    exact ⟨Nat.le_trans h1 g1, Nat.lt_of_lt_of_le g2 h2, Nat.le_trans g3 h3, k1, st1, g4, g5, Nat.le_trans g6 h3, ab_to.mono h1 h2 h3 g7⟩
theorem ab_br.mono (h1 : lo' ≤ lo) (h2 : hi ≤ hi') (h3 : H ≤ H') : ∀ {j k : Nat} {st : List Int64}, ab_br c env lo hi H j k st → ab_br c env lo' hi' H' j k st
  | 0, _, _, h => ⟨Nat.le_trans h1 h.1, Nat.lt_of_lt_of_le h.2.1 h2, Nat.le_trans h.2.2.1 h3, h.2.2.2⟩
  | j + 1, _, _, h => by
    obtain ⟨g1, g2, g3, k1, st1, g4, g5, g6, g7⟩ := h
    exact ⟨Nat.le_trans h1 g1, Nat.lt_of_lt_of_le g2 h2, Nat.le_trans g3 h3, k1, st1, g4, g5, Nat.le_trans g6 h3, ab_br.mono h1 h2 h3 g7⟩
theorem ab_to.tr : ∀ {j k : Nat} {st : List Int64} {k1 : Nat} {st1 : List Int64} {i k2 : Nat} {st2 : List Int64}, ab_to c env lo hi H j k st k1 st1 → ab_to c env lo hi H i k1 st1 k2 st2 → ab_to c env lo hi H (j + i) k st k2 st2
  | 0, _, _, _, _, i, _, _, h, g => by
    obtain ⟨rfl, rfl⟩ := h
    rw [Nat.zero_add]
    exact g
  | j + 1, _, _, _, _, i, _, _, h, g => by
    obtain ⟨g1, g2, g3, k3, st3, g4, g5, g6, g7⟩ := h
    rw [show j + 1 + i = (j + i) + 1 by omega]
    exact ⟨g1, g2, g3, k3, st3, g4, g5, g6, ab_to.tr g7 g⟩
theorem ab_to.br : ∀ {j k : Nat} {st : List Int64} {k1 : Nat} {st1 : List Int64} {i : Nat}, ab_to c env lo hi H j k st k1 st1 → ab_br c env lo hi H i k1 st1 → ab_br c env lo hi H (j + i) k st
  | 0, _, _, _, _, i, h, g => by
    obtain ⟨rfl, rfl⟩ := h
    rw [Nat.zero_add]
    exact g
  | j + 1, _, _, _, _, i, h, g => by
    obtain ⟨g1, g2, g3, k3, st3, g4, g5, g6, g7⟩ := h
    rw [show j + 1 + i = (j + i) + 1 by omega]
    exact ⟨g1, g2, g3, k3, st3, g4, g5, g6, ab_to.br g7 g⟩
theorem ab_to.one {k : Nat} {st : List Int64} {k' : Nat} {st' : List Int64} (h1 : lo ≤ k) (h2 : k < hi) (h3 : st.length ≤ H) (h4 : ab_step c env k st = some (k', st')) (h5 : k < k') (h6 : st'.length ≤ H) : ab_to c env lo hi H 1 k st k' st' := ⟨h1, h2, h3, k', st', h4, h5, h6, rfl, rfl⟩
end AB
section SEG
variable {c : ab_C} {a b d x : Nat} {f g : dn} {h h' : Nat}
theorem ab_seg.num (hc : c a = (0, x)) : ab_seg c a (a + 1) (fun _ => some (lN x)) 1 := by
  refine ⟨Nat.lt_succ_self a, Nat.le_refl 1, fun env st => ⟨1, ab_to.one (Nat.le_refl a) (Nat.lt_succ_self a) (by omega) ?_ (Nat.lt_succ_self a) (Nat.le_refl _)⟩⟩
  unfold ab_step
  rw [hc]
  rfl
theorem ab_seg.word (hc : c a = (1, x)) : ab_seg c a (a + 1) (fun env => some (env x)) 1 := by
  refine ⟨Nat.lt_succ_self a, Nat.le_refl 1, fun env st => ⟨1, ab_to.one (Nat.le_refl a) (Nat.lt_succ_self a) (by omega) ?_ (Nat.lt_succ_self a) (Nat.le_refl _)⟩⟩
  unfold ab_step
  rw [hc]
  rfl
/-- two, joined -/
def dn_two (o : Nat) (f g : dn) : dn := fun env => (f env).bind fun u => (g env).bind fun v => dn_op o u v
theorem ab_seg.two {o : Nat} (ho : o < 8) (h1 : ab_seg c a b f h) (h2 : ab_seg c b d g h') (hc : (c d).1 = o + 2) : ab_seg c a (d + 1) (dn_two o f g) (h + h') := by
  refine ⟨Nat.lt_trans h1.1 (Nat.lt_trans h2.1 (Nat.lt_succ_self d)), Nat.le_trans h1.2.1 (Nat.le_add_right _ _), fun env st => ?_⟩
  have e1 := h1.2.2 env st
  have l1 := h1.1
  have l2 := h2.1
  have p1 := h1.2.1
  have p2 := h2.2.1
  unfold dn_two
  cases hf : f env with
  | none =>
    rw [hf] at e1
    obtain ⟨j, hj⟩ := e1
    exact ⟨j, hj.mono (Nat.le_refl _) (by omega) (by omega)⟩
  | some u =>
    rw [hf] at e1
    obtain ⟨j, hj⟩ := e1
    have hj := hj.mono (lo' := a) (hi' := d + 1) (H' := st.length + (h + h')) (Nat.le_refl _) (by omega) (by omega)
    have e2 := h2.2.2 env (u :: st)
    cases hg : g env with
    | none =>
      rw [hg] at e2
      obtain ⟨i, hi⟩ := e2
      exact ⟨j + i, hj.br (hi.mono (by omega) (by omega) (by simp only [List.length_cons]; omega))⟩
    | some v =>
      rw [hg] at e2
      obtain ⟨i, hi⟩ := e2
      have hi := hi.mono (lo' := a) (hi' := d + 1) (H' := st.length + (h + h')) (by omega) (by omega) (by simp only [List.length_cons]; omega)
      have hij := hj.tr hi
      have hstep : ab_step c env d (v :: u :: st) = (dn_op o u v).map (fun w => (d + 1, w :: st)) := by
        unfold ab_step
        rw [hc, if_neg (by omega), if_neg (by omega), if_pos (by omega)]
        rfl
      show (match dn_op o u v with
        | some w => ∃ j, ab_to c env a (d + 1) (st.length + (h + h')) j a st (d + 1) (w :: st)
        | none => ∃ j, ab_br c env a (d + 1) (st.length + (h + h')) j a st)
      cases ho2 : dn_op o u v with
      | none =>
        refine ⟨j + i + 0, hij.br ⟨by omega, by omega, by simp only [List.length_cons]; omega, by omega, by omega, v, u, st, rfl, ?_⟩⟩
        rw [hc, Nat.add_sub_cancel]
        exact ho2
      | some w =>
        rw [ho2] at hstep
        exact ⟨j + i + 1, hij.tr (ab_to.one (by omega) (by omega) (by simp only [List.length_cons]; omega) hstep (by omega) (by simp only [List.length_cons]; omega))⟩
def dn_not (f : dn) : dn := fun env => (f env).map (fun v => 1 - v)
theorem ab_seg.not (h1 : ab_seg c a b f h) (hc : (c b).1 = 10) : ab_seg c a (b + 1) (dn_not f) h := by
  refine ⟨Nat.lt_trans h1.1 (Nat.lt_succ_self b), h1.2.1, fun env st => ?_⟩
  have e1 := h1.2.2 env st
  have l1 := h1.1
  have p1 := h1.2.1
  unfold dn_not
  cases hf : f env with
  | none =>
    rw [hf] at e1
    obtain ⟨j, hj⟩ := e1
    exact ⟨j, hj.mono (Nat.le_refl _) (by omega) (Nat.le_refl _)⟩
  | some u =>
    rw [hf] at e1
    obtain ⟨j, hj⟩ := e1
    refine ⟨j + 1, (hj.mono (Nat.le_refl _) (by omega) (Nat.le_refl _)).tr (ab_to.one (by omega) (by omega) (by simp only [List.length_cons]; omega) ?_ (by omega) (by simp only [List.length_cons]; omega))⟩
    unfold ab_step
    rw [hc]
    rfl
/-- and (0), or (1): what is settled by the first isn't looked at further -/
def dn_both (s : Int64) (f g : dn) : dn := fun env => (f env).bind fun u => if u = s then some u else g env
theorem ab_seg.both {t : Nat} {s : Int64} (ht : t = 11 ∧ s = 0 ∨ t = 12 ∧ s = 1) (h1 : ab_seg c a b f h) (hc : c b = (t, d)) (h2 : ab_seg c (b + 1) d g h') : ab_seg c a d (dn_both s f g) (h + h') := by
  have l1 := h1.1
  have l2 := h2.1
  have p1 := h1.2.1
  have p2 := h2.2.1
  refine ⟨by omega, by omega, fun env st => ?_⟩
  have e1 := h1.2.2 env st
  unfold dn_both
  cases hf : f env with
  | none =>
    rw [hf] at e1
    obtain ⟨j, hj⟩ := e1
    exact ⟨j, hj.mono (Nat.le_refl _) (by omega) (by omega)⟩
  | some u =>
    rw [hf] at e1
    obtain ⟨j, hj⟩ := e1
    have hj := hj.mono (lo' := a) (hi' := d) (H' := st.length + (h + h')) (Nat.le_refl _) (by omega) (by omega)
    have hstep : ab_step c env b (u :: st) = if u = s then some (d, u :: st) else some (b + 1, st) := by
      unfold ab_step
      rw [hc]
      rcases ht with ⟨rfl, rfl⟩ | ⟨rfl, rfl⟩ <;> rfl
    show (match (if u = s then some u else g env) with
      | some w => ∃ j, ab_to c env a d (st.length + (h + h')) j a st d (w :: st)
      | none => ∃ j, ab_br c env a d (st.length + (h + h')) j a st)
    by_cases hu : u = s
    · rw [if_pos hu] at hstep ⊢
      exact ⟨j + 1, hj.tr (ab_to.one (by omega) (by omega) (by simp only [List.length_cons]; omega) hstep (by omega) (by simp only [List.length_cons]; omega))⟩
    · rw [if_neg hu] at hstep ⊢
      have hb := hj.tr (ab_to.one (by omega) (by omega) (by simp only [List.length_cons]; omega) hstep (by omega) (by omega))
      have e2 := h2.2.2 env st
      cases hg : g env with
      | none =>
        rw [hg] at e2
        obtain ⟨i, hi⟩ := e2
        exact ⟨j + 1 + i, hb.br (hi.mono (by omega) (by omega) (by omega))⟩
      | some v =>
        rw [hg] at e2
        obtain ⟨i, hi⟩ := e2
        exact ⟨j + 1 + i, hb.tr (hi.mono (by omega) (by omega) (by omega))⟩
theorem ab_seg.cong {c' : ab_C} (h1 : ab_seg c a b f h) (he : ∀ k, a ≤ k → k < b → c' k = c k) : ab_seg c' a b f h := by
  have hs : ∀ env k st, a ≤ k → k < b → ab_step c' env k st = ab_step c env k st := fun env k st g1 g2 => by
    unfold ab_step
    rw [he k g1 g2]
  have ht : ∀ env H j k st k' st', ab_to c env a b H j k st k' st' → ab_to c' env a b H j k st k' st' := by
    intro env H j
    induction j with
    | zero => exact fun k st k' st' q => q
    | succ j ih =>
      intro k st k' st' q
      obtain ⟨g1, g2, g3, k1, st1, g4, g5, g6, g7⟩ := q
      exact ⟨g1, g2, g3, k1, st1, by rw [hs env k st g1 g2]; exact g4, g5, g6, ih _ _ _ _ g7⟩
  have hb : ∀ env H j k st, ab_br c env a b H j k st → ab_br c' env a b H j k st := by
    intro env H j
    induction j with
    | zero =>
      intro k st q
      obtain ⟨g1, g2, g3, g4, g5, y, x, r, g6, g7⟩ := q
      refine ⟨g1, g2, g3, ?_, ?_, y, x, r, g6, ?_⟩
      · rw [he k g1 g2]; exact g4
      · rw [he k g1 g2]; exact g5
      · rw [he k g1 g2]; exact g7
    | succ j ih =>
      intro k st q
      obtain ⟨g1, g2, g3, k1, st1, g4, g5, g6, g7⟩ := q
      exact ⟨g1, g2, g3, k1, st1, by rw [hs env k st g1 g2]; exact g4, g5, g6, ih _ _ g7⟩
  refine ⟨h1.1, h1.2.1, fun env st => ?_⟩
  have e := h1.2.2 env st
  cases hf : f env with
  | none =>
    rw [hf] at e
    obtain ⟨j, hj⟩ := e
    exact ⟨j, hb _ _ _ _ _ hj⟩
  | some v =>
    rw [hf] at e
    obtain ⟨j, hj⟩ := e
    exact ⟨j, ht _ _ _ _ _ _ _ hj⟩
end SEG
