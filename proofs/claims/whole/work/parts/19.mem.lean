/-! the memory of the class and the reference: what is fixed in it (which row is whose, how long), what moves; by program (wip/whole/gen/dec.py) -/
/-- whom the judge looks at, by which law; laws, images; lengths of rows that differ; how many there are -/
abbrev am_e : Type := (Nat → Option Nat) × (Nat → Option Nat) × (Nat → Nat → Option Nat) × (Nat → Nat → Option Nat) × (Nat → Nat → Nat) × (Nat → Nat)
abbrev am_m : Type := (Nat → Nat → Nat → Int32) × (Nat → Nat → Nat → Int64) × am_e
def am_R0 (e : am_e) : Nat → Nat → Nat → Option Nat := fun c n k => match c with
  | 1 => (match k with | 0 => e.1 n | 1 => e.2.1 n | 2 => some n | 3 => some n | _ => none)
  | 2 => (match k with | 3 => some n | 4 => some n | 5 => some n | _ => none)
  | 3 => (match k with | 0 => some n | _ => none)
  | 4 => (match k with | 0 => some n | 1 => some n | 2 => some n | 3 => some 0 | _ => none)
  | 5 => (match k with | 0 => some n | 1 => some n | _ => none)
  | 6 => (match k with | 1 => some n | 2 => some n | 3 => some n | 4 => some n | 5 => some n | 6 => some n | _ => none)
  | 7 => (match k with | 0 => some n | _ => none)
  | 8 => (match k with | 4 => some n | 5 => some n | 6 => some n | 7 => some n | 8 => some n | 9 => some n | _ => none)
  | 9 => (match k with | 0 => some 0 | 1 => some 1 | 2 => some 2 | 3 => some 0 | 4 => some 0 | 5 => some 1 | 6 => some 0 | 7 => some 0 | 8 => some 0 | 9 => some 0 | 10 => some 0 | 11 => some 0 | 12 => some 0 | 13 => some 0 | 14 => some 0 | _ => none)
  | 10 => (match k with | 2 => some n | 3 => some n | 4 => some n | 5 => some n | 6 => some n | 7 => some n | 9 => some n | 10 => some n | 12 => some n | 22 => some n | 24 => some n | 25 => some n | 27 => some n | 28 => some n | 31 => some n | 32 => some n | 33 => some n | 35 => some n | 36 => some n | 37 => some n | 41 => some n | 42 => some n | 43 => some n | 44 => some n | 45 => some n | 47 => some n | 48 => some n | 49 => some n | 50 => some n | 51 => some n | 52 => some n | 53 => some n | 54 => some n | 60 => some n | _ => none)
  | 100 => e.2.2.1 n k
  | 101 => e.2.2.2.1 n k
  | _ => none
def am_N0 (e : am_e) : Nat → Nat → Nat := fun c n => match c with
  | 20 => 8
  | 21 => 7
  | 22 => 7
  | 23 => 7
  | 24 => 208
  | 25 => 401
  | 26 => 401
  | 27 => 401
  | 30 => 7
  | 31 => 7
  | 32 => 7
  | 33 => 21
  | 34 => 128
  | 35 => 400
  | 36 => 7
  | 37 => 49
  | 38 => 49
  | 39 => 3
  | 40 => 6
  | 41 => 19
  | 42 => 7
  | 43 => 7
  | 44 => 5518
  | 45 => 11036
  | 46 => 1944
  | 47 => 16
  | 48 => 1728
  | 49 => 16
  | 50 => 400
  | 51 => 96
  | 52 => 400
  | 53 => 400
  | 54 => 400
  | 55 => 400
  | 56 => 7
  | 57 => 8
  | 58 => 7
  | 59 => 7
  | 60 => 128
  | 61 => 120
  | 62 => 7
  | 63 => 108
  | 80 => 51
  | 81 => 20
  | 82 => 8
  | 83 => 7
  | 84 => 4
  | 85 => 13
  | 86 => 13
  | 87 => 400
  | 88 => 21
  | 89 => 4
  | 90 => 128
  | 91 => 2
  | 92 => 49
  | 93 => 49
  | 94 => 128
  | 95 => 128
  | 100 => 6
  | 101 => 2
  | _ => e.2.2.2.2.1 c n
def am_mk (m : am_m) : am_M := (m.1, m.2.1, am_R0 m.2.2, am_N0 m.2.2, m.2.2.2.2.2.2.2)
def am_si (m : am_m) (c n k : Nat) (v : Int32) : am_m := (am_u3 m.1 c n k v, m.2)
def am_sg (m : am_m) (c n k : Nat) (v : Int64) : am_m := (m.1, am_u3 m.2.1 c n k v, m.2.2)
def am_sc (m : am_m) (c0 n0 c1 n1 sp dp n : Nat) : am_m := (am_u2 m.1 c1 n1 (va_cpy (m.1 c0 n0) (m.1 c1 n1) sp dp n), m.2)
def am_sa (m : am_m) (v : Option Nat) : am_m := (m.1, m.2.1, am_u1 m.2.2.1 0 v, m.2.2.2)
def am_sb (m : am_m) (v : Option Nat) : am_m := (m.1, m.2.1, m.2.2.1, am_u1 m.2.2.2.1 0 v, m.2.2.2.2)
theorem am_R0_a (e : am_e) (v : Option Nat) : am_u3 (am_R0 e) 1 0 0 v = am_R0 (am_u1 e.1 0 v, e.2) := by
  funext c n k
  unfold am_u3
  by_cases hc : c = 1
  · subst hc
    by_cases hn : n = 0
    · subst hn
      rcases k with _ | _ | _ | _ | k <;> rfl
    · rw [if_pos rfl, if_neg hn]
      rcases k with _ | _ | _ | _ | k <;> first | rfl | (show e.1 n = am_u1 e.1 0 v n; unfold am_u1; rw [if_neg hn])
  · rw [if_neg hc]
    unfold am_R0
    split <;> first | rfl | exact absurd rfl hc
theorem am_R0_b (e : am_e) (v : Option Nat) : am_u3 (am_R0 e) 1 0 1 v = am_R0 (e.1, am_u1 e.2.1 0 v, e.2.2) := by
  funext c n k
  unfold am_u3
  by_cases hc : c = 1
  · subst hc
    by_cases hn : n = 0
    · subst hn
      rcases k with _ | _ | _ | _ | k <;> rfl
    · rw [if_pos rfl, if_neg hn]
      rcases k with _ | _ | _ | _ | k <;> first | rfl | (show e.2.1 n = am_u1 e.2.1 0 v n; unfold am_u1; rw [if_neg hn])
  · rw [if_neg hc]
    unfold am_R0
    split <;> first | rfl | exact absurd rfl hc
theorem am_R0_s (e : am_e) (n k : Nat) (v : Option Nat) : am_u3 (am_R0 e) 100 n k v = am_R0 (e.1, e.2.1, am_u2 e.2.2.1 n k v, e.2.2.2) := by
  funext c n' k'
  unfold am_u3
  by_cases hc : c = 100
  · subst hc
    show (if 100 = 100 then (if n' = n then (if k' = k then v else e.2.2.1 n' k') else e.2.2.1 n' k') else e.2.2.1 n' k') = am_u2 e.2.2.1 n k v n' k'
    rw [if_pos rfl]
    rfl
  · rw [if_neg hc]
    unfold am_R0
    split <;> first | rfl | exact absurd rfl hc
theorem am_R0_u (e : am_e) (n k : Nat) (v : Option Nat) : am_u3 (am_R0 e) 101 n k v = am_R0 (e.1, e.2.1, e.2.2.1, am_u2 e.2.2.2.1 n k v, e.2.2.2.2) := by
  funext c n' k'
  unfold am_u3
  by_cases hc : c = 101
  · subst hc
    show (if 101 = 101 then (if n' = n then (if k' = k then v else e.2.2.2.1 n' k') else e.2.2.2.1 n' k') else e.2.2.2.1 n' k') = am_u2 e.2.2.2.1 n k v n' k'
    rw [if_pos rfl]
    rfl
  · rw [if_neg hc]
    unfold am_R0
    split <;> first | rfl | exact absurd rfl hc
def am_ss (m : am_m) (n k : Nat) (v : Option Nat) : am_m := (m.1, m.2.1, m.2.2.1, m.2.2.2.1, am_u2 m.2.2.2.2.1 n k v, m.2.2.2.2.2)
def am_su (m : am_m) (n k : Nat) (v : Option Nat) : am_m := (m.1, m.2.1, m.2.2.1, m.2.2.2.1, m.2.2.2.2.1, am_u2 m.2.2.2.2.2.1 n k v, m.2.2.2.2.2.2)
theorem am_ass {pc n : Nat} {i : Int32} {L : List (Option am_V)} {st : List am_V} {m : am_m} (v : Option Nat) (h : ¬ (i < 0 ∨ am_N0 m.2.2 100 n ≤ i.toNatClampNeg)) : am_o_aast (pc, L, .inr (.inr (v.map (fun j => (5, j)))) :: .inl i :: .inr (.inr (some (100, n))) :: st, am_mk m) = am_c (pc + 1, L, st, am_mk (am_ss m n i.toNatClampNeg v)) := by
  have e : ∀ w, ((am_mk m).1, (am_mk m).2.1, am_u3 (am_mk m).2.2.1 100 n i.toNatClampNeg w, (am_mk m).2.2.2) = am_mk (am_ss m n i.toNatClampNeg w) := fun w => by
    show (m.1, m.2.1, am_u3 (am_R0 m.2.2) 100 n i.toNatClampNeg w, am_N0 m.2.2, m.2.2.2.2.2.2.2) = _
    rw [am_R0_s]
    rfl
  have hc : (100 = 100 ∧ ∀ q, v.map (fun j => (5, j)) = some q → q.1 = 5) ∨ (100 = 101 ∧ ∀ q, v.map (fun j => (5, j)) = some q → q.1 = 8) := Or.inl ⟨rfl, fun q hq => by
    cases v with
    | none => cases hq
    | some j => cases hq; rfl⟩
  have e2 : (v.map (fun j => (5, j))).map (fun q => q.2) = v := by cases v <;> rfl
  rw [← e]
  refine ((if_pos hc).trans (if_neg h)).trans ?_
  rw [e2]
theorem am_asu {pc n : Nat} {i : Int32} {L : List (Option am_V)} {st : List am_V} {m : am_m} (v : Option Nat) (h : ¬ (i < 0 ∨ am_N0 m.2.2 101 n ≤ i.toNatClampNeg)) : am_o_aast (pc, L, .inr (.inr (v.map (fun j => (8, j)))) :: .inl i :: .inr (.inr (some (101, n))) :: st, am_mk m) = am_c (pc + 1, L, st, am_mk (am_su m n i.toNatClampNeg v)) := by
  have e : ∀ w, ((am_mk m).1, (am_mk m).2.1, am_u3 (am_mk m).2.2.1 101 n i.toNatClampNeg w, (am_mk m).2.2.2) = am_mk (am_su m n i.toNatClampNeg w) := fun w => by
    show (m.1, m.2.1, am_u3 (am_R0 m.2.2) 101 n i.toNatClampNeg w, am_N0 m.2.2, m.2.2.2.2.2.2.2) = _
    rw [am_R0_u]
    rfl
  have hc : (101 = 100 ∧ ∀ q, v.map (fun j => (8, j)) = some q → q.1 = 5) ∨ (101 = 101 ∧ ∀ q, v.map (fun j => (8, j)) = some q → q.1 = 8) := Or.inr ⟨rfl, fun q hq => by
    cases v with
    | none => cases hq
    | some j => cases hq; rfl⟩
  have e2 : (v.map (fun j => (8, j))).map (fun q => q.2) = v := by cases v <;> rfl
  rw [← e]
  refine ((if_pos hc).trans (if_neg h)).trans ?_
  rw [e2]
theorem am_gfd {pc c n k t j : Nat} {L : List (Option am_V)} {st : List am_V} {M : am_M} (h : M.2.2.1 c n k = some j) : am_o_gf c k (t + 3) (pc, L, .inr (.inr (some (c, n))) :: st, M) = am_c (pc + 3, L, .inr (.inr (some (t, j))) :: st, M) := by
  show (if c = c then am_c (pc + 3, L, .inr (.inr ((M.2.2.1 c n k).map (fun j => (t, j)))) :: st, M) else am_no) = _
  rw [if_pos rfl, h]
  rfl
theorem am_pfz {pc c n k : Nat} {L : List (Option am_V)} {st : List am_V} {m : am_m} {x : Int32} (h : x = 0 ∨ x = 1) : am_o_pf c k 2 (pc, L, .inl x :: .inr (.inr (some (c, n))) :: st, am_mk m) = am_c (pc + 3, L, st, am_mk (am_si m c n k x)) := by
  show (if c = c then (match (if x = 0 ∨ x = 1 then some (am_u3 (am_mk m).1 c n k x, (am_mk m).2) else none) with
    | some M' => am_c (pc + 3, L, st, M')
    | none => am_no) else am_no) = _
  rw [if_pos rfl, if_pos h]
  rfl
theorem am_pfa {pc : Nat} {L : List (Option am_V)} {st : List am_V} {m : am_m} (v : Option Nat) : am_o_pf 1 0 11 (pc, L, .inr (.inr (v.map (fun j => (8, j)))) :: .inr (.inr (some (1, 0))) :: st, am_mk m) = am_c (pc + 3, L, st, am_mk (am_sa m v)) := by
  have e : ∀ w, ((am_mk m).1, (am_mk m).2.1, am_u3 (am_mk m).2.2.1 1 0 0 w, (am_mk m).2.2.2) = am_mk (am_sa m w) := fun w => by
    show (m.1, m.2.1, am_u3 (am_R0 m.2.2) 1 0 0 w, am_N0 m.2.2, m.2.2.2.2.2.2.2) = _
    rw [am_R0_a]
    rfl
  cases v with
  | none => rw [← e]; rfl
  | some j => rw [← e]; rfl
theorem am_pfb {pc : Nat} {L : List (Option am_V)} {st : List am_V} {m : am_m} (v : Option Nat) : am_o_pf 1 1 8 (pc, L, .inr (.inr (v.map (fun j => (5, j)))) :: .inr (.inr (some (1, 0))) :: st, am_mk m) = am_c (pc + 3, L, st, am_mk (am_sb m v)) := by
  have e : ∀ w, ((am_mk m).1, (am_mk m).2.1, am_u3 (am_mk m).2.2.1 1 0 1 w, (am_mk m).2.2.2) = am_mk (am_sb m w) := fun w => by
    show (m.1, m.2.1, am_u3 (am_R0 m.2.2) 1 0 1 w, am_N0 m.2.2, m.2.2.2.2.2.2.2) = _
    rw [am_R0_b]
    rfl
  cases v with
  | none => rw [← e]; rfl
  | some j => rw [← e]; rfl
theorem am_sw_eq {pc t : Nat} {L : List (Option am_V)} {st : List am_V} {M : am_M} {x : Int32} {tb : List (Int32 × Nat)} {d : Nat} (h : am_sw x tb d = t) : am_o_sw tb d (pc, L, .inl x :: st, M) = am_c (t, L, st, M) := by
  show am_c (am_sw x tb d, L, st, M) = _
  rw [h]
theorem am_Go.cut {d k kc ks : Nat} {S S0 : am_S} {r : Option am_V} {M' : am_M} (g : am_Go d k S r M' kc ks) (f : am_Go d k S r M' kc ks → am_Go d k S0 r M' kc ks) : am_Go d k S0 r M' kc ks := f g
theorem am_zs {pc c n : Nat} {i x : Int32} {L : List (Option am_V)} {st : List am_V} {m : am_m} (hc : 90 ≤ c ∧ c < 100) (hx : x = 0 ∨ x = 1) (h : ¬ (i < 0 ∨ am_N0 m.2.2 c n ≤ i.toNatClampNeg)) : am_o_zast (pc, L, .inl x :: .inl i :: .inr (.inr (some (c, n))) :: st, am_mk m) = am_c (pc + 1, L, st, am_mk (am_si m c n i.toNatClampNeg x)) :=
  (if_pos hc).trans ((if_pos hx).trans (if_neg h))
theorem am_Go.o {d k kc ks : Nat} {S S' : am_S} {r : Option am_V} {M' : am_M} {tb : List (Nat × (am_S → am_R))} (htb : am_tab k = tb) (op : am_S → am_R) (h0 : am_look tb S.1 S = op S) (h : op S = am_c S') (g : am_Go d k S' r M' kc ks) : am_Go d k S r M' kc ks := am_Go.c1 htb (h0.trans h) g
theorem am_incn {pc i : Nat} {x v : Int32} {L L' : List (Option am_V)} {st : List am_V} {M : am_M} (h : am_get L i = some (.inl x)) (h' : am_set1 L i (.inl (x - v)) = L') : am_o_inc i (-v) (pc, L, st, M) = am_c (pc + 3, L', st, M) := by
  show (match am_get L i with
    | some (.inl x) => am_c (pc + 3, am_set1 L i (.inl (x + -v)), st, M)
    | _ => am_no) = _
  rw [h, ← h', Int32.sub_eq_add_neg]
