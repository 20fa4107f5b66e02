/-! operations on fields and rows, and their soundness -/
theorem am_one {D : va_G} {cl : List vw_C} {q : Nat × va_E} {H : Heap} (h : va_at D cl q H) : va_P D cl [q] H := fun k x hx => by
  have hz : k < 1 := (List.getElem?_eq_some_iff.mp hx).1
  rw [show k = 0 by omega] at hx
  cases hx
  exact h
theorem am_fv_congr {ad : Nat → Nat → Nat} {M M' : am_M} {c n : Nat} (h1 : M'.1 c n = M.1 c n) (h2 : M'.2.1 c n = M.2.1 c n) (h3 : M'.2.2.1 c n = M.2.2.1 c n) (k t : Nat) : am_fv ad M' c n k t = am_fv ad M c n k t := by
  unfold am_fv
  rw [h1, h2, h3]
theorem am_en_congr {ca : Nat → ClassId} {ad : Nat → Nat → Nat} {M M' : am_M} {c n : Nat} (h1 : M'.1 c n = M.1 c n) (h2 : M'.2.1 c n = M.2.1 c n) (h3 : M'.2.2.1 c n = M.2.2.1 c n) (h4 : M'.2.2.2.1 c n = M.2.2.2.1 c n) : am_en ca ad M' c n = am_en ca ad M c n := by
  have e : ∀ ts, am_fs ad M' c n ts = am_fs ad M c n ts := fun ts => by
    unfold am_fs
    exact List.map_congr_left (fun k _ => am_fv_congr h1 h2 h3 k _)
  unfold am_en
  rw [h1, h2, h3, h4]
  cases am_kd c with
  | inr q => exact congrArg (fun z => (Sum.inr (q.1, z) : va_E)) (e _)
  | inl t => rcases t with _ | _ | _ | t <;> rfl
/-- (c', n') is another one than (c, n): its rows are the same in both memories -/
def am_sm (M M' : am_M) (c n : Nat) : Prop := ∀ c' n', ¬ (c' = c ∧ n' = n) → M'.1 c' n' = M.1 c' n' ∧ M'.2.1 c' n' = M.2.1 c' n' ∧ M'.2.2.1 c' n' = M.2.2.1 c' n' ∧ M'.2.2.2.1 c' n' = M.2.2.2.1 c' n'
theorem am_P.put {D : va_G} {ca : Nat → ClassId} {ad : Nat → Nat → Nat} {M M' : am_M} {H H' : Heap} {c n : Nat} (h : am_P D ca ad M H) (hn : n < M.2.2.2.2 c) (hc : c ≠ 19) (hC : M'.2.2.2.2 = M.2.2.2.2) (he : va_at D vwCl (ad c n, am_en ca ad M' c n) H') (ho : ∀ q : Nat, q ≠ ad c n → H'[q]? = H[q]?) (hs : am_sm M M' c n) (hr : ∀ k j, M'.2.2.1 c n k = some j → j < M.2.2.2.2 (am_tg c k)) : am_P D ca ad M' H' := by
  refine ⟨fun c' n' h1 h2 => ?_, by rw [hC]; exact h.2.1, fun c' n' k j h1 h2 => ?_⟩
  · by_cases e : c' = c ∧ n' = n
    · obtain ⟨rfl, rfl⟩ := e
      exact he
    · rw [hC] at h1
      obtain ⟨e1, e2, e3, e4⟩ := hs c' n' e
      rw [am_en_congr e1 e2 e3 e4]
      exact (h.1 c' n' h1 h2).kept (ho _ (fun z => e (h.2.1 c' n' c n h1 hn h2 hc z)))
  · rw [hC] at h1 ⊢
    by_cases e : c' = c ∧ n' = n
    · obtain ⟨rfl, rfl⟩ := e
      exact hr k j h2
    · obtain ⟨e1, e2, e3, e4⟩ := hs c' n' e
      rw [e3] at h2
      exact h.2.2 c' n' k j h1 h2
theorem am_I.put {D : va_G} {ca : Nat → ClassId} {s : State} {A : Nat → Prop} {locs : List Loc} {slot : Nat} {ad : Nat → Nat → Nat} {M M' : am_M} {H H' : Heap} {c n : Nat} (h : am_I D ca s A ad M H locs) (hn : n < M.2.2.2.2 c) (hc : c ≠ 19) (hw : c ≠ 79) (hC : M'.2.2.2.2 = M.2.2.2.2) (he : va_at D vwCl (ad c n, am_en ca ad M' c n) H') (hz : H'.size = H.size) (ho : ∀ q : Nat, q ≠ ad c n → H'[q]? = H[q]?) (hs : am_sm M M' c n) (hr : ∀ k j, M'.2.2.1 c n k = some j → j < M.2.2.2.2 (am_tg c k)) : am_I D ca s A ad M' H' (locs ++ [⟨ad c n, slot⟩]) :=
  ⟨h.1.put hn hc hC he ho hs hr, by rw [hC]; exact h.2.1, h.2.2.put hz ho (h.2.1 c n hn hc hw)⟩
theorem am_u3_ne {α : Type} {f : Nat → Nat → Nat → α} {a b k : Nat} {v : α} {x y : Nat} (h : ¬ (x = a ∧ y = b)) : am_u3 f a b k v x y = f x y := by
  funext z
  unfold am_u3
  by_cases h1 : x = a
  · by_cases h2 : y = b
    · exact absurd ⟨h1, h2⟩ h
    · rw [if_pos h1, if_neg h2]
  · rw [if_neg h1]
theorem am_u3_eq {α : Type} {f : Nat → Nat → Nat → α} {a b k : Nat} {v : α} : am_u3 f a b k v a b = fun z => if z = k then v else f a b z := by
  funext z
  simp [am_u3]
theorem am_smI {M : am_M} {c n k : Nat} {x : Int32} : am_sm M (am_u3 M.1 c n k x, M.2) c n := fun c' n' h => ⟨am_u3_ne h, rfl, rfl, rfl⟩
theorem am_smG {M : am_M} {c n k : Nat} {x : Int64} : am_sm M (M.1, am_u3 M.2.1 c n k x, M.2.2) c n := fun c' n' h => ⟨rfl, am_u3_ne h, rfl, rfl⟩
theorem am_smR {M : am_M} {c n k : Nat} {x : Option Nat} : am_sm M (M.1, M.2.1, am_u3 M.2.2.1 c n k x, M.2.2.2) c n := fun c' n' h => ⟨rfl, rfl, am_u3_ne h, rfl⟩
theorem am_kd_o {c : Nat} (h : c < 18) : am_kd c = .inr (c, am_fl.getD c []) := if_pos h
theorem am_kd_i {c : Nat} (h : 20 ≤ c ∧ c < 80) : am_kd c = .inl 0 := by
  unfold am_kd
  rw [if_neg (by omega), if_pos (by omega)]
theorem am_kd_l {c : Nat} (h : 80 ≤ c ∧ c < 90) : am_kd c = .inl 1 := by
  unfold am_kd
  rw [if_neg (by omega), if_neg (by omega), if_pos (by omega)]
theorem am_kd_z {c : Nat} (h : 90 ≤ c ∧ c < 100) : am_kd c = .inl 2 := by
  unfold am_kd
  rw [if_neg (by omega), if_neg (by omega), if_neg (by omega), if_pos (by omega)]
theorem am_en_i {ca : Nat → ClassId} {ad : Nat → Nat → Nat} {M : am_M} {c n : Nat} (h : 20 ≤ c ∧ c < 80) : am_en ca ad M c n = .inl (ca 0, M.2.2.2.1 c n, .inl (M.1 c n)) := by
  unfold am_en; rw [am_kd_i h]
theorem am_en_l {ca : Nat → ClassId} {ad : Nat → Nat → Nat} {M : am_M} {c n : Nat} (h : 80 ≤ c ∧ c < 90) : am_en ca ad M c n = .inl (ca 1, M.2.2.2.1 c n, .inr (.inl (M.2.1 c n))) := by
  unfold am_en; rw [am_kd_l h]
theorem am_en_z {ca : Nat → ClassId} {ad : Nat → Nat → Nat} {M : am_M} {c n : Nat} (h : 90 ≤ c ∧ c < 100) : am_en ca ad M c n = .inl (ca 2, M.2.2.2.1 c n, .inl (M.1 c n)) := by
  unfold am_en; rw [am_kd_z h]
theorem am_en_o {ca : Nat → ClassId} {ad : Nat → Nat → Nat} {M : am_M} {c n : Nat} (h : c < 18) : am_en ca ad M c n = .inr (c, am_fs ad M c n (am_fl.getD c [])) := by
  unfold am_en; rw [am_kd_o h]
theorem am_en_s {ca : Nat → ClassId} {ad : Nat → Nat → Nat} {M : am_M} {n : Nat} : am_en ca ad M 100 n = .inl (ca 8, M.2.2.2.1 100 n, .inr (.inr (.inr (.inr (fun k => (M.2.2.1 100 n k).map (ad 5)))))) := rfl
theorem am_en_u {ca : Nat → ClassId} {ad : Nat → Nat → Nat} {M : am_M} {n : Nat} : am_en ca ad M 101 n = .inl (ca 11, M.2.2.2.1 101 n, .inr (.inr (.inr (.inr (fun k => (M.2.2.1 101 n k).map (ad 8)))))) := rfl
def am_o_iald : am_S → am_R
  | (pc, L, .inl i :: .inr (.inr (some (c, n))) :: st, M) => if 20 ≤ c ∧ c < 80 then (if i < 0 ∨ M.2.2.2.1 c n ≤ i.toNatClampNeg then am_no else am_c (pc + 1, L, .inl (M.1 c n i.toNatClampNeg) :: st, M)) else am_no
  | _ => am_no
def am_o_lald : am_S → am_R
  | (pc, L, .inl i :: .inr (.inr (some (c, n))) :: st, M) => if 80 ≤ c ∧ c < 90 then (if i < 0 ∨ M.2.2.2.1 c n ≤ i.toNatClampNeg then am_no else am_c (pc + 1, L, .inr (.inl (M.2.1 c n i.toNatClampNeg)) :: st, M)) else am_no
  | _ => am_no
def am_o_zald : am_S → am_R
  | (pc, L, .inl i :: .inr (.inr (some (c, n))) :: st, M) => if 90 ≤ c ∧ c < 100 then (if i < 0 ∨ M.2.2.2.1 c n ≤ i.toNatClampNeg then am_no else am_c (pc + 1, L, .inl (M.1 c n i.toNatClampNeg) :: st, M)) else am_no
  | _ => am_no
def am_o_aald : am_S → am_R
  | (pc, L, .inl i :: .inr (.inr (some (c, n))) :: st, M) => if c = 100 then (if i < 0 ∨ M.2.2.2.1 100 n ≤ i.toNatClampNeg then am_no else am_c (pc + 1, L, .inr (.inr ((M.2.2.1 100 n i.toNatClampNeg).map (fun j => (5, j)))) :: st, M)) else if c = 101 then (if i < 0 ∨ M.2.2.2.1 101 n ≤ i.toNatClampNeg then am_no else am_c (pc + 1, L, .inr (.inr ((M.2.2.1 101 n i.toNatClampNeg).map (fun j => (8, j)))) :: st, M)) else am_no
  | _ => am_no
def am_o_iast : am_S → am_R
  | (pc, L, .inl x :: .inl i :: .inr (.inr (some (c, n))) :: st, M) => if 20 ≤ c ∧ c < 79 then (if i < 0 ∨ M.2.2.2.1 c n ≤ i.toNatClampNeg then am_no else am_c (pc + 1, L, st, (am_u3 M.1 c n i.toNatClampNeg x, M.2))) else am_no
  | _ => am_no
def am_o_last : am_S → am_R
  | (pc, L, .inr (.inl x) :: .inl i :: .inr (.inr (some (c, n))) :: st, M) => if 80 ≤ c ∧ c < 90 then (if i < 0 ∨ M.2.2.2.1 c n ≤ i.toNatClampNeg then am_no else am_c (pc + 1, L, st, (M.1, am_u3 M.2.1 c n i.toNatClampNeg x, M.2.2))) else am_no
  | _ => am_no
def am_o_zast : am_S → am_R
  | (pc, L, .inl x :: .inl i :: .inr (.inr (some (c, n))) :: st, M) => if 90 ≤ c ∧ c < 100 then (if x = 0 ∨ x = 1 then (if i < 0 ∨ M.2.2.2.1 c n ≤ i.toNatClampNeg then am_no else am_c (pc + 1, L, st, (am_u3 M.1 c n i.toNatClampNeg x, M.2))) else am_no) else am_no
  | _ => am_no
def am_o_aast : am_S → am_R
  | (pc, L, .inr (.inr x) :: .inl i :: .inr (.inr (some (c, n))) :: st, M) => if (c = 100 ∧ ∀ q, x = some q → q.1 = 5) ∨ (c = 101 ∧ ∀ q, x = some q → q.1 = 8) then (if i < 0 ∨ M.2.2.2.1 c n ≤ i.toNatClampNeg then am_no else am_c (pc + 1, L, st, (M.1, M.2.1, am_u3 M.2.2.1 c n i.toNatClampNeg (x.map (fun q => q.2)), M.2.2.2))) else am_no
  | _ => am_no
def am_o_alen : am_S → am_R
  | (pc, L, .inr (.inr (some (c, n))) :: st, M) => if 20 ≤ c then am_c (pc + 1, L, .inl (Int32.ofNat (M.2.2.2.1 c n)) :: st, M) else am_no
  | _ => am_no
