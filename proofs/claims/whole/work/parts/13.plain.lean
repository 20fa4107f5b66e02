/-! the methods' names are plain -/
def am_plok : Bool := am_mtl.all (fun l => l.all (fun q => plainFor q.1)) && plainFor yL_law
theorem am_plok_ok : am_plok = true := by decide +kernel
theorem am_getD_all {α : Type} {P : α → Bool} {d : α} : ∀ (l : List α) (i : Nat), l.all P = true → P d = true → P (l.getD i d) = true
  | [], i, _, h => by cases i <;> exact h
  | a :: l, 0, h, _ => by
    simp only [List.all_cons, Bool.and_eq_true] at h
    exact h.1
  | a :: l, i + 1, h, hd => by
    simp only [List.all_cons, Bool.and_eq_true] at h
    exact am_getD_all l i h.2 hd
theorem am_plain (k : Nat) : plainFor (am_y k) = true := by
  have h := am_plok_ok
  unfold am_plok at h
  rw [Bool.and_eq_true] at h
  unfold am_y am_mt
  refine am_getD_all (α := MethodName × ByteArray × Nat × Option FieldType) (P := fun q => plainFor q.1) _ _ ?_ h.2
  exact am_getD_all (α := List (MethodName × ByteArray × Nat × Option FieldType)) (P := fun l => l.all (fun q => plainFor q.1)) _ _ h.1 rfl
