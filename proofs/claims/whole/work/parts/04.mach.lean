/-! An abstract machine over typed references (sort, number), and what it means that an operation of it is sound for an instruction: then a run of the abstract machine gives the contract of the method. Sorts: 0 .. 17 objects by the class's place in vwCl, 19 a String constant, 20 .. 78 rows of ints (79 the script), 80 .. 89 of longs, 90 .. 99 of booleans, 100, 101 of references. -/
def am_wk : Cond → Bool
  | .fieldLinkNest _ _ _ _ _ _ => true
  | .methodLinkNest _ _ _ _ => true
  | .arrayOver (.object _) => true
  | w => goodWord w
/-- the tables' words that stay as the machine goes on -/
def am_tbl : List Cond := lw_tbl.filter am_wk
theorem am_in {w : Cond} (h : w ∈ lw_tbl) (hk : am_wk w = true) : w ∈ am_tbl := List.mem_filter.mpr ⟨h, hk⟩
abbrev am_V : Type := Int32 ⊕ (Int64 ⊕ Option (Nat × Nat))
/-- the memory: ints, longs, references of (sort, number, place); lengths of rows; how many there are of a sort -/
abbrev am_M : Type := (Nat → Nat → Nat → Int32) × (Nat → Nat → Nat → Int64) × (Nat → Nat → Nat → Option Nat) × (Nat → Nat → Nat) × (Nat → Nat)
abbrev am_S : Type := Nat × List (Option am_V) × List am_V × am_M
/-- goes on (with cells and slots made), returns, calls, or can't -/
abbrev am_R : Type := (am_S × Nat × Nat) ⊕ ((Option am_V × am_M) ⊕ ((Nat × List am_V × am_M × Nat × List (Option am_V) × List am_V) ⊕ Unit))
abbrev am_no : am_R := .inr (.inr (.inr ()))
abbrev am_c (S : am_S) : am_R := .inl (S, 0, 0)
def am_u3 {α : Type} (f : Nat → Nat → Nat → α) (a b c : Nat) (v : α) : Nat → Nat → Nat → α := fun x y z => if x = a then (if y = b then (if z = c then v else f x y z) else f x y z) else f x y z
def am_u2 {α : Type} (f : Nat → Nat → α) (a b : Nat) (v : α) : Nat → Nat → α := fun x y => if x = a then (if y = b then v else f x y) else f x y
def am_u1 {α : Type} (f : Nat → α) (a : Nat) (v : α) : Nat → α := fun x => if x = a then v else f x
def am_kd (c : Nat) : Nat ⊕ (Nat × List Nat) := if c < 18 then .inr (c, am_fl.getD c []) else if c < 80 then .inl 0 else if c < 90 then .inl 1 else if c < 100 then .inl 2 else if c = 100 then .inl 8 else .inl 11
def am_tg (c k : Nat) : Nat := match am_kd c with
  | .inr q => q.2.getD k 0 - 3
  | .inl t => t - 3
def am_cv (ad : Nat → Nat → Nat) : am_V → Value
  | .inl x => .int x
  | .inr (.inl x) => .long x
  | .inr (.inr none) => .null
  | .inr (.inr (some q)) => .ref (ad q.1 q.2)
def am_ok (M : am_M) : am_V → Prop
  | .inr (.inr (some q)) => q.2 < M.2.2.2.2 q.1
  | _ => True
def am_fv (ad : Nat → Nat → Nat) (M : am_M) (c n k t : Nat) : Value := match t with
  | 0 => .int (M.1 c n k)
  | 1 => .long (M.2.1 c n k)
  | 2 => .int (M.1 c n k)
  | t + 3 => va_rf ((M.2.2.1 c n k).map (ad t))
def am_fs (ad : Nat → Nat → Nat) (M : am_M) (c n : Nat) (ts : List Nat) : List Value := (List.range ts.length).map (fun k => am_fv ad M c n k (ts.getD k 0))
def am_en (ca : Nat → ClassId) (ad : Nat → Nat → Nat) (M : am_M) (c n : Nat) : va_E := match am_kd c with
  | .inr q => .inr (q.1, am_fs ad M c n q.2)
  | .inl 0 => .inl (ca 0, M.2.2.2.1 c n, .inl (M.1 c n))
  | .inl 1 => .inl (ca 1, M.2.2.2.1 c n, .inr (.inl (M.2.1 c n)))
  | .inl 2 => .inl (ca 2, M.2.2.2.1 c n, .inl (M.1 c n))
  | .inl (t + 3) => .inl (ca (t + 3), M.2.2.2.1 c n, .inr (.inr (.inr (.inr (fun k => (M.2.2.1 c n k).map (ad t))))))
def am_tys (ca : Nat → ClassId) : List (ClassId × FieldType) := [(ca 0, .int), (ca 1, .long), (ca 2, .boolean), (ca 8, .object "BrokenBread$Script"), (ca 11, .object "BrokenBread$Upland")]
/-- the heap holds the memory -/
def am_P (D : va_G) (ca : Nat → ClassId) (ad : Nat → Nat → Nat) (M : am_M) (H : Heap) : Prop :=
  (∀ c n, n < M.2.2.2.2 c → c ≠ 19 → va_at D vwCl (ad c n, am_en ca ad M c n) H) ∧
  (∀ c n c' n', n < M.2.2.2.2 c → n' < M.2.2.2.2 c' → c ≠ 19 → c' ≠ 19 → ad c n = ad c' n' → c = c' ∧ n = n') ∧
  (∀ c n k j, n < M.2.2.2.2 c → M.2.2.1 c n k = some j → j < M.2.2.2.2 (am_tg c k))
/-- what is known of String constants and statics: kept by all that doesn't write below A -/
def am_wd : List Int32 := [111, 114, 32, 97, 110, 100, 32, 110, 111, 116, 32, 105, 102, 32, 116, 105, 109, 101, 115, 32, 116, 111, 32, 98, 121, 32, 99, 111, 117, 110, 116, 115, 32, 102, 101, 101, 100, 115, 32, 104, 117, 110, 103, 101, 114, 115, 32, 98, 97, 114, 115, 32, 104, 97, 114, 109, 32, 102, 101, 97, 115, 116, 32, 112, 97, 114, 100, 111, 110, 32, 112, 97, 115, 115, 32, 100, 111, 101, 114, 32, 111, 116, 104, 101, 114, 32, 119, 101, 105, 103, 104, 116, 32, 97, 103, 101, 32, 102, 101, 100, 32, 115, 105, 122, 101, 32, 100, 97, 121, 32, 109, 111, 111, 100, 32, 100, 111, 110, 101, 32, 108, 97, 116, 101, 115, 116, 32, 104, 97, 114, 109, 115, 32, 115, 116, 97, 114, 118, 105, 110, 103, 32, 97, 116, 32]
def am_Z (A : Nat → Prop) (U : State) (H : Heap) : Prop := ∃ a b : Nat, vk_S 1 [145] [am_wd] (fun _ => a) (fun _ => b) A U H ∧ vk_R "BrokenBread$Reader" 107 "or and not if times to by counts feeds hungers bars harm feast pardon pass doer other weight age fed size day mood done latest harms starving at " a U ∧ va_Z "java/lang/String" "COMPACT_STRINGS" "Z" (.int 1) A U H ∧ va_Zq "jdk/internal/util/Preconditions" "SIOOBE_FORMATTER" "Ljava/util/function/BiFunction;" A U H
theorem am_Z.go {A B : Nat → Prop} {u U : State} {H H1 : Heap} (h : am_Z A u H) (hW : u.WarmedH U.vm) (hq : ∀ q : Nat, q < H.size → ¬ A q → H1[q]? = H[q]?) (hA : ∀ q, B q → A q) : am_Z B U H1 := by
  obtain ⟨a, b, h1, h2, h3, h4⟩ := h
  exact ⟨a, b, ((h1.moved hW.alike).kept hq).narrow hA, h2.warm hW, ((h3.moved hW.alike).kept hq).narrow hA, ((h4.moved hW.alike).kept hq).narrow hA⟩
def am_I (D : va_G) (ca : Nat → ClassId) (s : State) (A : Nat → Prop) (ad : Nat → Nat → Nat) (M : am_M) (H : Heap) (locs : List Loc) : Prop :=
  am_P D ca ad M H ∧ (∀ c n, n < M.2.2.2.2 c → c ≠ 19 → c ≠ 79 → A (ad c n)) ∧ va_S A s.heap H locs
def am_get : List (Option am_V) → Nat → Option am_V
  | [], _ => none
  | a :: _, 0 => a
  | _ :: l, n + 1 => am_get l n
def am_put : List (Option am_V) → Nat → Option am_V → List (Option am_V)
  | [], _, _ => []
  | _ :: l, 0, v => v :: l
  | a :: l, n + 1, v => a :: am_put l n v
def am_kill (L : List (Option am_V)) (i : Nat) : List (Option am_V) := match i with
  | 0 => L
  | j + 1 => match am_get L j with
    | some (.inr (.inl _)) => am_put L j none
    | _ => L
def am_set1 (L : List (Option am_V)) (i : Nat) (v : am_V) : List (Option am_V) := am_put (am_kill L i) i (some v)
def am_set2 (L : List (Option am_V)) (i : Nat) (v : am_V) : List (Option am_V) := am_put (am_put (am_kill L i) (i + 1) none) i (some v)
def am_L (ad : Nat → Nat → Nat) (L : List (Option am_V)) (ls : Array Slot) (nL : Nat) : Prop := ls.size = nL ∧ lv_wf ls ∧ ∀ i v, am_get L i = some v → ls[i]? = some (.val (am_cv ad v))
theorem am_get_put : ∀ (L : List (Option am_V)) (i j : Nat) (v : Option am_V) (w : am_V), am_get (am_put L i v) j = some w → (j = i ∧ v = some w) ∨ (j ≠ i ∧ am_get L j = some w)
  | [], i, j, v, w, h => by cases j <;> cases h
  | a :: l, 0, 0, v, w, h => Or.inl ⟨rfl, h⟩
  | a :: l, 0, j + 1, v, w, h => Or.inr ⟨by omega, h⟩
  | a :: l, i + 1, 0, v, w, h => Or.inr ⟨by omega, h⟩
  | a :: l, i + 1, j + 1, v, w, h => by
    rcases am_get_put l i j v w h with ⟨h1, h2⟩ | ⟨h1, h2⟩
    · exact Or.inl ⟨by omega, h2⟩
    · exact Or.inr ⟨by omega, h2⟩
theorem am_get_kill {L : List (Option am_V)} {i j : Nat} {w : am_V} (h : am_get (am_kill L i) j = some w) : am_get L j = some w ∧ ¬ (j + 1 = i ∧ ∃ x, w = .inr (.inl x)) := by
  cases i with
  | zero => exact ⟨h, fun q => by omega⟩
  | succ i =>
    have h : am_get (match am_get L i with
      | some (.inr (.inl _)) => am_put L i none
      | _ => L) j = some w := h
    cases hg : am_get L i with
    | none =>
      rw [hg] at h
      refine ⟨h, fun q => ?_⟩
      have e : j = i := by omega
      rw [e, hg] at h
      cases h
    | some u =>
      rw [hg] at h
      rcases u with x | (x | x)
      · refine ⟨h, fun q => ?_⟩
        have e : j = i := by omega
        obtain ⟨-, y, hy⟩ := q
        have h2 : am_get L j = some w := h
        rw [e, hg, hy] at h2
        cases h2
      · rcases am_get_put L i j none w h with ⟨h1, h2⟩ | ⟨h1, h2⟩
        · cases h2
        · exact ⟨h2, fun q => by omega⟩
      · refine ⟨h, fun q => ?_⟩
        have e : j = i := by omega
        obtain ⟨-, y, hy⟩ := q
        have h2 : am_get L j = some w := h
        rw [e, hg, hy] at h2
        cases h2
def am_lv (ad : Nat → Nat → Nat) (L : List (Option am_V)) : List (Nat × Value) := (List.range L.length).filterMap (fun i => (am_get L i).map (fun v => (i, am_cv ad v)))
theorem am_get_lt : ∀ (L : List (Option am_V)) (i : Nat) (v : am_V), am_get L i = some v → i < L.length
  | [], i, v, h => by cases i <;> cases h
  | a :: l, 0, v, h => by simp
  | a :: l, i + 1, v, h => by
    have := am_get_lt l i v h
    simp; omega
theorem am_lv_mem {ad : Nat → Nat → Nat} {L : List (Option am_V)} {i : Nat} {v : am_V} (h : am_get L i = some v) : (i, am_cv ad v) ∈ am_lv ad L :=
  List.mem_filterMap.mpr ⟨i, List.mem_range.mpr (am_get_lt L i v h), by rw [h]; rfl⟩
theorem am_L.has {ad : Nat → Nat → Nat} {L : List (Option am_V)} {ls : Array Slot} {nL : Nat} (h : am_L ad L ls nL) : lv_has ls nL (am_lv ad L) := by
  refine ⟨h.1, h.2.1, fun q hq => ?_⟩
  obtain ⟨i, -, hi⟩ := List.mem_filterMap.mp hq
  cases hg : am_get L i with
  | none => rw [hg] at hi; cases hi
  | some v =>
    rw [hg] at hi
    cases hi
    exact h.2.2 i v hg
def am_w1 : am_V → Nat
  | .inr (.inl _) => 2
  | _ => 1
theorem am_cat {ad : Nat → Nat → Nat} (v : am_V) : (am_cv ad v).category = am_w1 v := by
  rcases v with x | (x | (_ | x)) <;> rfl
theorem am_L.st1 {ad : Nat → Nat → Nat} {L : List (Option am_V)} {ls : Array Slot} {nL i : Nat} {v : am_V} (h : lv_has ls nL ((i, am_cv ad v) :: (am_lv ad L).filter (fun q => !(q.1 == i) && !(q.1 + 1 == i && q.2.category == 2)))) : am_L ad (am_set1 L i v) ls nL := by
  refine ⟨h.1, h.2.1, fun j w hj => ?_⟩
  rcases am_get_put _ _ _ _ _ hj with ⟨h1, h2⟩ | ⟨h1, h2⟩
  · cases h2
    rw [h1]
    exact h.2.2 _ List.mem_cons_self
  · obtain ⟨h3, h4⟩ := am_get_kill h2
    refine h.2.2 (j, am_cv ad w) (List.mem_cons_of_mem _ (List.mem_filter.mpr ⟨am_lv_mem h3, ?_⟩))
    rcases w with x | (x | (_ | x))
    · simp [am_cv, Value.category, h1]
    · have : ¬ j + 1 = i := fun q => h4 ⟨q, x, rfl⟩
      simp [h1, this]
    · simp [am_cv, Value.category, h1]
    · simp [am_cv, Value.category, h1]
theorem am_L.st2 {ad : Nat → Nat → Nat} {L : List (Option am_V)} {ls : Array Slot} {nL i : Nat} {v : am_V} (h : lv_has ls nL ((i, am_cv ad v) :: (am_lv ad L).filter (fun q => !(q.1 == i) && (!(q.1 == i + 1) && !(q.1 + 1 == i && q.2.category == 2))))) : am_L ad (am_set2 L i v) ls nL := by
  refine ⟨h.1, h.2.1, fun j w hj => ?_⟩
  rcases am_get_put _ _ _ _ _ hj with ⟨h1, h2⟩ | ⟨h1, h2⟩
  · cases h2
    rw [h1]
    exact h.2.2 _ List.mem_cons_self
  · rcases am_get_put _ _ _ _ _ h2 with ⟨h5, h6⟩ | ⟨h5, h6⟩
    · cases h6
    obtain ⟨h3, h4⟩ := am_get_kill h6
    refine h.2.2 (j, am_cv ad w) (List.mem_cons_of_mem _ (List.mem_filter.mpr ⟨am_lv_mem h3, ?_⟩))
    rcases w with x | (x | (_ | x))
    · simp [am_cv, Value.category, h1, h5]
    · have : ¬ j + 1 = i := fun q => h4 ⟨q, x, rfl⟩
      simp [h1, h5, this]
    · simp [am_cv, Value.category, h1, h5]
    · simp [am_cv, Value.category, h1, h5]
theorem am_cv_ext {ad ad' : Nat → Nat → Nat} {M : am_M} {v : am_V} (h : am_ok M v) (he : ∀ c n, n < M.2.2.2.2 c → ad' c n = ad c n) : am_cv ad' v = am_cv ad v := by
  rcases v with x | (x | (_ | ⟨c, n⟩))
  · rfl
  · rfl
  · rfl
  · show Value.ref (ad' c n) = Value.ref (ad c n)
    rw [he c n h]
theorem am_ok_mono {M M' : am_M} {v : am_V} (h : am_ok M v) (he : ∀ c, M.2.2.2.2 c ≤ M'.2.2.2.2 c) : am_ok M' v := by
  rcases v with x | (x | (_ | ⟨c, n⟩))
  · trivial
  · trivial
  · trivial
  · exact Nat.lt_of_lt_of_le h (he c)
/-- a state of the abstract machine stands for a frame and a heap -/
def am_J (D : va_G) (ca : Nat → ClassId) (s : State) (A : Nat → Prop) (ad : Nat → Nat → Nat) (H : Heap) (locs : List Loc) (ls : Array Slot) (nL : Nat) (L : List (Option am_V)) (st : List am_V) (M : am_M) : Prop :=
  am_I D ca s A ad M H locs ∧ am_L ad L ls nL ∧ (∀ v ∈ st, am_ok M v) ∧ ∀ i v, am_get L i = some v → am_ok M v
/-- what holds all through a method's run -/
def am_C (D : va_G) (ca : Nat → ClassId) (k : Nat) (p : Program) (R : Room) (s : State) (m : MethodId) (args : Array Value) (meth : Method) (c : Code) (A : Nat → Prop) : Prop :=
  p.tables.exec = Jvm.exec ∧ c.code = am_by k ∧ c.maxLocals = am_ml k ∧ s.vm.findClass (am_y k).cls = some m.cls ∧ (∀ w ∈ am_tbl, w.before args s = true) ∧ va_K D vwCl (am_tys ca) s ∧ (∀ q, s.heap.size ≤ q → A q) ∧ (6 ≤ R.frames ∧ 384 ≤ R.locals) ∧ ((am_y k).name = "<init>" → meth.name = "<init>") ∧ am_Z A s s.heap
/-- what may be returned by an instruction of a method that returns that type -/
def am_ro : Instr → Option FieldType → Option am_V → Prop
  | .ireturn, some .int, some (.inl _) => True
  | .ireturn, some .boolean, some (.inl x) => x = 0 ∨ x = 1
  | .lreturn, some .long, some (.inr (.inl _)) => True
  | .areturn, some (.object _), some (.inr (.inr _)) => True
  | .return_, none, none => True
  | _, _, _ => False
def am_fr (ad : Nat → Nat → Nat) (M : am_M) (sz : Nat) : Nat → Prop := fun q => (∃ c n, n < M.2.2.2.2 c ∧ c ≠ 19 ∧ c ≠ 79 ∧ q = ad c n) ∨ sz ≤ q
def am_Pc (D : va_G) (ca : Nat → ClassId) (ad : Nat → Nat → Nat) (sz : Nat) (as : List am_V) (M : am_M) : Array Value → State → Prop := fun v U =>
  v = (as.map (am_cv ad)).toArray ∧ am_P D ca ad M U.heap ∧ U.heap.size = sz ∧ va_K D vwCl (am_tys ca) U ∧ (∀ a ∈ as, am_ok M a) ∧ am_Z (am_fr ad M sz) U U.heap
def am_Qc (D : va_G) (ca : Nat → ClassId) (ad : Nat → Nat → Nat) (sz : Nat) (M : am_M) (r : Option am_V) (M' : am_M) : Array Value → State → Outcome → State → Prop := fun _ st oc t =>
  ∃ ad' : Nat → Nat → Nat, oc = .returned (r.map (am_cv ad')) ∧ (∀ c n, n < M.2.2.2.2 c → ad' c n = ad c n) ∧ (∀ c, M.2.2.2.2 c ≤ M'.2.2.2.2 c) ∧ am_P D ca ad' M' t.heap ∧ (∀ c n, n < M'.2.2.2.2 c → c ≠ 19 → c ≠ 79 → am_fr ad M sz (ad' c n)) ∧ (∀ v, r = some v → am_ok M' v) ∧ va_F (am_fr ad M sz) st t
def am_ws (k : Nat) : List Cond := .code (am_y k) (am_by k) (am_ml k) (am_rt k) :: am_tbl
def am_rm (d kc ks : Nat) : Room := { frames := d + 5, cells := kc, slots := ks, locals := 64 * (d + 5) }
def am_rm0 (d : Nat) : Room := { frames := d, cells := 0, slots := 0, locals := 64 * d }
/-- what was there is where it was; nothing went away -/
def am_B (ad : Nat → Nat → Nat) (M : am_M) (ad' : Nat → Nat → Nat) (M' : am_M) : Prop := (∀ c n, n < M.2.2.2.2 c → ad' c n = ad c n) ∧ ∀ c, M.2.2.2.2 c ≤ M'.2.2.2.2 c
theorem am_B.tr {a1 a2 a3 : Nat → Nat → Nat} {M1 M2 M3 : am_M} (h : am_B a1 M1 a2 M2) (g : am_B a2 M2 a3 M3) : am_B a1 M1 a3 M3 := ⟨fun c n hn => (g.1 c n (Nat.lt_of_lt_of_le hn (h.2 c))).trans (h.1 c n hn), fun c => Nat.le_trans (h.2 c) (g.2 c)⟩
/-- what is asked of an operation's outcome at an instruction -/
def am_post (D : va_G) (ca : Nat → ClassId) (k : Nat) (p : Program) (l : Launch) (e : Env) (R : Room) (s : State) (m : MethodId) (args : Array Value) (below : List Frame) (meth : Method) (c : Code) (A : Nat → Prop) (Q : State → Prop) (pc : Nat) (st : List am_V) (M : am_M) (ad : Nat → Nat → Nat) (H : Heap) (locs : List Loc) (ls : Array Slot) (cells slots : Nat) : am_R → Prop
  | .inl ((pc', L', st', M'), dc, ds) => cells + dc ≤ R.cells → slots + ds ≤ R.slots →
      (∀ ad' H' locs' ls', am_J D ca s A ad' H' locs' ls' (am_ml k) L' st' M' → am_B ad M ad' M' → W p l e R s m args below meth c H' locs' (cells + dc) (slots + ds) Q (F0 m pc' ls' (st'.map (am_cv ad')))) →
      W p l e R s m args below meth c H locs cells slots Q (F0 m pc ls (st.map (am_cv ad)))
  | .inr (.inl (r, M')) =>
      (∀ i : Instr, decode (am_by k) pc = .ok (i, 1) → am_ro i (am_rt k) r → am_J D ca s A ad H locs ls (am_ml k) [] r.toList M' → am_B ad M ad M' → W p l e R s m args below meth c H locs cells slots Q (F0 m pc ls (r.toList.map (am_cv ad)))) →
      W p l e R s m args below meth c H locs cells slots Q (F0 m pc ls (st.map (am_cv ad)))
  | .inr (.inr (.inl (k', as, M', pc', L', rest))) => ∀ (d : Nat) (r1 : Option am_V) (M1 : am_M) (k1 s1 : Nat),
      (∀ sz, Met l (am_y k') (am_ws k') (am_rm d k1 s1) (am_Pc D ca ad sz as M') (am_Qc D ca ad sz M' r1 M1) k1 s1 (am_fr ad M' sz)) → d + 6 ≤ R.frames → 64 * (d + 6) ≤ R.locals → cells + k1 ≤ R.cells → slots + s1 ≤ R.slots →
      (∀ ad' H' locs' ls', am_J D ca s A ad' H' locs' ls' (am_ml k) L' (r1.toList ++ rest) M1 → am_B ad M ad' M1 → W p l e R s m args below meth c H' locs' (cells + k1) (slots + s1) Q (F0 m pc' ls' ((r1.toList ++ rest).map (am_cv ad')))) →
      W p l e R s m args below meth c H locs cells slots Q (F0 m pc ls (st.map (am_cv ad)))
  | .inr (.inr (.inr _)) => True
/-- the operation f is sound for the instruction at pc of method k -/
def am_snd (k : Nat) (f : am_S → am_R) (pc : Nat) : Prop :=
  ∀ (D : va_G) (ca : Nat → ClassId) (p : Program) (l : Launch) (e : Env) (R : Room) (s : State) (m : MethodId) (args : Array Value) (below : List Frame) (meth : Method) (c : Code) (A : Nat → Prop) (Q : State → Prop), am_C D ca k p R s m args meth c A →
  ∀ (L : List (Option am_V)) (st : List am_V) (M : am_M) (ad : Nat → Nat → Nat) (H : Heap) (locs : List Loc) (ls : Array Slot) (cells slots : Nat), am_J D ca s A ad H locs ls (am_ml k) L st M →
  am_post D ca k p l e R s m args below meth c A Q pc st M ad H locs ls cells slots (f (pc, L, st, M))
