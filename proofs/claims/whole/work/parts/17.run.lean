/-! runs of the abstract machine, and the contract that a run gives -/
/-- L0 knows no more than L -/
def am_le : List (Option am_V) → List (Option am_V) → Prop
  | [], _ => True
  | none :: l, _ :: l' => am_le l l'
  | some v :: l, w :: l' => w = some v ∧ am_le l l'
  | none :: l, [] => am_le l []
  | some _ :: _, [] => False
theorem am_le_get : ∀ (L0 L : List (Option am_V)), am_le L0 L → ∀ (i : Nat) (v : am_V), am_get L0 i = some v → am_get L i = some v
  | [], _, _, i, v, h => by cases i <;> cases h
  | none :: l, _ :: l', hl, 0, v, h => by cases h
  | none :: l, _ :: l', hl, i + 1, v, h => am_le_get l l' hl i v h
  | some u :: l, w :: l', hl, 0, v, h => by
    cases h
    exact hl.1
  | some u :: l, w :: l', hl, i + 1, v, h => am_le_get l l' hl.2 i v h
  | none :: l, [], hl, 0, v, h => by cases h
  | none :: l, [], hl, i + 1, v, h => by
    have h2 := am_le_get l [] hl i v h
    cases i <;> cases h2
  | some _ :: _, [], hl, _, _, _ => hl.elim
theorem am_le_of : ∀ (L0 L : List (Option am_V)), (∀ (i : Nat) (v : am_V), am_get L0 i = some v → am_get L i = some v) → am_le L0 L
  | [], _, _ => trivial
  | none :: l, _ :: l', h => am_le_of l l' (fun i v hv => h (i + 1) v hv)
  | some u :: l, w :: l', h => ⟨h 0 u rfl, am_le_of l l' (fun i v hv => h (i + 1) v hv)⟩
  | none :: l, [], h => am_le_of l [] (fun i v hv => by have := h (i + 1) v hv; cases this)
  | some u :: l, [], h => by have := h 0 u rfl; cases this
theorem am_le_rf {L : List (Option am_V)} : am_le L L := am_le_of L L (fun _ _ h => h)
theorem am_le.tr {L0 L1 L2 : List (Option am_V)} (h : am_le L0 L1) (g : am_le L1 L2) : am_le L0 L2 := am_le_of _ _ (fun i v hv => am_le_get _ _ g i v (am_le_get _ _ h i v hv))
section RUN
variable (cod : Nat → Nat → am_S → am_R)
/-- n steps at most of method k from S: it returns r and memory M', having made kc cells of ks slots; calls are told by C -/
def am_Rn (C : Nat → List am_V → am_M → Option am_V → am_M → Nat → Nat → Prop) (k : Nat) : Nat → am_S → Option am_V → am_M → Nat → Nat → Prop
  | 0, _, _, _, _, _ => False
  | n + 1, S, r, M', kc, ks => ∃ L0, am_le L0 S.2.1 ∧ match cod k S.1 (S.1, L0, S.2.2.1, S.2.2.2) with
    | .inl (S', dc, ds) => ∃ kc' ks', kc = dc + kc' ∧ ks = ds + ks' ∧ am_Rn C k n S' r M' kc' ks'
    | .inr (.inl (r0, M0)) => r = r0 ∧ M' = M0 ∧ kc = 0 ∧ ks = 0
    | .inr (.inr (.inl (k', as, M, pc', L', rest))) => ∃ r1 M1 k1 s1 kc' ks', C k' as M r1 M1 k1 s1 ∧ kc = k1 + kc' ∧ ks = s1 + ks' ∧ am_Rn C k n (pc', L', r1.toList ++ rest, M1) r M' kc' ks'
    | .inr (.inr (.inr _)) => False
def am_lay : List am_V → List (Option am_V)
  | [] => []
  | .inr (.inl x) :: r => some (.inr (.inl x)) :: none :: am_lay r
  | v :: r => some v :: am_lay r
def am_loc (k : Nat) (as : List am_V) : List (Option am_V) := am_lay as ++ List.replicate (am_ml k - am_wt as) none
/-- method k, called with as over M, returns r over M', calls d deep at most -/
def am_Ex : Nat → Nat → List am_V → am_M → Option am_V → am_M → Nat → Nat → Prop
  | 0 => fun _ _ _ _ _ _ _ => False
  | d + 1 => fun k as M r M' kc ks => am_wt as ≤ am_ml k ∧ ∃ n, am_Rn cod (am_Ex d) k n (0, am_loc k as, [], M) r M' kc ks
end RUN
theorem am_lay_get (ad : Nat → Nat → Nat) (pad : List (Option am_V)) (hpad : ∀ i, am_get pad i = none) : ∀ (as : List am_V) (off i : Nat) (v : am_V), am_get (am_lay as ++ pad) i = some v → (off + i, am_cv ad v) ∈ lv_args off (as.map (am_cv ad)) ∧ v ∈ as
  | [], off, i, v, h => by
    have h : am_get pad i = some v := h
    rw [hpad] at h
    cases h
  | .inr (.inl x) :: r, off, 0, v, h => by
    cases h
    exact ⟨List.mem_cons_self, List.mem_cons_self⟩
  | .inr (.inl x) :: r, off, 1, v, h => by cases h
  | .inr (.inl x) :: r, off, i + 2, v, h => by
    obtain ⟨h1, h2⟩ := am_lay_get ad pad hpad r (off + 2) i v h
    refine ⟨List.mem_cons_of_mem _ ?_, List.mem_cons_of_mem _ h2⟩
    rw [show off + (i + 2) = off + 2 + i by omega]
    exact h1
  | .inl x :: r, off, 0, v, h => by
    cases h
    exact ⟨List.mem_cons_self, List.mem_cons_self⟩
  | .inl x :: r, off, i + 1, v, h => by
    obtain ⟨h1, h2⟩ := am_lay_get ad pad hpad r (off + 1) i v h
    refine ⟨List.mem_cons_of_mem _ ?_, List.mem_cons_of_mem _ h2⟩
    rw [show off + (i + 1) = off + 1 + i by omega]
    exact h1
  | .inr (.inr none) :: r, off, 0, v, h => by
    cases h
    exact ⟨List.mem_cons_self, List.mem_cons_self⟩
  | .inr (.inr none) :: r, off, i + 1, v, h => by
    obtain ⟨h1, h2⟩ := am_lay_get ad pad hpad r (off + 1) i v h
    refine ⟨List.mem_cons_of_mem _ ?_, List.mem_cons_of_mem _ h2⟩
    rw [show off + (i + 1) = off + 1 + i by omega]
    exact h1
  | .inr (.inr (some x)) :: r, off, 0, v, h => by
    cases h
    exact ⟨List.mem_cons_self, List.mem_cons_self⟩
  | .inr (.inr (some x)) :: r, off, i + 1, v, h => by
    obtain ⟨h1, h2⟩ := am_lay_get ad pad hpad r (off + 1) i v h
    refine ⟨List.mem_cons_of_mem _ ?_, List.mem_cons_of_mem _ h2⟩
    rw [show off + (i + 1) = off + 1 + i by omega]
    exact h1
theorem am_pad_get : ∀ (n i : Nat), am_get (List.replicate n none) i = none
  | 0, i => by cases i <;> rfl
  | n + 1, 0 => rfl
  | n + 1, i + 1 => am_pad_get n i
theorem am_sl_len {ad : Nat → Nat → Nat} : ∀ (as : List am_V), (lg_sl (as.map (am_cv ad))).length = am_wt as
  | [] => rfl
  | v :: r => by
    have ih := am_sl_len (ad := ad) r
    unfold lg_sl at ih ⊢
    rw [List.map_cons, List.flatMap_cons, List.length_append, ih]
    rcases v with x | (x | (_ | x)) <;> rfl
/-- the walk: from a state for which a run is told, to the return -/
theorem am_main {cod : Nat → Nat → am_S → am_R} (hcod : ∀ k pc, am_snd k (cod k pc) pc) {C : Nat → List am_V → am_M → Option am_V → am_M → Nat → Nat → Prop} {D : va_G} {ca : Nat → ClassId} {l : Launch} {d : Nat} (hCC : ∀ k' as M r1 M1 k1 s1, C k' as M r1 M1 k1 s1 → ∀ ad sz, Met l (am_y k') (am_ws k') (am_rm d k1 s1) (am_Pc D ca ad sz as M) (am_Qc D ca ad sz M r1 M1) k1 s1 (am_fr ad M sz))
    {k : Nat} {p : Program} {e : Env} {R : Room} {s : State} {m : MethodId} {args : Array Value} {below : List Frame} {meth : Method} {c : Code} {A : Nat → Prop} {Q : State → Prop} (hC : am_C D ca k p R s m args meth c A) (hf : d + 6 ≤ R.frames) (hlo : 64 * (d + 6) ≤ R.locals) {ad0 : Nat → Nat → Nat} {M0 : am_M} {kT sT : Nat} (hkT : kT ≤ R.cells) (hsT : sT ≤ R.slots) {r : Option am_V} {M' : am_M}
    (hq : ∀ (ad : Nat → Nat → Nat) (H : Heap) (locs : List Loc) (ls : Array Slot) (pc : Nat) (i : Instr), decode (am_by k) pc = .ok (i, 1) → am_ro i (am_rt k) r → am_J D ca s A ad H locs ls (am_ml k) [] r.toList M' → am_B ad0 M0 ad M' → W p l e R s m args below meth c H locs kT sT Q (F0 m pc ls (r.toList.map (am_cv ad)))) :
    ∀ (n : Nat) (pc : Nat) (L : List (Option am_V)) (st : List am_V) (M : am_M) (kc ks : Nat), am_Rn cod C k n (pc, L, st, M) r M' kc ks → ∀ (ad : Nat → Nat → Nat) (H : Heap) (locs : List Loc) (ls : Array Slot) (cells slots : Nat), am_J D ca s A ad H locs ls (am_ml k) L st M → am_B ad0 M0 ad M → cells + kc = kT → slots + ks = sT → W p l e R s m args below meth c H locs cells slots Q (F0 m pc ls (st.map (am_cv ad))) := by
  intro n
  induction n with
  | zero => intro pc L st M kc ks h; exact h.elim
  | succ n ih =>
    intro pc L st M kc ks h ad H locs ls cells slots hJ hB h1 h2
    obtain ⟨L0, hle, h⟩ := h
    have hJ : am_J D ca s A ad H locs ls (am_ml k) L0 st M := ⟨hJ.1, ⟨hJ.2.1.1, hJ.2.1.2.1, fun i v hv => hJ.2.1.2.2 i v (am_le_get _ _ hle i v hv)⟩, hJ.2.2.1, fun i v hv => hJ.2.2.2 i v (am_le_get _ _ hle i v hv)⟩
    have hs := hcod k pc D ca p l e R s m args below meth c A Q hC L0 st M ad H locs ls cells slots hJ
    have h : (match cod k pc (pc, L0, st, M) with
      | .inl (S', dc, ds) => ∃ kc' ks', kc = dc + kc' ∧ ks = ds + ks' ∧ am_Rn cod C k n S' r M' kc' ks'
      | .inr (.inl (r0, M0)) => r = r0 ∧ M' = M0 ∧ kc = 0 ∧ ks = 0
      | .inr (.inr (.inl (k', as, M, pc', L', rest))) => ∃ r1 M1 k1 s1 kc' ks', C k' as M r1 M1 k1 s1 ∧ kc = k1 + kc' ∧ ks = s1 + ks' ∧ am_Rn cod C k n (pc', L', r1.toList ++ rest, M1) r M' kc' ks'
      | .inr (.inr (.inr _)) => False) := h
    generalize cod k pc (pc, L0, st, M) = res at h hs
    rcases res with ⟨⟨pc', L', st', M2⟩, dc, ds⟩ | ⟨r0, M0⟩ | ⟨k', as, M2, pc', L', rest⟩ | u
    · obtain ⟨kc', ks', e1, e2, h3⟩ := h
      refine hs (by omega) (by omega) (fun ad' H' locs' ls' hJ' hB' => ?_)
      exact ih pc' L' st' M2 kc' ks' h3 ad' H' locs' ls' (cells + dc) (slots + ds) hJ' (hB.tr hB') (by omega) (by omega)
    · obtain ⟨rfl, rfl, rfl, rfl⟩ := h
      have e1 : cells = kT := by omega
      have e2 : slots = sT := by omega
      subst e1; subst e2
      exact hs (fun i hd hro hJ' hB' => hq ad H locs ls pc i hd hro hJ' (hB.tr hB'))
    · obtain ⟨r1, M1, k1, s1, kc', ks', hc, e1, e2, h3⟩ := h
      refine hs d r1 M1 k1 s1 (fun sz => hCC k' as M2 r1 M1 k1 s1 hc ad sz) hf hlo (by omega) (by omega) (fun ad' H' locs' ls' hJ' hB' => ?_)
      exact ih pc' L' _ M1 kc' ks' h3 ad' H' locs' ls' (cells + k1) (slots + s1) hJ' (hB.tr hB') (by omega) (by omega)
    · exact h.elim
theorem am_Ex_met {cod : Nat → Nat → am_S → am_R} (hcod : ∀ k pc, am_snd k (cod k pc) pc) (D : va_G) (ca : Nat → ClassId) (l : Launch) : ∀ (d k : Nat) (as : List am_V) (M : am_M) (r : Option am_V) (M' : am_M) (kc ks : Nat), am_Ex cod d k as M r M' kc ks → ∀ (ad : Nat → Nat → Nat) (sz : Nat), Met l (am_y k) (am_ws k) (am_rm d kc ks) (am_Pc D ca ad sz as M) (am_Qc D ca ad sz M r M') kc ks (am_fr ad M sz) := by
  intro d
  induction d with
  | zero => intro k as M r M' kc ks h; exact h.elim
  | succ d ihd =>
    intro k as M r M' kc ks ⟨hw, n, hrun⟩ ad sz
    refine va_MetF (cc := am_by k) (maxL := am_ml k) (ret := am_rt k) (am_plain k) rfl ?_
    intro p e s m args below meth c s₁ B hml hv
    obtain ⟨rfl, hP, hsz, hK, hok, hZ⟩ := hv
    have hts := atoms_spec (ws := am_ws k) B.pre
    have hlocks := B.notSynchronized
    subst hsz
    have hA : ∀ q, s.heap.size ≤ q → am_fr ad M s.heap.size q := fun q h => Or.inr h
    have hC : am_C D ca k p (am_rm (d + 1) kc ks) s m (as.map (am_cv ad)).toArray meth c (am_fr ad M s.heap.size) :=
      ⟨B.exec, B.bytes, hml, findClass_of_methodNamed B.named, fun w hw => hts w (List.mem_cons_of_mem _ hw), hK, hA, ⟨by show 6 ≤ d + 1 + 5; omega, by show 384 ≤ 64 * (d + 1 + 5); omega⟩, fun hi => by rw [(name_of_methodNamed B.named B.method).1]; exact hi, hZ⟩
    have hr : meth.sig.returnType = am_rt k := B.returns
    have hl := lv_entry (as.map (am_cv ad)) (n := am_ml k) (by rw [am_sl_len]; exact hw)
    rw [lg_entry_eq]
    generalize (lg_sl (as.map (am_cv ad)) ++ List.replicate (am_ml k - (lg_sl (as.map (am_cv ad))).length) Slot.unset).toArray = ls at hl ⊢
    have hg : ∀ i v, am_get (am_loc k as) i = some v → (0 + i, am_cv ad v) ∈ lv_args 0 (as.map (am_cv ad)) ∧ v ∈ as := fun i v h => am_lay_get ad _ (fun i => am_pad_get _ i) as 0 i v h
    have hJ : am_J D ca s (am_fr ad M s.heap.size) ad s.heap [] ls (am_ml k) (am_loc k as) [] M := by
      refine ⟨⟨hP, fun c n h1 h2 h3 => Or.inl ⟨c, n, h1, h2, h3, rfl⟩, va_S.rf⟩, ⟨hl.1, hl.2.1, fun i v h => ?_⟩, fun v h => absurd h List.not_mem_nil, fun i v h => hok v (hg i v h).2⟩
      have h2 := hl.2.2 _ (hg i v h).1
      rw [Nat.zero_add] at h2
      exact h2
    refine am_main hcod (fun k' as M r1 M1 k1 s1 h ad sz => ihd k' as M r1 M1 k1 s1 h ad sz) hC (by show d + 6 ≤ d + 1 + 5; omega) (by show 64 * (d + 6) ≤ 64 * (d + 1 + 5); omega) (ad0 := ad) (M0 := M) (kT := kc) (sT := ks) (Nat.le_refl _) (Nat.le_refl _) (r := r) (M' := M') ?_ n 0 (am_loc k as) [] M kc ks hrun ad s.heap [] ls 0 0 hJ ⟨fun _ _ _ => rfl, fun _ => Nat.le_refl _⟩ (Nat.zero_add _) (Nat.zero_add _)
    intro ad' H' locs' ls' pc i hd hro hJ' hB'
    have hQ : ∀ (v : Option Value), v = r.map (am_cv ad') → ∀ t : State, t.heap = H' → s.WarmedH t.vm → am_Qc D ca ad s.heap.size M r M' (as.map (am_cv ad)).toArray s (.returned v) t := fun v hv t ht _ =>
      ⟨ad', by rw [hv], hB'.1, hB'.2, by rw [ht]; exact hJ'.1.1, fun c n h1 h2 h3 => hJ'.1.2.1 c n h1 h2 h3, fun v h => hJ'.2.2.1 v (by rw [h]; exact List.mem_cons_self), hJ'.1.2.2.F ht⟩
    rcases r with _ | x | (x | x)
    · generalize am_rt k = ty at hro hr
      cases i <;> first | exact hro.elim | (rcases ty with _ | ty <;> first | exact hro.elim | exact W.vret B.exec B.bytes hr (hQ none rfl) hJ'.1.2.2.2.2 hd | (cases ty <;> exact hro.elim))
    · generalize am_rt k = ty at hro hr
      cases i <;> first | exact hro.elim | (rcases ty with _ | ty <;> first | exact hro.elim | (cases ty <;> first | exact hro.elim | exact W.iret B.exec B.bytes hr (hQ _ rfl) hJ'.1.2.2.2.2 hd | exact W.zret B.exec B.bytes hr (am_nz hro) (hQ _ rfl) hJ'.1.2.2.2.2 hd))
    · generalize am_rt k = ty at hro hr
      cases i <;> first | exact hro.elim | (rcases ty with _ | ty <;> first | exact hro.elim | (cases ty <;> first | exact hro.elim | exact W.lret B.exec B.bytes hr (hQ _ rfl) hJ'.1.2.2.2.2 hd))
    · generalize am_rt k = ty at hro hr
      cases i <;> first | exact hro.elim | (rcases ty with _ | ty <;> first | exact hro.elim | (cases ty <;> first | exact hro.elim | exact W.aret B.exec B.bytes hr (Or.inl ⟨_, rfl⟩) (by cases x <;> first | exact Or.inl rfl | exact Or.inr ⟨_, rfl⟩) (hQ _ rfl) hJ'.1.2.2.2.2 hd))
