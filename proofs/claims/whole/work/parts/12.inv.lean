/-! calls: operations and soundness -/
def am_pop : Nat → List am_V → List am_V → Option (List am_V × List am_V)
  | 0, st, acc => some (acc, st)
  | n + 1, v :: st, acc => am_pop n st (v :: acc)
  | _ + 1, [], _ => none
theorem am_pop_spec : ∀ (n : Nat) (st acc as rest : List am_V), am_pop n st acc = some (as, rest) → as.reverse ++ rest = acc.reverse ++ st ∧ as.length = n + acc.length
  | 0, st, acc, as, rest, h => by cases h; exact ⟨rfl, by omega⟩
  | n + 1, v :: st, acc, as, rest, h => by
    obtain ⟨h1, h2⟩ := am_pop_spec n st (v :: acc) as rest h
    refine ⟨by rw [h1, List.reverse_cons, List.append_assoc]; rfl, ?_⟩
    rw [h2, List.length_cons]
    omega
  | n + 1, [], acc, as, rest, h => by cases h
/-- a static call of method k' with n arguments -/
def am_o_cs (k' n : Nat) : am_S → am_R
  | (pc, L, st, M) => match am_pop n st [] with
    | some (as, rest) => if am_wt rest ≤ 8 then .inr (.inr (.inl (k', as, M, pc + 3, L, rest))) else am_no
    | none => am_no
/-- a call of method k' with n arguments behind the object, of sort c -/
def am_o_cv (k' n c : Nat) : am_S → am_R
  | (pc, L, st, M) => match am_pop (n + 1) st [] with
    | some (.inr (.inr (some (c', j))) :: as, rest) => if c' = c then (if am_wt rest ≤ 8 then .inr (.inr (.inl (k', .inr (.inr (some (c', j))) :: as, M, pc + 3, L, rest))) else am_no) else am_no
    | _ => am_no
/-- what is known of a method by the tables -/
def am_K (k n : Nat) : Prop := Cond.code (am_y k) (am_by k) (am_ml k) (am_rt k) ∈ am_tbl ∧ Cond.initialized (am_y k).cls ∈ am_tbl ∧ ((am_y k).cls ≠ "java/lang/invoke/MethodHandle" ∧ (am_y k).cls ≠ "java/lang/invoke/VarHandle") ∧ (parseMethodDescriptor (am_y k).desc).map (fun d => d.parameters.length) = some n ∧ am_ml k ≤ 45
theorem am_fr_A {D : va_G} {ca : Nat → ClassId} {s : State} {A : Nat → Prop} {ad : Nat → Nat → Nat} {M : am_M} {H : Heap} {locs : List Loc} (h : am_I D ca s A ad M H locs) (hA : ∀ q, s.heap.size ≤ q → A q) : ∀ q, am_fr ad M H.size q → A q := fun q hq => by
  rcases hq with ⟨c, n, h1, h2, h3, rfl⟩ | hq
  · exact h.2.1 c n h1 h2 h3
  · exact hA q (Nat.le_trans h.2.2.1 hq)
section INV
variable {k pc : Nat}
theorem am_callW {D : va_G} {ca : Nat → ClassId} {p : Program} {l : Launch} {e : Env} {R : Room} {s : State} {m : MethodId} {args : Array Value} {below : List Frame} {meth : Method} {c : Code} {A : Nat → Prop} {Q : State → Prop} {L : List (Option am_V)} {st rest : List am_V} {M M1 : am_M} {ad : Nat → Nat → Nat} {H : Heap} {locs : List Loc} {ls : Array Slot} {cells slots k1 s1 : Nat} {r1 : Option am_V} {av : Array Value} (hC : am_C D ca k p R s m args meth c A) (hJ : am_J D ca s A ad H locs ls (am_ml k) L st M) (hr : ∀ v ∈ rest, v ∈ st)
    (hrun : va_Run p l e R s m args below meth c H locs cells slots k1 s1 (F0 m pc ls (st.map (am_cv ad))) (rest.map (am_cv ad)) (am_Qc D ca ad H.size M r1 M1 av) (am_fr ad M H.size))
    (kk : ∀ ad' H' locs' ls', am_J D ca s A ad' H' locs' ls' (am_ml k) L (r1.toList ++ rest) M1 → am_B ad M ad' M1 → W p l e R s m args below meth c H' locs' (cells + k1) (slots + s1) Q (F0 m (pc + 3) ls' ((r1.toList ++ rest).map (am_cv ad')))) :
    W p l e R s m args below meth c H locs cells slots Q (F0 m pc ls (st.map (am_cv ad))) := by
  intro T hT X
  obtain ⟨v, st₀, t, T', Lx, h0, X', hL, e1, e2, ⟨ad', q1, q2, q3, q4, q5, q6, q7⟩, go⟩ := hrun T hT X
  have hfA := am_fr_A hJ.1 hC.2.2.2.2.2.2.1
  have hv : v = r1.map (am_cv ad') := Outcome.returned.inj q1
  have hok : ∀ w, am_ok M w → am_ok M1 w := fun w hw => am_ok_mono hw q3
  have hS : va_S A s.heap T'.heap (locs ++ Lx) := by
    rw [e1]
    obtain ⟨z1, z2⟩ := q7
    rw [h0] at z1 z2
    refine ⟨Nat.le_trans hJ.1.2.2.1 z1, fun q g1 g2 => ?_, fun q hq => ?_⟩
    · rw [z2 q (Nat.lt_of_lt_of_le g1 hJ.1.2.2.1) (fun z => g2 (hfA q z))]
      exact hJ.1.2.2.2.1 q g1 g2
    · rcases List.mem_append.mp hq with h | h
      · exact hJ.1.2.2.2.2 q h
      · exact hfA _ (hL q h)
  have hJ' : am_J D ca s A ad' T'.heap (locs ++ Lx) ls (am_ml k) L (r1.toList ++ rest) M1 := by
    refine ⟨⟨by rw [e1]; exact q4, fun c n g1 g2 g3 => hfA _ (q5 c n g1 g2 g3), hS⟩, ⟨hJ.2.1.1, hJ.2.1.2.1, fun i w hw => ?_⟩, fun w hw => ?_, fun i w hw => hok w (hJ.2.2.2 i w hw)⟩
    · rw [am_cv_ext (hJ.2.2.2 i w hw) q2]
      exact hJ.2.1.2.2 i w hw
    · rcases List.mem_append.mp hw with h | h
      · exact q6 w (Option.mem_toList.mp h)
      · exact hok w (hJ.2.2.1 w (hr w h))
  obtain ⟨t2, a1, b1⟩ := kk ad' T'.heap (locs ++ Lx) ls hJ' ⟨q2, q3⟩ T' rfl X'
  have hm : (r1.toList ++ rest).map (am_cv ad') = v.toList ++ rest.map (am_cv ad) := by
    rw [List.map_append, hv]
    have h1 : rest.map (am_cv ad') = rest.map (am_cv ad) := List.map_congr_left (fun w hw => am_cv_ext (hJ.2.2.1 w (hr w hw)) q2)
    rw [h1]
    cases r1 <;> rfl
  rw [hm] at a1
  exact ⟨t2, go t2 a1, b1⟩
theorem am_blind {D : va_G} {ca : Nat → ClassId} {ad : Nat → Nat → Nat} {sz : Nat} {as : List am_V} {M : am_M} : FrameBlind (am_Pc D ca ad sz as M) := fun a U g mk q => by
  obtain ⟨q0, q1, q2, q3, q4, q5⟩ := q
  exact ⟨q0, q1, q2, va_K.moved (u := U) (U := U.calling g mk a) (Vm.Alike.refl U.vm) q3, q4, q5.go (U := U.calling g mk a) (State.WarmedH.refl U) (fun _ _ _ => rfl) (fun _ h => h)⟩
theorem am_pre {D : va_G} {ca : Nat → ClassId} {p : Program} {R : Room} {s : State} {m : MethodId} {args : Array Value} {meth : Method} {c : Code} {A : Nat → Prop} {L : List (Option am_V)} {st as : List am_V} {M : am_M} {ad : Nat → Nat → Nat} {H : Heap} {locs : List Loc} {ls : Array Slot} (hC : am_C D ca k p R s m args meth c A) (hJ : am_J D ca s A ad H locs ls (am_ml k) L st M) (ha : ∀ v ∈ as, v ∈ st) : PreS s H (am_Pc D ca ad H.size as M) (as.map (am_cv ad)) :=
  ⟨am_blind, fun U hU hW => ⟨rfl, by rw [hU]; exact hJ.1.1, by rw [hU], va_K.moved hW.alike hC.2.2.2.2.2.1, fun a h => hJ.2.2.1 a (ha a h), hC.2.2.2.2.2.2.2.2.2.go hW (fun q g1 g2 => by rw [hU]; exact hJ.1.2.2.2.1 q g1 g2) (am_fr_A hJ.1 hC.2.2.2.2.2.2.1)⟩⟩
theorem am_rml {z d L : Nat} (h : z ≤ 45) (g : 64 * (d + 6) ≤ L) : 8 + (z + 11) + 64 * (d + 5) ≤ L := by
  rw [show 64 * (d + 6) = 64 * (d + 5) + 64 from Nat.mul_succ 64 (d + 5)] at g
  generalize 64 * (d + 5) = w at g ⊢
  omega
theorem am_cb {p : Program} {R : Room} {D : va_G} {ca : Nat → ClassId} {s : State} {m : MethodId} {args : Array Value} {meth : Method} {c : Code} {A : Nat → Prop} {i k' n d k1 s1 : Nat} (hC : am_C D ca k p R s m args meth c A) (hk : am_K k' n) (hl : Cond.methodLink (am_y k).cls i (am_y k') ∈ am_tbl) (g1 : d + 6 ≤ R.frames) (g2 : 64 * (d + 6) ≤ R.locals) : CallB R s args (am_y k).cls i (am_y k') (am_by k') (am_ml k') (am_rt k') (am_ws k') (am_rm d k1 s1) k1 s1 n := by
  have hts := hC.2.2.2.2.1
  refine ⟨rfl, rfl, g1, ?_, fun w hw a' U hW => ?_, List.mem_cons_self, hts _ hk.1, hts _ hk.2.1, hk.2.2.1, fun sig h => ?_, hts _ hl⟩
  · show 8 + (am_ml k' + 11) + 64 * (d + 5) ≤ R.locals
    have h45 := hk.2.2.2.2
    exact am_rml h45 g2
  · rcases List.mem_cons.mp hw with h | h
    · rw [h]; exact am_words hts _ hk.1 a' U hW
    · exact am_words hts w h a' U hW
  · have h2 := hk.2.2.2.1
    rw [h] at h2
    exact (Option.some.inj h2).symm
theorem am_s_cs {k' n i : Nat} (hd : decode (am_by k) pc = .ok (.invokestatic i, 3)) (hk : am_K k' n) (hl : Cond.methodLink (am_y k).cls i (am_y k') ∈ am_tbl) (hst : Cond.static (am_y k') ∈ am_tbl) : am_snd k (am_o_cs k' n) pc := by
  intro D ca p l e R s m args below meth c A Q hC L st M ad H locs ls cells slots hJ
  show am_post D ca k p l e R s m args below meth c A Q pc st M ad H locs ls cells slots (match am_pop n st [] with
    | some (as, rest) => if am_wt rest ≤ 8 then .inr (.inr (.inl (k', as, M, pc + 3, L, rest))) else am_no
    | none => am_no)
  cases hp : am_pop n st [] with
  | none => trivial
  | some q =>
    obtain ⟨as, rest⟩ := q
    obtain ⟨hs, hlen⟩ := am_pop_spec _ _ _ _ _ hp
    by_cases hw : am_wt rest ≤ 8
    · show am_post D ca k p l e R s m args below meth c A Q pc st M ad H locs ls cells slots (if am_wt rest ≤ 8 then .inr (.inr (.inl (k', as, M, pc + 3, L, rest))) else am_no)
      rw [if_pos hw]
      have hs : as.reverse ++ rest = st := hs
      have hr : ∀ v ∈ rest, v ∈ st := fun v h => by rw [← hs]; exact List.mem_append_right _ h
      have ha : ∀ v ∈ as, v ∈ st := fun v h => by rw [← hs]; exact List.mem_append_left _ (List.mem_reverse.mpr h)
      refine fun d r1 M1 k1 s1 hM g1 g2 g3 g4 kk => am_callW hC hJ hr (va_runS (As := as.map (am_cv ad)) ⟨hC.1, hC.2.1, hC.2.2.1, hC.2.2.2.1, hC.2.2.2.2.1⟩ (hM H.size) ⟨am_cb hC hk hl g1 g2, hC.2.2.2.2.1 _ hst⟩ (am_pre hC hJ ha) rfl (by rw [List.length_map, hlen]; rfl) hJ.2.1.1 (by show st.map (am_cv ad) = _; rw [← hs, List.map_append, List.map_reverse]) (by rw [am_wt_sum]; show 2 * 0 + _ ≤ 8; omega) hd ⟨g3, g4⟩) kk
    · show am_post D ca k p l e R s m args below meth c A Q pc st M ad H locs ls cells slots (if am_wt rest ≤ 8 then .inr (.inr (.inl (k', as, M, pc + 3, L, rest))) else am_no)
      rw [if_neg hw]
      trivial
theorem am_s_cv {k' n i c0 : Nat} {C : String} {T : u_T} {N : Nat} (hd : decode (am_by k) pc = .ok (.invokevirtual i, 3)) (hk : am_K k' n) (hl : Cond.methodLink (am_y k).cls i (am_y k') ∈ am_tbl) (hin : Cond.instanceMethod (am_y k') ∈ am_tbl) (hse : Cond.selects C (am_y k') (am_y k') ∈ am_tbl) (h18 : c0 < 18) (hcl : vwCl[c0]? = some (C, T, N)) : am_snd k (am_o_cv k' n c0) pc := by
  intro D ca p l e R s m args below meth c A Q hC L st M ad H locs ls cells slots hJ
  show am_post D ca k p l e R s m args below meth c A Q pc st M ad H locs ls cells slots (match am_pop (n + 1) st [] with
    | some (.inr (.inr (some (c', j))) :: as, rest) => if c' = c0 then (if am_wt rest ≤ 8 then .inr (.inr (.inl (k', .inr (.inr (some (c', j))) :: as, M, pc + 3, L, rest))) else am_no) else am_no
    | _ => am_no)
  cases hp : am_pop (n + 1) st [] with
  | none => trivial
  | some q =>
    obtain ⟨as, rest⟩ := q
    obtain ⟨hs, hlen⟩ := am_pop_spec _ _ _ _ _ hp
    rcases as with _ | ⟨x | (x | (_ | ⟨c', j⟩)), as⟩ <;> try trivial
    show am_post D ca k p l e R s m args below meth c A Q pc st M ad H locs ls cells slots (if c' = c0 then (if am_wt rest ≤ 8 then .inr (.inr (.inl (k', .inr (.inr (some (c', j))) :: as, M, pc + 3, L, rest))) else am_no) else am_no)
    by_cases hcc : c' = c0
    · rw [if_pos hcc]
      subst hcc
      by_cases hw : am_wt rest ≤ 8
      · rw [if_pos hw]
        have hs : (.inr (.inr (some (c', j))) :: as : List am_V).reverse ++ rest = st := hs
        have hr : ∀ v ∈ rest, v ∈ st := fun v h => by rw [← hs]; exact List.mem_append_right _ h
        have ha : ∀ v ∈ (.inr (.inr (some (c', j))) :: as : List am_V), v ∈ st := fun v h => by rw [← hs]; exact List.mem_append_left _ (List.mem_reverse.mpr h)
        have hn : j < M.2.2.2.2 c' := hJ.2.2.1 _ (ha _ List.mem_cons_self)
        have hv := hJ.1.1.1 c' j hn (by omega)
        rw [am_en_o h18] at hv
        refine fun d r1 M1 k1 s1 hM g1 g2 g3 g4 kk => am_callW hC hJ hr (va_runV (b := ad c' j) (As := as.map (am_cv ad)) ⟨hC.1, hC.2.1, hC.2.2.1, hC.2.2.2.1, hC.2.2.2.2.1⟩ (hM H.size) ⟨am_cb hC hk hl g1 g2, hC.2.2.2.2.1 _ hin, hC.2.2.2.2.1 _ hse⟩ ⟨am_blind, va_recv hC.2.2.2.2.2.1 (am_one hv) hcl (q0 := 0) rfl, (am_pre hC hJ ha).2⟩ rfl (by rw [List.length_map]; have h9 : as.length + 1 = n + 1 + 0 := hlen; omega) hJ.2.1.1 (by show st.map (am_cv ad) = _; rw [← hs, List.reverse_cons, List.append_assoc, List.map_append, List.map_reverse]; rfl) (by rw [am_wt_sum]; show 2 * 0 + _ ≤ 8; omega) hd ⟨g3, g4⟩) kk
      · rw [if_neg hw]; trivial
    · rw [if_neg hcc]; trivial
theorem am_s_ci {k' n i c0 : Nat} (hd : decode (am_by k) pc = .ok (.invokespecial i, 3)) (hk : am_K k' n) (hl : Cond.methodLink (am_y k).cls i (am_y k') ∈ am_tbl) (hin : Cond.instanceMethod (am_y k') ∈ am_tbl) (hy1 : (am_y k').name = "<init>") (hrt : am_rt k' = none) : am_snd k (am_o_cv k' n c0) pc := by
  intro D ca p l e R s m args below meth c A Q hC L st M ad H locs ls cells slots hJ
  show am_post D ca k p l e R s m args below meth c A Q pc st M ad H locs ls cells slots (match am_pop (n + 1) st [] with
    | some (.inr (.inr (some (c', j))) :: as, rest) => if c' = c0 then (if am_wt rest ≤ 8 then .inr (.inr (.inl (k', .inr (.inr (some (c', j))) :: as, M, pc + 3, L, rest))) else am_no) else am_no
    | _ => am_no)
  cases hp : am_pop (n + 1) st [] with
  | none => trivial
  | some q =>
    obtain ⟨as, rest⟩ := q
    obtain ⟨hs, hlen⟩ := am_pop_spec _ _ _ _ _ hp
    rcases as with _ | ⟨x | (x | (_ | ⟨c', j⟩)), as⟩ <;> try trivial
    show am_post D ca k p l e R s m args below meth c A Q pc st M ad H locs ls cells slots (if c' = c0 then (if am_wt rest ≤ 8 then .inr (.inr (.inl (k', .inr (.inr (some (c', j))) :: as, M, pc + 3, L, rest))) else am_no) else am_no)
    by_cases hcc : c' = c0
    · rw [if_pos hcc]
      by_cases hw : am_wt rest ≤ 8
      · rw [if_pos hw]
        have hs : (.inr (.inr (some (c', j))) :: as : List am_V).reverse ++ rest = st := hs
        have hr : ∀ v ∈ rest, v ∈ st := fun v h => by rw [← hs]; exact List.mem_append_right _ h
        have ha : ∀ v ∈ (.inr (.inr (some (c', j))) :: as : List am_V), v ∈ st := fun v h => by rw [← hs]; exact List.mem_append_left _ (List.mem_reverse.mpr h)
        refine fun d r1 M1 k1 s1 hM g1 g2 g3 g4 kk => am_callW hC hJ hr (va_runI (b := ad c' j) (As := as.map (am_cv ad)) ⟨hC.1, hC.2.1, hC.2.2.1, hC.2.2.2.1, hC.2.2.2.2.1⟩ (hM H.size) ⟨by have h8 := am_cb (k1 := k1) (s1 := s1) hC hk hl g1 g2; rw [hrt] at h8; exact h8, hy1, hC.2.2.2.2.1 _ hin⟩ (am_pre hC hJ ha) rfl (by rw [List.length_map]; have h9 : as.length + 1 = n + 1 + 0 := hlen; omega) hJ.2.1.1 (by show st.map (am_cv ad) = _; rw [← hs, List.reverse_cons, List.append_assoc, List.map_append, List.map_reverse]; rfl) (by rw [am_wt_sum]; show 2 * 0 + _ ≤ 8; omega) hd ⟨g3, g4⟩) kk
      · rw [if_neg hw]; trivial
    · rw [if_neg hcc]; trivial
theorem am_s_ciN {k' n i c0 : Nat} {host : String} (hd : decode (am_by k) pc = .ok (.invokespecial i, 3)) (hk : am_K k' n) (hl : Cond.methodLinkNest (am_y k).cls i (am_y k') host ∈ am_tbl) (hin : Cond.instanceMethod (am_y k') ∈ am_tbl) (hy1 : (am_y k').name = "<init>") (hrt : am_rt k' = none) : am_snd k (am_o_cv k' n c0) pc := by
  intro D ca p l e R s m args below meth c A Q hC L st M ad H locs ls cells slots hJ
  show am_post D ca k p l e R s m args below meth c A Q pc st M ad H locs ls cells slots (match am_pop (n + 1) st [] with
    | some (.inr (.inr (some (c', j))) :: as, rest) => if c' = c0 then (if am_wt rest ≤ 8 then .inr (.inr (.inl (k', .inr (.inr (some (c', j))) :: as, M, pc + 3, L, rest))) else am_no) else am_no
    | _ => am_no)
  cases hp : am_pop (n + 1) st [] with
  | none => trivial
  | some q =>
    obtain ⟨as, rest⟩ := q
    obtain ⟨hs, hlen⟩ := am_pop_spec _ _ _ _ _ hp
    rcases as with _ | ⟨x | (x | (_ | ⟨c', j⟩)), as⟩ <;> try trivial
    show am_post D ca k p l e R s m args below meth c A Q pc st M ad H locs ls cells slots (if c' = c0 then (if am_wt rest ≤ 8 then .inr (.inr (.inl (k', .inr (.inr (some (c', j))) :: as, M, pc + 3, L, rest))) else am_no) else am_no)
    by_cases hcc : c' = c0
    · rw [if_pos hcc]
      by_cases hw : am_wt rest ≤ 8
      · rw [if_pos hw]
        have hs : (.inr (.inr (some (c', j))) :: as : List am_V).reverse ++ rest = st := hs
        have hr : ∀ v ∈ rest, v ∈ st := fun v h => by rw [← hs]; exact List.mem_append_right _ h
        have ha : ∀ v ∈ (.inr (.inr (some (c', j))) :: as : List am_V), v ∈ st := fun v h => by rw [← hs]; exact List.mem_append_left _ (List.mem_reverse.mpr h)
        have hts := hC.2.2.2.2.1
        refine fun d r1 M1 k1 s1 hM g1 g2 g3 g4 kk => am_callW hC hJ hr (va_runIN (n := n) (bytes := am_by k') (maxL := am_ml k') (host := host) (b := ad c' j) (As := as.map (am_cv ad)) ⟨hC.1, hC.2.1, hC.2.2.1, hC.2.2.2.1, hC.2.2.2.2.1⟩ (hM H.size) ⟨⟨⟨rfl, rfl, g1, ?_, fun w hw a' U hW => ?_, ?_⟩, ?_, hts _ hk.2.1, hk.2.2.1, fun sig h => ?_, hts _ hl⟩, hy1, hts _ hin⟩ (am_pre hC hJ ha) rfl (by rw [List.length_map]; have h9 : as.length + 1 = n + 1 + 0 := hlen; omega) hJ.2.1.1 (by show st.map (am_cv ad) = _; rw [← hs, List.reverse_cons, List.append_assoc, List.map_append, List.map_reverse]; rfl) (by rw [am_wt_sum]; show 2 * 0 + _ ≤ 8; omega) hd ⟨g3, g4⟩) kk
        · show 8 + (am_ml k' + 11) + 64 * (d + 5) ≤ R.locals
          have h45 := hk.2.2.2.2
          exact am_rml h45 g2
        · rcases List.mem_cons.mp hw with h | h
          · rw [h]; exact am_words hts _ hk.1 a' U hW
          · exact am_words hts w h a' U hW
        · rw [← hrt]; exact List.mem_cons_self
        · rw [← hrt]; exact hts _ hk.1
        · have h2 := hk.2.2.2.1
          rw [h] at h2
          exact (Option.some.inj h2).symm
      · rw [if_neg hw]; trivial
    · rw [if_neg hcc]; trivial
/-- System.arraycopy of ints -/
def am_o_cp : am_S → am_R
  | (pc, L, .inl n :: .inl dp :: .inr (.inr (some (c1, n1))) :: .inl sp :: .inr (.inr (some (c0, n0))) :: st, M) =>
    if (20 ≤ c0 ∧ c0 < 80) ∧ (20 ≤ c1 ∧ c1 < 79) ∧ am_wt st ≤ 8 then (if sp < 0 ∨ dp < 0 ∨ n < 0 ∨ M.2.2.2.1 c0 n0 < sp.toNatClampNeg + n.toNatClampNeg ∨ M.2.2.2.1 c1 n1 < dp.toNatClampNeg + n.toNatClampNeg then am_no else am_c (pc + 3, L, st, (am_u2 M.1 c1 n1 (va_cpy (M.1 c0 n0) (M.1 c1 n1) sp.toNatClampNeg dp.toNatClampNeg n.toNatClampNeg), M.2))) else am_no
  | _ => am_no
theorem am_nfw : nativeFrameWords "java/lang/System" "arraycopy" 5 + 11 ≤ 56 := by decide +kernel
theorem am_copyW {p : Program} {l : Launch} {e : Env} {R : Room} {s : State} {m : MethodId} {args : Array Value} {below : List Frame} {meth : Method} {c : Code} {H : Heap} {locs : List Loc} {cells slots : Nat} {Q : State → Prop} {ls : Array Slot} {rest : List Value} {D : va_G} {tys : List (ClassId × FieldType)} {cc : ByteArray} (hexec : p.tables.exec = Jvm.exec) (hb : c.code = cc) (hml : c.maxLocals = ls.size) {own : String} {index : Nat} (hown : s.vm.findClass own = some m.cls) (hlink : (Cond.methodLink own index arraycopyName).before args s = true) (hnat : (Cond.native arraycopyName).before args s = true) (hstat : (Cond.static arraycopyName).before args s = true) (hini : (Cond.initialized "java/lang/System").before args s = true)
    (hK : va_K D vwCl tys s) (t0 : Nat) {a a0 : Nat} {c0 : ClassId} {n0 n1 : Nat} {f g : Nat → Int32} (ha0 : H[a0]? = some (vp_cell c0 (n0, .inl f))) (ha1 : H[a]? = some (vp_cell c0 (n1, .inl g))) (ht0 : tys[t0]? = some (c0, .int))
    {sp dp n : Int32} (h1 : ¬ sp < 0) (h2 : ¬ dp < 0) (h3 : ¬ n < 0) (h4 : sp.toNatClampNeg + n.toNatClampNeg ≤ n0) (h5 : dp.toNatClampNeg + n.toNatClampNeg ≤ n1)
    (hframes : 1 ≤ R.frames) (hlocals : (rest.map fun v => v.category).sum + (nativeFrameWords "java/lang/System" "arraycopy" 5 + 11) ≤ R.locals) (hdg : decode cc pc = .ok (.invokestatic index, 3))
    (kk : ∀ (H1 : Heap) (L : List Loc), H1[a]? = some (vp_cell c0 (n1, .inl (va_cpy f g sp.toNatClampNeg dp.toNatClampNeg n.toNatClampNeg))) → H1.size = H.size → (∀ q : Nat, q ≠ a → H1[q]? = H[q]?) → (∀ q ∈ L, q.base = a) → W p l e R s m args below meth c H1 (locs ++ L) cells slots Q (F0 m (pc + 3) ls rest)) : W p l e R s m args below meth c H locs cells slots Q (F0 m pc ls (.int n :: .int dp :: .ref a :: .int sp :: .ref a0 :: rest)) := by
  have nn : ∀ z : Int32, ¬ z < 0 → z.toInt = (z.toNatClampNeg : Int) := by
    intro z hz
    have hz0 : (0 : Int) ≤ z.toInt := by
      have := Int32.not_lt.mp hz
      simpa using Int32.le_iff_toInt_le.mp this
    show z.toInt = ((z.toInt.toNat : Nat) : Int)
    omega
  intro T hT X
  obtain ⟨-, k0, hk0, cm0, hkk0⟩ := (hK.2 t0 _ ht0).1 n0 (fun j => .int (f j))
  obtain ⟨-, k1, hk1, cm1, hkk1⟩ := (hK.2 t0 _ ht0).1 n1 (fun j => .int (g j))
  obtain ⟨vm', X', step⟩ := X.arraycopy hexec hown hlink hnat hstat hini (src := a0) (dst := a) (cs := vp_cell c0 (n0, .inl f)) (cd := vp_cell c0 (n1, .inl g)) (srcPos := sp) (destPos := dp) (n := n) (by rw [hT]; exact ha0) (by rw [hT]; exact ha1)
    (fun _ h => by cases h) (fun _ h => by cases h) (fun h => by cases h) (fun h => by cases h) hk0 hk1 hkk0 hkk1 (by simp [refKind]) h1 h2 h3
    (by rw [nn sp h1, nn n h3]; show ¬ _ > ((arrV c0 n0 (fun j => .int (f j))).slots.size : Int); rw [arrV_size]; omega)
    (by rw [nn dp h2, nn n h3]; show ¬ _ > ((arrV c0 n1 (fun j => .int (g j))).slots.size : Int); rw [arrV_size]; omega)
    (fun vm₁ _ i hi => by
      have e : (vp_cell c0 (n0, .inl f)).slots.getD (sp.toNatClampNeg + i) .null = .int (f (sp.toNatClampNeg + i)) := by
        show (arrV c0 n0 (fun j => .int (f j))).slots.getD _ _ = _
        rw [Array.getD_eq_getD_getElem?, arrV_read _ _ (by omega)]
        rfl
      refine ⟨?_, ?_⟩
      · rw [e]; rfl
      · rw [e]
        exact trivial)
    (g := F0 m pc ls (.int n :: .int dp :: .ref a :: .int sp :: .ref a0 :: rest)) rfl (by rw [hml]) (rest := rest) rfl (by rw [hb]; exact hdg) hframes (by show 2 * 0 + _ + _ ≤ _; omega)
  have e1 : copied (vp_cell c0 (n0, .inl f)) (vp_cell c0 (n1, .inl g)) sp dp n = vp_cell c0 (n1, .inl (va_cpy f g sp.toNatClampNeg dp.toNatClampNeg n.toNatClampNeg)) := va_copied (fun z => .int z) c0 c0 f g h4
  rw [e1] at X' step
  have hl : a < H.size := (Array.getElem?_eq_some_iff.mp ha1).1
  have hheap : ((T.setVm vm').setCell a (vp_cell c0 (n1, .inl (va_cpy f g sp.toNatClampNeg dp.toNatClampNeg n.toNatClampNeg)))).heap = H.setIfInBounds a (vp_cell c0 (n1, .inl (va_cpy f g sp.toNatClampNeg dp.toNatClampNeg n.toNatClampNeg))) := by rw [← hT]; rfl
  obtain ⟨t, a1, b1⟩ := kk _ _ (show (H.setIfInBounds a _)[a]? = some _ by simp [Array.getElem?_setIfInBounds, hl]) (by simp) (fun q hq => by simp [Array.getElem?_setIfInBounds, Ne.symm hq]) (fun q hq => by
      obtain ⟨z, -, hz⟩ := List.mem_map.mp hq
      rw [← hz]) _ hheap X'
  exact ⟨t, step t a1, b1⟩
set_option maxRecDepth 100000 in
theorem am_s_cp {i : Nat} (hd : decode (am_by k) pc = .ok (.invokestatic i, 3)) (hl : Cond.methodLink (am_y k).cls i arraycopyName ∈ am_tbl) (hnat : Cond.native arraycopyName ∈ am_tbl) (hst : Cond.static arraycopyName ∈ am_tbl) (hini : Cond.initialized "java/lang/System" ∈ am_tbl) : am_snd k am_o_cp pc := by
  intro D ca p l e R s m args below meth c A Q hC L st M ad H locs ls cells slots hJ
  rcases st with _ | ⟨n | (n | n), _ | ⟨dp | (dp | dp), _ | ⟨x1 | (x1 | (_ | ⟨c1, n1⟩)), _ | ⟨sp | (sp | sp), _ | ⟨x0 | (x0 | (_ | ⟨c0, n0⟩)), rest⟩⟩⟩⟩⟩ <;> try exact True.intro
  by_cases hcc : (20 ≤ c0 ∧ c0 < 80) ∧ (20 ≤ c1 ∧ c1 < 79) ∧ am_wt rest ≤ 8
  · by_cases hi : sp < 0 ∨ dp < 0 ∨ n < 0 ∨ M.2.2.2.1 c0 n0 < sp.toNatClampNeg + n.toNatClampNeg ∨ M.2.2.2.1 c1 n1 < dp.toNatClampNeg + n.toNatClampNeg
    · rw [show am_o_cp (pc, L, .inl n :: .inl dp :: .inr (.inr (some (c1, n1))) :: .inl sp :: .inr (.inr (some (c0, n0))) :: rest, M) = am_no from (if_pos hcc).trans (if_pos hi)]; trivial
    · rw [show am_o_cp (pc, L, .inl n :: .inl dp :: .inr (.inr (some (c1, n1))) :: .inl sp :: .inr (.inr (some (c0, n0))) :: rest, M) = am_c (pc + 3, L, rest, (am_u2 M.1 c1 n1 (va_cpy (M.1 c0 n0) (M.1 c1 n1) sp.toNatClampNeg dp.toNatClampNeg n.toNatClampNeg), M.2)) from (if_pos hcc).trans (if_neg hi)]
      have hm1 : n1 < M.2.2.2.2 c1 := am_hd (am_tl (am_tl hJ.2.2.1))
      have hm0 : n0 < M.2.2.2.2 c0 := am_hd (am_tl (am_tl (am_tl (am_tl hJ.2.2.1))))
      have hv1 := hJ.1.1.1 c1 n1 hm1 (by omega)
      have hv0 := hJ.1.1.1 c0 n0 hm0 (by omega)
      have hc1 : 20 ≤ c1 ∧ c1 < 80 := by omega
      rw [am_en_i hc1] at hv1
      rw [am_en_i hcc.1] at hv0
      have hts := hC.2.2.2.2.1
      have hA : A (ad c1 n1) := hJ.1.2.1 c1 n1 hm1 (by omega) (by omega)
      refine fun _ _ kk => am_copyW hC.1 hC.2.1 (hC.2.2.1.trans hJ.2.1.1.symm) hC.2.2.2.1 (hts _ hl) (hts _ hnat) (hts _ hst) (hts _ hini) hC.2.2.2.2.2.1 0 hv0 hv1 rfl (fun q => hi (Or.inl q)) (fun q => hi (Or.inr (Or.inl q))) (fun q => hi (Or.inr (Or.inr (Or.inl q)))) (Nat.not_lt.mp (fun q => hi (Or.inr (Or.inr (Or.inr (Or.inl q)))))) (Nat.not_lt.mp (fun q => hi (Or.inr (Or.inr (Or.inr (Or.inr q)))))) (Nat.le_trans (by decide) hC.2.2.2.2.2.2.2.1.1) (by rw [am_wt_sum]; have h64 := hC.2.2.2.2.2.2.2.1.2; have h9 := am_nfw; have h10 := hcc.2.2; omega) hd (fun H1 L1 e1 z oq hL1 => ?_)
      have hs : am_sm M (am_u2 M.1 c1 n1 (va_cpy (M.1 c0 n0) (M.1 c1 n1) sp.toNatClampNeg dp.toNatClampNeg n.toNatClampNeg), M.2) c1 n1 := fun c' n' h => ⟨am_u2_ne h, rfl, rfl, rfl⟩
      refine kk ad H1 _ ls ⟨⟨hJ.1.1.put hm1 (by omega) rfl ?_ oq hs (fun k' j hj => hJ.1.1.2.2 c1 n1 k' j hm1 hj), hJ.1.2.1, by rw [z]; exact hJ.1.2.2.1, fun q g1 g2 => ?_, fun q hq => ?_⟩, hJ.2.1, am_tl (am_tl (am_tl (am_tl (am_tl hJ.2.2.1)))), hJ.2.2.2⟩ ⟨fun _ _ _ => rfl, fun _ => Nat.le_refl _⟩
      · rw [am_en_i hc1]
        show H1[ad c1 n1]? = some (vp_cell (ca 0) (M.2.2.2.1 c1 n1, .inl (am_u2 M.1 c1 n1 (va_cpy (M.1 c0 n0) (M.1 c1 n1) sp.toNatClampNeg dp.toNatClampNeg n.toNatClampNeg) c1 n1)))
        rw [am_u2_eq]
        exact e1
      · rw [oq q (fun z => g2 (by rw [z]; exact hA))]
        exact hJ.1.2.2.2.1 q g1 g2
      · rcases List.mem_append.mp hq with h | h
        · exact hJ.1.2.2.2.2 q h
        · rw [hL1 q h]; exact hA
  · rw [show am_o_cp (pc, L, .inl n :: .inl dp :: .inr (.inr (some (c1, n1))) :: .inl sp :: .inr (.inr (some (c0, n0))) :: rest, M) = am_no from if_neg hcc]; trivial
end INV
