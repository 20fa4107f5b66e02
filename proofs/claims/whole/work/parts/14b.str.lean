/-! the String constant of the Reader: what length and charAt answer; by program (wip/whole/gen/str.py) -/
def am_ch (x : Int32) : Int32 := am_wd.getD x.toNatClampNeg 0
theorem am_wd_ok : ∀ n, n < 145 → (((am_wd.getD n 0 &&& 255).toUInt32 % 65536).toInt32 = am_wd.getD n 0 ∧ narrow .char (.int (am_wd.getD n 0)) = .int (am_wd.getD n 0)) := by decide +kernel
def am_jz (a b sz : Nat) (U : State) : Prop := U.heap.size = sz ∧ vk_S 1 [145] [am_wd] (fun _ => a) (fun _ => b) (fun q => sz ≤ q) U U.heap ∧ va_Z "java/lang/String" "COMPACT_STRINGS" "Z" (.int 1) (fun q => sz ≤ q) U U.heap ∧ va_Zq "jdk/internal/util/Preconditions" "SIOOBE_FORMATTER" "Ljava/util/function/BiFunction;" (fun q => sz ≤ q) U U.heap
def am_jP (a b sz : Nat) (as : List Value) : Array Value → State → Prop := fun v U => v = as.toArray ∧ am_jz a b sz U
def am_jQ (sz : Nat) (r : Option Value) : Array Value → State → Outcome → State → Prop := fun _ st oc t => oc = .returned r ∧ va_F (fun q => sz ≤ q) st t
theorem am_jz.go {a b : Nat} {A : Nat → Prop} {u U : State} {H : Heap} (h1 : vk_S 1 [145] [am_wd] (fun _ => a) (fun _ => b) A u u.heap) (h2 : va_Z "java/lang/String" "COMPACT_STRINGS" "Z" (.int 1) A u u.heap) (h3 : va_Zq "jdk/internal/util/Preconditions" "SIOOBE_FORMATTER" "Ljava/util/function/BiFunction;" A u u.heap) (hW : u.vm.Alike U.vm) (hU : U.heap = H) (hq : ∀ q : Nat, q < u.heap.size → ¬ A q → H[q]? = u.heap[q]?) (hA : ∀ q, H.size ≤ q → A q) : am_jz a b H.size U := by
  subst hU
  exact ⟨rfl, ((h1.moved hW).kept hq).narrow hA, ((h2.moved hW).kept hq).narrow hA, ((h3.moved hW).kept hq).narrow hA⟩
theorem am_jblind {a b sz : Nat} {as : List Value} : FrameBlind (am_jP a b sz as) := fun v U g mk q => by
  obtain ⟨q0, q1, q2, q3, q4⟩ := q
  exact ⟨q0, q1, vk_S.moved (u := U) (U := U.calling g mk v) (Vm.Alike.refl U.vm) q2, va_Z.moved (u := U) (U := U.calling g mk v) (Vm.Alike.refl U.vm) q3, va_Zq.moved (u := U) (U := U.calling g mk v) (Vm.Alike.refl U.vm) q4⟩
section STR
variable {l : Launch}
theorem am_jmet {k d a b sz : Nat} {as : List Value} {r : Option Value} (hw : (lg_sl as).length ≤ am_ml k)
    (body : ∀ (p : Program) (e : Env) (s : State) (m : MethodId) (below : List Frame) (meth : Method) (c : Code) (ls : Array Slot), p.tables.exec = Jvm.exec → c.code = am_by k → c.maxLocals = am_ml k → s.vm.findClass (am_y k).cls = some m.cls → (∀ w ∈ am_tbl, w.before as.toArray s = true) → meth.sig.returnType = am_rt k → meth.locks = false → am_jz a b s.heap.size s → lv_has ls (am_ml k) (lv_args 0 as) →
      W p l e (am_rm0 d) s m as.toArray below meth c s.heap [] 0 0 (MQ below (am_jQ s.heap.size r) as.toArray s 0 0 (fun q => s.heap.size ≤ q)) (F0 m 0 ls [])) :
    Met l (am_y k) (am_ws k) (am_rm0 d) (am_jP a b sz as) (am_jQ sz r) 0 0 (fun q => sz ≤ q) := by
  refine va_MetF (cc := am_by k) (maxL := am_ml k) (ret := am_rt k) (am_plain k) rfl ?_
  intro p e s m args below meth c s₁ B hml hv
  obtain ⟨rfl, hz⟩ := hv
  have hts := atoms_spec (ws := am_ws k) B.pre
  have hlocks := B.notSynchronized
  have hsz : s.heap.size = sz := hz.1
  subst hsz
  have hl := lv_entry as (n := am_ml k) hw
  rw [lg_entry_eq]
  generalize (lg_sl as ++ List.replicate (am_ml k - (lg_sl as).length) Slot.unset).toArray = ls at hl ⊢
  exact body p e s m below meth c ls B.exec B.bytes hml (findClass_of_methodNamed B.named) (fun w hw => hts w (List.mem_cons_of_mem _ hw)) B.returns hlocks hz hl
theorem am_rml0 {z d L : Nat} (h : z ≤ 45) (g : 64 * (d + 1) ≤ L) : 8 + (z + 11) + 64 * d ≤ L := by omega
theorem am_jcb {k' n d : Nat} {own : String} {R : Room} {s : State} {args : Array Value} {i : Nat} (hts : ∀ w ∈ am_tbl, w.before args s = true) (hk : am_K k' n) (hl : Cond.methodLink own i (am_y k') ∈ am_tbl) (g1 : d + 1 ≤ R.frames) (g2 : 64 * (d + 1) ≤ R.locals) : CallB R s args own i (am_y k') (am_by k') (am_ml k') (am_rt k') (am_ws k') (am_rm0 d) 0 0 n := by
  refine ⟨rfl, rfl, g1, ?_, fun w hw a' U hW => ?_, List.mem_cons_self, hts _ hk.1, hts _ hk.2.1, hk.2.2.1, fun sig h => ?_, hts _ hl⟩
  · show 8 + (am_ml k' + 11) + 64 * d ≤ R.locals
    have h45 := hk.2.2.2.2
    exact am_rml0 h45 g2
  · rcases List.mem_cons.mp hw with h | h
    · rw [h]; exact am_words hts _ hk.1 a' U hW
    · exact am_words hts w h a' U hW
  · have h2 := hk.2.2.2.1
    rw [h] at h2
    exact (Option.some.inj h2).symm
/-- behind a call that writes nothing -/
theorem am_jW {p : Program} {e : Env} {R : Room} {s : State} {m : MethodId} {args : Array Value} {below : List Frame} {meth : Method} {c : Code} {H : Heap} {locs : List Loc} {cells slots : Nat} {Q : State → Prop} {A : Nat → Prop} {pc : Nat} {ls : Array Slot} {stk rest : List Value} {r : Option Value} {av : Array Value} (hA : ∀ q, s.heap.size ≤ q → A q) (hS : va_S A s.heap H locs)
    (hrun : va_Run p l e R s m args below meth c H locs cells slots 0 0 (F0 m pc ls stk) rest (am_jQ H.size r av) (fun q => H.size ≤ q))
    (kk : ∀ H' locs', va_S A s.heap H' locs' → H.size ≤ H'.size → (∀ q : Nat, q < H.size → H'[q]? = H[q]?) → (∀ q ∈ locs', q ∈ locs ∨ H.size ≤ q.base) → W p l e R s m args below meth c H' locs' cells slots Q (F0 m (pc + 3) ls (r.toList ++ rest))) :
    W p l e R s m args below meth c H locs cells slots Q (F0 m pc ls stk) := by
  intro T hT X
  obtain ⟨v, st₀, t, T', Lx, h0, X', hL, e1, e2, ⟨q1, q7⟩, go⟩ := hrun T hT X
  have hv : v = r := Outcome.returned.inj q1
  subst hv
  obtain ⟨z1, z2⟩ := q7
  rw [h0] at z1 z2
  have zz : ∀ q : Nat, q < H.size → t.heap[q]? = H[q]? := fun q h => z2 q h (Nat.not_le.mpr h)
  obtain ⟨t2, a1, b1⟩ := kk T'.heap (locs ++ Lx) ⟨by rw [e1]; exact Nat.le_trans hS.1 z1, fun q g1 g2 => by rw [e1, zz q (Nat.lt_of_lt_of_le g1 hS.1)]; exact hS.2.1 q g1 g2, fun q hq => by
    rcases List.mem_append.mp hq with h | h
    · exact hS.2.2 q h
    · exact hA _ (Nat.le_trans hS.1 (hL q h))⟩ (by rw [e1]; exact z1) (by rw [e1]; exact zz) (fun q hq => by
    rcases List.mem_append.mp hq with h | h
    · exact Or.inl h
    · exact Or.inr (hL q h)) T' rfl X'
  exact ⟨t2, go t2 a1, b1⟩
theorem am_jin {x : Int32} (h : ¬ (x < 0 ∨ 145 ≤ x.toNatClampNeg)) : x < 145 := by
  have h1 : ¬ x < 0 := fun q => h (Or.inl q)
  have h2 : ¬ 145 ≤ x.toNatClampNeg := fun q => h (Or.inr q)
  rw [Int32.lt_iff_toInt_lt] at h1 ⊢
  have e0 : (0 : Int32).toInt = 0 := rfl
  have e1 : (145 : Int32).toInt = 145 := rfl
  have e2 : x.toNatClampNeg = x.toInt.toNat := rfl
  rw [e0] at h1
  rw [e1]
  omega
theorem am_jz.pre {a b : Nat} {s : State} {H : Heap} {locs : List Loc} {as : List Value} (hz : am_jz a b s.heap.size s) (hS : va_S (fun q => s.heap.size ≤ q) s.heap H locs) : PreS s H (am_jP a b H.size as) as :=
  ⟨am_jblind, fun U hU hW => ⟨rfl, am_jz.go hz.2.1 hz.2.2.1 hz.2.2.2 hW.alike hU hS.2.1 (fun _ h => Nat.le_trans hS.1 h)⟩⟩
theorem am_jz.prv {a b : Nat} {s : State} {H : Heap} {locs : List Loc} {as : List Value} (hz : am_jz a b s.heap.size s) (hS : va_S (fun q => s.heap.size ≤ q) s.heap H locs) : PreV s H "java/lang/String" a (am_jP a b H.size (.ref a :: as)) as :=
  ⟨am_jblind, vk_recv hz.2.1 (i := 0) (by decide) hS, (hz.pre hS).2⟩
set_option maxRecDepth 100000 in
theorem am_j_cod {a b sz : Nat} : Met l (am_y 303) (am_ws 303) (am_rm0 1) (am_jP a b sz [.ref a]) (am_jQ sz (some (.int 0))) 0 0 (fun q => sz ≤ q) := by
  refine am_jmet (by show 1 ≤ _; decide) ?_
  intro p e s m below meth c ls hx0 hb hml hown hts hr hlk hz hl
  have hS : va_S (fun q => s.heap.size ≤ q) s.heap s.heap [] := va_S.rf
  have hE := hz.2.1.1 0 (by decide)
  have l0 := hl.2.2 (0, .ref a) List.mem_cons_self
  refine va_gets hx0 hb hz.2.2.1 hS hown (hts _ aw_3_37) (fun x h => h) (by decide +kernel) ?_
  refine lv_if_eq hx0 hb (off := 10) (tgt := 13) (by decide +kernel) rfl (fun h => absurd h (by decide)) (fun _ => ?_)
  refine lv_aload_n hx0 hb (k := 0) (by decide +kernel) rfl l0 ?_
  refine vk_getf hx0 hb hE.2.1 hS hown (hts _ aw_8_142) (fun x h => h) (by decide +kernel) ?_
  refine lv_goto hx0 hb (off := 4) (tgt := 14) (by decide +kernel) rfl ?_
  exact W.zret hx0 hb hr rfl (fun t ht _ => ⟨rfl, hS.F ht⟩) (fun q hq => hS.2.2 q hq) (by decide +kernel) hlk
set_option maxRecDepth 100000 in
theorem am_j_lat {a b sz : Nat} : Met l (am_y 304) (am_ws 304) (am_rm0 1) (am_jP a b sz [.ref a]) (am_jQ sz (some (.int 1))) 0 0 (fun q => sz ≤ q) := by
  refine am_jmet (by show 1 ≤ _; decide) ?_
  intro p e s m below meth c ls hx0 hb hml hown hts hr hlk hz hl
  have hS : va_S (fun q => s.heap.size ≤ q) s.heap s.heap [] := va_S.rf
  have hE := hz.2.1.1 0 (by decide)
  have l0 := hl.2.2 (0, .ref a) List.mem_cons_self
  refine va_gets hx0 hb hz.2.2.1 hS hown (hts _ aw_3_37) (fun x h => h) (by decide +kernel) ?_
  refine lv_if_eq hx0 hb (off := 14) (tgt := 17) (by decide +kernel) rfl (fun h => absurd h (by decide)) (fun _ => ?_)
  refine lv_aload_n hx0 hb (k := 0) (by decide +kernel) rfl l0 ?_
  refine vk_getf hx0 hb hE.2.1 hS hown (hts _ aw_8_142) (fun x h => h) (by decide +kernel) ?_
  refine lv_if_ne hx0 hb (off := 7) (tgt := 17) (by decide +kernel) rfl (fun h => absurd rfl h) (fun _ => ?_)
  refine lv_iconst hx0 hb (n := 1) (v := 1) (by decide +kernel) rfl ?_
  refine lv_goto hx0 hb (off := 4) (tgt := 18) (by decide +kernel) rfl ?_
  exact W.zret hx0 hb hr rfl (fun t ht _ => ⟨rfl, hS.F ht⟩) (fun q hq => hS.2.2 q hq) (by decide +kernel) hlk
set_option maxRecDepth 100000 in
theorem am_j_len {a b sz : Nat} : Met l (am_y 301) (am_ws 301) (am_rm0 2) (am_jP a b sz [.ref a]) (am_jQ sz (some (.int 145))) 0 0 (fun q => sz ≤ q) := by
  refine am_jmet (by show 1 ≤ _; decide) ?_
  intro p e s m below meth c ls hx0 hb hml hown hts hr hlk hz hl
  have hS : va_S (fun q => s.heap.size ≤ q) s.heap s.heap [] := va_S.rf
  have hE := hz.2.1.1 0 (by decide)
  have l0 := hl.2.2 (0, .ref a) List.mem_cons_self
  refine lv_aload_n hx0 hb (k := 0) (by decide +kernel) rfl l0 ?_
  refine vk_getf hx0 hb hE.2.2.1 hS hown (hts _ aw_8_141) (fun x h => h) (by decide +kernel) ?_
  refine va_tlen hx0 hb hE.2.2.2 hS (v := 145) rfl (by decide +kernel) ?_
  refine lv_aload_n hx0 hb (k := 0) (by decide +kernel) rfl l0 ?_
  refine am_jW (fun _ h => h) hS (va_runV (b := a) (As := []) (rest := [.int 145]) ⟨hx0, hb, hml, hown, hts⟩ am_j_cod ⟨am_jcb hts ak_303 (aw_3_33) (Nat.le_refl _) (Nat.le_refl _), hts _ aw_3_34, hts _ aw_3_35⟩ (hz.prv hS) rfl rfl hl.1 rfl (by show 1 ≤ 8; decide) (show decode (am_by 301) 6 = .ok (.invokevirtual 335, 3) by decide +kernel) ⟨Nat.le_refl _, Nat.le_refl _⟩) ?_
  intro H1 locs1 hS1 z1 z2 z3
  refine lv_ishr hx0 hb (by decide +kernel) ?_
  exact W.iret hx0 hb hr (fun t ht _ => ⟨rfl, hS1.F ht⟩) (fun q hq => hS1.2.2 q hq) (by decide +kernel) hlk
set_option maxRecDepth 100000 in
theorem am_j_pre {a b sz : Nat} {x n : Int32} {f : Value} (hf : f = .null ∨ ∃ t, f = .ref t) (h0 : ¬ x < 0) (h1 : x < n) : Met l (am_y 311) (am_ws 311) (am_rm0 1) (am_jP a b sz [.int x, .int n, f]) (am_jQ sz (some (.int x))) 0 0 (fun q => sz ≤ q) := by
  refine am_jmet (by rcases hf with rfl | ⟨t, rfl⟩ <;> (show 3 ≤ _; decide)) ?_
  intro p e s m below meth c ls hx0 hb hml hown hts hr hlk hz hl
  have hS : va_S (fun q => s.heap.size ≤ q) s.heap s.heap [] := va_S.rf
  have hE := hz.2.1.1 0 (by decide)
  have l0 := hl.2.2 (0, .int x) List.mem_cons_self
  have l1 := hl.2.2 (1, .int n) (List.mem_cons_of_mem _ List.mem_cons_self)
  refine lv_iload_n hx0 hb (k := 0) (by decide +kernel) rfl l0 ?_
  refine lv_if_lt hx0 hb (off := 8) (tgt := 9) (by decide +kernel) rfl (fun h => absurd h h0) (fun _ => ?_)
  refine lv_iload_n hx0 hb (k := 0) (by decide +kernel) rfl l0 ?_
  refine lv_iload_n hx0 hb (k := 1) (by decide +kernel) rfl l1 ?_
  refine lv_icmp_lt hx0 hb (off := 10) (tgt := 16) (by decide +kernel) rfl (fun _ => ?_) (fun h => absurd h1 h)
  refine lv_iload_n hx0 hb (k := 0) (by decide +kernel) rfl l0 ?_
  exact W.iret hx0 hb hr (fun t ht _ => ⟨rfl, hS.F ht⟩) (fun q hq => hS.2.2 q hq) (by decide +kernel) hlk
set_option maxRecDepth 100000 in
theorem am_j_chk {a b sz : Nat} {x n : Int32} (h0 : ¬ x < 0) (h1 : x < n) : Met l (am_y 305) (am_ws 305) (am_rm0 2) (am_jP a b sz [.int x, .int n]) (am_jQ sz (none)) 0 0 (fun q => sz ≤ q) := by
  refine am_jmet (by show 2 ≤ _; decide) ?_
  intro p e s m below meth c ls hx0 hb hml hown hts hr hlk hz hl
  have hS : va_S (fun q => s.heap.size ≤ q) s.heap s.heap [] := va_S.rf
  have hE := hz.2.1.1 0 (by decide)
  have l0 := hl.2.2 (0, .int x) List.mem_cons_self
  have l1 := hl.2.2 (1, .int n) (List.mem_cons_of_mem _ List.mem_cons_self)
  refine lv_iload_n hx0 hb (k := 0) (by decide +kernel) rfl l0 ?_
  refine lv_iload_n hx0 hb (k := 1) (by decide +kernel) rfl l1 ?_
  have hF : ∃ f : Value, (f = .null ∨ ∃ t, f = .ref t) ∧ va_Z "jdk/internal/util/Preconditions" "SIOOBE_FORMATTER" "Ljava/util/function/BiFunction;" f (fun q => s.heap.size ≤ q) s s.heap := by
    rcases hz.2.2.2 with h | ⟨t, h⟩
    · exact ⟨_, Or.inl rfl, h⟩
    · exact ⟨_, Or.inr ⟨t, rfl⟩, h⟩
  obtain ⟨f, hf1, hf⟩ := hF
  refine va_gets hx0 hb hf hS hown (hts _ aw_3_53) (fun x h => h) (by decide +kernel) ?_
  refine am_jW (fun _ h => h) hS (va_runS (As := [.int x, .int n, f]) (rest := []) ⟨hx0, hb, hml, hown, hts⟩ (am_j_pre hf1 h0 h1) ⟨am_jcb hts ak_311 (aw_3_55) (Nat.le_refl _) (Nat.le_refl _), hts _ aw_3_56⟩ (hz.pre hS) rfl rfl hl.1 rfl (by show 0 ≤ 8; decide) (show decode (am_by 305) 5 = .ok (.invokestatic 1059, 3) by decide +kernel) ⟨Nat.le_refl _, Nat.le_refl _⟩) ?_
  intro H1 locs1 hS1 z1 z2 z3
  refine lv_pop hx0 hb (by decide +kernel) rfl ?_
  exact W.vret hx0 hb hr (fun t ht _ => ⟨rfl, hS1.F ht⟩) (fun q hq => hS1.2.2 q hq) (by decide +kernel) hlk
set_option maxRecDepth 100000 in
theorem am_j_la {a b sz : Nat} {x : Int32} (hx : ¬ (x < 0 ∨ 145 ≤ x.toNatClampNeg)) : Met l (am_y 306) (am_ws 306) (am_rm0 3) (am_jP a b sz [.ref b, .int x]) (am_jQ sz (some (.int (am_ch x)))) 0 0 (fun q => sz ≤ q) := by
  refine am_jmet (by show 2 ≤ _; decide) ?_
  intro p e s m below meth c ls hx0 hb hml hown hts hr hlk hz hl
  have hS : va_S (fun q => s.heap.size ≤ q) s.heap s.heap [] := va_S.rf
  have hE := hz.2.1.1 0 (by decide)
  have hxn : x.toNatClampNeg < 145 := Nat.not_le.mp (fun q => hx (Or.inr q))
  have l0 := hl.2.2 (0, .ref b) List.mem_cons_self
  have l1 := hl.2.2 (1, .int x) (List.mem_cons_of_mem _ List.mem_cons_self)
  refine lv_iload_n hx0 hb (k := 1) (by decide +kernel) rfl l1 ?_
  refine lv_aload_n hx0 hb (k := 0) (by decide +kernel) rfl l0 ?_
  refine va_tlen hx0 hb hE.2.2.2 hS (v := 145) rfl (by decide +kernel) ?_
  refine am_jW (fun _ h => h) hS (va_runS (As := [.int x, .int 145]) (rest := []) ⟨hx0, hb, hml, hown, hts⟩ (am_j_chk (x := x) (n := 145) (fun q => hx (Or.inl q)) (am_jin hx)) ⟨am_jcb hts ak_305 (aw_3_50) (Nat.le_refl _) (Nat.le_refl _), hts _ aw_3_51⟩ (hz.pre hS) rfl rfl hl.1 rfl (by show 0 ≤ 8; decide) (show decode (am_by 306) 3 = .ok (.invokestatic 9, 3) by decide +kernel) ⟨Nat.le_refl _, Nat.le_refl _⟩) ?_
  intro H1 locs1 hS1 z1 z2 z3
  refine lv_aload_n hx0 hb (k := 0) (by decide +kernel) rfl l0 ?_
  refine lv_iload_n hx0 hb (k := 1) (by decide +kernel) rfl l1 ?_
  refine va_tb hx0 hb hE.2.2.2 hS1 hx rfl (by decide +kernel) ?_
  refine lv_sipush hx0 hb (n := 255) (v := 255) (by decide +kernel) rfl ?_
  refine lv_iand hx0 hb (by decide +kernel) ?_
  refine lv_i2c hx0 hb (v := am_ch x) (by decide +kernel) (am_wd_ok _ hxn).1 ?_
  exact W.zret hx0 hb hr (am_wd_ok _ hxn).2 (fun t ht _ => ⟨rfl, hS1.F ht⟩) (fun q hq => hS1.2.2 q hq) (by decide +kernel) hlk
set_option maxRecDepth 100000 in
theorem am_j_cha {a b sz : Nat} {x : Int32} (hx : ¬ (x < 0 ∨ 145 ≤ x.toNatClampNeg)) : Met l (am_y 302) (am_ws 302) (am_rm0 4) (am_jP a b sz [.ref a, .int x]) (am_jQ sz (some (.int (am_ch x)))) 0 0 (fun q => sz ≤ q) := by
  refine am_jmet (by show 2 ≤ _; decide) ?_
  intro p e s m below meth c ls hx0 hb hml hown hts hr hlk hz hl
  have hS : va_S (fun q => s.heap.size ≤ q) s.heap s.heap [] := va_S.rf
  have hE := hz.2.1.1 0 (by decide)
  have hxn : x.toNatClampNeg < 145 := Nat.not_le.mp (fun q => hx (Or.inr q))
  have l0 := hl.2.2 (0, .ref a) List.mem_cons_self
  have l1 := hl.2.2 (1, .int x) (List.mem_cons_of_mem _ List.mem_cons_self)
  refine lv_aload_n hx0 hb (k := 0) (by decide +kernel) rfl l0 ?_
  refine am_jW (fun _ h => h) hS (va_runV (b := a) (As := []) (rest := []) ⟨hx0, hb, hml, hown, hts⟩ am_j_lat ⟨am_jcb hts ak_304 (aw_3_43) (by decide) (by decide), hts _ aw_3_44, hts _ aw_3_45⟩ (hz.prv hS) rfl rfl hl.1 rfl (by show 0 ≤ 8; decide) (show decode (am_by 302) 1 = .ok (.invokevirtual 492, 3) by decide +kernel) ⟨Nat.le_refl _, Nat.le_refl _⟩) ?_
  intro H1 locs1 hS1 z1 z2 z3
  refine lv_if_eq hx0 hb (off := 12) (tgt := 16) (by decide +kernel) rfl (fun h => absurd h (by decide)) (fun _ => ?_)
  refine lv_aload_n hx0 hb (k := 0) (by decide +kernel) rfl l0 ?_
  refine vk_getf hx0 hb hE.2.2.1 hS1 hown (hts _ aw_8_141) (fun x h => h) (by decide +kernel) ?_
  refine lv_iload_n hx0 hb (k := 1) (by decide +kernel) rfl l1 ?_
  refine am_jW (fun _ h => h) hS1 (va_runS (As := [.ref b, .int x]) (rest := []) ⟨hx0, hb, hml, hown, hts⟩ (am_j_la hx) ⟨am_jcb hts ak_306 (aw_3_47) (Nat.le_refl _) (Nat.le_refl _), hts _ aw_3_48⟩ (hz.pre hS1) rfl rfl hl.1 rfl (by show 0 ≤ 8; decide) (show decode (am_by 302) 12 = .ok (.invokestatic 495, 3) by decide +kernel) ⟨Nat.le_refl _, Nat.le_refl _⟩) ?_
  intro H2 locs2 hS2 y1 y2 y3
  exact W.zret hx0 hb hr (am_wd_ok _ hxn).2 (fun t ht _ => ⟨rfl, hS2.F ht⟩) (fun q hq => hS2.2.2 q hq) (by decide +kernel) hlk
theorem am_jI {D : va_G} {ca : Nat → ClassId} {s : State} {A : Nat → Prop} {ad : Nat → Nat → Nat} {M : am_M} {H H' : Heap} {locs locs' : List Loc} (h : am_I D ca s A ad M H locs) (hS : va_S A s.heap H' locs') (hk : ∀ q : Nat, q < H.size → H'[q]? = H[q]?) : am_I D ca s A ad M H' locs' :=
  ⟨⟨fun c n h1 h2 => (h.1.1 c n h1 h2).kept (hk _ (h.1.1 c n h1 h2).lt), h.1.2⟩, h.2.1, hS⟩
def am_o_sl : am_S → am_R
  | (pc, L, st, M) => if am_wt st ≤ 8 then am_c (pc + 5, L, .inl 145 :: st, M) else am_no
def am_o_sc (i : Nat) : am_S → am_R
  | (pc, L, st, M) => match am_get L i with
    | some (.inl x) => if am_wt st ≤ 8 then (if x < 0 ∨ 145 ≤ x.toNatClampNeg then am_no else am_c (pc + 7, L, .inl (am_ch x) :: st, M)) else am_no
    | _ => am_no
def am_o_sd (i j : Nat) : am_S → am_R
  | (pc, L, st, M) => match am_get L i with
    | some (.inl x) => (match am_get L j with
      | some (.inl y) => if am_wt st ≤ 8 then (if x + y < 0 ∨ 145 ≤ (x + y).toNatClampNeg then am_no else am_c (pc + 9, L, .inl (am_ch (x + y)) :: st, M)) else am_no
      | _ => am_no)
    | _ => am_no
theorem am_jz.am {a b : Nat} {A : Nat → Prop} {s : State} {H : Heap} {locs : List Loc} {as : List Value} (hA : ∀ q, s.heap.size ≤ q → A q) (h1 : vk_S 1 [145] [am_wd] (fun _ => a) (fun _ => b) A s s.heap) (h2 : va_Z "java/lang/String" "COMPACT_STRINGS" "Z" (.int 1) A s s.heap) (h3 : va_Zq "jdk/internal/util/Preconditions" "SIOOBE_FORMATTER" "Ljava/util/function/BiFunction;" A s s.heap) (hS : va_S A s.heap H locs) : PreV s H "java/lang/String" a (am_jP a b H.size (.ref a :: as)) as :=
  ⟨am_jblind, vk_recv h1 (i := 0) (by decide) hS, fun U hU hW => ⟨rfl, am_jz.go h1 h2 h3 hW.alike hU hS.2.1 (fun _ h => hA _ (Nat.le_trans hS.1 h))⟩⟩
theorem am_jR {d e : Nat} {R : Room} (h : 6 ≤ R.frames ∧ 384 ≤ R.locals) (hd : d ≤ 5) : d + 1 ≤ R.frames ∧ 64 * (d + 1) ≤ R.locals := ⟨by omega, by omega⟩
set_option maxRecDepth 100000 in
theorem am_s_sl {k pc : Nat} (hy : (am_y k).cls = "BrokenBread$Reader") (hd1 : decode (am_by k) pc = .ok (.ldc 107, 2)) (hd2 : decode (am_by k) (pc + 2) = .ok (.invokevirtual 109, 3)) : am_snd k am_o_sl pc := by
  intro D ca p l e R s m args below meth c A Q hC L st M ad H locs ls cells slots hJ
  by_cases hw : am_wt st ≤ 8
  · rw [show am_o_sl (pc, L, st, M) = am_c (pc + 5, L, .inl 145 :: st, M) from if_pos hw]
    obtain ⟨a, b, z1, z2, z3, z4⟩ := hC.2.2.2.2.2.2.2.2.2
    have hA := hC.2.2.2.2.2.2.1
    have hown := hC.2.2.2.1
    rw [hy] at hown
    have hts := hC.2.2.2.2.1
    intro g1 g2 kk
    refine va_ldcS hC.1 hC.2.1 hown z2 hd1 ?_
    refine am_jW hA hJ.1.2.2 (va_runV (b := a) (As := []) (rest := st.map (am_cv ad)) ⟨hC.1, hC.2.1, hC.2.2.1, hown, hts⟩ am_j_len ⟨am_jcb hts ak_301 aw_3_29 (am_jR (e := 0) hC.2.2.2.2.2.2.2.1 (by decide)).1 (am_jR (e := 0) hC.2.2.2.2.2.2.2.1 (by decide)).2, hts _ aw_3_30, hts _ aw_3_31⟩ (am_jz.am hA z1 z3 z4 hJ.1.2.2) rfl rfl hJ.2.1.1 rfl (by rw [am_wt_sum]; show 2 * 0 + _ ≤ 8; omega) hd2 ⟨g1, g2⟩) ?_
    intro H1 locs1 hS1 y1 y2 y3
    exact kk ad H1 locs1 ls ⟨am_jI hJ.1 hS1 y2, hJ.2.1, am_cn trivial hJ.2.2.1, hJ.2.2.2⟩ ⟨fun _ _ _ => rfl, fun _ => Nat.le_refl _⟩
  · rw [show am_o_sl (pc, L, st, M) = am_no from if_neg hw]; trivial
theorem am_jcha {k pc : Nat} {D : va_G} {ca : Nat → ClassId} {p : Program} {e : Env} {R : Room} {s : State} {m : MethodId} {args : Array Value} {below : List Frame} {meth : Method} {c : Code} {A : Nat → Prop} {Q : State → Prop} (hC : am_C D ca k p R s m args meth c A) {L : List (Option am_V)} {st : List am_V} {M : am_M} {ad : Nat → Nat → Nat} {H : Heap} {locs : List Loc} {ls : Array Slot} {cells slots : Nat} (hJ : am_J D ca s A ad H locs ls (am_ml k) L st M) {a b : Nat} (z1 : vk_S 1 [145] [am_wd] (fun _ => a) (fun _ => b) A s s.heap) (z3 : va_Z "java/lang/String" "COMPACT_STRINGS" "Z" (.int 1) A s s.heap) (z4 : va_Zq "jdk/internal/util/Preconditions" "SIOOBE_FORMATTER" "Ljava/util/function/BiFunction;" A s s.heap)
    (hy : (am_y k).cls = "BrokenBread$Reader") {x : Int32} (hx : ¬ (x < 0 ∨ 145 ≤ x.toNatClampNeg)) (hw : am_wt st ≤ 8) (hd : decode (am_by k) pc = .ok (.invokevirtual 114, 3)) (g : cells + 0 ≤ R.cells ∧ slots + 0 ≤ R.slots)
    (kk : ∀ ad' H' locs' ls', am_J D ca s A ad' H' locs' ls' (am_ml k) L (.inl (am_ch x) :: st) M → am_B ad M ad' M → W p l e R s m args below meth c H' locs' cells slots Q (F0 m (pc + 3) ls' ((.inl (am_ch x) :: st : List am_V).map (am_cv ad')))) : W p l e R s m args below meth c H locs cells slots Q (F0 m pc ls (.int x :: .ref a :: st.map (am_cv ad))) := by
  have hA := hC.2.2.2.2.2.2.1
  have hown := hC.2.2.2.1
  rw [hy] at hown
  have hts := hC.2.2.2.2.1
  refine am_jW hA hJ.1.2.2 (va_runV (b := a) (As := [.int x]) (rest := st.map (am_cv ad)) ⟨hC.1, hC.2.1, hC.2.2.1, hown, hts⟩ (am_j_cha hx) ⟨am_jcb hts ak_302 aw_3_39 (am_jR (e := 0) hC.2.2.2.2.2.2.2.1 (by decide)).1 (am_jR (e := 0) hC.2.2.2.2.2.2.2.1 (by decide)).2, hts _ aw_3_40, hts _ aw_3_41⟩ (am_jz.am hA z1 z3 z4 hJ.1.2.2) rfl rfl hJ.2.1.1 rfl (by rw [am_wt_sum]; show 2 * 0 + _ ≤ 8; omega) hd g) ?_
  intro H1 locs1 hS1 y1 y2 y3
  exact kk ad H1 locs1 ls ⟨am_jI hJ.1 hS1 y2, hJ.2.1, am_cn trivial hJ.2.2.1, hJ.2.2.2⟩ ⟨fun _ _ _ => rfl, fun _ => Nat.le_refl _⟩
theorem am_s_sc {k pc i : Nat} (hy : (am_y k).cls = "BrokenBread$Reader") (hd1 : decode (am_by k) pc = .ok (.ldc 107, 2)) (hd2 : decode (am_by k) (pc + 2) = .ok (.iload i, 2)) (hd3 : decode (am_by k) (pc + 2 + 2) = .ok (.invokevirtual 114, 3)) : am_snd k (am_o_sc i) pc := by
  intro D ca p l e R s m args below meth c A Q hC L st M ad H locs ls cells slots hJ
  show am_post D ca k p l e R s m args below meth c A Q pc st M ad H locs ls cells slots (match am_get L i with
    | some (.inl x) => if am_wt st ≤ 8 then (if x < 0 ∨ 145 ≤ x.toNatClampNeg then am_no else am_c (pc + 7, L, .inl (am_ch x) :: st, M)) else am_no
    | _ => am_no)
  cases hg : am_get L i with
  | none => trivial
  | some v =>
    rcases v with x | v
    · by_cases hw : am_wt st ≤ 8
      · by_cases hx : x < 0 ∨ 145 ≤ x.toNatClampNeg
        · show am_post D ca k p l e R s m args below meth c A Q pc st M ad H locs ls cells slots (if am_wt st ≤ 8 then (if x < 0 ∨ 145 ≤ x.toNatClampNeg then am_no else am_c (pc + 7, L, .inl (am_ch x) :: st, M)) else am_no)
          rw [if_pos hw, if_pos hx]; trivial
        · show am_post D ca k p l e R s m args below meth c A Q pc st M ad H locs ls cells slots (if am_wt st ≤ 8 then (if x < 0 ∨ 145 ≤ x.toNatClampNeg then am_no else am_c (pc + 7, L, .inl (am_ch x) :: st, M)) else am_no)
          rw [if_pos hw, if_neg hx]
          obtain ⟨a, b, z1, z2, z3, z4⟩ := hC.2.2.2.2.2.2.2.2.2
          have hown := hC.2.2.2.1
          rw [hy] at hown
          intro g1 g2 kk
          refine va_ldcS hC.1 hC.2.1 hown z2 hd1 ?_
          refine lv_iload hC.1 hC.2.1 hd2 (hJ.2.1.2.2 i _ hg) ?_
          exact am_jcha hC hJ z1 z3 z4 hy hx hw hd3 ⟨g1, g2⟩ kk
      · show am_post D ca k p l e R s m args below meth c A Q pc st M ad H locs ls cells slots (if am_wt st ≤ 8 then (if x < 0 ∨ 145 ≤ x.toNatClampNeg then am_no else am_c (pc + 7, L, .inl (am_ch x) :: st, M)) else am_no)
        rw [if_neg hw]; trivial
    · trivial
theorem am_s_sd {k pc i j : Nat} {q : Fin 4} (hy : (am_y k).cls = "BrokenBread$Reader") (hq : (q : Nat) = i) (hd1 : decode (am_by k) pc = .ok (.ldc 107, 2)) (hd2 : decode (am_by k) (pc + 2) = .ok (.iload_n q, 1)) (hd3 : decode (am_by k) (pc + 2 + 1) = .ok (.iload j, 2)) (hd4 : decode (am_by k) (pc + 2 + 1 + 2) = .ok (.iadd, 1)) (hd5 : decode (am_by k) (pc + 2 + 1 + 2 + 1) = .ok (.invokevirtual 114, 3)) : am_snd k (am_o_sd i j) pc := by
  intro D ca p l e R s m args below meth c A Q hC L st M ad H locs ls cells slots hJ
  show am_post D ca k p l e R s m args below meth c A Q pc st M ad H locs ls cells slots (match am_get L i with
    | some (.inl x) => (match am_get L j with
      | some (.inl y) => if am_wt st ≤ 8 then (if x + y < 0 ∨ 145 ≤ (x + y).toNatClampNeg then am_no else am_c (pc + 9, L, .inl (am_ch (x + y)) :: st, M)) else am_no
      | _ => am_no)
    | _ => am_no)
  cases hg : am_get L i with
  | none => trivial
  | some v =>
    rcases v with x | v
    · cases hg2 : am_get L j with
      | none => trivial
      | some v =>
        rcases v with y | v
        · by_cases hw : am_wt st ≤ 8
          · by_cases hx : x + y < 0 ∨ 145 ≤ (x + y).toNatClampNeg
            · show am_post D ca k p l e R s m args below meth c A Q pc st M ad H locs ls cells slots (if am_wt st ≤ 8 then (if x + y < 0 ∨ 145 ≤ (x + y).toNatClampNeg then am_no else am_c (pc + 9, L, .inl (am_ch (x + y)) :: st, M)) else am_no)
              rw [if_pos hw, if_pos hx]; trivial
            · show am_post D ca k p l e R s m args below meth c A Q pc st M ad H locs ls cells slots (if am_wt st ≤ 8 then (if x + y < 0 ∨ 145 ≤ (x + y).toNatClampNeg then am_no else am_c (pc + 9, L, .inl (am_ch (x + y)) :: st, M)) else am_no)
              rw [if_pos hw, if_neg hx]
              obtain ⟨a, b, z1, z2, z3, z4⟩ := hC.2.2.2.2.2.2.2.2.2
              have hown := hC.2.2.2.1
              rw [hy] at hown
              intro g1 g2 kk
              refine va_ldcS hC.1 hC.2.1 hown z2 hd1 ?_
              refine lv_iload_n hC.1 hC.2.1 hd2 hq (hJ.2.1.2.2 i _ hg) ?_
              refine lv_iload hC.1 hC.2.1 hd3 (hJ.2.1.2.2 j _ hg2) ?_
              refine lv_iadd hC.1 hC.2.1 hd4 ?_
              exact am_jcha hC hJ z1 z3 z4 hy hx hw hd5 ⟨g1, g2⟩ kk
          · show am_post D ca k p l e R s m args below meth c A Q pc st M ad H locs ls cells slots (if am_wt st ≤ 8 then (if x + y < 0 ∨ 145 ≤ (x + y).toNatClampNeg then am_no else am_c (pc + 9, L, .inl (am_ch (x + y)) :: st, M)) else am_no)
            rw [if_neg hw]; trivial
        · trivial
    · trivial
end STR
