/-! the law's walk out of its run; the words behind 'whole_start' are the kit's skeleton (kit/laws/SKELETON.whole.lean.txt) -/
/-! THE CLAIM OUT OF ONE WALK OF THE LAW'S BODY. Your part is whole_start (and what it stands on); all else here is the same for every law, but numbers. -/
def R_law : String := "BrokenBreadLaw"
def lw_P (b : Addr) (xs : List Int32) (args : Array Value) (s : State) : Prop := args = #[.ref b] ∧ s.IntsAt b xs ∧ xs.length ≤ 3072 ∧ (Jvm.Cond.and given_1 narrow_1).before args s = true
def lw_Q (_ : Array Value) (s : State) (o : Outcome) (t : State) : Prop := o = .returned (some (.int 1)) ∧ Framed s o t [] 600000 7302250
def lw_Z (below : List Frame) (a : Array Value) (s : State) : State → Prop := fun t => ∃ o, t.status = .running ∧ Ended t below o ∧ lw_Q a s o t
/-- the law's own end, with 1 on the stack, nothing written that was there before, its room as the claim has it -/
theorem lw_ret {p : Program} {l : Launch} {e : Env} {s : State} {m : MethodId} {below : List Frame} {meth : Method} {c : Code} {b : Nat} (hx : p.tables.exec = Jvm.exec) (hb : c.code = code) (hr : meth.sig.returnType = ret) (hlocks : meth.locks = false) {pc : Nat} {H : Heap} {ls : Array Slot} (hdg : decode code pc = .ok (.ireturn, 1)) : W p l e room_1 s m #[Value.ref b] below meth c H [] 600000 7302250 (lw_Z below #[Value.ref b] s) (F0 m pc ls [.int 1]) := by
  intro T hT X
  obtain ⟨fs, hret, hrun, hended, hW, hframe⟩ := X.leave (v := some (.int 1)) (hlocks := hlocks) (fun h => by rw [hr] at h; cases h)
  have hmeth' : T.vm.method? m = some meth := X.method'
  refine ⟨T.setFrames fs, ?_, .returned (some (.int 1)), hrun, hended, rfl, ⟨_, rfl⟩, hW, hframe⟩
  jvm_step X.here [X.here.top, hx, hb, hdg, hmeth', hr, ret, narrow_b1]
  (try refine ⟨rfl, ?_⟩); (try refine ⟨rfl, ?_⟩)
  first | (intro acts; rw [hret _ acts rfl rfl rfl]) | rw [hret _ _ rfl rfl rfl]
  exact Steps.refl _
/-- what holds at the law's entry: the machine, the code, the tables' words (any of lw_tbl by 'hts w (by decide +kernel)'), the script of L ints xs at the cell b, what the Statement gives of the start (any of its parts by flat_of_before) -/
def lw_At (p : Program) (s : State) (m : MethodId) (meth : Method) (c : Code) (b L : Nat) (xs : Nat → Int32) : Prop :=
  p.tables.exec = Jvm.exec ∧ c.code = code ∧ meth.sig.returnType = ret ∧ c.maxLocals = 4 ∧ s.vm.findClass R_law = some m.cls ∧ (∀ w ∈ lw_tbl, w.before #[Value.ref b] s = true) ∧ va_X b L xs s s.heap ∧ b < s.heap.size ∧ meth.locks = false ∧ (Jvm.Cond.and given_1 narrow_1).before #[Value.ref b] s = true
theorem fl_el : ∀ j, j < 145 → (flatC (Jvm.Cond.and given_1 narrow_1))[35 + j]? = some (Cond.eq (.elem (.field (.string "BrokenBread$Reader" 107) "java/lang/String" "value" "[B") (.int (Int32.ofNat j))) (.int (am_wd.getD j 0))) := by decide +kernel
theorem fl_5 : (flatC (Jvm.Cond.and given_1 narrow_1))[4]? = some (Cond.eq (.static "java/lang/String" "COMPACT_STRINGS" "Z") (.int 1)) ∧ (flatC (Jvm.Cond.and given_1 narrow_1))[5]? = some (Cond.isRef (.static "jdk/internal/util/Preconditions" "SIOOBE_FORMATTER" "Ljava/util/function/BiFunction;")) ∧ (flatC (Jvm.Cond.and given_1 narrow_1))[31]? = some (Cond.exactly (.string "BrokenBread$Reader" 107) "java/lang/String") ∧ (flatC (Jvm.Cond.and given_1 narrow_1))[32]? = some (Cond.eq (.field (.string "BrokenBread$Reader" 107) "java/lang/String" "coder" "B") (.int 0)) ∧ (flatC (Jvm.Cond.and given_1 narrow_1))[33]? = some (Cond.arrayOf (.field (.string "BrokenBread$Reader" 107) "java/lang/String" "value" "[B") .byte) ∧ (flatC (Jvm.Cond.and given_1 narrow_1))[34]? = some (Cond.eq (.length (.field (.string "BrokenBread$Reader" 107) "java/lang/String" "value" "[B")) (.int (Int32.ofNat 145))) := by decide +kernel
/-- what the tables say of the classes and the rows -/
theorem ws_K {s : State} {args : Array Value} (htb : ∀ w ∈ am_tbl, w.before args s = true) : ∃ (D : va_G) (ca : Nat → ClassId), va_K D vwCl (am_tys ca) s := by
  obtain ⟨c0, i0, k0⟩ := u_known (C := RX0) (T := TX0) (N := 1) (n := 1) htb au_0 (htb _ aw_2_29)
  obtain ⟨c1, i1, k1⟩ := u_known (C := RX1) (T := TX1) (N := 4) (n := 4) htb au_1 (htb _ aw_1_189)
  obtain ⟨c2, i2, k2⟩ := u_known (C := RX2) (T := TX2) (N := 6) (n := 6) htb au_2 (htb _ aw_2_4)
  obtain ⟨c3, i3, k3⟩ := u_known (C := RX3) (T := TX3) (N := 2) (n := 2) htb au_3 (htb _ aw_1_86)
  obtain ⟨c4, i4, k4⟩ := u_known (C := RX4) (T := TX4) (N := 11) (n := 11) htb au_4 (htb _ aw_1_115)
  obtain ⟨c5, i5, k5⟩ := u_known (C := RX5) (T := TX5) (N := 5) (n := 5) htb au_5 (htb _ aw_1_121)
  obtain ⟨c6, i6, k6⟩ := u_known (C := RX6) (T := TX6) (N := 8) (n := 8) htb au_6 (htb _ aw_1_211)
  obtain ⟨c7, i7, k7⟩ := u_known (C := RX7) (T := TX7) (N := 2) (n := 2) htb au_7 (htb _ aw_1_100)
  obtain ⟨c8, i8, k8⟩ := u_known (C := RX8) (T := TX8) (N := 10) (n := 10) htb au_8 (htb _ aw_1_28)
  obtain ⟨c9, i9, k9⟩ := u_known (C := RX9) (T := TX9) (N := 18) (n := 18) htb au_9 (htb _ aw_1_20)
  obtain ⟨c10, i10, k10⟩ := u_known (C := RX10) (T := TX10) (N := 62) (n := 62) htb au_10 (htb _ aw_5_118)
  have hall : ∀ k : Nat, ∃ z : ClassId × (Nat → Nat), ∀ q : vw_C, vwCl[k]? = some q → u_Kn s q.1 q.2.1 q.2.2 z.1 z.2 := fun k => by
    match k with
    | 0 => exact ⟨(c0, i0), fun q hq => by cases hq; exact k0⟩
    | 1 => exact ⟨(c1, i1), fun q hq => by cases hq; exact k1⟩
    | 2 => exact ⟨(c2, i2), fun q hq => by cases hq; exact k2⟩
    | 3 => exact ⟨(c3, i3), fun q hq => by cases hq; exact k3⟩
    | 4 => exact ⟨(c4, i4), fun q hq => by cases hq; exact k4⟩
    | 5 => exact ⟨(c5, i5), fun q hq => by cases hq; exact k5⟩
    | 6 => exact ⟨(c6, i6), fun q hq => by cases hq; exact k6⟩
    | 7 => exact ⟨(c7, i7), fun q hq => by cases hq; exact k7⟩
    | 8 => exact ⟨(c8, i8), fun q hq => by cases hq; exact k8⟩
    | 9 => exact ⟨(c9, i9), fun q hq => by cases hq; exact k9⟩
    | 10 => exact ⟨(c10, i10), fun q hq => by cases hq; exact k10⟩
    | k + 11 => exact ⟨(c0, i0), fun q hq => by simp [vwCl] at hq⟩
  obtain ⟨aI, kI, xI, fI1, fI2, fI3⟩ := Cond.arrayClass_spec (htb _ aw_1_83)
  obtain ⟨aJ, kJ, xJ, fJ1, fJ2, fJ3⟩ := Cond.arrayClass_spec (htb _ aw_1_209)
  obtain ⟨aZ, kZ, xZ, fZ1, fZ2, fZ3⟩ := Cond.arrayClass_spec (htb _ aw_2_2)
  obtain ⟨xS, aS, kS, fS1, -, fS2, fS3, fS4⟩ := Cond.arrayOver_spec (htb _ aw_1_34)
  obtain ⟨xU, aU, kU, fU1, -, fU2, fU3, fU4⟩ := Cond.arrayOver_spec (htb _ aw_1_84)
  refine ⟨(fun k => (Classical.choose (hall k)).1, fun k => (Classical.choose (hall k)).2), fun k => if k = 0 then aI else if k = 1 then aJ else if k = 2 then aZ else if k = 8 then aS else aU, fun k q hq => Classical.choose_spec (hall k) q hq, fun k q hq => ?_⟩
  match k, hq with
  | 0, hq => cases hq; exact ⟨fun N z => ⟨(fun k h => by cases h), kI, fI2, xI, fI3⟩, fI1⟩
  | 1, hq => cases hq; exact ⟨fun N z => ⟨(fun k h => by cases h), kJ, fJ2, xJ, fJ3⟩, fJ1⟩
  | 2, hq => cases hq; exact ⟨fun N z => ⟨(fun k h => by cases h), kZ, fZ2, xZ, fZ3⟩, fZ1⟩
  | 3, hq => cases hq; exact ⟨fun N z => ⟨(fun k h => by cases h), kS, fS2, xS, fS3⟩, kS, xS, fS2, fS3, fS1, fS4⟩
  | 4, hq => cases hq; exact ⟨fun N z => ⟨(fun k h => by cases h), kU, fU2, xU, fU3⟩, kU, xU, fU2, fU3, fU1, fU4⟩
  | k + 5, hq => simp [am_tys] at hq
/-- what is known of the String constant and the statics -/
theorem ws_Z {s : State} {b : Nat} (hts : ∀ w ∈ lw_tbl, w.before #[Value.ref b] s = true) (hgv : (Jvm.Cond.and given_1 narrow_1).before #[Value.ref b] s = true) : am_Z (fun q : Nat => s.heap.size ≤ q) s s.heap := by
  have hnA : ∀ a : Nat, a < s.heap.size → ¬ (fun q : Nat => s.heap.size ≤ q) a := fun a h z => absurd z (Nat.not_le.mpr h)
  have hs := flat_of_before _ hgv
  have hfl : ∀ (i : Nat) (w : Cond), (flatC (Jvm.Cond.and given_1 narrow_1))[i]? = some w → w.before #[Value.ref b] s = true := fun i w h => hs w (List.mem_of_getElem? h)
  have ht1 : ∀ w, w ∈ tables_1_1 → w.before #[Value.ref b] s = true := fun w h => hts w (List.mem_append_right _ (show w ∈ tables_1 from List.mem_append_left _ h))
  have ht3 : ∀ w, w ∈ tables_1_3 → w.before #[Value.ref b] s = true := fun w h => hts w (List.mem_append_right _ (show w ∈ tables_1 from List.mem_append_right _ (List.mem_append_right _ (List.mem_append_left _ h))))
  obtain ⟨f4, f5, f31, f32, f33, f34⟩ := fl_5
  have i0 : ∀ i : Nat, i < 1 → i = 0 := fun i hi => by omega
  obtain ⟨adK, adV, hSt, hev⟩ := vk_Sof (args := #[Value.ref b]) (s := s) (N := 1) (tm := fun _ => .string "BrokenBread$Reader" 107) (len := [145]) (byt := [am_wd]) (A := fun q : Nat => s.heap.size ≤ q) (fun i hi => by rw [i0 i hi]; decide) (fun i hi => hfl 31 _ f31) (fun i hi => hfl 32 _ f32) (fun i hi => hfl 33 _ f33) (fun i hi => by rw [i0 i hi]; exact hfl 34 _ f34) (fun i hi j hj => by rw [i0 i hi] at hj ⊢; exact hfl (35 + j) _ (fl_el j hj)) (fun i j hi hj h => absurd ((i0 i hi).trans (i0 j hj).symm) h) hnA
  refine ⟨adK 0, adV 0, ⟨fun i hi => ?_, fun i j hi hj _ => (i0 i hi).trans (i0 j hj).symm⟩, vk_R.of (A := #[Value.ref b]) (ht3 _ (List.mem_of_getElem? (i := 28) rfl)) (hev 0 (by decide)), va_Zof (args := #[Value.ref b]) (ht3 _ (List.mem_of_getElem? (i := 38) rfl)) (ht1 _ (List.mem_of_getElem? (i := 13) rfl)) (va_eqi (hfl 4 _ f4)) hnA, va_Zqof (args := #[Value.ref b]) (ht3 _ (List.mem_of_getElem? (i := 54) rfl)) (ht1 _ (List.mem_of_getElem? (i := 15) rfl)) (hfl 5 _ f5) hnA⟩
  have := hSt.1 0 (by decide)
  rw [i0 i hi]
  exact this
theorem whole_start {p : Program} {e : Env} {s : State} {m : MethodId} {below : List Frame} {meth : Method} {c : Code} (l : Launch) (hflags : l.flags = flags0) {b L : Nat} {xs : Nat → Int32} (hL : L ≤ 3072) (C0 : lw_At p s m meth c b L xs) : W p l e room_1 s m #[Value.ref b] below meth c s.heap [] 0 0 (lw_Z below #[Value.ref b] s) (entryFrame m ([Value.ref b] : List Value).toArray 4) := by
  obtain ⟨hx, hb, hr, hml, hown, hts, hX, hbl, hlocks, hgv⟩ := id C0
  have htb : ∀ w ∈ am_tbl, w.before #[Value.ref b] s = true := fun w hw => hts w (List.mem_filter.mp hw).1
  obtain ⟨D, ca, hK⟩ := ws_K htb
  have hZ := ws_Z hts hgv
  have hbA : ¬ (fun q : Nat => s.heap.size ≤ q) b := Nat.not_le.mpr hbl
  have hC : am_C D ca 312 p room_1 s m #[Value.ref b] meth c (fun q : Nat => s.heap.size ≤ q) := ⟨hx, hb, hml, hown, htb, hK, fun _ h => h, ⟨Nat.le_of_ble_eq_true rfl, Nat.le_of_ble_eq_true rfl⟩, fun h => absurd h (by decide), hZ⟩
  obtain ⟨M', kc, ks, c1, c2, n, hn⟩ := law_run (xs := xs) (Lx := L) (d := 100) (by decide) hL
  have hl := lv_entry ([Value.ref b]) (n := 4) (Nat.le_of_ble_eq_true rfl)
  rw [lg_entry_eq]
  generalize (lg_sl ([Value.ref b]) ++ List.replicate (4 - (lg_sl ([Value.ref b])).length) Slot.unset).toArray = ls at hl ⊢
  have hl : lv_has ls 4 [(0, .ref b)] := hl
  have z19 : ∀ c n, n < (am_mk m00).2.2.2.2 c → c = 19 := fun c n h => by
    have h : n < (if c = 19 then 1 else 0) := h
    by_cases z : c = 19
    · exact z
    · rw [if_neg z] at h; exact absurd h (Nat.not_lt_zero _)
  have hJ : am_J D ca s (fun q : Nat => s.heap.size ≤ q) (fun _ _ => b) s.heap [] ls (am_ml 312) [some (.inr (.inr (some (19, 0)))), none, none, none] [] (am_mk m00) := by
    refine ⟨⟨⟨fun c n h1 h2 => absurd (z19 c n h1) h2, fun c n c' n' h1 h2 h3 => absurd (z19 c n h1) h3, fun c n k j h1 h2 => ?_⟩, fun c n h1 h2 => absurd (z19 c n h1) h2, va_S.rf⟩, ⟨hl.1, hl.2.1, fun i v h => ?_⟩, fun v h => absurd h List.not_mem_nil, fun i v h => ?_⟩
    · rw [z19 c n h1] at h2
      cases h2
    · rcases i with _ | _ | _ | _ | i
      · cases h
        exact hl.2.2 (0, .ref b) List.mem_cons_self
      · cases h
      · cases h
      · cases h
      · cases i <;> cases h
    · rcases i with _ | _ | _ | _ | i
      · cases h
        show 0 < C00 19
        decide
      · cases h
      · cases h
      · cases h
      · cases i <;> cases h
  refine am_main2 (D := D) (ca := ca) (l := l) (e := e) (cod := codL xs L) (C := am_Ex am_cod 100) (d := 100) (fun k' as M r1 M1 k1 s1 h ad sz => am_Ex_met am_hcod D ca l 100 k' as M r1 M1 k1 s1 h ad sz) (k := 312) (ad0 := fun _ _ => b) (M0 := am_mk m00) (fun pc L0 st M ad H locs ls cells slots hJ hB => codL_ok hC hX hbl hbA hJ (hB.1 19 0 (show 0 < C00 19 by decide))) (Nat.le_of_ble_eq_true rfl) (Nat.le_of_ble_eq_true rfl) (kT := kc) (sT := ks) (Nat.le_trans c1 (Nat.le_of_ble_eq_true rfl)) (Nat.le_trans c2 (Nat.le_of_ble_eq_true rfl)) (r := some (.inl 1)) (M' := M') ?_ n 0 [some (.inr (.inr (some (19, 0)))), none, none, none] [] (am_mk m00) kc ks hn (fun _ _ => b) s.heap [] ls 0 0 hJ ⟨fun _ _ _ => rfl, fun _ => Nat.le_refl _⟩ (Nat.zero_add _) (Nat.zero_add _)
  intro ad H locs ls pc i hd hro hJ hB
  have hro : am_ro i (some .boolean) (some (.inl 1)) := hro
  have hd : decode code pc = .ok (i, 1) := hd
  cases i <;> first | exact hro.elim | skip
  refine va_forget (fun q hq => hJ.1.2.2.2.2 q hq) ?_
  refine W.widen (k := 600000) (n := 7302250) (Nat.le_trans c1 (Nat.le_of_ble_eq_true rfl)) (Nat.le_trans c2 (Nat.le_of_ble_eq_true rfl)) ?_
  exact lw_ret hx hb hr hlocks hd
