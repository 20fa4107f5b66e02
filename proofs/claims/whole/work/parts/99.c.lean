/-! the law: its own run; the script is no cell of the memory (its reference has the sort 19), it is read as it lies -/
def pcI : List Nat := [29, 217, 226, 240, 245, 254, 259, 273, 278, 283, 292, 297, 302, 316, 321, 330, 335, 349, 354, 359, 364, 369, 378, 383, 388, 393, 398, 412, 421, 513, 522, 536, 541, 546, 555, 560, 565, 579, 588, 602, 607, 616, 621, 661, 670, 684, 693, 707, 716, 730, 739, 753, 758, 767, 772, 786, 791, 796, 805, 810, 815, 842, 851, 865, 874, 901, 910, 924, 933, 947, 952, 961, 966, 980, 989, 1003, 1012, 1026, 1031, 1040, 1045, 1060, 1069, 1083, 1088, 1097, 1102, 1116, 1121, 1130, 1135, 1149, 1158, 1172, 1181, 1195, 1204]
theorem pcI_ok : ∀ pc ∈ pcI, decode (am_by 312) pc = .ok (.iaload, 1) := by decide +kernel
theorem pc20_ok : decode (am_by 312) 20 = .ok (.arraylength, 1) := by decide +kernel
def am_o_sld (xs : Nat → Int32) (Lx : Nat) : am_S → am_R
  | (pc, L, .inl i :: .inr (.inr (some (19, 0))) :: st, M) => if i < 0 ∨ Lx ≤ i.toNatClampNeg then am_no else am_c (pc + 1, L, .inl (xs i.toNatClampNeg) :: st, M)
  | _ => am_no
def am_o_slen (Lx : Nat) : am_S → am_R
  | (pc, L, .inr (.inr (some (19, 0))) :: st, M) => am_c (pc + 1, L, .inl (Int32.ofNat Lx) :: st, M)
  | _ => am_no
def am_scr (xs : Nat → Int32) (Lx : Nat) (pc : Nat) (S : am_S) : am_R := if pcI.contains pc = true then am_o_sld xs Lx S else if pc = 20 then am_o_slen Lx S else am_no
def am_fb (r r' : am_R) : am_R := match r with
  | .inr (.inr (.inr _)) => r'
  | .inl x => .inl x
  | .inr (.inl x) => .inr (.inl x)
  | .inr (.inr (.inl x)) => .inr (.inr (.inl x))
def codL (xs : Nat → Int32) (Lx : Nat) (_k pc : Nat) (S : am_S) : am_R := am_fb (am_look at_312 pc S) (am_scr xs Lx pc S)
section CL
variable {D : va_G} {ca : Nat → ClassId} {p : Program} {l : Launch} {e : Env} {R : Room} {s : State} {m : MethodId} {args : Array Value} {below : List Frame} {meth : Method} {c : Code} {A : Nat → Prop} {Q : State → Prop} {b Lx : Nat} {xs : Nat → Int32}
theorem am_scr_ok (hC : am_C D ca 312 p R s m args meth c A) (hX : va_X b Lx xs s s.heap) (hbl : b < s.heap.size) (hbA : ¬ A b) {pc : Nat} {L : List (Option am_V)} {st : List am_V} {M : am_M} {ad : Nat → Nat → Nat} {H : Heap} {locs : List Loc} {ls : Array Slot} {cells slots : Nat} (hJ : am_J D ca s A ad H locs ls (am_ml 312) L st M) (had : ad 19 0 = b) : am_post D ca 312 p l e R s m args below meth c A Q pc st M ad H locs ls cells slots (am_scr xs Lx pc (pc, L, st, M)) := by
  unfold am_scr
  by_cases h1 : pcI.contains pc = true
  · rw [if_pos h1]
    have hd := pcI_ok pc (List.contains_iff_mem.mp h1)
    clear h1
    rcases st with _ | ⟨i | (i | i), _ | ⟨x | (x | (_ | ⟨cc, n⟩)), rest⟩⟩ <;> try exact True.intro
    by_cases hcc : cc = 19
    · subst hcc
      by_cases hn : n = 0
      · subst hn
        by_cases hi : i < 0 ∨ Lx ≤ i.toNatClampNeg
        · rw [show am_o_sld xs Lx (pc, L, .inl i :: .inr (.inr (some (19, 0))) :: rest, M) = am_no from if_pos hi]; exact True.intro
        · rw [show am_o_sld xs Lx (pc, L, .inl i :: .inr (.inr (some (19, 0))) :: rest, M) = am_c (pc + 1, L, .inl (xs i.toNatClampNeg) :: rest, M) from if_neg hi]
          intro _ _ kk
          have kk := kk ad H locs ls ⟨hJ.1, hJ.2.1, am_cn trivial (am_tl (am_tl hJ.2.2.1)), hJ.2.2.2⟩ ⟨fun _ _ _ => rfl, fun _ => Nat.le_refl _⟩
          show W p l e R s m args below meth c H locs cells slots Q (F0 m pc ls (.int i :: .ref (ad 19 0) :: rest.map (am_cv ad)))
          rw [had]
          exact va_sld hC.1 hC.2.1 hX hbl hbA hJ.1.2.2 hi hd kk
      · have e : am_o_sld xs Lx (pc, L, .inl i :: .inr (.inr (some (19, n))) :: rest, M) = am_no := by
          rcases n with _ | n
          · exact absurd rfl hn
          · rfl
        rw [e]; exact True.intro
    · have e : am_o_sld xs Lx (pc, L, .inl i :: .inr (.inr (some (cc, n))) :: rest, M) = am_no := by
        unfold am_o_sld
        split
        · rename_i h
          simp only [Prod.mk.injEq, List.cons.injEq, Sum.inr.injEq, Option.some.injEq] at h
          exact absurd h.2.2.1.2.1.1 hcc
        · rfl
      rw [e]; exact True.intro
  · rw [if_neg h1]
    clear h1
    by_cases h2 : pc = 20
    · rw [if_pos h2]
      subst h2
      rcases st with _ | ⟨x | (x | (_ | ⟨cc, n⟩)), rest⟩ <;> try exact True.intro
      by_cases hcc : cc = 19 ∧ n = 0
      · obtain ⟨rfl, rfl⟩ := hcc
        show am_post D ca 312 p l e R s m args below meth c A Q 20 _ M ad H locs ls cells slots (am_c (20 + 1, L, .inl (Int32.ofNat Lx) :: rest, M))
        intro _ _ kk
        have kk := kk ad H locs ls ⟨hJ.1, hJ.2.1, am_cn trivial (am_tl hJ.2.2.1), hJ.2.2.2⟩ ⟨fun _ _ _ => rfl, fun _ => Nat.le_refl _⟩
        show W p l e R s m args below meth c H locs cells slots Q (F0 m 20 ls (.ref (ad 19 0) :: rest.map (am_cv ad)))
        rw [had]
        exact va_slen hC.1 hC.2.1 hX hbl hbA hJ.1.2.2 pc20_ok kk
      · have e : am_o_slen Lx (20, L, .inr (.inr (some (cc, n))) :: rest, M) = am_no := by
          unfold am_o_slen
          split
          · rename_i h
            simp only [Prod.mk.injEq, List.cons.injEq, Sum.inr.injEq, Option.some.injEq] at h
            exact absurd h.2.2.1.1 hcc
          · rfl
        rw [e]; exact True.intro
    · rw [if_neg h2]; exact True.intro
theorem codL_ok (hC : am_C D ca 312 p R s m args meth c A) (hX : va_X b Lx xs s s.heap) (hbl : b < s.heap.size) (hbA : ¬ A b) {pc : Nat} {L : List (Option am_V)} {st : List am_V} {M : am_M} {ad : Nat → Nat → Nat} {H : Heap} {locs : List Loc} {ls : Array Slot} {cells slots : Nat} (hJ : am_J D ca s A ad H locs ls (am_ml 312) L st M) (had : ad 19 0 = b) : am_post D ca 312 p l e R s m args below meth c A Q pc st M ad H locs ls cells slots (codL xs Lx 312 pc (pc, L, st, M)) := by
  have h1 := am_look_snd (k := 312) at_312 pc aq_312 D ca p l e R s m args below meth c A Q hC L st M ad H locs ls cells slots hJ
  have h2 := am_scr_ok (l := l) (e := e) (below := below) (Q := Q) hC hX hbl hbA (pc := pc) (cells := cells) (slots := slots) hJ had
  unfold codL
  generalize am_look at_312 pc (pc, L, st, M) = res at h1
  rcases res with x | x | x | x
  · exact h1
  · exact h1
  · exact h1
  · exact h2
/-- the walk, by what is sound here -/
theorem am_main2 {cod : Nat → Nat → am_S → am_R} {C : Nat → List am_V → am_M → Option am_V → am_M → Nat → Nat → Prop} {d : Nat} (hCC : ∀ k' as M r1 M1 k1 s1, C k' as M r1 M1 k1 s1 → ∀ ad sz, Met l (am_y k') (am_ws k') (am_rm d k1 s1) (am_Pc D ca ad sz as M) (am_Qc D ca ad sz M r1 M1) k1 s1 (am_fr ad M sz))
    {k : Nat} {ad0 : Nat → Nat → Nat} {M0 : am_M} (hcod : ∀ (pc : Nat) (L : List (Option am_V)) (st : List am_V) (M : am_M) (ad : Nat → Nat → Nat) (H : Heap) (locs : List Loc) (ls : Array Slot) (cells slots : Nat), am_J D ca s A ad H locs ls (am_ml k) L st M → am_B ad0 M0 ad M → am_post D ca k p l e R s m args below meth c A Q pc st M ad H locs ls cells slots (cod k pc (pc, L, st, M)))
    (hf : d + 6 ≤ R.frames) (hlo : 64 * (d + 6) ≤ R.locals) {kT sT : Nat} (hkT : kT ≤ R.cells) (hsT : sT ≤ R.slots) {r : Option am_V} {M' : am_M}
    (hq : ∀ (ad : Nat → Nat → Nat) (H : Heap) (locs : List Loc) (ls : Array Slot) (pc : Nat) (i : Instr), decode (am_by k) pc = .ok (i, 1) → am_ro i (am_rt k) r → am_J D ca s A ad H locs ls (am_ml k) [] r.toList M' → am_B ad0 M0 ad M' → W p l e R s m args below meth c H locs kT sT Q (F0 m pc ls (r.toList.map (am_cv ad)))) :
    ∀ (n : Nat) (pc : Nat) (L : List (Option am_V)) (st : List am_V) (M : am_M) (kc ks : Nat), am_Rn cod C k n (pc, L, st, M) r M' kc ks → ∀ (ad : Nat → Nat → Nat) (H : Heap) (locs : List Loc) (ls : Array Slot) (cells slots : Nat), am_J D ca s A ad H locs ls (am_ml k) L st M → am_B ad0 M0 ad M → cells + kc = kT → slots + ks = sT → W p l e R s m args below meth c H locs cells slots Q (F0 m pc ls (st.map (am_cv ad))) := by
  intro n
  induction n with
  | zero => intro pc L st M kc ks h; exact h.elim
  | succ n ih =>
    intro pc L st M kc ks h ad H locs ls cells slots hJ hB h1 h2
    obtain ⟨L0, hle, h⟩ := h
    have hJ : am_J D ca s A ad H locs ls (am_ml k) L0 st M := ⟨hJ.1, ⟨hJ.2.1.1, hJ.2.1.2.1, fun i v hv => hJ.2.1.2.2 i v (am_le_get _ _ hle i v hv)⟩, hJ.2.2.1, fun i v hv => hJ.2.2.2 i v (am_le_get _ _ hle i v hv)⟩
    have hs := hcod pc L0 st M ad H locs ls cells slots hJ hB
    have h : (match cod k pc (pc, L0, st, M) with
      | .inl (S', dc, ds) => ∃ kc' ks', kc = dc + kc' ∧ ks = ds + ks' ∧ am_Rn cod C k n S' r M' kc' ks'
      | .inr (.inl (r0, M0)) => r = r0 ∧ M' = M0 ∧ kc = 0 ∧ ks = 0
      | .inr (.inr (.inl (k', as, M, pc', L', rest))) => ∃ r1 M1 k1 s1 kc' ks', C k' as M r1 M1 k1 s1 ∧ kc = k1 + kc' ∧ ks = s1 + ks' ∧ am_Rn cod C k n (pc', L', r1.toList ++ rest, M1) r M' kc' ks'
      | .inr (.inr (.inr _)) => False) := h
    generalize cod k pc (pc, L0, st, M) = res at h hs
    rcases res with ⟨⟨pc', L', st', M2⟩, dc, ds⟩ | ⟨r0, M0⟩ | ⟨k', as, M2, pc', L', rest⟩ | u
    · obtain ⟨kc', ks', e1, e2, h3⟩ := h
      refine hs (by omega) (by omega) (fun ad' H' locs' ls' hJ' hB' => ?_)
      exact ih pc' L' st' M2 kc' ks' h3 ad' H' locs' ls' (cells + dc) (slots + ds) hJ' (hB.tr hB') (by omega) (by omega)
    · obtain ⟨rfl, rfl, rfl, rfl⟩ := h
      have e1 : cells = kT := by omega
      have e2 : slots = sT := by omega
      subst e1; subst e2
      exact hs (fun i hd hro hJ' hB' => hq ad H locs ls pc i hd hro hJ' (hB.tr hB'))
    · obtain ⟨r1, M1, k1, s1, kc', ks', hc, e1, e2, h3⟩ := h
      refine hs d r1 M1 k1 s1 (fun sz => hCC k' as M2 r1 M1 k1 s1 hc ad sz) hf hlo (by omega) (by omega) (fun ad' H' locs' ls' hJ' hB' => ?_)
      exact ih pc' L' _ M1 kc' ks' h3 ad' H' locs' ls' (cells + k1) (slots + s1) hJ' (hB.tr hB') (by omega) (by omega)
    · exact h.elim
end CL
/-! its steps -/
def GL (xs : Nat → Int32) (Lx d : Nat) (S : am_S) (r : Option am_V) (M' : am_M) (kc ks : Nat) : Prop := ∃ n, am_Rn (codL xs Lx) (am_Ex am_cod d) 312 n S r M' kc ks
section GLS
variable {xs : Nat → Int32} {Lx d kc ks : Nat} {S S' : am_S} {r : Option am_V} {M' : am_M}
theorem GL.st (h : codL xs Lx 312 S.1 S = am_c S') (g : GL xs Lx d S' r M' kc ks) : GL xs Lx d S r M' kc ks := by
  obtain ⟨n, hn⟩ := g
  refine ⟨n + 1, S.2.1, am_le_rf, ?_⟩
  rw [show (S.1, S.2.1, S.2.2.1, S.2.2.2) = S from rfl, h]
  exact ⟨kc, ks, (Nat.zero_add _).symm, (Nat.zero_add _).symm, hn⟩
theorem GL.c1 (h : am_look at_312 S.1 S = am_c S') (g : GL xs Lx d S' r M' kc ks) : GL xs Lx d S r M' kc ks := GL.st (by unfold codL; rw [h]; rfl) g
theorem GL.o (op : am_S → am_R) (h0 : am_look at_312 S.1 S = op S) (h : op S = am_c S') (g : GL xs Lx d S' r M' kc ks) : GL xs Lx d S r M' kc ks := GL.c1 (h0.trans h) g
theorem GL.n (n : Nat) {S S' : am_S} (h : am_st at_312 n S = some S') (g : GL xs Lx d S' r M' kc ks) : GL xs Lx d S r M' kc ks := by
  induction n generalizing S with
  | zero => cases h; exact g
  | succ n ih =>
    unfold am_st at h
    split at h
    · rename_i S2 h2
      exact GL.c1 h2 (ih h)
    · cases h
theorem GL.rt {M : am_M} (h : am_look at_312 S.1 S = .inr (.inl (r, M))) : GL xs Lx d S r M 0 0 := by
  refine ⟨1, S.2.1, am_le_rf, ?_⟩
  have h2 : codL xs Lx 312 S.1 S = .inr (.inl (r, M)) := by unfold codL; rw [h]; rfl
  rw [show (S.1, S.2.1, S.2.2.1, S.2.2.2) = S from rfl, h2]
  exact ⟨rfl, rfl, rfl, rfl⟩
theorem GL.al {dc ds : Nat} (op : am_S → am_R) (h0 : am_look at_312 S.1 S = op S) (h : op S = .inl (S', dc, ds)) (g : GL xs Lx d S' r M' kc ks) : GL xs Lx d S r M' (dc + kc) (ds + ks) := by
  obtain ⟨n, hn⟩ := g
  refine ⟨n + 1, S.2.1, am_le_rf, ?_⟩
  have h2 : codL xs Lx 312 S.1 S = .inl (S', dc, ds) := by unfold codL; rw [h0, h]; rfl
  rw [show (S.1, S.2.1, S.2.2.1, S.2.2.2) = S from rfl, h2]
  exact ⟨kc, ks, rfl, rfl, hn⟩
theorem GL.ca {k' pc' k1 s1 : Nat} {as rest : List am_V} {L' : List (Option am_V)} {M M1 : am_M} {r1 : Option am_V} (h : am_look at_312 S.1 S = .inr (.inr (.inl (k', as, M, pc', L', rest)))) (hc : am_Ex am_cod d k' as M r1 M1 k1 s1) (g : GL xs Lx d (pc', L', r1.toList ++ rest, M1) r M' kc ks) : GL xs Lx d S r M' (k1 + kc) (s1 + ks) := by
  obtain ⟨n, hn⟩ := g
  refine ⟨n + 1, S.2.1, am_le_rf, ?_⟩
  have h2 : codL xs Lx 312 S.1 S = .inr (.inr (.inl (k', as, M, pc', L', rest))) := by unfold codL; rw [h]; rfl
  rw [show (S.1, S.2.1, S.2.2.1, S.2.2.2) = S from rfl, h2]
  exact ⟨r1, M1, k1, s1, kc, ks, hc, rfl, rfl, hn⟩
theorem GL.cl {k' pc' : Nat} {as rest : List am_V} {L' : List (Option am_V)} {M M1 : am_M} {r1 : Option am_V} (h : am_look at_312 S.1 S = .inr (.inr (.inl (k', as, M, pc', L', rest)))) (hc : am_Ex am_cod d k' as M r1 M1 0 0) (g : GL xs Lx d (pc', L', r1.toList ++ rest, M1) r M' kc ks) : GL xs Lx d S r M' kc ks := by
  have h2 := GL.ca h hc g
  rw [Nat.zero_add, Nat.zero_add] at h2
  exact h2
/-- a number of the script is read -/
theorem GL.ld {pc : Nat} {L : List (Option am_V)} {st : List am_V} {M : am_M} {i : Int32} (h0 : am_look at_312 pc (pc, L, .inl i :: .inr (.inr (some (19, 0))) :: st, M) = am_no) (hp : pcI.contains pc = true) (hi : ¬ (i < 0 ∨ Lx ≤ i.toNatClampNeg)) (g : GL xs Lx d (pc + 1, L, .inl (xs i.toNatClampNeg) :: st, M) r M' kc ks) : GL xs Lx d (pc, L, .inl i :: .inr (.inr (some (19, 0))) :: st, M) r M' kc ks := by
  refine GL.st (S' := (pc + 1, L, .inl (xs i.toNatClampNeg) :: st, M)) ?_ g
  show am_fb (am_look at_312 pc (pc, L, .inl i :: .inr (.inr (some (19, 0))) :: st, M)) (am_scr xs Lx pc (pc, L, .inl i :: .inr (.inr (some (19, 0))) :: st, M)) = _
  rw [h0]
  show am_scr xs Lx pc _ = _
  unfold am_scr
  rw [if_pos hp]
  exact if_neg hi
end GLS
