/-! rows: soundness -/
theorem am_stI {cA : ClassId} {n k : Nat} {f : Nat → Int32} {x : Int32} : (vp_cell cA (n, .inl f)).setSlot k (.int x) = vp_cell cA (n, .inl (fun z => if z = k then x else f z)) := by
  rw [vp_cell_i, vp_cell_i, arrV_store]
  congr 1
  funext q
  by_cases hq : q = k <;> simp [updV, hq]
theorem am_stL {cA : ClassId} {n k : Nat} {f : Nat → Int64} {x : Int64} : (vp_cell cA (n, .inr (.inl f))).setSlot k (.long x) = vp_cell cA (n, .inr (.inl (fun z => if z = k then x else f z))) := by
  rw [vp_cell_l, vp_cell_l, arrV_store]
  congr 1
  funext q
  by_cases hq : q = k <;> simp [updV, hq]
theorem am_stQ {cA : ClassId} {n k : Nat} {f : Nat → Option Nat} {x : Option Nat} : (vp_cell cA (n, .inr (.inr (.inr (.inr f))))).setSlot k (va_rf x) = vp_cell cA (n, .inr (.inr (.inr (.inr (fun z => if z = k then x else f z))))) := by
  rw [vp_cell_q, vp_cell_q, arrV_store]
  congr 1
  funext q
  by_cases hq : q = k <;> simp [updV, hq]
section ARR
variable {k pc : Nat}
theorem am_s_iald (hd : decode (am_by k) pc = .ok (.iaload, 1)) : am_snd k am_o_iald pc := by
  intro D ca p l e R s m args below meth c A Q hC L st M ad H locs ls cells slots hJ
  rcases st with _ | ⟨i | (i | i), _ | ⟨x | (x | (_ | ⟨cc, n⟩)), rest⟩⟩ <;> try trivial
  by_cases hcc : 20 ≤ cc ∧ cc < 80
  · by_cases hi : i < 0 ∨ M.2.2.2.1 cc n ≤ i.toNatClampNeg
    · rw [show am_o_iald (pc, L, .inl i :: .inr (.inr (some (cc, n))) :: rest, M) = am_no from (if_pos hcc).trans (if_pos hi)]; trivial
    · rw [show am_o_iald (pc, L, .inl i :: .inr (.inr (some (cc, n))) :: rest, M) = am_c (pc + 1, L, .inl (M.1 cc n i.toNatClampNeg) :: rest, M) from (if_pos hcc).trans (if_neg hi)]
      have hn : n < M.2.2.2.2 cc := am_hd (am_tl hJ.2.2.1)
      have hv := hJ.1.1.1 cc n hn (by omega)
      rw [am_en_i hcc] at hv
      exact fun _ _ kk => va_iald hC.1 hC.2.1 hC.2.2.2.2.2.1 (am_one hv) 0 0 rfl rfl hi hd (kk ad H locs ls ⟨hJ.1, hJ.2.1, am_cn trivial (am_tl (am_tl hJ.2.2.1)), hJ.2.2.2⟩ ⟨fun _ _ _ => rfl, fun _ => Nat.le_refl _⟩)
  · rw [show am_o_iald (pc, L, .inl i :: .inr (.inr (some (cc, n))) :: rest, M) = am_no from if_neg hcc]; trivial
theorem am_s_lald (hd : decode (am_by k) pc = .ok (.laload, 1)) : am_snd k am_o_lald pc := by
  intro D ca p l e R s m args below meth c A Q hC L st M ad H locs ls cells slots hJ
  rcases st with _ | ⟨i | (i | i), _ | ⟨x | (x | (_ | ⟨cc, n⟩)), rest⟩⟩ <;> try trivial
  by_cases hcc : 80 ≤ cc ∧ cc < 90
  · by_cases hi : i < 0 ∨ M.2.2.2.1 cc n ≤ i.toNatClampNeg
    · rw [show am_o_lald (pc, L, .inl i :: .inr (.inr (some (cc, n))) :: rest, M) = am_no from (if_pos hcc).trans (if_pos hi)]; trivial
    · rw [show am_o_lald (pc, L, .inl i :: .inr (.inr (some (cc, n))) :: rest, M) = am_c (pc + 1, L, .inr (.inl (M.2.1 cc n i.toNatClampNeg)) :: rest, M) from (if_pos hcc).trans (if_neg hi)]
      have hn : n < M.2.2.2.2 cc := am_hd (am_tl hJ.2.2.1)
      have hv := hJ.1.1.1 cc n hn (by omega)
      rw [am_en_l hcc] at hv
      exact fun _ _ kk => va_lald hC.1 hC.2.1 hC.2.2.2.2.2.1 (am_one hv) 0 1 rfl rfl hi hd (kk ad H locs ls ⟨hJ.1, hJ.2.1, am_cn trivial (am_tl (am_tl hJ.2.2.1)), hJ.2.2.2⟩ ⟨fun _ _ _ => rfl, fun _ => Nat.le_refl _⟩)
  · rw [show am_o_lald (pc, L, .inl i :: .inr (.inr (some (cc, n))) :: rest, M) = am_no from if_neg hcc]; trivial
theorem am_s_zald (hd : decode (am_by k) pc = .ok (.baload, 1)) : am_snd k am_o_zald pc := by
  intro D ca p l e R s m args below meth c A Q hC L st M ad H locs ls cells slots hJ
  rcases st with _ | ⟨i | (i | i), _ | ⟨x | (x | (_ | ⟨cc, n⟩)), rest⟩⟩ <;> try trivial
  by_cases hcc : 90 ≤ cc ∧ cc < 100
  · by_cases hi : i < 0 ∨ M.2.2.2.1 cc n ≤ i.toNatClampNeg
    · rw [show am_o_zald (pc, L, .inl i :: .inr (.inr (some (cc, n))) :: rest, M) = am_no from (if_pos hcc).trans (if_pos hi)]; trivial
    · rw [show am_o_zald (pc, L, .inl i :: .inr (.inr (some (cc, n))) :: rest, M) = am_c (pc + 1, L, .inl (M.1 cc n i.toNatClampNeg) :: rest, M) from (if_pos hcc).trans (if_neg hi)]
      have hn : n < M.2.2.2.2 cc := am_hd (am_tl hJ.2.2.1)
      have hv := hJ.1.1.1 cc n hn (by omega)
      rw [am_en_z hcc] at hv
      exact fun _ _ kk => va_zald hC.1 hC.2.1 hC.2.2.2.2.2.1 (am_one hv) 0 2 rfl rfl hi hd (kk ad H locs ls ⟨hJ.1, hJ.2.1, am_cn trivial (am_tl (am_tl hJ.2.2.1)), hJ.2.2.2⟩ ⟨fun _ _ _ => rfl, fun _ => Nat.le_refl _⟩)
  · rw [show am_o_zald (pc, L, .inl i :: .inr (.inr (some (cc, n))) :: rest, M) = am_no from if_neg hcc]; trivial
theorem am_cv_map {ad : Nat → Nat → Nat} {t : Nat} {o : Option Nat} : am_cv ad (.inr (.inr (o.map (fun j => (t, j))))) = va_rf (o.map (ad t)) := by
  cases o <;> rfl
theorem am_ok_map {M : am_M} {t : Nat} {o : Option Nat} (h : ∀ j, o = some j → j < M.2.2.2.2 t) : am_ok M (.inr (.inr (o.map (fun j => (t, j))))) := by
  cases o with
  | none => trivial
  | some j => exact h j rfl
theorem am_s_aald (hd : decode (am_by k) pc = .ok (.aaload, 1)) : am_snd k am_o_aald pc := by
  intro D ca p l e R s m args below meth c A Q hC L st M ad H locs ls cells slots hJ
  rcases st with _ | ⟨i | (i | i), _ | ⟨x | (x | (_ | ⟨cc, n⟩)), rest⟩⟩ <;> try trivial
  by_cases hcc : cc = 100
  · subst hcc
    by_cases hi : i < 0 ∨ M.2.2.2.1 100 n ≤ i.toNatClampNeg
    · rw [show am_o_aald (pc, L, .inl i :: .inr (.inr (some (100, n))) :: rest, M) = am_no from if_pos hi]; trivial
    · rw [show am_o_aald (pc, L, .inl i :: .inr (.inr (some (100, n))) :: rest, M) = am_c (pc + 1, L, .inr (.inr ((M.2.2.1 100 n i.toNatClampNeg).map (fun j => (5, j)))) :: rest, M) from if_neg hi]
      have hn : n < M.2.2.2.2 100 := am_hd (am_tl hJ.2.2.1)
      have hv := hJ.1.1.1 100 n hn (by omega)
      rw [am_en_s] at hv
      refine fun _ _ kk => va_aldq hC.1 hC.2.1 hC.2.2.2.2.2.1 (am_one hv) 0 3 rfl rfl hi hd ?_
      have kk := kk ad H locs ls ⟨hJ.1, hJ.2.1, am_cn (am_ok_map (fun j hj => hJ.1.1.2.2 100 n _ j hn hj)) (am_tl (am_tl hJ.2.2.1)), hJ.2.2.2⟩ ⟨fun _ _ _ => rfl, fun _ => Nat.le_refl _⟩
      rw [List.map_cons, am_cv_map] at kk
      exact kk
  · by_cases hc2 : cc = 101
    · subst hc2
      by_cases hi : i < 0 ∨ M.2.2.2.1 101 n ≤ i.toNatClampNeg
      · rw [show am_o_aald (pc, L, .inl i :: .inr (.inr (some (101, n))) :: rest, M) = am_no from if_pos hi]; trivial
      · rw [show am_o_aald (pc, L, .inl i :: .inr (.inr (some (101, n))) :: rest, M) = am_c (pc + 1, L, .inr (.inr ((M.2.2.1 101 n i.toNatClampNeg).map (fun j => (8, j)))) :: rest, M) from if_neg hi]
        have hn : n < M.2.2.2.2 101 := am_hd (am_tl hJ.2.2.1)
        have hv := hJ.1.1.1 101 n hn (by omega)
        rw [am_en_u] at hv
        refine fun _ _ kk => va_aldq hC.1 hC.2.1 hC.2.2.2.2.2.1 (am_one hv) 0 4 rfl rfl hi hd ?_
        have kk := kk ad H locs ls ⟨hJ.1, hJ.2.1, am_cn (am_ok_map (fun j hj => hJ.1.1.2.2 101 n _ j hn hj)) (am_tl (am_tl hJ.2.2.1)), hJ.2.2.2⟩ ⟨fun _ _ _ => rfl, fun _ => Nat.le_refl _⟩
        rw [List.map_cons, am_cv_map] at kk
        exact kk
    · rw [show am_o_aald (pc, L, .inl i :: .inr (.inr (some (cc, n))) :: rest, M) = am_no from (if_neg hcc).trans (if_neg hc2)]; trivial
theorem am_s_iast (hd : decode (am_by k) pc = .ok (.iastore, 1)) : am_snd k am_o_iast pc := by
  intro D ca p l e R s m args below meth c A Q hC L st M ad H locs ls cells slots hJ
  rcases st with _ | ⟨v | (v | v), _ | ⟨i | (i | i), _ | ⟨x | (x | (_ | ⟨cc, n⟩)), rest⟩⟩⟩ <;> try trivial
  by_cases hcc : 20 ≤ cc ∧ cc < 79
  · by_cases hi : i < 0 ∨ M.2.2.2.1 cc n ≤ i.toNatClampNeg
    · rw [show am_o_iast (pc, L, .inl v :: .inl i :: .inr (.inr (some (cc, n))) :: rest, M) = am_no from (if_pos hcc).trans (if_pos hi)]; trivial
    · rw [show am_o_iast (pc, L, .inl v :: .inl i :: .inr (.inr (some (cc, n))) :: rest, M) = am_c (pc + 1, L, rest, (am_u3 M.1 cc n i.toNatClampNeg v, M.2)) from (if_pos hcc).trans (if_neg hi)]
      have hn : n < M.2.2.2.2 cc := am_hd (am_tl (am_tl hJ.2.2.1))
      have hv := hJ.1.1.1 cc n hn (by omega)
      have hc8 : 20 ≤ cc ∧ cc < 80 := by omega
      rw [am_en_i hc8] at hv
      refine fun _ _ kk => W.iast hC.1 hC.2.1 hv ((hC.2.2.2.2.2.1.2 0 _ rfl).1 _ (fun j => .int (M.1 cc n j))) (fun q => by cases q) (by show ¬ (i < 0 ∨ (arrV _ _ _).slots.size ≤ _); rw [arrV_size]; exact hi) rfl rfl hd (fun H1 e1 z oq => ?_)
      refine kk ad H1 _ ls ⟨hJ.1.put hn (by omega) (by omega) rfl ?_ z oq am_smI (fun k' j hj => hJ.1.1.2.2 cc n k' j hn hj), hJ.2.1, am_tl (am_tl (am_tl hJ.2.2.1)), hJ.2.2.2⟩ ⟨fun _ _ _ => rfl, fun _ => Nat.le_refl _⟩
      rw [am_en_i hc8]
      show H1[ad cc n]? = some (vp_cell (ca 0) (M.2.2.2.1 cc n, .inl (am_u3 M.1 cc n i.toNatClampNeg v cc n)))
      rw [am_u3_eq, e1]
      exact congrArg some am_stI
  · rw [show am_o_iast (pc, L, .inl v :: .inl i :: .inr (.inr (some (cc, n))) :: rest, M) = am_no from if_neg hcc]; trivial
theorem am_s_last (hd : decode (am_by k) pc = .ok (.lastore, 1)) : am_snd k am_o_last pc := by
  intro D ca p l e R s m args below meth c A Q hC L st M ad H locs ls cells slots hJ
  rcases st with _ | ⟨v | (v | v), _ | ⟨i | (i | i), _ | ⟨x | (x | (_ | ⟨cc, n⟩)), rest⟩⟩⟩ <;> try trivial
  by_cases hcc : 80 ≤ cc ∧ cc < 90
  · by_cases hi : i < 0 ∨ M.2.2.2.1 cc n ≤ i.toNatClampNeg
    · rw [show am_o_last (pc, L, .inr (.inl v) :: .inl i :: .inr (.inr (some (cc, n))) :: rest, M) = am_no from (if_pos hcc).trans (if_pos hi)]; trivial
    · rw [show am_o_last (pc, L, .inr (.inl v) :: .inl i :: .inr (.inr (some (cc, n))) :: rest, M) = am_c (pc + 1, L, rest, (M.1, am_u3 M.2.1 cc n i.toNatClampNeg v, M.2.2)) from (if_pos hcc).trans (if_neg hi)]
      have hn : n < M.2.2.2.2 cc := am_hd (am_tl (am_tl hJ.2.2.1))
      have hv := hJ.1.1.1 cc n hn (by omega)
      rw [am_en_l hcc] at hv
      refine fun _ _ kk => W.last hC.1 hC.2.1 hv ((hC.2.2.2.2.2.1.2 1 _ rfl).1 _ (fun j => .long (M.2.1 cc n j))) (fun q => by cases q) (by show ¬ (i < 0 ∨ (arrV _ _ _).slots.size ≤ _); rw [arrV_size]; exact hi) rfl rfl hd (fun H1 e1 z oq => ?_)
      refine kk ad H1 _ ls ⟨hJ.1.put hn (by omega) (by omega) rfl ?_ z oq am_smG (fun k' j hj => hJ.1.1.2.2 cc n k' j hn hj), hJ.2.1, am_tl (am_tl (am_tl hJ.2.2.1)), hJ.2.2.2⟩ ⟨fun _ _ _ => rfl, fun _ => Nat.le_refl _⟩
      rw [am_en_l hcc]
      show H1[ad cc n]? = some (vp_cell (ca 1) (M.2.2.2.1 cc n, .inr (.inl (am_u3 M.2.1 cc n i.toNatClampNeg v cc n))))
      rw [am_u3_eq, e1]
      exact congrArg some am_stL
  · rw [show am_o_last (pc, L, .inr (.inl v) :: .inl i :: .inr (.inr (some (cc, n))) :: rest, M) = am_no from if_neg hcc]; trivial
theorem am_nz {x : Int32} (h : x = 0 ∨ x = 1) : narrow .boolean (.int x) = .int x := by
  rcases h with rfl | rfl <;> decide +kernel
theorem am_s_zast (hd : decode (am_by k) pc = .ok (.bastore, 1)) : am_snd k am_o_zast pc := by
  intro D ca p l e R s m args below meth c A Q hC L st M ad H locs ls cells slots hJ
  rcases st with _ | ⟨v | (v | v), _ | ⟨i | (i | i), _ | ⟨x | (x | (_ | ⟨cc, n⟩)), rest⟩⟩⟩ <;> try trivial
  by_cases hcc : 90 ≤ cc ∧ cc < 100
  · by_cases hx : v = 0 ∨ v = 1
    · by_cases hi : i < 0 ∨ M.2.2.2.1 cc n ≤ i.toNatClampNeg
      · rw [show am_o_zast (pc, L, .inl v :: .inl i :: .inr (.inr (some (cc, n))) :: rest, M) = am_no from (if_pos hcc).trans ((if_pos hx).trans (if_pos hi))]; trivial
      · rw [show am_o_zast (pc, L, .inl v :: .inl i :: .inr (.inr (some (cc, n))) :: rest, M) = am_c (pc + 1, L, rest, (am_u3 M.1 cc n i.toNatClampNeg v, M.2)) from (if_pos hcc).trans ((if_pos hx).trans (if_neg hi))]
        have hn : n < M.2.2.2.2 cc := am_hd (am_tl (am_tl hJ.2.2.1))
        have hv := hJ.1.1.1 cc n hn (by omega)
        rw [am_en_z hcc] at hv
        refine fun _ _ kk => W.zast hC.1 hC.2.1 hv ((hC.2.2.2.2.2.1.2 2 _ rfl).1 _ (fun j => .int (M.1 cc n j))) (fun q => by cases q) (by show ¬ (i < 0 ∨ (arrV _ _ _).slots.size ≤ _); rw [arrV_size]; exact hi) rfl rfl hd (fun H1 e1 z oq => ?_)
        refine kk ad H1 _ ls ⟨hJ.1.put hn (by omega) (by omega) rfl ?_ z oq am_smI (fun k' j hj => hJ.1.1.2.2 cc n k' j hn hj), hJ.2.1, am_tl (am_tl (am_tl hJ.2.2.1)), hJ.2.2.2⟩ ⟨fun _ _ _ => rfl, fun _ => Nat.le_refl _⟩
        rw [am_en_z hcc]
        show H1[ad cc n]? = some (vp_cell (ca 2) (M.2.2.2.1 cc n, .inl (am_u3 M.1 cc n i.toNatClampNeg v cc n)))
        rw [am_u3_eq, e1, am_nz hx]
        exact congrArg some am_stI
    · rw [show am_o_zast (pc, L, .inl v :: .inl i :: .inr (.inr (some (cc, n))) :: rest, M) = am_no from (if_pos hcc).trans (if_neg hx)]; trivial
  · rw [show am_o_zast (pc, L, .inl v :: .inl i :: .inr (.inr (some (cc, n))) :: rest, M) = am_no from if_neg hcc]; trivial
theorem am_s_alen (hd : decode (am_by k) pc = .ok (.arraylength, 1)) : am_snd k am_o_alen pc := by
  intro D ca p l e R s m args below meth c A Q hC L st M ad H locs ls cells slots hJ
  rcases st with _ | ⟨x | (x | (_ | ⟨cc, n⟩)), rest⟩ <;> try trivial
  by_cases hcc : 20 ≤ cc
  · rw [show am_o_alen (pc, L, .inr (.inr (some (cc, n))) :: rest, M) = am_c (pc + 1, L, .inl (Int32.ofNat (M.2.2.2.1 cc n)) :: rest, M) from if_pos hcc]
    have hn : n < M.2.2.2.2 cc := am_hd hJ.2.2.1
    have hv := hJ.1.1.1 cc n hn (by omega)
    refine fun _ _ kk => ?_
    have kk := kk ad H locs ls ⟨hJ.1, hJ.2.1, am_cn trivial (am_tl hJ.2.2.1), hJ.2.2.2⟩ ⟨fun _ _ _ => rfl, fun _ => Nat.le_refl _⟩
    by_cases h1 : cc < 80
    · rw [am_en_i ⟨hcc, h1⟩] at hv
      exact va_alen hC.1 hC.2.1 hC.2.2.2.2.2.1 (am_one hv) 0 0 rfl rfl rfl hd kk
    · by_cases h2 : cc < 90
      · rw [am_en_l ⟨by omega, h2⟩] at hv
        exact va_alen hC.1 hC.2.1 hC.2.2.2.2.2.1 (am_one hv) 0 1 rfl rfl rfl hd kk
      · by_cases h3 : cc < 100
        · rw [am_en_z ⟨by omega, h3⟩] at hv
          exact va_alen hC.1 hC.2.1 hC.2.2.2.2.2.1 (am_one hv) 0 2 rfl rfl rfl hd kk
        · by_cases h4 : cc = 100
          · subst h4
            rw [am_en_s] at hv
            exact va_alen hC.1 hC.2.1 hC.2.2.2.2.2.1 (am_one hv) 0 3 rfl rfl rfl hd kk
          · have he : am_en ca ad M cc n = .inl (ca 11, M.2.2.2.1 cc n, .inr (.inr (.inr (.inr (fun k => (M.2.2.1 cc n k).map (ad 8)))))) := by
              unfold am_en am_kd
              rw [if_neg (by omega), if_neg (by omega), if_neg (by omega), if_neg (by omega), if_neg h4]
            rw [he] at hv
            exact va_alen hC.1 hC.2.1 hC.2.2.2.2.2.1 (am_one hv) 0 4 rfl rfl rfl hd kk
  · rw [show am_o_alen (pc, L, .inr (.inr (some (cc, n))) :: rest, M) = am_no from if_neg hcc]; trivial
theorem am_aastW {p : Program} {l : Launch} {e : Env} {R : Room} {s : State} {m : MethodId} {args : Array Value} {below : List Frame} {meth : Method} {c : Code} {H : Heap} {locs : List Loc} {cells slots : Nat} {Q : State → Prop} {cc : ByteArray} {ls : Array Slot} {rest : List Value} {D : va_G} {tys : List (ClassId × FieldType)} (hexec : p.tables.exec = Jvm.exec) (hb : c.code = cc) (hK : va_K D vwCl tys s) (t0 ci : Nat) {a : Nat} {cA : ClassId} {r : vw_C} {n v : Nat} {vs : List Value} {f : Nat → Option Nat} (ha : H[a]? = some (vp_cell cA (n, .inr (.inr (.inr (.inr f)))))) (ht : tys[t0]? = some (cA, .object r.1)) (hv : va_at D vwCl (v, .inr (ci, vs)) H) (hc : vwCl[ci]? = some r) {i : Int32} (hin : vp_in i n) (hdg : decode cc pc = .ok (.aastore, 1))
    (kk : ∀ H1 : Heap, H1[a]? = some (vp_cell cA (n, .inr (.inr (.inr (.inr (fun z => if z = i.toNatClampNeg then some v else f z)))))) → H1.size = H.size → (∀ q : Nat, q ≠ a → H1[q]? = H[q]?) → W p l e R s m args below meth c H1 (locs ++ [⟨a, i.toNatClampNeg⟩]) cells slots Q (F0 m (pc + 1) ls rest)) : W p l e R s m args below meth c H locs cells slots Q (F0 m pc ls (.ref v :: .int i :: .ref a :: rest)) := by
  have hlt : i.toNatClampNeg < n := Nat.not_le.mp fun q => hin (Or.inr q)
  have h0 : ¬ i < 0 := fun q => hin (Or.inl q)
  obtain ⟨r', hr', cellV, g1, g2, g3, -⟩ := hv
  have hcls := (hK.1 ci r hc).2
  obtain ⟨kA, comp, k1, k2, k3, -⟩ := (hK.2 t0 _ ht).2
  have hcomp : comp = D.1 ci := Option.some.inj (k3.symm.trans hcls.1)
  subst hcomp
  obtain ⟨kC, hkC, -⟩ := hcls.2
  refine W.aast hexec hb ha (fun q h => by cases h) (fun h => by cases h) k1 k2 rfl hkC ⟨h0, by show _ < (arrV _ _ _).slots.size; rw [arrV_size]; exact hlt⟩ g1 (fun q h => by rw [g3] at h; cases h) (by rw [g2]; exact hkC) (by rw [g2]; exact va_assign hcls) rfl rfl hdg fun H1 e z oq => ?_
  exact kk H1 (by rw [e]; exact congrArg some (am_stQ (x := some v))) z oq
theorem am_s_aast (hd : decode (am_by k) pc = .ok (.aastore, 1)) : am_snd k am_o_aast pc := by
  intro D ca p l e R s m args below meth c A Q hC L st M ad H locs ls cells slots hJ
  rcases st with _ | ⟨v | (v | v), _ | ⟨i | (i | i), _ | ⟨x | (x | (_ | ⟨cc, n⟩)), rest⟩⟩⟩ <;> try trivial
  by_cases hcc : (cc = 100 ∧ ∀ q, v = some q → q.1 = 5) ∨ (cc = 101 ∧ ∀ q, v = some q → q.1 = 8)
  · by_cases hi : i < 0 ∨ M.2.2.2.1 cc n ≤ i.toNatClampNeg
    · rw [show am_o_aast (pc, L, .inr (.inr v) :: .inl i :: .inr (.inr (some (cc, n))) :: rest, M) = am_no from (if_pos hcc).trans (if_pos hi)]; trivial
    · rw [show am_o_aast (pc, L, .inr (.inr v) :: .inl i :: .inr (.inr (some (cc, n))) :: rest, M) = am_c (pc + 1, L, rest, (M.1, M.2.1, am_u3 M.2.2.1 cc n i.toNatClampNeg (v.map (fun q => q.2)), M.2.2.2)) from (if_pos hcc).trans (if_neg hi)]
      have hn : n < M.2.2.2.2 cc := am_hd (am_tl (am_tl hJ.2.2.1))
      have hv := hJ.1.1.1 cc n hn (by rcases hcc with h | h <;> omega)
      have hr : ∀ k' j, (am_u3 M.2.2.1 cc n i.toNatClampNeg (v.map (fun q => q.2))) cc n k' = some j → j < M.2.2.2.2 (am_tg cc k') := by
        intro k' j hj
        rw [am_u3_eq] at hj
        dsimp only at hj
        by_cases hk : k' = i.toNatClampNeg
        · rw [if_pos hk] at hj
          rcases v with _ | ⟨vc, vn⟩
          · cases hj
          · cases hj
            have hvn : vn < M.2.2.2.2 vc := am_hd hJ.2.2.1
            rcases hcc with ⟨rfl, hq⟩ | ⟨rfl, hq⟩
            · have e5 : vc = 5 := hq _ rfl
              subst e5
              exact hvn
            · have e8 : vc = 8 := hq _ rfl
              subst e8
              exact hvn
        · rw [if_neg hk] at hj
          exact hJ.1.1.2.2 cc n k' j hn hj
      refine fun _ _ kk => ?_
      have kk2 : ∀ H1 : Heap, va_at D vwCl (ad cc n, am_en ca ad (M.1, M.2.1, am_u3 M.2.2.1 cc n i.toNatClampNeg (v.map (fun q => q.2)), M.2.2.2) cc n) H1 → H1.size = H.size → (∀ q : Nat, q ≠ ad cc n → H1[q]? = H[q]?) → W p l e R s m args below meth c H1 (locs ++ [⟨ad cc n, i.toNatClampNeg⟩]) cells slots Q (F0 m (pc + 1) ls (rest.map (am_cv ad))) := fun H1 e1 z oq =>
        kk ad H1 _ ls ⟨hJ.1.put hn (by rcases hcc with h | h <;> omega) (by rcases hcc with h | h <;> omega) rfl e1 z oq am_smR hr, hJ.2.1, am_tl (am_tl (am_tl hJ.2.2.1)), hJ.2.2.2⟩ ⟨fun _ _ _ => rfl, fun _ => Nat.le_refl _⟩
      rcases hcc with ⟨rfl, hq⟩ | ⟨rfl, hq⟩
      · rw [am_en_s] at hv
        rcases v with _ | ⟨vc, vn⟩
        · refine va_WaastN (C := "BrokenBread$Script") hC.1 hC.2.1 hv ((hC.2.2.2.2.2.1.2 3 _ rfl).1 _ (fun j => va_rf ((M.2.2.1 100 n j).map (ad 5)))) (fun h => by cases h) (by show ¬ (i < 0 ∨ (arrV _ _ _).slots.size ≤ _); rw [arrV_size]; exact hi) rfl rfl hd fun H1 e1 z oq => kk2 H1 ?_ z oq
          rw [am_en_s]
          show H1[ad 100 n]? = some (vp_cell (ca 8) (M.2.2.2.1 100 n, .inr (.inr (.inr (.inr (fun k => (am_u3 M.2.2.1 100 n i.toNatClampNeg none 100 n k).map (ad 5)))))))
          rw [e1, am_u3_eq]
          refine congrArg some ((am_stQ (x := none)).trans ?_)
          congr 6
          funext z
          by_cases hz : z = i.toNatClampNeg <;> simp [hz]
        · have e5 : vc = 5 := hq _ rfl
          subst e5
          have hvv := hJ.1.1.1 5 vn (am_hd hJ.2.2.1) (by omega)
          rw [am_en_o (by omega)] at hvv
          refine am_aastW hC.1 hC.2.1 hC.2.2.2.2.2.1 3 5 (r := (RX5, TX5, 5)) hv rfl hvv rfl hi hd fun H1 e1 z oq => kk2 H1 ?_ z oq
          rw [am_en_s]
          show H1[ad 100 n]? = some (vp_cell (ca 8) (M.2.2.2.1 100 n, .inr (.inr (.inr (.inr (fun k => (am_u3 M.2.2.1 100 n i.toNatClampNeg (some vn) 100 n k).map (ad 5)))))))
          rw [e1, am_u3_eq]
          refine congrArg some ?_
          congr 6
          funext z
          by_cases hz : z = i.toNatClampNeg <;> simp [hz]
      · rw [am_en_u] at hv
        rcases v with _ | ⟨vc, vn⟩
        · refine va_WaastN (C := "BrokenBread$Upland") hC.1 hC.2.1 hv ((hC.2.2.2.2.2.1.2 4 _ rfl).1 _ (fun j => va_rf ((M.2.2.1 101 n j).map (ad 8)))) (fun h => by cases h) (by show ¬ (i < 0 ∨ (arrV _ _ _).slots.size ≤ _); rw [arrV_size]; exact hi) rfl rfl hd fun H1 e1 z oq => kk2 H1 ?_ z oq
          rw [am_en_u]
          show H1[ad 101 n]? = some (vp_cell (ca 11) (M.2.2.2.1 101 n, .inr (.inr (.inr (.inr (fun k => (am_u3 M.2.2.1 101 n i.toNatClampNeg none 101 n k).map (ad 8)))))))
          rw [e1, am_u3_eq]
          refine congrArg some ((am_stQ (x := none)).trans ?_)
          congr 6
          funext z
          by_cases hz : z = i.toNatClampNeg <;> simp [hz]
        · have e8 : vc = 8 := hq _ rfl
          subst e8
          have hvv := hJ.1.1.1 8 vn (am_hd hJ.2.2.1) (by omega)
          rw [am_en_o (by omega)] at hvv
          refine am_aastW hC.1 hC.2.1 hC.2.2.2.2.2.1 4 8 (r := (RX8, TX8, 10)) hv rfl hvv rfl hi hd fun H1 e1 z oq => kk2 H1 ?_ z oq
          rw [am_en_u]
          show H1[ad 101 n]? = some (vp_cell (ca 11) (M.2.2.2.1 101 n, .inr (.inr (.inr (.inr (fun k => (am_u3 M.2.2.1 101 n i.toNatClampNeg (some vn) 101 n k).map (ad 8)))))))
          rw [e1, am_u3_eq]
          refine congrArg some ?_
          congr 6
          funext z
          by_cases hz : z = i.toNatClampNeg <;> simp [hz]
  · rw [show am_o_aast (pc, L, .inr (.inr v) :: .inl i :: .inr (.inr (some (cc, n))) :: rest, M) = am_no from if_neg hcc]; trivial
end ARR
