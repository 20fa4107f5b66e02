/-! rows made, Object's constructor, calls: soundness -/
def am_wt : List am_V → Nat
  | [] => 0
  | v :: r => am_w1 v + am_wt r
theorem am_wt_sum {ad : Nat → Nat → Nat} : ∀ (r : List am_V), ((r.map (am_cv ad)).map fun v => v.category).sum = am_wt r
  | [] => rfl
  | v :: r => by
    rw [List.map_cons, List.map_cons, List.sum_cons, am_cat, am_wt_sum r]
    rfl
section ROWS
variable {k pc c i : Nat}
theorem am_s_nai (hd : decode (am_by k) pc = .ok (.newarray .int, 2)) (hc : 20 ≤ c ∧ c < 79) (hw : Cond.arrayClass .int ∈ am_tbl) : am_snd k (am_o_na c) pc := by
  intro D ca p l e R s m args below meth cc A Q hC L st M ad H locs ls cells slots hJ
  rcases st with _ | ⟨x | (x | x), rest⟩ <;> try trivial
  by_cases hx : x < 0 ∨ 100000 < x.toNatClampNeg
  · rw [show am_o_na c (pc, L, .inl x :: rest, M) = am_no from if_pos hx]; trivial
  · rw [show am_o_na c (pc, L, .inl x :: rest, M) = .inl ((pc + 2, L, .inr (.inr (some (c, M.2.2.2.2 c))) :: rest, am_nw M c x.toNatClampNeg), 1, x.toNatClampNeg) from if_neg hx]
    have hx2 : x.toNatClampNeg ≤ 100000 := Nat.not_lt.mp (fun q => hx (Or.inr q))
    refine fun g1 g2 kk => va_newaK hC.1 hC.2.1 (atype := .int) (hC.2.2.2.2.1 _ hw) rfl hd rfl (fun q => hx (Or.inl q)) rfl (by show x.toNatClampNeg * 4 ≤ 536870912; omega) g1 g2 rfl fun H1 cA e1 z1 o1 hAr hNm => ?_
    have hca : cA = ca 0 := Option.some.inj (hNm.symm.trans (hC.2.2.2.2.2.1.2 0 _ rfl).2)
    subst hca
    have hc8 : 20 ≤ c ∧ c < 80 := by omega
    have he : va_at D vwCl (H.size, am_en ca (am_u2 ad c (M.2.2.2.2 c) H.size) (am_nw M c x.toNatClampNeg) c (M.2.2.2.2 c)) H1 := by
      rw [am_en_i hc8]
      have q1 : (am_nw M c x.toNatClampNeg).1 c (M.2.2.2.2 c) = fun _ => 0 := am_u2_eq
      have q4 : (am_nw M c x.toNatClampNeg).2.2.2.1 c (M.2.2.2.2 c) = x.toNatClampNeg := am_u2_eq
      rw [q1, q4]
      exact e1
    obtain ⟨hJ2, hm, hB2⟩ := hJ.new hC.2.2.2.2.2.2.1 (c := c) (len := x.toNatClampNeg) (rest := rest) (by omega) (fun v h => List.mem_cons_of_mem _ h) z1 o1 he
    have kk := kk _ H1 locs ls hJ2 hB2
    rw [List.map_cons, hm] at kk
    have e3 : am_cv (am_u2 ad c (M.2.2.2.2 c) H.size) (.inr (.inr (some (c, M.2.2.2.2 c)))) = .ref H.size := congrArg Value.ref am_u2_eq
    rw [e3] at kk
    exact kk
theorem am_s_nal (hd : decode (am_by k) pc = .ok (.newarray .long, 2)) (hc : 80 ≤ c ∧ c < 90) (hw : Cond.arrayClass .long ∈ am_tbl) : am_snd k (am_o_na c) pc := by
  intro D ca p l e R s m args below meth cc A Q hC L st M ad H locs ls cells slots hJ
  rcases st with _ | ⟨x | (x | x), rest⟩ <;> try trivial
  by_cases hx : x < 0 ∨ 100000 < x.toNatClampNeg
  · rw [show am_o_na c (pc, L, .inl x :: rest, M) = am_no from if_pos hx]; trivial
  · rw [show am_o_na c (pc, L, .inl x :: rest, M) = .inl ((pc + 2, L, .inr (.inr (some (c, M.2.2.2.2 c))) :: rest, am_nw M c x.toNatClampNeg), 1, x.toNatClampNeg) from if_neg hx]
    have hx2 : x.toNatClampNeg ≤ 100000 := Nat.not_lt.mp (fun q => hx (Or.inr q))
    refine fun g1 g2 kk => va_newaK hC.1 hC.2.1 (atype := .long) (hC.2.2.2.2.1 _ hw) rfl hd rfl (fun q => hx (Or.inl q)) rfl (by show x.toNatClampNeg * 8 ≤ 536870912; omega) g1 g2 rfl fun H1 cA e1 z1 o1 hAr hNm => ?_
    have hca : cA = ca 1 := Option.some.inj (hNm.symm.trans (hC.2.2.2.2.2.1.2 1 _ rfl).2)
    subst hca
    have he : va_at D vwCl (H.size, am_en ca (am_u2 ad c (M.2.2.2.2 c) H.size) (am_nw M c x.toNatClampNeg) c (M.2.2.2.2 c)) H1 := by
      rw [am_en_l hc]
      have q1 : (am_nw M c x.toNatClampNeg).2.1 c (M.2.2.2.2 c) = fun _ => 0 := am_u2_eq
      have q4 : (am_nw M c x.toNatClampNeg).2.2.2.1 c (M.2.2.2.2 c) = x.toNatClampNeg := am_u2_eq
      rw [q1, q4]
      exact e1
    obtain ⟨hJ2, hm, hB2⟩ := hJ.new hC.2.2.2.2.2.2.1 (c := c) (len := x.toNatClampNeg) (rest := rest) (by omega) (fun v h => List.mem_cons_of_mem _ h) z1 o1 he
    have kk := kk _ H1 locs ls hJ2 hB2
    rw [List.map_cons, hm] at kk
    have e3 : am_cv (am_u2 ad c (M.2.2.2.2 c) H.size) (.inr (.inr (some (c, M.2.2.2.2 c)))) = .ref H.size := congrArg Value.ref am_u2_eq
    rw [e3] at kk
    exact kk
theorem am_s_naz (hd : decode (am_by k) pc = .ok (.newarray .boolean, 2)) (hc : 90 ≤ c ∧ c < 100) (hw : Cond.arrayClass .boolean ∈ am_tbl) : am_snd k (am_o_na c) pc := by
  intro D ca p l e R s m args below meth cc A Q hC L st M ad H locs ls cells slots hJ
  rcases st with _ | ⟨x | (x | x), rest⟩ <;> try trivial
  by_cases hx : x < 0 ∨ 100000 < x.toNatClampNeg
  · rw [show am_o_na c (pc, L, .inl x :: rest, M) = am_no from if_pos hx]; trivial
  · rw [show am_o_na c (pc, L, .inl x :: rest, M) = .inl ((pc + 2, L, .inr (.inr (some (c, M.2.2.2.2 c))) :: rest, am_nw M c x.toNatClampNeg), 1, x.toNatClampNeg) from if_neg hx]
    have hx2 : x.toNatClampNeg ≤ 100000 := Nat.not_lt.mp (fun q => hx (Or.inr q))
    refine fun g1 g2 kk => va_newaK hC.1 hC.2.1 (atype := .boolean) (hC.2.2.2.2.1 _ hw) rfl hd rfl (fun q => hx (Or.inl q)) rfl (by show x.toNatClampNeg * 1 ≤ 536870912; omega) g1 g2 rfl fun H1 cA e1 z1 o1 hAr hNm => ?_
    have hca : cA = ca 2 := Option.some.inj (hNm.symm.trans (hC.2.2.2.2.2.1.2 2 _ rfl).2)
    subst hca
    have he : va_at D vwCl (H.size, am_en ca (am_u2 ad c (M.2.2.2.2 c) H.size) (am_nw M c x.toNatClampNeg) c (M.2.2.2.2 c)) H1 := by
      rw [am_en_z hc]
      have q1 : (am_nw M c x.toNatClampNeg).1 c (M.2.2.2.2 c) = fun _ => 0 := am_u2_eq
      have q4 : (am_nw M c x.toNatClampNeg).2.2.2.1 c (M.2.2.2.2 c) = x.toNatClampNeg := am_u2_eq
      rw [q1, q4]
      exact e1
    obtain ⟨hJ2, hm, hB2⟩ := hJ.new hC.2.2.2.2.2.2.1 (c := c) (len := x.toNatClampNeg) (rest := rest) (by omega) (fun v h => List.mem_cons_of_mem _ h) z1 o1 he
    have kk := kk _ H1 locs ls hJ2 hB2
    rw [List.map_cons, hm] at kk
    have e3 : am_cv (am_u2 ad c (M.2.2.2.2 c) H.size) (.inr (.inr (some (c, M.2.2.2.2 c)))) = .ref H.size := congrArg Value.ref am_u2_eq
    rw [e3] at kk
    exact kk
theorem am_s_nq {C : String} {t0 : Nat} (hd : decode (am_by k) pc = .ok (.anewarray i, 3)) (hc : (c = 100 ∧ t0 = 3 ∧ C = "BrokenBread$Script") ∨ (c = 101 ∧ t0 = 4 ∧ C = "BrokenBread$Upland")) (hl : Cond.classLink (am_y k).cls i C ∈ am_tbl) (ho : Cond.arrayOver (.object C) ∈ am_tbl) : am_snd k (am_o_nq c) pc := by
  intro D ca p l e R s m args below meth cc A Q hC L st M ad H locs ls cells slots hJ
  rcases st with _ | ⟨x | (x | x), rest⟩ <;> try trivial
  by_cases hx : x < 0 ∨ 100000 < x.toNatClampNeg
  · rw [show am_o_nq c (pc, L, .inl x :: rest, M) = am_no from if_pos hx]; trivial
  · rw [show am_o_nq c (pc, L, .inl x :: rest, M) = .inl ((pc + 3, L, .inr (.inr (some (c, M.2.2.2.2 c))) :: rest, am_nw M c x.toNatClampNeg), 1, x.toNatClampNeg) from if_neg hx]
    have hx2 : x.toNatClampNeg ≤ 100000 := Nat.not_lt.mp (fun q => hx (Or.inr q))
    refine fun g1 g2 kk => W.anew hC.1 hC.2.1 hC.2.2.2.1 (hC.2.2.2.2.1 _ hl) (hC.2.2.2.2.1 _ ho) rfl hd rfl (fun q => hx (Or.inl q)) (by omega) g1 g2 fun cA kA comp f1 f2 f3 f4 => ?_
    generalize hH1 : H.push ({ cls := cA, slots := Array.replicate x.toNatClampNeg .null, vm := .none } : Cell) = H1
    have z1 : H1.size = H.size + 1 := by rw [← hH1, Array.size_push]
    have e1 : H1[H.size]? = some (arrV cA x.toNatClampNeg (fun _ => .null)) := by rw [← hH1, Array.getElem?_push_size, ← arrV_new]
    have o1 : ∀ q : Nat, q < H.size → H1[q]? = H[q]? := fun q hq => by rw [← hH1, Array.getElem?_push, if_neg (Nat.ne_of_lt hq)]
    have he : va_at D vwCl (H.size, am_en ca (am_u2 ad c (M.2.2.2.2 c) H.size) (am_nw M c x.toNatClampNeg) c (M.2.2.2.2 c)) H1 := by
      have q1 : (am_nw M c x.toNatClampNeg).2.2.1 c (M.2.2.2.2 c) = fun _ => none := am_u2_eq
      have q4 : (am_nw M c x.toNatClampNeg).2.2.2.1 c (M.2.2.2.2 c) = x.toNatClampNeg := am_u2_eq
      rcases hc with ⟨rfl, rfl, rfl⟩ | ⟨rfl, rfl, rfl⟩
      · obtain ⟨_, _, _, _, _, k4⟩ := (hC.2.2.2.2.2.1.2 3 _ rfl).2
        have hca : cA = ca 8 := Option.some.inj (f1.symm.trans k4)
        rw [am_en_s, q1, q4, ← hca]
        exact e1
      · obtain ⟨_, _, _, _, _, k4⟩ := (hC.2.2.2.2.2.1.2 4 _ rfl).2
        have hca : cA = ca 11 := Option.some.inj (f1.symm.trans k4)
        rw [am_en_u, q1, q4, ← hca]
        exact e1
    obtain ⟨hJ2, hm, hB2⟩ := hJ.new hC.2.2.2.2.2.2.1 (c := c) (len := x.toNatClampNeg) (rest := rest) (by rcases hc with h | h <;> omega) (fun v h => List.mem_cons_of_mem _ h) z1 o1 he
    have kk := kk _ H1 locs ls hJ2 hB2
    rw [List.map_cons, hm] at kk
    have e3 : am_cv (am_u2 ad c (M.2.2.2.2 c) H.size) (.inr (.inr (some (c, M.2.2.2.2 c)))) = .ref H.size := congrArg Value.ref am_u2_eq
    rw [e3] at kk
    exact kk
def am_o_oi : am_S → am_R
  | (pc, L, .inr (.inr (some _)) :: st, M) => if am_wt st ≤ 8 then am_c (pc + 3, L, st, M) else am_no
  | _ => am_no
theorem am_s_oi (hd : decode (am_by k) pc = .ok (.invokespecial i, 3)) (hl : Cond.methodLink (am_y k).cls i objectInit ∈ am_tbl) (h2 : Cond.instanceMethod objectInit ∈ am_tbl) (h3 : Cond.code objectInit ⟨#[0xb1]⟩ 1 none ∈ am_tbl) : am_snd k am_o_oi pc := by
  intro D ca p l e R s m args below meth cc A Q hC L st M ad H locs ls cells slots hJ
  rcases st with _ | ⟨x | (x | (_ | x)), rest⟩ <;> try trivial
  by_cases hx : am_wt rest ≤ 8
  · rw [show am_o_oi (pc, L, .inr (.inr (some x)) :: rest, M) = am_c (pc + 3, L, rest, M) from if_pos hx]
    exact fun _ _ kk => W.objInit hC.1 hC.2.1 hC.2.2.2.1 (hC.2.2.2.2.1 _ hl) (hC.2.2.2.2.1 _ h2) (hC.2.2.2.2.1 _ h3) rfl (by rw [hC.2.2.1]; exact hJ.2.1.1) rfl hd (Nat.le_trans (by decide) hC.2.2.2.2.2.2.2.1.1) (by rw [am_wt_sum]; show 2 * 0 + _ + 12 ≤ _; have := hC.2.2.2.2.2.2.2.1.2; omega) (kk ad H locs ls ⟨hJ.1, hJ.2.1, am_tl hJ.2.2.1, hJ.2.2.2⟩ ⟨fun _ _ _ => rfl, fun _ => Nat.le_refl _⟩)
  · rw [show am_o_oi (pc, L, .inr (.inr (some x)) :: rest, M) = am_no from if_neg hx]; trivial
end ROWS
