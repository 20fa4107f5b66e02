/-! fields: operations and soundness -/
def am_gv (M : am_M) (c n k t : Nat) : am_V := match t with
  | 0 => .inl (M.1 c n k)
  | 1 => .inr (.inl (M.2.1 c n k))
  | 2 => .inl (M.1 c n k)
  | t + 3 => .inr (.inr ((M.2.2.1 c n k).map (fun j => (t, j))))
def am_o_gf (c k t : Nat) : am_S → am_R
  | (pc, L, .inr (.inr (some (c', n))) :: st, M) => if c' = c then am_c (pc + 3, L, am_gv M c n k t :: st, M) else am_no
  | _ => am_no
def am_pv (M : am_M) (c n k t : Nat) (v : am_V) : Option am_M := match t, v with
  | 0, .inl x => some (am_u3 M.1 c n k x, M.2)
  | 1, .inr (.inl x) => some (M.1, am_u3 M.2.1 c n k x, M.2.2)
  | 2, .inl x => if x = 0 ∨ x = 1 then some (am_u3 M.1 c n k x, M.2) else none
  | _ + 3, .inr (.inr none) => some (M.1, M.2.1, am_u3 M.2.2.1 c n k none, M.2.2.2)
  | t + 3, .inr (.inr (some (c2, j))) => if c2 = t then some (M.1, M.2.1, am_u3 M.2.2.1 c n k (some j), M.2.2.2) else none
  | _, _ => none
def am_o_pf (c k t : Nat) : am_S → am_R
  | (pc, L, v :: .inr (.inr (some (c', n))) :: st, M) => if c' = c then (match am_pv M c n k t v with
    | some M' => am_c (pc + 3, L, st, M')
    | none => am_no) else am_no
  | _ => am_no
theorem am_cv_gv {ad : Nat → Nat → Nat} {M : am_M} {c n k t : Nat} : am_cv ad (am_gv M c n k t) = am_fv ad M c n k t := by
  rcases t with _ | _ | _ | t
  · rfl
  · rfl
  · rfl
  · exact am_cv_map
theorem am_fs_get {ad : Nat → Nat → Nat} {M : am_M} {c n k t : Nat} {ts : List Nat} (h : ts[k]? = some t) : (am_fs ad M c n ts)[k]? = some (am_fv ad M c n k t) := by
  have hk : k < ts.length := (List.getElem?_eq_some_iff.mp h).1
  unfold am_fs
  rw [List.getElem?_map, List.getElem?_range hk]
  have e : ts.getD k 0 = t := by rw [List.getD_eq_getElem?_getD, h]; rfl
  rw [Option.map_some, e]
theorem am_fs_len {ad : Nat → Nat → Nat} {M : am_M} {c n : Nat} {ts : List Nat} : (am_fs ad M c n ts).length = ts.length := by
  unfold am_fs
  rw [List.length_map, List.length_range]
theorem am_fs_set {ad : Nat → Nat → Nat} {M M' : am_M} {c n k t : Nat} {v : Value} {ts : List Nat} (h : ts[k]? = some t) (hv : am_fv ad M' c n k t = v) (ho : ∀ k' t', k' ≠ k → am_fv ad M' c n k' t' = am_fv ad M c n k' t') : am_fs ad M' c n ts = (am_fs ad M c n ts).set k v := by
  have hk : k < ts.length := (List.getElem?_eq_some_iff.mp h).1
  refine List.ext_getElem? (fun j => ?_)
  by_cases hj : j < ts.length
  · have hj' : ts[j]? = some ts[j] := List.getElem?_eq_getElem hj
    rw [am_fs_get hj']
    by_cases e : j = k
    · subst e
      rw [List.getElem?_set_self (by rw [am_fs_len]; exact hk)]
      rw [h] at hj'
      rw [← Option.some.inj hj', hv]
    · rw [List.getElem?_set_ne (fun z => e z.symm), am_fs_get hj', ho j _ e]
  · rw [List.getElem?_eq_none (by rw [am_fs_len]; omega), List.getElem?_eq_none (by rw [List.length_set, am_fs_len]; omega)]
theorem am_fz {x : Int32} (h : x = 0 ∨ x = 1) : fits .boolean (.int x) = true := by
  rcases h with rfl | rfl <;> decide +kernel
def am_tyk : FieldType → Nat → Bool
  | .int, 0 => true
  | .long, 1 => true
  | .boolean, 2 => true
  | .object _, _ + 3 => true
  | .array _, _ + 3 => true
  | _, _ => false
/-- what a store does: the row of the object, the others', the value's fit -/
theorem am_pv_ok {ad : Nat → Nat → Nat} {M M' : am_M} {c n k t : Nat} {v : am_V} {ty : FieldType} (h : am_pv M c n k t v = some M') (hv : am_ok M v) (hty : am_tyk ty t = true) (ht : am_tg c k = t - 3) (hR : ∀ k' j, M.2.2.1 c n k' = some j → j < M.2.2.2.2 (am_tg c k')) :
    M'.2.2.2.2 = M.2.2.2.2 ∧ am_sm M M' c n ∧ am_fv ad M' c n k t = am_cv ad v ∧ (∀ k' t', k' ≠ k → am_fv ad M' c n k' t' = am_fv ad M c n k' t') ∧ (narrow ty (am_cv ad v) = am_cv ad v ∧ fits ty (am_cv ad v) = true) ∧ (∀ k' j, M'.2.2.1 c n k' = some j → j < M.2.2.2.2 (am_tg c k')) := by
  have off : ∀ (α : Type) (f : Nat → Nat → Nat → α) (x : α) (k' : Nat), k' ≠ k → am_u3 f c n k x c n k' = f c n k' := fun α f x k' hk => by
    rw [am_u3_eq]
    exact if_neg hk
  have on : ∀ (α : Type) (f : Nat → Nat → Nat → α) (x : α), am_u3 f c n k x c n k = x := fun α f x => by
    rw [am_u3_eq]
    exact if_pos rfl
  rcases t with _ | _ | _ | t
  · rcases v with x | (x | (_ | ⟨c2, j⟩)) <;> try cases h
    refine ⟨rfl, am_smI, congrArg Value.int (on _ _ _), fun k' t' hk => ?_, ?_, hR⟩
    · rcases t' with _ | _ | _ | t'
      · exact congrArg Value.int (off _ _ _ _ hk)
      · rfl
      · exact congrArg Value.int (off _ _ _ _ hk)
      · rfl
    · cases ty <;> first | exact ⟨rfl, rfl⟩ | cases hty
  · rcases v with x | (x | (_ | ⟨c2, j⟩)) <;> try cases h
    refine ⟨rfl, am_smG, congrArg Value.long (on _ _ _), fun k' t' hk => ?_, ?_, hR⟩
    · rcases t' with _ | _ | _ | t'
      · rfl
      · exact congrArg Value.long (off _ _ _ _ hk)
      · rfl
      · rfl
    · cases ty <;> first | exact ⟨rfl, rfl⟩ | cases hty
  · rcases v with x | (x | (_ | ⟨c2, j⟩)) <;> try cases h
    by_cases hx : x = 0 ∨ x = 1
    · rw [show am_pv M c n k (0 + 1 + 1) (.inl x) = some (am_u3 M.1 c n k x, M.2) from if_pos hx] at h
      cases h
      refine ⟨rfl, am_smI, congrArg Value.int (on _ _ _), fun k' t' hk => ?_, ?_, hR⟩
      · rcases t' with _ | _ | _ | t'
        · exact congrArg Value.int (off _ _ _ _ hk)
        · rfl
        · exact congrArg Value.int (off _ _ _ _ hk)
        · rfl
      · cases ty <;> first | exact ⟨am_nz hx, am_fz hx⟩ | cases hty
    · rw [show am_pv M c n k (0 + 1 + 1) (.inl x) = none from if_neg hx] at h
      cases h
  · rcases v with x | (x | (_ | ⟨c2, j⟩)) <;> try cases h
    · refine ⟨rfl, am_smR, ?_, fun k' t' hk => ?_, ?_, fun k' j hj => ?_⟩
      · show va_rf ((am_u3 M.2.2.1 c n k none c n k).map (ad t)) = _
        rw [on]; rfl
      · rcases t' with _ | _ | _ | t'
        · rfl
        · rfl
        · rfl
        · show va_rf ((am_u3 M.2.2.1 c n k none c n k').map (ad t')) = va_rf ((M.2.2.1 c n k').map (ad t'))
          rw [off _ _ _ _ hk]
      · cases ty <;> first | exact ⟨rfl, rfl⟩ | cases hty
      · dsimp only at hj
        by_cases hk : k' = k
        · subst hk
          rw [on] at hj
          cases hj
        · rw [off _ _ _ _ hk] at hj
          exact hR k' j hj
    · by_cases hx : c2 = t
      · rw [show am_pv M c n k (t + 1 + 1 + 1) (.inr (.inr (some (c2, j)))) = some (M.1, M.2.1, am_u3 M.2.2.1 c n k (some j), M.2.2.2) from if_pos hx] at h
        cases h
        subst hx
        refine ⟨rfl, am_smR, ?_, fun k' t' hk => ?_, ?_, fun k' j' hj => ?_⟩
        · show va_rf ((am_u3 M.2.2.1 c n k (some j) c n k).map (ad c2)) = _
          rw [on]; rfl
        · rcases t' with _ | _ | _ | t'
          · rfl
          · rfl
          · rfl
          · show va_rf ((am_u3 M.2.2.1 c n k (some j) c n k').map (ad t')) = va_rf ((M.2.2.1 c n k').map (ad t'))
            rw [off _ _ _ _ hk]
        · cases ty <;> first | exact ⟨rfl, rfl⟩ | cases hty
        · dsimp only at hj
          by_cases hk : k' = k
          · subst hk
            rw [on] at hj
            cases hj
            rw [ht]
            exact hv
          · rw [off _ _ _ _ hk] at hj
            exact hR k' j' hj
      · rw [show am_pv M c n k (t + 1 + 1 + 1) (.inr (.inr (some (c2, j)))) = none from if_neg hx] at h
        cases h
/-- what is known of a field by the tables: class c of vwCl, its k-th field, of code t -/
def am_F (c k t : Nat) (C : String) (T : u_T) (N : Nat) : Prop := c < 18 ∧ vwCl[c]? = some (C, T, N) ∧ (∀ w ∈ u_ws C T N, w ∈ am_tbl) ∧ k < N ∧ (am_fl.getD c [])[k]? = some t
theorem am_F.tg {c k t : Nat} {C : String} {T : u_T} {N : Nat} (h : am_F c k t C T N) : am_tg c k = t - 3 := by
  unfold am_tg
  rw [am_kd_o h.1]
  show (am_fl.getD c []).getD k 0 - 3 = t - 3
  rw [List.getD_eq_getElem?_getD, h.2.2.2.2]
  rfl
theorem am_gv_ok {D : va_G} {ca : Nat → ClassId} {ad : Nat → Nat → Nat} {M : am_M} {H : Heap} {c n k t : Nat} {C : String} {T : u_T} {N : Nat} (hF : am_F c k t C T N) (h : am_P D ca ad M H) (hn : n < M.2.2.2.2 c) : am_ok M (am_gv M c n k t) := by
  rcases t with _ | _ | _ | t
  · trivial
  · trivial
  · trivial
  · refine am_ok_map (fun j hj => ?_)
    have h2 := h.2.2 c n k j hn hj
    rw [hF.tg] at h2
    exact h2
section FLD
variable {k pc c kf t : Nat} {C : String} {T : u_T} {N i : Nat}
theorem am_s_gf (hd : decode (am_by k) pc = .ok (.getfield i, 3)) (hF : am_F c kf t C T N) (hl : Cond.fieldLink (am_y k).cls i (T kf).1 (T kf).2.1 (T kf).2.2.1 ∈ am_tbl) : am_snd k (am_o_gf c kf t) pc := by
  intro D ca p l e R s m args below meth cc A Q hC L st M ad H locs ls cells slots hJ
  rcases st with _ | ⟨x | (x | (_ | ⟨c', n⟩)), rest⟩ <;> try trivial
  by_cases hcc : c' = c
  · rw [show am_o_gf c kf t (pc, L, .inr (.inr (some (c', n))) :: rest, M) = am_c (pc + 3, L, am_gv M c n kf t :: rest, M) from if_pos hcc]
    subst hcc
    have hn : n < M.2.2.2.2 c' := am_hd hJ.2.2.1
    have hv := hJ.1.1.1 c' n hn (by have := hF.1; omega)
    rw [am_en_o hF.1] at hv
    refine fun _ _ kk => va_get (v := am_cv ad (am_gv M c' n kf t)) hC.1 hC.2.1 hC.2.2.2.2.1 hF.2.2.1 hC.2.2.2.1 hC.2.2.2.2.2.1 (am_one hv) 0 rfl hF.2.1 kf hF.2.2.2.1 (hC.2.2.2.2.1 _ hl) (fun _ h => h) (by rw [am_cv_gv]; exact am_fs_get hF.2.2.2.2) hd (kk ad H locs ls ⟨hJ.1, hJ.2.1, am_cn (am_gv_ok hF hJ.1.1 hn) (am_tl hJ.2.2.1), hJ.2.2.2⟩ ⟨fun _ _ _ => rfl, fun _ => Nat.le_refl _⟩)
  · rw [show am_o_gf c kf t (pc, L, .inr (.inr (some (c', n))) :: rest, M) = am_no from if_neg hcc]; trivial
theorem am_s_gfN {host : String} (hd : decode (am_by k) pc = .ok (.getfield i, 3)) (hF : am_F c kf t C T N) (hl : Cond.fieldLinkNest (am_y k).cls i (T kf).1 (T kf).2.1 (T kf).2.2.1 host ∈ am_tbl) : am_snd k (am_o_gf c kf t) pc := by
  intro D ca p l e R s m args below meth cc A Q hC L st M ad H locs ls cells slots hJ
  rcases st with _ | ⟨x | (x | (_ | ⟨c', n⟩)), rest⟩ <;> try trivial
  by_cases hcc : c' = c
  · rw [show am_o_gf c kf t (pc, L, .inr (.inr (some (c', n))) :: rest, M) = am_c (pc + 3, L, am_gv M c n kf t :: rest, M) from if_pos hcc]
    subst hcc
    have hn : n < M.2.2.2.2 c' := am_hd hJ.2.2.1
    have hv := hJ.1.1.1 c' n hn (by have := hF.1; omega)
    rw [am_en_o hF.1] at hv
    refine fun _ _ kk => va_getN (v := am_cv ad (am_gv M c' n kf t)) hC.1 hC.2.1 hC.2.2.2.2.1 hF.2.2.1 hC.2.2.2.1 hC.2.2.2.2.2.1 (am_one hv) 0 rfl hF.2.1 kf hF.2.2.2.1 (hC.2.2.2.2.1 _ hl) (fun _ h => h) (by rw [am_cv_gv]; exact am_fs_get hF.2.2.2.2) hd (kk ad H locs ls ⟨hJ.1, hJ.2.1, am_cn (am_gv_ok hF hJ.1.1 hn) (am_tl hJ.2.2.1), hJ.2.2.2⟩ ⟨fun _ _ _ => rfl, fun _ => Nat.le_refl _⟩)
  · rw [show am_o_gf c kf t (pc, L, .inr (.inr (some (c', n))) :: rest, M) = am_no from if_neg hcc]; trivial
/-- the same for all three ways of a store: what comes behind it -/
theorem am_pf_kk {D : va_G} {ca : Nat → ClassId} {p : Program} {l : Launch} {e : Env} {R : Room} {s : State} {m : MethodId} {args : Array Value} {below : List Frame} {meth : Method} {cc : Code} {A : Nat → Prop} {Q : State → Prop} {L : List (Option am_V)} {rest : List am_V} {M M' : am_M} {ad : Nat → Nat → Nat} {H H1 : Heap} {locs : List Loc} {ls : Array Slot} {cells slots n slot : Nat} {v : am_V} {ty : FieldType} (hF : am_F c kf t C T N) (hJ : am_J D ca s A ad H locs ls (am_ml k) L (v :: .inr (.inr (some (c, n))) :: rest) M) (hp : am_pv M c n kf t v = some M') (hty : am_tyk ty t = true)
    (kk : ∀ ad' H' locs' ls', am_J D ca s A ad' H' locs' ls' (am_ml k) L rest M' → am_B ad M ad' M' → W p l e R s m args below meth cc H' locs' cells slots Q (F0 m (pc + 3) ls' (rest.map (am_cv ad'))))
    (he : va_at D vwCl (ad c n, .inr (c, (am_fs ad M c n (am_fl.getD c [])).set kf (am_cv ad v))) H1) (hz : H1.size = H.size) (ho : ∀ q : Nat, q ≠ ad c n → H1[q]? = H[q]?) : W p l e R s m args below meth cc H1 (locs ++ [⟨ad c n, slot⟩]) cells slots Q (F0 m (pc + 3) ls (rest.map (am_cv ad))) := by
  have hn : n < M.2.2.2.2 c := am_hd (am_tl hJ.2.2.1)
  have h18 := hF.1
  obtain ⟨g1, g2, g3, g4, g5, g6⟩ := am_pv_ok (ad := ad) hp (am_hd hJ.2.2.1) hty hF.tg (fun k' j hj => hJ.1.1.2.2 c n k' j hn hj)
  have hok : ∀ w, am_ok M w → am_ok M' w := fun w hw => am_ok_mono hw (fun c => by rw [g1]; exact Nat.le_refl _)
  refine kk ad H1 _ ls ⟨hJ.1.put hn (by omega) (by omega) g1 ?_ hz ho g2 g6, hJ.2.1, fun w hw => hok w (am_tl (am_tl hJ.2.2.1) w hw), fun i w hw => hok w (hJ.2.2.2 i w hw)⟩ ⟨fun _ _ _ => rfl, fun c => by rw [g1]; exact Nat.le_refl _⟩
  rw [am_en_o h18, am_fs_set hF.2.2.2.2 g3 g4]
  exact he
theorem am_s_pf {ty0 : Nat → FieldType} {ty : FieldType} (hd : decode (am_by k) pc = .ok (.putfield i, 3)) (hF : am_F c kf t C T N) (hl : Cond.fieldLink (am_y k).cls i (T kf).1 (T kf).2.1 (T kf).2.2.1 ∈ am_tbl) (hty : ∀ k, k < N → parseFieldDescriptor (T k).2.2.1 = some (ty0 k)) (hnm : ∀ a, a < N → ∀ b, b < N → a ≠ b → (T a).2.1 ≠ (T b).2.1) (hfin : (T kf).2.2.2 = false) (hd2 : parseFieldDescriptor (T kf).2.2.1 = some ty) (hk : am_tyk ty t = true) : am_snd k (am_o_pf c kf t) pc := by
  intro D ca p l e R s m args below meth cc A Q hC L st M ad H locs ls cells slots hJ
  rcases st with _ | ⟨v, _ | ⟨x | (x | (_ | ⟨c', n⟩)), rest⟩⟩ <;> try trivial
  by_cases hcc : c' = c
  · rw [show am_o_pf c kf t (pc, L, v :: .inr (.inr (some (c', n))) :: rest, M) = (match am_pv M c n kf t v with
      | some M' => am_c (pc + 3, L, rest, M')
      | none => am_no) from if_pos hcc]
    subst hcc
    cases hp : am_pv M c' n kf t v with
    | none => trivial
    | some M' =>
      have hn : n < M.2.2.2.2 c' := am_hd (am_tl hJ.2.2.1)
      have hv := hJ.1.1.1 c' n hn (by have := hF.1; omega)
      rw [am_en_o hF.1] at hv
      obtain ⟨-, -, -, -, ⟨hn1, hfit⟩, -⟩ := am_pv_ok (ad := ad) hp (am_hd hJ.2.2.1) hk hF.tg (fun k' j hj => hJ.1.1.2.2 c' n k' j hn hj)
      have hK := hC.2.2.2.2.2.1
      have hap := va_apart (own := (am_y k).cls) hC.2.2.2.2.1 hF.2.2.1 ty0 hty hnm hK hF.2.1
      obtain ⟨r, h1, cell, q1, q2, q3, q4⟩ := hv
      have hr : r = (C, T, N) := Option.some.inj (h1.symm.trans hF.2.1)
      subst hr
      obtain ⟨hS, hfc, kC, hkC, hkind⟩ := hK.1 c' _ hF.2.1
      obtain ⟨cf, kf', fi, f, hi, hsl⟩ := hS kf hF.2.2.2.1
      have hlay := hC.2.2.2.2.1 _ (hF.2.2.1 _ (u_in_lay hF.2.2.2.1))
      unfold u_lay at hlay
      rw [if_neg (by rw [hfin]; decide)] at hlay
      have hst := (u_facts hfc hkC (u_lays hC.2.2.2.2.1 hF.2.2.1 hF.2.2.2.1) hi).1
      have h6 := u_store hfc hkC hkind hlay hi hd2 hn1 hfit
      refine fun _ _ kk => W.putK hC.1 hC.2.1 (f := f) ⟨hC.2.2.2.1, hC.2.2.2.2.1 _ hl, ⟨_, _, _, hi⟩, hst⟩ (by rw [q2]; exact h6) q1 q3 (by rw [hsl]; exact k2_hasslot (q4 kf hF.2.2.2.1)) rfl rfl hd fun H' e1 e2 e3 => ?_
      rw [hsl] at e1
      exact am_pf_kk hF hJ hp hk kk ⟨_, hF.2.1, t_OB.to (V := updV (vp_V (am_fs ad M c' n (am_fl.getD c' []))) kf (am_cv ad v)) ⟨_, e1, q2, q3, t_set q4 hap hF.2.2.2.1 _⟩ (fun j _ => vp_updV_set (by rw [am_fs_len]; exact (List.getElem?_eq_some_iff.mp hF.2.2.2.2).1) _ j)⟩ e2 e3
  · rw [show am_o_pf c kf t (pc, L, v :: .inr (.inr (some (c', n))) :: rest, M) = am_no from if_neg hcc]; trivial
theorem am_s_pfN {host : String} {ty0 : Nat → FieldType} {ty : FieldType} (hd : decode (am_by k) pc = .ok (.putfield i, 3)) (hF : am_F c kf t C T N) (hl : Cond.fieldLinkNest (am_y k).cls i (T kf).1 (T kf).2.1 (T kf).2.2.1 host ∈ am_tbl) (hty : ∀ k, k < N → parseFieldDescriptor (T k).2.2.1 = some (ty0 k)) (hnm : ∀ a, a < N → ∀ b, b < N → a ≠ b → (T a).2.1 ≠ (T b).2.1) (hfin : (T kf).2.2.2 = false) (hd2 : parseFieldDescriptor (T kf).2.2.1 = some ty) (hk : am_tyk ty t = true) : am_snd k (am_o_pf c kf t) pc := by
  intro D ca p l e R s m args below meth cc A Q hC L st M ad H locs ls cells slots hJ
  rcases st with _ | ⟨v, _ | ⟨x | (x | (_ | ⟨c', n⟩)), rest⟩⟩ <;> try trivial
  by_cases hcc : c' = c
  · rw [show am_o_pf c kf t (pc, L, v :: .inr (.inr (some (c', n))) :: rest, M) = (match am_pv M c n kf t v with
      | some M' => am_c (pc + 3, L, rest, M')
      | none => am_no) from if_pos hcc]
    subst hcc
    cases hp : am_pv M c' n kf t v with
    | none => trivial
    | some M' =>
      have hn : n < M.2.2.2.2 c' := am_hd (am_tl hJ.2.2.1)
      have hv := hJ.1.1.1 c' n hn (by have := hF.1; omega)
      rw [am_en_o hF.1] at hv
      obtain ⟨-, -, -, -, ⟨hn1, hfit⟩, -⟩ := am_pv_ok (ad := ad) hp (am_hd hJ.2.2.1) hk hF.tg (fun k' j hj => hJ.1.1.2.2 c' n k' j hn hj)
      have hK := hC.2.2.2.2.2.1
      have hap := va_apart (own := (am_y k).cls) hC.2.2.2.2.1 hF.2.2.1 ty0 hty hnm hK hF.2.1
      obtain ⟨r, h1, cell, q1, q2, q3, q4⟩ := hv
      have hr : r = (C, T, N) := Option.some.inj (h1.symm.trans hF.2.1)
      subst hr
      obtain ⟨hS, hfc, kC, hkC, hkind⟩ := hK.1 c' _ hF.2.1
      obtain ⟨cf, kf', fi, f, hi, hsl⟩ := hS kf hF.2.2.2.1
      have hlay := hC.2.2.2.2.1 _ (hF.2.2.1 _ (u_in_lay hF.2.2.2.1))
      unfold u_lay at hlay
      rw [if_neg (by rw [hfin]; decide)] at hlay
      have hst := (u_facts hfc hkC (u_lays hC.2.2.2.2.1 hF.2.2.1 hF.2.2.2.1) hi).1
      have h6 := u_store hfc hkC hkind hlay hi hd2 hn1 hfit
      refine fun _ _ kk => va_WputK hC.1 hC.2.1 (f := f) hC.2.2.2.1 (hC.2.2.2.2.1 _ hl) hi hst (by rw [q2]; exact h6) q1 q3 (by rw [hsl]; exact k2_hasslot (q4 kf hF.2.2.2.1)) rfl rfl hd fun H' e1 e2 e3 => ?_
      rw [hsl] at e1
      exact am_pf_kk hF hJ hp hk kk ⟨_, hF.2.1, t_OB.to (V := updV (vp_V (am_fs ad M c' n (am_fl.getD c' []))) kf (am_cv ad v)) ⟨_, e1, q2, q3, t_set q4 hap hF.2.2.2.1 _⟩ (fun j _ => vp_updV_set (by rw [am_fs_len]; exact (List.getElem?_eq_some_iff.mp hF.2.2.2.2).1) _ j)⟩ e2 e3
  · rw [show am_o_pf c kf t (pc, L, v :: .inr (.inr (some (c', n))) :: rest, M) = am_no from if_neg hcc]; trivial
theorem am_s_pfF {ty0 : Nat → FieldType} {ty : FieldType} (hd : decode (am_by k) pc = .ok (.putfield i, 3)) (hF : am_F c kf t C T N) (hl : Cond.fieldLink (am_y k).cls i (T kf).1 (T kf).2.1 (T kf).2.2.1 ∈ am_tbl) (hty : ∀ k, k < N → parseFieldDescriptor (T k).2.2.1 = some (ty0 k)) (hnm : ∀ a, a < N → ∀ b, b < N → a ≠ b → (T a).2.1 ≠ (T b).2.1) (hfin : (T kf).2.2.2 = true) (hin : (am_y k).name = "<init>") (hdecl : (T kf).1 = (am_y k).cls) (hd2 : parseFieldDescriptor (T kf).2.2.1 = some ty) (hk : am_tyk ty t = true) : am_snd k (am_o_pf c kf t) pc := by
  intro D ca p l e R s m args below meth cc A Q hC L st M ad H locs ls cells slots hJ
  rcases st with _ | ⟨v, _ | ⟨x | (x | (_ | ⟨c', n⟩)), rest⟩⟩ <;> try trivial
  by_cases hcc : c' = c
  · rw [show am_o_pf c kf t (pc, L, v :: .inr (.inr (some (c', n))) :: rest, M) = (match am_pv M c n kf t v with
      | some M' => am_c (pc + 3, L, rest, M')
      | none => am_no) from if_pos hcc]
    subst hcc
    cases hp : am_pv M c' n kf t v with
    | none => trivial
    | some M' =>
      have hn : n < M.2.2.2.2 c' := am_hd (am_tl hJ.2.2.1)
      have hv := hJ.1.1.1 c' n hn (by have := hF.1; omega)
      rw [am_en_o hF.1] at hv
      obtain ⟨-, -, -, -, ⟨hn1, hfit⟩, -⟩ := am_pv_ok (ad := ad) hp (am_hd hJ.2.2.1) hk hF.tg (fun k' j hj => hJ.1.1.2.2 c' n k' j hn hj)
      have hK := hC.2.2.2.2.2.1
      have hap := va_apart (own := (am_y k).cls) hC.2.2.2.2.1 hF.2.2.1 ty0 hty hnm hK hF.2.1
      obtain ⟨r, h1, cell, q1, q2, q3, q4⟩ := hv
      have hr : r = (C, T, N) := Option.some.inj (h1.symm.trans hF.2.1)
      subst hr
      obtain ⟨hS, hfc, kC, hkC, hkind⟩ := hK.1 c' _ hF.2.1
      obtain ⟨cf, kf', fi, f, hi, hsl⟩ := hS kf hF.2.2.2.1
      have hlay := hC.2.2.2.2.1 _ (hF.2.2.1 _ (u_in_lay hF.2.2.2.1))
      unfold u_lay at hlay
      rw [if_pos hfin] at hlay
      have hst := (u_facts hfc hkC (u_lays hC.2.2.2.2.1 hF.2.2.1 hF.2.2.2.1) hi).1
      have hcf : m.cls = cf := by
        obtain ⟨_, _, c2, _, _, _, -, -, hf', -, -, -, hown2, -⟩ := Cond.laysFinal_spec hlay
        have e1 : c2 = cf := by have := hi.symm.trans hf'; simp at this; exact this.1.symm
        rw [hdecl] at hown2
        rw [← e1]; exact Option.some.inj (hC.2.2.2.1.symm.trans hown2)
      have h6 := u_fits hfc hkC hkind (Or.inr hlay) hi hd2 hn1 hfit
      refine fun _ _ kk => W.putFinK hC.1 hC.2.1 hC.2.2.2.1 (hC.2.2.2.2.1 _ hl) hi hst hcf (hC.2.2.2.2.2.2.2.2.1 hin) (by rw [q2]; exact h6) q1 q3 (by rw [hsl]; exact k2_hasslot (q4 kf hF.2.2.2.1)) rfl rfl hd fun H' e1 e2 e3 => ?_
      rw [hsl] at e1
      exact am_pf_kk hF hJ hp hk kk ⟨_, hF.2.1, t_OB.to (V := updV (vp_V (am_fs ad M c' n (am_fl.getD c' []))) kf (am_cv ad v)) ⟨_, e1, q2, q3, t_set q4 hap hF.2.2.2.1 _⟩ (fun j _ => vp_updV_set (by rw [am_fs_len]; exact (List.getElem?_eq_some_iff.mp hF.2.2.2.2).1) _ j)⟩ e2 e3
  · rw [show am_o_pf c kf t (pc, L, v :: .inr (.inr (some (c', n))) :: rest, M) = am_no from if_neg hcc]; trivial
end FLD
