/-! what is made: objects, rows; and words that stay -/
theorem am_warm {w : Cond} (h : am_wk w = true) {args a' : Array Value} {s U : State} (hb : w.before args s = true) (hW : s.WarmedH U.vm) : w.before a' U = true := by
  unfold am_wk at h
  split at h
  · exact va_Nw.use rfl (va_Nw.warmF hW (va_Nw.of rfl hb))
  · exact va_Nw.use rfl (va_Nw.warmM hW (va_Nw.of rfl hb))
  · exact va_AO.use (va_AO.moved hW.alike (va_AO.of hb))
  · exact word_at hW (good_of_word h) hb
theorem am_words {args : Array Value} {s : State} (h : ∀ w ∈ am_tbl, w.before args s = true) : ∀ w ∈ am_tbl, ∀ (a' : Array Value) (U : State), s.WarmedH U.vm → w.before a' U = true :=
  fun w hw _ _ hW => am_warm (List.mem_filter.mp hw).2 (h w hw) hW
def am_nw (M : am_M) (c len : Nat) : am_M := (am_u2 M.1 c (M.2.2.2.2 c) (fun _ => 0), am_u2 M.2.1 c (M.2.2.2.2 c) (fun _ => 0), am_u2 M.2.2.1 c (M.2.2.2.2 c) (fun _ => none), am_u2 M.2.2.2.1 c (M.2.2.2.2 c) len, am_u1 M.2.2.2.2 c (M.2.2.2.2 c + 1))
theorem am_u2_ne {α : Type} {f : Nat → Nat → α} {a b : Nat} {v : α} {x y : Nat} (h : ¬ (x = a ∧ y = b)) : am_u2 f a b v x y = f x y := by
  unfold am_u2
  by_cases h1 : x = a
  · by_cases h2 : y = b
    · exact absurd ⟨h1, h2⟩ h
    · rw [if_pos h1, if_neg h2]
  · rw [if_neg h1]
theorem am_u2_eq {α : Type} {f : Nat → Nat → α} {a b : Nat} {v : α} : am_u2 f a b v a b = v := by
  simp [am_u2]
theorem am_nw_lt {M : am_M} {c len c' n' : Nat} (h : n' < (am_nw M c len).2.2.2.2 c') : (c' = c ∧ n' = M.2.2.2.2 c) ∨ (¬ (c' = c ∧ n' = M.2.2.2.2 c) ∧ n' < M.2.2.2.2 c') := by
  have h : n' < am_u1 M.2.2.2.2 c (M.2.2.2.2 c + 1) c' := h
  unfold am_u1 at h
  by_cases e : c' = c
  · rw [if_pos e] at h
    subst e
    by_cases e2 : n' = M.2.2.2.2 c'
    · exact Or.inl ⟨rfl, e2⟩
    · exact Or.inr ⟨fun q => e2 q.2, by omega⟩
  · rw [if_neg e] at h
    exact Or.inr ⟨fun q => e q.1, h⟩
theorem am_nw_ge {M : am_M} {c len c' : Nat} : M.2.2.2.2 c' ≤ (am_nw M c len).2.2.2.2 c' := by
  show M.2.2.2.2 c' ≤ am_u1 M.2.2.2.2 c (M.2.2.2.2 c + 1) c'
  unfold am_u1
  by_cases e : c' = c
  · rw [if_pos e, e]; omega
  · rw [if_neg e]; exact Nat.le_refl _
theorem am_en_ad {ca : Nat → ClassId} {ad ad' : Nat → Nat → Nat} {M : am_M} {c n : Nat} (he : ∀ c n, n < M.2.2.2.2 c → ad' c n = ad c n) (hr : ∀ k j, M.2.2.1 c n k = some j → j < M.2.2.2.2 (am_tg c k)) : am_en ca ad' M c n = am_en ca ad M c n := by
  have key : ∀ k t, am_tg c k = t → (M.2.2.1 c n k).map (ad' t) = (M.2.2.1 c n k).map (ad t) := by
    intro k t ht
    cases hR : M.2.2.1 c n k with
    | none => rfl
    | some j =>
      have h1 := hr k j hR
      rw [ht] at h1
      rw [Option.map_some, Option.map_some, he t j h1]
  unfold am_en
  cases hk : am_kd c with
  | inr q =>
    have e : am_fs ad' M c n q.2 = am_fs ad M c n q.2 := by
      unfold am_fs
      refine List.map_congr_left (fun k _ => ?_)
      have htg : am_tg c k = q.2.getD k 0 - 3 := by unfold am_tg; rw [hk]
      generalize q.2.getD k 0 = t at htg
      rcases t with _ | _ | _ | t
      · rfl
      · rfl
      · rfl
      · exact congrArg va_rf (key k t (by rw [htg]; rfl))
    exact congrArg (fun z => (Sum.inr (q.1, z) : va_E)) e
  | inl t =>
    rcases t with _ | _ | _ | t
    · rfl
    · rfl
    · rfl
    · have htg : ∀ k, am_tg c k = t := fun k => by unfold am_tg; rw [hk]; rfl
      have e : (fun k => (M.2.2.1 c n k).map (ad' t)) = (fun k => (M.2.2.1 c n k).map (ad t)) := funext (fun k => key k t (htg k))
      exact congrArg (fun z => (Sum.inl (ca (t + 3), M.2.2.2.1 c n, .inr (.inr (.inr (.inr z)))) : va_E)) e
theorem am_P.new {D : va_G} {ca : Nat → ClassId} {ad : Nat → Nat → Nat} {M : am_M} {H H' : Heap} {c len : Nat} (h : am_P D ca ad M H) (hc : c ≠ 19) (hk : ∀ q : Nat, q < H.size → H'[q]? = H[q]?) (he : va_at D vwCl (H.size, am_en ca (am_u2 ad c (M.2.2.2.2 c) H.size) (am_nw M c len) c (M.2.2.2.2 c)) H') : am_P D ca (am_u2 ad c (M.2.2.2.2 c) H.size) (am_nw M c len) H' := by
  have had : ∀ c' n', n' < M.2.2.2.2 c' → am_u2 ad c (M.2.2.2.2 c) H.size c' n' = ad c' n' := fun c' n' hn => am_u2_ne (fun q => by rw [q.1] at hn; omega)
  have hlt : ∀ c' n', n' < M.2.2.2.2 c' → c' ≠ 19 → ad c' n' < H.size := fun c' n' hn h2 => (h.1 c' n' hn h2).lt
  refine ⟨fun c' n' h1 h2 => ?_, fun c' n' c2 n2 h1 h2 h3 h4 h5 => ?_, fun c' n' k j h1 h2 => ?_⟩
  · rcases am_nw_lt h1 with ⟨rfl, rfl⟩ | ⟨e, h3⟩
    · rw [am_u2_eq]
      exact he
    · rw [had c' n' h3, am_en_congr (M := M) (am_u2_ne e) (am_u2_ne e) (am_u2_ne e) (am_u2_ne e), am_en_ad had (fun k j hj => h.2.2 c' n' k j h3 hj)]
      exact (h.1 c' n' h3 h2).kept (hk _ (hlt c' n' h3 h2))
  · rcases am_nw_lt h1 with ⟨rfl, rfl⟩ | ⟨e, g1⟩
    · rcases am_nw_lt h2 with ⟨rfl, rfl⟩ | ⟨e2, g2⟩
      · exact ⟨rfl, rfl⟩
      · rw [am_u2_eq, had c2 n2 g2] at h5
        have := hlt c2 n2 g2 h4
        omega
    · rcases am_nw_lt h2 with ⟨rfl, rfl⟩ | ⟨e2, g2⟩
      · rw [am_u2_eq, had c' n' g1] at h5
        have := hlt c' n' g1 h3
        omega
      · rw [had c' n' g1, had c2 n2 g2] at h5
        exact h.2.1 c' n' c2 n2 g1 g2 h3 h4 h5
  · have h2 : am_u2 M.2.2.1 c (M.2.2.2.2 c) (fun _ => none) c' n' k = some j := h2
    rcases am_nw_lt h1 with ⟨rfl, rfl⟩ | ⟨e, g1⟩
    · rw [am_u2_eq] at h2
      cases h2
    · rw [am_u2_ne e] at h2
      exact Nat.lt_of_lt_of_le (h.2.2 c' n' k j g1 h2) am_nw_ge
theorem am_J.new {D : va_G} {ca : Nat → ClassId} {s : State} {A : Nat → Prop} {ad : Nat → Nat → Nat} {M : am_M} {H H' : Heap} {locs : List Loc} {ls : Array Slot} {nL c len : Nat} {L : List (Option am_V)} {st rest : List am_V} (h : am_J D ca s A ad H locs ls nL L st M) (hA : ∀ q, s.heap.size ≤ q → A q) (hc : c ≠ 19) (hr : ∀ v ∈ rest, v ∈ st) (hz : H'.size = H.size + 1) (hk : ∀ q : Nat, q < H.size → H'[q]? = H[q]?) (he : va_at D vwCl (H.size, am_en ca (am_u2 ad c (M.2.2.2.2 c) H.size) (am_nw M c len) c (M.2.2.2.2 c)) H') :
    am_J D ca s A (am_u2 ad c (M.2.2.2.2 c) H.size) H' locs ls nL L (.inr (.inr (some (c, M.2.2.2.2 c))) :: rest) (am_nw M c len) ∧ rest.map (am_cv (am_u2 ad c (M.2.2.2.2 c) H.size)) = rest.map (am_cv ad) ∧ am_B ad M (am_u2 ad c (M.2.2.2.2 c) H.size) (am_nw M c len) := by
  have had : ∀ c' n', n' < M.2.2.2.2 c' → am_u2 ad c (M.2.2.2.2 c) H.size c' n' = ad c' n' := fun c' n' hn => am_u2_ne (fun q => by rw [q.1] at hn; omega)
  have hok : ∀ w, am_ok M w → am_ok (am_nw M c len) w := fun w hw => am_ok_mono hw (fun c' => am_nw_ge)
  refine ⟨⟨⟨h.1.1.new hc hk he, fun c' n' h1 h2 h3 => ?_, Nat.le_trans h.1.2.2.1 (by omega), fun q g1 g2 => (hk q (Nat.lt_of_lt_of_le g1 h.1.2.2.1)).trans (h.1.2.2.2.1 q g1 g2), h.1.2.2.2.2⟩, ⟨h.2.1.1, h.2.1.2.1, fun i v hv => ?_⟩, am_cn ?_ (fun w hw => hok w (h.2.2.1 w (hr w hw))), fun i v hv => hok v (h.2.2.2 i v hv)⟩, List.map_congr_left (fun v hv => am_cv_ext (h.2.2.1 v (hr v hv)) had), had, fun c' => am_nw_ge⟩
  · rcases am_nw_lt h1 with ⟨rfl, rfl⟩ | ⟨e, g1⟩
    · rw [am_u2_eq]
      exact hA _ h.1.2.2.1
    · rw [had c' n' g1]
      exact h.1.2.1 c' n' g1 h2 h3
  · rw [am_cv_ext (h.2.2.2 i v hv) had]
    exact h.2.1.2.2 i v hv
  · show M.2.2.2.2 c < am_u1 M.2.2.2.2 c (M.2.2.2.2 c + 1) c
    unfold am_u1
    rw [if_pos rfl]
    omega
def am_o_new (c nf : Nat) : am_S → am_R
  | (pc, L, st, M) => .inl ((pc + 3, L, .inr (.inr (some (c, M.2.2.2.2 c))) :: st, am_nw M c 0), 1, nf)
def am_o_na (c : Nat) : am_S → am_R
  | (pc, L, .inl x :: st, M) => if x < 0 ∨ 100000 < x.toNatClampNeg then am_no else .inl ((pc + 2, L, .inr (.inr (some (c, M.2.2.2.2 c))) :: st, am_nw M c x.toNatClampNeg), 1, x.toNatClampNeg)
  | _ => am_no
def am_o_nq (c : Nat) : am_S → am_R
  | (pc, L, .inl x :: st, M) => if x < 0 ∨ 100000 < x.toNatClampNeg then am_no else .inl ((pc + 3, L, .inr (.inr (some (c, M.2.2.2.2 c))) :: st, am_nw M c x.toNatClampNeg), 1, x.toNatClampNeg)
  | _ => am_no
section NEW
variable {k pc c i : Nat} {C : String} {T : u_T} {N : Nat}
theorem am_s_new {ty0 : Nat → FieldType} (hd : decode (am_by k) pc = .ok (.new i, 3)) (h18 : c < 18) (hcl : vwCl[c]? = some (C, T, N)) (hin : ∀ w ∈ u_ws C T N, w ∈ am_tbl) (hty : ∀ k, k < N → parseFieldDescriptor (T k).2.2.1 = some (ty0 k)) (hl : Cond.classLink (am_y k).cls i C ∈ am_tbl) (hi1 : Cond.instantiable C N ∈ am_tbl) (hi2 : Cond.initialized C ∈ am_tbl) (hN : (am_fl.getD c []).length = N) (htk : ∀ j, j < N → am_tyk (ty0 j) ((am_fl.getD c []).getD j 0) = true) : am_snd k (am_o_new c N) pc := by
  intro D ca p l e R s m args below meth cc A Q hC L st M ad H locs ls cells slots hJ
  have hts := hC.2.2.2.2.1
  have hKn := hC.2.2.2.2.2.1.1 c _ hcl
  refine fun g1 g2 kk => W.newcK hC.1 hC.2.1 hC.2.2.2.1 (hts _ hl) (hts _ hi1) (hts _ hi2) rfl hd g1 g2 hKn.2.1 rfl fun H1 kC hkC e1 z1 o1 => ?_
  have he : va_at D vwCl (H.size, am_en ca (am_u2 ad c (M.2.2.2.2 c) H.size) (am_nw M c 0) c (M.2.2.2.2 c)) H1 := by
    rw [am_en_o h18]
    refine ⟨_, hcl, (u_born ty0 hts hin hKn hkC e1 hty).to (fun j hj => ?_)⟩
    have hj2 : (am_fl.getD c [])[j]? = some ((am_fl.getD c []).getD j 0) := by
      generalize am_fl.getD c [] = ts at hN
      rw [List.getD_eq_getElem?_getD, List.getElem?_eq_getElem (by rw [hN]; exact hj)]
      rfl
    have h3 : vp_V (am_fs (am_u2 ad c (M.2.2.2.2 c) H.size) (am_nw M c 0) c (M.2.2.2.2 c) (am_fl.getD c [])) j = am_fv (am_u2 ad c (M.2.2.2.2 c) H.size) (am_nw M c 0) c (M.2.2.2.2 c) j ((am_fl.getD c []).getD j 0) := by
      unfold vp_V
      rw [List.getD_eq_getElem?_getD, am_fs_get hj2]
      rfl
    rw [h3]
    have h4 := htk j hj
    generalize (am_fl.getD c []).getD j 0 = t at h4
    generalize ty0 j = ty at h4
    have q1 : (am_nw M c 0).1 c (M.2.2.2.2 c) = fun _ => 0 := am_u2_eq
    have q2 : (am_nw M c 0).2.1 c (M.2.2.2.2 c) = fun _ => 0 := am_u2_eq
    have q3 : (am_nw M c 0).2.2.1 c (M.2.2.2.2 c) = fun _ => none := am_u2_eq
    unfold am_fv
    rw [q1, q2, q3]
    rcases t with _ | _ | _ | t <;> cases ty <;> first | rfl | cases h4
  obtain ⟨hJ2, hm, hB2⟩ := hJ.new hC.2.2.2.2.2.2.1 (c := c) (len := 0) (rest := st) (by omega) (fun _ h => h) z1 o1 he
  have kk := kk _ H1 locs ls hJ2 hB2
  rw [List.map_cons, hm] at kk
  have e3 : am_cv (am_u2 ad c (M.2.2.2.2 c) H.size) (.inr (.inr (some (c, M.2.2.2.2 c)))) = .ref H.size := congrArg Value.ref am_u2_eq
  rw [e3] at kk
  exact kk
end NEW
