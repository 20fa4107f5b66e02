/-! operations on locals and the stack, and their soundness -/
def am_o_il (i len : Nat) : am_S → am_R
  | (pc, L, st, M) => match am_get L i with
    | some (.inl x) => am_c (pc + len, L, .inl x :: st, M)
    | _ => am_no
def am_o_ll (i len : Nat) : am_S → am_R
  | (pc, L, st, M) => match am_get L i with
    | some (.inr (.inl x)) => am_c (pc + len, L, .inr (.inl x) :: st, M)
    | _ => am_no
def am_o_al (i len : Nat) : am_S → am_R
  | (pc, L, st, M) => match am_get L i with
    | some (.inr (.inr x)) => am_c (pc + len, L, .inr (.inr x) :: st, M)
    | _ => am_no
def am_o_is (i len : Nat) : am_S → am_R
  | (pc, L, .inl x :: st, M) => am_c (pc + len, am_set1 L i (.inl x), st, M)
  | _ => am_no
def am_o_ls (i len : Nat) : am_S → am_R
  | (pc, L, .inr (.inl x) :: st, M) => am_c (pc + len, am_set2 L i (.inr (.inl x)), st, M)
  | _ => am_no
def am_o_as (i len : Nat) : am_S → am_R
  | (pc, L, .inr (.inr x) :: st, M) => am_c (pc + len, am_set1 L i (.inr (.inr x)), st, M)
  | _ => am_no
def am_o_inc (i : Nat) (v : Int32) : am_S → am_R
  | (pc, L, st, M) => match am_get L i with
    | some (.inl x) => am_c (pc + 3, am_set1 L i (.inl (x + v)), st, M)
    | _ => am_no
def am_o_pi (v : Int32) (len : Nat) : am_S → am_R
  | (pc, L, st, M) => am_c (pc + len, L, .inl v :: st, M)
def am_o_pl (v : Int64) (len : Nat) : am_S → am_R
  | (pc, L, st, M) => am_c (pc + len, L, .inr (.inl v) :: st, M)
def am_o_pn : am_S → am_R
  | (pc, L, st, M) => am_c (pc + 1, L, .inr (.inr none) :: st, M)
def am_o_ib (g : Int32 → Int32 → Int32) : am_S → am_R
  | (pc, L, .inl y :: .inl x :: st, M) => am_c (pc + 1, L, .inl (g x y) :: st, M)
  | _ => am_no
def am_o_iu (g : Int32 → Int32) : am_S → am_R
  | (pc, L, .inl x :: st, M) => am_c (pc + 1, L, .inl (g x) :: st, M)
  | _ => am_no
def am_o_lb (g : Int64 → Int64 → Int64) : am_S → am_R
  | (pc, L, .inr (.inl y) :: .inr (.inl x) :: st, M) => am_c (pc + 1, L, .inr (.inl (g x y)) :: st, M)
  | _ => am_no
def am_o_ld (g : Int64 → Int64 → Int64) : am_S → am_R
  | (pc, L, .inr (.inl y) :: .inr (.inl x) :: st, M) => if y = 0 then am_no else am_c (pc + 1, L, .inr (.inl (g x y)) :: st, M)
  | _ => am_no
def am_o_lc : am_S → am_R
  | (pc, L, .inr (.inl y) :: .inr (.inl x) :: st, M) => am_c (pc + 1, L, .inl (lg_cmp x y) :: st, M)
  | _ => am_no
def am_o_i2l : am_S → am_R
  | (pc, L, .inl x :: st, M) => am_c (pc + 1, L, .inr (.inl x.toInt64) :: st, M)
  | _ => am_no
def am_o_l2i : am_S → am_R
  | (pc, L, .inr (.inl x) :: st, M) => am_c (pc + 1, L, .inl x.toInt32 :: st, M)
  | _ => am_no
def am_o_dup : am_S → am_R
  | (pc, L, v :: st, M) => if am_w1 v = 1 then am_c (pc + 1, L, v :: v :: st, M) else am_no
  | _ => am_no
def am_o_pop : am_S → am_R
  | (pc, L, v :: st, M) => if am_w1 v = 1 then am_c (pc + 1, L, st, M) else am_no
  | _ => am_no
def am_o_du2 : am_S → am_R
  | (pc, L, v :: w :: st, M) => if am_w1 v = 1 then (if am_w1 w = 1 then am_c (pc + 1, L, v :: w :: v :: w :: st, M) else am_no) else am_no
  | _ => am_no
def am_o_if (P : Int32 → Prop) [DecidablePred P] (t : Nat) : am_S → am_R
  | (pc, L, .inl x :: st, M) => if P x then am_c (t, L, st, M) else am_c (pc + 3, L, st, M)
  | _ => am_no
def am_o_ic (P : Int32 → Int32 → Prop) [DecidableRel P] (t : Nat) : am_S → am_R
  | (pc, L, .inl y :: .inl x :: st, M) => if P x y then am_c (t, L, st, M) else am_c (pc + 3, L, st, M)
  | _ => am_no
def am_o_go (t : Nat) : am_S → am_R
  | (_, L, st, M) => am_c (t, L, st, M)
def am_o_nn (t : Nat) : am_S → am_R
  | (pc, L, .inr (.inr (some _)) :: st, M) => am_c (t, L, st, M)
  | (pc, L, .inr (.inr none) :: st, M) => am_c (pc + 3, L, st, M)
  | _ => am_no
def am_o_nu (t : Nat) : am_S → am_R
  | (pc, L, .inr (.inr (some _)) :: st, M) => am_c (pc + 3, L, st, M)
  | (pc, L, .inr (.inr none) :: st, M) => am_c (t, L, st, M)
  | _ => am_no
def am_sw (x : Int32) : List (Int32 × Nat) → Nat → Nat
  | [], d => d
  | q :: r, d => if x = q.1 then q.2 else am_sw x r d
def am_o_sw (tb : List (Int32 × Nat)) (d : Nat) : am_S → am_R
  | (_, L, .inl x :: st, M) => am_c (am_sw x tb d, L, st, M)
  | _ => am_no
def am_o_ret : am_S → am_R
  | (_, _, [], M) => .inr (.inl (none, M))
  | _ => am_no
def am_o_ir : am_S → am_R
  | (_, _, [.inl x], M) => .inr (.inl (some (.inl x), M))
  | _ => am_no
def am_o_zr : am_S → am_R
  | (_, _, [.inl x], M) => if x = 0 ∨ x = 1 then .inr (.inl (some (.inl x), M)) else am_no
  | _ => am_no
def am_o_lr : am_S → am_R
  | (_, _, [.inr (.inl x)], M) => .inr (.inl (some (.inr (.inl x)), M))
  | _ => am_no
def am_o_ar : am_S → am_R
  | (_, _, [.inr (.inr x)], M) => .inr (.inl (some (.inr (.inr x)), M))
  | _ => am_no
theorem am_tl {M : am_M} {v : am_V} {st : List am_V} (h : ∀ w ∈ v :: st, am_ok M w) : ∀ w ∈ st, am_ok M w := fun w hw => h w (List.mem_cons_of_mem _ hw)
theorem am_hd {M : am_M} {v : am_V} {st : List am_V} (h : ∀ w ∈ v :: st, am_ok M w) : am_ok M v := h v List.mem_cons_self
theorem am_cn {M : am_M} {v : am_V} {st : List am_V} (hv : am_ok M v) (h : ∀ w ∈ st, am_ok M w) : ∀ w ∈ v :: st, am_ok M w := fun w hw => by
  rcases List.mem_cons.mp hw with h1 | h1
  · rw [h1]; exact hv
  · exact h w h1
section OPS
variable {k pc : Nat}
theorem am_s_iln {j : Fin 4} {i : Nat} (hd : decode (am_by k) pc = .ok (.iload_n j, 1)) (hi : (j : Nat) = i) : am_snd k (am_o_il i 1) pc := by
  intro D ca p l e R s m args below meth c A Q hC L st M ad H locs ls cells slots hJ
  show am_post D ca k p l e R s m args below meth c A Q pc st M ad H locs ls cells slots (match am_get L i with
    | some (.inl x) => am_c (pc + 1, L, .inl x :: st, M)
    | _ => am_no)
  cases hg : am_get L i with
  | none => trivial
  | some v =>
    rcases v with x | (x | x)
    · exact fun _ _ kk => lv_iload_n hC.1 hC.2.1 hd hi (hJ.2.1.2.2 i _ hg) (kk ad H locs ls ⟨hJ.1, hJ.2.1, am_cn trivial hJ.2.2.1, hJ.2.2.2⟩ ⟨fun _ _ _ => rfl, fun _ => Nat.le_refl _⟩)
    · trivial
    · trivial
theorem am_s_il {i : Nat} (hd : decode (am_by k) pc = .ok (.iload i, 2)) : am_snd k (am_o_il i 2) pc := by
  intro D ca p l e R s m args below meth c A Q hC L st M ad H locs ls cells slots hJ
  show am_post D ca k p l e R s m args below meth c A Q pc st M ad H locs ls cells slots (match am_get L i with
    | some (.inl x) => am_c (pc + 2, L, .inl x :: st, M)
    | _ => am_no)
  cases hg : am_get L i with
  | none => trivial
  | some v =>
    rcases v with x | (x | x)
    · exact fun _ _ kk => lv_iload hC.1 hC.2.1 hd (hJ.2.1.2.2 i _ hg) (kk ad H locs ls ⟨hJ.1, hJ.2.1, am_cn trivial hJ.2.2.1, hJ.2.2.2⟩ ⟨fun _ _ _ => rfl, fun _ => Nat.le_refl _⟩)
    · trivial
    · trivial
theorem am_s_lln {j : Fin 4} {i : Nat} (hd : decode (am_by k) pc = .ok (.lload_n j, 1)) (hi : (j : Nat) = i) : am_snd k (am_o_ll i 1) pc := by
  intro D ca p l e R s m args below meth c A Q hC L st M ad H locs ls cells slots hJ
  show am_post D ca k p l e R s m args below meth c A Q pc st M ad H locs ls cells slots (match am_get L i with
    | some (.inr (.inl x)) => am_c (pc + 1, L, .inr (.inl x) :: st, M)
    | _ => am_no)
  cases hg : am_get L i with
  | none => trivial
  | some v =>
    rcases v with x | (x | x)
    · trivial
    · exact fun _ _ kk => lv_lload_n hC.1 hC.2.1 hd hi (hJ.2.1.2.2 i _ hg) (kk ad H locs ls ⟨hJ.1, hJ.2.1, am_cn trivial hJ.2.2.1, hJ.2.2.2⟩ ⟨fun _ _ _ => rfl, fun _ => Nat.le_refl _⟩)
    · trivial
theorem am_s_ll {i : Nat} (hd : decode (am_by k) pc = .ok (.lload i, 2)) : am_snd k (am_o_ll i 2) pc := by
  intro D ca p l e R s m args below meth c A Q hC L st M ad H locs ls cells slots hJ
  show am_post D ca k p l e R s m args below meth c A Q pc st M ad H locs ls cells slots (match am_get L i with
    | some (.inr (.inl x)) => am_c (pc + 2, L, .inr (.inl x) :: st, M)
    | _ => am_no)
  cases hg : am_get L i with
  | none => trivial
  | some v =>
    rcases v with x | (x | x)
    · trivial
    · exact fun _ _ kk => lv_lload hC.1 hC.2.1 hd (hJ.2.1.2.2 i _ hg) (kk ad H locs ls ⟨hJ.1, hJ.2.1, am_cn trivial hJ.2.2.1, hJ.2.2.2⟩ ⟨fun _ _ _ => rfl, fun _ => Nat.le_refl _⟩)
    · trivial
theorem am_s_aln {j : Fin 4} {i : Nat} (hd : decode (am_by k) pc = .ok (.aload_n j, 1)) (hi : (j : Nat) = i) : am_snd k (am_o_al i 1) pc := by
  intro D ca p l e R s m args below meth c A Q hC L st M ad H locs ls cells slots hJ
  show am_post D ca k p l e R s m args below meth c A Q pc st M ad H locs ls cells slots (match am_get L i with
    | some (.inr (.inr x)) => am_c (pc + 1, L, .inr (.inr x) :: st, M)
    | _ => am_no)
  cases hg : am_get L i with
  | none => trivial
  | some v =>
    rcases v with x | (x | (_ | x))
    · trivial
    · trivial
    · exact fun _ _ kk => lv_aload_nN hC.1 hC.2.1 hd hi (hJ.2.1.2.2 i _ hg) (kk ad H locs ls ⟨hJ.1, hJ.2.1, am_cn trivial hJ.2.2.1, hJ.2.2.2⟩ ⟨fun _ _ _ => rfl, fun _ => Nat.le_refl _⟩)
    · exact fun _ _ kk => lv_aload_n hC.1 hC.2.1 hd hi (hJ.2.1.2.2 i _ hg) (kk ad H locs ls ⟨hJ.1, hJ.2.1, am_cn (hJ.2.2.2 i _ hg) hJ.2.2.1, hJ.2.2.2⟩ ⟨fun _ _ _ => rfl, fun _ => Nat.le_refl _⟩)
theorem am_s_al {i : Nat} (hd : decode (am_by k) pc = .ok (.aload i, 2)) : am_snd k (am_o_al i 2) pc := by
  intro D ca p l e R s m args below meth c A Q hC L st M ad H locs ls cells slots hJ
  show am_post D ca k p l e R s m args below meth c A Q pc st M ad H locs ls cells slots (match am_get L i with
    | some (.inr (.inr x)) => am_c (pc + 2, L, .inr (.inr x) :: st, M)
    | _ => am_no)
  cases hg : am_get L i with
  | none => trivial
  | some v =>
    rcases v with x | (x | (_ | x))
    · trivial
    · trivial
    · exact fun _ _ kk => lv_aloadN hC.1 hC.2.1 hd (hJ.2.1.2.2 i _ hg) (kk ad H locs ls ⟨hJ.1, hJ.2.1, am_cn trivial hJ.2.2.1, hJ.2.2.2⟩ ⟨fun _ _ _ => rfl, fun _ => Nat.le_refl _⟩)
    · exact fun _ _ kk => lv_aload hC.1 hC.2.1 hd (hJ.2.1.2.2 i _ hg) (kk ad H locs ls ⟨hJ.1, hJ.2.1, am_cn (hJ.2.2.2 i _ hg) hJ.2.2.1, hJ.2.2.2⟩ ⟨fun _ _ _ => rfl, fun _ => Nat.le_refl _⟩)
theorem am_st1_ok {M : am_M} {L : List (Option am_V)} {i : Nat} {v : am_V} (h : ∀ i v, am_get L i = some v → am_ok M v) (hv : am_ok M v) : ∀ j w, am_get (am_set1 L i v) j = some w → am_ok M w := fun j w hj => by
  rcases am_get_put _ _ _ _ _ hj with ⟨h1, h2⟩ | ⟨h1, h2⟩
  · cases h2; exact hv
  · exact h j w (am_get_kill h2).1
theorem am_st2_ok {M : am_M} {L : List (Option am_V)} {i : Nat} {v : am_V} (h : ∀ i v, am_get L i = some v → am_ok M v) (hv : am_ok M v) : ∀ j w, am_get (am_set2 L i v) j = some w → am_ok M w := fun j w hj => by
  rcases am_get_put _ _ _ _ _ hj with ⟨h1, h2⟩ | ⟨h1, h2⟩
  · cases h2; exact hv
  · rcases am_get_put _ _ _ _ _ h2 with ⟨h5, h6⟩ | ⟨h5, h6⟩
    · cases h6
    · exact h j w (am_get_kill h6).1
theorem am_s_isn {j : Fin 4} {i : Nat} (hd : decode (am_by k) pc = .ok (.istore_n j, 1)) (hi : (j : Nat) = i) (hn : i < am_ml k) : am_snd k (am_o_is i 1) pc := by
  intro D ca p l e R s m args below meth c A Q hC L st M ad H locs ls cells slots hJ
  rcases st with _ | ⟨x | (x | x), rest⟩
  · trivial
  · exact fun _ _ kk => lv_istore_n hC.1 hC.2.1 hd hi hJ.2.1.has hn rfl (fun ls' h' => kk ad H locs ls' ⟨hJ.1, am_L.st1 h', am_tl hJ.2.2.1, am_st1_ok hJ.2.2.2 trivial⟩ ⟨fun _ _ _ => rfl, fun _ => Nat.le_refl _⟩)
  · trivial
  · trivial
theorem am_s_is {i : Nat} (hd : decode (am_by k) pc = .ok (.istore i, 2)) (hn : i < am_ml k) : am_snd k (am_o_is i 2) pc := by
  intro D ca p l e R s m args below meth c A Q hC L st M ad H locs ls cells slots hJ
  rcases st with _ | ⟨x | (x | x), rest⟩
  · trivial
  · exact fun _ _ kk => lv_istore hC.1 hC.2.1 hd hJ.2.1.has hn rfl (fun ls' h' => kk ad H locs ls' ⟨hJ.1, am_L.st1 h', am_tl hJ.2.2.1, am_st1_ok hJ.2.2.2 trivial⟩ ⟨fun _ _ _ => rfl, fun _ => Nat.le_refl _⟩)
  · trivial
  · trivial
theorem am_s_lsn {j : Fin 4} {i : Nat} (hd : decode (am_by k) pc = .ok (.lstore_n j, 1)) (hi : (j : Nat) = i) (hn : i + 1 < am_ml k) : am_snd k (am_o_ls i 1) pc := by
  intro D ca p l e R s m args below meth c A Q hC L st M ad H locs ls cells slots hJ
  rcases st with _ | ⟨x | (x | x), rest⟩
  · trivial
  · trivial
  · exact fun _ _ kk => lv_lstore_n hC.1 hC.2.1 hd hi hJ.2.1.has hn rfl (fun ls' h' => kk ad H locs ls' ⟨hJ.1, am_L.st2 h', am_tl hJ.2.2.1, am_st2_ok hJ.2.2.2 trivial⟩ ⟨fun _ _ _ => rfl, fun _ => Nat.le_refl _⟩)
  · trivial
theorem am_s_ls {i : Nat} (hd : decode (am_by k) pc = .ok (.lstore i, 2)) (hn : i + 1 < am_ml k) : am_snd k (am_o_ls i 2) pc := by
  intro D ca p l e R s m args below meth c A Q hC L st M ad H locs ls cells slots hJ
  rcases st with _ | ⟨x | (x | x), rest⟩
  · trivial
  · trivial
  · exact fun _ _ kk => lv_lstore hC.1 hC.2.1 hd hJ.2.1.has hn rfl (fun ls' h' => kk ad H locs ls' ⟨hJ.1, am_L.st2 h', am_tl hJ.2.2.1, am_st2_ok hJ.2.2.2 trivial⟩ ⟨fun _ _ _ => rfl, fun _ => Nat.le_refl _⟩)
  · trivial
theorem am_s_asn {j : Fin 4} {i : Nat} (hd : decode (am_by k) pc = .ok (.astore_n j, 1)) (hi : (j : Nat) = i) (hn : i < am_ml k) : am_snd k (am_o_as i 1) pc := by
  intro D ca p l e R s m args below meth c A Q hC L st M ad H locs ls cells slots hJ
  rcases st with _ | ⟨x | (x | (_ | x)), rest⟩
  · trivial
  · trivial
  · trivial
  · exact fun _ _ kk => lv_astore_nN hC.1 hC.2.1 hd hi hJ.2.1.has hn rfl (fun ls' h' => kk ad H locs ls' ⟨hJ.1, am_L.st1 h', am_tl hJ.2.2.1, am_st1_ok hJ.2.2.2 trivial⟩ ⟨fun _ _ _ => rfl, fun _ => Nat.le_refl _⟩)
  · exact fun _ _ kk => lv_astore_n hC.1 hC.2.1 hd hi hJ.2.1.has hn rfl (fun ls' h' => kk ad H locs ls' ⟨hJ.1, am_L.st1 h', am_tl hJ.2.2.1, am_st1_ok hJ.2.2.2 (am_hd hJ.2.2.1)⟩ ⟨fun _ _ _ => rfl, fun _ => Nat.le_refl _⟩)
theorem am_s_as {i : Nat} (hd : decode (am_by k) pc = .ok (.astore i, 2)) (hn : i < am_ml k) : am_snd k (am_o_as i 2) pc := by
  intro D ca p l e R s m args below meth c A Q hC L st M ad H locs ls cells slots hJ
  rcases st with _ | ⟨x | (x | (_ | x)), rest⟩
  · trivial
  · trivial
  · trivial
  · exact fun _ _ kk => lv_astoreN hC.1 hC.2.1 hd hJ.2.1.has hn rfl (fun ls' h' => kk ad H locs ls' ⟨hJ.1, am_L.st1 h', am_tl hJ.2.2.1, am_st1_ok hJ.2.2.2 trivial⟩ ⟨fun _ _ _ => rfl, fun _ => Nat.le_refl _⟩)
  · exact fun _ _ kk => lv_astore hC.1 hC.2.1 hd hJ.2.1.has hn rfl (fun ls' h' => kk ad H locs ls' ⟨hJ.1, am_L.st1 h', am_tl hJ.2.2.1, am_st1_ok hJ.2.2.2 (am_hd hJ.2.2.1)⟩ ⟨fun _ _ _ => rfl, fun _ => Nat.le_refl _⟩)
theorem am_s_inc {i : Nat} {n : Int} {v : Int32} (hd : decode (am_by k) pc = .ok (.iinc i n, 3)) (hv : Int32.ofInt n = v) (hn : i < am_ml k) : am_snd k (am_o_inc i v) pc := by
  intro D ca p l e R s m args below meth c A Q hC L st M ad H locs ls cells slots hJ
  show am_post D ca k p l e R s m args below meth c A Q pc st M ad H locs ls cells slots (match am_get L i with
    | some (.inl x) => am_c (pc + 3, am_set1 L i (.inl (x + v)), st, M)
    | _ => am_no)
  cases hg : am_get L i with
  | none => trivial
  | some u =>
    rcases u with x | (x | x)
    · obtain ⟨j, hj⟩ := List.getElem?_of_mem (am_lv_mem (ad := ad) hg)
      exact fun _ _ kk => lv_iinc (v := x + v) hC.1 hC.2.1 hd hJ.2.1.has (k := j) hj (by rw [hv]) hn rfl (fun ls' h' => kk ad H locs ls' ⟨hJ.1, am_L.st1 (v := .inl (x + v)) h', hJ.2.2.1, am_st1_ok hJ.2.2.2 trivial⟩ ⟨fun _ _ _ => rfl, fun _ => Nat.le_refl _⟩)
    · trivial
    · trivial
theorem am_s_iconst {n : Int} {v : Int32} (hd : decode (am_by k) pc = .ok (.iconst n, 1)) (hv : Int32.ofInt n = v) : am_snd k (am_o_pi v 1) pc := by
  intro D ca p l e R s m args below meth c A Q hC L st M ad H locs ls cells slots hJ
  exact fun _ _ kk => lv_iconst hC.1 hC.2.1 hd hv (kk ad H locs ls ⟨hJ.1, hJ.2.1, am_cn trivial hJ.2.2.1, hJ.2.2.2⟩ ⟨fun _ _ _ => rfl, fun _ => Nat.le_refl _⟩)
theorem am_s_bipush {n : Int} {v : Int32} (hd : decode (am_by k) pc = .ok (.bipush n, 2)) (hv : (Int8.ofInt n).toInt32 = v) : am_snd k (am_o_pi v 2) pc := by
  intro D ca p l e R s m args below meth c A Q hC L st M ad H locs ls cells slots hJ
  exact fun _ _ kk => lv_bipush hC.1 hC.2.1 hd hv (kk ad H locs ls ⟨hJ.1, hJ.2.1, am_cn trivial hJ.2.2.1, hJ.2.2.2⟩ ⟨fun _ _ _ => rfl, fun _ => Nat.le_refl _⟩)
theorem am_s_sipush {n : Int} {v : Int32} (hd : decode (am_by k) pc = .ok (.sipush n, 3)) (hv : (Int16.ofInt n).toInt32 = v) : am_snd k (am_o_pi v 3) pc := by
  intro D ca p l e R s m args below meth c A Q hC L st M ad H locs ls cells slots hJ
  exact fun _ _ kk => lv_sipush hC.1 hC.2.1 hd hv (kk ad H locs ls ⟨hJ.1, hJ.2.1, am_cn trivial hJ.2.2.1, hJ.2.2.2⟩ ⟨fun _ _ _ => rfl, fun _ => Nat.le_refl _⟩)
theorem am_s_lconst {n : Fin 2} {v : Int64} (hd : decode (am_by k) pc = .ok (.lconst n, 1)) (hv : Int64.ofNat (n : Nat) = v) : am_snd k (am_o_pl v 1) pc := by
  intro D ca p l e R s m args below meth c A Q hC L st M ad H locs ls cells slots hJ
  exact fun _ _ kk => lv_lconst hC.1 hC.2.1 hd hv (kk ad H locs ls ⟨hJ.1, hJ.2.1, am_cn trivial hJ.2.2.1, hJ.2.2.2⟩ ⟨fun _ _ _ => rfl, fun _ => Nat.le_refl _⟩)
theorem am_s_null (hd : decode (am_by k) pc = .ok (.aconst_null, 1)) : am_snd k am_o_pn pc := by
  intro D ca p l e R s m args below meth c A Q hC L st M ad H locs ls cells slots hJ
  exact fun _ _ kk => lv_null hC.1 hC.2.1 hd (kk ad H locs ls ⟨hJ.1, hJ.2.1, am_cn trivial hJ.2.2.1, hJ.2.2.2⟩ ⟨fun _ _ _ => rfl, fun _ => Nat.le_refl _⟩)
theorem am_s_ldc {i : Nat} {v : Int32} (hd : decode (am_by k) pc = .ok (.ldc i, 2)) (hw : Cond.constant (am_y k).cls i v ∈ am_tbl) : am_snd k (am_o_pi v 2) pc := by
  intro D ca p l e R s m args below meth c A Q hC L st M ad H locs ls cells slots hJ
  exact fun _ _ kk => lv_ldc hC.1 hC.2.1 hC.2.2.2.1 (hC.2.2.2.2.1 _ hw) hd (kk ad H locs ls ⟨hJ.1, hJ.2.1, am_cn trivial hJ.2.2.1, hJ.2.2.2⟩ ⟨fun _ _ _ => rfl, fun _ => Nat.le_refl _⟩)
theorem am_s_ldcw {i : Nat} {v : Int32} (hd : decode (am_by k) pc = .ok (.ldc_w i, 3)) (hw : Cond.constant (am_y k).cls i v ∈ am_tbl) : am_snd k (am_o_pi v 3) pc := by
  intro D ca p l e R s m args below meth c A Q hC L st M ad H locs ls cells slots hJ
  exact fun _ _ kk => lv_ldcw hC.1 hC.2.1 hC.2.2.2.1 (hC.2.2.2.2.1 _ hw) hd (kk ad H locs ls ⟨hJ.1, hJ.2.1, am_cn trivial hJ.2.2.1, hJ.2.2.2⟩ ⟨fun _ _ _ => rfl, fun _ => Nat.le_refl _⟩)
theorem am_s_ldc2 {i : Nat} {v : Int64} (hd : decode (am_by k) pc = .ok (.ldc2_w i, 3)) (hw : Cond.constantLong (am_y k).cls i v ∈ am_tbl) : am_snd k (am_o_pl v 3) pc := by
  intro D ca p l e R s m args below meth c A Q hC L st M ad H locs ls cells slots hJ
  exact fun _ _ kk => lv_ldc2 hC.1 hC.2.1 hC.2.2.2.1 (hC.2.2.2.2.1 _ hw) hd (kk ad H locs ls ⟨hJ.1, hJ.2.1, am_cn trivial hJ.2.2.1, hJ.2.2.2⟩ ⟨fun _ _ _ => rfl, fun _ => Nat.le_refl _⟩)
theorem am_s_iadd (hd : decode (am_by k) pc = .ok (.iadd, 1)) : am_snd k (am_o_ib (fun x y => x + y)) pc := by
  intro D ca p l e R s m args below meth c A Q hC L st M ad H locs ls cells slots hJ
  rcases st with _ | ⟨y | (y | y), _ | ⟨x | (x | x), rest⟩⟩ <;> first | trivial | exact fun _ _ kk => lv_iadd hC.1 hC.2.1 hd (kk ad H locs ls ⟨hJ.1, hJ.2.1, am_cn trivial (am_tl (am_tl hJ.2.2.1)), hJ.2.2.2⟩ ⟨fun _ _ _ => rfl, fun _ => Nat.le_refl _⟩)
theorem am_s_isub (hd : decode (am_by k) pc = .ok (.isub, 1)) : am_snd k (am_o_ib (fun x y => x - y)) pc := by
  intro D ca p l e R s m args below meth c A Q hC L st M ad H locs ls cells slots hJ
  rcases st with _ | ⟨y | (y | y), _ | ⟨x | (x | x), rest⟩⟩ <;> first | trivial | exact fun _ _ kk => lv_isub hC.1 hC.2.1 hd (kk ad H locs ls ⟨hJ.1, hJ.2.1, am_cn trivial (am_tl (am_tl hJ.2.2.1)), hJ.2.2.2⟩ ⟨fun _ _ _ => rfl, fun _ => Nat.le_refl _⟩)
theorem am_s_imul (hd : decode (am_by k) pc = .ok (.imul, 1)) : am_snd k (am_o_ib (fun x y => x * y)) pc := by
  intro D ca p l e R s m args below meth c A Q hC L st M ad H locs ls cells slots hJ
  rcases st with _ | ⟨y | (y | y), _ | ⟨x | (x | x), rest⟩⟩ <;> first | trivial | exact fun _ _ kk => lv_imul hC.1 hC.2.1 hd (kk ad H locs ls ⟨hJ.1, hJ.2.1, am_cn trivial (am_tl (am_tl hJ.2.2.1)), hJ.2.2.2⟩ ⟨fun _ _ _ => rfl, fun _ => Nat.le_refl _⟩)
theorem am_s_iand (hd : decode (am_by k) pc = .ok (.iand, 1)) : am_snd k (am_o_ib (fun x y => x &&& y)) pc := by
  intro D ca p l e R s m args below meth c A Q hC L st M ad H locs ls cells slots hJ
  rcases st with _ | ⟨y | (y | y), _ | ⟨x | (x | x), rest⟩⟩ <;> first | trivial | exact fun _ _ kk => lv_iand hC.1 hC.2.1 hd (kk ad H locs ls ⟨hJ.1, hJ.2.1, am_cn trivial (am_tl (am_tl hJ.2.2.1)), hJ.2.2.2⟩ ⟨fun _ _ _ => rfl, fun _ => Nat.le_refl _⟩)
theorem am_s_ior (hd : decode (am_by k) pc = .ok (.ior, 1)) : am_snd k (am_o_ib (fun x y => x ||| y)) pc := by
  intro D ca p l e R s m args below meth c A Q hC L st M ad H locs ls cells slots hJ
  rcases st with _ | ⟨y | (y | y), _ | ⟨x | (x | x), rest⟩⟩ <;> first | trivial | exact fun _ _ kk => lv_ior hC.1 hC.2.1 hd (kk ad H locs ls ⟨hJ.1, hJ.2.1, am_cn trivial (am_tl (am_tl hJ.2.2.1)), hJ.2.2.2⟩ ⟨fun _ _ _ => rfl, fun _ => Nat.le_refl _⟩)
theorem am_s_ixor (hd : decode (am_by k) pc = .ok (.ixor, 1)) : am_snd k (am_o_ib (fun x y => x ^^^ y)) pc := by
  intro D ca p l e R s m args below meth c A Q hC L st M ad H locs ls cells slots hJ
  rcases st with _ | ⟨y | (y | y), _ | ⟨x | (x | x), rest⟩⟩ <;> first | trivial | exact fun _ _ kk => lv_ixor hC.1 hC.2.1 hd (kk ad H locs ls ⟨hJ.1, hJ.2.1, am_cn trivial (am_tl (am_tl hJ.2.2.1)), hJ.2.2.2⟩ ⟨fun _ _ _ => rfl, fun _ => Nat.le_refl _⟩)
theorem am_s_ishl (hd : decode (am_by k) pc = .ok (.ishl, 1)) : am_snd k (am_o_ib (fun x y => x <<< (y &&& 31))) pc := by
  intro D ca p l e R s m args below meth c A Q hC L st M ad H locs ls cells slots hJ
  rcases st with _ | ⟨y | (y | y), _ | ⟨x | (x | x), rest⟩⟩ <;> first | trivial | exact fun _ _ kk => lv_ishl hC.1 hC.2.1 hd (kk ad H locs ls ⟨hJ.1, hJ.2.1, am_cn trivial (am_tl (am_tl hJ.2.2.1)), hJ.2.2.2⟩ ⟨fun _ _ _ => rfl, fun _ => Nat.le_refl _⟩)
theorem am_s_ishr (hd : decode (am_by k) pc = .ok (.ishr, 1)) : am_snd k (am_o_ib (fun x y => x >>> (y &&& 31))) pc := by
  intro D ca p l e R s m args below meth c A Q hC L st M ad H locs ls cells slots hJ
  rcases st with _ | ⟨y | (y | y), _ | ⟨x | (x | x), rest⟩⟩ <;> first | trivial | exact fun _ _ kk => lv_ishr hC.1 hC.2.1 hd (kk ad H locs ls ⟨hJ.1, hJ.2.1, am_cn trivial (am_tl (am_tl hJ.2.2.1)), hJ.2.2.2⟩ ⟨fun _ _ _ => rfl, fun _ => Nat.le_refl _⟩)
theorem am_s_iushr (hd : decode (am_by k) pc = .ok (.iushr, 1)) : am_snd k (am_o_ib (fun x y => (x.toUInt32 >>> (y.toUInt32 &&& Int32.toUInt32 31)).toInt32)) pc := by
  intro D ca p l e R s m args below meth c A Q hC L st M ad H locs ls cells slots hJ
  rcases st with _ | ⟨y | (y | y), _ | ⟨x | (x | x), rest⟩⟩ <;> first | trivial | exact fun _ _ kk => lv_iushr hC.1 hC.2.1 hd rfl (kk ad H locs ls ⟨hJ.1, hJ.2.1, am_cn trivial (am_tl (am_tl hJ.2.2.1)), hJ.2.2.2⟩ ⟨fun _ _ _ => rfl, fun _ => Nat.le_refl _⟩)
theorem am_s_ineg (hd : decode (am_by k) pc = .ok (.ineg, 1)) : am_snd k (am_o_iu (fun x => -x)) pc := by
  intro D ca p l e R s m args below meth c A Q hC L st M ad H locs ls cells slots hJ
  rcases st with _ | ⟨x | (x | x), rest⟩ <;> first | trivial | exact fun _ _ kk => lv_ineg hC.1 hC.2.1 hd (kk ad H locs ls ⟨hJ.1, hJ.2.1, am_cn trivial (am_tl hJ.2.2.1), hJ.2.2.2⟩ ⟨fun _ _ _ => rfl, fun _ => Nat.le_refl _⟩)
theorem am_s_ladd (hd : decode (am_by k) pc = .ok (.ladd, 1)) : am_snd k (am_o_lb (fun x y => x + y)) pc := by
  intro D ca p l e R s m args below meth c A Q hC L st M ad H locs ls cells slots hJ
  rcases st with _ | ⟨y | (y | y), _ | ⟨x | (x | x), rest⟩⟩ <;> first | trivial | exact fun _ _ kk => lv_ladd hC.1 hC.2.1 hd (kk ad H locs ls ⟨hJ.1, hJ.2.1, am_cn trivial (am_tl (am_tl hJ.2.2.1)), hJ.2.2.2⟩ ⟨fun _ _ _ => rfl, fun _ => Nat.le_refl _⟩)
theorem am_s_lsub (hd : decode (am_by k) pc = .ok (.lsub, 1)) : am_snd k (am_o_lb (fun x y => x - y)) pc := by
  intro D ca p l e R s m args below meth c A Q hC L st M ad H locs ls cells slots hJ
  rcases st with _ | ⟨y | (y | y), _ | ⟨x | (x | x), rest⟩⟩ <;> first | trivial | exact fun _ _ kk => lv_lsub hC.1 hC.2.1 hd (kk ad H locs ls ⟨hJ.1, hJ.2.1, am_cn trivial (am_tl (am_tl hJ.2.2.1)), hJ.2.2.2⟩ ⟨fun _ _ _ => rfl, fun _ => Nat.le_refl _⟩)
theorem am_s_lmul (hd : decode (am_by k) pc = .ok (.lmul, 1)) : am_snd k (am_o_lb (fun x y => x * y)) pc := by
  intro D ca p l e R s m args below meth c A Q hC L st M ad H locs ls cells slots hJ
  rcases st with _ | ⟨y | (y | y), _ | ⟨x | (x | x), rest⟩⟩ <;> first | trivial | exact fun _ _ kk => lv_lmul hC.1 hC.2.1 hd (kk ad H locs ls ⟨hJ.1, hJ.2.1, am_cn trivial (am_tl (am_tl hJ.2.2.1)), hJ.2.2.2⟩ ⟨fun _ _ _ => rfl, fun _ => Nat.le_refl _⟩)
theorem am_s_ldiv (hd : decode (am_by k) pc = .ok (.ldiv, 1)) : am_snd k (am_o_ld (fun x y => x / y)) pc := by
  intro D ca p l e R s m args below meth c A Q hC L st M ad H locs ls cells slots hJ
  rcases st with _ | ⟨y | (y | y), _ | ⟨x | (x | x), rest⟩⟩ <;> try trivial
  by_cases hy : y = 0
  · rw [show am_o_ld (fun x y => x / y) (pc, L, .inr (.inl y) :: .inr (.inl x) :: rest, M) = am_no from if_pos hy]; trivial
  · rw [show am_o_ld (fun x y => x / y) (pc, L, .inr (.inl y) :: .inr (.inl x) :: rest, M) = am_c (pc + 1, L, .inr (.inl (x / y)) :: rest, M) from if_neg hy]
    exact fun _ _ kk => lv_ldiv hC.1 hC.2.1 hd hy (kk ad H locs ls ⟨hJ.1, hJ.2.1, am_cn trivial (am_tl (am_tl hJ.2.2.1)), hJ.2.2.2⟩ ⟨fun _ _ _ => rfl, fun _ => Nat.le_refl _⟩)
theorem am_s_lrem (hd : decode (am_by k) pc = .ok (.lrem, 1)) : am_snd k (am_o_ld (fun x y => x - x / y * y)) pc := by
  intro D ca p l e R s m args below meth c A Q hC L st M ad H locs ls cells slots hJ
  rcases st with _ | ⟨y | (y | y), _ | ⟨x | (x | x), rest⟩⟩ <;> try trivial
  by_cases hy : y = 0
  · rw [show am_o_ld (fun x y => x - x / y * y) (pc, L, .inr (.inl y) :: .inr (.inl x) :: rest, M) = am_no from if_pos hy]; trivial
  · rw [show am_o_ld (fun x y => x - x / y * y) (pc, L, .inr (.inl y) :: .inr (.inl x) :: rest, M) = am_c (pc + 1, L, .inr (.inl (x - x / y * y)) :: rest, M) from if_neg hy]
    exact fun _ _ kk => lv_lrem hC.1 hC.2.1 hd hy (kk ad H locs ls ⟨hJ.1, hJ.2.1, am_cn trivial (am_tl (am_tl hJ.2.2.1)), hJ.2.2.2⟩ ⟨fun _ _ _ => rfl, fun _ => Nat.le_refl _⟩)
theorem am_s_lcmp (hd : decode (am_by k) pc = .ok (.lcmp, 1)) : am_snd k am_o_lc pc := by
  intro D ca p l e R s m args below meth c A Q hC L st M ad H locs ls cells slots hJ
  rcases st with _ | ⟨y | (y | y), _ | ⟨x | (x | x), rest⟩⟩ <;> first | trivial | exact fun _ _ kk => W.lcmp hC.1 hC.2.1 hd (kk ad H locs ls ⟨hJ.1, hJ.2.1, am_cn trivial (am_tl (am_tl hJ.2.2.1)), hJ.2.2.2⟩ ⟨fun _ _ _ => rfl, fun _ => Nat.le_refl _⟩)
theorem am_s_i2l (hd : decode (am_by k) pc = .ok (.i2l, 1)) : am_snd k am_o_i2l pc := by
  intro D ca p l e R s m args below meth c A Q hC L st M ad H locs ls cells slots hJ
  rcases st with _ | ⟨x | (x | x), rest⟩ <;> first | trivial | exact fun _ _ kk => lv_i2l hC.1 hC.2.1 hd rfl (kk ad H locs ls ⟨hJ.1, hJ.2.1, am_cn trivial (am_tl hJ.2.2.1), hJ.2.2.2⟩ ⟨fun _ _ _ => rfl, fun _ => Nat.le_refl _⟩)
theorem am_s_l2i (hd : decode (am_by k) pc = .ok (.l2i, 1)) : am_snd k am_o_l2i pc := by
  intro D ca p l e R s m args below meth c A Q hC L st M ad H locs ls cells slots hJ
  rcases st with _ | ⟨x | (x | x), rest⟩ <;> first | trivial | exact fun _ _ kk => lv_l2i hC.1 hC.2.1 hd rfl (kk ad H locs ls ⟨hJ.1, hJ.2.1, am_cn trivial (am_tl hJ.2.2.1), hJ.2.2.2⟩ ⟨fun _ _ _ => rfl, fun _ => Nat.le_refl _⟩)
theorem am_s_dup (hd : decode (am_by k) pc = .ok (.dup, 1)) : am_snd k am_o_dup pc := by
  intro D ca p l e R s m args below meth c A Q hC L st M ad H locs ls cells slots hJ
  rcases st with _ | ⟨v, rest⟩
  · trivial
  · by_cases hv : am_w1 v = 1
    · rw [show am_o_dup (pc, L, v :: rest, M) = am_c (pc + 1, L, v :: v :: rest, M) from if_pos hv]
      exact fun _ _ kk => lv_dup hC.1 hC.2.1 hd ((am_cat v).trans hv) (kk ad H locs ls ⟨hJ.1, hJ.2.1, am_cn (am_hd hJ.2.2.1) hJ.2.2.1, hJ.2.2.2⟩ ⟨fun _ _ _ => rfl, fun _ => Nat.le_refl _⟩)
    · rw [show am_o_dup (pc, L, v :: rest, M) = am_no from if_neg hv]; trivial
theorem am_s_pop (hd : decode (am_by k) pc = .ok (.pop, 1)) : am_snd k am_o_pop pc := by
  intro D ca p l e R s m args below meth c A Q hC L st M ad H locs ls cells slots hJ
  rcases st with _ | ⟨v, rest⟩
  · trivial
  · by_cases hv : am_w1 v = 1
    · rw [show am_o_pop (pc, L, v :: rest, M) = am_c (pc + 1, L, rest, M) from if_pos hv]
      exact fun _ _ kk => lv_pop hC.1 hC.2.1 hd ((am_cat v).trans hv) (kk ad H locs ls ⟨hJ.1, hJ.2.1, am_tl hJ.2.2.1, hJ.2.2.2⟩ ⟨fun _ _ _ => rfl, fun _ => Nat.le_refl _⟩)
    · rw [show am_o_pop (pc, L, v :: rest, M) = am_no from if_neg hv]; trivial
theorem am_s_du2 (hd : decode (am_by k) pc = .ok (.dup2, 1)) : am_snd k am_o_du2 pc := by
  intro D ca p l e R s m args below meth c A Q hC L st M ad H locs ls cells slots hJ
  rcases st with _ | ⟨v, _ | ⟨w, rest⟩⟩
  · trivial
  · trivial
  · by_cases hv : am_w1 v = 1
    · by_cases hw : am_w1 w = 1
      · rw [show am_o_du2 (pc, L, v :: w :: rest, M) = am_c (pc + 1, L, v :: w :: v :: w :: rest, M) from (if_pos hv).trans (if_pos hw)]
        exact fun _ _ kk => lv_dup2_11 hC.1 hC.2.1 hd ((am_cat v).trans hv) ((am_cat w).trans hw) (kk ad H locs ls ⟨hJ.1, hJ.2.1, am_cn (am_hd hJ.2.2.1) (am_cn (am_hd (am_tl hJ.2.2.1)) hJ.2.2.1), hJ.2.2.2⟩ ⟨fun _ _ _ => rfl, fun _ => Nat.le_refl _⟩)
      · rw [show am_o_du2 (pc, L, v :: w :: rest, M) = am_no from (if_pos hv).trans (if_neg hw)]; trivial
    · rw [show am_o_du2 (pc, L, v :: w :: rest, M) = am_no from if_neg hv]; trivial
theorem am_s_ifeq {off : Int} {t : Nat} (hd : decode (am_by k) pc = .ok (.ifCond .eq off, 3)) (ht : (pc : Int) + off = (t : Int)) : am_snd k (am_o_if (fun x => x = 0) t) pc := by
  intro D ca p l e R s m args below meth c A Q hC L st M ad H locs ls cells slots hJ
  rcases st with _ | ⟨x | (x | x), rest⟩ <;> try trivial
  by_cases h : x = 0
  · rw [show am_o_if (fun x => x = 0) t (pc, L, .inl x :: rest, M) = am_c (t, L, rest, M) from if_pos h]
    exact fun _ _ kk => lv_if_eq hC.1 hC.2.1 hd ht (fun _ => kk ad H locs ls ⟨hJ.1, hJ.2.1, am_tl hJ.2.2.1, hJ.2.2.2⟩ ⟨fun _ _ _ => rfl, fun _ => Nat.le_refl _⟩) (fun q => by first | exact absurd h q | exact absurd q h)
  · rw [show am_o_if (fun x => x = 0) t (pc, L, .inl x :: rest, M) = am_c (pc + 3, L, rest, M) from if_neg h]
    exact fun _ _ kk => lv_if_eq hC.1 hC.2.1 hd ht (fun q => absurd q h) (fun _ => kk ad H locs ls ⟨hJ.1, hJ.2.1, am_tl hJ.2.2.1, hJ.2.2.2⟩ ⟨fun _ _ _ => rfl, fun _ => Nat.le_refl _⟩)
theorem am_s_iceq {off : Int} {t : Nat} (hd : decode (am_by k) pc = .ok (.if_icmp .eq off, 3)) (ht : (pc : Int) + off = (t : Int)) : am_snd k (am_o_ic (fun x y => x = y) t) pc := by
  intro D ca p l e R s m args below meth c A Q hC L st M ad H locs ls cells slots hJ
  rcases st with _ | ⟨y | (y | y), _ | ⟨x | (x | x), rest⟩⟩ <;> try trivial
  by_cases h : x = y
  · rw [show am_o_ic (fun x y => x = y) t (pc, L, .inl y :: .inl x :: rest, M) = am_c (t, L, rest, M) from if_pos h]
    exact fun _ _ kk => lv_icmp_eq hC.1 hC.2.1 hd ht (fun _ => kk ad H locs ls ⟨hJ.1, hJ.2.1, am_tl (am_tl hJ.2.2.1), hJ.2.2.2⟩ ⟨fun _ _ _ => rfl, fun _ => Nat.le_refl _⟩) (fun q => by first | exact absurd h q | exact absurd q h)
  · rw [show am_o_ic (fun x y => x = y) t (pc, L, .inl y :: .inl x :: rest, M) = am_c (pc + 3, L, rest, M) from if_neg h]
    exact fun _ _ kk => lv_icmp_eq hC.1 hC.2.1 hd ht (fun q => absurd q h) (fun _ => kk ad H locs ls ⟨hJ.1, hJ.2.1, am_tl (am_tl hJ.2.2.1), hJ.2.2.2⟩ ⟨fun _ _ _ => rfl, fun _ => Nat.le_refl _⟩)
theorem am_s_ifne {off : Int} {t : Nat} (hd : decode (am_by k) pc = .ok (.ifCond .ne off, 3)) (ht : (pc : Int) + off = (t : Int)) : am_snd k (am_o_if (fun x => x ≠ 0) t) pc := by
  intro D ca p l e R s m args below meth c A Q hC L st M ad H locs ls cells slots hJ
  rcases st with _ | ⟨x | (x | x), rest⟩ <;> try trivial
  by_cases h : x ≠ 0
  · rw [show am_o_if (fun x => x ≠ 0) t (pc, L, .inl x :: rest, M) = am_c (t, L, rest, M) from if_pos h]
    exact fun _ _ kk => lv_if_ne hC.1 hC.2.1 hd ht (fun _ => kk ad H locs ls ⟨hJ.1, hJ.2.1, am_tl hJ.2.2.1, hJ.2.2.2⟩ ⟨fun _ _ _ => rfl, fun _ => Nat.le_refl _⟩) (fun q => by first | exact absurd h q | exact absurd q h)
  · rw [show am_o_if (fun x => x ≠ 0) t (pc, L, .inl x :: rest, M) = am_c (pc + 3, L, rest, M) from if_neg h]
    exact fun _ _ kk => lv_if_ne hC.1 hC.2.1 hd ht (fun q => absurd q h) (fun _ => kk ad H locs ls ⟨hJ.1, hJ.2.1, am_tl hJ.2.2.1, hJ.2.2.2⟩ ⟨fun _ _ _ => rfl, fun _ => Nat.le_refl _⟩)
theorem am_s_icne {off : Int} {t : Nat} (hd : decode (am_by k) pc = .ok (.if_icmp .ne off, 3)) (ht : (pc : Int) + off = (t : Int)) : am_snd k (am_o_ic (fun x y => x ≠ y) t) pc := by
  intro D ca p l e R s m args below meth c A Q hC L st M ad H locs ls cells slots hJ
  rcases st with _ | ⟨y | (y | y), _ | ⟨x | (x | x), rest⟩⟩ <;> try trivial
  by_cases h : x ≠ y
  · rw [show am_o_ic (fun x y => x ≠ y) t (pc, L, .inl y :: .inl x :: rest, M) = am_c (t, L, rest, M) from if_pos h]
    exact fun _ _ kk => lv_icmp_ne hC.1 hC.2.1 hd ht (fun _ => kk ad H locs ls ⟨hJ.1, hJ.2.1, am_tl (am_tl hJ.2.2.1), hJ.2.2.2⟩ ⟨fun _ _ _ => rfl, fun _ => Nat.le_refl _⟩) (fun q => by first | exact absurd h q | exact absurd q h)
  · rw [show am_o_ic (fun x y => x ≠ y) t (pc, L, .inl y :: .inl x :: rest, M) = am_c (pc + 3, L, rest, M) from if_neg h]
    exact fun _ _ kk => lv_icmp_ne hC.1 hC.2.1 hd ht (fun q => absurd q h) (fun _ => kk ad H locs ls ⟨hJ.1, hJ.2.1, am_tl (am_tl hJ.2.2.1), hJ.2.2.2⟩ ⟨fun _ _ _ => rfl, fun _ => Nat.le_refl _⟩)
theorem am_s_iflt {off : Int} {t : Nat} (hd : decode (am_by k) pc = .ok (.ifCond .lt off, 3)) (ht : (pc : Int) + off = (t : Int)) : am_snd k (am_o_if (fun x => x < 0) t) pc := by
  intro D ca p l e R s m args below meth c A Q hC L st M ad H locs ls cells slots hJ
  rcases st with _ | ⟨x | (x | x), rest⟩ <;> try trivial
  by_cases h : x < 0
  · rw [show am_o_if (fun x => x < 0) t (pc, L, .inl x :: rest, M) = am_c (t, L, rest, M) from if_pos h]
    exact fun _ _ kk => lv_if_lt hC.1 hC.2.1 hd ht (fun _ => kk ad H locs ls ⟨hJ.1, hJ.2.1, am_tl hJ.2.2.1, hJ.2.2.2⟩ ⟨fun _ _ _ => rfl, fun _ => Nat.le_refl _⟩) (fun q => by first | exact absurd h q | exact absurd q h)
  · rw [show am_o_if (fun x => x < 0) t (pc, L, .inl x :: rest, M) = am_c (pc + 3, L, rest, M) from if_neg h]
    exact fun _ _ kk => lv_if_lt hC.1 hC.2.1 hd ht (fun q => absurd q h) (fun _ => kk ad H locs ls ⟨hJ.1, hJ.2.1, am_tl hJ.2.2.1, hJ.2.2.2⟩ ⟨fun _ _ _ => rfl, fun _ => Nat.le_refl _⟩)
theorem am_s_iclt {off : Int} {t : Nat} (hd : decode (am_by k) pc = .ok (.if_icmp .lt off, 3)) (ht : (pc : Int) + off = (t : Int)) : am_snd k (am_o_ic (fun x y => x < y) t) pc := by
  intro D ca p l e R s m args below meth c A Q hC L st M ad H locs ls cells slots hJ
  rcases st with _ | ⟨y | (y | y), _ | ⟨x | (x | x), rest⟩⟩ <;> try trivial
  by_cases h : x < y
  · rw [show am_o_ic (fun x y => x < y) t (pc, L, .inl y :: .inl x :: rest, M) = am_c (t, L, rest, M) from if_pos h]
    exact fun _ _ kk => lv_icmp_lt hC.1 hC.2.1 hd ht (fun _ => kk ad H locs ls ⟨hJ.1, hJ.2.1, am_tl (am_tl hJ.2.2.1), hJ.2.2.2⟩ ⟨fun _ _ _ => rfl, fun _ => Nat.le_refl _⟩) (fun q => by first | exact absurd h q | exact absurd q h)
  · rw [show am_o_ic (fun x y => x < y) t (pc, L, .inl y :: .inl x :: rest, M) = am_c (pc + 3, L, rest, M) from if_neg h]
    exact fun _ _ kk => lv_icmp_lt hC.1 hC.2.1 hd ht (fun q => absurd q h) (fun _ => kk ad H locs ls ⟨hJ.1, hJ.2.1, am_tl (am_tl hJ.2.2.1), hJ.2.2.2⟩ ⟨fun _ _ _ => rfl, fun _ => Nat.le_refl _⟩)
theorem am_s_ifge {off : Int} {t : Nat} (hd : decode (am_by k) pc = .ok (.ifCond .ge off, 3)) (ht : (pc : Int) + off = (t : Int)) : am_snd k (am_o_if (fun x => 0 ≤ x) t) pc := by
  intro D ca p l e R s m args below meth c A Q hC L st M ad H locs ls cells slots hJ
  rcases st with _ | ⟨x | (x | x), rest⟩ <;> try trivial
  by_cases h : 0 ≤ x
  · rw [show am_o_if (fun x => 0 ≤ x) t (pc, L, .inl x :: rest, M) = am_c (t, L, rest, M) from if_pos h]
    exact fun _ _ kk => lv_if_ge hC.1 hC.2.1 hd ht (fun _ => kk ad H locs ls ⟨hJ.1, hJ.2.1, am_tl hJ.2.2.1, hJ.2.2.2⟩ ⟨fun _ _ _ => rfl, fun _ => Nat.le_refl _⟩) (fun q => by first | exact absurd h q | exact absurd q h)
  · rw [show am_o_if (fun x => 0 ≤ x) t (pc, L, .inl x :: rest, M) = am_c (pc + 3, L, rest, M) from if_neg h]
    exact fun _ _ kk => lv_if_ge hC.1 hC.2.1 hd ht (fun q => absurd q h) (fun _ => kk ad H locs ls ⟨hJ.1, hJ.2.1, am_tl hJ.2.2.1, hJ.2.2.2⟩ ⟨fun _ _ _ => rfl, fun _ => Nat.le_refl _⟩)
theorem am_s_icge {off : Int} {t : Nat} (hd : decode (am_by k) pc = .ok (.if_icmp .ge off, 3)) (ht : (pc : Int) + off = (t : Int)) : am_snd k (am_o_ic (fun x y => y ≤ x) t) pc := by
  intro D ca p l e R s m args below meth c A Q hC L st M ad H locs ls cells slots hJ
  rcases st with _ | ⟨y | (y | y), _ | ⟨x | (x | x), rest⟩⟩ <;> try trivial
  by_cases h : y ≤ x
  · rw [show am_o_ic (fun x y => y ≤ x) t (pc, L, .inl y :: .inl x :: rest, M) = am_c (t, L, rest, M) from if_pos h]
    exact fun _ _ kk => lv_icmp_ge hC.1 hC.2.1 hd ht (fun _ => kk ad H locs ls ⟨hJ.1, hJ.2.1, am_tl (am_tl hJ.2.2.1), hJ.2.2.2⟩ ⟨fun _ _ _ => rfl, fun _ => Nat.le_refl _⟩) (fun q => by first | exact absurd h q | exact absurd q h)
  · rw [show am_o_ic (fun x y => y ≤ x) t (pc, L, .inl y :: .inl x :: rest, M) = am_c (pc + 3, L, rest, M) from if_neg h]
    exact fun _ _ kk => lv_icmp_ge hC.1 hC.2.1 hd ht (fun q => absurd q h) (fun _ => kk ad H locs ls ⟨hJ.1, hJ.2.1, am_tl (am_tl hJ.2.2.1), hJ.2.2.2⟩ ⟨fun _ _ _ => rfl, fun _ => Nat.le_refl _⟩)
theorem am_s_ifgt {off : Int} {t : Nat} (hd : decode (am_by k) pc = .ok (.ifCond .gt off, 3)) (ht : (pc : Int) + off = (t : Int)) : am_snd k (am_o_if (fun x => 0 < x) t) pc := by
  intro D ca p l e R s m args below meth c A Q hC L st M ad H locs ls cells slots hJ
  rcases st with _ | ⟨x | (x | x), rest⟩ <;> try trivial
  by_cases h : 0 < x
  · rw [show am_o_if (fun x => 0 < x) t (pc, L, .inl x :: rest, M) = am_c (t, L, rest, M) from if_pos h]
    exact fun _ _ kk => lv_if_gt hC.1 hC.2.1 hd ht (fun _ => kk ad H locs ls ⟨hJ.1, hJ.2.1, am_tl hJ.2.2.1, hJ.2.2.2⟩ ⟨fun _ _ _ => rfl, fun _ => Nat.le_refl _⟩) (fun q => by first | exact absurd h q | exact absurd q h)
  · rw [show am_o_if (fun x => 0 < x) t (pc, L, .inl x :: rest, M) = am_c (pc + 3, L, rest, M) from if_neg h]
    exact fun _ _ kk => lv_if_gt hC.1 hC.2.1 hd ht (fun q => absurd q h) (fun _ => kk ad H locs ls ⟨hJ.1, hJ.2.1, am_tl hJ.2.2.1, hJ.2.2.2⟩ ⟨fun _ _ _ => rfl, fun _ => Nat.le_refl _⟩)
theorem am_s_icgt {off : Int} {t : Nat} (hd : decode (am_by k) pc = .ok (.if_icmp .gt off, 3)) (ht : (pc : Int) + off = (t : Int)) : am_snd k (am_o_ic (fun x y => y < x) t) pc := by
  intro D ca p l e R s m args below meth c A Q hC L st M ad H locs ls cells slots hJ
  rcases st with _ | ⟨y | (y | y), _ | ⟨x | (x | x), rest⟩⟩ <;> try trivial
  by_cases h : y < x
  · rw [show am_o_ic (fun x y => y < x) t (pc, L, .inl y :: .inl x :: rest, M) = am_c (t, L, rest, M) from if_pos h]
    exact fun _ _ kk => lv_icmp_gt hC.1 hC.2.1 hd ht (fun _ => kk ad H locs ls ⟨hJ.1, hJ.2.1, am_tl (am_tl hJ.2.2.1), hJ.2.2.2⟩ ⟨fun _ _ _ => rfl, fun _ => Nat.le_refl _⟩) (fun q => by first | exact absurd h q | exact absurd q h)
  · rw [show am_o_ic (fun x y => y < x) t (pc, L, .inl y :: .inl x :: rest, M) = am_c (pc + 3, L, rest, M) from if_neg h]
    exact fun _ _ kk => lv_icmp_gt hC.1 hC.2.1 hd ht (fun q => absurd q h) (fun _ => kk ad H locs ls ⟨hJ.1, hJ.2.1, am_tl (am_tl hJ.2.2.1), hJ.2.2.2⟩ ⟨fun _ _ _ => rfl, fun _ => Nat.le_refl _⟩)
theorem am_s_ifle {off : Int} {t : Nat} (hd : decode (am_by k) pc = .ok (.ifCond .le off, 3)) (ht : (pc : Int) + off = (t : Int)) : am_snd k (am_o_if (fun x => x ≤ 0) t) pc := by
  intro D ca p l e R s m args below meth c A Q hC L st M ad H locs ls cells slots hJ
  rcases st with _ | ⟨x | (x | x), rest⟩ <;> try trivial
  by_cases h : x ≤ 0
  · rw [show am_o_if (fun x => x ≤ 0) t (pc, L, .inl x :: rest, M) = am_c (t, L, rest, M) from if_pos h]
    exact fun _ _ kk => lv_if_le hC.1 hC.2.1 hd ht (fun _ => kk ad H locs ls ⟨hJ.1, hJ.2.1, am_tl hJ.2.2.1, hJ.2.2.2⟩ ⟨fun _ _ _ => rfl, fun _ => Nat.le_refl _⟩) (fun q => by first | exact absurd h q | exact absurd q h)
  · rw [show am_o_if (fun x => x ≤ 0) t (pc, L, .inl x :: rest, M) = am_c (pc + 3, L, rest, M) from if_neg h]
    exact fun _ _ kk => lv_if_le hC.1 hC.2.1 hd ht (fun q => absurd q h) (fun _ => kk ad H locs ls ⟨hJ.1, hJ.2.1, am_tl hJ.2.2.1, hJ.2.2.2⟩ ⟨fun _ _ _ => rfl, fun _ => Nat.le_refl _⟩)
theorem am_s_icle {off : Int} {t : Nat} (hd : decode (am_by k) pc = .ok (.if_icmp .le off, 3)) (ht : (pc : Int) + off = (t : Int)) : am_snd k (am_o_ic (fun x y => x ≤ y) t) pc := by
  intro D ca p l e R s m args below meth c A Q hC L st M ad H locs ls cells slots hJ
  rcases st with _ | ⟨y | (y | y), _ | ⟨x | (x | x), rest⟩⟩ <;> try trivial
  by_cases h : x ≤ y
  · rw [show am_o_ic (fun x y => x ≤ y) t (pc, L, .inl y :: .inl x :: rest, M) = am_c (t, L, rest, M) from if_pos h]
    exact fun _ _ kk => lv_icmp_le hC.1 hC.2.1 hd ht (fun _ => kk ad H locs ls ⟨hJ.1, hJ.2.1, am_tl (am_tl hJ.2.2.1), hJ.2.2.2⟩ ⟨fun _ _ _ => rfl, fun _ => Nat.le_refl _⟩) (fun q => by first | exact absurd h q | exact absurd q h)
  · rw [show am_o_ic (fun x y => x ≤ y) t (pc, L, .inl y :: .inl x :: rest, M) = am_c (pc + 3, L, rest, M) from if_neg h]
    exact fun _ _ kk => lv_icmp_le hC.1 hC.2.1 hd ht (fun q => absurd q h) (fun _ => kk ad H locs ls ⟨hJ.1, hJ.2.1, am_tl (am_tl hJ.2.2.1), hJ.2.2.2⟩ ⟨fun _ _ _ => rfl, fun _ => Nat.le_refl _⟩)
theorem am_s_go {off : Int} {t : Nat} (hd : decode (am_by k) pc = .ok (.goto off, 3)) (ht : (pc : Int) + off = (t : Int)) : am_snd k (am_o_go t) pc := by
  intro D ca p l e R s m args below meth c A Q hC L st M ad H locs ls cells slots hJ
  exact fun _ _ kk => lv_goto hC.1 hC.2.1 hd ht (kk ad H locs ls hJ ⟨fun _ _ _ => rfl, fun _ => Nat.le_refl _⟩)
theorem am_s_nn {off : Int} {t : Nat} (hd : decode (am_by k) pc = .ok (.ifnonnull off, 3)) (ht : (pc : Int) + off = (t : Int)) : am_snd k (am_o_nn t) pc := by
  intro D ca p l e R s m args below meth c A Q hC L st M ad H locs ls cells slots hJ
  rcases st with _ | ⟨x | (x | (_ | x)), rest⟩
  · trivial
  · trivial
  · trivial
  · exact fun _ _ kk => lv_ifnonnullN hC.1 hC.2.1 hd (kk ad H locs ls ⟨hJ.1, hJ.2.1, am_tl hJ.2.2.1, hJ.2.2.2⟩ ⟨fun _ _ _ => rfl, fun _ => Nat.le_refl _⟩)
  · exact fun _ _ kk => lv_ifnonnull hC.1 hC.2.1 hd ht (kk ad H locs ls ⟨hJ.1, hJ.2.1, am_tl hJ.2.2.1, hJ.2.2.2⟩ ⟨fun _ _ _ => rfl, fun _ => Nat.le_refl _⟩)
theorem am_s_nu {off : Int} {t : Nat} (hd : decode (am_by k) pc = .ok (.ifnull off, 3)) (ht : (pc : Int) + off = (t : Int)) : am_snd k (am_o_nu t) pc := by
  intro D ca p l e R s m args below meth c A Q hC L st M ad H locs ls cells slots hJ
  rcases st with _ | ⟨x | (x | (_ | x)), rest⟩
  · trivial
  · trivial
  · trivial
  · exact fun _ _ kk => lv_ifnullN hC.1 hC.2.1 hd ht (kk ad H locs ls ⟨hJ.1, hJ.2.1, am_tl hJ.2.2.1, hJ.2.2.2⟩ ⟨fun _ _ _ => rfl, fun _ => Nat.le_refl _⟩)
  · exact fun _ _ kk => lv_ifnull hC.1 hC.2.1 hd (kk ad H locs ls ⟨hJ.1, hJ.2.1, am_tl hJ.2.2.1, hJ.2.2.2⟩ ⟨fun _ _ _ => rfl, fun _ => Nat.le_refl _⟩)
theorem am_s_ret (hd : decode (am_by k) pc = .ok (.return_, 1)) (hr : am_rt k = none) : am_snd k am_o_ret pc := by
  intro D ca p l e R s m args below meth c A Q hC L st M ad H locs ls cells slots hJ
  rcases st with _ | ⟨x, rest⟩
  · exact fun kk => kk _ hd (by rw [hr]; trivial) ⟨hJ.1, ⟨hJ.2.1.1, hJ.2.1.2.1, fun i v h => by cases i <;> cases h⟩, hJ.2.2.1, fun i v h => by cases i <;> cases h⟩ ⟨fun _ _ _ => rfl, fun _ => Nat.le_refl _⟩
  · trivial
theorem am_s_ir (hd : decode (am_by k) pc = .ok (.ireturn, 1)) (hr : am_rt k = some .int) : am_snd k am_o_ir pc := by
  intro D ca p l e R s m args below meth c A Q hC L st M ad H locs ls cells slots hJ
  rcases st with _ | ⟨x | (x | x), _ | ⟨y, rest⟩⟩ <;> first | trivial | exact fun kk => kk _ hd (by rw [hr]; trivial) ⟨hJ.1, ⟨hJ.2.1.1, hJ.2.1.2.1, fun i v h => by cases i <;> cases h⟩, hJ.2.2.1, fun i v h => by cases i <;> cases h⟩ ⟨fun _ _ _ => rfl, fun _ => Nat.le_refl _⟩
theorem am_s_zr (hd : decode (am_by k) pc = .ok (.ireturn, 1)) (hr : am_rt k = some .boolean) : am_snd k am_o_zr pc := by
  intro D ca p l e R s m args below meth c A Q hC L st M ad H locs ls cells slots hJ
  rcases st with _ | ⟨x | (x | x), _ | ⟨y, rest⟩⟩ <;> try trivial
  by_cases hx : x = 0 ∨ x = 1
  · rw [show am_o_zr (pc, L, [.inl x], M) = .inr (.inl (some (.inl x), M)) from if_pos hx]
    exact fun kk => kk _ hd (by rw [hr]; exact hx) ⟨hJ.1, ⟨hJ.2.1.1, hJ.2.1.2.1, fun i v h => by cases i <;> cases h⟩, hJ.2.2.1, fun i v h => by cases i <;> cases h⟩ ⟨fun _ _ _ => rfl, fun _ => Nat.le_refl _⟩
  · rw [show am_o_zr (pc, L, [.inl x], M) = am_no from if_neg hx]; trivial
theorem am_s_lr (hd : decode (am_by k) pc = .ok (.lreturn, 1)) (hr : am_rt k = some .long) : am_snd k am_o_lr pc := by
  intro D ca p l e R s m args below meth c A Q hC L st M ad H locs ls cells slots hJ
  rcases st with _ | ⟨x | (x | x), _ | ⟨y, rest⟩⟩ <;> first | trivial | exact fun kk => kk _ hd (by rw [hr]; trivial) ⟨hJ.1, ⟨hJ.2.1.1, hJ.2.1.2.1, fun i v h => by cases i <;> cases h⟩, hJ.2.2.1, fun i v h => by cases i <;> cases h⟩ ⟨fun _ _ _ => rfl, fun _ => Nat.le_refl _⟩
theorem am_s_ar {o : String} (hd : decode (am_by k) pc = .ok (.areturn, 1)) (hr : am_rt k = some (.object o)) : am_snd k am_o_ar pc := by
  intro D ca p l e R s m args below meth c A Q hC L st M ad H locs ls cells slots hJ
  rcases st with _ | ⟨x | (x | x), _ | ⟨y, rest⟩⟩ <;> first | trivial | exact fun kk => kk _ hd (by rw [hr]; trivial) ⟨hJ.1, ⟨hJ.2.1.1, hJ.2.1.2.1, fun i v h => by cases i <;> cases h⟩, hJ.2.2.1, fun i v h => by cases i <;> cases h⟩ ⟨fun _ _ _ => rfl, fun _ => Nat.le_refl _⟩
theorem am_s_no {k pc : Nat} : am_snd k (fun _ => am_no) pc := by
  intro D ca p l e R s m args below meth c A Q hC L st M ad H locs ls cells slots hJ
  trivial
end OPS
