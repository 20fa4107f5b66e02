/-! both read a LAW, ORDERS -/
abbrev lvRR : List (Nat × Nat) := [(10, 14), (10, 15), (10, 16), (10, 18), (10, 19), (10, 21), (10, 23), (10, 26), (10, 29), (10, 30), (51, 0), (52, 0), (53, 0), (54, 0), (55, 0), (61, 0)]
abbrev lvRE : List (Nat × Nat) := (10, 13) :: (10, 20) :: lvRR
def rAll (rcl : am_m → Option am_m) (rlp : Nat → am_m → Option am_m) (a1 : Int32) (M r16 : am_m) : Prop := ∃ r2 r4 q14, fn_X10_beginText a1 M = some r2 ∧ rcl r2 = some r4 ∧ rlp 1000000 r4 = some q14 ∧ fn_X10_endText q14 = some r16
section LM
variable {Z : Type} {T : Nat → Nat} {L n : Nat} {ord : Bool} {rcl : am_m → Option am_m} {rlp : Nat → am_m → Option am_m}
theorem kq_lp (hlp0 : ∀ M, rlp 0 M = none) (hlp : ∀ N M, rlp (N + 1) M = (if (M.1 10 0 19) ≠ 0 then some M else (fn_X10_isSign 59 M).bind fun r7 => (if r7 = 0 then some M else (fn_X10_next M).bind fun r10 => (rcl r10).bind fun r12 => rlp N r12))) (hk : ∀ M t, rcl M = some t → am_kp lvRR [(10, 17)] 0 M t) : ∀ (N : Nat) (M t : am_m), rlp N M = some t → am_kp lvRR [(10, 17)] 0 M t
  | 0, M, t, h => by rw [hlp0] at h; cases h
  | N + 1, M, t, h => by
    rw [hlp] at h
    by_cases c1 : (M.1 10 0 19) ≠ 0
    · rw [if_pos c1] at h; cases h; exact am_kp.rf
    · rw [if_neg c1] at h
      obtain ⟨r7, h1, h⟩ := am_bd h
      by_cases c2 : r7 = 0
      · rw [if_pos c2] at h; cases h; exact am_kp.rf
      · rw [if_neg c2] at h
        obtain ⟨r10, h2, h⟩ := am_bd h
        obtain ⟨r12, h3, h⟩ := am_bd h
        exact ((am_kp.mono (kp_X10_next _ _ h2) rfl).tr (hk _ _ h3)).tr (kq_lp hlp0 hlp hk N r12 t h)
theorem endT_is {M t : am_m} (h : fn_X10_endText M = some t) : t.1 10 0 20 = 0 ∧ t.1 10 0 13 = 0 := by
  unfold fn_X10_endText at h
  obtain ⟨q5, h1, h⟩ := am_bd h
  cases h
  exact ⟨rfl, rfl⟩
theorem rAll_kp {a1 : Int32} {M r16 : am_m} (h : rAll rcl rlp a1 M r16) (hk : ∀ M t, rcl M = some t → am_kp lvRR [(10, 17)] 0 M t) (hl : ∀ N M t, rlp N M = some t → am_kp lvRR [(10, 17)] 0 M t) : am_kp lvRE [(10, 17)] 0 M r16 ∧ r16.1 10 0 20 = 0 ∧ r16.1 10 0 13 = 0 := by
  obtain ⟨r2, r4, q14, h1, h2, h3, h4⟩ := h
  exact ⟨(am_kp.mono (kp_X10_beginText _ _ _ h1) rfl).tr ((am_kp.mono (hk _ _ h2) rfl).tr ((am_kp.mono (hl _ _ _ h3) rfl).tr (am_kp.mono (kp_X10_endText _ _ h4) rfl))), endT_is h4⟩
theorem kq39 : ∀ (N : Nat) (x : Int32) (m : am_m) (t : Sum am_m (Int32 × am_m)), lp_X4_readWhole_39 N x m = some t → (∀ t', t = .inl t' → t'.1 7 0 1 = m.1 7 0 1) ∧ ∀ t', t = .inr t' → t'.2.1 7 0 1 = m.1 7 0 1
  | 0, x, m, t, h => by cases h
  | N + 1, x, m, t, h => by
    rw [lp_X4_readWhole_39.eq_2] at h
    by_cases c1 : (12 : Int32) ≤ x
    · rw [if_pos c1] at h
      cases h
      exact ⟨fun _ he => (by cases he; rfl), fun _ he => (by cases he)⟩
    · rw [if_neg c1] at h
      obtain ⟨r9, h1, h⟩ := am_bd h
      have k1 : r9.2.1 7 0 1 = m.1 7 0 1 := (kp_X4_readClause _ _ h1).fld 7 0 1 rfl
      by_cases c2 : r9.1 ≠ 0
      · rw [if_pos c2] at h
        by_cases c3 : (r9.2.1 4 0 6) ≠ (257 : Int32)
        · rw [if_pos c3] at h
          obtain ⟨r13, h2, h⟩ := am_bd h
          have k2 : r13.2.1 7 0 1 = m.1 7 0 1 := ((kp_X4_took _ _ _ h2).fld 7 0 1 rfl).trans k1
          by_cases c4 : r13.1 ≠ 0
          · rw [if_pos c4] at h
            have ih := kq39 N (x + 1) r13.2 t h
            exact ⟨fun t' he => (ih.1 t' he).trans k2, fun t' he => (ih.2 t' he).trans k2⟩
          · rw [if_neg c4] at h
            cases h
            exact ⟨fun _ he => (by cases he), fun _ he => (by cases he; exact k2)⟩
        · rw [if_neg c3] at h
          cases h
          exact ⟨fun _ he => (by cases he), fun _ he => (by cases he; exact k1)⟩
      · rw [if_neg c2] at h
        cases h
        exact ⟨fun _ he => (by cases he), fun _ he => (by cases he; exact k1)⟩
theorem kqFin {N : Nat} {x : Int32} {m : am_m} {t : Int32 × am_m} (h : cFin (lp_X4_readWhole_39 N x m) = some t) : t.2.1 7 0 1 = m.1 7 0 1 := by
  unfold cFin at h
  obtain ⟨w, h1, h⟩ := am_bd h
  have k := kq39 N x m w h1
  cases w with
  | inl q =>
    dsimp only at h
    obtain ⟨r18, h2, h⟩ := am_bd h
    obtain ⟨-, h⟩ := am_gd_some h
    cases h
    exact ((kp_X4_failed _ _ h2).fld 7 0 1 rfl).trans (k.1 q rfl)
  | inr r =>
    cases h
    exact k.2 _ rfl
theorem whole7 {m : am_m} {a2 : Int32} {t : Int32 × am_m} (h : fn_X4_readWhole a2 m = some t) : t.2.1 7 0 1 = 0 := by
  unfold fn_X4_readWhole at h
  obtain ⟨r1, h1, h⟩ := am_bd h
  obtain ⟨r3, h2, h⟩ := am_bd h
  obtain ⟨-, h⟩ := am_gd_some h
  obtain ⟨r6, h3, h⟩ := am_bd h
  have k := kqFin (N := 1000000) (x := 0) (m := r6) h
  rw [k, (kp_X4_goTo _ _ _ h3).fld 7 0 1 rfl]
  show r3.1 7 0 1 = 0
  rw [(kp_X5_clear _ _ _ h2).fld 7 0 1 rfl]
  rfl
theorem kLaw (M t : am_m) (h : fn_X10_readLaw M = some t) : am_kp lvRR [(10, 17)] 0 M t := am_kp.mono (kp_X10_readLaw _ _ h) rfl
theorem kOrd (M t : am_m) (h : fn_X10_readOrder M = some t) : am_kp lvRR [(10, 17)] 0 M t := am_kp.mono (kp_X10_readOrder _ _ h) rfl
theorem kLaws (N : Nat) (M t : am_m) (h : lp_X10_law_37 N M = some t) : am_kp lvRR [(10, 17)] 0 M t := kq_lp (rcl := fn_X10_readLaw) (fun _ => rfl) (fun N M => by rw [lp_X10_law_37.eq_2]) kLaw N M t h
theorem kOrds (N : Nat) (M t : am_m) (h : lp_X10_orders_19 N M = some t) : am_kp lvRR [(10, 17)] 0 M t := kq_lp (rcl := fn_X10_readOrder) (fun _ => rfl) (fun N M => by rw [lp_X10_orders_19.eq_2]) kOrd N M t h
theorem read_law {m M : am_m} (hx : ctx7 T L m) (hr : rtx T L M) (hC : iv_C M.2.1) (h28 : m.2.2.2.2.2.2.1 28 0 = 72) (h29 : m.2.2.2.2.2.2.1 29 0 = 448) :
    (∃ q m' r16, fn_X4_readWhole 0 m = some (0, m') ∧ m'.1 4 0 10 = nI q ∧ rAll fn_X10_readLaw lp_X10_law_37 0 M r16 ∧ r16.1 10 0 19 = 1 ∧ r16.1 10 0 18 = nI q) ∨
    ∃ n K m' q14 c2 c2' a2 b2 p2 lv2 aw2, ∃ zs : Nat → cl_T, fn_X4_readWhole 0 m = some (1, m') ∧ rAll fn_X10_readLaw lp_X10_law_37 0 M (am_si (am_si q14 10 0 20 0) 10 0 13 0) ∧ 1 ≤ K ∧ K ≤ 12 ∧ m'.1 5 0 2 = nI K ∧ q14.1 10 0 21 = nI K ∧ lks T L n false m' q14 c2 c2' a2 b2 p2 lv2 aw2 ∧ (∀ i, i < K → lcl c2 c2' a2 b2 aw2 (m'.1 28 0) (q14.1 51 0) i (zs i)) ∧ m'.2.2 = m.2.2 ∧ q14.1 10 0 18 = -1 := by
  have hT : ∀ k, k < L → T k < 256 := fun k hk => (hx.2.2 k hk).1
  obtain ⟨r2, e1, e2, e3, e4⟩ := beginT (ord := false) (a1 := 0) (Or.inl rfl) rfl hr hC
  obtain ⟨m6, n, f1, f2, f3, f4⟩ := beginC (ord := false) (a2 := 0) (Or.inl rfl) rfl hx h29
  have sk := sk_rng (T := T) (Nat.zero_le L)
  have key := text_loop (n := n) (ord := false) (rcl := fn_X10_readLaw) (rlp := lp_X10_law_37) (rr := 51) (wd := 8) (CF := lcl) hT rfl rfl (fun N M => by rw [lp_X10_law_37.eq_2]) (fun k m M c c' a b p lv aw g1 g2 g3 g4 g5 => law_clause hT g1 g2 g3 g4 g5) (fun M c b p lv g1 g2 => rll_no g1 (Or.inr g2)) (fun c c' a b p aw c2 c2' a2 b2 p2 aw2 hd rw hd' rw' i z g1 g2 g3 g4 => g1.go g2 g3 g4) (fun M M' g => bf_X10_readLaw M M' g) 12 0 1000000 1000000 m6 r2 _ _ 0 0 (lx_sk T L 0) 0 0 (fun _ => (0, none, none)) rfl (by decide) (by decide) (by decide) ⟨f1, e2, sk.2, by decide, by decide, Nat.zero_le _⟩ f2 e3 (by rw [f3]; exact h28) (fun i hi => absurd hi (Nat.not_lt_zero _))
  rw [f4]
  rcases key with ⟨q, m', r4, q14, r16, g1, g2, g3, g4, g5, g6, g7⟩ | ⟨K, m', r4, q14, c2, c2', a2, b2, p2, lv2, aw2, zs, g1, g2, g3, g4, g5, g6, g7, g8, g9, g10, g11, g12⟩
  · exact Or.inl ⟨q, m', r16, g1, g2, ⟨r2, r4, q14, e1, g3, g4, g5⟩, g6, g7⟩
  · exact Or.inr ⟨n, K, m', q14, c2, c2', a2, b2, p2, lv2, aw2, zs, g1, ⟨r2, r4, q14, e1, g2, g3, g4⟩, g5, g6, g7, g8, g9, g10, g11.trans f3, g12.trans e4⟩
theorem read_orders {m M : am_m} (hx : ctx7 T L m) (hr : rtx T L M) (hC : iv_C M.2.1) (h28 : m.2.2.2.2.2.2.1 28 0 = 72) (h29 : m.2.2.2.2.2.2.1 29 0 = 448) :
    (∃ q m' r16, fn_X4_readWhole 1 m = some (0, m') ∧ m'.1 4 0 10 = nI q ∧ rAll fn_X10_readOrder lp_X10_orders_19 1 M r16 ∧ r16.1 10 0 19 = 1 ∧ r16.1 10 0 18 = nI q) ∨
    ∃ n K m' q14 c2 c2' a2 b2 p2 lv2 aw2, ∃ zs : Nat → oz_T, fn_X4_readWhole 1 m = some (1, m') ∧ rAll fn_X10_readOrder lp_X10_orders_19 1 M (am_si (am_si q14 10 0 20 0) 10 0 13 0) ∧ 1 ≤ K ∧ K ≤ 12 ∧ m'.1 5 0 2 = nI K ∧ q14.1 10 0 21 = nI K ∧ lks T L n true m' q14 c2 c2' a2 b2 p2 lv2 aw2 ∧ (∀ i, i < K → ocl c2 c2' a2 b2 aw2 (m'.1 28 0) (q14.1 61 0) i (zs i)) ∧ m'.2.2 = m.2.2 ∧ q14.1 10 0 18 = -1 := by
  have hT : ∀ k, k < L → T k < 256 := fun k hk => (hx.2.2 k hk).1
  obtain ⟨r2, e1, e2, e3, e4⟩ := beginT (ord := true) (a1 := 1) (Or.inr rfl) rfl hr hC
  obtain ⟨m6, n, f1, f2, f3, f4⟩ := beginC (ord := true) (a2 := 1) (Or.inr rfl) rfl hx h29
  have sk := sk_rng (T := T) (Nat.zero_le L)
  have key := text_loop (n := n) (ord := true) (rcl := fn_X10_readOrder) (rlp := lp_X10_orders_19) (rr := 61) (wd := 10) (CF := ocl) hT rfl rfl (fun N M => by rw [lp_X10_orders_19.eq_2]) (fun k m M c c' a b p lv aw g1 g2 g3 g4 g5 => order_clause hT g1 g2 g3 g4 g5) (fun M c b p lv g1 g2 => rol_no g1 (Or.inr g2)) (fun c c' a b p aw c2 c2' a2 b2 p2 aw2 hd rw hd' rw' i z g1 g2 g3 g4 => g1.go g2 g3 g4) (fun M M' g => bf_X10_readOrder M M' g) 12 0 1000000 1000000 m6 r2 _ _ 0 0 (lx_sk T L 0) 0 0 (fun _ => (0, 0, none, fun _ => none)) rfl (by decide) (by decide) (by decide) ⟨f1, e2, sk.2, by decide, by decide, Nat.zero_le _⟩ f2 e3 (by rw [f3]; exact h28) (fun i hi => absurd hi (Nat.not_lt_zero _))
  rw [f4]
  rcases key with ⟨q, m', r4, q14, r16, g1, g2, g3, g4, g5, g6, g7⟩ | ⟨K, m', r4, q14, c2, c2', a2, b2, p2, lv2, aw2, zs, g1, g2, g3, g4, g5, g6, g7, g8, g9, g10, g11, g12⟩
  · exact Or.inl ⟨q, m', r16, g1, g2, ⟨r2, r4, q14, e1, g3, g4, g5⟩, g6, g7⟩
  · exact Or.inr ⟨n, K, m', q14, c2, c2', a2, b2, p2, lv2, aw2, zs, g1, ⟨r2, r4, q14, e1, g2, g3, g4⟩, g5, g6, g7, g8, g9, g10, g11.trans f3, g12.trans e4⟩
end LM
