/-! both read an expression of a CLAUSE alike -/
/-- the class over m, the reference over M, at the same place -/
def lks (T : Nat → Nat) (L n : Nat) (ord : Bool) (m M : am_m) (c c' : rcd) (a b p lv aw : Nat) : Prop := cmm T L n ord m c a p lv aw ∧ rce T L ord M c' b p lv ∧ p ≤ L ∧ lv ≤ 50 ∧ aw < 128 ∧ a ≤ p
/-- the codes grew -/
def lgo (c c' : rcd) (a b p aw : Nat) (c2 c2' : rcd) (a2 b2 p2 aw2 : Nat) : Prop := (∀ k, k < a → c2 k = c k) ∧ (∀ k, k < b → c2' k = c' k) ∧ a ≤ a2 ∧ b ≤ b2 ∧ p ≤ p2 ∧ pq_b aw aw2
/-- from A in the class's code, from B to B2 in the reference's, f is told -/
def xf (ord : Bool) (c c' : rcd) (a b aw A B B2 : Nat) (f : dn) : Prop := ∃ A2 h, csg ord c A A2 f h ∧ c A2 = (257, 0) ∧ A2 < a ∧ h ≤ 50 ∧ rsg ord c' B B2 f h ∧ B2 ≤ b ∧ dw aw f
def xo (ord : Bool) (c c' : rcd) (a b aw : Nat) (A : Int32) (B B2 : Nat) (o : Option dn) : Prop := match o with
  | some f => ∃ A', A = nI A' ∧ xf ord c c' a b aw A' B B2 f
  | none => A = -1 ∧ B = B2
abbrev lvC : List (Nat × Nat) := [(4, 5), (4, 6), (4, 7), (4, 8), (4, 10), (5, 2), (5, 3), (5, 4), (28, 0), (29, 0)]
section LK
variable {T : Nat → Nat} {L n p : Nat} {m m' M M' : am_m} {ord : Bool} {c c' c2 c2' c3 c3' : rcd} {a b a2 b2 a3 b3 p2 p3 lv aw aw2 aw3 : Nat}
theorem lgo.rf : lgo c c' a b p aw c c' a b p aw := ⟨fun _ _ => rfl, fun _ _ => rfl, Nat.le_refl _, Nat.le_refl _, Nat.le_refl _, fun _ z => z⟩
theorem lgo.tr (h : lgo c c' a b p aw c2 c2' a2 b2 p2 aw2) (g : lgo c2 c2' a2 b2 p2 aw2 c3 c3' a3 b3 p3 aw3) : lgo c c' a b p aw c3 c3' a3 b3 p3 aw3 := by
  obtain ⟨h1, h2, h3, h4, h5, h6⟩ := h
  obtain ⟨g1, g2, g3, g4, g5, g6⟩ := g
  exact ⟨fun k hk => (g1 k (by omega)).trans (h1 k hk), fun k hk => (g2 k (by omega)).trans (h2 k hk), by omega, by omega, by omega, fun N z => g6 N (h6 N z)⟩
theorem xf.go {A B B2 : Nat} {f : dn} (h : xf ord c c' a b aw A B B2 f) (g : lgo c c' a b p aw c2 c2' a2 b2 p2 aw2) : xf ord c2 c2' a2 b2 aw2 A B B2 f := by
  obtain ⟨A2, hh, h1, h2, h3, h4, h5, h6, h7⟩ := h
  obtain ⟨g1, g2, g3, g4, g5, g6⟩ := g
  exact ⟨A2, hh, h1.cong (fun k hk => g1 k (by omega)), by rw [g1 A2 h3]; exact h2, by omega, h4, h5.cong (fun k hk => g2 k (by omega)), by omega, h7.mono g6⟩
theorem xo.go {A : Int32} {B B2 : Nat} {o : Option dn} (h : xo ord c c' a b aw A B B2 o) (g : lgo c c' a b p aw c2 c2' a2 b2 p2 aw2) : xo ord c2 c2' a2 b2 aw2 A B B2 o := by
  cases o with
  | none => exact h
  | some f =>
    obtain ⟨A', h1, h2⟩ := h
    exact ⟨A', h1, h2.go g⟩
theorem cmm.k28 (h : cmm T L n ord m c a p lv aw) (k : am_kp [(5, 2), (28, 0)] [] 0 m m') : cmm T L n ord m' c a p lv aw := by
  obtain ⟨hx, ⟨c1, c2, c3⟩, hl, ho, hw4⟩ := h
  have e : m'.2.2 = m.2.2 := k.2.2
  exact ⟨hx.kp k rfl, ⟨by rw [k.fld 5 0 3 rfl]; exact c1, by rw [e]; exact c2, fun j hj => by rw [k.row 29 rfl]; exact c3 j hj⟩, by rw [k.fld 4 0 8 rfl]; exact hl, by rw [k.fld 4 0 9 rfl]; exact ho, by rw [k.fld 5 0 4 rfl, k.fld 4 0 10 rfl]; exact hw4⟩
theorem rce.k51 (h : rce T L ord M c b p lv) (k : am_kp [(10, 21), (51, 0), (61, 0)] [] 0 M M') : rce T L ord M' c b p lv := by
  obtain ⟨h1, ⟨h2, h3⟩, h4, h5, h6, h7, h8⟩ := h
  exact ⟨h1.kp k rfl, ⟨by rw [k.fld 10 0 23 rfl]; exact h2, fun j hj => by rw [k.row 52 rfl, k.row 53 rfl]; exact h3 j hj⟩, by rw [k.fld 10 0 26 rfl]; exact h4, by rw [k.fld 10 0 19 rfl]; exact h5, by rw [k.fld 10 0 20 rfl]; exact h6, h7.of (k.rowL 82 rfl) (k.rowL 83 rfl) (k.rowL 84 rfl) (k.rowL 89 rfl), h8⟩
theorem rce.next (h : rce T L ord M c b p lv) : ∃ M', fn_X10_next M = some M' ∧ rce T L ord M' c b (lx_nx T L p) lv ∧ am_kp lvNx [(10, 17)] 0 M M' := by
  obtain ⟨h1, ⟨h2, h3⟩, h4, h5, h6, h7, h8⟩ := h
  obtain ⟨M', e1, e2, k⟩ := rnx_ok h1
  have := (nx_rng (T := T) h1.2.1).1
  exact ⟨M', e1, ⟨e2, ⟨by rw [k.fld 10 0 23 rfl]; exact h2, fun j hj => by rw [k.row 52 rfl, k.row 53 rfl]; exact h3 j hj⟩, by rw [k.fld 10 0 26 rfl]; exact h4, by rw [k.fld 10 0 19 rfl]; exact h5, by rw [k.fld 10 0 20 rfl]; exact h6, h7.of (k.rowL 82 rfl) (k.rowL 83 rfl) (k.rowL 84 rfl) (k.rowL 89 rfl), by omega⟩, k⟩
theorem rce.must1 {x : Int32} (hx : x ≠ 0) (h : rce T L ord M c b p lv) : ∃ M', fn_X10_must x M = some M' ∧ rce T L ord M' c b (lx_nx T L p) lv ∧ am_kp lvNx [(10, 17)] 0 M M' := by
  obtain ⟨M', e1, e2, k⟩ := h.next
  have h19 : M.1 10 0 19 = 0 := h.2.2.2.1
  refine ⟨M', ?_, e2, k⟩
  unfold fn_X10_must
  rw [if_neg (show ¬ M.1 10 0 19 ≠ 0 from fun z => z h19), if_pos hx, bd_s, if_neg (show ¬ M.1 10 0 19 ≠ 0 from fun z => z h19), e1, bd_s]
theorem rce.must0 (h : rce T L ord M c b p lv) : ∃ M', fn_X10_must 0 M = some M' ∧ M'.1 10 0 19 = 1 ∧ M'.1 10 0 18 = nI p ∧ am_kp [(10, 18), (10, 19)] [] 0 M M' := by
  have h19 : M.1 10 0 19 = 0 := h.2.2.2.1
  refine ⟨am_si (am_si M 10 0 19 1) 10 0 18 (M.1 10 0 14), ?_, rfl, h.1.2.2.1, am_kp.si (am_kp.si am_kp.rf rfl) rfl⟩
  unfold fn_X10_must
  rw [if_neg (show ¬ M.1 10 0 19 ≠ 0 from fun z => z h19), if_neg (show ¬ (0 : Int32) ≠ 0 from fun z => z rfl), bd_s, if_pos (show (am_si (am_si M 10 0 19 1) 10 0 18 (M.1 10 0 14)).1 10 0 19 ≠ 0 by show (1 : Int32) ≠ 0; decide)]
theorem nx_up (hp : p ≤ L) (hk : lx_kd T L p ≠ 257) : p + 1 ≤ lx_nx T L p ∧ lx_nx T L p ≤ L := by
  have a := nx_rng (T := T) hp
  have : p < L := by
    by_cases e : p = L
    · rw [e, kd_L] at hk; exact absurd rfl hk
    · omega
  have := a.2.2 this
  exact ⟨by omega, a.2.1⟩
theorem lks_read {w : Nat} {a1 : Int32} {k fld : Nat} (hw : w = 4 ∧ a1 = 0 ∨ w = 0 ∧ a1 = 1) (hT : ∀ k, k < L → T k < 256) (hk : lks T L n ord m M c c' a b p lv aw) (ha : a + 1 ≤ p) (h2 : m.1 5 0 2 = nI (k + 1)) (hk12 : k < 12) (hl : m.2.2.2.2.2.2.1 28 0 = 72) (hf : fld < 6) :
    ∃ m1, fn_X5_mark 0 (nI fld) (m.1 5 0 3) m = some m1 ∧ (
      (∃ q m2 M1, am_rd 40 w 0 m1 = some (0, m2) ∧ m2.1 4 0 10 = nI q ∧ fn_X10_readExpression a1 M = some M1 ∧ M1.1 10 0 19 = 1 ∧ M1.1 10 0 18 = nI q) ∨
      (∃ m2 m3 M1 c2 c2' a2 b2 p2 lv2 aw2 f, am_rd 40 w 0 m1 = some (1, m2) ∧ fn_X5_put 0 257 0 m2 = some m3 ∧ fn_X10_readExpression a1 M = some M1 ∧ lks T L n ord m3 M1 c2 c2' a2 b2 p2 lv2 aw2 ∧ lgo c c' a b p aw c2 c2' a2 b2 p2 aw2 ∧ xf ord c2 c2' a2 b2 aw2 a b b2 f ∧ (w = 0 → dn_01 f) ∧ (w = 4 → dn_bd f) ∧ (∀ i, m3.1 28 0 i = if i = 6 * k + fld then nI a else m.1 28 0 i) ∧ m3.1 5 0 2 = m.1 5 0 2 ∧ m3.2.2 = m.2.2)) := by
  obtain ⟨hc, hr, hp, hlv, haw, hap⟩ := hk
  refine ⟨_, cmark (v := m.1 5 0 3) h2 hk12 hl hf, ?_⟩
  have k1 : am_kp [(5, 2), (28, 0)] [] 0 m (am_si m 28 0 (6 * k + fld) (m.1 5 0 3)) := am_kp.si am_kp.rf rfl
  obtain ⟨r, r1, r2, r3⟩ := both_read (st := (p, lv, aw, (fun _ => none), 0)) hw hT (hc.k28 k1) hr ⟨hp, hlv, haw⟩ (show a ≤ p by omega)
  cases r with
  | inl q =>
    obtain ⟨m2, e1, e2⟩ := r2
    obtain ⟨M1, f1, f2, f3⟩ := r3
    exact Or.inl ⟨q, m2, M1, e1, e2, f1, f2, f3⟩
  | inr s' =>
    obtain ⟨m2, c2, a2, e1, e2, e3, e4, e5⟩ := r2
    obtain ⟨M1, c2', b2, f1, f2, f3, f4⟩ := r3
    obtain ⟨⟨g1, g2, g3⟩, g4, g5, g6, ⟨g7, g8, g9, g10⟩, g11, g12⟩ := (show pq_out T L w (p, lv, aw, (fun _ => none), 0) s' from r1)
    have e4 : a2 + p ≤ a + s'.1 := e4
    have g4 : p ≤ s'.1 := g4
    have hL : L ≤ 400 := hc.1.1.1
    obtain ⟨m3, d1, d2⟩ := cstop e2 (show a2 < 448 by omega)
    have l1 := e5.2.1
    have l2 := f4.2.1
    have hh : s'.2.2.2.2 ≤ 50 := by
      rw [if_pos (show w ≤ 6 by omega)] at g11
      have g11 : lv + s'.2.2.2.2 ≤ s'.2.1 + 0 := g11
      omega
    have kk : am_kp lvC [] 0 m m3 := (am_kp.mono k1 rfl).tr ((am_kp.mono (am_rd_kp 40 w _ _ _ e1) rfl).tr (am_kp.mono (kp_X5_put 0 257 0 m2 m3 d1) rfl))
    refine Or.inr ⟨m2, m3, M1, rcu c2 a2 (257, 0), c2', a2 + 1, b2, s'.1, s'.2.1, s'.2.2.1, s'.2.2.2.1, e1, d1, f1, ⟨d2, f2, g1, g2, g3, by omega⟩, ⟨fun j hj => by rw [rcu_ne (by omega)]; exact e3 j hj, f3, by omega, by omega, g4, g6⟩, ⟨a2, s'.2.2.2.2, e5.cong (fun j hj => rcu_ne (by omega)), rcu_eq, by omega, hh, f4, Nat.le_refl _, g8⟩, fun z => g9 (by rw [z]; rfl), fun z => g10 (by rw [z]; rfl), fun i => ?_, ?_, kk.2.2⟩
    · rw [(kp_X5_put 0 257 0 m2 m3 d1).row 28 rfl, show m2.1 28 = (am_si m 28 0 (6 * k + fld) (m.1 5 0 3)).1 28 from (am_rd_kp 40 w _ _ _ e1).row 28 rfl, rd_j, hc.2.1.1]
    · rw [(kp_X5_put 0 257 0 m2 m3 d1).fld 5 0 2 rfl]
      exact (am_rd_kp 40 w _ _ _ e1).fld 5 0 2 rfl
def cTail (q : am_m) : Option (Int32 × am_m) := if (q.1 4 0 6) ≠ (262 : Int32) then some (1, q) else (fn_X4_goTo ((q.1 4 0 5) + (1 : Int32)) q).bind fun r32 => (fn_X5_mark 0 2 (r32.1 5 0 3) r32).bind fun r34 => (am_rd 40 0 0 r34).bind fun r36 => (if r36.1 ≠ 0 then (fn_X5_put 0 257 0 r36.2).bind fun r39 => some (1, r39) else some (0, r36.2))
def rTail (X : am_m) : Option am_m := (fn_X10_isWord 294 X).bind fun r27 => (if r27 = 0 then some X else (fn_X10_next X).bind fun r30 => (fn_X10_readExpression 1 r30).bind fun r32 => some r32)
theorem w_if : (294 : Int64) = lN (lx_cd (lx_W 3).reverse) := by decide +kernel
theorem lks_tail {k : Nat} (hT : ∀ k, k < L → T k < 256) (hk : lks T L n ord m M c c' a b p lv aw) (h2 : m.1 5 0 2 = nI (k + 1)) (hk12 : k < 12) (hl : m.2.2.2.2.2.2.1 28 0 = 72) (h28 : m.1 28 0 (6 * k + 2) = -1) :
    (∃ q m' M', cTail m = some (0, m') ∧ m'.1 4 0 10 = nI q ∧ rTail M = some M' ∧ M'.1 10 0 19 = 1 ∧ M'.1 10 0 18 = nI q) ∨
    (∃ m' M' c2 c2' a2 b2 p2 lv2 aw2 o, cTail m = some (1, m') ∧ rTail M = some M' ∧ lks T L n ord m' M' c2 c2' a2 b2 p2 lv2 aw2 ∧ lgo c c' a b p aw c2 c2' a2 b2 p2 aw2 ∧ xo ord c2 c2' a2 b2 aw2 (m'.1 28 0 (6 * k + 2)) b b2 o ∧ (∀ f, o = some f → dn_01 f) ∧ (∀ i, i ≠ 6 * k + 2 → m'.1 28 0 i = m.1 28 0 i) ∧ m'.1 5 0 2 = m.1 5 0 2 ∧ m'.2.2 = m.2.2) := by
  have hk0 := hk
  obtain ⟨hc, hr, hp, hlv, haw, hap⟩ := hk
  have k6 : m.1 4 0 6 = nI (lx_kd T L p) := hc.1.2.2.1
  have hkd := kd_286 hT hp
  have ew : fn_X10_isWord 294 M = some (if lx_kd T L p = 262 then 1 else 0) := by rw [w_if]; exact rword_ok (j := 3) hr.1 (by decide)
  unfold cTail rTail
  rw [k6, ew, bd_s]
  by_cases e : lx_kd T L p = 262
  · rw [if_neg (show ¬ nI (lx_kd T L p) ≠ (262 : Int32) from fun z => z (by rw [e]; rfl)), if_pos e, if_neg (show ¬ (1 : Int32) = 0 by decide)]
    obtain ⟨m1, e1, e2⟩ := cgoto hc
    obtain ⟨M1, f1, f2, f3⟩ := hr.next
    have kg := kp_X4_goTo _ _ _ e1
    have up := nx_up (T := T) hp (by omega)
    have el : m1.2.2 = m.2.2 := kg.2.2
    obtain ⟨m2, d1, dd⟩ := lks_read (k := k) (fld := 2) (Or.inr ⟨rfl, rfl⟩) hT (show lks T L n ord m1 M1 c c' a b (lx_nx T L p) lv aw from ⟨e2, f2, up.2, hlv, haw, by omega⟩) (by omega) (by rw [kg.fld 5 0 2 rfl]; exact h2) hk12 (by rw [el]; exact hl) (by decide)
    rw [e1, bd_s, show fn_X5_mark 0 2 (m1.1 5 0 3) m1 = some m2 from d1, bd_s, f1, bd_s]
    rcases dd with ⟨q, m3, M2, g1, g2, g3, g4, g5⟩ | ⟨m3, m4, M2, c2, c2', a2, b2, p2, lv2, aw2, f, g1, g2, g3, g4, g5, g6, g7, g8, g9, g10, g11⟩
    · refine Or.inl ⟨q, m3, M2, ?_, g2, ?_, g4, g5⟩
      · rw [g1, bd_s, if_neg (show ¬ (0 : Int32) ≠ 0 from fun z => z rfl)]
      · rw [g3, bd_s]
    · refine Or.inr ⟨m4, M2, c2, c2', a2, b2, p2, lv2, aw2, some f, ?_, ?_, g4, lgo.tr (c2 := c) (c2' := c') (a2 := a) (b2 := b) (p2 := lx_nx T L p) (aw2 := aw) ⟨fun _ _ => rfl, fun _ _ => rfl, Nat.le_refl _, Nat.le_refl _, by omega, fun _ z => z⟩ g5, ⟨a, ?_, g6⟩, fun f' hf => ?_, fun i hi => ?_, ?_, ?_⟩
      · rw [g1, bd_s, if_pos (show (1 : Int32) ≠ 0 by decide), g2, bd_s]
      · rw [g3, bd_s]
      · rw [g9, if_pos rfl]
      · cases hf; exact g7 rfl
      · rw [g9, if_neg hi, kg.row 28 rfl]
      · rw [g10, kg.fld 5 0 2 rfl]
      · rw [g11, el]
  · rw [if_pos (show nI (lx_kd T L p) ≠ (262 : Int32) from nI_ne (b := 262) (by omega) (by decide) e), if_neg e, if_pos rfl]
    exact Or.inr ⟨m, M, c, c', a, b, p, lv, aw, none, rfl, rfl, hk0, lgo.rf, ⟨h28, rfl⟩, (fun f hf => by cases hf), fun i _ => rfl, rfl, rfl⟩
end LK
