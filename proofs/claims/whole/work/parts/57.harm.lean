/-! deeds: a state that both hold (the row; how many can be undone, their snapshots, their sorts) -/
abbrev DS : Type := (Nat → Int32) × Nat × (Nat → Int32) × (Nat → Int32)
def cWd (σ : DS) (m : am_m) : Prop := iv_U m 0 σ.1 ∧ iv_W 999 σ.1 ∧ cH σ.2.1 σ.2.2.1 σ.2.2.2 σ.1 m
def rWd (σ : DS) (m : am_m) : Prop := m.1 44 0 = σ.1 ∧ rH σ.2.1 σ.2.2.1 σ.2.2.2 m
def remA (σ : DS) (z : Nat) (r' : Nat → Int32) : DS := (r', reK σ.2.1, reU σ.2.1 σ.2.2.1 σ.1, reS σ.2.1 σ.2.2.2 z)
def keepR (r r' : Nat → Int32) : Prop := ∀ k, (k < 4 ∨ 112 ≤ k) → r' k = r k
theorem keepR.rf {r : Nat → Int32} : keepR r r := fun _ _ => rfl
section ACT
variable {m : am_m}
theorem rH.of {K : Nat} {U S : Nat → Int32} {m' : am_m} (h : rH K U S m) (h8 : m'.1 10 0 8 = m.1 10 0 8) (h46 : m'.1 46 = m.1 46) (h47 : m'.1 47 = m.1 47) : rH K U S m' := ⟨h8.trans h.1, fun x hx => by rw [h46]; exact h.2.1 x hx, fun j hj => by rw [h47]; exact h.2.2 j hj⟩
theorem cH.of {K : Nat} {U S r : Nat → Int32} {m' : am_m} (h : cH K U S r m) (h3 : m'.1 3 0 1 = m.1 3 0 1) (h24 : m'.1 24 = m.1 24) : cH K U S r m' := ⟨h.1, by rw [h3, h24]; exact h.2⟩
theorem op_act {F G : am_m → Option (Int32 × am_m)} {A : DS → Int32 × DS} (h : Inv m) (hc : ∀ σ, σ.1 = m.1 44 0 → cWd σ m → ∃ m', F m = some ((A σ).1, m') ∧ cWd (A σ).2 m' ∧ (∀ u, u ≠ 0 → sm_U m m' u) ∧ am_kp [(2, 0), (2, 1), (2, 2), (3, 1), (6, 0), (6, 7), (8, 0), (8, 1), (8, 3), (20, 0), (24, 0), (36, 0), (37, 0), (38, 0), (39, 0), (40, 0), (41, 0)] [(80, 0)] 1 m m')
    (hr : ∀ σ m1, σ.1 = m.1 44 0 → cWd σ m → rWd σ m1 → m1.1 10 0 20 = 0 → ∃ m', G m1 = some ((A σ).1, m') ∧ rWd (A σ).2 m' ∧ am_kp [(10, 0), (10, 8), (10, 34), (10, 38), (44, 0), (46, 0), (47, 0), (56, 0), (92, 0), (93, 0)] [(10, 39), (10, 40), (85, 0), (87, 0)] 0 m1 m')
    (hA : ∀ σ, σ.1 = m.1 44 0 → cWd σ m → an_ok (A σ).1 ∧ keepR σ.1 (A σ).2.1) : op_ok m (fun m => (F m).bind fun r1 => (fn_X9_told r1.1 r1.2).bind fun r3 => some (r3.1, r3.2)) (fun m => (G (am_si m 10 0 0 0)).bind fun r1 => (fn_X10_tell r1.1 r1.2).bind fun r3 => some (r3.1, r3.2)) := by
  obtain ⟨K, c1, r1⟩ := hH.split (m := m) h.1.2.2.2.1
  have w0 : cWd (m.1 44 0, K, m.1 46 0, m.1 47 0) m := ⟨h.u, h.w, c1⟩
  generalize eσ : ((m.1 44 0, K, m.1 46 0, m.1 47 0) : DS) = σ at w0
  have e1 : σ.1 = m.1 44 0 := by rw [← eσ]
  have r1 : rH σ.2.1 σ.2.2.1 σ.2.2.2 m := by rw [← eσ]; exact r1
  obtain ⟨mA, f1, f2, f3, f4⟩ := hc σ e1 w0
  obtain ⟨hv, hk⟩ := hA σ e1 w0
  have kA : am_kp lv0 sc_L 1 m mA := am_kp.mono f4 rfl
  have k9 := st_9_kp (A σ).1 mA
  have kAB : am_kp [(2, 0), (2, 1), (2, 2), (3, 1), (6, 0), (6, 7), (8, 0), (8, 1), (8, 3), (9, 17), (10, 0), (20, 0), (24, 0), (36, 0), (37, 0), (38, 0), (39, 0), (40, 0), (41, 0), (42, 0)] [(80, 0)] 1 m (am_si (st_9 (A σ).1 mA) 10 0 0 0) := am_kp.tr (am_kp.mono f4 rfl) (am_kp.tr (am_kp.mono k9 rfl) (am_kp.si am_kp.rf rfl))
  obtain ⟨mB, g1, g2, g3⟩ := hr σ (am_si (st_9 (A σ).1 mA) 10 0 0 0) e1 w0 ⟨by rw [kAB.row 44 rfl]; exact e1.symm, r1.of (kAB.fld 10 0 8 rfl) (kAB.row 46 rfl) (kAB.row 47 rfl)⟩ (by rw [kAB.fld 10 0 20 rfl]; exact h.1.2.2.2.2.2.2.2.1.2.2.2)
  have kB : am_kp lv0 sc_L 1 (st_9 (A σ).1 mA) mB := am_kp.tr (am_kp.si am_kp.rf rfl) (am_kp.mono g3 rfl)
  have uB : ∀ u, sm_U mA mB u := fun u => (sm_U.kp k9 rfl u).tr ((sm_U.si (m := st_9 (A σ).1 mA) 10 0 0 0 u (Or.inr (by decide))).tr (sm_U.kp g3 rfl u))
  refine op_told (A σ).1 (A σ).1 h (mA := mA) (mB := mB) ?_ ?_ kA kB (fun u hu => (f3 u hu).tr (uB u)) ?_ ?_ ?_ (fun j hj => ?_) ?_
  · show (F m).bind _ = _
    rw [f1, bd_s, td_ok hv, bd_s]
  · show (G (am_si (st_9 (A σ).1 mA) 10 0 0 0)).bind _ = _
    rw [g1, bd_s, tl_ok hv, bd_s]
  · rw [g2.1]; exact f2.2.1
  · rw [g2.1]; exact f2.1.of (uB 0)
  · rw [g2.1, hk 2 (by omega), e1]
  · rw [g2.1, hk j (by omega), e1]
  · refine hH.join (K := (A σ).2.2.1) (U := (A σ).2.2.2.1) (S := (A σ).2.2.2.2) ?_ g2.2
    rw [g2.1]
    have kAB2 : am_kp [(9, 17), (10, 0), (42, 0)] [] 0 mA (am_si (st_9 (A σ).1 mA) 10 0 0 0) := am_kp.tr (am_kp.mono k9 rfl) (am_kp.si am_kp.rf rfl)
    exact f2.2.2.of (by rw [g3.fld 3 0 1 rfl, kAB2.fld 3 0 1 rfl]) (by rw [g3.row 24 rfl, kAB2.row 24 rfl])
end ACT
/-- a HARM is set -/
def harmS (r : Nat → Int32) (p q : Nat) (w : Int32) : Nat → Int32 := fun k => if k = 63 + (7 * p + q) then r 4 else if k = 14 + (7 * p + q) then w else r k
def pardS (r : Nat → Int32) (p q : Nat) : Nat → Int32 := fun k => if k = 14 + (7 * p + q) then nI 0 else r k
def harmA (a b c : Int32) (σ : DS) : Int32 × DS := if c < 1 ∨ 9 < c ∨ a = b then (-1, σ) else if ¬ ((0 ≤ a ∧ a < nI (nv (σ.1 0))) ∧ (0 ≤ b ∧ b < nI (nv (σ.1 0)))) then (-2, σ) else if σ.1 (14 + (7 * nv a + nv b)) = c then (-3, σ) else (σ.1 (14 + (7 * nv a + nv b)), remA σ 0 (harmS σ.1 (nv a) (nv b) c))
def pardA (a b : Int32) (σ : DS) : Int32 × DS := if a = b then (-1, σ) else if ¬ ((0 ≤ a ∧ a < nI (nv (σ.1 0))) ∧ (0 ≤ b ∧ b < nI (nv (σ.1 0)))) then (-2, σ) else if σ.1 (14 + (7 * nv a + nv b)) = 0 then (-3, σ) else (σ.1 (14 + (7 * nv a + nv b)), remA σ 2 (pardS σ.1 (nv a) (nv b)))
section HP
variable {m : am_m} {r : Nat → Int32} {p q w z : Nat}
theorem harmS_W (hW : iv_W 999 r) (hp : p < nv (r 0)) (hq : q < nv (r 0)) (hne : p ≠ q) (hw : w ≤ 9) : iv_W 999 (harmS r p q (nI w)) := by
  have h7 := hW.n7
  have h4 := hW.2.2.2.2.2.1
  have e4 := hW.k (k := 4) (by decide) (by decide)
  refine (hW.set (k := 14 + (7 * p + q)) (x := w) (r' := fun j => if j = 14 + (7 * p + q) then nI w else r j) (fun j => rfl) (by omega) (by omega) (by omega) (by omega) (by omega) (by omega) (by omega) (by omega) (fun p' q' hp' hq' e => ⟨hw, fun _ => by omega⟩) (by omega) (by omega)).set (k := 63 + (7 * p + q)) (x := nv (r 4)) (fun j => ?_) (nv_lt _) (by omega) (by omega) (by omega) (by omega) (by omega) (by omega) (by omega) (by omega) (fun _ _ => h4) (by omega)
  unfold harmS
  rw [← e4]
theorem pardS_W (hW : iv_W 999 r) (hp : p < nv (r 0)) (hq : q < nv (r 0)) : iv_W 999 (pardS r p q) := by
  have h7 := hW.n7
  exact hW.set (k := 14 + (7 * p + q)) (x := 0) (fun j => rfl) (by omega) (by omega) (by omega) (by omega) (by omega) (by omega) (by omega) (by omega) (by omega) (by omega) (by omega)
/-- the step that is kept of it -/
theorem harm_step {s : Int32} (hW : iv_W 999 r) (hp : p < nv (r 0)) (hq : q < nv (r 0)) (hne : p ≠ q) {r' : Nat → Int32} (he : ∀ k, k ≠ 14 + (7 * p + q) → k ≠ 63 + (7 * p + q) → r' k = r k) (hs : 0 < nv (r (14 + (7 * p + q))) → s = r (63 + (7 * p + q))) : iv_step (nv (r 0)) (fun i => r (4 + i)) (fun i => r' (4 + i)) (dR z (nI p) (nI q) (r (14 + (7 * p + q))) s r) := by
  have h7 := hW.n7
  refine ⟨(he 5 (by omega) (by omega)).symm, (he 6 (by omega) (by omega)).symm, rfl, fun k hk => ?_, fun p' q' hp' hq' => ?_⟩
  · show dR z (nI p) (nI q) (r (14 + (7 * p + q))) s r (6 + k) = r (4 + (3 + k))
    unfold dR
    rw [if_neg (by omega), if_neg (by omega), if_neg (by omega), if_neg (by omega), if_neg (by omega), if_neg (by omega), show 7 + (6 + k - 6) = 4 + (3 + k) by omega]
  · show (if nI p = nI p' ∧ nI q = nI q' ∧ p' < nv (r 0) ∧ q' < nv (r 0) ∧ p' ≠ q' then r (14 + (7 * p + q)) = r (4 + (10 + (7 * p' + q'))) ∧ (0 < nv (r (4 + (10 + (7 * p' + q')))) → s = r (4 + (59 + (7 * p' + q')))) else r (4 + (10 + (7 * p' + q'))) = r' (4 + (10 + (7 * p' + q'))) ∧ (0 < nv (r (4 + (10 + (7 * p' + q')))) → r (4 + (59 + (7 * p' + q'))) = r' (4 + (59 + (7 * p' + q')))))
    rw [show 4 + (10 + (7 * p' + q')) = 14 + (7 * p' + q') by omega, show 4 + (59 + (7 * p' + q')) = 63 + (7 * p' + q') by omega]
    by_cases hc : nI p = nI p' ∧ nI q = nI q' ∧ p' < nv (r 0) ∧ q' < nv (r 0) ∧ p' ≠ q'
    · rw [if_pos hc]
      have e1 : p = p' := (nI_eq (by omega) (by omega)).mp hc.1
      have e2 : q = q' := (nI_eq (by omega) (by omega)).mp hc.2.1
      subst e1; subst e2
      exact ⟨rfl, hs⟩
    · rw [if_neg hc]
      by_cases hz : p' = p ∧ q' = q
      · exact absurd ⟨by rw [hz.1], by rw [hz.2], by omega, by omega, by omega⟩ hc
      · exact ⟨(he _ (by omega) (by omega)).symm, fun _ => (he _ (by omega) (by omega)).symm⟩
theorem csetHarm_ok {u n : Nat} {v d : Int32} (h8 : m.1 8 u 0 = nI n) (hn : n ≤ 7) (hp : p < n) (hq : q < n) (hne : p ≠ q) : fn_X8_setHarm u (nI p) (nI q) v d m = some (am_si (am_si m 37 u (7 * p + q) v) 38 u (7 * p + q) d) := by
  unfold fn_X8_setHarm
  rw [hasTwo_ok h8, if_pos ⟨fk_in hn hp, fk_in hn hq, nI_ne (by omega) (by omega) hne⟩, bd_s, if_neg (by decide), i7', ck_in (by omega) (by decide), ck_in (by omega) (by decide), nI_clamp (by omega)]
theorem iv_U.harm {u : Nat} {v d d' : Int32} {r' : Nat → Int32} (h : iv_U m u r) (hp : p < 7) (hq : q < 7) (he : ∀ k, r' k = if k = 63 + (7 * p + q) then d' else if k = 14 + (7 * p + q) then v else r k) (hd : 0 < nv v → d = d') : iv_U (am_si (am_si m 37 u (7 * p + q) v) 38 u (7 * p + q) d) u r' := by
  have ho : ∀ k, k ≠ 63 + (7 * p + q) → k ≠ 14 + (7 * p + q) → r' k = r k := fun k h1 h2 => by rw [he, if_neg h1, if_neg h2]
  have g : ∀ c, c ≠ 37 → c ≠ 38 → (am_si (am_si m 37 u (7 * p + q) v) 38 u (7 * p + q) d).1 c u = m.1 c u := fun c h1 h2 => (u3_row c u (Or.inl h2)).trans (u3_row c u (Or.inl h1))
  have e37 : ∀ k, (am_si (am_si m 37 u (7 * p + q) v) 38 u (7 * p + q) d).1 37 u k = if k = 7 * p + q then v else m.1 37 u k := fun k => by
    show (am_si m 37 u (7 * p + q) v).1 37 u k = _
    rw [rd_j]
  have e38 : ∀ k, (am_si (am_si m 37 u (7 * p + q) v) 38 u (7 * p + q) d).1 38 u k = if k = 7 * p + q then d else m.1 38 u k := fun k => by
    rw [rd_j]
    rfl
  unfold iv_U
  rw [g 8 (by decide) (by decide), g 36 (by decide) (by decide), g 39 (by decide) (by decide), g 40 (by decide) (by decide)]
  refine iv_V.ch h (fun k hk => Or.inl ⟨rfl, ho k (by omega) (by omega)⟩) (fun k hk => Or.inl ⟨rfl, ho _ (by omega) (by omega)⟩) (fun k hk => Or.inl ⟨rfl, ho _ (by omega) (by omega)⟩) (fun k hk => ?_) (fun k hk => Or.inl ⟨rfl, ho _ (by omega) (by omega)⟩)
  by_cases e : k = 7 * p + q
  · subst e
    refine Or.inr ⟨?_, fun hz => ?_⟩
    · rw [e37, if_pos rfl, he, if_neg (by omega), if_pos rfl]
    · rw [he, if_neg (by omega), if_pos rfl] at hz
      rw [e38, if_pos rfl, he, if_pos rfl]
      exact hd hz
  · refine Or.inl ⟨?_, ?_, ho _ (by omega) (by omega), ho _ (by omega) (by omega)⟩
    · rw [e37, if_neg e]
    · rw [e38, if_neg e]
theorem fk_both {n : Nat} {a b : Int32} (hn : n ≤ 7) (h : (0 ≤ a ∧ a < nI n) ∧ (0 ≤ b ∧ b < nI n)) : ∃ p q, p < n ∧ q < n ∧ a = nI p ∧ b = nI q ∧ nv a = p ∧ nv b = q := by
  obtain ⟨p, hp, rfl⟩ := fk_of hn h.1
  obtain ⟨q, hq, rfl⟩ := fk_of hn h.2
  exact ⟨p, q, hp, hq, rfl, rfl, nv_nI (by omega), nv_nI (by omega)⟩
theorem c_harm {σ : DS} (a b c : Int32) (h : cWd σ m) : ∃ m', fn_X9_doHarm a b c m = some ((harmA a b c σ).1, m') ∧ cWd (harmA a b c σ).2 m' ∧ (∀ u, u ≠ 0 → sm_U m m' u) := by
  obtain ⟨hU, hW, hH⟩ := h
  have h7 := hW.n7
  have e8 : m.1 8 0 0 = nI (nv (σ.1 0)) := hU.1.trans hW.r0
  have same : ∀ u, u ≠ 0 → sm_U m m u := fun u _ => ⟨rfl, rfl, rfl, rfl, rfl, rfl⟩
  unfold fn_X9_doHarm harmA
  by_cases c1 : c < 1
  · rw [if_pos c1, if_pos (Or.inl c1)]; exact ⟨m, rfl, ⟨hU, hW, hH⟩, same⟩
  rw [if_neg c1]
  by_cases c9 : 9 < c
  · rw [if_pos c9, if_pos (Or.inr (Or.inl c9))]; exact ⟨m, rfl, ⟨hU, hW, hH⟩, same⟩
  rw [if_neg c9]
  by_cases hab : a = b
  · rw [if_neg (fun z => z hab), if_pos (Or.inr (Or.inr hab))]; exact ⟨m, rfl, ⟨hU, hW, hH⟩, same⟩
  rw [if_pos hab, if_neg (fun z => z.elim c1 (fun z => z.elim c9 hab)), hasTwo_ok e8, bd_s]
  by_cases hf : (0 ≤ a ∧ a < nI (nv (σ.1 0))) ∧ (0 ≤ b ∧ b < nI (nv (σ.1 0)))
  · obtain ⟨p, q, hp, hq, rfl, rfl, np, nq⟩ := fk_both h7 hf
    have hne : p ≠ q := fun z => hab (by rw [z])
    rw [if_pos (show (0 ≤ nI p ∧ nI p < nI (nv (σ.1 0))) ∧ (0 ≤ nI q ∧ nI q < nI (nv (σ.1 0))) ∧ nI p ≠ nI q from ⟨hf.1, hf.2, hab⟩), if_pos (show (1 : Int32) ≠ 0 by decide), if_neg (fun z => z hf), np, nq]
    have ew := cweight_ok e8 h7 hp hq hne
    rw [hU.2.2.2.2.2.2.1 _ (by omega)] at ew
    have es := csince_ok e8 h7 hp hq hne
    rw [ew, bd_s]
    by_cases hw : σ.1 (14 + (7 * p + q)) = c
    · rw [if_neg (fun z => z hw), if_pos hw]; exact ⟨m, rfl, ⟨hU, hW, hH⟩, same⟩
    · rw [if_pos hw, if_neg hw]
      obtain ⟨w, hw31, rfl⟩ := nI_of (show ¬ c < 0 from fun z => c1 (fa_trans z (by decide)))
      have hw9 : w ≤ 9 := by
        by_cases z : w ≤ 9
        · exact z
        · exact absurd (nI_lt (a := 9) (by omega) hw31) c9
      obtain ⟨m1, e1, q1⟩ := keep_ok (z := 0) hH hU hW (by decide) ew es
      have k1 := kp_X3_keep _ _ _ _ _ _ _ e1
      have U1 : iv_U m1 0 σ.1 := hU.of (sm_U.kp k1 rfl 0)
      have e1 : fn_X3_keep 0 0 (nI p) (nI q) 0 m = some m1 := e1
      rw [e1, bd_s, csetHarm_ok (n := nv (σ.1 0)) (by rw [k1.obj 8 rfl]; exact e8) h7 hp hq hne, bd_s]
      have e4 : m1.1 39 0 0 = σ.1 4 := U1.2.2.2.2.1 0 (by decide)
      refine ⟨_, rfl, ⟨U1.harm (by omega) (by omega) (fun k => rfl) (fun _ => e4), harmS_W hW hp hq hne hw9, ?_⟩, fun u hu => ?_⟩
      · refine q1 _ (fun k hk => ?_) (harm_step hW hp hq hne (fun k h1 h2 => ?_) (fun hz => ?_)) _ rfl rfl
        · show harmS σ.1 p q (nI w) k = _
          unfold harmS; rw [if_neg (by omega), if_neg (by omega)]
        · show harmS σ.1 p q (nI w) k = _
          unfold harmS; rw [if_neg h2, if_neg h1]
        · exact hU.2.2.2.2.2.2.2.1 _ (by omega) hz
      · exact (sm_U.kp k1 rfl u).tr ((sm_U.si (m := m1) 37 0 (7 * p + q) (nI w) u (Or.inl (Ne.symm hu))).tr (sm_U.si (m := am_si m1 37 0 (7 * p + q) (nI w)) 38 0 (7 * p + q) (m1.1 39 0 0) u (Or.inl (Ne.symm hu))))
  · rw [if_neg (show ¬ ((0 ≤ a ∧ a < nI (nv (σ.1 0))) ∧ (0 ≤ b ∧ b < nI (nv (σ.1 0))) ∧ a ≠ b) from fun z => hf ⟨z.1, z.2.1⟩), if_neg (show ¬ (0 : Int32) ≠ 0 by decide), if_pos hf]
    exact ⟨m, rfl, ⟨hU, hW, hH⟩, same⟩
theorem rset_ok (hp : p < 7) (hq : q < 7) (v : Int32) : fn_X10_setHarm (nI p) (nI q) v m = some (am_si (am_si m 44 0 (14 + (7 * p + q)) v) 44 0 (63 + (7 * p + q)) (m.1 44 0 4)) := by
  unfold fn_X10_setHarm
  have e1 : ((14 : Int32) + (7 : Int32) * nI p) + nI q = nI (14 + (7 * p + q)) := by rw [show (14 : Int32) = nI 14 from rfl, show (7 : Int32) = nI 7 from rfl, pk_mul, nI_add, nI_add, Nat.add_assoc]
  have e2 : ((63 : Int32) + (7 : Int32) * nI p) + nI q = nI (63 + (7 * p + q)) := by rw [show (63 : Int32) = nI 63 from rfl, show (7 : Int32) = nI 7 from rfl, pk_mul, nI_add, nI_add, Nat.add_assoc]
  rw [e1, e2, ck_in (by omega) (by decide), ck_in (by omega) (by decide), nI_clamp (by omega), nI_clamp (by omega), rd_j, if_neg (by omega)]
theorem r_harm {σ : DS} (a b c : Int32) (hW : iv_W 999 σ.1) (hK : σ.2.1 ≤ 16) (h : rWd σ m) : ∃ m', fn_X10_harmNow a b c m = some ((harmA a b c σ).1, m') ∧ rWd (harmA a b c σ).2 m' := by
  obtain ⟨h44, hH⟩ := h
  have h7 := hW.n7
  have e0 : m.1 44 0 0 = nI (nv (σ.1 0)) := by rw [h44]; exact hW.r0
  unfold fn_X10_harmNow harmA
  rw [show (1 : Int64) = (1 : Int32).toInt64 from rfl, show (9 : Int64) = (9 : Int32).toInt64 from rfl, in_32, bd_s]
  by_cases hc : (1 : Int32) ≤ c ∧ c ≤ 9
  · have c1 : ¬ c < 1 := fun z => (fa_of_lt z).2.1 hc.1
    have c9 : ¬ 9 < c := fun z => (fa_of_lt z).2.1 hc.2
    rw [if_pos hc, if_neg (show ¬ (1 : Int32) = 0 by decide)]
    by_cases hab : a = b
    · rw [if_neg (fun z => z hab), if_pos (Or.inr (Or.inr hab))]; exact ⟨m, rfl, h44, hH⟩
    rw [if_pos hab, if_neg (fun z => z.elim c1 (fun z => z.elim c9 hab)), isFolk_ok h7 e0, bd_s]
    by_cases ha : 0 ≤ a ∧ a < nI (nv (σ.1 0))
    · rw [if_pos ha, if_neg (show ¬ (1 : Int32) = 0 by decide), isFolk_ok h7 e0, bd_s]
      by_cases hb : 0 ≤ b ∧ b < nI (nv (σ.1 0))
      · obtain ⟨p, q, hp, hq, rfl, rfl, np, nq⟩ := fk_both h7 ⟨ha, hb⟩
        rw [if_pos hb, if_pos (show (1 : Int32) ≠ 0 by decide), if_neg (fun z => z ⟨ha, hb⟩), np, nq, weightOf_ok (by omega) (by omega), bd_s, h44]
        by_cases hw : σ.1 (14 + (7 * p + q)) = c
        · rw [if_neg (fun z => z hw), if_pos hw]; exact ⟨m, rfl, h44, hH⟩
        · rw [if_pos hw, if_neg hw]
          obtain ⟨m1, e1, q1⟩ := remember_ok (z := 0) hH hK
          have k1 := kp_X10_remember _ _ _ e1
          have e1 : fn_X10_remember 0 m = some m1 := e1
          rw [e1, bd_s, rset_ok (by omega) (by omega), bd_s]
          rw [h44] at q1
          refine ⟨_, rfl, funext (fun k => ?_), q1⟩
          show (am_si (am_si m1 44 0 (14 + (7 * p + q)) c) 44 0 (63 + (7 * p + q)) (m1.1 44 0 4)).1 44 0 k = harmS σ.1 p q c k
          rw [rd_j, rd_j, k1.row 44 rfl, h44]
          rfl
      · rw [if_neg hb, if_neg (show ¬ (0 : Int32) ≠ 0 by decide), if_pos (fun z => hb z.2)]
        exact ⟨m, rfl, h44, hH⟩
    · rw [if_neg ha, if_pos (show (0 : Int32) = 0 from rfl), if_pos (fun z => ha z.1)]
      exact ⟨m, rfl, h44, hH⟩
  · rw [if_neg hc, if_pos (show (0 : Int32) = 0 from rfl), if_pos]
    · exact ⟨m, rfl, h44, hH⟩
    · by_cases c1 : c < 1
      · exact Or.inl c1
      · exact Or.inr (Or.inl (fa_of_nle (fun z => hc ⟨fa_of_nlt c1, z⟩)))
theorem w_ok {D : Nat} {k : Nat} (hW : iv_W D r) (hk : k < 118) (h3 : k ≠ 3) : an_ok (r k) := by
  rw [hW.k hk h3]
  exact Or.inl (nI_pos' (nv_lt _))
theorem harmA_ok {σ : DS} (a b c : Int32) (hW : iv_W 999 σ.1) : an_ok (harmA a b c σ).1 ∧ keepR σ.1 (harmA a b c σ).2.1 := by
  have h7 := hW.n7
  unfold harmA
  by_cases h1 : c < 1 ∨ 9 < c ∨ a = b
  · rw [if_pos h1]; exact ⟨an_no 1 (by decide) (by decide), keepR.rf⟩
  rw [if_neg h1]
  by_cases h2 : (0 ≤ a ∧ a < nI (nv (σ.1 0))) ∧ (0 ≤ b ∧ b < nI (nv (σ.1 0)))
  · rw [if_neg (fun z => z h2)]
    obtain ⟨p, q, hp, hq, rfl, rfl, np, nq⟩ := fk_both h7 h2
    rw [np, nq]
    by_cases h3 : σ.1 (14 + (7 * p + q)) = c
    · rw [if_pos h3]; exact ⟨an_no 3 (by decide) (by decide), keepR.rf⟩
    · rw [if_neg h3]
      refine ⟨w_ok hW (by omega) (by omega), fun k hk => ?_⟩
      show harmS σ.1 p q c k = σ.1 k
      unfold harmS; rw [if_neg (by omega), if_neg (by omega)]
  · rw [if_pos h2]; exact ⟨an_no 2 (by decide) (by decide), keepR.rf⟩
theorem op_harm (h : Inv m) (a b c : Int32) : op_ok m (fun m => fn_X9_harm a b c m) (fun m => fn_X10_harm a b c m) := by
  refine op_act (F := fn_X9_doHarm a b c) (G := fn_X10_harmNow a b c) (A := harmA a b c) h (fun σ e w => ?_) (fun σ m1 e w w1 _ => ?_) (fun σ e w => harmA_ok a b c w.2.1)
  · obtain ⟨m', e1, e2, e3⟩ := c_harm a b c w
    exact ⟨m', e1, e2, e3, am_kp.mono (kp_X9_doHarm _ _ _ _ _ e1) rfl⟩
  · obtain ⟨m', e1, e2⟩ := r_harm a b c w.2.1 w.2.2.1 w1
    exact ⟨m', e1, e2, am_kp.mono (kp_X10_harmNow _ _ _ _ _ e1) rfl⟩
end HP
