/-! calls that change the upland that is -/
abbrev lv0 : List (Nat × Nat) := [(2, 0), (2, 1), (2, 2), (3, 1), (6, 0), (6, 7), (8, 0), (8, 1), (8, 3), (10, 0), (10, 8), (10, 34), (10, 38), (10, 46), (10, 55), (10, 56), (10, 58), (20, 0), (21, 0), (22, 0), (23, 0), (24, 0), (30, 0), (31, 0), (32, 0), (33, 0), (34, 0), (36, 0), (37, 0), (38, 0), (39, 0), (40, 0), (41, 0), (44, 0), (46, 0), (47, 0), (56, 0), (57, 0), (58, 0), (59, 0), (60, 0), (62, 0), (90, 0), (92, 0), (93, 0), (94, 0), (95, 0)]
def hH (m : am_m) : Prop := iv_H (m.1 3 0 1) (m.1 24 0) (m.1 10 0 8) (m.1 46 0) (m.1 47 0) (m.1 44 0)
section LV
variable {m m' : am_m}
theorem Inv0.lv {WI : List (Nat × Nat)} (h : Inv0 m) (k : am_kp WI sc_L 1 m m') (hk : am_sub WI ((9, 17) :: (10, 1) :: (42, 0) :: (43, 0) :: lv0) = true) (hU : ∀ u, u ≠ 0 → sm_U m m' u) (hw : iv_W 999 (m'.1 44 0)) (hu : iv_U m' 0 (m'.1 44 0)) (h2 : m'.1 44 0 2 = m.1 44 0 2) (h118 : ∀ j, 118 ≤ j → m'.1 44 0 j = m.1 44 0 j) (hh : hH m') : Inv0 m' := by
  have k : am_kp ((9, 17) :: (10, 1) :: (42, 0) :: (43, 0) :: lv0) sc_L 1 m m' := k.mono (by rw [hk]; rfl)
  obtain ⟨h1, h2', h3, h4, h5, h6, h7, h8, h9, h10⟩ := h
  have he : m'.2.2.2.2 = m.2.2.2.2 := k.2.2
  have hS : sm_S m m' := sm_S.of5 (k.obj 5 rfl) (k.row 28 rfl) (k.row 29 rfl)
  refine ⟨hw, hu, h3.of h2 h118 hS (by rw [he]) (by rw [he]), hh, h5.of (by rw [k.row 45 rfl]) (by rw [k.row 91 rfl]) (fun u hu => hU u (by omega)) hS he, ?_, ?_, ?_, h9.of he, ?_⟩
  · have e2 := hU 2 (by decide)
    rw [k.fld 10 0 61 rfl, k.row 63 rfl, e2.1, e2.2.1, e2.2.2.1]; exact h6
  · rw [k.fld 7 0 1 rfl, k.row 35 rfl, k.fld 10 0 13 rfl, k.row 50 rfl]; exact h7
  · exact h8.of (k.fld 9 0 15 rfl) (k.fld 10 0 11 rfl) (k.fld 9 0 16 rfl) (k.fld 10 0 57 rfl) (k.fld 4 0 10 rfl) (k.fld 10 0 18 rfl) (k.fld 10 0 20 rfl)
  · exact h10.of (k.rowL 82 rfl) (k.rowL 83 rfl) (k.rowL 84 rfl) (k.rowL 89 rfl)
theorem sm_U.tr {m1 m2 m3 : am_m} {u : Nat} (h : sm_U m1 m2 u) (g : sm_U m2 m3 u) : sm_U m1 m3 u := ⟨g.1.trans h.1, g.2.1.trans h.2.1, g.2.2.1.trans h.2.2.1, g.2.2.2.1.trans h.2.2.2.1, g.2.2.2.2.1.trans h.2.2.2.2.1, g.2.2.2.2.2.trans h.2.2.2.2.2⟩
theorem sm_U.kp {WI WL : List (Nat × Nat)} {E : Nat} (k : am_kp WI WL E m m') (hw : (WI.all (fun q => !Nat.beq q.1 8) && (!am_hit WI 36 0 && (!am_hit WI 37 0 && (!am_hit WI 38 0 && (!am_hit WI 39 0 && !am_hit WI 40 0))))) = true) (u : Nat) : sm_U m m' u := by
  simp only [Bool.and_eq_true, Bool.not_eq_true'] at hw
  obtain ⟨h8, h36, h37, h38, h39, h40⟩ := hw
  exact ⟨by rw [k.obj 8 h8], by rw [k.row 36 (by rw [h36]; rfl)], by rw [k.row 37 (by rw [h37]; rfl)], by rw [k.row 38 (by rw [h38]; rfl)], by rw [k.row 39 (by rw [h39]; rfl)], by rw [k.row 40 (by rw [h40]; rfl)]⟩
theorem u3_row {f : Nat → Nat → Nat → Int32} {c n k : Nat} {v : Int32} (c' n' : Nat) (h : c' ≠ c ∨ n' ≠ n) : am_u3 f c n k v c' n' = f c' n' := by
  funext k'
  exact am_u3_nq (fun z => by rcases h with h | h; · exact h z.1
                              · exact h z.2.1)
theorem sm_U.si (c n k : Nat) (v : Int32) (u : Nat) (h : n ≠ u ∨ (c ≠ 8 ∧ c ≠ 36 ∧ c ≠ 37 ∧ c ≠ 38 ∧ c ≠ 39 ∧ c ≠ 40)) : sm_U m (am_si m c n k v) u := by
  have g : ∀ c', (c' = 8 ∨ c' = 36 ∨ c' = 37 ∨ c' = 38 ∨ c' = 39 ∨ c' = 40) → (am_si m c n k v).1 c' u = m.1 c' u := fun c' hc => u3_row c' u (by omega)
  exact ⟨g 8 (by omega), g 36 (by omega), g 37 (by omega), g 38 (by omega), g 39 (by omega), g 40 (by omega)⟩
/-- a call that tells v and answers r: mA behind the class's deed, mB behind the reference's -/
theorem op_told {f g : am_m → Option (Int32 × am_m)} {mA mB : am_m} (r v : Int32) (h : Inv m) (hf : f m = some (r, st_9 v mA)) (hg : g (st_9 v mA) = some (r, st_10 v mB)) (kA : am_kp lv0 sc_L 1 m mA) (kB : am_kp lv0 sc_L 1 (st_9 v mA) mB) (hU : ∀ u, u ≠ 0 → sm_U m mB u) (hw : iv_W 999 (mB.1 44 0)) (hu : iv_U mB 0 (mB.1 44 0)) (h2 : mB.1 44 0 2 = m.1 44 0 2) (h118 : ∀ j, 118 ≤ j → mB.1 44 0 j = m.1 44 0 j) (hh : hH mB) : op_ok m f g := by
  have k10 := st_10_kp v mB
  have e44 : (st_10 v mB).1 44 = mB.1 44 := k10.row 44 rfl
  have hUB : ∀ u, sm_U mB (st_10 v mB) u := sm_U.kp k10 rfl
  refine ⟨r, _, _, hf, hg, Inv0.lv (WI := (9, 17) :: (10, 1) :: (42, 0) :: (43, 0) :: lv0) h.1 (am_kp.tr (am_kp.mono kA rfl) (am_kp.tr (am_kp.mono (st_9_kp v mA) rfl) (am_kp.tr (am_kp.mono kB rfl) (am_kp.mono k10 rfl)))) rfl (fun u hu => (hU u hu).tr (hUB u)) (by rw [e44]; exact hw) (by rw [e44]; exact hu.of (hUB 0)) (by rw [e44]; exact h2) (fun j hj => by rw [e44]; exact h118 j hj) ?_, st_S h.2 kA rfl kB rfl⟩
  unfold hH at hh ⊢
  rw [e44, k10.fld 3 0 1 rfl, k10.row 24 rfl, k10.fld 10 0 8 rfl, k10.row 46 rfl, k10.row 47 rfl]
  exact hh
theorem hH.zero (h1 : m.1 3 0 1 = 0) (h2 : m.1 10 0 8 = 0) : hH m := ⟨h1.trans h2.symm, 0, by decide, h2, fun j hj => absurd hj (Nat.not_lt_zero _)⟩
/-- a snapshot put into another row -/
theorem iv_W.put {r r' s : Nat → Int32} (h' : iv_W 999 r') (h : iv_W 999 (iv_put r s)) (e0 : r' 0 = r 0) : iv_W 999 (iv_put r' s) := by
  have hi : ∀ k, 4 ≤ k → k < 112 → ∀ q : Nat → Int32, iv_put q s k = s (k - 4) := fun k h1 h2 q => if_pos ⟨h1, h2⟩
  have ho : ∀ k, (k < 4 ∨ 112 ≤ k) → ∀ q : Nat → Int32, iv_put q s k = q k := fun k h1 q => if_neg (by omega)
  have hs : ∀ k, 4 ≤ k → k < 112 → iv_put r' s k = iv_put r s k := fun k h1 h2 => by rw [hi k h1 h2, hi k h1 h2]
  have h0 : iv_put r' s 0 = iv_put r s 0 := by rw [ho 0 (by omega), ho 0 (by omega), e0]
  obtain ⟨w1, w2, w3, w4, w5, w6, w7, w8, w9, w10, w11, w12⟩ := h
  obtain ⟨v1, v2, v3, v4, v5, v6, v7, v8, v9, v10, v11, v12⟩ := h'
  refine ⟨fun k hk h3 => ?_, by rw [h0]; exact w2, by rw [ho 1 (by omega)]; exact v3, by rw [ho 2 (by omega)]; exact v4, by rw [ho 3 (by omega), ho 2 (by omega)]; exact v5, by rw [hs 4 (by omega) (by omega)]; exact w6, by rw [hs 5 (by omega) (by omega)]; exact w7, by rw [hs 6 (by omega) (by omega)]; exact w8, fun k hk => by rw [hs _ (by omega) (by omega)]; exact w9 k hk, fun p q hp hq => by rw [hs _ (by omega) (by omega), h0]; exact w10 p q hp hq, fun k hk => by rw [hs _ (by omega) (by omega)]; exact w11 k hk, fun k hk => by rw [ho _ (by omega)]; exact v12 k hk⟩
  by_cases hh : k < 4 ∨ 112 ≤ k
  · rw [ho k hh]; exact v1 k hk h3
  · rw [hs k (by omega) (by omega)]; exact w1 k hk h3
/-- what can be undone goes over to a row that differs only beside the snapshots -/
theorem iv_H.of {kept nU : Int32} {deeds undos sorts r r' : Nat → Int32} (h : iv_H kept deeds nU undos sorts r) (hW : iv_W 999 r') (e0 : r' 0 = r 0) (he : ∀ k, 4 ≤ k → k < 112 → r' k = r k) : iv_H kept deeds nU undos sorts r' := by
  obtain ⟨h1, K, h2, h3, h4⟩ := h
  refine ⟨h1, K, h2, h3, fun j hj => ?_⟩
  obtain ⟨g1, g2, g3, g4⟩ := h4 j hj
  refine ⟨g1, g2, hW.put g3 e0, ?_⟩
  rw [e0]
  unfold iv_step at g4 ⊢
  by_cases ej : j + 1 = K
  · rw [if_pos ej] at g4 ⊢
    rw [he (4 + 1) (by omega) (by omega), he (4 + 2) (by omega) (by omega)]
    refine ⟨g4.1, g4.2.1, g4.2.2.1, g4.2.2.2.1, fun p q hp hq => ?_⟩
    have := g4.2.2.2.2 p q hp hq
    rw [he (4 + (10 + (7 * p + q))) (by omega) (by omega), he (4 + (59 + (7 * p + q))) (by omega) (by omega)]
    exact this
  · rw [if_neg ej] at g4 ⊢
    exact g4
end LV
/-- one cell of a row is set -/
theorem iv_W.set {D k x : Nat} {r r' : Nat → Int32} (h : iv_W D r) (he : ∀ j, r' j = if j = k then nI x else r j) (hx : x < 2 ^ 31) (hk : k ≠ 2 ∧ k ≠ 3) (c0 : k = 0 → nv (r 0) ≤ x ∧ x ≤ 7) (c1 : k = 1 → x ≤ 6) (c4 : k = 4 → x ≤ D) (c5 : k = 5 → x ≤ 10) (c6 : k = 6 → x ≤ 9) (c7 : 7 ≤ k → k < 14 → x ≤ 9) (c14 : ∀ p q, p < 7 → q < 7 → k = 14 + (7 * p + q) → x ≤ 9 ∧ (0 < x → p < nv (r 0) ∧ q < nv (r 0) ∧ p ≠ q)) (c63 : 63 ≤ k → k < 112 → x ≤ D) (c112 : 112 ≤ k → k < 118 → x < 128) : iv_W D r' := by
  have ne : ∀ j, j ≠ k → r' j = r j := fun j hj => by rw [he, if_neg hj]
  have ek : r' k = nI x := by rw [he, if_pos rfl]
  have nk : nv (r' k) = x := by rw [ek, nv_nI hx]
  have n0 : nv (r 0) ≤ nv (r' 0) := by
    by_cases e : 0 = k
    · rw [e, nk, ← e]; exact (c0 e.symm).1
    · rw [ne 0 e]; exact Nat.le_refl _
  obtain ⟨w1, w2, w3, w4, w5, w6, w7, w8, w9, w10, w11, w12⟩ := h
  have lk : ∀ j (B : Nat), nv (r j) ≤ B → (j = k → x ≤ B) → nv (r' j) ≤ B := fun j B h1 h2 => by
    by_cases e : j = k
    · rw [e, nk]; exact h2 e
    · rw [ne j e]; exact h1
  refine ⟨fun j hj h3 => ?_, lk 0 7 w2 (fun e => (c0 e.symm).2), lk 1 6 w3 (fun e => c1 e.symm), by rw [ne 2 (Ne.symm hk.1)]; exact w4, by rw [ne 3 (Ne.symm hk.2), ne 2 (Ne.symm hk.1)]; exact w5, lk 4 D w6 (fun e => c4 e.symm), lk 5 10 w7 (fun e => c5 e.symm), lk 6 9 w8 (fun e => c6 e.symm), fun j hj => lk (7 + j) 9 (w9 j hj) (fun e => c7 (by omega) (by omega)), fun p q hp hq => ?_, fun j hj => lk (63 + j) D (w11 j hj) (fun e => c63 (by omega) (by omega)), fun j hj => ?_⟩
  · by_cases e : j = k
    · rw [e, nk]; exact ek
    · rw [ne j e]; exact w1 j hj h3
  · by_cases e : 14 + (7 * p + q) = k
    · rw [e, nk]
      obtain ⟨z1, z2⟩ := c14 p q hp hq e.symm
      exact ⟨z1, fun z => by have := z2 z; omega⟩
    · rw [ne _ e]
      obtain ⟨z1, z2⟩ := w10 p q hp hq
      exact ⟨z1, fun z => by have := z2 z; omega⟩
  · by_cases e : 112 + j = k
    · rw [e, nk]; exact c112 (by omega) (by omega)
    · rw [ne _ e]; exact w12 j hj
theorem st_9_nn {v : Int32} (h : 0 ≤ v) (m : am_m) : st_9 v m = am_si m 9 0 17 0 := if_neg (an_nn h)
theorem st_10_nn {v : Int32} (h : 0 ≤ v) (m : am_m) : st_10 v m = am_si m 10 0 1 0 := if_neg (an_nn h)
/-- a call that isn't refused -/
theorem op_done {m : am_m} {f g : am_m → Option (Int32 × am_m)} {mA mB : am_m} (r : Int32) (h : Inv m) (hf : f m = some (r, am_si mA 9 0 17 0)) (hg : g (am_si mA 9 0 17 0) = some (r, am_si mB 10 0 1 0)) (kA : am_kp lv0 sc_L 1 m mA) (kB : am_kp lv0 sc_L 1 (am_si mA 9 0 17 0) mB) (hU : ∀ u, u ≠ 0 → sm_U m mB u) (hw : iv_W 999 (mB.1 44 0)) (hu : iv_U mB 0 (mB.1 44 0)) (h2 : mB.1 44 0 2 = m.1 44 0 2) (h118 : ∀ j, 118 ≤ j → mB.1 44 0 j = m.1 44 0 j) (hh : hH mB) : op_ok m f g := by
  have e9 : st_9 0 mA = am_si mA 9 0 17 0 := st_9_nn (by decide) mA
  have e10 : st_10 0 mB = am_si mB 10 0 1 0 := st_10_nn (by decide) mB
  exact op_told r 0 h (by rw [e9]; exact hf) (by rw [e9, e10]; exact hg) kA (by rw [e9]; exact kB) hU hw hu h2 h118 hh
theorem iv_V.ch {o o' fed fed' weight weight' since since' term term' seen seen' r r' : Nat → Int32} (h : iv_V o fed weight since term seen r) (ho : ∀ k, k < 4 → (o' k = o k ∧ r' k = r k) ∨ o' k = r' k) (ht : ∀ k, k < 3 → (term' k = term k ∧ r' (4 + k) = r (4 + k)) ∨ term' k = r' (4 + k)) (hf : ∀ k, k < 7 → (fed' k = fed k ∧ r' (7 + k) = r (7 + k)) ∨ fed' k = r' (7 + k)) (hw : ∀ k, k < 49 → (weight' k = weight k ∧ since' k = since k ∧ r' (14 + k) = r (14 + k) ∧ r' (63 + k) = r (63 + k)) ∨ (weight' k = r' (14 + k) ∧ (0 < nv (r' (14 + k)) → since' k = r' (63 + k)))) (hs : ∀ k, k < 6 → (seen' k = seen k ∧ r' (112 + k) = r (112 + k)) ∨ seen' k = r' (112 + k)) : iv_V o' fed' weight' since' term' seen' r' := by
  obtain ⟨v1, v2, v3, v4, v5, v6, v7, v8, v9⟩ := h
  have g : ∀ k, k < 4 → o k = r k → o' k = r' k := fun k hk e => by
    rcases ho k hk with ⟨z1, z2⟩ | z
    · rw [z1, z2]; exact e
    · exact z
  refine ⟨g 0 (by decide) v1, g 1 (by decide) v2, g 2 (by decide) v3, g 3 (by decide) v4, fun k hk => ?_, fun k hk => ?_, fun k hk => ?_, fun k hk hp => ?_, fun k hk => ?_⟩
  · rcases ht k hk with ⟨z1, z2⟩ | z
    · rw [z1, z2]; exact v5 k hk
    · exact z
  · rcases hf k hk with ⟨z1, z2⟩ | z
    · rw [z1, z2]; exact v6 k hk
    · exact z
  · rcases hw k hk with ⟨z1, z2, z3, z4⟩ | z
    · rw [z1, z3]; exact v7 k hk
    · exact z.1
  · rcases hw k hk with ⟨z1, z2, z3, z4⟩ | z
    · rw [z2, z4]; rw [z3] at hp; exact v8 k hk hp
    · exact z.2 hp
  · rcases hs k hk with ⟨z1, z2⟩ | z
    · rw [z1, z2]; exact v9 k hk
    · exact z
section OPS5
variable {m : am_m}
theorem lasting_ok {v : Int32} (h : 0 ≤ v) (m : am_m) : fn_X10_lasting v m = some (v, am_si (am_si m 10 0 8 0) 10 0 1 0) := by
  unfold fn_X10_lasting
  rw [if_pos h, tl_ok (Or.inl h), bd_s, st_10_nn h]
theorem told_ok {v : Int32} (h : 0 ≤ v) (m : am_m) : fn_X9_told v m = some (v, am_si m 9 0 17 0) := by rw [td_ok (Or.inl h), st_9_nn h]
theorem tell_ok {v : Int32} (h : 0 ≤ v) (m : am_m) : fn_X10_tell v m = some (v, am_si m 10 0 1 0) := by rw [tl_ok (Or.inl h), st_10_nn h]
theorem op_folk (h : Inv m) (a : Int32) : op_ok m (fun m => fn_X9_folk a m) (fun m => fn_X10_folk a m) := by
  obtain ⟨n, hn, e44, e8, en⟩ := h.n
  have hW := h.w
  have hU := h.u
  have hin : ∀ m' : am_m, fn_X10_in a.toInt64 0 9 m' = some (if 0 ≤ a ∧ a ≤ 9 then 1 else 0) := fun m' => by
    rw [show (0 : Int64) = (0 : Int32).toInt64 from rfl, show (9 : Int64) = (9 : Int32).toInt64 from rfl, in_32]
  by_cases H : 0 ≤ a ∧ a ≤ 9
  · obtain ⟨x, hx, rfl⟩ := nI_of (an_nn H.1)
    have hx9 : x ≤ 9 := (nI_leI (b := 9) hx (by decide)).mp H.2
    by_cases h7 : n = 7
    · refine op_refuse h 5 (by decide) (by decide) ?_ ?_
      · show fn_X9_folk (nI x) m = _
        unfold fn_X9_folk
        rw [if_neg (nI_pos hx), if_pos H.2, e8, if_neg (show ¬ nI n < (7 : Int32) from nI_nlt (b := 7) (by omega) (by omega))]
        rfl
      · show fn_X10_folk (nI x) _ = _
        unfold fn_X10_folk
        rw [hin, if_pos H, bd_s, if_pos (by decide), (st_9_kp _ m).row 44 rfl, e44, if_neg (fun z => z (by rw [h7]; rfl))]
        rfl
    · have hlt : n < 7 := by omega
      have hr : ∀ k, (am_si (am_si m 44 0 (7 + n) (nI x)) 44 0 0 (nI (n + 1))).1 44 0 k = if k = 0 then nI (n + 1) else if k = 7 + n then nI x else m.1 44 0 k := fun k => by rw [rd_j, rd_j]
      refine op_done (nI n) h (mA := am_si (am_si (am_si m 36 0 n (nI x)) 8 0 0 (nI (n + 1))) 3 0 1 0) (mB := am_si (am_si (am_si (am_si (am_si (am_si (am_si (am_si m 36 0 n (nI x)) 8 0 0 (nI (n + 1))) 3 0 1 0) 9 0 17 0) 10 0 0 0) 44 0 (7 + n) (nI x)) 44 0 0 (nI (n + 1))) 10 0 8 0) ?_ ?_ ?_ ?_ (fun u hu => ?_) ?_ ?_ ?_ (fun j hj => ?_) ?_
      · show fn_X9_folk (nI x) m = _
        unfold fn_X9_folk fn_X3_clear
        rw [if_neg (nI_pos hx), if_pos H.2, e8, if_pos (show nI n < (7 : Int32) from nI_lt (b := 7) hlt (by decide)), ck_in hlt (by decide), nI_clamp (by omega), nI_1, bd_s, told_ok (nI_pos' (by omega)), bd_s]
      · show fn_X10_folk (nI x) (am_si (am_si (am_si (am_si m 36 0 n (nI x)) 8 0 0 (nI (n + 1))) 3 0 1 0) 9 0 17 0) = _
        unfold fn_X10_folk
        rw [hin, if_pos H, bd_s, if_pos (by decide), show (am_si (am_si (am_si (am_si m 36 0 n (nI x)) 8 0 0 (nI (n + 1))) 3 0 1 0) 9 0 17 0).1 44 0 0 = nI n from e44, if_pos (show nI n ≠ (7 : Int32) from nI_ne (b := 7) (by omega) (by decide) h7), show (7 : Int32) = nI 7 from rfl, nI_add, ck_in (by omega) (by decide), nI_clamp (by omega), rd_j, if_neg (show ¬ 0 = 7 + n by omega), show (am_si (am_si (am_si (am_si (am_si m 36 0 n (nI x)) 8 0 0 (nI (n + 1))) 3 0 1 0) 9 0 17 0) 10 0 0 0).1 44 0 0 = nI n from e44, nI_1, lasting_ok (nI_pos' (by omega)), bd_s]
      · exact am_kp.si (am_kp.si (am_kp.si am_kp.rf rfl) rfl) rfl
      · exact am_kp.si (am_kp.si (am_kp.si (am_kp.si am_kp.rf rfl) rfl) rfl) rfl
      · exact (sm_U.si 36 0 n (nI x) u (Or.inl (Ne.symm hu))).tr (sm_U.si (m := am_si m 36 0 n (nI x)) 8 0 0 (nI (n + 1)) u (Or.inl (Ne.symm hu)))
      · refine (hW.set (k := 7 + n) (x := x) (r' := fun j => if j = 7 + n then nI x else m.1 44 0 j) (fun j => rfl) (by omega) (by omega) (by omega) (by omega) (by omega) (by omega) (by omega) (by omega) (by omega) (by omega) (by omega)).set (k := 0) (x := n + 1) hr (by omega) (by omega) (fun _ => ⟨by show nv (if 0 = 7 + n then nI x else m.1 44 0 0) ≤ _; rw [if_neg (by omega), en]; omega, by omega⟩) (by omega) (by omega) (by omega) (by omega) (by omega) (by omega) (by omega) (by omega)
      · have hr' : ∀ k, k ≠ 0 → k ≠ 7 + n → (am_si (am_si m 44 0 (7 + n) (nI x)) 44 0 0 (nI (n + 1))).1 44 0 k = m.1 44 0 k := fun k h1 h2 => by rw [hr, if_neg h1, if_neg h2]
        refine iv_V.ch hU (fun k hk => ?_) (fun k hk => Or.inl ⟨rfl, hr' _ (by omega) (by omega)⟩) (fun k hk => ?_) (fun k hk => Or.inl ⟨rfl, rfl, hr' _ (by omega) (by omega), hr' _ (by omega) (by omega)⟩) (fun k hk => Or.inl ⟨rfl, hr' _ (by omega) (by omega)⟩)
        · by_cases e : k = 0
          · subst e; exact Or.inr rfl
          · refine Or.inl ⟨?_, hr' k e (by omega)⟩
            show (am_si (am_si m 36 0 n (nI x)) 8 0 0 (nI (n + 1))).1 8 0 k = _
            rw [rd_j, if_neg e]
            rfl
        · by_cases e : k = n
          · subst e
            refine Or.inr ?_
            show (am_si m 36 0 k (nI x)).1 36 0 k = (am_si (am_si m 44 0 (7 + k) (nI x)) 44 0 0 (nI (k + 1))).1 44 0 (7 + k)
            rw [hr, rd_j, if_pos rfl, if_neg (by omega), if_pos rfl]
          · refine Or.inl ⟨?_, hr' _ (by omega) (by omega)⟩
            show (am_si m 36 0 n (nI x)).1 36 0 k = _
            rw [rd_j, if_neg e]
      · exact (hr 2).trans (by rw [if_neg (by decide), if_neg (by omega)])
      · exact (hr j).trans (by rw [if_neg (by omega), if_neg (by omega)])
      · exact hH.zero rfl rfl
  · refine op_refuse h 1 (by decide) (by decide) ?_ ?_
    · show fn_X9_folk a m = _
      unfold fn_X9_folk
      by_cases h0 : a < 0
      · rw [if_pos h0]; rfl
      · rw [if_neg h0, if_neg (fun z => H ⟨fa_of_nlt h0, z⟩)]; rfl
    · show fn_X10_folk a _ = _
      unfold fn_X10_folk
      rw [hin, if_neg H, bd_s, if_neg (by decide)]
      rfl
end OPS5
