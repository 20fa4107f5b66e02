/-! how the parts of the invariant go over to another memory -/
/-- the upland u is the same in both -/
def sm_U (m m' : am_m) (u : Nat) : Prop := m'.1 8 u = m.1 8 u ∧ m'.1 36 u = m.1 36 u ∧ m'.1 37 u = m.1 37 u ∧ m'.1 38 u = m.1 38 u ∧ m'.1 39 u = m.1 39 u ∧ m'.1 40 u = m.1 40 u
/-- the LAWS that were read are the same in both -/
def sm_S (m m' : am_m) : Prop := ∀ s, 1 ≤ s → m'.1 5 s = m.1 5 s ∧ m'.1 28 s = m.1 28 s ∧ m'.1 29 s = m.1 29 s
section PRES
variable {m m' : am_m} {u : Nat} {r : Nat → Int32}
theorem sm_S.rf : sm_S m m := fun _ _ => ⟨rfl, rfl, rfl⟩
theorem sm_S.of5 (h5 : m'.1 5 = m.1 5) (h28 : m'.1 28 = m.1 28) (h29 : m'.1 29 = m.1 29) : sm_S m m' := fun s _ => ⟨by rw [h5], by rw [h28], by rw [h29]⟩
theorem iv_U.of (h : iv_U m u r) (hu : sm_U m m' u) : iv_U m' u r := by
  unfold iv_U
  rw [hu.1, hu.2.1, hu.2.2.1, hu.2.2.2.1, hu.2.2.2.2.1, hu.2.2.2.2.2]
  exact h
theorem iv_L.of {s : Nat} (h : iv_L m s r) (hs : 1 ≤ s) (hS : sm_S m m') (he : m'.2.2.2.2.2.2 = m.2.2.2.2.2.2) : iv_L m' s r := by
  obtain ⟨n, cs, h1, h2, h3⟩ := h
  refine ⟨n, cs, h1, h2, ?_⟩
  rw [(hS s hs).1, (hS s hs).2.1, (hS s hs).2.2, he]
  exact h3
/-- the LAWS go over where row, upland's LAWS and the LAWS themselves are the same -/
theorem iv_K.of {r' : Nat → Int32} (h : iv_K m u r) (h2 : r' 2 = r 2) (hr : ∀ j, 118 ≤ j → r' j = r j) (hS : sm_S m m') (hl : m'.2.2.2.2.1 u = m.2.2.2.2.1 u) (he : m'.2.2.2.2.2.2 = m.2.2.2.2.2.2) : iv_K m' u r' := by
  intro k hk
  rw [h2] at hk
  obtain ⟨s, g1, g2, g3, g4⟩ := h k hk
  refine ⟨s, g1, by rw [he]; exact g2, by rw [hl]; exact g3, ?_⟩
  rw [show (fun j => r' (118 + 900 * k + j)) = (fun j => r (118 + 900 * k + j)) from funext (fun j => hr _ (by omega))]
  exact g4.of g1 hS he
theorem iv_G.of (h : iv_G m) (h45 : m'.1 45 0 = m.1 45 0) (h91 : m'.1 91 0 = m.1 91 0) (hU : ∀ u, 3 ≤ u → sm_U m m' u) (hS : sm_S m m') (he : m'.2.2.2.2 = m.2.2.2.2) : iv_G m' := by
  have e1 : m'.2.2.2.2.2.1 = m.2.2.2.2.2.1 := by rw [he]
  have e2 : m'.2.2.2.2.2.2 = m.2.2.2.2.2.2 := by rw [he]
  have e3 : m'.2.2.2.2.1 = m.2.2.2.2.1 := by rw [he]
  have ei : ∀ j, iv_img m' j = iv_img m j := fun j => by unfold iv_img; rw [h45]
  refine ⟨fun j hj => ?_, by rw [e1]; exact h.2⟩
  rcases h.1 j hj with ⟨a1, a2⟩ | ⟨a1, u, a2, a3, a4, a5, a6, a7⟩
  · exact Or.inl ⟨by rw [h91]; exact a1, by rw [e1]; exact a2⟩
  · refine Or.inr ⟨by rw [h91]; exact a1, u, a2, by rw [he]; exact a3, by rw [e1]; exact a4, by rw [ei]; exact a5, by rw [ei]; exact a6.of (hU u a2), ?_⟩
    rw [ei]
    exact a7.of rfl (fun _ _ => rfl) hS (by rw [e3]) e2
theorem iv_X.of (h : iv_X m) (h5 : m'.1 9 0 15 = m.1 9 0 15) (h6 : m'.1 10 0 11 = m.1 10 0 11) (h7 : m'.1 9 0 16 = m.1 9 0 16) (h8 : m'.1 10 0 57 = m.1 10 0 57) (h9 : m'.1 4 0 10 = m.1 4 0 10) (h10 : m'.1 10 0 18 = m.1 10 0 18) (h11 : m'.1 10 0 20 = m.1 10 0 20) : iv_X m' := by
  unfold iv_X
  rw [h5, h6, h7, h8, h9, h10, h11]
  exact h
theorem iv_A.of {e e' : am_e} (h : iv_A e) (he : e'.2.2 = e.2.2) : iv_A e' := by
  unfold iv_A
  rw [he]
  exact h
theorem iv_C.of {G G' : Nat → Nat → Nat → Int64} (h : iv_C G) (h1 : G' 82 = G 82) (h2 : G' 83 = G 83) (h3 : G' 84 = G 84) (h4 : G' 89 = G 89) : iv_C G' := by
  unfold iv_C
  rw [h1, h2, h3, h4]
  exact h
/-- what calls use on the way: not looked at by any other one -/
abbrev sc_I : List (Nat × Nat) := [(2, 0), (2, 1), (2, 2), (6, 0), (6, 7), (9, 17), (10, 0), (10, 1), (10, 34), (10, 38), (10, 46), (10, 55), (10, 56), (10, 58), (20, 0), (21, 0), (22, 0), (23, 0), (30, 0), (31, 0), (32, 0), (33, 0), (34, 0), (41, 0), (42, 0), (43, 0), (56, 0), (57, 0), (58, 0), (59, 0), (60, 0), (62, 0), (90, 0), (92, 0), (93, 0), (94, 0), (95, 0)]
abbrev sc_L : List (Nat × Nat) := [(10, 39), (10, 40), (80, 0), (81, 0), (85, 0), (86, 0), (87, 0), (88, 0)]
theorem Inv0.kp (h : Inv0 m) (k : am_kp sc_I sc_L 1 m m') : Inv0 m' := by
  obtain ⟨h1, h2, h3, h4, h5, h6, h7, h8, h9, h10⟩ := h
  have e44 : m'.1 44 = m.1 44 := k.row 44 rfl
  have e8 : m'.1 8 = m.1 8 := k.obj 8 rfl
  have e36 : m'.1 36 = m.1 36 := k.row 36 rfl
  have e37 : m'.1 37 = m.1 37 := k.row 37 rfl
  have e38 : m'.1 38 = m.1 38 := k.row 38 rfl
  have e39 : m'.1 39 = m.1 39 := k.row 39 rfl
  have e40 : m'.1 40 = m.1 40 := k.row 40 rfl
  have hU : ∀ u, sm_U m m' u := fun u => ⟨by rw [e8], by rw [e36], by rw [e37], by rw [e38], by rw [e39], by rw [e40]⟩
  have hS : sm_S m m' := sm_S.of5 (k.obj 5 rfl) (k.row 28 rfl) (k.row 29 rfl)
  have he : m'.2.2.2.2 = m.2.2.2.2 := k.2.2
  have he2 : m'.2.2.2.2.2.2 = m.2.2.2.2.2.2 := by rw [he]
  have he1 : m'.2.2.2.2.1 = m.2.2.2.2.1 := by rw [he]
  refine ⟨?_, ?_, ?_, ?_, ?_, ?_, ?_, ?_, ?_, ?_⟩
  · rw [e44]; exact h1
  · rw [e44]; exact h2.of (hU 0)
  · rw [e44]; exact h3.of rfl (fun _ _ => rfl) hS (by rw [he1]) he2
  · rw [e44, k.row 24 rfl, k.row 46 rfl, k.row 47 rfl, k.fld 3 0 1 rfl, k.fld 10 0 8 rfl]; exact h4
  · exact h5.of (by rw [k.row 45 rfl]) (by rw [k.row 91 rfl]) (fun u _ => hU u) hS he
  · rw [k.fld 10 0 61 rfl, k.row 63 rfl, e8, e36, e37]; exact h6
  · rw [k.fld 7 0 1 rfl, k.row 35 rfl, k.fld 10 0 13 rfl, k.row 50 rfl]; exact h7
  · exact h8.of (k.fld 9 0 15 rfl) (k.fld 10 0 11 rfl) (k.fld 9 0 16 rfl) (k.fld 10 0 57 rfl) (k.fld 4 0 10 rfl) (k.fld 10 0 18 rfl) (k.fld 10 0 20 rfl)
  · exact h9.of he
  · exact h10.of (k.rowL 82 rfl) (k.rowL 83 rfl) (k.rowL 84 rfl) (k.rowL 89 rfl)
theorem iv_S.kp {WI WL : List (Nat × Nat)} {E : Nat} (h : iv_S m) (k : am_kp WI WL E m m') (hw : (am_hit WI 9 17 || (am_hit WI 10 1 || (am_hit WI 42 0 || am_hit WI 43 0))) = false) : iv_S m' := by
  rw [Bool.or_eq_false_iff, Bool.or_eq_false_iff, Bool.or_eq_false_iff] at hw
  unfold iv_S
  rw [k.fld 9 0 17 hw.1, k.fld 10 0 1 hw.2.1, k.row 42 (by rw [hw.2.2.1]; rfl), k.row 43 (by rw [hw.2.2.2]; rfl)]
  exact h
end PRES
section TOLD
variable {m m' : am_m} {WA WB WC WD : List (Nat × Nat)} {E E' : Nat}
/-! what a call answers is told: the class's told, the reference's tell -/
def st_9 (v : Int32) (m : am_m) : am_m := if v < 0 then am_si (am_si m 9 0 17 v) 42 0 (nv (-v)) (m.1 42 0 (nv (-v)) + 1) else am_si m 9 0 17 0
def st_10 (v : Int32) (m : am_m) : am_m := if v < 0 then am_si (am_si m 10 0 1 v) 43 0 (nv (-v)) (m.1 43 0 (nv (-v)) + 1) else am_si m 10 0 1 0
theorem td_neg : ∀ k, 1 ≤ k → k < 7 → (-(nI k) : Int32) < 0 ∧ -(-(nI k) : Int32) = nI k ∧ ¬ (-(nI k) : Int32) ≤ -7 ∧ ¬ 0 ≤ (-(nI k) : Int32) ∧ ¬ (0 : Int32) < -(nI k) := by
  have h : ∀ k, k < 7 → 1 ≤ k → (-(nI k) : Int32) < 0 ∧ -(-(nI k) : Int32) = nI k ∧ ¬ (-(nI k) : Int32) ≤ -7 ∧ ¬ 0 ≤ (-(nI k) : Int32) ∧ ¬ (0 : Int32) < -(nI k) := by decide +kernel
  exact fun k h1 h2 => h k h2 h1
/-- an answer that can be told: 0 or more, or a refusal -/
def an_ok (v : Int32) : Prop := 0 ≤ v ∨ ∃ k, 1 ≤ k ∧ k < 7 ∧ v = -(nI k)
theorem an_nn {v : Int32} (h : 0 ≤ v) : ¬ v < 0 := fun q => (fa_of_lt q).2.1 h
theorem td_ok {v : Int32} {m : am_m} (h : an_ok v) : fn_X9_told v m = some (v, st_9 v m) := by
  unfold fn_X9_told fn_J9_min_7cf53 st_9
  rcases h with h | ⟨k, h1, h2, rfl⟩
  · rw [if_neg (an_nn h)]
    by_cases h0 : (0 : Int32) < v
    · rw [if_pos h0, bd_s, if_pos h]
    · have e : v = 0 := by
        rcases fa_three 0 v with q | q | q
        · exact absurd q h0
        · exact q.symm
        · exact absurd q (an_nn h)
      rw [if_neg h0, bd_s, if_pos h, e]
  · obtain ⟨g1, g2, g3, g4, g5⟩ := td_neg k h1 h2
    rw [if_neg g5, bd_s, if_neg g4, if_neg g3, if_pos g1, g2, ck_in h2 (by decide), ck_in h2 (by decide), nv_nI (by omega), nI_clamp (by omega)]
theorem tl_ok {v : Int32} {m : am_m} (h : an_ok v) : fn_X10_tell v m = some (v, st_10 v m) := by
  unfold fn_X10_tell st_10
  rcases h with h | ⟨k, h1, h2, rfl⟩
  · rw [if_pos h, if_neg (an_nn h), if_pos h]
  · obtain ⟨g1, g2, g3, g4, g5⟩ := td_neg k h1 h2
    rw [if_neg g4, if_pos g1, if_neg g4, g2, ck_in h2 (by decide), ck_in h2 (by decide), nv_nI (by omega), nI_clamp (by omega)]
theorem st_9_kp (v : Int32) (m : am_m) : am_kp [(9, 17), (42, 0)] [] 0 m (st_9 v m) := by
  unfold st_9
  by_cases h : v < 0
  · rw [if_pos h]; exact am_kp.si (am_kp.si am_kp.rf rfl) rfl
  · rw [if_neg h]; exact am_kp.si am_kp.rf rfl
theorem st_10_kp (v : Int32) (m : am_m) : am_kp [(10, 1), (43, 0)] [] 0 m (st_10 v m) := by
  unfold st_10
  by_cases h : v < 0
  · rw [if_pos h]; exact am_kp.si (am_kp.si am_kp.rf rfl) rfl
  · rw [if_neg h]; exact am_kp.si am_kp.rf rfl
/-- behind both the status and what was refused are told alike -/
theorem st_S {v : Int32} {m mA m1 : am_m} (h : iv_S m) (hA : am_kp WA WB E m mA) (hw : (am_hit WA 42 0 || am_hit WA 43 0) = false) (hB : am_kp WC WD E' (st_9 v mA) m1) (hw2 : (am_hit WC 9 17 || (am_hit WC 42 0 || am_hit WC 43 0)) = false) : iv_S (st_10 v m1) := by
  rw [Bool.or_eq_false_iff] at hw
  rw [Bool.or_eq_false_iff, Bool.or_eq_false_iff] at hw2
  have a42 : mA.1 42 = m.1 42 := hA.row 42 (by rw [hw.1]; rfl)
  have a43 : mA.1 43 = m.1 43 := hA.row 43 (by rw [hw.2]; rfl)
  have b42 : m1.1 42 = (st_9 v mA).1 42 := hB.row 42 (by rw [hw2.2.1]; rfl)
  have b43 : m1.1 43 = m.1 43 := by rw [hB.row 43 (by rw [hw2.2.2]; rfl), (st_9_kp v mA).row 43 rfl, a43]
  have b17 : m1.1 9 0 17 = (st_9 v mA).1 9 0 17 := hB.fld 9 0 17 hw2.1
  have e42 : (st_10 v m1).1 42 = m1.1 42 := (st_10_kp v m1).row 42 rfl
  have e17 : (st_10 v m1).1 9 0 17 = m1.1 9 0 17 := (st_10_kp v m1).fld 9 0 17 rfl
  unfold iv_S
  rw [e42, e17, b42, b17]
  unfold st_9 st_10
  by_cases hv : v < 0
  · rw [if_pos hv, if_pos hv]
    refine ⟨rfl, fun k h1 h2 => ?_⟩
    rw [rd_si (m := am_si mA 9 0 17 v), rd_si (m := am_si m1 10 0 1 v), b43, a42]
    by_cases e : k = nv (-v)
    · rw [if_pos ⟨rfl, rfl, e⟩, if_pos ⟨rfl, rfl, e⟩, ← e, h.2 k h1 h2]
    · rw [if_neg (fun q => e q.2.2), if_neg (fun q => e q.2.2)]
      show mA.1 42 0 k = m1.1 43 0 k
      rw [b43, a42, h.2 k h1 h2]
  · rw [if_neg hv, if_neg hv]
    refine ⟨rfl, fun k h1 h2 => ?_⟩
    show mA.1 42 0 k = m1.1 43 0 k
    rw [b43, a42, h.2 k h1 h2]
/-- a call that only looks -/
theorem Inv.look {WI WL : List (Nat × Nat)} {E : Nat} (h : Inv m) (k : am_kp WI WL E m m') (hw : (am_hit WI 9 17 || (am_hit WI 10 1 || (am_hit WI 42 0 || am_hit WI 43 0))) = false) (hs : (am_sub WI sc_I && (am_sub WL sc_L && Nat.ble E 1)) = true) : Inv m' := ⟨h.1.kp (k.mono hs), h.2.kp k hw⟩
/-- a call that is refused -/
theorem Inv.refuse {v : Int32} (h : Inv m) : Inv (st_10 v (am_si (st_9 v m) 10 0 0 0)) := by
  refine ⟨h.1.kp (am_kp.tr (am_kp.mono (st_9_kp v m) rfl) (am_kp.tr (am_kp.si am_kp.rf rfl) (am_kp.mono (st_10_kp v _) rfl))), st_S h.2 (WA := []) (WB := []) (E := 0) am_kp.rf rfl (WC := [(10, 0)]) (WD := []) (E' := 0) (am_kp.si am_kp.rf rfl) rfl⟩
theorem an_no (k : Nat) (h1 : 1 ≤ k) (h2 : k < 7) : an_ok (-(nI k)) := Or.inr ⟨k, h1, h2, rfl⟩
end TOLD
