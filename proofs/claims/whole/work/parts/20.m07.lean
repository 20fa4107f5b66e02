-- X10_giveBack
def lp_X10_giveBack_8 : Nat → Int32 → Int32 → am_m → Option (am_m)
  | 0, _, _, _ => none
  | n + 1, x1, x2, m =>
  (if (1728 : Int32) ≤ x2 then some m else am_ck x2 1728 (am_ck x2 1944 (lp_X10_giveBack_8 n x1 (x2 + 1) (am_si m 46 0 x2.toNatClampNeg (m.1 48 0 x2.toNatClampNeg)))))
set_option maxRecDepth 100000 in
theorem lt_X10_giveBack_8 (d : Nat) (hd : 2 ≤ d + 1) {r : Option am_V} {M' : am_M} {kc ks : Nat} {n : Nat} {x1 : Int32} {x2 : Int32} {m : am_m} {t : am_m} (h : lp_X10_giveBack_8 n x1 x2 m = some t) (hk : am_Go d 290 (33, [some (.inr (.inr (some (10, 0)))), some (.inl x1), none], [], am_mk t) r M' kc ks) : am_Go d 290 (8, [some (.inr (.inr (some (10, 0)))), some (.inl x1), some (.inl x2)], [], am_mk m) r M' kc ks := by
  have htb : am_tab 290 = at_290 := rfl
  induction n generalizing x2 m with
  | zero => cases h
  | succ n ih =>
    unfold lp_X10_giveBack_8 at h
    refine am_Go.n htb 2 (S' := (12, [some (.inr (.inr (some (10, 0)))), some (.inl x1), some (.inl x2)], [.inl 1728, .inl x2], am_mk m)) rfl ?_
    by_cases hc3 : (1728 : Int32) ≤ x2
    · rw [if_pos hc3] at h
      refine am_Go.c1 htb (S' := (33, [some (.inr (.inr (some (10, 0)))), some (.inl x1), some (.inl x2)], [], am_mk m)) (if_pos hc3) ?_
      cases h
      exact am_Go.fg (by exact ⟨rfl, ⟨rfl, trivial⟩⟩) hk
    · rw [if_neg hc3] at h
      refine am_Go.c1 htb (S' := (15, [some (.inr (.inr (some (10, 0)))), some (.inl x1), some (.inl x2)], [], am_mk m)) (if_neg hc3) ?_
      refine am_Go.n htb 6 (S' := (25, [some (.inr (.inr (some (10, 0)))), some (.inl x1), some (.inl x2)], [.inl x2, .inr (.inr (some (48, 0))), .inl x2, .inr (.inr (some (46, 0)))], am_mk m)) rfl ?_
      obtain ⟨hg4, h⟩ := am_ck_some h
      refine am_Go.c1 htb (S' := (26, [some (.inr (.inr (some (10, 0)))), some (.inl x1), some (.inl x2)], [.inl (m.1 48 0 x2.toNatClampNeg), .inl x2, .inr (.inr (some (46, 0)))], am_mk m)) (if_neg hg4) ?_
      obtain ⟨hg5, h⟩ := am_ck_some h
      refine am_Go.c1 htb (S' := (27, [some (.inr (.inr (some (10, 0)))), some (.inl x1), some (.inl x2)], [], am_mk (am_si m 46 0 x2.toNatClampNeg (m.1 48 0 x2.toNatClampNeg)))) (if_neg hg5) ?_
      refine am_Go.n htb 2 (S' := (8, [some (.inr (.inr (some (10, 0)))), some (.inl x1), some (.inl (x2 + 1))], [], am_mk (am_si m 46 0 x2.toNatClampNeg (m.1 48 0 x2.toNatClampNeg)))) rfl ?_
      first | exact ih h | exact ih h hk
def lp_X10_giveBack_35 : Nat → Int32 → Int32 → am_m → Option (am_m)
  | 0, _, _, _ => none
  | n + 1, x1, x2, m =>
  (if (16 : Int32) ≤ x2 then some m else am_ck x2 16 (am_ck x2 16 (lp_X10_giveBack_35 n x1 (x2 + 1) (am_si m 47 0 x2.toNatClampNeg (m.1 49 0 x2.toNatClampNeg)))))
set_option maxRecDepth 100000 in
theorem lt_X10_giveBack_35 (d : Nat) (hd : 2 ≤ d + 1) {r : Option am_V} {M' : am_M} {kc ks : Nat} {n : Nat} {x1 : Int32} {x2 : Int32} {m : am_m} {t : am_m} (h : lp_X10_giveBack_35 n x1 x2 m = some t) (hk : am_Go d 290 (59, [some (.inr (.inr (some (10, 0)))), some (.inl x1), none], [], am_mk t) r M' kc ks) : am_Go d 290 (35, [some (.inr (.inr (some (10, 0)))), some (.inl x1), some (.inl x2)], [], am_mk m) r M' kc ks := by
  have htb : am_tab 290 = at_290 := rfl
  induction n generalizing x2 m with
  | zero => cases h
  | succ n ih =>
    unfold lp_X10_giveBack_35 at h
    refine am_Go.n htb 2 (S' := (38, [some (.inr (.inr (some (10, 0)))), some (.inl x1), some (.inl x2)], [.inl 16, .inl x2], am_mk m)) rfl ?_
    by_cases hc8 : (16 : Int32) ≤ x2
    · rw [if_pos hc8] at h
      refine am_Go.c1 htb (S' := (59, [some (.inr (.inr (some (10, 0)))), some (.inl x1), some (.inl x2)], [], am_mk m)) (if_pos hc8) ?_
      cases h
      exact am_Go.fg (by exact ⟨rfl, ⟨rfl, trivial⟩⟩) hk
    · rw [if_neg hc8] at h
      refine am_Go.c1 htb (S' := (41, [some (.inr (.inr (some (10, 0)))), some (.inl x1), some (.inl x2)], [], am_mk m)) (if_neg hc8) ?_
      refine am_Go.n htb 6 (S' := (51, [some (.inr (.inr (some (10, 0)))), some (.inl x1), some (.inl x2)], [.inl x2, .inr (.inr (some (49, 0))), .inl x2, .inr (.inr (some (47, 0)))], am_mk m)) rfl ?_
      obtain ⟨hg9, h⟩ := am_ck_some h
      refine am_Go.c1 htb (S' := (52, [some (.inr (.inr (some (10, 0)))), some (.inl x1), some (.inl x2)], [.inl (m.1 49 0 x2.toNatClampNeg), .inl x2, .inr (.inr (some (47, 0)))], am_mk m)) (if_neg hg9) ?_
      obtain ⟨hg10, h⟩ := am_ck_some h
      refine am_Go.c1 htb (S' := (53, [some (.inr (.inr (some (10, 0)))), some (.inl x1), some (.inl x2)], [], am_mk (am_si m 47 0 x2.toNatClampNeg (m.1 49 0 x2.toNatClampNeg)))) (if_neg hg10) ?_
      refine am_Go.n htb 2 (S' := (35, [some (.inr (.inr (some (10, 0)))), some (.inl x1), some (.inl (x2 + 1))], [], am_mk (am_si m 47 0 x2.toNatClampNeg (m.1 49 0 x2.toNatClampNeg)))) rfl ?_
      first | exact ih h | exact ih h hk
def fn_X10_giveBack (a1 : Int32) (m : am_m) : Option (am_m) :=
  (fn_X10_putBack 17 m).bind fun r1 => (lp_X10_giveBack_8 1000000 a1 0 r1).bind fun q6 => (lp_X10_giveBack_35 1000000 a1 0 q6).bind fun q11 => some (am_si q11 10 0 8 a1)
set_option maxRecDepth 100000 in
theorem ex_X10_giveBack (d : Nat) (hd : 2 ≤ d) (a1 : Int32) (m : am_m) (t : am_m) (h : fn_X10_giveBack a1 m = some t) : am_Ex am_cod d 290 [.inr (.inr (some (10, 0))), .inl a1] (am_mk m) (none) (am_mk t) 0 0 := by
  obtain ⟨d, rfl⟩ : ∃ e, d = e + 1 := ⟨d - 1, by omega⟩
  have htb : am_tab 290 = at_290 := rfl
  refine ⟨Nat.le_of_ble_eq_true rfl, ?_⟩
  unfold fn_X10_giveBack at h
  show am_Go d 290 (0, [some (.inr (.inr (some (10, 0)))), some (.inl a1), none], [], am_mk m) _ _ 0 0
  refine am_Go.n htb 2 (S' := (3, [some (.inr (.inr (some (10, 0)))), some (.inl a1), none], [.inl 17, .inr (.inr (some (10, 0)))], am_mk m)) rfl ?_
  obtain ⟨r1, h2, h⟩ := am_bd h
  refine am_Go.cl htb rfl (ex_X10_putBack d (by omega) 17 m r1 h2) ?_
  show am_Go d 290 (6, [some (.inr (.inr (some (10, 0)))), some (.inl a1), none], [], am_mk r1) _ _ _ _
  refine am_Go.n htb 2 (S' := (8, [some (.inr (.inr (some (10, 0)))), some (.inl a1), some (.inl 0)], [], am_mk r1)) rfl ?_
  obtain ⟨q6, h7, h⟩ := am_bd h
  refine lt_X10_giveBack_8 _ hd (h := h7) (hk := ?_)
  refine am_Go.n htb 2 (S' := (35, [some (.inr (.inr (some (10, 0)))), some (.inl a1), some (.inl 0)], [], am_mk q6)) rfl ?_
  obtain ⟨q11, h12, h⟩ := am_bd h
  refine lt_X10_giveBack_35 _ hd (h := h12) (hk := ?_)
  refine am_Go.n htb 3 (S' := (64, [some (.inr (.inr (some (10, 0)))), some (.inl a1), none], [], am_mk (am_si q11 10 0 8 a1))) rfl ?_
  cases h
  exact am_Go.rt htb rfl
-- X10_orders
def lp_X10_orders_19 : Nat → am_m → Option (am_m)
  | 0, _ => none
  | n + 1, m =>
  (if (m.1 10 0 19) ≠ 0 then some m else (fn_X10_isSign 59 m).bind fun r6 => (if r6 = 0 then some m else (fn_X10_next  m).bind fun r9 => (fn_X10_readOrder  r9).bind fun r11 => lp_X10_orders_19 n  r11))
set_option maxRecDepth 100000 in
theorem lt_X10_orders_19 (d : Nat) (hd : 12 ≤ d + 1) {r : Option am_V} {M' : am_M} {kc ks : Nat} {n : Nat} {m : am_m} {t : am_m} (h : lp_X10_orders_19 n  m = some t) (hk : am_Go d 289 (46, [some (.inr (.inr (some (10, 0)))), none, none, none], [], am_mk t) r M' kc ks) : am_Go d 289 (19, [some (.inr (.inr (some (10, 0)))), none, none, none], [], am_mk m) r M' kc ks := by
  have htb : am_tab 289 = at_289 := rfl
  induction n generalizing m with
  | zero => cases h
  | succ n ih =>
    unfold lp_X10_orders_19 at h
    refine am_Go.n htb 2 (S' := (23, [some (.inr (.inr (some (10, 0)))), none, none, none], [.inl (m.1 10 0 19)], am_mk m)) rfl ?_
    by_cases hc5 : (m.1 10 0 19) ≠ 0
    · rw [if_pos hc5] at h
      refine am_Go.c1 htb (S' := (46, [some (.inr (.inr (some (10, 0)))), none, none, none], [], am_mk m)) (if_pos hc5) ?_
      cases h
      exact am_Go.fg (by exact ⟨rfl, trivial⟩) hk
    · rw [if_neg hc5] at h
      refine am_Go.c1 htb (S' := (26, [some (.inr (.inr (some (10, 0)))), none, none, none], [], am_mk m)) (if_neg hc5) ?_
      refine am_Go.n htb 2 (S' := (29, [some (.inr (.inr (some (10, 0)))), none, none, none], [.inl 59, .inr (.inr (some (10, 0)))], am_mk m)) rfl ?_
      obtain ⟨r6, h7, h⟩ := am_bd h
      refine am_Go.cl htb rfl (ex_X10_isSign d (by omega) 59 m r6 h7) ?_
      show am_Go d 289 (32, [some (.inr (.inr (some (10, 0)))), none, none, none], [.inl r6], am_mk m) _ _ _ _
      by_cases hc8 : r6 = 0
      · rw [if_pos hc8] at h
        refine am_Go.c1 htb (S' := (46, [some (.inr (.inr (some (10, 0)))), none, none, none], [], am_mk m)) (if_pos hc8) ?_
        cases h
        exact am_Go.fg (by exact ⟨rfl, trivial⟩) hk
      · rw [if_neg hc8] at h
        refine am_Go.c1 htb (S' := (35, [some (.inr (.inr (some (10, 0)))), none, none, none], [], am_mk m)) (if_neg hc8) ?_
        refine am_Go.n htb 1 (S' := (36, [some (.inr (.inr (some (10, 0)))), none, none, none], [.inr (.inr (some (10, 0)))], am_mk m)) rfl ?_
        obtain ⟨r9, h10, h⟩ := am_bd h
        refine am_Go.cl htb rfl (ex_X10_next d (by omega)  m r9 h10) ?_
        show am_Go d 289 (39, [some (.inr (.inr (some (10, 0)))), none, none, none], [], am_mk r9) _ _ _ _
        refine am_Go.n htb 1 (S' := (40, [some (.inr (.inr (some (10, 0)))), none, none, none], [.inr (.inr (some (10, 0)))], am_mk r9)) rfl ?_
        obtain ⟨r11, h12, h⟩ := am_bd h
        refine am_Go.cl htb rfl (ex_X10_readOrder d (by omega)  r9 r11 h12) ?_
        show am_Go d 289 (43, [some (.inr (.inr (some (10, 0)))), none, none, none], [], am_mk r11) _ _ _ _
        refine am_Go.n htb 1 (S' := (19, [some (.inr (.inr (some (10, 0)))), none, none, none], [], am_mk r11)) rfl ?_
        first | exact ih h | exact ih h hk
def lp_X10_orders_77 : Nat → Int32 → Int32 → am_m → Option (am_m)
  | 0, _, _, _ => none
  | n + 1, x1, x2, m =>
  (if (1728 : Int32) ≤ x2 then some m else am_ck x2 1944 (am_ck x2 1728 (lp_X10_orders_77 n x1 (x2 + 1) (am_si m 48 0 x2.toNatClampNeg (m.1 46 0 x2.toNatClampNeg)))))
set_option maxRecDepth 100000 in
theorem lt_X10_orders_77 (d : Nat) (hd : 12 ≤ d + 1) {r : Option am_V} {M' : am_M} {kc ks : Nat} {n : Nat} {x1 : Int32} {x2 : Int32} {m : am_m} {t : am_m} (h : lp_X10_orders_77 n x1 x2 m = some t) (hk : am_Go d 289 (102, [some (.inr (.inr (some (10, 0)))), some (.inl x1), none, none], [], am_mk t) r M' kc ks) : am_Go d 289 (77, [some (.inr (.inr (some (10, 0)))), some (.inl x1), some (.inl x2), none], [], am_mk m) r M' kc ks := by
  have htb : am_tab 289 = at_289 := rfl
  induction n generalizing x2 m with
  | zero => cases h
  | succ n ih =>
    unfold lp_X10_orders_77 at h
    refine am_Go.n htb 2 (S' := (81, [some (.inr (.inr (some (10, 0)))), some (.inl x1), some (.inl x2), none], [.inl 1728, .inl x2], am_mk m)) rfl ?_
    by_cases hc20 : (1728 : Int32) ≤ x2
    · rw [if_pos hc20] at h
      refine am_Go.c1 htb (S' := (102, [some (.inr (.inr (some (10, 0)))), some (.inl x1), some (.inl x2), none], [], am_mk m)) (if_pos hc20) ?_
      cases h
      exact am_Go.fg (by exact ⟨rfl, ⟨rfl, trivial⟩⟩) hk
    · rw [if_neg hc20] at h
      refine am_Go.c1 htb (S' := (84, [some (.inr (.inr (some (10, 0)))), some (.inl x1), some (.inl x2), none], [], am_mk m)) (if_neg hc20) ?_
      refine am_Go.n htb 6 (S' := (94, [some (.inr (.inr (some (10, 0)))), some (.inl x1), some (.inl x2), none], [.inl x2, .inr (.inr (some (46, 0))), .inl x2, .inr (.inr (some (48, 0)))], am_mk m)) rfl ?_
      obtain ⟨hg21, h⟩ := am_ck_some h
      refine am_Go.c1 htb (S' := (95, [some (.inr (.inr (some (10, 0)))), some (.inl x1), some (.inl x2), none], [.inl (m.1 46 0 x2.toNatClampNeg), .inl x2, .inr (.inr (some (48, 0)))], am_mk m)) (if_neg hg21) ?_
      obtain ⟨hg22, h⟩ := am_ck_some h
      refine am_Go.c1 htb (S' := (96, [some (.inr (.inr (some (10, 0)))), some (.inl x1), some (.inl x2), none], [], am_mk (am_si m 48 0 x2.toNatClampNeg (m.1 46 0 x2.toNatClampNeg)))) (if_neg hg22) ?_
      refine am_Go.n htb 2 (S' := (77, [some (.inr (.inr (some (10, 0)))), some (.inl x1), some (.inl (x2 + 1)), none], [], am_mk (am_si m 48 0 x2.toNatClampNeg (m.1 46 0 x2.toNatClampNeg)))) rfl ?_
      first | exact ih h | exact ih h hk
def lp_X10_orders_104 : Nat → Int32 → Int32 → am_m → Option (am_m)
  | 0, _, _, _ => none
  | n + 1, x1, x2, m =>
  (if (16 : Int32) ≤ x2 then some m else am_ck x2 16 (am_ck x2 16 (lp_X10_orders_104 n x1 (x2 + 1) (am_si m 49 0 x2.toNatClampNeg (m.1 47 0 x2.toNatClampNeg)))))
set_option maxRecDepth 100000 in
theorem lt_X10_orders_104 (d : Nat) (hd : 12 ≤ d + 1) {r : Option am_V} {M' : am_M} {kc ks : Nat} {n : Nat} {x1 : Int32} {x2 : Int32} {m : am_m} {t : am_m} (h : lp_X10_orders_104 n x1 x2 m = some t) (hk : am_Go d 289 (128, [some (.inr (.inr (some (10, 0)))), some (.inl x1), none, none], [], am_mk t) r M' kc ks) : am_Go d 289 (104, [some (.inr (.inr (some (10, 0)))), some (.inl x1), some (.inl x2), none], [], am_mk m) r M' kc ks := by
  have htb : am_tab 289 = at_289 := rfl
  induction n generalizing x2 m with
  | zero => cases h
  | succ n ih =>
    unfold lp_X10_orders_104 at h
    refine am_Go.n htb 2 (S' := (107, [some (.inr (.inr (some (10, 0)))), some (.inl x1), some (.inl x2), none], [.inl 16, .inl x2], am_mk m)) rfl ?_
    by_cases hc25 : (16 : Int32) ≤ x2
    · rw [if_pos hc25] at h
      refine am_Go.c1 htb (S' := (128, [some (.inr (.inr (some (10, 0)))), some (.inl x1), some (.inl x2), none], [], am_mk m)) (if_pos hc25) ?_
      cases h
      exact am_Go.fg (by exact ⟨rfl, ⟨rfl, trivial⟩⟩) hk
    · rw [if_neg hc25] at h
      refine am_Go.c1 htb (S' := (110, [some (.inr (.inr (some (10, 0)))), some (.inl x1), some (.inl x2), none], [], am_mk m)) (if_neg hc25) ?_
      refine am_Go.n htb 6 (S' := (120, [some (.inr (.inr (some (10, 0)))), some (.inl x1), some (.inl x2), none], [.inl x2, .inr (.inr (some (47, 0))), .inl x2, .inr (.inr (some (49, 0)))], am_mk m)) rfl ?_
      obtain ⟨hg26, h⟩ := am_ck_some h
      refine am_Go.c1 htb (S' := (121, [some (.inr (.inr (some (10, 0)))), some (.inl x1), some (.inl x2), none], [.inl (m.1 47 0 x2.toNatClampNeg), .inl x2, .inr (.inr (some (49, 0)))], am_mk m)) (if_neg hg26) ?_
      obtain ⟨hg27, h⟩ := am_ck_some h
      refine am_Go.c1 htb (S' := (122, [some (.inr (.inr (some (10, 0)))), some (.inl x1), some (.inl x2), none], [], am_mk (am_si m 49 0 x2.toNatClampNeg (m.1 47 0 x2.toNatClampNeg)))) (if_neg hg27) ?_
      refine am_Go.n htb 2 (S' := (104, [some (.inr (.inr (some (10, 0)))), some (.inl x1), some (.inl (x2 + 1)), none], [], am_mk (am_si m 49 0 x2.toNatClampNeg (m.1 47 0 x2.toNatClampNeg)))) rfl ?_
      first | exact ih h | exact ih h hk
def lp_X10_orders_150 : Nat → Int32 → Int32 → Int32 → am_m → Option (Sum (am_m) (Int32 × am_m))
  | 0, _, _, _, _ => none
  | n + 1, x1, x2, x3, m =>
  am_ck (((10 : Int32) * x2) + (9 : Int32)) 120 ((if (m.1 61 0 (((10 : Int32) * x2) + (9 : Int32)).toNatClampNeg) ≤ x3 then some (.inl m) else (fn_X10_run ((10 : Int32) * x2) m).bind fun r33 => (if 0 ≤ r33.1 then lp_X10_orders_150 n x1 x2 (x3 + 1) r33.2 else (fn_X10_giveBack x1 r33.2).bind fun r36 => (fn_X10_tell (-3) (am_si r36 10 0 57 x2)).bind fun r38 => some (.inr (r38.1, r38.2)))))
set_option maxRecDepth 100000 in
theorem lt_X10_orders_150 (d : Nat) (hd : 12 ≤ d + 1) {r : Option am_V} {M' : am_M} {kc ks : Nat} {n : Nat} {x1 : Int32} {x2 : Int32} {x3 : Int32} {m : am_m} {t : Sum (am_m) (Int32 × am_m)} (h : lp_X10_orders_150 n x1 x2 x3 m = some t) (hk : ∀ t', t = .inl t' → am_Go d 289 (200, [some (.inr (.inr (some (10, 0)))), some (.inl x1), some (.inl x2), none], [], am_mk t') r M' kc ks) (hr : ∀ t', t = .inr t' → r = some (.inl t'.1) ∧ M' = am_mk t'.2 ∧ kc = 0 ∧ ks = 0) : am_Go d 289 (150, [some (.inr (.inr (some (10, 0)))), some (.inl x1), some (.inl x2), some (.inl x3)], [], am_mk m) r M' kc ks := by
  have htb : am_tab 289 = at_289 := rfl
  induction n generalizing x3 m with
  | zero => cases h
  | succ n ih =>
    unfold lp_X10_orders_150 at h
    refine am_Go.n htb 8 (S' := (162, [some (.inr (.inr (some (10, 0)))), some (.inl x1), some (.inl x2), some (.inl x3)], [.inl (((10 : Int32) * x2) + (9 : Int32)), .inr (.inr (some (61, 0))), .inl x3], am_mk m)) rfl ?_
    obtain ⟨hg31, h⟩ := am_ck_some h
    refine am_Go.c1 htb (S' := (163, [some (.inr (.inr (some (10, 0)))), some (.inl x1), some (.inl x2), some (.inl x3)], [.inl (m.1 61 0 (((10 : Int32) * x2) + (9 : Int32)).toNatClampNeg), .inl x3], am_mk m)) (if_neg hg31) ?_
    by_cases hc32 : (m.1 61 0 (((10 : Int32) * x2) + (9 : Int32)).toNatClampNeg) ≤ x3
    · rw [if_pos hc32] at h
      refine am_Go.c1 htb (S' := (200, [some (.inr (.inr (some (10, 0)))), some (.inl x1), some (.inl x2), some (.inl x3)], [], am_mk m)) (if_pos hc32) ?_
      cases h
      exact am_Go.fg (by exact ⟨rfl, ⟨rfl, ⟨rfl, trivial⟩⟩⟩) (hk _ rfl)
    · rw [if_neg hc32] at h
      refine am_Go.c1 htb (S' := (166, [some (.inr (.inr (some (10, 0)))), some (.inl x1), some (.inl x2), some (.inl x3)], [], am_mk m)) (if_neg hc32) ?_
      refine am_Go.n htb 4 (S' := (171, [some (.inr (.inr (some (10, 0)))), some (.inl x1), some (.inl x2), some (.inl x3)], [.inl ((10 : Int32) * x2), .inr (.inr (some (10, 0)))], am_mk m)) rfl ?_
      obtain ⟨r33, h34, h⟩ := am_bd h
      refine am_Go.cl htb rfl (ex_X10_run d (by omega) ((10 : Int32) * x2) m r33 h34) ?_
      show am_Go d 289 (174, [some (.inr (.inr (some (10, 0)))), some (.inl x1), some (.inl x2), some (.inl x3)], [.inl r33.1], am_mk r33.2) _ _ _ _
      by_cases hc35 : 0 ≤ r33.1
      · rw [if_pos hc35] at h
        refine am_Go.c1 htb (S' := (194, [some (.inr (.inr (some (10, 0)))), some (.inl x1), some (.inl x2), some (.inl x3)], [], am_mk r33.2)) (if_pos hc35) ?_
        refine am_Go.n htb 2 (S' := (150, [some (.inr (.inr (some (10, 0)))), some (.inl x1), some (.inl x2), some (.inl (x3 + 1))], [], am_mk r33.2)) rfl ?_
        first | exact ih h | exact ih h hk | exact ih h hr | exact ih h hk hr
      · rw [if_neg hc35] at h
        refine am_Go.c1 htb (S' := (177, [some (.inr (.inr (some (10, 0)))), some (.inl x1), some (.inl x2), some (.inl x3)], [], am_mk r33.2)) (if_neg hc35) ?_
        refine am_Go.n htb 2 (S' := (179, [some (.inr (.inr (some (10, 0)))), some (.inl x1), some (.inl x2), some (.inl x3)], [.inl x1, .inr (.inr (some (10, 0)))], am_mk r33.2)) rfl ?_
        obtain ⟨r36, h37, h⟩ := am_bd h
        refine am_Go.cl htb rfl (ex_X10_giveBack d (by omega) x1 r33.2 r36 h37) ?_
        show am_Go d 289 (182, [some (.inr (.inr (some (10, 0)))), some (.inl x1), some (.inl x2), some (.inl x3)], [], am_mk r36) _ _ _ _
        refine am_Go.n htb 5 (S' := (190, [some (.inr (.inr (some (10, 0)))), some (.inl x1), some (.inl x2), some (.inl x3)], [.inl (-3), .inr (.inr (some (10, 0)))], am_mk (am_si r36 10 0 57 x2))) rfl ?_
        obtain ⟨r38, h39, h⟩ := am_bd h
        refine am_Go.cl htb rfl (ex_X10_tell d (by omega) (-3) (am_si r36 10 0 57 x2) r38 h39) ?_
        show am_Go d 289 (193, [some (.inr (.inr (some (10, 0)))), some (.inl x1), some (.inl x2), some (.inl x3)], [.inl r38.1], am_mk r38.2) _ _ _ _
        cases h
        obtain ⟨rfl, rfl, rfl, rfl⟩ := hr _ rfl
        exact am_Go.rt htb rfl
def lp_X10_orders_140 : Nat → Int32 → Int32 → am_m → Option (Sum (am_m) (Int32 × am_m))
  | 0, _, _, _ => none
  | n + 1, x1, x2, m =>
  (if (m.1 10 0 21) ≤ x2 then some (.inl m) else (lp_X10_orders_150 1000000 x1 x2 0 m).bind fun w43 => (match w43 with
    | .inl q40 => lp_X10_orders_140 n x1 (x2 + 1) q40
    | .inr rr42 => some (.inr rr42)))
set_option maxRecDepth 100000 in
theorem lt_X10_orders_140 (d : Nat) (hd : 12 ≤ d + 1) {r : Option am_V} {M' : am_M} {kc ks : Nat} {n : Nat} {x1 : Int32} {x2 : Int32} {m : am_m} {t : Sum (am_m) (Int32 × am_m)} (h : lp_X10_orders_140 n x1 x2 m = some t) (hk : ∀ t', t = .inl t' → am_Go d 289 (206, [some (.inr (.inr (some (10, 0)))), some (.inl x1), none, none], [], am_mk t') r M' kc ks) (hr : ∀ t', t = .inr t' → r = some (.inl t'.1) ∧ M' = am_mk t'.2 ∧ kc = 0 ∧ ks = 0) : am_Go d 289 (140, [some (.inr (.inr (some (10, 0)))), some (.inl x1), some (.inl x2), none], [], am_mk m) r M' kc ks := by
  have htb : am_tab 289 = at_289 := rfl
  induction n generalizing x2 m with
  | zero => cases h
  | succ n ih =>
    unfold lp_X10_orders_140 at h
    refine am_Go.n htb 3 (S' := (145, [some (.inr (.inr (some (10, 0)))), some (.inl x1), some (.inl x2), none], [.inl (m.1 10 0 21), .inl x2], am_mk m)) rfl ?_
    by_cases hc30 : (m.1 10 0 21) ≤ x2
    · rw [if_pos hc30] at h
      refine am_Go.c1 htb (S' := (206, [some (.inr (.inr (some (10, 0)))), some (.inl x1), some (.inl x2), none], [], am_mk m)) (if_pos hc30) ?_
      cases h
      exact am_Go.fg (by exact ⟨rfl, ⟨rfl, trivial⟩⟩) (hk _ rfl)
    · rw [if_neg hc30] at h
      refine am_Go.c1 htb (S' := (148, [some (.inr (.inr (some (10, 0)))), some (.inl x1), some (.inl x2), none], [], am_mk m)) (if_neg hc30) ?_
      refine am_Go.n htb 2 (S' := (150, [some (.inr (.inr (some (10, 0)))), some (.inl x1), some (.inl x2), some (.inl 0)], [], am_mk m)) rfl ?_
      obtain ⟨w43, h41, h⟩ := am_bd h
      refine lt_X10_orders_150 _ hd (h := h41) (hk := ?_) (hr := ?_)
      · intro q40 he
        subst he
        dsimp only at h
        refine am_Go.n htb 2 (S' := (140, [some (.inr (.inr (some (10, 0)))), some (.inl x1), some (.inl (x2 + 1)), none], [], am_mk q40)) rfl ?_
        first | exact ih h | exact ih h hk | exact ih h hr | exact ih h hk hr
      · intro rr42 he
        subst he
        cases h
        exact hr _ rfl
def fn_X10_orders  (m : am_m) : Option (Int32 × am_m) :=
  (fn_X10_beginText 1 (am_si (am_si m 10 0 0 0) 10 0 57 (-1))).bind fun r1 => (fn_X10_readOrder  r1).bind fun r3 => (lp_X10_orders_19 1000000  r3).bind fun q13 => (fn_X10_endText  q13).bind fun r15 => (if (r15.1 10 0 19) = 0 then (fn_X10_keepAll 17 r15).bind fun r18 => (lp_X10_orders_77 1000000 (r18.1 10 0 8) 0 r18).bind fun q23 => (lp_X10_orders_104 1000000 (r18.1 10 0 8) 0 q23).bind fun q28 => (lp_X10_orders_140 1000000 (r18.1 10 0 8) 0 (am_si (am_si q28 10 0 55 0) 10 0 56 (-1))).bind fun w49 => (match w49 with
    | .inl q44 => (fn_X10_tell (q44.1 10 0 55) q44).bind fun r46 => some (r46.1, r46.2)
    | .inr rr48 => some rr48) else (fn_X10_tell (-6) r15).bind fun r50 => some (r50.1, r50.2))
set_option maxRecDepth 100000 in
theorem ex_X10_orders (d : Nat) (hd : 12 ≤ d)  (m : am_m) (t : Int32 × am_m) (h : fn_X10_orders  m = some t) : am_Ex am_cod d 289 [.inr (.inr (some (10, 0)))] (am_mk m) (some (.inl t.1)) (am_mk t.2) 0 0 := by
  obtain ⟨d, rfl⟩ : ∃ e, d = e + 1 := ⟨d - 1, by omega⟩
  have htb : am_tab 289 = at_289 := rfl
  refine ⟨Nat.le_of_ble_eq_true rfl, ?_⟩
  unfold fn_X10_orders at h
  show am_Go d 289 (0, [some (.inr (.inr (some (10, 0)))), none, none, none], [], am_mk m) _ _ 0 0
  refine am_Go.n htb 8 (S' := (12, [some (.inr (.inr (some (10, 0)))), none, none, none], [.inl 1, .inr (.inr (some (10, 0)))], am_mk (am_si (am_si m 10 0 0 0) 10 0 57 (-1)))) rfl ?_
  obtain ⟨r1, h2, h⟩ := am_bd h
  refine am_Go.cl htb rfl (ex_X10_beginText d (by omega) 1 (am_si (am_si m 10 0 0 0) 10 0 57 (-1)) r1 h2) ?_
  show am_Go d 289 (15, [some (.inr (.inr (some (10, 0)))), none, none, none], [], am_mk r1) _ _ _ _
  refine am_Go.n htb 1 (S' := (16, [some (.inr (.inr (some (10, 0)))), none, none, none], [.inr (.inr (some (10, 0)))], am_mk r1)) rfl ?_
  obtain ⟨r3, h4, h⟩ := am_bd h
  refine am_Go.cl htb rfl (ex_X10_readOrder d (by omega)  r1 r3 h4) ?_
  show am_Go d 289 (19, [some (.inr (.inr (some (10, 0)))), none, none, none], [], am_mk r3) _ _ _ _
  obtain ⟨q13, h14, h⟩ := am_bd h
  refine lt_X10_orders_19 _ hd (h := h14) (hk := ?_)
  refine am_Go.n htb 1 (S' := (47, [some (.inr (.inr (some (10, 0)))), none, none, none], [.inr (.inr (some (10, 0)))], am_mk q13)) rfl ?_
  obtain ⟨r15, h16, h⟩ := am_bd h
  refine am_Go.cl htb rfl (ex_X10_endText d (by omega)  q13 r15 h16) ?_
  show am_Go d 289 (50, [some (.inr (.inr (some (10, 0)))), none, none, none], [], am_mk r15) _ _ _ _
  refine am_Go.n htb 2 (S' := (54, [some (.inr (.inr (some (10, 0)))), none, none, none], [.inl (r15.1 10 0 19)], am_mk r15)) rfl ?_
  by_cases hc17 : (r15.1 10 0 19) = 0
  · rw [if_pos hc17] at h
    refine am_Go.c1 htb (S' := (64, [some (.inr (.inr (some (10, 0)))), none, none, none], [], am_mk r15)) (if_pos hc17) ?_
    refine am_Go.n htb 2 (S' := (67, [some (.inr (.inr (some (10, 0)))), none, none, none], [.inl 17, .inr (.inr (some (10, 0)))], am_mk r15)) rfl ?_
    obtain ⟨r18, h19, h⟩ := am_bd h
    refine am_Go.cl htb rfl (ex_X10_keepAll d (by omega) 17 r15 r18 h19) ?_
    show am_Go d 289 (70, [some (.inr (.inr (some (10, 0)))), none, none, none], [], am_mk r18) _ _ _ _
    refine am_Go.n htb 5 (S' := (77, [some (.inr (.inr (some (10, 0)))), some (.inl (r18.1 10 0 8)), some (.inl 0), none], [], am_mk r18)) rfl ?_
    obtain ⟨q23, h24, h⟩ := am_bd h
    refine lt_X10_orders_77 _ hd (h := h24) (hk := ?_)
    refine am_Go.n htb 2 (S' := (104, [some (.inr (.inr (some (10, 0)))), some (.inl (r18.1 10 0 8)), some (.inl 0), none], [], am_mk q23)) rfl ?_
    obtain ⟨q28, h29, h⟩ := am_bd h
    refine lt_X10_orders_104 _ hd (h := h29) (hk := ?_)
    refine am_Go.n htb 8 (S' := (140, [some (.inr (.inr (some (10, 0)))), some (.inl (r18.1 10 0 8)), some (.inl 0), none], [], am_mk (am_si (am_si q28 10 0 55 0) 10 0 56 (-1)))) rfl ?_
    obtain ⟨w49, h45, h⟩ := am_bd h
    refine lt_X10_orders_140 _ hd (h := h45) (hk := ?_) (hr := ?_)
    · intro q44 he
      subst he
      dsimp only at h
      refine am_Go.n htb 3 (S' := (211, [some (.inr (.inr (some (10, 0)))), some (.inl (r18.1 10 0 8)), none, none], [.inl (q44.1 10 0 55), .inr (.inr (some (10, 0)))], am_mk q44)) rfl ?_
      obtain ⟨r46, h47, h⟩ := am_bd h
      refine am_Go.cl htb rfl (ex_X10_tell d (by omega) (q44.1 10 0 55) q44 r46 h47) ?_
      show am_Go d 289 (214, [some (.inr (.inr (some (10, 0)))), some (.inl (r18.1 10 0 8)), none, none], [.inl r46.1], am_mk r46.2) _ _ _ _
      cases h
      exact am_Go.rt htb rfl
    · intro rr48 he
      subst he
      cases h
      exact ⟨rfl, rfl, rfl, rfl⟩
  · rw [if_neg hc17] at h
    refine am_Go.c1 htb (S' := (57, [some (.inr (.inr (some (10, 0)))), none, none, none], [], am_mk r15)) (if_neg hc17) ?_
    refine am_Go.n htb 2 (S' := (60, [some (.inr (.inr (some (10, 0)))), none, none, none], [.inl (-6), .inr (.inr (some (10, 0)))], am_mk r15)) rfl ?_
    obtain ⟨r50, h51, h⟩ := am_bd h
    refine am_Go.cl htb rfl (ex_X10_tell d (by omega) (-6) r15 r50 h51) ?_
    show am_Go d 289 (63, [some (.inr (.inr (some (10, 0)))), none, none, none], [.inl r50.1], am_mk r50.2) _ _ _ _
    cases h
    exact am_Go.rt htb rfl
-- X10_stopped
def fn_X10_stopped  (m : am_m) : Option (Int32 × am_m) :=
  some (((am_si m 10 0 0 0).1 10 0 57), am_si m 10 0 0 0)
set_option maxRecDepth 100000 in
theorem ex_X10_stopped (d : Nat) (hd : 1 ≤ d)  (m : am_m) (t : Int32 × am_m) (h : fn_X10_stopped  m = some t) : am_Ex am_cod d 291 [.inr (.inr (some (10, 0)))] (am_mk m) (some (.inl t.1)) (am_mk t.2) 0 0 := by
  obtain ⟨d, rfl⟩ : ∃ e, d = e + 1 := ⟨d - 1, by omega⟩
  have htb : am_tab 291 = at_291 := rfl
  refine ⟨Nat.le_of_ble_eq_true rfl, ?_⟩
  unfold fn_X10_stopped at h
  show am_Go d 291 (0, [some (.inr (.inr (some (10, 0))))], [], am_mk m) _ _ 0 0
  refine am_Go.n htb 5 (S' := (9, [some (.inr (.inr (some (10, 0))))], [.inl ((am_si m 10 0 0 0).1 10 0 57)], am_mk (am_si m 10 0 0 0))) rfl ?_
  cases h
  exact am_Go.rt htb rfl
-- X10_draw
def fn_X10_draw (a1 : Int32) (m : am_m) : Option (Int32 × am_m) :=
  am_gd (¬ (1000003 : Int64) = 0) (am_gd (¬ a1.toInt64 = 0) (some ((((am_sg m 10 0 59 ((((m.2.1 10 0 59) * (1103 : Int64)) + (12345 : Int64)) - (((m.2.1 10 0 59) * (1103 : Int64)) + (12345 : Int64)) / (1000003 : Int64) * (1000003 : Int64))).2.1 10 0 59) - ((am_sg m 10 0 59 ((((m.2.1 10 0 59) * (1103 : Int64)) + (12345 : Int64)) - (((m.2.1 10 0 59) * (1103 : Int64)) + (12345 : Int64)) / (1000003 : Int64) * (1000003 : Int64))).2.1 10 0 59) / a1.toInt64 * a1.toInt64).toInt32, am_sg m 10 0 59 ((((m.2.1 10 0 59) * (1103 : Int64)) + (12345 : Int64)) - (((m.2.1 10 0 59) * (1103 : Int64)) + (12345 : Int64)) / (1000003 : Int64) * (1000003 : Int64)))))
set_option maxRecDepth 100000 in
theorem ex_X10_draw (d : Nat) (hd : 1 ≤ d) (a1 : Int32) (m : am_m) (t : Int32 × am_m) (h : fn_X10_draw a1 m = some t) : am_Ex am_cod d 292 [.inr (.inr (some (10, 0))), .inl a1] (am_mk m) (some (.inl t.1)) (am_mk t.2) 0 0 := by
  obtain ⟨d, rfl⟩ : ∃ e, d = e + 1 := ⟨d - 1, by omega⟩
  have htb : am_tab 292 = at_292 := rfl
  refine ⟨Nat.le_of_ble_eq_true rfl, ?_⟩
  unfold fn_X10_draw at h
  show am_Go d 292 (0, [some (.inr (.inr (some (10, 0)))), some (.inl a1)], [], am_mk m) _ _ 0 0
  refine am_Go.n htb 8 (S' := (16, [some (.inr (.inr (some (10, 0)))), some (.inl a1)], [.inr (.inl 1000003), .inr (.inl (((m.2.1 10 0 59) * (1103 : Int64)) + (12345 : Int64))), .inr (.inr (some (10, 0)))], am_mk m)) rfl ?_
  obtain ⟨hz1, h⟩ := am_gd_some h
  refine am_Go.c1 htb (S' := (17, [some (.inr (.inr (some (10, 0)))), some (.inl a1)], [.inr (.inl ((((m.2.1 10 0 59) * (1103 : Int64)) + (12345 : Int64)) - (((m.2.1 10 0 59) * (1103 : Int64)) + (12345 : Int64)) / (1000003 : Int64) * (1000003 : Int64))), .inr (.inr (some (10, 0)))], am_mk m)) (if_neg hz1) ?_
  refine am_Go.n htb 5 (S' := (26, [some (.inr (.inr (some (10, 0)))), some (.inl a1)], [.inr (.inl a1.toInt64), .inr (.inl ((am_sg m 10 0 59 ((((m.2.1 10 0 59) * (1103 : Int64)) + (12345 : Int64)) - (((m.2.1 10 0 59) * (1103 : Int64)) + (12345 : Int64)) / (1000003 : Int64) * (1000003 : Int64))).2.1 10 0 59))], am_mk (am_sg m 10 0 59 ((((m.2.1 10 0 59) * (1103 : Int64)) + (12345 : Int64)) - (((m.2.1 10 0 59) * (1103 : Int64)) + (12345 : Int64)) / (1000003 : Int64) * (1000003 : Int64))))) rfl ?_
  obtain ⟨hz2, h⟩ := am_gd_some h
  refine am_Go.c1 htb (S' := (27, [some (.inr (.inr (some (10, 0)))), some (.inl a1)], [.inr (.inl (((am_sg m 10 0 59 ((((m.2.1 10 0 59) * (1103 : Int64)) + (12345 : Int64)) - (((m.2.1 10 0 59) * (1103 : Int64)) + (12345 : Int64)) / (1000003 : Int64) * (1000003 : Int64))).2.1 10 0 59) - ((am_sg m 10 0 59 ((((m.2.1 10 0 59) * (1103 : Int64)) + (12345 : Int64)) - (((m.2.1 10 0 59) * (1103 : Int64)) + (12345 : Int64)) / (1000003 : Int64) * (1000003 : Int64))).2.1 10 0 59) / a1.toInt64 * a1.toInt64))], am_mk (am_sg m 10 0 59 ((((m.2.1 10 0 59) * (1103 : Int64)) + (12345 : Int64)) - (((m.2.1 10 0 59) * (1103 : Int64)) + (12345 : Int64)) / (1000003 : Int64) * (1000003 : Int64))))) (if_neg hz2) ?_
  refine am_Go.n htb 1 (S' := (28, [some (.inr (.inr (some (10, 0)))), some (.inl a1)], [.inl ((((am_sg m 10 0 59 ((((m.2.1 10 0 59) * (1103 : Int64)) + (12345 : Int64)) - (((m.2.1 10 0 59) * (1103 : Int64)) + (12345 : Int64)) / (1000003 : Int64) * (1000003 : Int64))).2.1 10 0 59) - ((am_sg m 10 0 59 ((((m.2.1 10 0 59) * (1103 : Int64)) + (12345 : Int64)) - (((m.2.1 10 0 59) * (1103 : Int64)) + (12345 : Int64)) / (1000003 : Int64) * (1000003 : Int64))).2.1 10 0 59) / a1.toInt64 * a1.toInt64).toInt32)], am_mk (am_sg m 10 0 59 ((((m.2.1 10 0 59) * (1103 : Int64)) + (12345 : Int64)) - (((m.2.1 10 0 59) * (1103 : Int64)) + (12345 : Int64)) / (1000003 : Int64) * (1000003 : Int64))))) rfl ?_
  cases h
  exact am_Go.rt htb rfl
-- X10_seasons
def lp_X10_seasons_65 : Nat → Int32 → Int32 → am_m → Option (am_m)
  | 0, _, _, _ => none
  | n + 1, x2, x3, m =>
  (if x2 ≤ x3 then some m else (if (999 : Int32) ≤ (m.1 44 0 4) then some m else (fn_X10_draw (m.1 44 0 0) m).bind fun r14 => (fn_X10_draw (r14.2.1 44 0 0) r14.2).bind fun r16 => (fn_X10_draw 9 r16.2).bind fun r18 => (fn_X10_draw 4 r18.2).bind fun r20 => (if r14.1 = r16.1 then some r20.2 else (if (2 : Int32) ≤ r20.1 then some r20.2 else (fn_X10_weightOf r14.1 r16.1 r20.2).bind fun r24 => (if r24 = (r18.1 + (1 : Int32)) then some r20.2 else (fn_X10_setHarm r14.1 r16.1 (r18.1 + (1 : Int32)) r20.2).bind fun r27 => some r27)).bind fun q29 => (if r20.1 ≠ (2 : Int32) then some q29 else (fn_X10_maySit r14.1 r16.1 q29).bind fun r31 => (if r31.1 = 0 then some r31.2 else (fn_X10_feastIt (((1 : Int32) <<< (r14.1 &&& 31)) ||| ((1 : Int32) <<< (r16.1 &&& 31))) r31.2).bind fun r34 => some r34)).bind fun q36 => (if r20.1 ≠ (3 : Int32) then some q36 else am_ck (((14 : Int32) + ((7 : Int32) * r14.1)) + r16.1) 5518 (some (am_si q36 44 0 (((14 : Int32) + ((7 : Int32) * r14.1)) + r16.1).toNatClampNeg 0)))).bind fun q41 => (fn_X10_passIt  q41).bind fun r42 => lp_X10_seasons_65 n x2 (x3 + 1) r42))
set_option maxRecDepth 100000 in
theorem lt_X10_seasons_65 (d : Nat) (hd : 8 ≤ d + 1) {r : Option am_V} {M' : am_M} {kc ks : Nat} {n : Nat} {x2 : Int32} {x3 : Int32} {m : am_m} {t : am_m} (h : lp_X10_seasons_65 n x2 x3 m = some t) (hk : am_Go d 293 (222, [some (.inr (.inr (some (10, 0)))), none, some (.inl x2), none, none, none, none, none], [], am_mk t) r M' kc ks) : am_Go d 293 (65, [some (.inr (.inr (some (10, 0)))), none, some (.inl x2), some (.inl x3), none, none, none, none], [], am_mk m) r M' kc ks := by
  have htb : am_tab 293 = at_293 := rfl
  induction n generalizing x3 m with
  | zero => cases h
  | succ n ih =>
    unfold lp_X10_seasons_65 at h
    refine am_Go.n htb 2 (S' := (67, [some (.inr (.inr (some (10, 0)))), none, some (.inl x2), some (.inl x3), none, none, none, none], [.inl x2, .inl x3], am_mk m)) rfl ?_
    by_cases hc12 : x2 ≤ x3
    · rw [if_pos hc12] at h
      refine am_Go.c1 htb (S' := (222, [some (.inr (.inr (some (10, 0)))), none, some (.inl x2), some (.inl x3), none, none, none, none], [], am_mk m)) (if_pos hc12) ?_
      cases h
      exact am_Go.fg (by exact ⟨rfl, ⟨rfl, trivial⟩⟩) hk
    · rw [if_neg hc12] at h
      refine am_Go.c1 htb (S' := (70, [some (.inr (.inr (some (10, 0)))), none, some (.inl x2), some (.inl x3), none, none, none, none], [], am_mk m)) (if_neg hc12) ?_
      refine am_Go.n htb 5 (S' := (79, [some (.inr (.inr (some (10, 0)))), none, some (.inl x2), some (.inl x3), none, none, none, none], [.inl 999, .inl (m.1 44 0 4)], am_mk m)) rfl ?_
      by_cases hc13 : (999 : Int32) ≤ (m.1 44 0 4)
      · rw [if_pos hc13] at h
        refine am_Go.c1 htb (S' := (222, [some (.inr (.inr (some (10, 0)))), none, some (.inl x2), some (.inl x3), none, none, none, none], [], am_mk m)) (if_pos hc13) ?_
        cases h
        exact am_Go.fg (by exact ⟨rfl, ⟨rfl, trivial⟩⟩) hk
      · rw [if_neg hc13] at h
        refine am_Go.c1 htb (S' := (82, [some (.inr (.inr (some (10, 0)))), none, some (.inl x2), some (.inl x3), none, none, none, none], [], am_mk m)) (if_neg hc13) ?_
        refine am_Go.n htb 5 (S' := (89, [some (.inr (.inr (some (10, 0)))), none, some (.inl x2), some (.inl x3), none, none, none, none], [.inl (m.1 44 0 0), .inr (.inr (some (10, 0)))], am_mk m)) rfl ?_
        obtain ⟨r14, h15, h⟩ := am_bd h
        refine am_Go.cl htb rfl (ex_X10_draw d (by omega) (m.1 44 0 0) m r14 h15) ?_
        show am_Go d 293 (92, [some (.inr (.inr (some (10, 0)))), none, some (.inl x2), some (.inl x3), none, none, none, none], [.inl r14.1], am_mk r14.2) _ _ _ _
        refine am_Go.n htb 6 (S' := (101, [some (.inr (.inr (some (10, 0)))), none, some (.inl x2), some (.inl x3), some (.inl r14.1), none, none, none], [.inl (r14.2.1 44 0 0), .inr (.inr (some (10, 0)))], am_mk r14.2)) rfl ?_
        obtain ⟨r16, h17, h⟩ := am_bd h
        refine am_Go.cl htb rfl (ex_X10_draw d (by omega) (r14.2.1 44 0 0) r14.2 r16 h17) ?_
        show am_Go d 293 (104, [some (.inr (.inr (some (10, 0)))), none, some (.inl x2), some (.inl x3), some (.inl r14.1), none, none, none], [.inl r16.1], am_mk r16.2) _ _ _ _
        refine am_Go.n htb 3 (S' := (109, [some (.inr (.inr (some (10, 0)))), none, some (.inl x2), some (.inl x3), some (.inl r14.1), some (.inl r16.1), none, none], [.inl 9, .inr (.inr (some (10, 0)))], am_mk r16.2)) rfl ?_
        obtain ⟨r18, h19, h⟩ := am_bd h
        refine am_Go.cl htb rfl (ex_X10_draw d (by omega) 9 r16.2 r18 h19) ?_
        show am_Go d 293 (112, [some (.inr (.inr (some (10, 0)))), none, some (.inl x2), some (.inl x3), some (.inl r14.1), some (.inl r16.1), none, none], [.inl r18.1], am_mk r18.2) _ _ _ _
        refine am_Go.n htb 5 (S' := (118, [some (.inr (.inr (some (10, 0)))), none, some (.inl x2), some (.inl x3), some (.inl r14.1), some (.inl r16.1), some (.inl (r18.1 + (1 : Int32))), none], [.inl 4, .inr (.inr (some (10, 0)))], am_mk r18.2)) rfl ?_
        obtain ⟨r20, h21, h⟩ := am_bd h
        refine am_Go.cl htb rfl (ex_X10_draw d (by omega) 4 r18.2 r20 h21) ?_
        show am_Go d 293 (121, [some (.inr (.inr (some (10, 0)))), none, some (.inl x2), some (.inl x3), some (.inl r14.1), some (.inl r16.1), some (.inl (r18.1 + (1 : Int32))), none], [.inl r20.1], am_mk r20.2) _ _ _ _
        refine am_Go.n htb 3 (S' := (127, [some (.inr (.inr (some (10, 0)))), none, some (.inl x2), some (.inl x3), some (.inl r14.1), some (.inl r16.1), some (.inl (r18.1 + (1 : Int32))), some (.inl r20.1)], [.inl r16.1, .inl r14.1], am_mk r20.2)) rfl ?_
        obtain ⟨q41, h44, h⟩ := am_bd h
        refine am_Go.cut (S := (212, [some (.inr (.inr (some (10, 0)))), none, some (.inl x2), some (.inl x3), some (.inl r14.1), some (.inl r16.1), some (.inl (r18.1 + (1 : Int32))), some (.inl r20.1)], [], am_mk q41)) ?_ (fun key => ?_)
        · refine am_Go.n htb 1 (S' := (213, [some (.inr (.inr (some (10, 0)))), none, some (.inl x2), some (.inl x3), some (.inl r14.1), some (.inl r16.1), some (.inl (r18.1 + (1 : Int32))), some (.inl r20.1)], [.inr (.inr (some (10, 0)))], am_mk q41)) rfl ?_
          obtain ⟨r42, h43, h⟩ := am_bd h
          refine am_Go.cl htb rfl (ex_X10_passIt d (by omega)  q41 r42 h43) ?_
          show am_Go d 293 (216, [some (.inr (.inr (some (10, 0)))), none, some (.inl x2), some (.inl x3), some (.inl r14.1), some (.inl r16.1), some (.inl (r18.1 + (1 : Int32))), some (.inl r20.1)], [], am_mk r42) _ _ _ _
          refine am_Go.n htb 2 (S' := (65, [some (.inr (.inr (some (10, 0)))), none, some (.inl x2), some (.inl (x3 + 1)), some (.inl r14.1), some (.inl r16.1), some (.inl (r18.1 + (1 : Int32))), some (.inl r20.1)], [], am_mk r42)) rfl ?_
          refine am_Go.fg (L0 := [some (.inr (.inr (some (10, 0)))), none, some (.inl x2), some (.inl (x3 + 1)), none, none, none, none]) (by exact ⟨rfl, ⟨rfl, ⟨rfl, trivial⟩⟩⟩) ?_
          first | exact ih h | exact ih h hk
        · have h := h44
          by_cases hc22 : r14.1 = r16.1
          · rw [if_pos hc22] at h
            refine am_Go.c1 htb (S' := (212, [some (.inr (.inr (some (10, 0)))), none, some (.inl x2), some (.inl x3), some (.inl r14.1), some (.inl r16.1), some (.inl (r18.1 + (1 : Int32))), some (.inl r20.1)], [], am_mk r20.2)) (if_pos hc22) ?_
            cases h
            exact am_Go.fg (by exact ⟨rfl, ⟨rfl, ⟨rfl, ⟨rfl, ⟨rfl, ⟨rfl, ⟨rfl, trivial⟩⟩⟩⟩⟩⟩⟩) key
          · rw [if_neg hc22] at h
            refine am_Go.c1 htb (S' := (130, [some (.inr (.inr (some (10, 0)))), none, some (.inl x2), some (.inl x3), some (.inl r14.1), some (.inl r16.1), some (.inl (r18.1 + (1 : Int32))), some (.inl r20.1)], [], am_mk r20.2)) (if_neg hc22) ?_
            refine am_Go.n htb 2 (S' := (133, [some (.inr (.inr (some (10, 0)))), none, some (.inl x2), some (.inl x3), some (.inl r14.1), some (.inl r16.1), some (.inl (r18.1 + (1 : Int32))), some (.inl r20.1)], [.inl 2, .inl r20.1], am_mk r20.2)) rfl ?_
            obtain ⟨q29, h40, h⟩ := am_bd h
            refine am_Go.cut (S := (159, [some (.inr (.inr (some (10, 0)))), none, some (.inl x2), some (.inl x3), some (.inl r14.1), some (.inl r16.1), some (.inl (r18.1 + (1 : Int32))), some (.inl r20.1)], [], am_mk q29)) ?_ (fun key => ?_)
            · refine am_Go.n htb 2 (S' := (162, [some (.inr (.inr (some (10, 0)))), none, some (.inl x2), some (.inl x3), some (.inl r14.1), some (.inl r16.1), some (.inl (r18.1 + (1 : Int32))), some (.inl r20.1)], [.inl 2, .inl r20.1], am_mk q29)) rfl ?_
              obtain ⟨q36, h39, h⟩ := am_bd h
              refine am_Go.cut (S := (189, [some (.inr (.inr (some (10, 0)))), none, some (.inl x2), some (.inl x3), some (.inl r14.1), some (.inl r16.1), some (.inl (r18.1 + (1 : Int32))), some (.inl r20.1)], [], am_mk q36)) ?_ (fun key => ?_)
              · refine am_Go.n htb 2 (S' := (192, [some (.inr (.inr (some (10, 0)))), none, some (.inl x2), some (.inl x3), some (.inl r14.1), some (.inl r16.1), some (.inl (r18.1 + (1 : Int32))), some (.inl r20.1)], [.inl 3, .inl r20.1], am_mk q36)) rfl ?_
                by_cases hc37 : r20.1 ≠ (3 : Int32)
                · rw [if_pos hc37] at h
                  refine am_Go.c1 htb (S' := (212, [some (.inr (.inr (some (10, 0)))), none, some (.inl x2), some (.inl x3), some (.inl r14.1), some (.inl r16.1), some (.inl (r18.1 + (1 : Int32))), some (.inl r20.1)], [], am_mk q36)) (if_pos hc37) ?_
                  cases h
                  exact am_Go.fg (by exact ⟨rfl, ⟨rfl, ⟨rfl, ⟨rfl, ⟨rfl, ⟨rfl, ⟨rfl, trivial⟩⟩⟩⟩⟩⟩⟩) key
                · rw [if_neg hc37] at h
                  refine am_Go.c1 htb (S' := (195, [some (.inr (.inr (some (10, 0)))), none, some (.inl x2), some (.inl x3), some (.inl r14.1), some (.inl r16.1), some (.inl (r18.1 + (1 : Int32))), some (.inl r20.1)], [], am_mk q36)) (if_neg hc37) ?_
                  refine am_Go.n htb 10 (S' := (211, [some (.inr (.inr (some (10, 0)))), none, some (.inl x2), some (.inl x3), some (.inl r14.1), some (.inl r16.1), some (.inl (r18.1 + (1 : Int32))), some (.inl r20.1)], [.inl 0, .inl (((14 : Int32) + ((7 : Int32) * r14.1)) + r16.1), .inr (.inr (some (44, 0)))], am_mk q36)) rfl ?_
                  obtain ⟨hg38, h⟩ := am_ck_some h
                  refine am_Go.c1 htb (S' := (212, [some (.inr (.inr (some (10, 0)))), none, some (.inl x2), some (.inl x3), some (.inl r14.1), some (.inl r16.1), some (.inl (r18.1 + (1 : Int32))), some (.inl r20.1)], [], am_mk (am_si q36 44 0 (((14 : Int32) + ((7 : Int32) * r14.1)) + r16.1).toNatClampNeg 0))) (if_neg hg38) ?_
                  cases h
                  exact am_Go.fg (by exact ⟨rfl, ⟨rfl, ⟨rfl, ⟨rfl, ⟨rfl, ⟨rfl, ⟨rfl, trivial⟩⟩⟩⟩⟩⟩⟩) key
              · have h := h39
                by_cases hc30 : r20.1 ≠ (2 : Int32)
                · rw [if_pos hc30] at h
                  refine am_Go.c1 htb (S' := (189, [some (.inr (.inr (some (10, 0)))), none, some (.inl x2), some (.inl x3), some (.inl r14.1), some (.inl r16.1), some (.inl (r18.1 + (1 : Int32))), some (.inl r20.1)], [], am_mk q29)) (if_pos hc30) ?_
                  cases h
                  exact am_Go.fg (by exact ⟨rfl, ⟨rfl, ⟨rfl, ⟨rfl, ⟨rfl, ⟨rfl, ⟨rfl, trivial⟩⟩⟩⟩⟩⟩⟩) key
                · rw [if_neg hc30] at h
                  refine am_Go.c1 htb (S' := (165, [some (.inr (.inr (some (10, 0)))), none, some (.inl x2), some (.inl x3), some (.inl r14.1), some (.inl r16.1), some (.inl (r18.1 + (1 : Int32))), some (.inl r20.1)], [], am_mk q29)) (if_neg hc30) ?_
                  refine am_Go.n htb 3 (S' := (170, [some (.inr (.inr (some (10, 0)))), none, some (.inl x2), some (.inl x3), some (.inl r14.1), some (.inl r16.1), some (.inl (r18.1 + (1 : Int32))), some (.inl r20.1)], [.inl r16.1, .inl r14.1, .inr (.inr (some (10, 0)))], am_mk q29)) rfl ?_
                  obtain ⟨r31, h32, h⟩ := am_bd h
                  refine am_Go.cl htb rfl (ex_X10_maySit d (by omega) r14.1 r16.1 q29 r31 h32) ?_
                  show am_Go d 293 (173, [some (.inr (.inr (some (10, 0)))), none, some (.inl x2), some (.inl x3), some (.inl r14.1), some (.inl r16.1), some (.inl (r18.1 + (1 : Int32))), some (.inl r20.1)], [.inl r31.1], am_mk r31.2) _ _ _ _
                  by_cases hc33 : r31.1 = 0
                  · rw [if_pos hc33] at h
                    refine am_Go.c1 htb (S' := (189, [some (.inr (.inr (some (10, 0)))), none, some (.inl x2), some (.inl x3), some (.inl r14.1), some (.inl r16.1), some (.inl (r18.1 + (1 : Int32))), some (.inl r20.1)], [], am_mk r31.2)) (if_pos hc33) ?_
                    cases h
                    exact am_Go.fg (by exact ⟨rfl, ⟨rfl, ⟨rfl, ⟨rfl, ⟨rfl, ⟨rfl, ⟨rfl, trivial⟩⟩⟩⟩⟩⟩⟩) key
                  · rw [if_neg hc33] at h
                    refine am_Go.c1 htb (S' := (176, [some (.inr (.inr (some (10, 0)))), none, some (.inl x2), some (.inl x3), some (.inl r14.1), some (.inl r16.1), some (.inl (r18.1 + (1 : Int32))), some (.inl r20.1)], [], am_mk r31.2)) (if_neg hc33) ?_
                    refine am_Go.n htb 8 (S' := (186, [some (.inr (.inr (some (10, 0)))), none, some (.inl x2), some (.inl x3), some (.inl r14.1), some (.inl r16.1), some (.inl (r18.1 + (1 : Int32))), some (.inl r20.1)], [.inl (((1 : Int32) <<< (r14.1 &&& 31)) ||| ((1 : Int32) <<< (r16.1 &&& 31))), .inr (.inr (some (10, 0)))], am_mk r31.2)) rfl ?_
                    obtain ⟨r34, h35, h⟩ := am_bd h
                    refine am_Go.cl htb rfl (ex_X10_feastIt d (by omega) (((1 : Int32) <<< (r14.1 &&& 31)) ||| ((1 : Int32) <<< (r16.1 &&& 31))) r31.2 r34 h35) ?_
                    show am_Go d 293 (189, [some (.inr (.inr (some (10, 0)))), none, some (.inl x2), some (.inl x3), some (.inl r14.1), some (.inl r16.1), some (.inl (r18.1 + (1 : Int32))), some (.inl r20.1)], [], am_mk r34) _ _ _ _
                    cases h
                    exact am_Go.fg (by exact ⟨rfl, ⟨rfl, ⟨rfl, ⟨rfl, ⟨rfl, ⟨rfl, ⟨rfl, trivial⟩⟩⟩⟩⟩⟩⟩) key
            · have h := h40
              by_cases hc23 : (2 : Int32) ≤ r20.1
              · rw [if_pos hc23] at h
                refine am_Go.c1 htb (S' := (159, [some (.inr (.inr (some (10, 0)))), none, some (.inl x2), some (.inl x3), some (.inl r14.1), some (.inl r16.1), some (.inl (r18.1 + (1 : Int32))), some (.inl r20.1)], [], am_mk r20.2)) (if_pos hc23) ?_
                cases h
                exact am_Go.fg (by exact ⟨rfl, ⟨rfl, ⟨rfl, ⟨rfl, ⟨rfl, ⟨rfl, ⟨rfl, trivial⟩⟩⟩⟩⟩⟩⟩) key
              · rw [if_neg hc23] at h
                refine am_Go.c1 htb (S' := (136, [some (.inr (.inr (some (10, 0)))), none, some (.inl x2), some (.inl x3), some (.inl r14.1), some (.inl r16.1), some (.inl (r18.1 + (1 : Int32))), some (.inl r20.1)], [], am_mk r20.2)) (if_neg hc23) ?_
                refine am_Go.n htb 3 (S' := (141, [some (.inr (.inr (some (10, 0)))), none, some (.inl x2), some (.inl x3), some (.inl r14.1), some (.inl r16.1), some (.inl (r18.1 + (1 : Int32))), some (.inl r20.1)], [.inl r16.1, .inl r14.1, .inr (.inr (some (10, 0)))], am_mk r20.2)) rfl ?_
                obtain ⟨r24, h25, h⟩ := am_bd h
                refine am_Go.cl htb rfl (ex_X10_weightOf d (by omega) r14.1 r16.1 r20.2 r24 h25) ?_
                show am_Go d 293 (144, [some (.inr (.inr (some (10, 0)))), none, some (.inl x2), some (.inl x3), some (.inl r14.1), some (.inl r16.1), some (.inl (r18.1 + (1 : Int32))), some (.inl r20.1)], [.inl r24], am_mk r20.2) _ _ _ _
                refine am_Go.n htb 1 (S' := (146, [some (.inr (.inr (some (10, 0)))), none, some (.inl x2), some (.inl x3), some (.inl r14.1), some (.inl r16.1), some (.inl (r18.1 + (1 : Int32))), some (.inl r20.1)], [.inl (r18.1 + (1 : Int32)), .inl r24], am_mk r20.2)) rfl ?_
                by_cases hc26 : r24 = (r18.1 + (1 : Int32))
                · rw [if_pos hc26] at h
                  refine am_Go.c1 htb (S' := (159, [some (.inr (.inr (some (10, 0)))), none, some (.inl x2), some (.inl x3), some (.inl r14.1), some (.inl r16.1), some (.inl (r18.1 + (1 : Int32))), some (.inl r20.1)], [], am_mk r20.2)) (if_pos hc26) ?_
                  cases h
                  exact am_Go.fg (by exact ⟨rfl, ⟨rfl, ⟨rfl, ⟨rfl, ⟨rfl, ⟨rfl, ⟨rfl, trivial⟩⟩⟩⟩⟩⟩⟩) key
                · rw [if_neg hc26] at h
                  refine am_Go.c1 htb (S' := (149, [some (.inr (.inr (some (10, 0)))), none, some (.inl x2), some (.inl x3), some (.inl r14.1), some (.inl r16.1), some (.inl (r18.1 + (1 : Int32))), some (.inl r20.1)], [], am_mk r20.2)) (if_neg hc26) ?_
                  refine am_Go.n htb 4 (S' := (156, [some (.inr (.inr (some (10, 0)))), none, some (.inl x2), some (.inl x3), some (.inl r14.1), some (.inl r16.1), some (.inl (r18.1 + (1 : Int32))), some (.inl r20.1)], [.inl (r18.1 + (1 : Int32)), .inl r16.1, .inl r14.1, .inr (.inr (some (10, 0)))], am_mk r20.2)) rfl ?_
                  obtain ⟨r27, h28, h⟩ := am_bd h
                  refine am_Go.cl htb rfl (ex_X10_setHarm d (by omega) r14.1 r16.1 (r18.1 + (1 : Int32)) r20.2 r27 h28) ?_
                  show am_Go d 293 (159, [some (.inr (.inr (some (10, 0)))), none, some (.inl x2), some (.inl x3), some (.inl r14.1), some (.inl r16.1), some (.inl (r18.1 + (1 : Int32))), some (.inl r20.1)], [], am_mk r27) _ _ _ _
                  cases h
                  exact am_Go.fg (by exact ⟨rfl, ⟨rfl, ⟨rfl, ⟨rfl, ⟨rfl, ⟨rfl, ⟨rfl, trivial⟩⟩⟩⟩⟩⟩⟩) key
def lp_X10_seasons_224 : Nat → Int32 → am_m → Option (am_m)
  | 0, _, _ => none
  | n + 1, x3, m =>
  (if (108 : Int32) ≤ x3 then some m else am_ck ((4 : Int32) + x3) 5518 (am_ck x3 108 (lp_X10_seasons_224 n (x3 + 1) (am_si m 63 0 x3.toNatClampNeg (m.1 44 0 ((4 : Int32) + x3).toNatClampNeg)))))
set_option maxRecDepth 100000 in
theorem lt_X10_seasons_224 (d : Nat) (hd : 8 ≤ d + 1) {r : Option am_V} {M' : am_M} {kc ks : Nat} {n : Nat} {x3 : Int32} {m : am_m} {t : am_m} (h : lp_X10_seasons_224 n x3 m = some t) (hk : am_Go d 293 (250, [some (.inr (.inr (some (10, 0)))), none, none, none, none, none, none, none], [], am_mk t) r M' kc ks) : am_Go d 293 (224, [some (.inr (.inr (some (10, 0)))), none, none, some (.inl x3), none, none, none, none], [], am_mk m) r M' kc ks := by
  have htb : am_tab 293 = at_293 := rfl
  induction n generalizing x3 m with
  | zero => cases h
  | succ n ih =>
    unfold lp_X10_seasons_224 at h
    refine am_Go.n htb 2 (S' := (227, [some (.inr (.inr (some (10, 0)))), none, none, some (.inl x3), none, none, none, none], [.inl 108, .inl x3], am_mk m)) rfl ?_
    by_cases hc47 : (108 : Int32) ≤ x3
    · rw [if_pos hc47] at h
      refine am_Go.c1 htb (S' := (250, [some (.inr (.inr (some (10, 0)))), none, none, some (.inl x3), none, none, none, none], [], am_mk m)) (if_pos hc47) ?_
      cases h
      exact am_Go.fg (by exact ⟨rfl, trivial⟩) hk
    · rw [if_neg hc47] at h
      refine am_Go.c1 htb (S' := (230, [some (.inr (.inr (some (10, 0)))), none, none, some (.inl x3), none, none, none, none], [], am_mk m)) (if_neg hc47) ?_
      refine am_Go.n htb 8 (S' := (242, [some (.inr (.inr (some (10, 0)))), none, none, some (.inl x3), none, none, none, none], [.inl ((4 : Int32) + x3), .inr (.inr (some (44, 0))), .inl x3, .inr (.inr (some (63, 0)))], am_mk m)) rfl ?_
      obtain ⟨hg48, h⟩ := am_ck_some h
      refine am_Go.c1 htb (S' := (243, [some (.inr (.inr (some (10, 0)))), none, none, some (.inl x3), none, none, none, none], [.inl (m.1 44 0 ((4 : Int32) + x3).toNatClampNeg), .inl x3, .inr (.inr (some (63, 0)))], am_mk m)) (if_neg hg48) ?_
      obtain ⟨hg49, h⟩ := am_ck_some h
      refine am_Go.c1 htb (S' := (244, [some (.inr (.inr (some (10, 0)))), none, none, some (.inl x3), none, none, none, none], [], am_mk (am_si m 63 0 x3.toNatClampNeg (m.1 44 0 ((4 : Int32) + x3).toNatClampNeg)))) (if_neg hg49) ?_
      refine am_Go.n htb 2 (S' := (224, [some (.inr (.inr (some (10, 0)))), none, none, some (.inl (x3 + 1)), none, none, none, none], [], am_mk (am_si m 63 0 x3.toNatClampNeg (m.1 44 0 ((4 : Int32) + x3).toNatClampNeg)))) rfl ?_
      first | exact ih h | exact ih h hk
def fn_X10_seasons (a1 : Int32) (a2 : Int32) (m : am_m) : Option (Int32 × am_m) :=
  (fn_X10_in a1.toInt64 0 1000000 (am_si m 10 0 0 0)).bind fun r1 => (if r1 = 0 then (fn_X10_tell (-1) (am_si m 10 0 0 0)).bind fun r4 => some (r4.1, r4.2) else (fn_X10_in a2.toInt64 1 60 (am_si m 10 0 0 0)).bind fun r6 => (if r6 ≠ 0 then (if ((am_si m 10 0 0 0).1 44 0 0) ≠ 0 then (fn_X10_keepAll 16 (am_si m 10 0 0 0)).bind fun r10 => (lp_X10_seasons_65 1000000 a2 0 (am_sg r10 10 0 59 a1.toInt64)).bind fun q45 => (lp_X10_seasons_224 1000000 0 q45).bind fun q50 => (fn_X10_starving  (am_si q50 10 0 61 (q50.1 44 0 0))).bind fun r52 => (fn_X10_putBack 16 (am_si q50 10 0 61 (q50.1 44 0 0))).bind fun r54 => (fn_X10_tell r52 r54).bind fun r56 => some (r56.1, r56.2) else (fn_X10_tell (-3) (am_si m 10 0 0 0)).bind fun r58 => some (r58.1, r58.2)) else (fn_X10_tell (-1) (am_si m 10 0 0 0)).bind fun r60 => some (r60.1, r60.2)))
set_option maxRecDepth 100000 in
theorem ex_X10_seasons (d : Nat) (hd : 8 ≤ d) (a1 : Int32) (a2 : Int32) (m : am_m) (t : Int32 × am_m) (h : fn_X10_seasons a1 a2 m = some t) : am_Ex am_cod d 293 [.inr (.inr (some (10, 0))), .inl a1, .inl a2] (am_mk m) (some (.inl t.1)) (am_mk t.2) 0 0 := by
  obtain ⟨d, rfl⟩ : ∃ e, d = e + 1 := ⟨d - 1, by omega⟩
  have htb : am_tab 293 = at_293 := rfl
  refine ⟨Nat.le_of_ble_eq_true rfl, ?_⟩
  unfold fn_X10_seasons at h
  show am_Go d 293 (0, [some (.inr (.inr (some (10, 0)))), some (.inl a1), some (.inl a2), none, none, none, none, none], [], am_mk m) _ _ 0 0
  refine am_Go.n htb 7 (S' := (11, [some (.inr (.inr (some (10, 0)))), some (.inl a1), some (.inl a2), none, none, none, none, none], [.inr (.inl 1000000), .inr (.inl 0), .inr (.inl a1.toInt64)], am_mk (am_si m 10 0 0 0))) rfl ?_
  obtain ⟨r1, h2, h⟩ := am_bd h
  refine am_Go.cl htb rfl (ex_X10_in d (by omega) a1.toInt64 0 1000000 (am_si m 10 0 0 0) r1 h2) ?_
  show am_Go d 293 (14, [some (.inr (.inr (some (10, 0)))), some (.inl a1), some (.inl a2), none, none, none, none, none], [.inl r1], am_mk (am_si m 10 0 0 0)) _ _ _ _
  by_cases hc3 : r1 = 0
  · rw [if_pos hc3] at h
    refine am_Go.c1 htb (S' := (29, [some (.inr (.inr (some (10, 0)))), some (.inl a1), some (.inl a2), none, none, none, none, none], [], am_mk (am_si m 10 0 0 0))) (if_pos hc3) ?_
    refine am_Go.n htb 2 (S' := (31, [some (.inr (.inr (some (10, 0)))), some (.inl a1), some (.inl a2), none, none, none, none, none], [.inl (-1), .inr (.inr (some (10, 0)))], am_mk (am_si m 10 0 0 0))) rfl ?_
    obtain ⟨r4, h5, h⟩ := am_bd h
    refine am_Go.cl htb rfl (ex_X10_tell d (by omega) (-1) (am_si m 10 0 0 0) r4 h5) ?_
    show am_Go d 293 (34, [some (.inr (.inr (some (10, 0)))), some (.inl a1), some (.inl a2), none, none, none, none, none], [.inl r4.1], am_mk r4.2) _ _ _ _
    cases h
    exact am_Go.rt htb rfl
  · rw [if_neg hc3] at h
    refine am_Go.c1 htb (S' := (17, [some (.inr (.inr (some (10, 0)))), some (.inl a1), some (.inl a2), none, none, none, none, none], [], am_mk (am_si m 10 0 0 0))) (if_neg hc3) ?_
    refine am_Go.n htb 4 (S' := (23, [some (.inr (.inr (some (10, 0)))), some (.inl a1), some (.inl a2), none, none, none, none, none], [.inr (.inl 60), .inr (.inl 1), .inr (.inl a2.toInt64)], am_mk (am_si m 10 0 0 0))) rfl ?_
    obtain ⟨r6, h7, h⟩ := am_bd h
    refine am_Go.cl htb rfl (ex_X10_in d (by omega) a2.toInt64 1 60 (am_si m 10 0 0 0) r6 h7) ?_
    show am_Go d 293 (26, [some (.inr (.inr (some (10, 0)))), some (.inl a1), some (.inl a2), none, none, none, none, none], [.inl r6], am_mk (am_si m 10 0 0 0)) _ _ _ _
    by_cases hc8 : r6 ≠ 0
    · rw [if_pos hc8] at h
      refine am_Go.c1 htb (S' := (35, [some (.inr (.inr (some (10, 0)))), some (.inl a1), some (.inl a2), none, none, none, none, none], [], am_mk (am_si m 10 0 0 0))) (if_pos hc8) ?_
      refine am_Go.n htb 4 (S' := (41, [some (.inr (.inr (some (10, 0)))), some (.inl a1), some (.inl a2), none, none, none, none, none], [.inl ((am_si m 10 0 0 0).1 44 0 0)], am_mk (am_si m 10 0 0 0))) rfl ?_
      by_cases hc9 : ((am_si m 10 0 0 0).1 44 0 0) ≠ 0
      · rw [if_pos hc9] at h
        refine am_Go.c1 htb (S' := (51, [some (.inr (.inr (some (10, 0)))), some (.inl a1), some (.inl a2), none, none, none, none, none], [], am_mk (am_si m 10 0 0 0))) (if_pos hc9) ?_
        refine am_Go.n htb 2 (S' := (54, [some (.inr (.inr (some (10, 0)))), some (.inl a1), some (.inl a2), none, none, none, none, none], [.inl 16, .inr (.inr (some (10, 0)))], am_mk (am_si m 10 0 0 0))) rfl ?_
        obtain ⟨r10, h11, h⟩ := am_bd h
        refine am_Go.cl htb rfl (ex_X10_keepAll d (by omega) 16 (am_si m 10 0 0 0) r10 h11) ?_
        show am_Go d 293 (57, [some (.inr (.inr (some (10, 0)))), some (.inl a1), some (.inl a2), none, none, none, none, none], [], am_mk r10) _ _ _ _
        refine am_Go.n htb 6 (S' := (65, [some (.inr (.inr (some (10, 0)))), some (.inl a1), some (.inl a2), some (.inl 0), none, none, none, none], [], am_mk (am_sg r10 10 0 59 a1.toInt64))) rfl ?_
        refine am_Go.fg (L0 := [some (.inr (.inr (some (10, 0)))), none, some (.inl a2), some (.inl 0), none, none, none, none]) (by exact ⟨rfl, ⟨rfl, ⟨rfl, trivial⟩⟩⟩) ?_
        obtain ⟨q45, h46, h⟩ := am_bd h
        refine lt_X10_seasons_65 _ hd (h := h46) (hk := ?_)
        refine am_Go.n htb 2 (S' := (224, [some (.inr (.inr (some (10, 0)))), none, some (.inl a2), some (.inl 0), none, none, none, none], [], am_mk q45)) rfl ?_
        refine am_Go.fg (L0 := [some (.inr (.inr (some (10, 0)))), none, none, some (.inl 0), none, none, none, none]) (by exact ⟨rfl, ⟨rfl, trivial⟩⟩) ?_
        obtain ⟨q50, h51, h⟩ := am_bd h
        refine lt_X10_seasons_224 _ hd (h := h51) (hk := ?_)
        refine am_Go.n htb 7 (S' := (261, [some (.inr (.inr (some (10, 0)))), none, none, none, none, none, none, none], [.inr (.inr (some (10, 0)))], am_mk (am_si q50 10 0 61 (q50.1 44 0 0)))) rfl ?_
        obtain ⟨r52, h53, h⟩ := am_bd h
        refine am_Go.cl htb rfl (ex_X10_starving d (by omega)  (am_si q50 10 0 61 (q50.1 44 0 0)) r52 h53) ?_
        show am_Go d 293 (264, [some (.inr (.inr (some (10, 0)))), none, none, none, none, none, none, none], [.inl r52], am_mk (am_si q50 10 0 61 (q50.1 44 0 0))) _ _ _ _
        refine am_Go.n htb 3 (S' := (268, [some (.inr (.inr (some (10, 0)))), none, none, some (.inl r52), none, none, none, none], [.inl 16, .inr (.inr (some (10, 0)))], am_mk (am_si q50 10 0 61 (q50.1 44 0 0)))) rfl ?_
        obtain ⟨r54, h55, h⟩ := am_bd h
        refine am_Go.cl htb rfl (ex_X10_putBack d (by omega) 16 (am_si q50 10 0 61 (q50.1 44 0 0)) r54 h55) ?_
        show am_Go d 293 (271, [some (.inr (.inr (some (10, 0)))), none, none, some (.inl r52), none, none, none, none], [], am_mk r54) _ _ _ _
        refine am_Go.n htb 2 (S' := (273, [some (.inr (.inr (some (10, 0)))), none, none, some (.inl r52), none, none, none, none], [.inl r52, .inr (.inr (some (10, 0)))], am_mk r54)) rfl ?_
        obtain ⟨r56, h57, h⟩ := am_bd h
        refine am_Go.cl htb rfl (ex_X10_tell d (by omega) r52 r54 r56 h57) ?_
        show am_Go d 293 (276, [some (.inr (.inr (some (10, 0)))), none, none, some (.inl r52), none, none, none, none], [.inl r56.1], am_mk r56.2) _ _ _ _
        cases h
        exact am_Go.rt htb rfl
      · rw [if_neg hc9] at h
        refine am_Go.c1 htb (S' := (44, [some (.inr (.inr (some (10, 0)))), some (.inl a1), some (.inl a2), none, none, none, none, none], [], am_mk (am_si m 10 0 0 0))) (if_neg hc9) ?_
        refine am_Go.n htb 2 (S' := (47, [some (.inr (.inr (some (10, 0)))), some (.inl a1), some (.inl a2), none, none, none, none, none], [.inl (-3), .inr (.inr (some (10, 0)))], am_mk (am_si m 10 0 0 0))) rfl ?_
        obtain ⟨r58, h59, h⟩ := am_bd h
        refine am_Go.cl htb rfl (ex_X10_tell d (by omega) (-3) (am_si m 10 0 0 0) r58 h59) ?_
        show am_Go d 293 (50, [some (.inr (.inr (some (10, 0)))), some (.inl a1), some (.inl a2), none, none, none, none, none], [.inl r58.1], am_mk r58.2) _ _ _ _
        cases h
        exact am_Go.rt htb rfl
    · rw [if_neg hc8] at h
      refine am_Go.c1 htb (S' := (29, [some (.inr (.inr (some (10, 0)))), some (.inl a1), some (.inl a2), none, none, none, none, none], [], am_mk (am_si m 10 0 0 0))) (if_neg hc8) ?_
      refine am_Go.n htb 2 (S' := (31, [some (.inr (.inr (some (10, 0)))), some (.inl a1), some (.inl a2), none, none, none, none, none], [.inl (-1), .inr (.inr (some (10, 0)))], am_mk (am_si m 10 0 0 0))) rfl ?_
      obtain ⟨r60, h61, h⟩ := am_bd h
      refine am_Go.cl htb rfl (ex_X10_tell d (by omega) (-1) (am_si m 10 0 0 0) r60 h61) ?_
      show am_Go d 293 (34, [some (.inr (.inr (some (10, 0)))), some (.inl a1), some (.inl a2), none, none, none, none, none], [.inl r60.1], am_mk r60.2) _ _ _ _
      cases h
      exact am_Go.rt htb rfl
-- X10_drawn
def fn_X10_drawn (a1 : Int32) (a2 : Int32) (m : am_m) : Option (Int32 × am_m) :=
  (fn_X10_in a1.toInt64 0 ((((am_si m 10 0 0 0).1 10 0 61).toInt64) - (1 : Int64)) (am_si m 10 0 0 0)).bind fun r1 => (if r1 = 0 then some ((-1), am_si m 10 0 0 0) else (if a2 = (-1 : Int32) then (if a1 ≠ a2 then (if a2 ≠ (-1 : Int32) then am_ck (((10 : Int32) + ((7 : Int32) * a1)) + a2) 108 (some (((am_si m 10 0 0 0).1 63 0 (((10 : Int32) + ((7 : Int32) * a1)) + a2).toNatClampNeg), am_si m 10 0 0 0)) else am_ck ((3 : Int32) + a1) 108 (some (((am_si m 10 0 0 0).1 63 0 ((3 : Int32) + a1).toNatClampNeg), am_si m 10 0 0 0))) else some ((-1), am_si m 10 0 0 0)) else (fn_X10_in a2.toInt64 0 ((((am_si m 10 0 0 0).1 10 0 61).toInt64) - (1 : Int64)) (am_si m 10 0 0 0)).bind fun r9 => (if r9 = 0 then some ((-1), am_si m 10 0 0 0) else (if a1 ≠ a2 then (if a2 ≠ (-1 : Int32) then am_ck (((10 : Int32) + ((7 : Int32) * a1)) + a2) 108 (some (((am_si m 10 0 0 0).1 63 0 (((10 : Int32) + ((7 : Int32) * a1)) + a2).toNatClampNeg), am_si m 10 0 0 0)) else am_ck ((3 : Int32) + a1) 108 (some (((am_si m 10 0 0 0).1 63 0 ((3 : Int32) + a1).toNatClampNeg), am_si m 10 0 0 0))) else some ((-1), am_si m 10 0 0 0)))))
set_option maxRecDepth 100000 in
theorem ex_X10_drawn (d : Nat) (hd : 2 ≤ d) (a1 : Int32) (a2 : Int32) (m : am_m) (t : Int32 × am_m) (h : fn_X10_drawn a1 a2 m = some t) : am_Ex am_cod d 294 [.inr (.inr (some (10, 0))), .inl a1, .inl a2] (am_mk m) (some (.inl t.1)) (am_mk t.2) 0 0 := by
  obtain ⟨d, rfl⟩ : ∃ e, d = e + 1 := ⟨d - 1, by omega⟩
  have htb : am_tab 294 = at_294 := rfl
  refine ⟨Nat.le_of_ble_eq_true rfl, ?_⟩
  unfold fn_X10_drawn at h
  show am_Go d 294 (0, [some (.inr (.inr (some (10, 0)))), some (.inl a1), some (.inl a2)], [], am_mk m) _ _ 0 0
  refine am_Go.n htb 11 (S' := (15, [some (.inr (.inr (some (10, 0)))), some (.inl a1), some (.inl a2)], [.inr (.inl ((((am_si m 10 0 0 0).1 10 0 61).toInt64) - (1 : Int64))), .inr (.inl 0), .inr (.inl a1.toInt64)], am_mk (am_si m 10 0 0 0))) rfl ?_
  obtain ⟨r1, h2, h⟩ := am_bd h
  refine am_Go.cl htb rfl (ex_X10_in d (by omega) a1.toInt64 0 ((((am_si m 10 0 0 0).1 10 0 61).toInt64) - (1 : Int64)) (am_si m 10 0 0 0) r1 h2) ?_
  show am_Go d 294 (18, [some (.inr (.inr (some (10, 0)))), some (.inl a1), some (.inl a2)], [.inl r1], am_mk (am_si m 10 0 0 0)) _ _ _ _
  by_cases hc3 : r1 = 0
  · rw [if_pos hc3] at h
    refine am_Go.c1 htb (S' := (47, [some (.inr (.inr (some (10, 0)))), some (.inl a1), some (.inl a2)], [], am_mk (am_si m 10 0 0 0))) (if_pos hc3) ?_
    refine am_Go.n htb 1 (S' := (48, [some (.inr (.inr (some (10, 0)))), some (.inl a1), some (.inl a2)], [.inl (-1)], am_mk (am_si m 10 0 0 0))) rfl ?_
    cases h
    exact am_Go.rt htb rfl
  · rw [if_neg hc3] at h
    refine am_Go.c1 htb (S' := (21, [some (.inr (.inr (some (10, 0)))), some (.inl a1), some (.inl a2)], [], am_mk (am_si m 10 0 0 0))) (if_neg hc3) ?_
    refine am_Go.n htb 2 (S' := (23, [some (.inr (.inr (some (10, 0)))), some (.inl a1), some (.inl a2)], [.inl (-1), .inl a2], am_mk (am_si m 10 0 0 0))) rfl ?_
    by_cases hc4 : a2 = (-1 : Int32)
    · rw [if_pos hc4] at h
      refine am_Go.c1 htb (S' := (42, [some (.inr (.inr (some (10, 0)))), some (.inl a1), some (.inl a2)], [], am_mk (am_si m 10 0 0 0))) (if_pos hc4) ?_
      refine am_Go.n htb 2 (S' := (44, [some (.inr (.inr (some (10, 0)))), some (.inl a1), some (.inl a2)], [.inl a2, .inl a1], am_mk (am_si m 10 0 0 0))) rfl ?_
      by_cases hc5 : a1 ≠ a2
      · rw [if_pos hc5] at h
        refine am_Go.c1 htb (S' := (49, [some (.inr (.inr (some (10, 0)))), some (.inl a1), some (.inl a2)], [], am_mk (am_si m 10 0 0 0))) (if_pos hc5) ?_
        refine am_Go.n htb 2 (S' := (51, [some (.inr (.inr (some (10, 0)))), some (.inl a1), some (.inl a2)], [.inl (-1), .inl a2], am_mk (am_si m 10 0 0 0))) rfl ?_
        by_cases hc6 : a2 ≠ (-1 : Int32)
        · rw [if_pos hc6] at h
          refine am_Go.c1 htb (S' := (65, [some (.inr (.inr (some (10, 0)))), some (.inl a1), some (.inl a2)], [], am_mk (am_si m 10 0 0 0))) (if_pos hc6) ?_
          refine am_Go.n htb 9 (S' := (78, [some (.inr (.inr (some (10, 0)))), some (.inl a1), some (.inl a2)], [.inl (((10 : Int32) + ((7 : Int32) * a1)) + a2), .inr (.inr (some (63, 0)))], am_mk (am_si m 10 0 0 0))) rfl ?_
          obtain ⟨hg7, h⟩ := am_ck_some h
          refine am_Go.c1 htb (S' := (79, [some (.inr (.inr (some (10, 0)))), some (.inl a1), some (.inl a2)], [.inl ((am_si m 10 0 0 0).1 63 0 (((10 : Int32) + ((7 : Int32) * a1)) + a2).toNatClampNeg)], am_mk (am_si m 10 0 0 0))) (if_neg hg7) ?_
          cases h
          exact am_Go.rt htb rfl
        · rw [if_neg hc6] at h
          refine am_Go.c1 htb (S' := (54, [some (.inr (.inr (some (10, 0)))), some (.inl a1), some (.inl a2)], [], am_mk (am_si m 10 0 0 0))) (if_neg hc6) ?_
          refine am_Go.n htb 5 (S' := (61, [some (.inr (.inr (some (10, 0)))), some (.inl a1), some (.inl a2)], [.inl ((3 : Int32) + a1), .inr (.inr (some (63, 0)))], am_mk (am_si m 10 0 0 0))) rfl ?_
          obtain ⟨hg8, h⟩ := am_ck_some h
          refine am_Go.c1 htb (S' := (62, [some (.inr (.inr (some (10, 0)))), some (.inl a1), some (.inl a2)], [.inl ((am_si m 10 0 0 0).1 63 0 ((3 : Int32) + a1).toNatClampNeg)], am_mk (am_si m 10 0 0 0))) (if_neg hg8) ?_
          refine am_Go.n htb 1 (S' := (79, [some (.inr (.inr (some (10, 0)))), some (.inl a1), some (.inl a2)], [.inl ((am_si m 10 0 0 0).1 63 0 ((3 : Int32) + a1).toNatClampNeg)], am_mk (am_si m 10 0 0 0))) rfl ?_
          cases h
          exact am_Go.rt htb rfl
      · rw [if_neg hc5] at h
        refine am_Go.c1 htb (S' := (47, [some (.inr (.inr (some (10, 0)))), some (.inl a1), some (.inl a2)], [], am_mk (am_si m 10 0 0 0))) (if_neg hc5) ?_
        refine am_Go.n htb 1 (S' := (48, [some (.inr (.inr (some (10, 0)))), some (.inl a1), some (.inl a2)], [.inl (-1)], am_mk (am_si m 10 0 0 0))) rfl ?_
        cases h
        exact am_Go.rt htb rfl
    · rw [if_neg hc4] at h
      refine am_Go.c1 htb (S' := (26, [some (.inr (.inr (some (10, 0)))), some (.inl a1), some (.inl a2)], [], am_mk (am_si m 10 0 0 0))) (if_neg hc4) ?_
      refine am_Go.n htb 8 (S' := (36, [some (.inr (.inr (some (10, 0)))), some (.inl a1), some (.inl a2)], [.inr (.inl ((((am_si m 10 0 0 0).1 10 0 61).toInt64) - (1 : Int64))), .inr (.inl 0), .inr (.inl a2.toInt64)], am_mk (am_si m 10 0 0 0))) rfl ?_
      obtain ⟨r9, h10, h⟩ := am_bd h
      refine am_Go.cl htb rfl (ex_X10_in d (by omega) a2.toInt64 0 ((((am_si m 10 0 0 0).1 10 0 61).toInt64) - (1 : Int64)) (am_si m 10 0 0 0) r9 h10) ?_
      show am_Go d 294 (39, [some (.inr (.inr (some (10, 0)))), some (.inl a1), some (.inl a2)], [.inl r9], am_mk (am_si m 10 0 0 0)) _ _ _ _
      by_cases hc11 : r9 = 0
      · rw [if_pos hc11] at h
        refine am_Go.c1 htb (S' := (47, [some (.inr (.inr (some (10, 0)))), some (.inl a1), some (.inl a2)], [], am_mk (am_si m 10 0 0 0))) (if_pos hc11) ?_
        refine am_Go.n htb 1 (S' := (48, [some (.inr (.inr (some (10, 0)))), some (.inl a1), some (.inl a2)], [.inl (-1)], am_mk (am_si m 10 0 0 0))) rfl ?_
        cases h
        exact am_Go.rt htb rfl
      · rw [if_neg hc11] at h
        refine am_Go.c1 htb (S' := (42, [some (.inr (.inr (some (10, 0)))), some (.inl a1), some (.inl a2)], [], am_mk (am_si m 10 0 0 0))) (if_neg hc11) ?_
        refine am_Go.n htb 2 (S' := (44, [some (.inr (.inr (some (10, 0)))), some (.inl a1), some (.inl a2)], [.inl a2, .inl a1], am_mk (am_si m 10 0 0 0))) rfl ?_
        by_cases hc12 : a1 ≠ a2
        · rw [if_pos hc12] at h
          refine am_Go.c1 htb (S' := (49, [some (.inr (.inr (some (10, 0)))), some (.inl a1), some (.inl a2)], [], am_mk (am_si m 10 0 0 0))) (if_pos hc12) ?_
          refine am_Go.n htb 2 (S' := (51, [some (.inr (.inr (some (10, 0)))), some (.inl a1), some (.inl a2)], [.inl (-1), .inl a2], am_mk (am_si m 10 0 0 0))) rfl ?_
          by_cases hc13 : a2 ≠ (-1 : Int32)
          · rw [if_pos hc13] at h
            refine am_Go.c1 htb (S' := (65, [some (.inr (.inr (some (10, 0)))), some (.inl a1), some (.inl a2)], [], am_mk (am_si m 10 0 0 0))) (if_pos hc13) ?_
            refine am_Go.n htb 9 (S' := (78, [some (.inr (.inr (some (10, 0)))), some (.inl a1), some (.inl a2)], [.inl (((10 : Int32) + ((7 : Int32) * a1)) + a2), .inr (.inr (some (63, 0)))], am_mk (am_si m 10 0 0 0))) rfl ?_
            obtain ⟨hg14, h⟩ := am_ck_some h
            refine am_Go.c1 htb (S' := (79, [some (.inr (.inr (some (10, 0)))), some (.inl a1), some (.inl a2)], [.inl ((am_si m 10 0 0 0).1 63 0 (((10 : Int32) + ((7 : Int32) * a1)) + a2).toNatClampNeg)], am_mk (am_si m 10 0 0 0))) (if_neg hg14) ?_
            cases h
            exact am_Go.rt htb rfl
          · rw [if_neg hc13] at h
            refine am_Go.c1 htb (S' := (54, [some (.inr (.inr (some (10, 0)))), some (.inl a1), some (.inl a2)], [], am_mk (am_si m 10 0 0 0))) (if_neg hc13) ?_
            refine am_Go.n htb 5 (S' := (61, [some (.inr (.inr (some (10, 0)))), some (.inl a1), some (.inl a2)], [.inl ((3 : Int32) + a1), .inr (.inr (some (63, 0)))], am_mk (am_si m 10 0 0 0))) rfl ?_
            obtain ⟨hg15, h⟩ := am_ck_some h
            refine am_Go.c1 htb (S' := (62, [some (.inr (.inr (some (10, 0)))), some (.inl a1), some (.inl a2)], [.inl ((am_si m 10 0 0 0).1 63 0 ((3 : Int32) + a1).toNatClampNeg)], am_mk (am_si m 10 0 0 0))) (if_neg hg15) ?_
            refine am_Go.n htb 1 (S' := (79, [some (.inr (.inr (some (10, 0)))), some (.inl a1), some (.inl a2)], [.inl ((am_si m 10 0 0 0).1 63 0 ((3 : Int32) + a1).toNatClampNeg)], am_mk (am_si m 10 0 0 0))) rfl ?_
            cases h
            exact am_Go.rt htb rfl
        · rw [if_neg hc12] at h
          refine am_Go.c1 htb (S' := (47, [some (.inr (.inr (some (10, 0)))), some (.inl a1), some (.inl a2)], [], am_mk (am_si m 10 0 0 0))) (if_neg hc12) ?_
          refine am_Go.n htb 1 (S' := (48, [some (.inr (.inr (some (10, 0)))), some (.inl a1), some (.inl a2)], [.inl (-1)], am_mk (am_si m 10 0 0 0))) rfl ?_
          cases h
          exact am_Go.rt htb rfl
-- X10_count
def fn_X10_count (a1 : Int32) (m : am_m) : Option (Int32 × am_m) :=
  (if a1 = 0 then some (((am_si m 10 0 0 0).1 44 0 0), am_si m 10 0 0 0) else (if a1 = 1 then (fn_X10_harmsOf  (am_si m 10 0 0 0)).bind fun r3 => some (r3, am_si m 10 0 0 0) else (if a1 = 2 then (fn_X10_starving  (am_si m 10 0 0 0)).bind fun r6 => some (r6, am_si m 10 0 0 0) else (if a1 = 3 then some (((am_si m 10 0 0 0).1 44 0 1), am_si m 10 0 0 0) else (if a1 = 4 then some (((am_si m 10 0 0 0).1 44 0 2), am_si m 10 0 0 0) else (if a1 = 5 then some (((am_si m 10 0 0 0).1 10 0 8), am_si m 10 0 0 0) else (if a1 = 6 then some (((am_si m 10 0 0 0).1 10 0 13), am_si m 10 0 0 0) else (if a1 = 7 then some (((am_si m 10 0 0 0).1 43 0 1), am_si m 10 0 0 0) else (if a1 = 8 then some (((am_si m 10 0 0 0).1 43 0 2), am_si m 10 0 0 0) else (if a1 = 9 then some (((am_si m 10 0 0 0).1 43 0 3), am_si m 10 0 0 0) else (if a1 = 10 then some (((am_si m 10 0 0 0).1 43 0 5), am_si m 10 0 0 0) else (if a1 = 11 then some (((am_si m 10 0 0 0).1 43 0 6), am_si m 10 0 0 0) else (if a1 = 12 then some (((am_si m 10 0 0 0).1 44 0 3), am_si m 10 0 0 0) else (fn_X10_in a1.toInt64 13 15 (am_si m 10 0 0 0)).bind fun r18 => (if r18 = 0 then some ((-1), am_si m 10 0 0 0) else am_ck (((4 : Int32) + a1) - (13 : Int32)) 5518 (some (((am_si m 10 0 0 0).1 44 0 (((4 : Int32) + a1) - (13 : Int32)).toNatClampNeg), am_si m 10 0 0 0))))))))))))))))
set_option maxRecDepth 100000 in
theorem ex_X10_count (d : Nat) (hd : 2 ≤ d) (a1 : Int32) (m : am_m) (t : Int32 × am_m) (h : fn_X10_count a1 m = some t) : am_Ex am_cod d 295 [.inr (.inr (some (10, 0))), .inl a1] (am_mk m) (some (.inl t.1)) (am_mk t.2) 0 0 := by
  obtain ⟨d, rfl⟩ : ∃ e, d = e + 1 := ⟨d - 1, by omega⟩
  have htb : am_tab 295 = at_295 := rfl
  refine ⟨Nat.le_of_ble_eq_true rfl, ?_⟩
  unfold fn_X10_count at h
  show am_Go d 295 (0, [some (.inr (.inr (some (10, 0)))), some (.inl a1)], [], am_mk m) _ _ 0 0
  refine am_Go.n htb 4 (S' := (6, [some (.inr (.inr (some (10, 0)))), some (.inl a1)], [.inl a1], am_mk (am_si m 10 0 0 0))) rfl ?_
  by_cases hs1 : a1 = 0
  · rw [if_pos hs1] at h
    refine am_Go.o htb (am_o_sw [(0, 72), (1, 79), (2, 84), (3, 89), (4, 96), (5, 103), (6, 108), (7, 113), (8, 120), (9, 127), (10, 134), (11, 141), (12, 149)] 156) rfl (S' := (72, [some (.inr (.inr (some (10, 0)))), some (.inl a1)], [], am_mk (am_si m 10 0 0 0))) (am_sw_eq (by simp only [am_sw, if_pos hs1])) ?_
    refine am_Go.n htb 4 (S' := (78, [some (.inr (.inr (some (10, 0)))), some (.inl a1)], [.inl ((am_si m 10 0 0 0).1 44 0 0)], am_mk (am_si m 10 0 0 0))) rfl ?_
    cases h
    exact am_Go.rt htb rfl
  · rw [if_neg hs1] at h
    by_cases hs2 : a1 = 1
    · rw [if_pos hs2] at h
      refine am_Go.o htb (am_o_sw [(0, 72), (1, 79), (2, 84), (3, 89), (4, 96), (5, 103), (6, 108), (7, 113), (8, 120), (9, 127), (10, 134), (11, 141), (12, 149)] 156) rfl (S' := (79, [some (.inr (.inr (some (10, 0)))), some (.inl a1)], [], am_mk (am_si m 10 0 0 0))) (am_sw_eq (by simp only [am_sw, if_neg hs1, if_pos hs2])) ?_
      refine am_Go.n htb 1 (S' := (80, [some (.inr (.inr (some (10, 0)))), some (.inl a1)], [.inr (.inr (some (10, 0)))], am_mk (am_si m 10 0 0 0))) rfl ?_
      obtain ⟨r3, h4, h⟩ := am_bd h
      refine am_Go.cl htb rfl (ex_X10_harmsOf d (by omega)  (am_si m 10 0 0 0) r3 h4) ?_
      show am_Go d 295 (83, [some (.inr (.inr (some (10, 0)))), some (.inl a1)], [.inl r3], am_mk (am_si m 10 0 0 0)) _ _ _ _
      cases h
      exact am_Go.rt htb rfl
    · rw [if_neg hs2] at h
      by_cases hs5 : a1 = 2
      · rw [if_pos hs5] at h
        refine am_Go.o htb (am_o_sw [(0, 72), (1, 79), (2, 84), (3, 89), (4, 96), (5, 103), (6, 108), (7, 113), (8, 120), (9, 127), (10, 134), (11, 141), (12, 149)] 156) rfl (S' := (84, [some (.inr (.inr (some (10, 0)))), some (.inl a1)], [], am_mk (am_si m 10 0 0 0))) (am_sw_eq (by simp only [am_sw, if_neg hs1, if_neg hs2, if_pos hs5])) ?_
        refine am_Go.n htb 1 (S' := (85, [some (.inr (.inr (some (10, 0)))), some (.inl a1)], [.inr (.inr (some (10, 0)))], am_mk (am_si m 10 0 0 0))) rfl ?_
        obtain ⟨r6, h7, h⟩ := am_bd h
        refine am_Go.cl htb rfl (ex_X10_starving d (by omega)  (am_si m 10 0 0 0) r6 h7) ?_
        show am_Go d 295 (88, [some (.inr (.inr (some (10, 0)))), some (.inl a1)], [.inl r6], am_mk (am_si m 10 0 0 0)) _ _ _ _
        cases h
        exact am_Go.rt htb rfl
      · rw [if_neg hs5] at h
        by_cases hs8 : a1 = 3
        · rw [if_pos hs8] at h
          refine am_Go.o htb (am_o_sw [(0, 72), (1, 79), (2, 84), (3, 89), (4, 96), (5, 103), (6, 108), (7, 113), (8, 120), (9, 127), (10, 134), (11, 141), (12, 149)] 156) rfl (S' := (89, [some (.inr (.inr (some (10, 0)))), some (.inl a1)], [], am_mk (am_si m 10 0 0 0))) (am_sw_eq (by simp only [am_sw, if_neg hs1, if_neg hs2, if_neg hs5, if_pos hs8])) ?_
          refine am_Go.n htb 4 (S' := (95, [some (.inr (.inr (some (10, 0)))), some (.inl a1)], [.inl ((am_si m 10 0 0 0).1 44 0 1)], am_mk (am_si m 10 0 0 0))) rfl ?_
          cases h
          exact am_Go.rt htb rfl
        · rw [if_neg hs8] at h
          by_cases hs9 : a1 = 4
          · rw [if_pos hs9] at h
            refine am_Go.o htb (am_o_sw [(0, 72), (1, 79), (2, 84), (3, 89), (4, 96), (5, 103), (6, 108), (7, 113), (8, 120), (9, 127), (10, 134), (11, 141), (12, 149)] 156) rfl (S' := (96, [some (.inr (.inr (some (10, 0)))), some (.inl a1)], [], am_mk (am_si m 10 0 0 0))) (am_sw_eq (by simp only [am_sw, if_neg hs1, if_neg hs2, if_neg hs5, if_neg hs8, if_pos hs9])) ?_
            refine am_Go.n htb 4 (S' := (102, [some (.inr (.inr (some (10, 0)))), some (.inl a1)], [.inl ((am_si m 10 0 0 0).1 44 0 2)], am_mk (am_si m 10 0 0 0))) rfl ?_
            cases h
            exact am_Go.rt htb rfl
          · rw [if_neg hs9] at h
            by_cases hs10 : a1 = 5
            · rw [if_pos hs10] at h
              refine am_Go.o htb (am_o_sw [(0, 72), (1, 79), (2, 84), (3, 89), (4, 96), (5, 103), (6, 108), (7, 113), (8, 120), (9, 127), (10, 134), (11, 141), (12, 149)] 156) rfl (S' := (103, [some (.inr (.inr (some (10, 0)))), some (.inl a1)], [], am_mk (am_si m 10 0 0 0))) (am_sw_eq (by simp only [am_sw, if_neg hs1, if_neg hs2, if_neg hs5, if_neg hs8, if_neg hs9, if_pos hs10])) ?_
              refine am_Go.n htb 2 (S' := (107, [some (.inr (.inr (some (10, 0)))), some (.inl a1)], [.inl ((am_si m 10 0 0 0).1 10 0 8)], am_mk (am_si m 10 0 0 0))) rfl ?_
              cases h
              exact am_Go.rt htb rfl
            · rw [if_neg hs10] at h
              by_cases hs11 : a1 = 6
              · rw [if_pos hs11] at h
                refine am_Go.o htb (am_o_sw [(0, 72), (1, 79), (2, 84), (3, 89), (4, 96), (5, 103), (6, 108), (7, 113), (8, 120), (9, 127), (10, 134), (11, 141), (12, 149)] 156) rfl (S' := (108, [some (.inr (.inr (some (10, 0)))), some (.inl a1)], [], am_mk (am_si m 10 0 0 0))) (am_sw_eq (by simp only [am_sw, if_neg hs1, if_neg hs2, if_neg hs5, if_neg hs8, if_neg hs9, if_neg hs10, if_pos hs11])) ?_
                refine am_Go.n htb 2 (S' := (112, [some (.inr (.inr (some (10, 0)))), some (.inl a1)], [.inl ((am_si m 10 0 0 0).1 10 0 13)], am_mk (am_si m 10 0 0 0))) rfl ?_
                cases h
                exact am_Go.rt htb rfl
              · rw [if_neg hs11] at h
                by_cases hs12 : a1 = 7
                · rw [if_pos hs12] at h
                  refine am_Go.o htb (am_o_sw [(0, 72), (1, 79), (2, 84), (3, 89), (4, 96), (5, 103), (6, 108), (7, 113), (8, 120), (9, 127), (10, 134), (11, 141), (12, 149)] 156) rfl (S' := (113, [some (.inr (.inr (some (10, 0)))), some (.inl a1)], [], am_mk (am_si m 10 0 0 0))) (am_sw_eq (by simp only [am_sw, if_neg hs1, if_neg hs2, if_neg hs5, if_neg hs8, if_neg hs9, if_neg hs10, if_neg hs11, if_pos hs12])) ?_
                  refine am_Go.n htb 4 (S' := (119, [some (.inr (.inr (some (10, 0)))), some (.inl a1)], [.inl ((am_si m 10 0 0 0).1 43 0 1)], am_mk (am_si m 10 0 0 0))) rfl ?_
                  cases h
                  exact am_Go.rt htb rfl
                · rw [if_neg hs12] at h
                  by_cases hs13 : a1 = 8
                  · rw [if_pos hs13] at h
                    refine am_Go.o htb (am_o_sw [(0, 72), (1, 79), (2, 84), (3, 89), (4, 96), (5, 103), (6, 108), (7, 113), (8, 120), (9, 127), (10, 134), (11, 141), (12, 149)] 156) rfl (S' := (120, [some (.inr (.inr (some (10, 0)))), some (.inl a1)], [], am_mk (am_si m 10 0 0 0))) (am_sw_eq (by simp only [am_sw, if_neg hs1, if_neg hs2, if_neg hs5, if_neg hs8, if_neg hs9, if_neg hs10, if_neg hs11, if_neg hs12, if_pos hs13])) ?_
                    refine am_Go.n htb 4 (S' := (126, [some (.inr (.inr (some (10, 0)))), some (.inl a1)], [.inl ((am_si m 10 0 0 0).1 43 0 2)], am_mk (am_si m 10 0 0 0))) rfl ?_
                    cases h
                    exact am_Go.rt htb rfl
                  · rw [if_neg hs13] at h
                    by_cases hs14 : a1 = 9
                    · rw [if_pos hs14] at h
                      refine am_Go.o htb (am_o_sw [(0, 72), (1, 79), (2, 84), (3, 89), (4, 96), (5, 103), (6, 108), (7, 113), (8, 120), (9, 127), (10, 134), (11, 141), (12, 149)] 156) rfl (S' := (127, [some (.inr (.inr (some (10, 0)))), some (.inl a1)], [], am_mk (am_si m 10 0 0 0))) (am_sw_eq (by simp only [am_sw, if_neg hs1, if_neg hs2, if_neg hs5, if_neg hs8, if_neg hs9, if_neg hs10, if_neg hs11, if_neg hs12, if_neg hs13, if_pos hs14])) ?_
                      refine am_Go.n htb 4 (S' := (133, [some (.inr (.inr (some (10, 0)))), some (.inl a1)], [.inl ((am_si m 10 0 0 0).1 43 0 3)], am_mk (am_si m 10 0 0 0))) rfl ?_
                      cases h
                      exact am_Go.rt htb rfl
                    · rw [if_neg hs14] at h
                      by_cases hs15 : a1 = 10
                      · rw [if_pos hs15] at h
                        refine am_Go.o htb (am_o_sw [(0, 72), (1, 79), (2, 84), (3, 89), (4, 96), (5, 103), (6, 108), (7, 113), (8, 120), (9, 127), (10, 134), (11, 141), (12, 149)] 156) rfl (S' := (134, [some (.inr (.inr (some (10, 0)))), some (.inl a1)], [], am_mk (am_si m 10 0 0 0))) (am_sw_eq (by simp only [am_sw, if_neg hs1, if_neg hs2, if_neg hs5, if_neg hs8, if_neg hs9, if_neg hs10, if_neg hs11, if_neg hs12, if_neg hs13, if_neg hs14, if_pos hs15])) ?_
                        refine am_Go.n htb 4 (S' := (140, [some (.inr (.inr (some (10, 0)))), some (.inl a1)], [.inl ((am_si m 10 0 0 0).1 43 0 5)], am_mk (am_si m 10 0 0 0))) rfl ?_
                        cases h
                        exact am_Go.rt htb rfl
                      · rw [if_neg hs15] at h
                        by_cases hs16 : a1 = 11
                        · rw [if_pos hs16] at h
                          refine am_Go.o htb (am_o_sw [(0, 72), (1, 79), (2, 84), (3, 89), (4, 96), (5, 103), (6, 108), (7, 113), (8, 120), (9, 127), (10, 134), (11, 141), (12, 149)] 156) rfl (S' := (141, [some (.inr (.inr (some (10, 0)))), some (.inl a1)], [], am_mk (am_si m 10 0 0 0))) (am_sw_eq (by simp only [am_sw, if_neg hs1, if_neg hs2, if_neg hs5, if_neg hs8, if_neg hs9, if_neg hs10, if_neg hs11, if_neg hs12, if_neg hs13, if_neg hs14, if_neg hs15, if_pos hs16])) ?_
                          refine am_Go.n htb 4 (S' := (148, [some (.inr (.inr (some (10, 0)))), some (.inl a1)], [.inl ((am_si m 10 0 0 0).1 43 0 6)], am_mk (am_si m 10 0 0 0))) rfl ?_
                          cases h
                          exact am_Go.rt htb rfl
                        · rw [if_neg hs16] at h
                          by_cases hs17 : a1 = 12
                          · rw [if_pos hs17] at h
                            refine am_Go.o htb (am_o_sw [(0, 72), (1, 79), (2, 84), (3, 89), (4, 96), (5, 103), (6, 108), (7, 113), (8, 120), (9, 127), (10, 134), (11, 141), (12, 149)] 156) rfl (S' := (149, [some (.inr (.inr (some (10, 0)))), some (.inl a1)], [], am_mk (am_si m 10 0 0 0))) (am_sw_eq (by simp only [am_sw, if_neg hs1, if_neg hs2, if_neg hs5, if_neg hs8, if_neg hs9, if_neg hs10, if_neg hs11, if_neg hs12, if_neg hs13, if_neg hs14, if_neg hs15, if_neg hs16, if_pos hs17])) ?_
                            refine am_Go.n htb 4 (S' := (155, [some (.inr (.inr (some (10, 0)))), some (.inl a1)], [.inl ((am_si m 10 0 0 0).1 44 0 3)], am_mk (am_si m 10 0 0 0))) rfl ?_
                            cases h
                            exact am_Go.rt htb rfl
                          · rw [if_neg hs17] at h
                            refine am_Go.o htb (am_o_sw [(0, 72), (1, 79), (2, 84), (3, 89), (4, 96), (5, 103), (6, 108), (7, 113), (8, 120), (9, 127), (10, 134), (11, 141), (12, 149)] 156) rfl (S' := (156, [some (.inr (.inr (some (10, 0)))), some (.inl a1)], [], am_mk (am_si m 10 0 0 0))) (am_sw_eq (by simp only [am_sw, if_neg hs1, if_neg hs2, if_neg hs5, if_neg hs8, if_neg hs9, if_neg hs10, if_neg hs11, if_neg hs12, if_neg hs13, if_neg hs14, if_neg hs15, if_neg hs16, if_neg hs17, if_false])) ?_
                            refine am_Go.n htb 4 (S' := (164, [some (.inr (.inr (some (10, 0)))), some (.inl a1)], [.inr (.inl 15), .inr (.inl 13), .inr (.inl a1.toInt64)], am_mk (am_si m 10 0 0 0))) rfl ?_
                            obtain ⟨r18, h19, h⟩ := am_bd h
                            refine am_Go.cl htb rfl (ex_X10_in d (by omega) a1.toInt64 13 15 (am_si m 10 0 0 0) r18 h19) ?_
                            show am_Go d 295 (167, [some (.inr (.inr (some (10, 0)))), some (.inl a1)], [.inl r18], am_mk (am_si m 10 0 0 0)) _ _ _ _
                            by_cases hc20 : r18 = 0
                            · rw [if_pos hc20] at h
                              refine am_Go.c1 htb (S' := (184, [some (.inr (.inr (some (10, 0)))), some (.inl a1)], [], am_mk (am_si m 10 0 0 0))) (if_pos hc20) ?_
                              refine am_Go.n htb 1 (S' := (185, [some (.inr (.inr (some (10, 0)))), some (.inl a1)], [.inl (-1)], am_mk (am_si m 10 0 0 0))) rfl ?_
                              cases h
                              exact am_Go.rt htb rfl
                            · rw [if_neg hc20] at h
                              refine am_Go.c1 htb (S' := (170, [some (.inr (.inr (some (10, 0)))), some (.inl a1)], [], am_mk (am_si m 10 0 0 0))) (if_neg hc20) ?_
                              refine am_Go.n htb 7 (S' := (180, [some (.inr (.inr (some (10, 0)))), some (.inl a1)], [.inl (((4 : Int32) + a1) - (13 : Int32)), .inr (.inr (some (44, 0)))], am_mk (am_si m 10 0 0 0))) rfl ?_
                              obtain ⟨hg21, h⟩ := am_ck_some h
                              refine am_Go.c1 htb (S' := (181, [some (.inr (.inr (some (10, 0)))), some (.inl a1)], [.inl ((am_si m 10 0 0 0).1 44 0 (((4 : Int32) + a1) - (13 : Int32)).toNatClampNeg)], am_mk (am_si m 10 0 0 0))) (if_neg hg21) ?_
                              refine am_Go.n htb 1 (S' := (185, [some (.inr (.inr (some (10, 0)))), some (.inl a1)], [.inl ((am_si m 10 0 0 0).1 44 0 (((4 : Int32) + a1) - (13 : Int32)).toNatClampNeg)], am_mk (am_si m 10 0 0 0))) rfl ?_
                              cases h
                              exact am_Go.rt htb rfl
-- X10_status
def fn_X10_status  (m : am_m) : Option (Int32 × am_m) :=
  some (((am_si m 10 0 0 0).1 10 0 1), am_si m 10 0 0 0)
set_option maxRecDepth 100000 in
theorem ex_X10_status (d : Nat) (hd : 1 ≤ d)  (m : am_m) (t : Int32 × am_m) (h : fn_X10_status  m = some t) : am_Ex am_cod d 296 [.inr (.inr (some (10, 0)))] (am_mk m) (some (.inl t.1)) (am_mk t.2) 0 0 := by
  obtain ⟨d, rfl⟩ : ∃ e, d = e + 1 := ⟨d - 1, by omega⟩
  have htb : am_tab 296 = at_296 := rfl
  refine ⟨Nat.le_of_ble_eq_true rfl, ?_⟩
  unfold fn_X10_status at h
  show am_Go d 296 (0, [some (.inr (.inr (some (10, 0))))], [], am_mk m) _ _ 0 0
  refine am_Go.n htb 5 (S' := (9, [some (.inr (.inr (some (10, 0))))], [.inl ((am_si m 10 0 0 0).1 10 0 1)], am_mk (am_si m 10 0 0 0))) rfl ?_
  cases h
  exact am_Go.rt htb rfl
