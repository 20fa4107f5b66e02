/-! the start: both are made; what holds then -/
def lens0 : Nat → Nat → Nat := fun c _ => if c = 28 then 72 else if c = 29 then 448 else 0
def C00 : Nat → Nat := fun c => if c = 19 then 1 else 0
def I00 : Nat → Nat → Nat → Int32 := fun _ _ _ => 0
def G00 : Nat → Nat → Nat → Int64 := fun _ _ _ => 0
def e00 (C : Nat → Nat) : am_e := (fun _ => some 0, fun _ => none, fun _ _ => none, fun _ _ => none, lens0, C)
def m00 : am_m := (I00, G00, e00 C00)
def m09 : am_m := (ci_X9_init (am_u2 I00 9 0 (fun _ => 0)) 0, cg_X9_init (am_u2 G00 9 0 (fun _ => 0)) 0, e00 (cc_X9_init (am_u1 C00 9 1) 0))
def mS : am_m := (ci_X10_init (am_u2 m09.1 10 0 (fun _ => 0)) 0, cg_X10_init (am_u2 m09.2.1 10 0 (fun _ => 0)) 0, e00 (cc_X10_init (am_u1 m09.2.2.2.2.2.2.2 10 1) 0))
theorem e00_R (C C' : Nat → Nat) : am_R0 (e00 C) = am_R0 (e00 C') := rfl
theorem e00_N (C C' : Nat → Nat) : am_N0 (e00 C) = am_N0 (e00 C') := rfl
theorem e00_9 (C : Nat → Nat) : cp_X9_init (fun _ => none) 0 = am_R0 (e00 C) 9 0 := by
  funext k
  rcases k with _ | _ | _ | _ | _ | _ | _ | _ | _ | _ | _ | _ | _ | _ | _ | k <;> rfl
theorem e00_10 (C : Nat → Nat) : cp_X10_init (fun _ => none) 0 = am_R0 (e00 C) 10 0 := by
  funext k
  rcases k with _ | _ | _ | _ | _ | _ | _ | _ | _ | _ | _ | _ | _ | _ | _ | _ | _ | _ | _ | _ | _ | _ | _ | _ | _ | _ | _ | _ | _ | _ | _ | _ | _ | _ | _ | _ | _ | _ | _ | _ | _ | _ | _ | _ | _ | _ | _ | _ | _ | _ | _ | _ | _ | _ | _ | _ | _ | _ | _ | _ | _ | k <;> rfl
set_option maxRecDepth 100000 in
theorem st9 (d : Nat) (hd : 4 ≤ d) : ∃ k s, k ≤ 100 ∧ s ≤ 4000 ∧ am_Ex am_cod d 112 [.inr (.inr (some (9, 0)))] (am_u2 I00 9 0 (fun _ => 0), am_u2 G00 9 0 (fun _ => 0), am_u2 (am_R0 (e00 C00)) 9 0 (fun _ => none), am_N0 (e00 C00), am_u1 C00 9 1) none (am_mk m09) k s := by
  refine ⟨_, _, ?_, ?_, (?_ : am_Ex am_cod d 112 [.inr (.inr (some (9, 0)))] (am_u2 I00 9 0 (fun _ => 0), am_u2 G00 9 0 (fun _ => 0), am_u2 (am_R0 (e00 C00)) 9 0 (fun _ => none), am_N0 (e00 C00), am_u1 C00 9 1) none (am_mk m09) _ _)⟩
  rotate_left 2
  · have h := ex_X9_init d hd (am_R0 (e00 C00)) (am_N0 (e00 C00)) (am_u2 I00 9 0 (fun _ => 0)) (am_u2 G00 9 0 (fun _ => 0)) (am_u1 C00 9 1) 0 (fun _ => none)
    rw [am_u2_id (e00_9 C00)] at h
    apply h <;> first | rfl | (funext k; rcases k with _ | _ | _ | _ | _ | _ | _ | _ | _ | _ | k <;> rfl)
  · exact Nat.le_of_ble_eq_true rfl
  · exact Nat.le_of_ble_eq_true rfl
set_option maxRecDepth 100000 in
theorem st10 (d : Nat) (hd : 1 ≤ d) : ∃ k s, k ≤ 100 ∧ s ≤ 40000 ∧ am_Ex am_cod d 170 [.inr (.inr (some (10, 0)))] (am_u2 m09.1 10 0 (fun _ => 0), am_u2 m09.2.1 10 0 (fun _ => 0), am_u2 (am_R0 m09.2.2) 10 0 (fun _ => none), am_N0 m09.2.2, am_u1 m09.2.2.2.2.2.2.2 10 1) none (am_mk mS) k s := by
  refine ⟨_, _, ?_, ?_, (?_ : am_Ex am_cod d 170 [.inr (.inr (some (10, 0)))] (am_u2 m09.1 10 0 (fun _ => 0), am_u2 m09.2.1 10 0 (fun _ => 0), am_u2 (am_R0 m09.2.2) 10 0 (fun _ => none), am_N0 m09.2.2, am_u1 m09.2.2.2.2.2.2.2 10 1) none (am_mk mS) _ _)⟩
  rotate_left 2
  · have h := ex_X10_init d hd (am_R0 m09.2.2) (am_N0 m09.2.2) (am_u2 m09.1 10 0 (fun _ => 0)) (am_u2 m09.2.1 10 0 (fun _ => 0)) (am_u1 m09.2.2.2.2.2.2.2 10 1) 0 (fun _ => none)
    rw [am_u2_id (e00_10 _)] at h
    apply h <;> rfl
  · exact Nat.le_of_ble_eq_true rfl
  · exact Nat.le_of_ble_eq_true rfl
set_option maxRecDepth 100000 in
theorem mS_44 (k : Nat) : mS.1 44 0 k = if k = 5 then 1 else if k = 3 then -1 else 0 := rfl
set_option maxRecDepth 100000 in
theorem mS_z : (∀ k, mS.1 8 0 k = if k = 3 then -1 else if k = 2 then 0 else if k = 1 then 0 else if k = 0 then 0 else 0) ∧ (∀ k, mS.1 36 0 k = 0) ∧ (∀ k, mS.1 37 0 k = 0) ∧ (∀ k, mS.1 38 0 k = 0) ∧ (∀ k, mS.1 39 0 k = if k = 1 then 1 else 0) ∧ ∀ k, mS.1 40 0 k = 0 := ⟨fun _ => rfl, fun _ => rfl, fun _ => rfl, fun _ => rfl, fun _ => rfl, fun _ => rfl⟩
theorem mS_nv {k : Nat} (h3 : k ≠ 3) : mS.1 44 0 k = nI (if k = 5 then 1 else 0) := by
  rw [mS_44]
  by_cases h : k = 5
  · rw [if_pos h, if_pos h]; rfl
  · rw [if_neg h, if_neg h, if_neg h3]; rfl
theorem mS_v {k : Nat} (h3 : k ≠ 3) : nv (mS.1 44 0 k) = if k = 5 then 1 else 0 := by
  rw [mS_nv h3, nv_nI]
  by_cases h : k = 5
  · rw [if_pos h]; decide
  · rw [if_neg h]; decide
theorem mS_W : iv_W 999 (mS.1 44 0) := by
  have v0 : ∀ k, k ≠ 3 → k ≠ 5 → nv (mS.1 44 0 k) = 0 := fun k a b => by rw [mS_v a, if_neg b]
  refine ⟨fun k _ h3 => ?_, by rw [v0 0 (by decide) (by decide)]; decide, by rw [v0 1 (by decide) (by decide)]; decide, by rw [v0 2 (by decide) (by decide)]; decide, Or.inl rfl, by rw [v0 4 (by decide) (by decide)]; decide, by rw [mS_v (by decide), if_pos rfl]; decide, by rw [v0 6 (by decide) (by decide)]; decide, fun k _ => by rw [v0 _ (by omega) (by omega)]; decide, fun p q _ _ => by rw [v0 _ (by omega) (by omega)]; exact ⟨by decide, fun z => absurd z (by decide)⟩, fun k _ => by rw [v0 _ (by omega) (by omega)]; decide, fun k _ => by rw [v0 _ (by omega) (by omega)]; decide⟩
  rw [mS_v h3]
  exact mS_nv h3
set_option maxRecDepth 100000 in
theorem mS_U : iv_U mS 0 (mS.1 44 0) := by
  obtain ⟨z8, z36, z37, z38, z39, z40⟩ := mS_z
  refine ⟨rfl, rfl, rfl, rfl, fun k hk => ?_, fun k hk => ?_, fun k hk => ?_, fun k hk z => ?_, fun k hk => ?_⟩
  · rw [z39, mS_44]
    have : k = 0 ∨ k = 1 ∨ k = 2 := by omega
    rcases this with rfl | rfl | rfl <;> rfl
  · rw [z36, mS_44, if_neg (by omega), if_neg (by omega)]
  · rw [z37, mS_44, if_neg (by omega), if_neg (by omega)]
  · rw [mS_v (by omega), if_neg (by omega)] at z
    exact absurd z (by decide)
  · rw [z40, mS_44, if_neg (by omega), if_neg (by omega)]
set_option maxRecDepth 100000 in
theorem mS_A : iv_A mS.2.2 := by
  refine ⟨fun c n hc => ?_, rfl, rfl, by decide, rfl, rfl, by decide, fun c h1 h2 => ?_, rfl, fun n _ => rfl⟩
  · show lens0 c n = 0
    unfold lens0
    rw [if_neg (by omega), if_neg (by omega)]
  · have : c = 36 ∨ c = 37 ∨ c = 38 ∨ c = 39 ∨ c = 40 := by omega
    rcases this with rfl | rfl | rfl | rfl | rfl <;> rfl
set_option maxRecDepth 100000 in
theorem mS_C : iv_C mS.2.1 := by
  refine ⟨fun k hk => ?_, fun k hk => ?_, fun k hk => ?_, fun k hk => ?_⟩
  · rcases (by omega : k = 0 ∨ k = 1 ∨ k = 2 ∨ k = 3 ∨ k = 4 ∨ k = 5 ∨ k = 6 ∨ k = 7) with rfl | rfl | rfl | rfl | rfl | rfl | rfl | rfl <;> rfl
  · rcases (by omega : k = 0 ∨ k = 1 ∨ k = 2 ∨ k = 3 ∨ k = 4 ∨ k = 5 ∨ k = 6) with rfl | rfl | rfl | rfl | rfl | rfl | rfl <;> rfl
  · rcases (by omega : k = 0 ∨ k = 1 ∨ k = 2 ∨ k = 3) with rfl | rfl | rfl | rfl <;> rfl
  · rcases (by omega : k = 0 ∨ k = 1 ∨ k = 2 ∨ k = 3) with rfl | rfl | rfl | rfl <;> rfl
set_option maxRecDepth 100000 in
theorem mS_Inv : Inv mS := by
  refine ⟨⟨mS_W, mS_U, fun k hk => ?_, ⟨rfl, 0, by decide, rfl, fun j hj => absurd hj (Nat.not_lt_zero _)⟩, ⟨fun j _ => Or.inl ⟨rfl, rfl⟩, fun u z => by cases z⟩, Or.inl ⟨rfl, rfl⟩, ⟨rfl, 0, by decide, rfl, fun k hk => absurd hk (Nat.not_lt_zero _)⟩, ⟨rfl, rfl, rfl, rfl⟩, mS_A, mS_C⟩, rfl, fun k _ _ => rfl⟩
  rw [mS_v (by decide), if_neg (by decide)] at hk
  exact absurd hk (Nat.not_lt_zero _)
set_option maxRecDepth 100000 in
theorem law_start {xs : Nat → Int32} {Lx d : Nat} (hd : 60 ≤ d) {r : Option am_V} {M' : am_M} {kc ks : Nat} (g : GL xs Lx d (18, LL (nI (6 * 0)), [], am_mk mS) r M' kc ks) : ∃ k s, k ≤ 300 ∧ s ≤ 50000 ∧ GL xs Lx d (0, [some (.inr (.inr (some (19, 0)))), none, none, none], [], am_mk m00) r M' (k + kc) (s + ks) := by
  obtain ⟨k9, s9, a1, a2, a3⟩ := st9 d (by omega)
  obtain ⟨k10, s10, b1, b2, b3⟩ := st10 d (by omega)
  refine ⟨1 + (k9 + (1 + k10)), 18 + (s9 + (62 + s10)), by omega, by omega, ?_⟩
  rw [show 1 + (k9 + (1 + k10)) + kc = 1 + (k9 + (1 + (k10 + kc))) by omega, show 18 + (s9 + (62 + s10)) + ks = 18 + (s9 + (62 + (s10 + ks))) by omega]
  refine GL.al (am_o_new 9 18) rfl (S' := (3, [some (.inr (.inr (some (19, 0)))), none, none, none], [.inr (.inr (some (9, 0)))], (am_u2 I00 9 0 (fun _ => 0), am_u2 G00 9 0 (fun _ => 0), am_u2 (am_R0 (e00 C00)) 9 0 (fun _ => none), am_N0 (e00 C00), am_u1 C00 9 1))) (am_newi (n := 0) rfl rfl) ?_
  refine GL.n 1 (S' := (4, [some (.inr (.inr (some (19, 0)))), none, none, none], [.inr (.inr (some (9, 0))), .inr (.inr (some (9, 0)))], (am_u2 I00 9 0 (fun _ => 0), am_u2 G00 9 0 (fun _ => 0), am_u2 (am_R0 (e00 C00)) 9 0 (fun _ => none), am_N0 (e00 C00), am_u1 C00 9 1))) rfl ?_
  refine GL.ca rfl a3 ?_
  show GL xs Lx d (7, [some (.inr (.inr (some (19, 0)))), none, none, none], [.inr (.inr (some (9, 0)))], am_mk m09) _ _ _ _
  refine GL.n 1 (S' := (8, [some (.inr (.inr (some (19, 0)))), some (.inr (.inr (some (9, 0)))), none, none], [], am_mk m09)) rfl ?_
  refine GL.al (am_o_new 10 62) rfl (S' := (11, [some (.inr (.inr (some (19, 0)))), some (.inr (.inr (some (9, 0)))), none, none], [.inr (.inr (some (10, 0)))], (am_u2 m09.1 10 0 (fun _ => 0), am_u2 m09.2.1 10 0 (fun _ => 0), am_u2 (am_R0 m09.2.2) 10 0 (fun _ => none), am_N0 m09.2.2, am_u1 m09.2.2.2.2.2.2.2 10 1))) (am_newi (n := 0) rfl rfl) ?_
  refine GL.n 1 (S' := (12, [some (.inr (.inr (some (19, 0)))), some (.inr (.inr (some (9, 0)))), none, none], [.inr (.inr (some (10, 0))), .inr (.inr (some (10, 0)))], (am_u2 m09.1 10 0 (fun _ => 0), am_u2 m09.2.1 10 0 (fun _ => 0), am_u2 (am_R0 m09.2.2) 10 0 (fun _ => none), am_N0 m09.2.2, am_u1 m09.2.2.2.2.2.2.2 10 1))) rfl ?_
  refine GL.ca rfl b3 ?_
  show GL xs Lx d (15, [some (.inr (.inr (some (19, 0)))), some (.inr (.inr (some (9, 0)))), none, none], [.inr (.inr (some (10, 0)))], am_mk mS) _ _ _ _
  exact GL.n 3 (S' := (18, LL (nI (6 * 0)), [], am_mk mS)) rfl g
/-- the law runs to its end, with true -/
theorem law_run {xs : Nat → Int32} {Lx d : Nat} (hd : 60 ≤ d) (hL : Lx ≤ 3072) : ∃ M' kc ks, kc ≤ 10000 ∧ ks ≤ 500000 ∧ GL xs Lx d (0, [some (.inr (.inr (some (19, 0)))), none, none, none], [], am_mk m00) (some (.inl 1)) M' kc ks := by
  obtain ⟨M', kc, ks, h1, h2, h3⟩ := law_loop (xs := xs) (d := d) hd hL 512 0 mS (by omega) (by omega) mS_Inv
  obtain ⟨k, s, g1, g2, g3⟩ := law_start hd h3
  exact ⟨M', k + kc, s + ks, by omega, by omega, g3⟩
