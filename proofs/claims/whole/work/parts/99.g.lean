/-! what holds at the start -/
theorem mS_W1 : ∀ k, k < 118 → k ≠ 3 → mS.1 44 0 k = nI (nv (mS.1 44 0 k)) := by decide +kernel
theorem mS_v0 : ∀ k, k < 118 → k ≠ 3 → k ≠ 5 → nv (mS.1 44 0 k) = 0 := by decide +kernel
theorem mS_3 : mS.1 44 0 3 = -1 ∧ nv (mS.1 44 0 5) = 1 := by decide +kernel
theorem mS_W : iv_W 999 (mS.1 44 0) := by
  have v0 := mS_v0
  refine ⟨mS_W1, by rw [v0 0 (by decide) (by decide) (by decide)]; decide, by rw [v0 1 (by decide) (by decide) (by decide)]; decide, by rw [v0 2 (by decide) (by decide) (by decide)]; decide, Or.inl mS_3.1, by rw [v0 4 (by decide) (by decide) (by decide)]; decide, by rw [mS_3.2]; decide, by rw [v0 6 (by decide) (by decide) (by decide)]; decide, fun k _ => by rw [v0 _ (by omega) (by omega) (by omega)]; decide, fun p q _ _ => by rw [v0 _ (by omega) (by omega) (by omega)]; exact ⟨by decide, fun z => absurd z (by decide)⟩, fun k _ => by rw [v0 _ (by omega) (by omega) (by omega)]; decide, fun k _ => by rw [v0 _ (by omega) (by omega) (by omega)]; decide⟩
theorem mS_U1 : mS.1 8 0 0 = mS.1 44 0 0 ∧ mS.1 8 0 1 = mS.1 44 0 1 ∧ mS.1 8 0 2 = mS.1 44 0 2 ∧ mS.1 8 0 3 = mS.1 44 0 3 := by decide +kernel
theorem mS_U2 : ∀ k, k < 3 → mS.1 39 0 k = mS.1 44 0 (4 + k) := by decide +kernel
theorem mS_U3 : ∀ k, k < 7 → mS.1 36 0 k = mS.1 44 0 (7 + k) := by decide +kernel
theorem mS_U4 : ∀ k, k < 49 → mS.1 37 0 k = mS.1 44 0 (14 + k) := by decide +kernel
theorem mS_U5 : ∀ k, k < 6 → mS.1 40 0 k = mS.1 44 0 (112 + k) := by decide +kernel
theorem mS_U : iv_U mS 0 (mS.1 44 0) := ⟨mS_U1.1, mS_U1.2.1, mS_U1.2.2.1, mS_U1.2.2.2, mS_U2, mS_U3, mS_U4, fun k hk z => by rw [mS_v0 _ (by omega) (by omega) (by omega)] at z; exact absurd z (by decide), mS_U5⟩
theorem mS_H : mS.1 3 0 1 = mS.1 10 0 8 ∧ mS.1 10 0 8 = nI 0 := by decide +kernel
theorem mS_91 : ∀ j, j < 2 → mS.1 91 0 j = 0 := by decide +kernel
theorem mS_D : mS.1 10 0 61 = -1 ∧ mS.1 8 2 0 = 0 := by decide +kernel
theorem mS_T : mS.1 7 0 1 = mS.1 10 0 13 ∧ mS.1 10 0 13 = nI 0 := by decide +kernel
theorem mS_X : mS.1 9 0 15 = mS.1 10 0 11 ∧ mS.1 9 0 16 = mS.1 10 0 57 ∧ mS.1 4 0 10 = mS.1 10 0 18 ∧ mS.1 10 0 20 = 0 := by decide +kernel
theorem mS_S : mS.1 9 0 17 = mS.1 10 0 1 ∧ ∀ k, k < 7 → mS.1 42 0 k = mS.1 43 0 k := by decide +kernel
theorem mS_A1 : mS.2.2.2.2.2.2.2 5 = 1 ∧ mS.2.2.2.2.2.2.2 28 = 1 ∧ mS.2.2.2.2.2.2.2 29 = 1 ∧ mS.2.2.2.2.2.2.2 8 = 4 ∧ mS.2.2.2.2.2.2.2 100 = 4 ∧ ∀ c, c < 41 → 36 ≤ c → mS.2.2.2.2.2.2.2 c = 4 := by decide +kernel
theorem mS_A : iv_A mS.2.2 := by
  obtain ⟨a1, a2, a3, a4, a5, a6⟩ := mS_A1
  refine ⟨fun c n hc => ?_, rfl, rfl, by rw [a1]; decide, by rw [a1, a2], by rw [a1, a3], by rw [a4]; decide, fun c h1 h2 => by rw [a4, a6 c (by omega) h1], by rw [a4, a5], fun n _ => rfl⟩
  show lens0 c n = 0
  unfold lens0
  rw [if_neg (by omega), if_neg (by omega)]
theorem mS_C1 : ∀ k, k < 8 → mS.2.1 82 0 k = [146610, 16392370, 777297172, 1253, 6308, 632645, 4153, 441828].getD k 0 := by decide +kernel
theorem mS_C2 : ∀ k, k < 7 → mS.2.1 83 0 k = [4153, 146885, 404362868, 8440243, 674363024839, 6308, 52].getD k 0 := by decide +kernel
theorem mS_C3 : ∀ k, k < 4 → mS.2.1 84 0 k = [117095059, 6460563, 9309492819, 67155].getD k 0 := by decide +kernel
theorem mS_C4 : ∀ k, k < 4 → mS.2.1 89 0 k = [263757, 6456948, 538513902, 525939].getD k 0 := by decide +kernel
theorem mS_Inv : Inv mS := by
  refine ⟨⟨mS_W, mS_U, fun k hk => ?_, ⟨mS_H.1, 0, by decide, mS_H.2, fun j hj => absurd hj (Nat.not_lt_zero _)⟩, ⟨fun j hj => Or.inl ⟨mS_91 j hj, rfl⟩, fun u z => by cases z⟩, Or.inl mS_D, ⟨mS_T.1, 0, by decide, mS_T.2, fun k hk => absurd hk (Nat.not_lt_zero _)⟩, mS_X, mS_A, ⟨mS_C1, mS_C2, mS_C3, mS_C4⟩⟩, mS_S.1, fun k _ h => mS_S.2 k h⟩
  rw [mS_v0 2 (by decide) (by decide) (by decide)] at hk
  exact absurd hk (Nat.not_lt_zero _)
set_option maxRecDepth 100000 in
theorem law_start {xs : Nat → Int32} {Lx d : Nat} (hd : 60 ≤ d) {r : Option am_V} {M' : am_M} {kc ks : Nat} (g : GL xs Lx d (18, LL (nI (6 * 0)), [], am_mk mS) r M' kc ks) : GL xs Lx d (0, [some (.inr (.inr (some (19, 0)))), none, none, none], [], am_mk m00) r M' (1 + (k09 + (1 + (k10 + kc)))) (18 + (s09 + (62 + (s10 + ks)))) := by
  have c10 : m09.2.2.2.2.2.2.2 10 = 0 := by decide +kernel
  refine GL.al (am_o_new 9 18) rfl (S' := (3, [some (.inr (.inr (some (19, 0)))), none, none, none], [.inr (.inr (some (9, 0)))], (am_u2 I00 9 0 (fun _ => 0), am_u2 G00 9 0 (fun _ => 0), am_u2 (am_R0 (e00 C00)) 9 0 (fun _ => none), am_N0 (e00 C00), am_u1 C00 9 1))) (am_newi (n := 0) rfl rfl) ?_
  refine GL.n 1 (S' := (4, [some (.inr (.inr (some (19, 0)))), none, none, none], [.inr (.inr (some (9, 0))), .inr (.inr (some (9, 0)))], (am_u2 I00 9 0 (fun _ => 0), am_u2 G00 9 0 (fun _ => 0), am_u2 (am_R0 (e00 C00)) 9 0 (fun _ => none), am_N0 (e00 C00), am_u1 C00 9 1))) rfl ?_
  refine GL.ca rfl (st9 d (by omega)) ?_
  show GL xs Lx d (7, [some (.inr (.inr (some (19, 0)))), none, none, none], [.inr (.inr (some (9, 0)))], am_mk m09) _ _ _ _
  refine GL.n 1 (S' := (8, [some (.inr (.inr (some (19, 0)))), some (.inr (.inr (some (9, 0)))), none, none], [], am_mk m09)) rfl ?_
  show GL xs Lx d (8, [some (.inr (.inr (some (19, 0)))), some (.inr (.inr (some (9, 0)))), none, none], [], (m09.1, m09.2.1, am_R0 (e00 C00), am_N0 (e00 C00), m09.2.2.2.2.2.2.2)) _ _ _ _
  refine GL.al (am_o_new 10 62) rfl (S' := (11, [some (.inr (.inr (some (19, 0)))), some (.inr (.inr (some (9, 0)))), none, none], [.inr (.inr (some (10, 0)))], (am_u2 m09.1 10 0 (fun _ => 0), am_u2 m09.2.1 10 0 (fun _ => 0), am_u2 (am_R0 (e00 C00)) 10 0 (fun _ => none), am_N0 (e00 C00), am_u1 m09.2.2.2.2.2.2.2 10 1))) (am_newi (n := 0) c10 rfl) ?_
  refine GL.n 1 (S' := (12, [some (.inr (.inr (some (19, 0)))), some (.inr (.inr (some (9, 0)))), none, none], [.inr (.inr (some (10, 0))), .inr (.inr (some (10, 0)))], (am_u2 m09.1 10 0 (fun _ => 0), am_u2 m09.2.1 10 0 (fun _ => 0), am_u2 (am_R0 (e00 C00)) 10 0 (fun _ => none), am_N0 (e00 C00), am_u1 m09.2.2.2.2.2.2.2 10 1))) rfl ?_
  refine GL.ca rfl (st10 d (by omega)) ?_
  show GL xs Lx d (15, [some (.inr (.inr (some (19, 0)))), some (.inr (.inr (some (9, 0)))), none, none], [.inr (.inr (some (10, 0)))], am_mk mS) _ _ _ _
  exact GL.n 3 (S' := (18, LL (nI (6 * 0)), [], am_mk mS)) rfl g
/-- the law runs to its end, with true -/
theorem law_run {xs : Nat → Int32} {Lx d : Nat} (hd : 60 ≤ d) (hL : Lx ≤ 3072) : ∃ M' kc ks, kc ≤ 10000 ∧ ks ≤ 500000 ∧ GL xs Lx d (0, [some (.inr (.inr (some (19, 0)))), none, none, none], [], am_mk m00) (some (.inl 1)) M' kc ks := by
  obtain ⟨M', kc, ks, h1, h2, h3⟩ := law_loop (xs := xs) (d := d) hd hL 512 0 mS (by omega) (by omega) mS_Inv
  obtain ⟨l1, l2, l3, l4⟩ := ks_le
  exact ⟨M', 1 + (k09 + (1 + (k10 + kc))), 18 + (s09 + (62 + (s10 + ks))), by omega, by omega, law_start hd h3⟩
