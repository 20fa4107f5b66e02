/-! the law's cases; by program (wip/whole/gen/law.py) -/
abbrev LL (i : Int32) : List (Option am_V) := [some (.inr (.inr (some (19, 0)))), some (.inr (.inr (some (9, 0)))), some (.inr (.inr (some (10, 0)))), some (.inl i)]
def lwB (Lx : Nat) (i : Int32) : Prop := (¬ (i + (1 : Int32) < 0 ∨ Lx ≤ (i + (1 : Int32)).toNatClampNeg)) ∧ (¬ (i + (2 : Int32) < 0 ∨ Lx ≤ (i + (2 : Int32)).toNatClampNeg)) ∧ (¬ (i + (3 : Int32) < 0 ∨ Lx ≤ (i + (3 : Int32)).toNatClampNeg)) ∧ (¬ (i + (4 : Int32) < 0 ∨ Lx ≤ (i + (4 : Int32)).toNatClampNeg)) ∧ ¬ (i + (5 : Int32) < 0 ∨ Lx ≤ (i + (5 : Int32)).toNatClampNeg)
def lwGo (xs : Nat → Int32) (Lx d pc : Nat) (i : Int32) (m : am_m) : Prop := ∃ m2 kc ks, kc ≤ 7 ∧ ks ≤ 600 ∧ Inv m2 ∧ ∀ r M' kc' ks', GL xs Lx d (1226, LL i, [], am_mk m2) r M' kc' ks' → GL xs Lx d (pc, LL i, [], am_mk m) r M' (kc + kc') (ks + ks')
theorem mp_some {m m1 : am_m} {o : Option Int32} {v : Int32} (h : o.map (fun r => (r, m)) = some (v, m1)) : o = some v ∧ m1 = m := by
  cases o with
  | none => cases h
  | some x => cases h; exact ⟨rfl, rfl⟩
set_option maxRecDepth 100000 in
theorem lc_folk {xs : Nat → Int32} {Lx d : Nat} (hd : 60 ≤ d) {m : am_m} {i : Int32} (h : Inv m) (hb : lwB Lx i) : lwGo xs Lx d 212 i m := by
  obtain ⟨v, m1, m2, f1, f2, f3⟩ := op_folk h (xs (i + (1 : Int32)).toNatClampNeg)
  refine ⟨m2, 0, 0, by decide, by decide, f3, fun r M' kc ks hk => ?_⟩
  rw [Nat.zero_add, Nat.zero_add]
  refine GL.n 5 (S' := (217, LL i, [.inl (i + (1 : Int32)), .inr (.inr (some (19, 0))), .inr (.inr (some (9, 0)))], am_mk m)) rfl ?_
  refine GL.ld rfl rfl hb.1 ?_
  show GL xs Lx d (218, LL i, [.inl (xs (i + (1 : Int32)).toNatClampNeg), .inr (.inr (some (9, 0)))], am_mk m) _ _ _ _
  refine GL.cl rfl (ex_X9_folk d (by omega) (xs (i + (1 : Int32)).toNatClampNeg) m (v, m1) f1) ?_
  show GL xs Lx d (221, LL i, [.inl v], am_mk m1) _ _ _ _
  refine GL.n 5 (S' := (226, LL i, [.inl (i + (1 : Int32)), .inr (.inr (some (19, 0))), .inr (.inr (some (10, 0))), .inl v], am_mk m1)) rfl ?_
  refine GL.ld rfl rfl hb.1 ?_
  show GL xs Lx d (227, LL i, [.inl (xs (i + (1 : Int32)).toNatClampNeg), .inr (.inr (some (10, 0))), .inl v], am_mk m1) _ _ _ _
  refine GL.cl rfl (ex_X10_folk d (by omega) (xs (i + (1 : Int32)).toNatClampNeg) m1 (v, m2) f2) ?_
  show GL xs Lx d (230, LL i, [.inl v, .inl v], am_mk m2) _ _ _ _
  exact GL.c1 (S' := (1226, LL i, [], am_mk m2)) (if_pos rfl) hk
set_option maxRecDepth 100000 in
theorem lc_of {xs : Nat → Int32} {Lx d : Nat} (hd : 60 ≤ d) {m : am_m} {i : Int32} (h : Inv m) (hb : lwB Lx i) : lwGo xs Lx d 235 i m := by
  obtain ⟨v, m1, m2, f1, f2, f3⟩ := op_of h (xs (i + (1 : Int32)).toNatClampNeg) (xs (i + (2 : Int32)).toNatClampNeg)
  refine ⟨m2, 0, 0, by decide, by decide, f3, fun r M' kc ks hk => ?_⟩
  rw [Nat.zero_add, Nat.zero_add]
  refine GL.n 5 (S' := (240, LL i, [.inl (i + (1 : Int32)), .inr (.inr (some (19, 0))), .inr (.inr (some (9, 0)))], am_mk m)) rfl ?_
  refine GL.ld rfl rfl hb.1 ?_
  show GL xs Lx d (241, LL i, [.inl (xs (i + (1 : Int32)).toNatClampNeg), .inr (.inr (some (9, 0)))], am_mk m) _ _ _ _
  refine GL.n 4 (S' := (245, LL i, [.inl (i + (2 : Int32)), .inr (.inr (some (19, 0))), .inl (xs (i + (1 : Int32)).toNatClampNeg), .inr (.inr (some (9, 0)))], am_mk m)) rfl ?_
  refine GL.ld rfl rfl hb.2.1 ?_
  show GL xs Lx d (246, LL i, [.inl (xs (i + (2 : Int32)).toNatClampNeg), .inl (xs (i + (1 : Int32)).toNatClampNeg), .inr (.inr (some (9, 0)))], am_mk m) _ _ _ _
  refine GL.cl rfl (ex_X9_of d (by omega) (xs (i + (1 : Int32)).toNatClampNeg) (xs (i + (2 : Int32)).toNatClampNeg) m (v, m1) f1) ?_
  show GL xs Lx d (249, LL i, [.inl v], am_mk m1) _ _ _ _
  refine GL.n 5 (S' := (254, LL i, [.inl (i + (1 : Int32)), .inr (.inr (some (19, 0))), .inr (.inr (some (10, 0))), .inl v], am_mk m1)) rfl ?_
  refine GL.ld rfl rfl hb.1 ?_
  show GL xs Lx d (255, LL i, [.inl (xs (i + (1 : Int32)).toNatClampNeg), .inr (.inr (some (10, 0))), .inl v], am_mk m1) _ _ _ _
  refine GL.n 4 (S' := (259, LL i, [.inl (i + (2 : Int32)), .inr (.inr (some (19, 0))), .inl (xs (i + (1 : Int32)).toNatClampNeg), .inr (.inr (some (10, 0))), .inl v], am_mk m1)) rfl ?_
  refine GL.ld rfl rfl hb.2.1 ?_
  show GL xs Lx d (260, LL i, [.inl (xs (i + (2 : Int32)).toNatClampNeg), .inl (xs (i + (1 : Int32)).toNatClampNeg), .inr (.inr (some (10, 0))), .inl v], am_mk m1) _ _ _ _
  refine GL.cl rfl (ex_X10_of d (by omega) (xs (i + (1 : Int32)).toNatClampNeg) (xs (i + (2 : Int32)).toNatClampNeg) m1 (v, m2) f2) ?_
  show GL xs Lx d (263, LL i, [.inl v, .inl v], am_mk m2) _ _ _ _
  exact GL.c1 (S' := (1226, LL i, [], am_mk m2)) (if_pos rfl) hk
set_option maxRecDepth 100000 in
theorem lc_asks {xs : Nat → Int32} {Lx d : Nat} (hd : 60 ≤ d) {m : am_m} {i : Int32} (h : Inv m) (hb : lwB Lx i) : lwGo xs Lx d 268 i m := by
  obtain ⟨v, m1, m2, f1, f2, f3⟩ := op_asks h (xs (i + (1 : Int32)).toNatClampNeg) (xs (i + (2 : Int32)).toNatClampNeg) (xs (i + (3 : Int32)).toNatClampNeg)
  refine ⟨m2, 0, 0, by decide, by decide, f3, fun r M' kc ks hk => ?_⟩
  rw [Nat.zero_add, Nat.zero_add]
  refine GL.n 5 (S' := (273, LL i, [.inl (i + (1 : Int32)), .inr (.inr (some (19, 0))), .inr (.inr (some (9, 0)))], am_mk m)) rfl ?_
  refine GL.ld rfl rfl hb.1 ?_
  show GL xs Lx d (274, LL i, [.inl (xs (i + (1 : Int32)).toNatClampNeg), .inr (.inr (some (9, 0)))], am_mk m) _ _ _ _
  refine GL.n 4 (S' := (278, LL i, [.inl (i + (2 : Int32)), .inr (.inr (some (19, 0))), .inl (xs (i + (1 : Int32)).toNatClampNeg), .inr (.inr (some (9, 0)))], am_mk m)) rfl ?_
  refine GL.ld rfl rfl hb.2.1 ?_
  show GL xs Lx d (279, LL i, [.inl (xs (i + (2 : Int32)).toNatClampNeg), .inl (xs (i + (1 : Int32)).toNatClampNeg), .inr (.inr (some (9, 0)))], am_mk m) _ _ _ _
  refine GL.n 4 (S' := (283, LL i, [.inl (i + (3 : Int32)), .inr (.inr (some (19, 0))), .inl (xs (i + (2 : Int32)).toNatClampNeg), .inl (xs (i + (1 : Int32)).toNatClampNeg), .inr (.inr (some (9, 0)))], am_mk m)) rfl ?_
  refine GL.ld rfl rfl hb.2.2.1 ?_
  show GL xs Lx d (284, LL i, [.inl (xs (i + (3 : Int32)).toNatClampNeg), .inl (xs (i + (2 : Int32)).toNatClampNeg), .inl (xs (i + (1 : Int32)).toNatClampNeg), .inr (.inr (some (9, 0)))], am_mk m) _ _ _ _
  refine GL.cl rfl (ex_X9_asks d (by omega) (xs (i + (1 : Int32)).toNatClampNeg) (xs (i + (2 : Int32)).toNatClampNeg) (xs (i + (3 : Int32)).toNatClampNeg) m (v, m1) f1) ?_
  show GL xs Lx d (287, LL i, [.inl v], am_mk m1) _ _ _ _
  refine GL.n 5 (S' := (292, LL i, [.inl (i + (1 : Int32)), .inr (.inr (some (19, 0))), .inr (.inr (some (10, 0))), .inl v], am_mk m1)) rfl ?_
  refine GL.ld rfl rfl hb.1 ?_
  show GL xs Lx d (293, LL i, [.inl (xs (i + (1 : Int32)).toNatClampNeg), .inr (.inr (some (10, 0))), .inl v], am_mk m1) _ _ _ _
  refine GL.n 4 (S' := (297, LL i, [.inl (i + (2 : Int32)), .inr (.inr (some (19, 0))), .inl (xs (i + (1 : Int32)).toNatClampNeg), .inr (.inr (some (10, 0))), .inl v], am_mk m1)) rfl ?_
  refine GL.ld rfl rfl hb.2.1 ?_
  show GL xs Lx d (298, LL i, [.inl (xs (i + (2 : Int32)).toNatClampNeg), .inl (xs (i + (1 : Int32)).toNatClampNeg), .inr (.inr (some (10, 0))), .inl v], am_mk m1) _ _ _ _
  refine GL.n 4 (S' := (302, LL i, [.inl (i + (3 : Int32)), .inr (.inr (some (19, 0))), .inl (xs (i + (2 : Int32)).toNatClampNeg), .inl (xs (i + (1 : Int32)).toNatClampNeg), .inr (.inr (some (10, 0))), .inl v], am_mk m1)) rfl ?_
  refine GL.ld rfl rfl hb.2.2.1 ?_
  show GL xs Lx d (303, LL i, [.inl (xs (i + (3 : Int32)).toNatClampNeg), .inl (xs (i + (2 : Int32)).toNatClampNeg), .inl (xs (i + (1 : Int32)).toNatClampNeg), .inr (.inr (some (10, 0))), .inl v], am_mk m1) _ _ _ _
  refine GL.cl rfl (ex_X10_asks d (by omega) (xs (i + (1 : Int32)).toNatClampNeg) (xs (i + (2 : Int32)).toNatClampNeg) (xs (i + (3 : Int32)).toNatClampNeg) m1 (v, m2) f2) ?_
  show GL xs Lx d (306, LL i, [.inl v, .inl v], am_mk m2) _ _ _ _
  exact GL.c1 (S' := (1226, LL i, [], am_mk m2)) (if_pos rfl) hk
set_option maxRecDepth 100000 in
theorem lc_terms {xs : Nat → Int32} {Lx d : Nat} (hd : 60 ≤ d) {m : am_m} {i : Int32} (h : Inv m) (hb : lwB Lx i) : lwGo xs Lx d 311 i m := by
  obtain ⟨v, m1, m2, f1, f2, f3⟩ := op_terms h (xs (i + (1 : Int32)).toNatClampNeg) (xs (i + (2 : Int32)).toNatClampNeg)
  refine ⟨m2, 0, 0, by decide, by decide, f3, fun r M' kc ks hk => ?_⟩
  rw [Nat.zero_add, Nat.zero_add]
  refine GL.n 5 (S' := (316, LL i, [.inl (i + (1 : Int32)), .inr (.inr (some (19, 0))), .inr (.inr (some (9, 0)))], am_mk m)) rfl ?_
  refine GL.ld rfl rfl hb.1 ?_
  show GL xs Lx d (317, LL i, [.inl (xs (i + (1 : Int32)).toNatClampNeg), .inr (.inr (some (9, 0)))], am_mk m) _ _ _ _
  refine GL.n 4 (S' := (321, LL i, [.inl (i + (2 : Int32)), .inr (.inr (some (19, 0))), .inl (xs (i + (1 : Int32)).toNatClampNeg), .inr (.inr (some (9, 0)))], am_mk m)) rfl ?_
  refine GL.ld rfl rfl hb.2.1 ?_
  show GL xs Lx d (322, LL i, [.inl (xs (i + (2 : Int32)).toNatClampNeg), .inl (xs (i + (1 : Int32)).toNatClampNeg), .inr (.inr (some (9, 0)))], am_mk m) _ _ _ _
  refine GL.cl rfl (ex_X9_terms d (by omega) (xs (i + (1 : Int32)).toNatClampNeg) (xs (i + (2 : Int32)).toNatClampNeg) m (v, m1) f1) ?_
  show GL xs Lx d (325, LL i, [.inl v], am_mk m1) _ _ _ _
  refine GL.n 5 (S' := (330, LL i, [.inl (i + (1 : Int32)), .inr (.inr (some (19, 0))), .inr (.inr (some (10, 0))), .inl v], am_mk m1)) rfl ?_
  refine GL.ld rfl rfl hb.1 ?_
  show GL xs Lx d (331, LL i, [.inl (xs (i + (1 : Int32)).toNatClampNeg), .inr (.inr (some (10, 0))), .inl v], am_mk m1) _ _ _ _
  refine GL.n 4 (S' := (335, LL i, [.inl (i + (2 : Int32)), .inr (.inr (some (19, 0))), .inl (xs (i + (1 : Int32)).toNatClampNeg), .inr (.inr (some (10, 0))), .inl v], am_mk m1)) rfl ?_
  refine GL.ld rfl rfl hb.2.1 ?_
  show GL xs Lx d (336, LL i, [.inl (xs (i + (2 : Int32)).toNatClampNeg), .inl (xs (i + (1 : Int32)).toNatClampNeg), .inr (.inr (some (10, 0))), .inl v], am_mk m1) _ _ _ _
  refine GL.cl rfl (ex_X10_terms d (by omega) (xs (i + (1 : Int32)).toNatClampNeg) (xs (i + (2 : Int32)).toNatClampNeg) m1 (v, m2) f2) ?_
  show GL xs Lx d (339, LL i, [.inl v, .inl v], am_mk m2) _ _ _ _
  exact GL.c1 (S' := (1226, LL i, [], am_mk m2)) (if_pos rfl) hk
set_option maxRecDepth 100000 in
theorem lc_feed {xs : Nat → Int32} {Lx d : Nat} (hd : 60 ≤ d) {m : am_m} {i : Int32} (h : Inv m) (hb : lwB Lx i) : lwGo xs Lx d 344 i m := by
  obtain ⟨v, m1, m2, f1, f2, f3⟩ := op_feed h (xs (i + (1 : Int32)).toNatClampNeg) (xs (i + (2 : Int32)).toNatClampNeg) (xs (i + (3 : Int32)).toNatClampNeg) (xs (i + (4 : Int32)).toNatClampNeg) (xs (i + (5 : Int32)).toNatClampNeg)
  refine ⟨m2, 0, 0, by decide, by decide, f3, fun r M' kc ks hk => ?_⟩
  rw [Nat.zero_add, Nat.zero_add]
  refine GL.n 5 (S' := (349, LL i, [.inl (i + (1 : Int32)), .inr (.inr (some (19, 0))), .inr (.inr (some (9, 0)))], am_mk m)) rfl ?_
  refine GL.ld rfl rfl hb.1 ?_
  show GL xs Lx d (350, LL i, [.inl (xs (i + (1 : Int32)).toNatClampNeg), .inr (.inr (some (9, 0)))], am_mk m) _ _ _ _
  refine GL.n 4 (S' := (354, LL i, [.inl (i + (2 : Int32)), .inr (.inr (some (19, 0))), .inl (xs (i + (1 : Int32)).toNatClampNeg), .inr (.inr (some (9, 0)))], am_mk m)) rfl ?_
  refine GL.ld rfl rfl hb.2.1 ?_
  show GL xs Lx d (355, LL i, [.inl (xs (i + (2 : Int32)).toNatClampNeg), .inl (xs (i + (1 : Int32)).toNatClampNeg), .inr (.inr (some (9, 0)))], am_mk m) _ _ _ _
  refine GL.n 4 (S' := (359, LL i, [.inl (i + (3 : Int32)), .inr (.inr (some (19, 0))), .inl (xs (i + (2 : Int32)).toNatClampNeg), .inl (xs (i + (1 : Int32)).toNatClampNeg), .inr (.inr (some (9, 0)))], am_mk m)) rfl ?_
  refine GL.ld rfl rfl hb.2.2.1 ?_
  show GL xs Lx d (360, LL i, [.inl (xs (i + (3 : Int32)).toNatClampNeg), .inl (xs (i + (2 : Int32)).toNatClampNeg), .inl (xs (i + (1 : Int32)).toNatClampNeg), .inr (.inr (some (9, 0)))], am_mk m) _ _ _ _
  refine GL.n 4 (S' := (364, LL i, [.inl (i + (4 : Int32)), .inr (.inr (some (19, 0))), .inl (xs (i + (3 : Int32)).toNatClampNeg), .inl (xs (i + (2 : Int32)).toNatClampNeg), .inl (xs (i + (1 : Int32)).toNatClampNeg), .inr (.inr (some (9, 0)))], am_mk m)) rfl ?_
  refine GL.ld rfl rfl hb.2.2.2.1 ?_
  show GL xs Lx d (365, LL i, [.inl (xs (i + (4 : Int32)).toNatClampNeg), .inl (xs (i + (3 : Int32)).toNatClampNeg), .inl (xs (i + (2 : Int32)).toNatClampNeg), .inl (xs (i + (1 : Int32)).toNatClampNeg), .inr (.inr (some (9, 0)))], am_mk m) _ _ _ _
  refine GL.n 4 (S' := (369, LL i, [.inl (i + (5 : Int32)), .inr (.inr (some (19, 0))), .inl (xs (i + (4 : Int32)).toNatClampNeg), .inl (xs (i + (3 : Int32)).toNatClampNeg), .inl (xs (i + (2 : Int32)).toNatClampNeg), .inl (xs (i + (1 : Int32)).toNatClampNeg), .inr (.inr (some (9, 0)))], am_mk m)) rfl ?_
  refine GL.ld rfl rfl hb.2.2.2.2 ?_
  show GL xs Lx d (370, LL i, [.inl (xs (i + (5 : Int32)).toNatClampNeg), .inl (xs (i + (4 : Int32)).toNatClampNeg), .inl (xs (i + (3 : Int32)).toNatClampNeg), .inl (xs (i + (2 : Int32)).toNatClampNeg), .inl (xs (i + (1 : Int32)).toNatClampNeg), .inr (.inr (some (9, 0)))], am_mk m) _ _ _ _
  refine GL.cl rfl (ex_X9_feed d (by omega) (xs (i + (1 : Int32)).toNatClampNeg) (xs (i + (2 : Int32)).toNatClampNeg) (xs (i + (3 : Int32)).toNatClampNeg) (xs (i + (4 : Int32)).toNatClampNeg) (xs (i + (5 : Int32)).toNatClampNeg) m (v, m1) f1) ?_
  show GL xs Lx d (373, LL i, [.inl v], am_mk m1) _ _ _ _
  refine GL.n 5 (S' := (378, LL i, [.inl (i + (1 : Int32)), .inr (.inr (some (19, 0))), .inr (.inr (some (10, 0))), .inl v], am_mk m1)) rfl ?_
  refine GL.ld rfl rfl hb.1 ?_
  show GL xs Lx d (379, LL i, [.inl (xs (i + (1 : Int32)).toNatClampNeg), .inr (.inr (some (10, 0))), .inl v], am_mk m1) _ _ _ _
  refine GL.n 4 (S' := (383, LL i, [.inl (i + (2 : Int32)), .inr (.inr (some (19, 0))), .inl (xs (i + (1 : Int32)).toNatClampNeg), .inr (.inr (some (10, 0))), .inl v], am_mk m1)) rfl ?_
  refine GL.ld rfl rfl hb.2.1 ?_
  show GL xs Lx d (384, LL i, [.inl (xs (i + (2 : Int32)).toNatClampNeg), .inl (xs (i + (1 : Int32)).toNatClampNeg), .inr (.inr (some (10, 0))), .inl v], am_mk m1) _ _ _ _
  refine GL.n 4 (S' := (388, LL i, [.inl (i + (3 : Int32)), .inr (.inr (some (19, 0))), .inl (xs (i + (2 : Int32)).toNatClampNeg), .inl (xs (i + (1 : Int32)).toNatClampNeg), .inr (.inr (some (10, 0))), .inl v], am_mk m1)) rfl ?_
  refine GL.ld rfl rfl hb.2.2.1 ?_
  show GL xs Lx d (389, LL i, [.inl (xs (i + (3 : Int32)).toNatClampNeg), .inl (xs (i + (2 : Int32)).toNatClampNeg), .inl (xs (i + (1 : Int32)).toNatClampNeg), .inr (.inr (some (10, 0))), .inl v], am_mk m1) _ _ _ _
  refine GL.n 4 (S' := (393, LL i, [.inl (i + (4 : Int32)), .inr (.inr (some (19, 0))), .inl (xs (i + (3 : Int32)).toNatClampNeg), .inl (xs (i + (2 : Int32)).toNatClampNeg), .inl (xs (i + (1 : Int32)).toNatClampNeg), .inr (.inr (some (10, 0))), .inl v], am_mk m1)) rfl ?_
  refine GL.ld rfl rfl hb.2.2.2.1 ?_
  show GL xs Lx d (394, LL i, [.inl (xs (i + (4 : Int32)).toNatClampNeg), .inl (xs (i + (3 : Int32)).toNatClampNeg), .inl (xs (i + (2 : Int32)).toNatClampNeg), .inl (xs (i + (1 : Int32)).toNatClampNeg), .inr (.inr (some (10, 0))), .inl v], am_mk m1) _ _ _ _
  refine GL.n 4 (S' := (398, LL i, [.inl (i + (5 : Int32)), .inr (.inr (some (19, 0))), .inl (xs (i + (4 : Int32)).toNatClampNeg), .inl (xs (i + (3 : Int32)).toNatClampNeg), .inl (xs (i + (2 : Int32)).toNatClampNeg), .inl (xs (i + (1 : Int32)).toNatClampNeg), .inr (.inr (some (10, 0))), .inl v], am_mk m1)) rfl ?_
  refine GL.ld rfl rfl hb.2.2.2.2 ?_
  show GL xs Lx d (399, LL i, [.inl (xs (i + (5 : Int32)).toNatClampNeg), .inl (xs (i + (4 : Int32)).toNatClampNeg), .inl (xs (i + (3 : Int32)).toNatClampNeg), .inl (xs (i + (2 : Int32)).toNatClampNeg), .inl (xs (i + (1 : Int32)).toNatClampNeg), .inr (.inr (some (10, 0))), .inl v], am_mk m1) _ _ _ _
  refine GL.cl rfl (ex_X10_feed d (by omega) (xs (i + (1 : Int32)).toNatClampNeg) (xs (i + (2 : Int32)).toNatClampNeg) (xs (i + (3 : Int32)).toNatClampNeg) (xs (i + (4 : Int32)).toNatClampNeg) (xs (i + (5 : Int32)).toNatClampNeg) m1 (v, m2) f2) ?_
  show GL xs Lx d (402, LL i, [.inl v, .inl v], am_mk m2) _ _ _ _
  exact GL.c1 (S' := (1226, LL i, [], am_mk m2)) (if_pos rfl) hk
set_option maxRecDepth 100000 in
theorem lc_end {xs : Nat → Int32} {Lx d : Nat} (hd : 60 ≤ d) {m : am_m} {i : Int32} (h : Inv m) (hb : lwB Lx i) : lwGo xs Lx d 407 i m := by
  obtain ⟨v, m1, m2, f1, f2, f3⟩ := op_end h (xs (i + (1 : Int32)).toNatClampNeg)
  refine ⟨m2, 0, 0, by decide, by decide, f3, fun r M' kc ks hk => ?_⟩
  rw [Nat.zero_add, Nat.zero_add]
  refine GL.n 5 (S' := (412, LL i, [.inl (i + (1 : Int32)), .inr (.inr (some (19, 0))), .inr (.inr (some (9, 0)))], am_mk m)) rfl ?_
  refine GL.ld rfl rfl hb.1 ?_
  show GL xs Lx d (413, LL i, [.inl (xs (i + (1 : Int32)).toNatClampNeg), .inr (.inr (some (9, 0)))], am_mk m) _ _ _ _
  refine GL.cl rfl (ex_X9_end d (by omega) (xs (i + (1 : Int32)).toNatClampNeg) m (v, m1) f1) ?_
  show GL xs Lx d (416, LL i, [.inl v], am_mk m1) _ _ _ _
  refine GL.n 5 (S' := (421, LL i, [.inl (i + (1 : Int32)), .inr (.inr (some (19, 0))), .inr (.inr (some (10, 0))), .inl v], am_mk m1)) rfl ?_
  refine GL.ld rfl rfl hb.1 ?_
  show GL xs Lx d (422, LL i, [.inl (xs (i + (1 : Int32)).toNatClampNeg), .inr (.inr (some (10, 0))), .inl v], am_mk m1) _ _ _ _
  refine GL.cl rfl (ex_X10_end d (by omega) (xs (i + (1 : Int32)).toNatClampNeg) m1 (v, m2) f2) ?_
  show GL xs Lx d (425, LL i, [.inl v, .inl v], am_mk m2) _ _ _ _
  exact GL.c1 (S' := (1226, LL i, [], am_mk m2)) (if_pos rfl) hk
set_option maxRecDepth 100000 in
theorem lc_row {xs : Nat → Int32} {Lx d : Nat} (hd : 60 ≤ d) {m : am_m} {i : Int32} (h : Inv m) (hb : lwB Lx i) : lwGo xs Lx d 430 i m := by
  obtain ⟨v, m1, m2, f1, f2, f3⟩ := op_row h
  refine ⟨m2, 0, 0, by decide, by decide, f3, fun r M' kc ks hk => ?_⟩
  rw [Nat.zero_add, Nat.zero_add]
  refine GL.n 1 (S' := (431, LL i, [.inr (.inr (some (9, 0)))], am_mk m)) rfl ?_
  refine GL.cl rfl (ex_X9_row d (by omega) m (v, m1) f1) ?_
  show GL xs Lx d (434, LL i, [.inl v], am_mk m1) _ _ _ _
  refine GL.n 1 (S' := (435, LL i, [.inr (.inr (some (10, 0))), .inl v], am_mk m1)) rfl ?_
  refine GL.cl rfl (ex_X10_row d (by omega) m1 (v, m2) f2) ?_
  show GL xs Lx d (438, LL i, [.inl v, .inl v], am_mk m2) _ _ _ _
  exact GL.c1 (S' := (1226, LL i, [], am_mk m2)) (if_pos rfl) hk
set_option maxRecDepth 100000 in
theorem lc_crumbs {xs : Nat → Int32} {Lx d : Nat} (hd : 60 ≤ d) {m : am_m} {i : Int32} (h : Inv m) (hb : lwB Lx i) : lwGo xs Lx d 443 i m := by
  obtain ⟨v, m1, m2, f1, f2, f3⟩ := op_crumbs h
  obtain ⟨f1, rfl⟩ := mp_some f1
  refine ⟨m2, 0, 0, by decide, by decide, f3, fun r M' kc ks hk => ?_⟩
  rw [Nat.zero_add, Nat.zero_add]
  refine GL.n 1 (S' := (444, LL i, [.inr (.inr (some (9, 0)))], am_mk m1)) rfl ?_
  refine GL.cl rfl (ex_X9_crumbs d (by omega) m1 v f1) ?_
  show GL xs Lx d (447, LL i, [.inl v], am_mk m1) _ _ _ _
  refine GL.n 1 (S' := (448, LL i, [.inr (.inr (some (10, 0))), .inl v], am_mk m1)) rfl ?_
  refine GL.cl rfl (ex_X10_crumbs d (by omega) m1 (v, m2) f2) ?_
  show GL xs Lx d (451, LL i, [.inl v, .inl v], am_mk m2) _ _ _ _
  exact GL.c1 (S' := (1226, LL i, [], am_mk m2)) (if_pos rfl) hk
set_option maxRecDepth 100000 in
theorem lc_law {xs : Nat → Int32} {Lx d : Nat} (hd : 60 ≤ d) {m : am_m} {i : Int32} (h : Inv m) (hb : lwB Lx i) : lwGo xs Lx d 456 i m := by
  obtain ⟨v, m1, m2, f1, f2, f3⟩ := op_law h
  obtain ⟨kc, ks, c1, c2, c3⟩ := ex_X9_law d (by omega) m (v, m1) h.1.2.2.2.2.2.2.2.2.1 f1
  refine ⟨m2, kc, ks, by omega, by omega, f3, fun r M' kc' ks' hk => ?_⟩
  refine GL.n 1 (S' := (457, LL i, [.inr (.inr (some (9, 0)))], am_mk m)) rfl ?_
  refine GL.ca rfl c3 ?_
  show GL xs Lx d (460, LL i, [.inl v], am_mk m1) _ _ _ _
  refine GL.n 1 (S' := (461, LL i, [.inr (.inr (some (10, 0))), .inl v], am_mk m1)) rfl ?_
  refine GL.cl rfl (ex_X10_law d (by omega) m1 (v, m2) f2) ?_
  show GL xs Lx d (464, LL i, [.inl v, .inl v], am_mk m2) _ _ _ _
  exact GL.c1 (S' := (1226, LL i, [], am_mk m2)) (if_pos rfl) hk
set_option maxRecDepth 100000 in
theorem lc_orders {xs : Nat → Int32} {Lx d : Nat} (hd : 60 ≤ d) {m : am_m} {i : Int32} (h : Inv m) (hb : lwB Lx i) : lwGo xs Lx d 469 i m := by
  obtain ⟨v, m1, m2, f1, f2, f3⟩ := op_orders h
  refine ⟨m2, 0, 0, by decide, by decide, f3, fun r M' kc ks hk => ?_⟩
  rw [Nat.zero_add, Nat.zero_add]
  refine GL.n 1 (S' := (470, LL i, [.inr (.inr (some (9, 0)))], am_mk m)) rfl ?_
  refine GL.cl rfl (ex_X9_orders d (by omega) m (v, m1) f1) ?_
  show GL xs Lx d (473, LL i, [.inl v], am_mk m1) _ _ _ _
  refine GL.n 1 (S' := (474, LL i, [.inr (.inr (some (10, 0))), .inl v], am_mk m1)) rfl ?_
  refine GL.cl rfl (ex_X10_orders d (by omega) m1 (v, m2) f2) ?_
  show GL xs Lx d (477, LL i, [.inl v, .inl v], am_mk m2) _ _ _ _
  exact GL.c1 (S' := (1226, LL i, [], am_mk m2)) (if_pos rfl) hk
