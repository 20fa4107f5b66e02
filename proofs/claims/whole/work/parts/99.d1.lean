/-! the law's cases; by program (wip/whole/gen/law.py) -/
set_option maxRecDepth 100000 in
theorem lc_fault {xs : Nat → Int32} {Lx d : Nat} (hd : 60 ≤ d) {m : am_m} {i : Int32} (h : Inv m) (hb : lwB Lx i) : lwGo xs Lx d 482 i m := by
  obtain ⟨v, m1, m2, f1, f2, f3⟩ := op_fault h
  obtain ⟨f1, rfl⟩ := mp_some f1
  refine ⟨m2, 0, 0, by decide, by decide, f3, fun r M' kc ks hk => ?_⟩
  rw [Nat.zero_add, Nat.zero_add]
  refine GL.n 1 (S' := (483, LL i, [.inr (.inr (some (9, 0)))], am_mk m1)) rfl ?_
  refine GL.cl rfl (ex_X9_fault d (by omega) m1 v f1) ?_
  show GL xs Lx d (486, LL i, [.inl v], am_mk m1) _ _ _ _
  refine GL.n 1 (S' := (487, LL i, [.inr (.inr (some (10, 0))), .inl v], am_mk m1)) rfl ?_
  refine GL.cl rfl (ex_X10_fault d (by omega) m1 (v, m2) f2) ?_
  show GL xs Lx d (490, LL i, [.inl v, .inl v], am_mk m2) _ _ _ _
  exact GL.c1 (S' := (1226, LL i, [], am_mk m2)) (if_pos rfl) hk
set_option maxRecDepth 100000 in
theorem lc_stopped {xs : Nat → Int32} {Lx d : Nat} (hd : 60 ≤ d) {m : am_m} {i : Int32} (h : Inv m) (hb : lwB Lx i) : lwGo xs Lx d 495 i m := by
  obtain ⟨v, m1, m2, f1, f2, f3⟩ := op_stopped h
  obtain ⟨f1, rfl⟩ := mp_some f1
  refine ⟨m2, 0, 0, by decide, by decide, f3, fun r M' kc ks hk => ?_⟩
  rw [Nat.zero_add, Nat.zero_add]
  refine GL.n 1 (S' := (496, LL i, [.inr (.inr (some (9, 0)))], am_mk m1)) rfl ?_
  refine GL.cl rfl (ex_X9_stopped d (by omega) m1 v f1) ?_
  show GL xs Lx d (499, LL i, [.inl v], am_mk m1) _ _ _ _
  refine GL.n 1 (S' := (500, LL i, [.inr (.inr (some (10, 0))), .inl v], am_mk m1)) rfl ?_
  refine GL.cl rfl (ex_X10_stopped d (by omega) m1 (v, m2) f2) ?_
  show GL xs Lx d (503, LL i, [.inl v, .inl v], am_mk m2) _ _ _ _
  exact GL.c1 (S' := (1226, LL i, [], am_mk m2)) (if_pos rfl) hk
set_option maxRecDepth 100000 in
theorem lc_force {xs : Nat → Int32} {Lx d : Nat} (hd : 60 ≤ d) {m : am_m} {i : Int32} (h : Inv m) (hb : lwB Lx i) : lwGo xs Lx d 508 i m := by
  obtain ⟨v, m1, m2, f1, f2, f3⟩ := op_force h (xs (i + (1 : Int32)).toNatClampNeg)
  refine ⟨m2, 0, 0, by decide, by decide, f3, fun r M' kc ks hk => ?_⟩
  rw [Nat.zero_add, Nat.zero_add]
  refine GL.n 5 (S' := (513, LL i, [.inl (i + (1 : Int32)), .inr (.inr (some (19, 0))), .inr (.inr (some (9, 0)))], am_mk m)) rfl ?_
  refine GL.ld rfl rfl hb.1 ?_
  show GL xs Lx d (514, LL i, [.inl (xs (i + (1 : Int32)).toNatClampNeg), .inr (.inr (some (9, 0)))], am_mk m) _ _ _ _
  refine GL.cl rfl (ex_X9_force d (by omega) (xs (i + (1 : Int32)).toNatClampNeg) m (v, m1) f1) ?_
  show GL xs Lx d (517, LL i, [.inl v], am_mk m1) _ _ _ _
  refine GL.n 5 (S' := (522, LL i, [.inl (i + (1 : Int32)), .inr (.inr (some (19, 0))), .inr (.inr (some (10, 0))), .inl v], am_mk m1)) rfl ?_
  refine GL.ld rfl rfl hb.1 ?_
  show GL xs Lx d (523, LL i, [.inl (xs (i + (1 : Int32)).toNatClampNeg), .inr (.inr (some (10, 0))), .inl v], am_mk m1) _ _ _ _
  refine GL.cl rfl (ex_X10_force d (by omega) (xs (i + (1 : Int32)).toNatClampNeg) m1 (v, m2) f2) ?_
  show GL xs Lx d (526, LL i, [.inl v, .inl v], am_mk m2) _ _ _ _
  exact GL.c1 (S' := (1226, LL i, [], am_mk m2)) (if_pos rfl) hk
set_option maxRecDepth 100000 in
theorem lc_harm {xs : Nat → Int32} {Lx d : Nat} (hd : 60 ≤ d) {m : am_m} {i : Int32} (h : Inv m) (hb : lwB Lx i) : lwGo xs Lx d 531 i m := by
  obtain ⟨v, m1, m2, f1, f2, f3⟩ := op_harm h (xs (i + (1 : Int32)).toNatClampNeg) (xs (i + (2 : Int32)).toNatClampNeg) (xs (i + (3 : Int32)).toNatClampNeg)
  refine ⟨m2, 0, 0, by decide, by decide, f3, fun r M' kc ks hk => ?_⟩
  rw [Nat.zero_add, Nat.zero_add]
  refine GL.n 5 (S' := (536, LL i, [.inl (i + (1 : Int32)), .inr (.inr (some (19, 0))), .inr (.inr (some (9, 0)))], am_mk m)) rfl ?_
  refine GL.ld rfl rfl hb.1 ?_
  show GL xs Lx d (537, LL i, [.inl (xs (i + (1 : Int32)).toNatClampNeg), .inr (.inr (some (9, 0)))], am_mk m) _ _ _ _
  refine GL.n 4 (S' := (541, LL i, [.inl (i + (2 : Int32)), .inr (.inr (some (19, 0))), .inl (xs (i + (1 : Int32)).toNatClampNeg), .inr (.inr (some (9, 0)))], am_mk m)) rfl ?_
  refine GL.ld rfl rfl hb.2.1 ?_
  show GL xs Lx d (542, LL i, [.inl (xs (i + (2 : Int32)).toNatClampNeg), .inl (xs (i + (1 : Int32)).toNatClampNeg), .inr (.inr (some (9, 0)))], am_mk m) _ _ _ _
  refine GL.n 4 (S' := (546, LL i, [.inl (i + (3 : Int32)), .inr (.inr (some (19, 0))), .inl (xs (i + (2 : Int32)).toNatClampNeg), .inl (xs (i + (1 : Int32)).toNatClampNeg), .inr (.inr (some (9, 0)))], am_mk m)) rfl ?_
  refine GL.ld rfl rfl hb.2.2.1 ?_
  show GL xs Lx d (547, LL i, [.inl (xs (i + (3 : Int32)).toNatClampNeg), .inl (xs (i + (2 : Int32)).toNatClampNeg), .inl (xs (i + (1 : Int32)).toNatClampNeg), .inr (.inr (some (9, 0)))], am_mk m) _ _ _ _
  refine GL.cl rfl (ex_X9_harm d (by omega) (xs (i + (1 : Int32)).toNatClampNeg) (xs (i + (2 : Int32)).toNatClampNeg) (xs (i + (3 : Int32)).toNatClampNeg) m (v, m1) f1) ?_
  show GL xs Lx d (550, LL i, [.inl v], am_mk m1) _ _ _ _
  refine GL.n 5 (S' := (555, LL i, [.inl (i + (1 : Int32)), .inr (.inr (some (19, 0))), .inr (.inr (some (10, 0))), .inl v], am_mk m1)) rfl ?_
  refine GL.ld rfl rfl hb.1 ?_
  show GL xs Lx d (556, LL i, [.inl (xs (i + (1 : Int32)).toNatClampNeg), .inr (.inr (some (10, 0))), .inl v], am_mk m1) _ _ _ _
  refine GL.n 4 (S' := (560, LL i, [.inl (i + (2 : Int32)), .inr (.inr (some (19, 0))), .inl (xs (i + (1 : Int32)).toNatClampNeg), .inr (.inr (some (10, 0))), .inl v], am_mk m1)) rfl ?_
  refine GL.ld rfl rfl hb.2.1 ?_
  show GL xs Lx d (561, LL i, [.inl (xs (i + (2 : Int32)).toNatClampNeg), .inl (xs (i + (1 : Int32)).toNatClampNeg), .inr (.inr (some (10, 0))), .inl v], am_mk m1) _ _ _ _
  refine GL.n 4 (S' := (565, LL i, [.inl (i + (3 : Int32)), .inr (.inr (some (19, 0))), .inl (xs (i + (2 : Int32)).toNatClampNeg), .inl (xs (i + (1 : Int32)).toNatClampNeg), .inr (.inr (some (10, 0))), .inl v], am_mk m1)) rfl ?_
  refine GL.ld rfl rfl hb.2.2.1 ?_
  show GL xs Lx d (566, LL i, [.inl (xs (i + (3 : Int32)).toNatClampNeg), .inl (xs (i + (2 : Int32)).toNatClampNeg), .inl (xs (i + (1 : Int32)).toNatClampNeg), .inr (.inr (some (10, 0))), .inl v], am_mk m1) _ _ _ _
  refine GL.cl rfl (ex_X10_harm d (by omega) (xs (i + (1 : Int32)).toNatClampNeg) (xs (i + (2 : Int32)).toNatClampNeg) (xs (i + (3 : Int32)).toNatClampNeg) m1 (v, m2) f2) ?_
  show GL xs Lx d (569, LL i, [.inl v, .inl v], am_mk m2) _ _ _ _
  exact GL.c1 (S' := (1226, LL i, [], am_mk m2)) (if_pos rfl) hk
set_option maxRecDepth 100000 in
theorem lc_feast {xs : Nat → Int32} {Lx d : Nat} (hd : 60 ≤ d) {m : am_m} {i : Int32} (h : Inv m) (hb : lwB Lx i) : lwGo xs Lx d 574 i m := by
  obtain ⟨v, m1, m2, f1, f2, f3⟩ := op_feast h (xs (i + (1 : Int32)).toNatClampNeg)
  refine ⟨m2, 0, 0, by decide, by decide, f3, fun r M' kc ks hk => ?_⟩
  rw [Nat.zero_add, Nat.zero_add]
  refine GL.n 5 (S' := (579, LL i, [.inl (i + (1 : Int32)), .inr (.inr (some (19, 0))), .inr (.inr (some (9, 0)))], am_mk m)) rfl ?_
  refine GL.ld rfl rfl hb.1 ?_
  show GL xs Lx d (580, LL i, [.inl (xs (i + (1 : Int32)).toNatClampNeg), .inr (.inr (some (9, 0)))], am_mk m) _ _ _ _
  refine GL.cl rfl (ex_X9_feast d (by omega) (xs (i + (1 : Int32)).toNatClampNeg) m (v, m1) f1) ?_
  show GL xs Lx d (583, LL i, [.inl v], am_mk m1) _ _ _ _
  refine GL.n 5 (S' := (588, LL i, [.inl (i + (1 : Int32)), .inr (.inr (some (19, 0))), .inr (.inr (some (10, 0))), .inl v], am_mk m1)) rfl ?_
  refine GL.ld rfl rfl hb.1 ?_
  show GL xs Lx d (589, LL i, [.inl (xs (i + (1 : Int32)).toNatClampNeg), .inr (.inr (some (10, 0))), .inl v], am_mk m1) _ _ _ _
  refine GL.cl rfl (ex_X10_feast d (by omega) (xs (i + (1 : Int32)).toNatClampNeg) m1 (v, m2) f2) ?_
  show GL xs Lx d (592, LL i, [.inl v, .inl v], am_mk m2) _ _ _ _
  exact GL.c1 (S' := (1226, LL i, [], am_mk m2)) (if_pos rfl) hk
set_option maxRecDepth 100000 in
theorem lc_pardon {xs : Nat → Int32} {Lx d : Nat} (hd : 60 ≤ d) {m : am_m} {i : Int32} (h : Inv m) (hb : lwB Lx i) : lwGo xs Lx d 597 i m := by
  obtain ⟨v, m1, m2, f1, f2, f3⟩ := op_pardon h (xs (i + (1 : Int32)).toNatClampNeg) (xs (i + (2 : Int32)).toNatClampNeg)
  refine ⟨m2, 0, 0, by decide, by decide, f3, fun r M' kc ks hk => ?_⟩
  rw [Nat.zero_add, Nat.zero_add]
  refine GL.n 5 (S' := (602, LL i, [.inl (i + (1 : Int32)), .inr (.inr (some (19, 0))), .inr (.inr (some (9, 0)))], am_mk m)) rfl ?_
  refine GL.ld rfl rfl hb.1 ?_
  show GL xs Lx d (603, LL i, [.inl (xs (i + (1 : Int32)).toNatClampNeg), .inr (.inr (some (9, 0)))], am_mk m) _ _ _ _
  refine GL.n 4 (S' := (607, LL i, [.inl (i + (2 : Int32)), .inr (.inr (some (19, 0))), .inl (xs (i + (1 : Int32)).toNatClampNeg), .inr (.inr (some (9, 0)))], am_mk m)) rfl ?_
  refine GL.ld rfl rfl hb.2.1 ?_
  show GL xs Lx d (608, LL i, [.inl (xs (i + (2 : Int32)).toNatClampNeg), .inl (xs (i + (1 : Int32)).toNatClampNeg), .inr (.inr (some (9, 0)))], am_mk m) _ _ _ _
  refine GL.cl rfl (ex_X9_pardon d (by omega) (xs (i + (1 : Int32)).toNatClampNeg) (xs (i + (2 : Int32)).toNatClampNeg) m (v, m1) f1) ?_
  show GL xs Lx d (611, LL i, [.inl v], am_mk m1) _ _ _ _
  refine GL.n 5 (S' := (616, LL i, [.inl (i + (1 : Int32)), .inr (.inr (some (19, 0))), .inr (.inr (some (10, 0))), .inl v], am_mk m1)) rfl ?_
  refine GL.ld rfl rfl hb.1 ?_
  show GL xs Lx d (617, LL i, [.inl (xs (i + (1 : Int32)).toNatClampNeg), .inr (.inr (some (10, 0))), .inl v], am_mk m1) _ _ _ _
  refine GL.n 4 (S' := (621, LL i, [.inl (i + (2 : Int32)), .inr (.inr (some (19, 0))), .inl (xs (i + (1 : Int32)).toNatClampNeg), .inr (.inr (some (10, 0))), .inl v], am_mk m1)) rfl ?_
  refine GL.ld rfl rfl hb.2.1 ?_
  show GL xs Lx d (622, LL i, [.inl (xs (i + (2 : Int32)).toNatClampNeg), .inl (xs (i + (1 : Int32)).toNatClampNeg), .inr (.inr (some (10, 0))), .inl v], am_mk m1) _ _ _ _
  refine GL.cl rfl (ex_X10_pardon d (by omega) (xs (i + (1 : Int32)).toNatClampNeg) (xs (i + (2 : Int32)).toNatClampNeg) m1 (v, m2) f2) ?_
  show GL xs Lx d (625, LL i, [.inl v, .inl v], am_mk m2) _ _ _ _
  exact GL.c1 (S' := (1226, LL i, [], am_mk m2)) (if_pos rfl) hk
set_option maxRecDepth 100000 in
theorem lc_pass {xs : Nat → Int32} {Lx d : Nat} (hd : 60 ≤ d) {m : am_m} {i : Int32} (h : Inv m) (hb : lwB Lx i) : lwGo xs Lx d 630 i m := by
  obtain ⟨v, m1, m2, f1, f2, f3⟩ := op_pass h
  refine ⟨m2, 0, 0, by decide, by decide, f3, fun r M' kc ks hk => ?_⟩
  rw [Nat.zero_add, Nat.zero_add]
  refine GL.n 1 (S' := (631, LL i, [.inr (.inr (some (9, 0)))], am_mk m)) rfl ?_
  refine GL.cl rfl (ex_X9_pass d (by omega) m (v, m1) f1) ?_
  show GL xs Lx d (634, LL i, [.inl v], am_mk m1) _ _ _ _
  refine GL.n 1 (S' := (635, LL i, [.inr (.inr (some (10, 0))), .inl v], am_mk m1)) rfl ?_
  refine GL.cl rfl (ex_X10_pass d (by omega) m1 (v, m2) f2) ?_
  show GL xs Lx d (638, LL i, [.inl v, .inl v], am_mk m2) _ _ _ _
  exact GL.c1 (S' := (1226, LL i, [], am_mk m2)) (if_pos rfl) hk
set_option maxRecDepth 100000 in
theorem lc_undo {xs : Nat → Int32} {Lx d : Nat} (hd : 60 ≤ d) {m : am_m} {i : Int32} (h : Inv m) (hb : lwB Lx i) : lwGo xs Lx d 643 i m := by
  obtain ⟨v, m1, m2, f1, f2, f3⟩ := op_undo h
  refine ⟨m2, 0, 0, by decide, by decide, f3, fun r M' kc ks hk => ?_⟩
  rw [Nat.zero_add, Nat.zero_add]
  refine GL.n 1 (S' := (644, LL i, [.inr (.inr (some (9, 0)))], am_mk m)) rfl ?_
  refine GL.cl rfl (ex_X9_undo d (by omega) m (v, m1) f1) ?_
  show GL xs Lx d (647, LL i, [.inl v], am_mk m1) _ _ _ _
  refine GL.n 1 (S' := (648, LL i, [.inr (.inr (some (10, 0))), .inl v], am_mk m1)) rfl ?_
  refine GL.cl rfl (ex_X10_undo d (by omega) m1 (v, m2) f2) ?_
  show GL xs Lx d (651, LL i, [.inl v, .inl v], am_mk m2) _ _ _ _
  exact GL.c1 (S' := (1226, LL i, [], am_mk m2)) (if_pos rfl) hk
set_option maxRecDepth 100000 in
theorem lc_largest {xs : Nat → Int32} {Lx d : Nat} (hd : 60 ≤ d) {m : am_m} {i : Int32} (h : Inv m) (hb : lwB Lx i) : lwGo xs Lx d 656 i m := by
  obtain ⟨v, m1, m2, f1, f2, f3⟩ := op_largest h (xs (i + (1 : Int32)).toNatClampNeg)
  refine ⟨m2, 0, 0, by decide, by decide, f3, fun r M' kc ks hk => ?_⟩
  rw [Nat.zero_add, Nat.zero_add]
  refine GL.n 5 (S' := (661, LL i, [.inl (i + (1 : Int32)), .inr (.inr (some (19, 0))), .inr (.inr (some (9, 0)))], am_mk m)) rfl ?_
  refine GL.ld rfl rfl hb.1 ?_
  show GL xs Lx d (662, LL i, [.inl (xs (i + (1 : Int32)).toNatClampNeg), .inr (.inr (some (9, 0)))], am_mk m) _ _ _ _
  refine GL.cl rfl (ex_X9_largest d (by omega) (xs (i + (1 : Int32)).toNatClampNeg) m (v, m1) f1) ?_
  show GL xs Lx d (665, LL i, [.inl v], am_mk m1) _ _ _ _
  refine GL.n 5 (S' := (670, LL i, [.inl (i + (1 : Int32)), .inr (.inr (some (19, 0))), .inr (.inr (some (10, 0))), .inl v], am_mk m1)) rfl ?_
  refine GL.ld rfl rfl hb.1 ?_
  show GL xs Lx d (671, LL i, [.inl (xs (i + (1 : Int32)).toNatClampNeg), .inr (.inr (some (10, 0))), .inl v], am_mk m1) _ _ _ _
  refine GL.cl rfl (ex_X10_largest d (by omega) (xs (i + (1 : Int32)).toNatClampNeg) m1 (v, m2) f2) ?_
  show GL xs Lx d (674, LL i, [.inl v, .inl v], am_mk m2) _ _ _ _
  exact GL.c1 (S' := (1226, LL i, [], am_mk m2)) (if_pos rfl) hk
set_option maxRecDepth 100000 in
theorem lc_tables {xs : Nat → Int32} {Lx d : Nat} (hd : 60 ≤ d) {m : am_m} {i : Int32} (h : Inv m) (hb : lwB Lx i) : lwGo xs Lx d 679 i m := by
  obtain ⟨v, m1, m2, f1, f2, f3⟩ := op_tables h (xs (i + (1 : Int32)).toNatClampNeg)
  refine ⟨m2, 0, 0, by decide, by decide, f3, fun r M' kc ks hk => ?_⟩
  rw [Nat.zero_add, Nat.zero_add]
  refine GL.n 5 (S' := (684, LL i, [.inl (i + (1 : Int32)), .inr (.inr (some (19, 0))), .inr (.inr (some (9, 0)))], am_mk m)) rfl ?_
  refine GL.ld rfl rfl hb.1 ?_
  show GL xs Lx d (685, LL i, [.inl (xs (i + (1 : Int32)).toNatClampNeg), .inr (.inr (some (9, 0)))], am_mk m) _ _ _ _
  refine GL.cl rfl (ex_X9_tables d (by omega) (xs (i + (1 : Int32)).toNatClampNeg) m (v, m1) f1) ?_
  show GL xs Lx d (688, LL i, [.inl v], am_mk m1) _ _ _ _
  refine GL.n 5 (S' := (693, LL i, [.inl (i + (1 : Int32)), .inr (.inr (some (19, 0))), .inr (.inr (some (10, 0))), .inl v], am_mk m1)) rfl ?_
  refine GL.ld rfl rfl hb.1 ?_
  show GL xs Lx d (694, LL i, [.inl (xs (i + (1 : Int32)).toNatClampNeg), .inr (.inr (some (10, 0))), .inl v], am_mk m1) _ _ _ _
  refine GL.cl rfl (ex_X10_tables d (by omega) (xs (i + (1 : Int32)).toNatClampNeg) m1 (v, m2) f2) ?_
  show GL xs Lx d (697, LL i, [.inl v, .inl v], am_mk m2) _ _ _ _
  exact GL.c1 (S' := (1226, LL i, [], am_mk m2)) (if_pos rfl) hk
