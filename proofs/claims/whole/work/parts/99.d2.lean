/-! the law's cases; by program (wip/whole/gen/law.py) -/
set_option maxRecDepth 100000 in
theorem lc_newHarms {xs : Nat → Int32} {Lx d : Nat} (hd : 60 ≤ d) {m : am_m} {i : Int32} (h : Inv m) (hb : lwB Lx i) : lwGo xs Lx d 702 i m := by
  obtain ⟨v, m1, m2, f1, f2, f3⟩ := op_newHarms h (xs (i + (1 : Int32)).toNatClampNeg)
  refine ⟨m2, 0, 0, by decide, by decide, f3, fun r M' kc ks hk => ?_⟩
  rw [Nat.zero_add, Nat.zero_add]
  refine GL.n 5 (S' := (707, LL i, [.inl (i + (1 : Int32)), .inr (.inr (some (19, 0))), .inr (.inr (some (9, 0)))], am_mk m)) rfl ?_
  refine GL.ld rfl rfl hb.1 ?_
  show GL xs Lx d (708, LL i, [.inl (xs (i + (1 : Int32)).toNatClampNeg), .inr (.inr (some (9, 0)))], am_mk m) _ _ _ _
  refine GL.cl rfl (ex_X9_newHarms d (by omega) (xs (i + (1 : Int32)).toNatClampNeg) m (v, m1) f1) ?_
  show GL xs Lx d (711, LL i, [.inl v], am_mk m1) _ _ _ _
  refine GL.n 5 (S' := (716, LL i, [.inl (i + (1 : Int32)), .inr (.inr (some (19, 0))), .inr (.inr (some (10, 0))), .inl v], am_mk m1)) rfl ?_
  refine GL.ld rfl rfl hb.1 ?_
  show GL xs Lx d (717, LL i, [.inl (xs (i + (1 : Int32)).toNatClampNeg), .inr (.inr (some (10, 0))), .inl v], am_mk m1) _ _ _ _
  refine GL.cl rfl (ex_X10_newHarms d (by omega) (xs (i + (1 : Int32)).toNatClampNeg) m1 (v, m2) f2) ?_
  show GL xs Lx d (720, LL i, [.inl v, .inl v], am_mk m2) _ _ _ _
  exact GL.c1 (S' := (1226, LL i, [], am_mk m2)) (if_pos rfl) hk
set_option maxRecDepth 100000 in
theorem lc_leftOut {xs : Nat → Int32} {Lx d : Nat} (hd : 60 ≤ d) {m : am_m} {i : Int32} (h : Inv m) (hb : lwB Lx i) : lwGo xs Lx d 725 i m := by
  obtain ⟨v, m1, m2, f1, f2, f3⟩ := op_leftOut h (xs (i + (1 : Int32)).toNatClampNeg)
  refine ⟨m2, 0, 0, by decide, by decide, f3, fun r M' kc ks hk => ?_⟩
  rw [Nat.zero_add, Nat.zero_add]
  refine GL.n 5 (S' := (730, LL i, [.inl (i + (1 : Int32)), .inr (.inr (some (19, 0))), .inr (.inr (some (9, 0)))], am_mk m)) rfl ?_
  refine GL.ld rfl rfl hb.1 ?_
  show GL xs Lx d (731, LL i, [.inl (xs (i + (1 : Int32)).toNatClampNeg), .inr (.inr (some (9, 0)))], am_mk m) _ _ _ _
  refine GL.cl rfl (ex_X9_leftOut d (by omega) (xs (i + (1 : Int32)).toNatClampNeg) m (v, m1) f1) ?_
  show GL xs Lx d (734, LL i, [.inl v], am_mk m1) _ _ _ _
  refine GL.n 5 (S' := (739, LL i, [.inl (i + (1 : Int32)), .inr (.inr (some (19, 0))), .inr (.inr (some (10, 0))), .inl v], am_mk m1)) rfl ?_
  refine GL.ld rfl rfl hb.1 ?_
  show GL xs Lx d (740, LL i, [.inl (xs (i + (1 : Int32)).toNatClampNeg), .inr (.inr (some (10, 0))), .inl v], am_mk m1) _ _ _ _
  refine GL.cl rfl (ex_X10_leftOut d (by omega) (xs (i + (1 : Int32)).toNatClampNeg) m1 (v, m2) f2) ?_
  show GL xs Lx d (743, LL i, [.inl v, .inl v], am_mk m2) _ _ _ _
  exact GL.c1 (S' := (1226, LL i, [], am_mk m2)) (if_pos rfl) hk
set_option maxRecDepth 100000 in
theorem lc_seat {xs : Nat → Int32} {Lx d : Nat} (hd : 60 ≤ d) {m : am_m} {i : Int32} (h : Inv m) (hb : lwB Lx i) : lwGo xs Lx d 748 i m := by
  obtain ⟨v, m1, m2, f1, f2, f3⟩ := op_seat h (xs (i + (1 : Int32)).toNatClampNeg) (xs (i + (2 : Int32)).toNatClampNeg)
  refine ⟨m2, 0, 0, by decide, by decide, f3, fun r M' kc ks hk => ?_⟩
  rw [Nat.zero_add, Nat.zero_add]
  refine GL.n 5 (S' := (753, LL i, [.inl (i + (1 : Int32)), .inr (.inr (some (19, 0))), .inr (.inr (some (9, 0)))], am_mk m)) rfl ?_
  refine GL.ld rfl rfl hb.1 ?_
  show GL xs Lx d (754, LL i, [.inl (xs (i + (1 : Int32)).toNatClampNeg), .inr (.inr (some (9, 0)))], am_mk m) _ _ _ _
  refine GL.n 4 (S' := (758, LL i, [.inl (i + (2 : Int32)), .inr (.inr (some (19, 0))), .inl (xs (i + (1 : Int32)).toNatClampNeg), .inr (.inr (some (9, 0)))], am_mk m)) rfl ?_
  refine GL.ld rfl rfl hb.2.1 ?_
  show GL xs Lx d (759, LL i, [.inl (xs (i + (2 : Int32)).toNatClampNeg), .inl (xs (i + (1 : Int32)).toNatClampNeg), .inr (.inr (some (9, 0)))], am_mk m) _ _ _ _
  refine GL.cl rfl (ex_X9_seat d (by omega) (xs (i + (1 : Int32)).toNatClampNeg) (xs (i + (2 : Int32)).toNatClampNeg) m (v, m1) f1) ?_
  show GL xs Lx d (762, LL i, [.inl v], am_mk m1) _ _ _ _
  refine GL.n 5 (S' := (767, LL i, [.inl (i + (1 : Int32)), .inr (.inr (some (19, 0))), .inr (.inr (some (10, 0))), .inl v], am_mk m1)) rfl ?_
  refine GL.ld rfl rfl hb.1 ?_
  show GL xs Lx d (768, LL i, [.inl (xs (i + (1 : Int32)).toNatClampNeg), .inr (.inr (some (10, 0))), .inl v], am_mk m1) _ _ _ _
  refine GL.n 4 (S' := (772, LL i, [.inl (i + (2 : Int32)), .inr (.inr (some (19, 0))), .inl (xs (i + (1 : Int32)).toNatClampNeg), .inr (.inr (some (10, 0))), .inl v], am_mk m1)) rfl ?_
  refine GL.ld rfl rfl hb.2.1 ?_
  show GL xs Lx d (773, LL i, [.inl (xs (i + (2 : Int32)).toNatClampNeg), .inl (xs (i + (1 : Int32)).toNatClampNeg), .inr (.inr (some (10, 0))), .inl v], am_mk m1) _ _ _ _
  refine GL.cl rfl (ex_X10_seat d (by omega) (xs (i + (1 : Int32)).toNatClampNeg) (xs (i + (2 : Int32)).toNatClampNeg) m1 (v, m2) f2) ?_
  show GL xs Lx d (776, LL i, [.inl v, .inl v], am_mk m2) _ _ _ _
  exact GL.c1 (S' := (1226, LL i, [], am_mk m2)) (if_pos rfl) hk
set_option maxRecDepth 100000 in
theorem lc_chain {xs : Nat → Int32} {Lx d : Nat} (hd : 60 ≤ d) {m : am_m} {i : Int32} (h : Inv m) (hb : lwB Lx i) : lwGo xs Lx d 781 i m := by
  obtain ⟨v, m1, m2, f1, f2, f3⟩ := op_chain h (xs (i + (1 : Int32)).toNatClampNeg) (xs (i + (2 : Int32)).toNatClampNeg) (xs (i + (3 : Int32)).toNatClampNeg)
  refine ⟨m2, 0, 0, by decide, by decide, f3, fun r M' kc ks hk => ?_⟩
  rw [Nat.zero_add, Nat.zero_add]
  refine GL.n 5 (S' := (786, LL i, [.inl (i + (1 : Int32)), .inr (.inr (some (19, 0))), .inr (.inr (some (9, 0)))], am_mk m)) rfl ?_
  refine GL.ld rfl rfl hb.1 ?_
  show GL xs Lx d (787, LL i, [.inl (xs (i + (1 : Int32)).toNatClampNeg), .inr (.inr (some (9, 0)))], am_mk m) _ _ _ _
  refine GL.n 4 (S' := (791, LL i, [.inl (i + (2 : Int32)), .inr (.inr (some (19, 0))), .inl (xs (i + (1 : Int32)).toNatClampNeg), .inr (.inr (some (9, 0)))], am_mk m)) rfl ?_
  refine GL.ld rfl rfl hb.2.1 ?_
  show GL xs Lx d (792, LL i, [.inl (xs (i + (2 : Int32)).toNatClampNeg), .inl (xs (i + (1 : Int32)).toNatClampNeg), .inr (.inr (some (9, 0)))], am_mk m) _ _ _ _
  refine GL.n 4 (S' := (796, LL i, [.inl (i + (3 : Int32)), .inr (.inr (some (19, 0))), .inl (xs (i + (2 : Int32)).toNatClampNeg), .inl (xs (i + (1 : Int32)).toNatClampNeg), .inr (.inr (some (9, 0)))], am_mk m)) rfl ?_
  refine GL.ld rfl rfl hb.2.2.1 ?_
  show GL xs Lx d (797, LL i, [.inl (xs (i + (3 : Int32)).toNatClampNeg), .inl (xs (i + (2 : Int32)).toNatClampNeg), .inl (xs (i + (1 : Int32)).toNatClampNeg), .inr (.inr (some (9, 0)))], am_mk m) _ _ _ _
  refine GL.cl rfl (ex_X9_chain d (by omega) (xs (i + (1 : Int32)).toNatClampNeg) (xs (i + (2 : Int32)).toNatClampNeg) (xs (i + (3 : Int32)).toNatClampNeg) m (v, m1) f1) ?_
  show GL xs Lx d (800, LL i, [.inl v], am_mk m1) _ _ _ _
  refine GL.n 5 (S' := (805, LL i, [.inl (i + (1 : Int32)), .inr (.inr (some (19, 0))), .inr (.inr (some (10, 0))), .inl v], am_mk m1)) rfl ?_
  refine GL.ld rfl rfl hb.1 ?_
  show GL xs Lx d (806, LL i, [.inl (xs (i + (1 : Int32)).toNatClampNeg), .inr (.inr (some (10, 0))), .inl v], am_mk m1) _ _ _ _
  refine GL.n 4 (S' := (810, LL i, [.inl (i + (2 : Int32)), .inr (.inr (some (19, 0))), .inl (xs (i + (1 : Int32)).toNatClampNeg), .inr (.inr (some (10, 0))), .inl v], am_mk m1)) rfl ?_
  refine GL.ld rfl rfl hb.2.1 ?_
  show GL xs Lx d (811, LL i, [.inl (xs (i + (2 : Int32)).toNatClampNeg), .inl (xs (i + (1 : Int32)).toNatClampNeg), .inr (.inr (some (10, 0))), .inl v], am_mk m1) _ _ _ _
  refine GL.n 4 (S' := (815, LL i, [.inl (i + (3 : Int32)), .inr (.inr (some (19, 0))), .inl (xs (i + (2 : Int32)).toNatClampNeg), .inl (xs (i + (1 : Int32)).toNatClampNeg), .inr (.inr (some (10, 0))), .inl v], am_mk m1)) rfl ?_
  refine GL.ld rfl rfl hb.2.2.1 ?_
  show GL xs Lx d (816, LL i, [.inl (xs (i + (3 : Int32)).toNatClampNeg), .inl (xs (i + (2 : Int32)).toNatClampNeg), .inl (xs (i + (1 : Int32)).toNatClampNeg), .inr (.inr (some (10, 0))), .inl v], am_mk m1) _ _ _ _
  refine GL.cl rfl (ex_X10_chain d (by omega) (xs (i + (1 : Int32)).toNatClampNeg) (xs (i + (2 : Int32)).toNatClampNeg) (xs (i + (3 : Int32)).toNatClampNeg) m1 (v, m2) f2) ?_
  show GL xs Lx d (819, LL i, [.inl v, .inl v], am_mk m2) _ _ _ _
  exact GL.c1 (S' := (1226, LL i, [], am_mk m2)) (if_pos rfl) hk
set_option maxRecDepth 100000 in
theorem lc_circles {xs : Nat → Int32} {Lx d : Nat} (hd : 60 ≤ d) {m : am_m} {i : Int32} (h : Inv m) (hb : lwB Lx i) : lwGo xs Lx d 824 i m := by
  obtain ⟨v, m1, m2, f1, f2, f3⟩ := op_circles h
  refine ⟨m2, 0, 0, by decide, by decide, f3, fun r M' kc ks hk => ?_⟩
  rw [Nat.zero_add, Nat.zero_add]
  refine GL.n 1 (S' := (825, LL i, [.inr (.inr (some (9, 0)))], am_mk m)) rfl ?_
  refine GL.cl rfl (ex_X9_circles d (by omega) m (v, m1) f1) ?_
  show GL xs Lx d (828, LL i, [.inl v], am_mk m1) _ _ _ _
  refine GL.n 1 (S' := (829, LL i, [.inr (.inr (some (10, 0))), .inl v], am_mk m1)) rfl ?_
  refine GL.cl rfl (ex_X10_circles d (by omega) m1 (v, m2) f2) ?_
  show GL xs Lx d (832, LL i, [.inl v, .inl v], am_mk m2) _ _ _ _
  exact GL.c1 (S' := (1226, LL i, [], am_mk m2)) (if_pos rfl) hk
set_option maxRecDepth 100000 in
theorem lc_bridges {xs : Nat → Int32} {Lx d : Nat} (hd : 60 ≤ d) {m : am_m} {i : Int32} (h : Inv m) (hb : lwB Lx i) : lwGo xs Lx d 837 i m := by
  obtain ⟨v, m1, m2, f1, f2, f3⟩ := op_bridges h (xs (i + (1 : Int32)).toNatClampNeg)
  refine ⟨m2, 0, 0, by decide, by decide, f3, fun r M' kc ks hk => ?_⟩
  rw [Nat.zero_add, Nat.zero_add]
  refine GL.n 5 (S' := (842, LL i, [.inl (i + (1 : Int32)), .inr (.inr (some (19, 0))), .inr (.inr (some (9, 0)))], am_mk m)) rfl ?_
  refine GL.ld rfl rfl hb.1 ?_
  show GL xs Lx d (843, LL i, [.inl (xs (i + (1 : Int32)).toNatClampNeg), .inr (.inr (some (9, 0)))], am_mk m) _ _ _ _
  refine GL.cl rfl (ex_X9_bridges d (by omega) (xs (i + (1 : Int32)).toNatClampNeg) m (v, m1) f1) ?_
  show GL xs Lx d (846, LL i, [.inl v], am_mk m1) _ _ _ _
  refine GL.n 5 (S' := (851, LL i, [.inl (i + (1 : Int32)), .inr (.inr (some (19, 0))), .inr (.inr (some (10, 0))), .inl v], am_mk m1)) rfl ?_
  refine GL.ld rfl rfl hb.1 ?_
  show GL xs Lx d (852, LL i, [.inl (xs (i + (1 : Int32)).toNatClampNeg), .inr (.inr (some (10, 0))), .inl v], am_mk m1) _ _ _ _
  refine GL.cl rfl (ex_X10_bridges d (by omega) (xs (i + (1 : Int32)).toNatClampNeg) m1 (v, m2) f2) ?_
  show GL xs Lx d (855, LL i, [.inl v, .inl v], am_mk m2) _ _ _ _
  exact GL.c1 (S' := (1226, LL i, [], am_mk m2)) (if_pos rfl) hk
set_option maxRecDepth 100000 in
theorem lc_sat {xs : Nat → Int32} {Lx d : Nat} (hd : 60 ≤ d) {m : am_m} {i : Int32} (h : Inv m) (hb : lwB Lx i) : lwGo xs Lx d 860 i m := by
  obtain ⟨v, m1, m2, f1, f2, f3⟩ := op_sat h (xs (i + (1 : Int32)).toNatClampNeg)
  refine ⟨m2, 0, 0, by decide, by decide, f3, fun r M' kc ks hk => ?_⟩
  rw [Nat.zero_add, Nat.zero_add]
  refine GL.n 5 (S' := (865, LL i, [.inl (i + (1 : Int32)), .inr (.inr (some (19, 0))), .inr (.inr (some (9, 0)))], am_mk m)) rfl ?_
  refine GL.ld rfl rfl hb.1 ?_
  show GL xs Lx d (866, LL i, [.inl (xs (i + (1 : Int32)).toNatClampNeg), .inr (.inr (some (9, 0)))], am_mk m) _ _ _ _
  refine GL.cl rfl (ex_X9_sat d (by omega) (xs (i + (1 : Int32)).toNatClampNeg) m (v, m1) f1) ?_
  show GL xs Lx d (869, LL i, [.inl v], am_mk m1) _ _ _ _
  refine GL.n 5 (S' := (874, LL i, [.inl (i + (1 : Int32)), .inr (.inr (some (19, 0))), .inr (.inr (some (10, 0))), .inl v], am_mk m1)) rfl ?_
  refine GL.ld rfl rfl hb.1 ?_
  show GL xs Lx d (875, LL i, [.inl (xs (i + (1 : Int32)).toNatClampNeg), .inr (.inr (some (10, 0))), .inl v], am_mk m1) _ _ _ _
  refine GL.cl rfl (ex_X10_sat d (by omega) (xs (i + (1 : Int32)).toNatClampNeg) m1 (v, m2) f2) ?_
  show GL xs Lx d (878, LL i, [.inl v, .inl v], am_mk m2) _ _ _ _
  exact GL.c1 (S' := (1226, LL i, [], am_mk m2)) (if_pos rfl) hk
set_option maxRecDepth 100000 in
theorem lc_forget {xs : Nat → Int32} {Lx d : Nat} (hd : 60 ≤ d) {m : am_m} {i : Int32} (h : Inv m) (hb : lwB Lx i) : lwGo xs Lx d 883 i m := by
  obtain ⟨v, m1, m2, f1, f2, f3⟩ := op_forget h
  refine ⟨m2, 0, 0, by decide, by decide, f3, fun r M' kc ks hk => ?_⟩
  rw [Nat.zero_add, Nat.zero_add]
  refine GL.n 1 (S' := (884, LL i, [.inr (.inr (some (9, 0)))], am_mk m)) rfl ?_
  refine GL.cl rfl (ex_X9_forget d (by omega) m (v, m1) f1) ?_
  show GL xs Lx d (887, LL i, [.inl v], am_mk m1) _ _ _ _
  refine GL.n 1 (S' := (888, LL i, [.inr (.inr (some (10, 0))), .inl v], am_mk m1)) rfl ?_
  refine GL.cl rfl (ex_X10_forget d (by omega) m1 (v, m2) f2) ?_
  show GL xs Lx d (891, LL i, [.inl v, .inl v], am_mk m2) _ _ _ _
  exact GL.c1 (S' := (1226, LL i, [], am_mk m2)) (if_pos rfl) hk
set_option maxRecDepth 100000 in
theorem lc_doubted {xs : Nat → Int32} {Lx d : Nat} (hd : 60 ≤ d) {m : am_m} {i : Int32} (h : Inv m) (hb : lwB Lx i) : lwGo xs Lx d 896 i m := by
  obtain ⟨v, m1, m2, f1, f2, f3⟩ := op_doubted h (xs (i + (1 : Int32)).toNatClampNeg)
  refine ⟨m2, 0, 0, by decide, by decide, f3, fun r M' kc ks hk => ?_⟩
  rw [Nat.zero_add, Nat.zero_add]
  refine GL.n 5 (S' := (901, LL i, [.inl (i + (1 : Int32)), .inr (.inr (some (19, 0))), .inr (.inr (some (9, 0)))], am_mk m)) rfl ?_
  refine GL.ld rfl rfl hb.1 ?_
  show GL xs Lx d (902, LL i, [.inl (xs (i + (1 : Int32)).toNatClampNeg), .inr (.inr (some (9, 0)))], am_mk m) _ _ _ _
  refine GL.cl rfl (ex_X9_doubted d (by omega) (xs (i + (1 : Int32)).toNatClampNeg) m (v, m1) f1) ?_
  show GL xs Lx d (905, LL i, [.inl v], am_mk m1) _ _ _ _
  refine GL.n 5 (S' := (910, LL i, [.inl (i + (1 : Int32)), .inr (.inr (some (19, 0))), .inr (.inr (some (10, 0))), .inl v], am_mk m1)) rfl ?_
  refine GL.ld rfl rfl hb.1 ?_
  show GL xs Lx d (911, LL i, [.inl (xs (i + (1 : Int32)).toNatClampNeg), .inr (.inr (some (10, 0))), .inl v], am_mk m1) _ _ _ _
  refine GL.cl rfl (ex_X10_doubted d (by omega) (xs (i + (1 : Int32)).toNatClampNeg) m1 (v, m2) f2) ?_
  show GL xs Lx d (914, LL i, [.inl v, .inl v], am_mk m2) _ _ _ _
  exact GL.c1 (S' := (1226, LL i, [], am_mk m2)) (if_pos rfl) hk
set_option maxRecDepth 100000 in
theorem lc_fitting {xs : Nat → Int32} {Lx d : Nat} (hd : 60 ≤ d) {m : am_m} {i : Int32} (h : Inv m) (hb : lwB Lx i) : lwGo xs Lx d 919 i m := by
  obtain ⟨v, m1, m2, f1, f2, f3⟩ := op_fitting h (xs (i + (1 : Int32)).toNatClampNeg)
  refine ⟨m2, 0, 0, by decide, by decide, f3, fun r M' kc ks hk => ?_⟩
  rw [Nat.zero_add, Nat.zero_add]
  refine GL.n 5 (S' := (924, LL i, [.inl (i + (1 : Int32)), .inr (.inr (some (19, 0))), .inr (.inr (some (9, 0)))], am_mk m)) rfl ?_
  refine GL.ld rfl rfl hb.1 ?_
  show GL xs Lx d (925, LL i, [.inl (xs (i + (1 : Int32)).toNatClampNeg), .inr (.inr (some (9, 0)))], am_mk m) _ _ _ _
  refine GL.cl rfl (ex_X9_fitting d (by omega) (xs (i + (1 : Int32)).toNatClampNeg) m (v, m1) f1) ?_
  show GL xs Lx d (928, LL i, [.inl v], am_mk m1) _ _ _ _
  refine GL.n 5 (S' := (933, LL i, [.inl (i + (1 : Int32)), .inr (.inr (some (19, 0))), .inr (.inr (some (10, 0))), .inl v], am_mk m1)) rfl ?_
  refine GL.ld rfl rfl hb.1 ?_
  show GL xs Lx d (934, LL i, [.inl (xs (i + (1 : Int32)).toNatClampNeg), .inr (.inr (some (10, 0))), .inl v], am_mk m1) _ _ _ _
  refine GL.cl rfl (ex_X10_fitting d (by omega) (xs (i + (1 : Int32)).toNatClampNeg) m1 (v, m2) f2) ?_
  show GL xs Lx d (937, LL i, [.inl v, .inl v], am_mk m2) _ _ _ _
  exact GL.c1 (S' := (1226, LL i, [], am_mk m2)) (if_pos rfl) hk
