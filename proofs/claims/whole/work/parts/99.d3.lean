/-! the law's cases; by program (wip/whole/gen/law.py) -/
set_option maxRecDepth 100000 in
theorem lc_ask {xs : Nat → Int32} {Lx d : Nat} (hd : 60 ≤ d) {m : am_m} {i : Int32} (h : Inv m) (hb : lwB Lx i) : lwGo xs Lx d 942 i m := by
  obtain ⟨v, m1, m2, f1, f2, f3⟩ := op_ask h (xs (i + (1 : Int32)).toNatClampNeg) (xs (i + (2 : Int32)).toNatClampNeg)
  refine ⟨m2, 0, 0, by decide, by decide, f3, fun r M' kc ks hk => ?_⟩
  rw [Nat.zero_add, Nat.zero_add]
  refine GL.n 5 (S' := (947, LL i, [.inl (i + (1 : Int32)), .inr (.inr (some (19, 0))), .inr (.inr (some (9, 0)))], am_mk m)) rfl ?_
  refine GL.ld rfl rfl hb.1 ?_
  show GL xs Lx d (948, LL i, [.inl (xs (i + (1 : Int32)).toNatClampNeg), .inr (.inr (some (9, 0)))], am_mk m) _ _ _ _
  refine GL.n 4 (S' := (952, LL i, [.inl (i + (2 : Int32)), .inr (.inr (some (19, 0))), .inl (xs (i + (1 : Int32)).toNatClampNeg), .inr (.inr (some (9, 0)))], am_mk m)) rfl ?_
  refine GL.ld rfl rfl hb.2.1 ?_
  show GL xs Lx d (953, LL i, [.inl (xs (i + (2 : Int32)).toNatClampNeg), .inl (xs (i + (1 : Int32)).toNatClampNeg), .inr (.inr (some (9, 0)))], am_mk m) _ _ _ _
  refine GL.cl rfl (ex_X9_ask d (by omega) (xs (i + (1 : Int32)).toNatClampNeg) (xs (i + (2 : Int32)).toNatClampNeg) m (v, m1) f1) ?_
  show GL xs Lx d (956, LL i, [.inl v], am_mk m1) _ _ _ _
  refine GL.n 5 (S' := (961, LL i, [.inl (i + (1 : Int32)), .inr (.inr (some (19, 0))), .inr (.inr (some (10, 0))), .inl v], am_mk m1)) rfl ?_
  refine GL.ld rfl rfl hb.1 ?_
  show GL xs Lx d (962, LL i, [.inl (xs (i + (1 : Int32)).toNatClampNeg), .inr (.inr (some (10, 0))), .inl v], am_mk m1) _ _ _ _
  refine GL.n 4 (S' := (966, LL i, [.inl (i + (2 : Int32)), .inr (.inr (some (19, 0))), .inl (xs (i + (1 : Int32)).toNatClampNeg), .inr (.inr (some (10, 0))), .inl v], am_mk m1)) rfl ?_
  refine GL.ld rfl rfl hb.2.1 ?_
  show GL xs Lx d (967, LL i, [.inl (xs (i + (2 : Int32)).toNatClampNeg), .inl (xs (i + (1 : Int32)).toNatClampNeg), .inr (.inr (some (10, 0))), .inl v], am_mk m1) _ _ _ _
  refine GL.cl rfl (ex_X10_ask d (by omega) (xs (i + (1 : Int32)).toNatClampNeg) (xs (i + (2 : Int32)).toNatClampNeg) m1 (v, m2) f2) ?_
  show GL xs Lx d (970, LL i, [.inl v, .inl v], am_mk m2) _ _ _ _
  exact GL.c1 (S' := (1226, LL i, [], am_mk m2)) (if_pos rfl) hk
set_option maxRecDepth 100000 in
theorem lc_lasts {xs : Nat → Int32} {Lx d : Nat} (hd : 60 ≤ d) {m : am_m} {i : Int32} (h : Inv m) (hb : lwB Lx i) : lwGo xs Lx d 975 i m := by
  obtain ⟨v, m1, m2, f1, f2, f3⟩ := op_lasts h (xs (i + (1 : Int32)).toNatClampNeg)
  refine ⟨m2, 0, 0, by decide, by decide, f3, fun r M' kc ks hk => ?_⟩
  rw [Nat.zero_add, Nat.zero_add]
  refine GL.n 5 (S' := (980, LL i, [.inl (i + (1 : Int32)), .inr (.inr (some (19, 0))), .inr (.inr (some (9, 0)))], am_mk m)) rfl ?_
  refine GL.ld rfl rfl hb.1 ?_
  show GL xs Lx d (981, LL i, [.inl (xs (i + (1 : Int32)).toNatClampNeg), .inr (.inr (some (9, 0)))], am_mk m) _ _ _ _
  refine GL.cl rfl (ex_X9_lasts d (by omega) (xs (i + (1 : Int32)).toNatClampNeg) m (v, m1) f1) ?_
  show GL xs Lx d (984, LL i, [.inl v], am_mk m1) _ _ _ _
  refine GL.n 5 (S' := (989, LL i, [.inl (i + (1 : Int32)), .inr (.inr (some (19, 0))), .inr (.inr (some (10, 0))), .inl v], am_mk m1)) rfl ?_
  refine GL.ld rfl rfl hb.1 ?_
  show GL xs Lx d (990, LL i, [.inl (xs (i + (1 : Int32)).toNatClampNeg), .inr (.inr (some (10, 0))), .inl v], am_mk m1) _ _ _ _
  refine GL.cl rfl (ex_X10_lasts d (by omega) (xs (i + (1 : Int32)).toNatClampNeg) m1 (v, m2) f2) ?_
  show GL xs Lx d (993, LL i, [.inl v, .inl v], am_mk m2) _ _ _ _
  exact GL.c1 (S' := (1226, LL i, [], am_mk m2)) (if_pos rfl) hk
set_option maxRecDepth 100000 in
theorem lc_fedBy {xs : Nat → Int32} {Lx d : Nat} (hd : 60 ≤ d) {m : am_m} {i : Int32} (h : Inv m) (hb : lwB Lx i) : lwGo xs Lx d 998 i m := by
  obtain ⟨v, m1, m2, f1, f2, f3⟩ := op_fedBy h (xs (i + (1 : Int32)).toNatClampNeg)
  refine ⟨m2, 0, 0, by decide, by decide, f3, fun r M' kc ks hk => ?_⟩
  rw [Nat.zero_add, Nat.zero_add]
  refine GL.n 5 (S' := (1003, LL i, [.inl (i + (1 : Int32)), .inr (.inr (some (19, 0))), .inr (.inr (some (9, 0)))], am_mk m)) rfl ?_
  refine GL.ld rfl rfl hb.1 ?_
  show GL xs Lx d (1004, LL i, [.inl (xs (i + (1 : Int32)).toNatClampNeg), .inr (.inr (some (9, 0)))], am_mk m) _ _ _ _
  refine GL.cl rfl (ex_X9_fedBy d (by omega) (xs (i + (1 : Int32)).toNatClampNeg) m (v, m1) f1) ?_
  show GL xs Lx d (1007, LL i, [.inl v], am_mk m1) _ _ _ _
  refine GL.n 5 (S' := (1012, LL i, [.inl (i + (1 : Int32)), .inr (.inr (some (19, 0))), .inr (.inr (some (10, 0))), .inl v], am_mk m1)) rfl ?_
  refine GL.ld rfl rfl hb.1 ?_
  show GL xs Lx d (1013, LL i, [.inl (xs (i + (1 : Int32)).toNatClampNeg), .inr (.inr (some (10, 0))), .inl v], am_mk m1) _ _ _ _
  refine GL.cl rfl (ex_X10_fedBy d (by omega) (xs (i + (1 : Int32)).toNatClampNeg) m1 (v, m2) f2) ?_
  show GL xs Lx d (1016, LL i, [.inl v, .inl v], am_mk m2) _ _ _ _
  exact GL.c1 (S' := (1226, LL i, [], am_mk m2)) (if_pos rfl) hk
set_option maxRecDepth 100000 in
theorem lc_few {xs : Nat → Int32} {Lx d : Nat} (hd : 60 ≤ d) {m : am_m} {i : Int32} (h : Inv m) (hb : lwB Lx i) : lwGo xs Lx d 1021 i m := by
  obtain ⟨v, m1, m2, f1, f2, f3⟩ := op_few h (xs (i + (1 : Int32)).toNatClampNeg) (xs (i + (2 : Int32)).toNatClampNeg)
  refine ⟨m2, 0, 0, by decide, by decide, f3, fun r M' kc ks hk => ?_⟩
  rw [Nat.zero_add, Nat.zero_add]
  refine GL.n 5 (S' := (1026, LL i, [.inl (i + (1 : Int32)), .inr (.inr (some (19, 0))), .inr (.inr (some (9, 0)))], am_mk m)) rfl ?_
  refine GL.ld rfl rfl hb.1 ?_
  show GL xs Lx d (1027, LL i, [.inl (xs (i + (1 : Int32)).toNatClampNeg), .inr (.inr (some (9, 0)))], am_mk m) _ _ _ _
  refine GL.n 4 (S' := (1031, LL i, [.inl (i + (2 : Int32)), .inr (.inr (some (19, 0))), .inl (xs (i + (1 : Int32)).toNatClampNeg), .inr (.inr (some (9, 0)))], am_mk m)) rfl ?_
  refine GL.ld rfl rfl hb.2.1 ?_
  show GL xs Lx d (1032, LL i, [.inl (xs (i + (2 : Int32)).toNatClampNeg), .inl (xs (i + (1 : Int32)).toNatClampNeg), .inr (.inr (some (9, 0)))], am_mk m) _ _ _ _
  refine GL.cl rfl (ex_X9_few d (by omega) (xs (i + (1 : Int32)).toNatClampNeg) (xs (i + (2 : Int32)).toNatClampNeg) m (v, m1) f1) ?_
  show GL xs Lx d (1035, LL i, [.inr (.inl v)], am_mk m1) _ _ _ _
  refine GL.n 5 (S' := (1040, LL i, [.inl (i + (1 : Int32)), .inr (.inr (some (19, 0))), .inr (.inr (some (10, 0))), .inr (.inl v)], am_mk m1)) rfl ?_
  refine GL.ld rfl rfl hb.1 ?_
  show GL xs Lx d (1041, LL i, [.inl (xs (i + (1 : Int32)).toNatClampNeg), .inr (.inr (some (10, 0))), .inr (.inl v)], am_mk m1) _ _ _ _
  refine GL.n 4 (S' := (1045, LL i, [.inl (i + (2 : Int32)), .inr (.inr (some (19, 0))), .inl (xs (i + (1 : Int32)).toNatClampNeg), .inr (.inr (some (10, 0))), .inr (.inl v)], am_mk m1)) rfl ?_
  refine GL.ld rfl rfl hb.2.1 ?_
  show GL xs Lx d (1046, LL i, [.inl (xs (i + (2 : Int32)).toNatClampNeg), .inl (xs (i + (1 : Int32)).toNatClampNeg), .inr (.inr (some (10, 0))), .inr (.inl v)], am_mk m1) _ _ _ _
  refine GL.cl rfl (ex_X10_few d (by omega) (xs (i + (1 : Int32)).toNatClampNeg) (xs (i + (2 : Int32)).toNatClampNeg) m1 (v, m2) f2) ?_
  show GL xs Lx d (1049, LL i, [.inr (.inl v), .inr (.inl v)], am_mk m2) _ _ _ _
  refine GL.n 1 (S' := (1050, LL i, [.inl (lg_cmp v v)], am_mk m2)) rfl ?_
  exact GL.c1 (S' := (1226, LL i, [], am_mk m2)) (if_pos ((lg_cmp_eq v v).mpr rfl)) hk
set_option maxRecDepth 100000 in
theorem lc_compare {xs : Nat → Int32} {Lx d : Nat} (hd : 60 ≤ d) {m : am_m} {i : Int32} (h : Inv m) (hb : lwB Lx i) : lwGo xs Lx d 1055 i m := by
  obtain ⟨v, m1, m2, f1, f2, f3⟩ := op_compare h (xs (i + (1 : Int32)).toNatClampNeg)
  refine ⟨m2, 0, 0, by decide, by decide, f3, fun r M' kc ks hk => ?_⟩
  rw [Nat.zero_add, Nat.zero_add]
  refine GL.n 5 (S' := (1060, LL i, [.inl (i + (1 : Int32)), .inr (.inr (some (19, 0))), .inr (.inr (some (9, 0)))], am_mk m)) rfl ?_
  refine GL.ld rfl rfl hb.1 ?_
  show GL xs Lx d (1061, LL i, [.inl (xs (i + (1 : Int32)).toNatClampNeg), .inr (.inr (some (9, 0)))], am_mk m) _ _ _ _
  refine GL.cl rfl (ex_X9_compare d (by omega) (xs (i + (1 : Int32)).toNatClampNeg) m (v, m1) f1) ?_
  show GL xs Lx d (1064, LL i, [.inl v], am_mk m1) _ _ _ _
  refine GL.n 5 (S' := (1069, LL i, [.inl (i + (1 : Int32)), .inr (.inr (some (19, 0))), .inr (.inr (some (10, 0))), .inl v], am_mk m1)) rfl ?_
  refine GL.ld rfl rfl hb.1 ?_
  show GL xs Lx d (1070, LL i, [.inl (xs (i + (1 : Int32)).toNatClampNeg), .inr (.inr (some (10, 0))), .inl v], am_mk m1) _ _ _ _
  refine GL.cl rfl (ex_X10_compare d (by omega) (xs (i + (1 : Int32)).toNatClampNeg) m1 (v, m2) f2) ?_
  show GL xs Lx d (1073, LL i, [.inl v, .inl v], am_mk m2) _ _ _ _
  exact GL.c1 (S' := (1226, LL i, [], am_mk m2)) (if_pos rfl) hk
set_option maxRecDepth 100000 in
theorem lc_seasons {xs : Nat → Int32} {Lx d : Nat} (hd : 60 ≤ d) {m : am_m} {i : Int32} (h : Inv m) (hb : lwB Lx i) : lwGo xs Lx d 1078 i m := by
  obtain ⟨v, m1, m2, f1, f2, f3⟩ := op_seasons h (xs (i + (1 : Int32)).toNatClampNeg) (xs (i + (2 : Int32)).toNatClampNeg)
  refine ⟨m2, 0, 0, by decide, by decide, f3, fun r M' kc ks hk => ?_⟩
  rw [Nat.zero_add, Nat.zero_add]
  refine GL.n 5 (S' := (1083, LL i, [.inl (i + (1 : Int32)), .inr (.inr (some (19, 0))), .inr (.inr (some (9, 0)))], am_mk m)) rfl ?_
  refine GL.ld rfl rfl hb.1 ?_
  show GL xs Lx d (1084, LL i, [.inl (xs (i + (1 : Int32)).toNatClampNeg), .inr (.inr (some (9, 0)))], am_mk m) _ _ _ _
  refine GL.n 4 (S' := (1088, LL i, [.inl (i + (2 : Int32)), .inr (.inr (some (19, 0))), .inl (xs (i + (1 : Int32)).toNatClampNeg), .inr (.inr (some (9, 0)))], am_mk m)) rfl ?_
  refine GL.ld rfl rfl hb.2.1 ?_
  show GL xs Lx d (1089, LL i, [.inl (xs (i + (2 : Int32)).toNatClampNeg), .inl (xs (i + (1 : Int32)).toNatClampNeg), .inr (.inr (some (9, 0)))], am_mk m) _ _ _ _
  refine GL.cl rfl (ex_X9_seasons d (by omega) (xs (i + (1 : Int32)).toNatClampNeg) (xs (i + (2 : Int32)).toNatClampNeg) m (v, m1) f1) ?_
  show GL xs Lx d (1092, LL i, [.inl v], am_mk m1) _ _ _ _
  refine GL.n 5 (S' := (1097, LL i, [.inl (i + (1 : Int32)), .inr (.inr (some (19, 0))), .inr (.inr (some (10, 0))), .inl v], am_mk m1)) rfl ?_
  refine GL.ld rfl rfl hb.1 ?_
  show GL xs Lx d (1098, LL i, [.inl (xs (i + (1 : Int32)).toNatClampNeg), .inr (.inr (some (10, 0))), .inl v], am_mk m1) _ _ _ _
  refine GL.n 4 (S' := (1102, LL i, [.inl (i + (2 : Int32)), .inr (.inr (some (19, 0))), .inl (xs (i + (1 : Int32)).toNatClampNeg), .inr (.inr (some (10, 0))), .inl v], am_mk m1)) rfl ?_
  refine GL.ld rfl rfl hb.2.1 ?_
  show GL xs Lx d (1103, LL i, [.inl (xs (i + (2 : Int32)).toNatClampNeg), .inl (xs (i + (1 : Int32)).toNatClampNeg), .inr (.inr (some (10, 0))), .inl v], am_mk m1) _ _ _ _
  refine GL.cl rfl (ex_X10_seasons d (by omega) (xs (i + (1 : Int32)).toNatClampNeg) (xs (i + (2 : Int32)).toNatClampNeg) m1 (v, m2) f2) ?_
  show GL xs Lx d (1106, LL i, [.inl v, .inl v], am_mk m2) _ _ _ _
  exact GL.c1 (S' := (1226, LL i, [], am_mk m2)) (if_pos rfl) hk
set_option maxRecDepth 100000 in
theorem lc_drawn {xs : Nat → Int32} {Lx d : Nat} (hd : 60 ≤ d) {m : am_m} {i : Int32} (h : Inv m) (hb : lwB Lx i) : lwGo xs Lx d 1111 i m := by
  obtain ⟨v, m1, m2, f1, f2, f3⟩ := op_drawn h (xs (i + (1 : Int32)).toNatClampNeg) (xs (i + (2 : Int32)).toNatClampNeg)
  obtain ⟨f1, rfl⟩ := mp_some f1
  refine ⟨m2, 0, 0, by decide, by decide, f3, fun r M' kc ks hk => ?_⟩
  rw [Nat.zero_add, Nat.zero_add]
  refine GL.n 5 (S' := (1116, LL i, [.inl (i + (1 : Int32)), .inr (.inr (some (19, 0))), .inr (.inr (some (9, 0)))], am_mk m1)) rfl ?_
  refine GL.ld rfl rfl hb.1 ?_
  show GL xs Lx d (1117, LL i, [.inl (xs (i + (1 : Int32)).toNatClampNeg), .inr (.inr (some (9, 0)))], am_mk m1) _ _ _ _
  refine GL.n 4 (S' := (1121, LL i, [.inl (i + (2 : Int32)), .inr (.inr (some (19, 0))), .inl (xs (i + (1 : Int32)).toNatClampNeg), .inr (.inr (some (9, 0)))], am_mk m1)) rfl ?_
  refine GL.ld rfl rfl hb.2.1 ?_
  show GL xs Lx d (1122, LL i, [.inl (xs (i + (2 : Int32)).toNatClampNeg), .inl (xs (i + (1 : Int32)).toNatClampNeg), .inr (.inr (some (9, 0)))], am_mk m1) _ _ _ _
  refine GL.cl rfl (ex_X9_drawn d (by omega) (xs (i + (1 : Int32)).toNatClampNeg) (xs (i + (2 : Int32)).toNatClampNeg) m1 v f1) ?_
  show GL xs Lx d (1125, LL i, [.inl v], am_mk m1) _ _ _ _
  refine GL.n 5 (S' := (1130, LL i, [.inl (i + (1 : Int32)), .inr (.inr (some (19, 0))), .inr (.inr (some (10, 0))), .inl v], am_mk m1)) rfl ?_
  refine GL.ld rfl rfl hb.1 ?_
  show GL xs Lx d (1131, LL i, [.inl (xs (i + (1 : Int32)).toNatClampNeg), .inr (.inr (some (10, 0))), .inl v], am_mk m1) _ _ _ _
  refine GL.n 4 (S' := (1135, LL i, [.inl (i + (2 : Int32)), .inr (.inr (some (19, 0))), .inl (xs (i + (1 : Int32)).toNatClampNeg), .inr (.inr (some (10, 0))), .inl v], am_mk m1)) rfl ?_
  refine GL.ld rfl rfl hb.2.1 ?_
  show GL xs Lx d (1136, LL i, [.inl (xs (i + (2 : Int32)).toNatClampNeg), .inl (xs (i + (1 : Int32)).toNatClampNeg), .inr (.inr (some (10, 0))), .inl v], am_mk m1) _ _ _ _
  refine GL.cl rfl (ex_X10_drawn d (by omega) (xs (i + (1 : Int32)).toNatClampNeg) (xs (i + (2 : Int32)).toNatClampNeg) m1 (v, m2) f2) ?_
  show GL xs Lx d (1139, LL i, [.inl v, .inl v], am_mk m2) _ _ _ _
  exact GL.c1 (S' := (1226, LL i, [], am_mk m2)) (if_pos rfl) hk
set_option maxRecDepth 100000 in
theorem lc_image {xs : Nat → Int32} {Lx d : Nat} (hd : 60 ≤ d) {m : am_m} {i : Int32} (h : Inv m) (hb : lwB Lx i) : lwGo xs Lx d 1144 i m := by
  obtain ⟨v, m1, m2, f1, f2, f3⟩ := op_image h (xs (i + (1 : Int32)).toNatClampNeg)
  obtain ⟨kc, ks, c1, c2, c3⟩ := ex_X9_image d (by omega) (xs (i + (1 : Int32)).toNatClampNeg) m (v, m1) h.1.2.2.2.2.2.2.2.2.1 f1
  refine ⟨m2, kc, ks, by omega, by omega, f3, fun r M' kc' ks' hk => ?_⟩
  refine GL.n 5 (S' := (1149, LL i, [.inl (i + (1 : Int32)), .inr (.inr (some (19, 0))), .inr (.inr (some (9, 0)))], am_mk m)) rfl ?_
  refine GL.ld rfl rfl hb.1 ?_
  show GL xs Lx d (1150, LL i, [.inl (xs (i + (1 : Int32)).toNatClampNeg), .inr (.inr (some (9, 0)))], am_mk m) _ _ _ _
  refine GL.ca rfl c3 ?_
  show GL xs Lx d (1153, LL i, [.inl v], am_mk m1) _ _ _ _
  refine GL.n 5 (S' := (1158, LL i, [.inl (i + (1 : Int32)), .inr (.inr (some (19, 0))), .inr (.inr (some (10, 0))), .inl v], am_mk m1)) rfl ?_
  refine GL.ld rfl rfl hb.1 ?_
  show GL xs Lx d (1159, LL i, [.inl (xs (i + (1 : Int32)).toNatClampNeg), .inr (.inr (some (10, 0))), .inl v], am_mk m1) _ _ _ _
  refine GL.cl rfl (ex_X10_image d (by omega) (xs (i + (1 : Int32)).toNatClampNeg) m1 (v, m2) f2) ?_
  show GL xs Lx d (1162, LL i, [.inl v, .inl v], am_mk m2) _ _ _ _
  exact GL.c1 (S' := (1226, LL i, [], am_mk m2)) (if_pos rfl) hk
set_option maxRecDepth 100000 in
theorem lc_back {xs : Nat → Int32} {Lx d : Nat} (hd : 60 ≤ d) {m : am_m} {i : Int32} (h : Inv m) (hb : lwB Lx i) : lwGo xs Lx d 1167 i m := by
  obtain ⟨v, m1, m2, f1, f2, f3⟩ := op_back h (xs (i + (1 : Int32)).toNatClampNeg)
  refine ⟨m2, 0, 0, by decide, by decide, f3, fun r M' kc ks hk => ?_⟩
  rw [Nat.zero_add, Nat.zero_add]
  refine GL.n 5 (S' := (1172, LL i, [.inl (i + (1 : Int32)), .inr (.inr (some (19, 0))), .inr (.inr (some (9, 0)))], am_mk m)) rfl ?_
  refine GL.ld rfl rfl hb.1 ?_
  show GL xs Lx d (1173, LL i, [.inl (xs (i + (1 : Int32)).toNatClampNeg), .inr (.inr (some (9, 0)))], am_mk m) _ _ _ _
  refine GL.cl rfl (ex_X9_back d (by omega) (xs (i + (1 : Int32)).toNatClampNeg) m (v, m1) f1) ?_
  show GL xs Lx d (1176, LL i, [.inl v], am_mk m1) _ _ _ _
  refine GL.n 5 (S' := (1181, LL i, [.inl (i + (1 : Int32)), .inr (.inr (some (19, 0))), .inr (.inr (some (10, 0))), .inl v], am_mk m1)) rfl ?_
  refine GL.ld rfl rfl hb.1 ?_
  show GL xs Lx d (1182, LL i, [.inl (xs (i + (1 : Int32)).toNatClampNeg), .inr (.inr (some (10, 0))), .inl v], am_mk m1) _ _ _ _
  refine GL.cl rfl (ex_X10_back d (by omega) (xs (i + (1 : Int32)).toNatClampNeg) m1 (v, m2) f2) ?_
  show GL xs Lx d (1185, LL i, [.inl v, .inl v], am_mk m2) _ _ _ _
  exact GL.c1 (S' := (1226, LL i, [], am_mk m2)) (if_pos rfl) hk
set_option maxRecDepth 100000 in
theorem lc_count {xs : Nat → Int32} {Lx d : Nat} (hd : 60 ≤ d) {m : am_m} {i : Int32} (h : Inv m) (hb : lwB Lx i) : lwGo xs Lx d 1190 i m := by
  obtain ⟨v, m1, m2, f1, f2, f3⟩ := op_count h (xs (i + (1 : Int32)).toNatClampNeg)
  obtain ⟨f1, rfl⟩ := mp_some f1
  refine ⟨m2, 0, 0, by decide, by decide, f3, fun r M' kc ks hk => ?_⟩
  rw [Nat.zero_add, Nat.zero_add]
  refine GL.n 5 (S' := (1195, LL i, [.inl (i + (1 : Int32)), .inr (.inr (some (19, 0))), .inr (.inr (some (9, 0)))], am_mk m1)) rfl ?_
  refine GL.ld rfl rfl hb.1 ?_
  show GL xs Lx d (1196, LL i, [.inl (xs (i + (1 : Int32)).toNatClampNeg), .inr (.inr (some (9, 0)))], am_mk m1) _ _ _ _
  refine GL.cl rfl (ex_X9_count d (by omega) (xs (i + (1 : Int32)).toNatClampNeg) m1 v f1) ?_
  show GL xs Lx d (1199, LL i, [.inl v], am_mk m1) _ _ _ _
  refine GL.n 5 (S' := (1204, LL i, [.inl (i + (1 : Int32)), .inr (.inr (some (19, 0))), .inr (.inr (some (10, 0))), .inl v], am_mk m1)) rfl ?_
  refine GL.ld rfl rfl hb.1 ?_
  show GL xs Lx d (1205, LL i, [.inl (xs (i + (1 : Int32)).toNatClampNeg), .inr (.inr (some (10, 0))), .inl v], am_mk m1) _ _ _ _
  refine GL.cl rfl (ex_X10_count d (by omega) (xs (i + (1 : Int32)).toNatClampNeg) m1 (v, m2) f2) ?_
  show GL xs Lx d (1208, LL i, [.inl v, .inl v], am_mk m2) _ _ _ _
  exact GL.c1 (S' := (1226, LL i, [], am_mk m2)) (if_pos rfl) hk
set_option maxRecDepth 100000 in
theorem lc_status {xs : Nat → Int32} {Lx d : Nat} (hd : 60 ≤ d) {m : am_m} {i : Int32} (h : Inv m) (hb : lwB Lx i) : lwGo xs Lx d 1213 i m := by
  obtain ⟨v, m1, m2, f1, f2, f3⟩ := op_status h
  obtain ⟨f1, rfl⟩ := mp_some f1
  refine ⟨m2, 0, 0, by decide, by decide, f3, fun r M' kc ks hk => ?_⟩
  rw [Nat.zero_add, Nat.zero_add]
  refine GL.n 1 (S' := (1214, LL i, [.inr (.inr (some (9, 0)))], am_mk m1)) rfl ?_
  refine GL.cl rfl (ex_X9_status d (by omega) m1 v f1) ?_
  show GL xs Lx d (1217, LL i, [.inl v], am_mk m1) _ _ _ _
  refine GL.n 1 (S' := (1218, LL i, [.inr (.inr (some (10, 0))), .inl v], am_mk m1)) rfl ?_
  refine GL.cl rfl (ex_X10_status d (by omega) m1 (v, m2) f2) ?_
  show GL xs Lx d (1221, LL i, [.inl v, .inl v], am_mk m2) _ _ _ _
  exact GL.c1 (S' := (1226, LL i, [], am_mk m2)) (if_pos rfl) hk
def tbL : List (Int32 × Nat) := [(0, 212), (1, 235), (2, 268), (3, 311), (4, 344), (5, 407), (6, 430), (7, 443), (8, 456), (9, 469), (10, 482), (11, 495), (12, 508), (13, 531), (14, 574), (15, 597), (16, 630), (17, 643), (18, 656), (19, 679), (20, 702), (21, 725), (22, 748), (23, 781), (24, 824), (25, 837), (26, 860), (27, 883), (28, 896), (29, 919), (30, 942), (31, 975), (32, 998), (33, 1021), (34, 1055), (35, 1078), (36, 1111), (37, 1144), (38, 1167), (39, 1190), (40, 1213)]
theorem lc_all {xs : Nat → Int32} {Lx d : Nat} (hd : 60 ≤ d) {m : am_m} {i : Int32} (h : Inv m) (hb : lwB Lx i) : ∀ q ∈ tbL, lwGo xs Lx d q.2 i m := List.forall_mem_cons.mpr ⟨lc_folk hd h hb, List.forall_mem_cons.mpr ⟨lc_of hd h hb, List.forall_mem_cons.mpr ⟨lc_asks hd h hb, List.forall_mem_cons.mpr ⟨lc_terms hd h hb, List.forall_mem_cons.mpr ⟨lc_feed hd h hb, List.forall_mem_cons.mpr ⟨lc_end hd h hb, List.forall_mem_cons.mpr ⟨lc_row hd h hb, List.forall_mem_cons.mpr ⟨lc_crumbs hd h hb, List.forall_mem_cons.mpr ⟨lc_law hd h hb, List.forall_mem_cons.mpr ⟨lc_orders hd h hb, List.forall_mem_cons.mpr ⟨lc_fault hd h hb, List.forall_mem_cons.mpr ⟨lc_stopped hd h hb, List.forall_mem_cons.mpr ⟨lc_force hd h hb, List.forall_mem_cons.mpr ⟨lc_harm hd h hb, List.forall_mem_cons.mpr ⟨lc_feast hd h hb, List.forall_mem_cons.mpr ⟨lc_pardon hd h hb, List.forall_mem_cons.mpr ⟨lc_pass hd h hb, List.forall_mem_cons.mpr ⟨lc_undo hd h hb, List.forall_mem_cons.mpr ⟨lc_largest hd h hb, List.forall_mem_cons.mpr ⟨lc_tables hd h hb, List.forall_mem_cons.mpr ⟨lc_newHarms hd h hb, List.forall_mem_cons.mpr ⟨lc_leftOut hd h hb, List.forall_mem_cons.mpr ⟨lc_seat hd h hb, List.forall_mem_cons.mpr ⟨lc_chain hd h hb, List.forall_mem_cons.mpr ⟨lc_circles hd h hb, List.forall_mem_cons.mpr ⟨lc_bridges hd h hb, List.forall_mem_cons.mpr ⟨lc_sat hd h hb, List.forall_mem_cons.mpr ⟨lc_forget hd h hb, List.forall_mem_cons.mpr ⟨lc_doubted hd h hb, List.forall_mem_cons.mpr ⟨lc_fitting hd h hb, List.forall_mem_cons.mpr ⟨lc_ask hd h hb, List.forall_mem_cons.mpr ⟨lc_lasts hd h hb, List.forall_mem_cons.mpr ⟨lc_fedBy hd h hb, List.forall_mem_cons.mpr ⟨lc_few hd h hb, List.forall_mem_cons.mpr ⟨lc_compare hd h hb, List.forall_mem_cons.mpr ⟨lc_seasons hd h hb, List.forall_mem_cons.mpr ⟨lc_drawn hd h hb, List.forall_mem_cons.mpr ⟨lc_image hd h hb, List.forall_mem_cons.mpr ⟨lc_back hd h hb, List.forall_mem_cons.mpr ⟨lc_count hd h hb, List.forall_mem_cons.mpr ⟨lc_status hd h hb, fun q hq => absurd hq List.not_mem_nil⟩⟩⟩⟩⟩⟩⟩⟩⟩⟩⟩⟩⟩⟩⟩⟩⟩⟩⟩⟩⟩⟩⟩⟩⟩⟩⟩⟩⟩⟩⟩⟩⟩⟩⟩⟩⟩⟩⟩⟩⟩
