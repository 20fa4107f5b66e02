/-! words of the tables, fields, methods: by program (wip/whole/gen/code.py) -/
theorem am_nil {P : Nat × (am_S → am_R) → Prop} : ∀ q ∈ ([] : List (Nat × (am_S → am_R))), P q := fun _ h => absurd h List.not_mem_nil
theorem am_mem_p {big : List Cond} {ws : List Cond} (ps : List Nat) (hp : ws = ps.filterMap (fun i => big[i]?)) : ∀ w ∈ ws, w ∈ big := fun w hw => by
  rw [hp] at hw
  obtain ⟨i, -, hi⟩ := List.mem_filterMap.mp hw
  exact List.mem_of_getElem? hi
theorem am_t1 {w : Cond} (h : w ∈ tables_1_1) (hk : am_wk w = true) : w ∈ am_tbl := am_in (List.mem_append_right _ (show w ∈ tables_1 from List.mem_append_left _ h)) hk
theorem am_t2 {w : Cond} (h : w ∈ tables_1_2) (hk : am_wk w = true) : w ∈ am_tbl := am_in (List.mem_append_right _ (show w ∈ tables_1 from List.mem_append_right _ (List.mem_append_left _ h))) hk
theorem am_t3 {w : Cond} (h : w ∈ tables_1_3) (hk : am_wk w = true) : w ∈ am_tbl := am_in (List.mem_append_right _ (show w ∈ tables_1 from List.mem_append_right _ (List.mem_append_right _ (List.mem_append_left _ h)))) hk
theorem am_t4 {w : Cond} (h : w ∈ tables_1_4) (hk : am_wk w = true) : w ∈ am_tbl := am_in (List.mem_append_right _ (show w ∈ tables_1 from List.mem_append_right _ (List.mem_append_right _ (List.mem_append_right _ (List.mem_append_left _ h))))) hk
theorem am_t5 {w : Cond} (h : w ∈ tables_1_5) (hk : am_wk w = true) : w ∈ am_tbl := am_in (List.mem_append_right _ (show w ∈ tables_1 from List.mem_append_right _ (List.mem_append_right _ (List.mem_append_right _ (List.mem_append_right _ (List.mem_append_left _ h)))))) hk
theorem am_t6 {w : Cond} (h : w ∈ tables_1_6) (hk : am_wk w = true) : w ∈ am_tbl := am_in (List.mem_append_right _ (show w ∈ tables_1 from List.mem_append_right _ (List.mem_append_right _ (List.mem_append_right _ (List.mem_append_right _ (List.mem_append_right _ (List.mem_append_left _ h))))))) hk
theorem am_t7 {w : Cond} (h : w ∈ tables_1_7) (hk : am_wk w = true) : w ∈ am_tbl := am_in (List.mem_append_right _ (show w ∈ tables_1 from List.mem_append_right _ (List.mem_append_right _ (List.mem_append_right _ (List.mem_append_right _ (List.mem_append_right _ (List.mem_append_right _ (List.mem_append_left _ h)))))))) hk
theorem am_t8 {w : Cond} (h : w ∈ tables_1_8) (hk : am_wk w = true) : w ∈ am_tbl := am_in (List.mem_append_right _ (show w ∈ tables_1 from List.mem_append_right _ (List.mem_append_right _ (List.mem_append_right _ (List.mem_append_right _ (List.mem_append_right _ (List.mem_append_right _ (List.mem_append_right _ (h))))))))) hk
theorem au_0 : ∀ w ∈ u_ws RX0 TX0 1, w ∈ am_tbl := fun w hw => am_in (List.mem_append_right _ (am_mem_p (big := tables_1) [275] (by decide +kernel) w hw)) (List.all_eq_true.mp (show (u_ws RX0 TX0 1).all am_wk = true by decide +kernel) w hw)
theorem af_0_0 : am_F 0 0 1 RX0 TX0 1 := ⟨by decide +kernel, rfl, au_0, by decide +kernel, rfl⟩
theorem au_1 : ∀ w ∈ u_ws RX1 TX1 4, w ∈ am_tbl := fun w hw => am_in (List.mem_append_right _ (am_mem_p (big := tables_1) [200, 202, 204, 206] (by decide +kernel) w hw)) (List.all_eq_true.mp (show (u_ws RX1 TX1 4).all am_wk = true by decide +kernel) w hw)
theorem af_1_0 : am_F 1 0 11 RX1 TX1 4 := ⟨by decide +kernel, rfl, au_1, by decide +kernel, rfl⟩
theorem af_1_1 : am_F 1 1 8 RX1 TX1 4 := ⟨by decide +kernel, rfl, au_1, by decide +kernel, rfl⟩
theorem af_1_2 : am_F 1 2 23 RX1 TX1 4 := ⟨by decide +kernel, rfl, au_1, by decide +kernel, rfl⟩
theorem af_1_3 : am_F 1 3 83 RX1 TX1 4 := ⟨by decide +kernel, rfl, au_1, by decide +kernel, rfl⟩
theorem au_2 : ∀ w ∈ u_ws RX2 TX2 6, w ∈ am_tbl := fun w hw => am_in (List.mem_append_right _ (am_mem_p (big := tables_1) [255, 257, 259, 261, 263, 265] (by decide +kernel) w hw)) (List.all_eq_true.mp (show (u_ws RX2 TX2 6).all am_wk = true by decide +kernel) w hw)
theorem af_2_0 : am_F 2 0 2 RX2 TX2 6 := ⟨by decide +kernel, rfl, au_2, by decide +kernel, rfl⟩
theorem af_2_1 : am_F 2 1 0 RX2 TX2 6 := ⟨by decide +kernel, rfl, au_2, by decide +kernel, rfl⟩
theorem af_2_2 : am_F 2 2 0 RX2 TX2 6 := ⟨by decide +kernel, rfl, au_2, by decide +kernel, rfl⟩
theorem af_2_3 : am_F 2 3 24 RX2 TX2 6 := ⟨by decide +kernel, rfl, au_2, by decide +kernel, rfl⟩
theorem af_2_4 : am_F 2 4 25 RX2 TX2 6 := ⟨by decide +kernel, rfl, au_2, by decide +kernel, rfl⟩
theorem af_2_5 : am_F 2 5 26 RX2 TX2 6 := ⟨by decide +kernel, rfl, au_2, by decide +kernel, rfl⟩
theorem au_3 : ∀ w ∈ u_ws RX3 TX3 2, w ∈ am_tbl := fun w hw => am_in (List.mem_append_right _ (am_mem_p (big := tables_1) [94, 96] (by decide +kernel) w hw)) (List.all_eq_true.mp (show (u_ws RX3 TX3 2).all am_wk = true by decide +kernel) w hw)
theorem af_3_0 : am_F 3 0 27 RX3 TX3 2 := ⟨by decide +kernel, rfl, au_3, by decide +kernel, rfl⟩
theorem af_3_1 : am_F 3 1 0 RX3 TX3 2 := ⟨by decide +kernel, rfl, au_3, by decide +kernel, rfl⟩
theorem au_4 : ∀ w ∈ u_ws RX4 TX4 11, w ∈ am_tbl := fun w hw => am_in (List.mem_append_right _ (am_mem_p (big := tables_1) [165, 167, 169, 171, 173, 175, 177, 179, 181, 183, 185] (by decide +kernel) w hw)) (List.all_eq_true.mp (show (u_ws RX4 TX4 11).all am_wk = true by decide +kernel) w hw)
theorem af_4_0 : am_F 4 0 28 RX4 TX4 11 := ⟨by decide +kernel, rfl, au_4, by decide +kernel, rfl⟩
theorem af_4_1 : am_F 4 1 29 RX4 TX4 11 := ⟨by decide +kernel, rfl, au_4, by decide +kernel, rfl⟩
theorem af_4_2 : am_F 4 2 30 RX4 TX4 11 := ⟨by decide +kernel, rfl, au_4, by decide +kernel, rfl⟩
theorem af_4_3 : am_F 4 3 8 RX4 TX4 11 := ⟨by decide +kernel, rfl, au_4, by decide +kernel, rfl⟩
theorem af_4_4 : am_F 4 4 0 RX4 TX4 11 := ⟨by decide +kernel, rfl, au_4, by decide +kernel, rfl⟩
theorem af_4_5 : am_F 4 5 0 RX4 TX4 11 := ⟨by decide +kernel, rfl, au_4, by decide +kernel, rfl⟩
theorem af_4_6 : am_F 4 6 0 RX4 TX4 11 := ⟨by decide +kernel, rfl, au_4, by decide +kernel, rfl⟩
theorem af_4_7 : am_F 4 7 0 RX4 TX4 11 := ⟨by decide +kernel, rfl, au_4, by decide +kernel, rfl⟩
theorem af_4_8 : am_F 4 8 0 RX4 TX4 11 := ⟨by decide +kernel, rfl, au_4, by decide +kernel, rfl⟩
theorem af_4_9 : am_F 4 9 2 RX4 TX4 11 := ⟨by decide +kernel, rfl, au_4, by decide +kernel, rfl⟩
theorem af_4_10 : am_F 4 10 0 RX4 TX4 11 := ⟨by decide +kernel, rfl, au_4, by decide +kernel, rfl⟩
theorem au_5 : ∀ w ∈ u_ws RX5 TX5 5, w ∈ am_tbl := fun w hw => am_in (List.mem_append_right _ (am_mem_p (big := tables_1) [141, 143, 145, 147, 149] (by decide +kernel) w hw)) (List.all_eq_true.mp (show (u_ws RX5 TX5 5).all am_wk = true by decide +kernel) w hw)
theorem af_5_0 : am_F 5 0 31 RX5 TX5 5 := ⟨by decide +kernel, rfl, au_5, by decide +kernel, rfl⟩
theorem af_5_1 : am_F 5 1 32 RX5 TX5 5 := ⟨by decide +kernel, rfl, au_5, by decide +kernel, rfl⟩
theorem af_5_2 : am_F 5 2 0 RX5 TX5 5 := ⟨by decide +kernel, rfl, au_5, by decide +kernel, rfl⟩
theorem af_5_3 : am_F 5 3 0 RX5 TX5 5 := ⟨by decide +kernel, rfl, au_5, by decide +kernel, rfl⟩
theorem af_5_4 : am_F 5 4 0 RX5 TX5 5 := ⟨by decide +kernel, rfl, au_5, by decide +kernel, rfl⟩
theorem au_6 : ∀ w ∈ u_ws RX6 TX6 8, w ∈ am_tbl := fun w hw => am_in (List.mem_append_right _ (am_mem_p (big := tables_1) [225, 227, 229, 231, 233, 235, 237, 239] (by decide +kernel) w hw)) (List.all_eq_true.mp (show (u_ws RX6 TX6 8).all am_wk = true by decide +kernel) w hw)
theorem af_6_0 : am_F 6 0 0 RX6 TX6 8 := ⟨by decide +kernel, rfl, au_6, by decide +kernel, rfl⟩
theorem af_6_1 : am_F 6 1 33 RX6 TX6 8 := ⟨by decide +kernel, rfl, au_6, by decide +kernel, rfl⟩
theorem af_6_2 : am_F 6 2 34 RX6 TX6 8 := ⟨by decide +kernel, rfl, au_6, by decide +kernel, rfl⟩
theorem af_6_3 : am_F 6 3 35 RX6 TX6 8 := ⟨by decide +kernel, rfl, au_6, by decide +kernel, rfl⟩
theorem af_6_4 : am_F 6 4 36 RX6 TX6 8 := ⟨by decide +kernel, rfl, au_6, by decide +kernel, rfl⟩
theorem af_6_5 : am_F 6 5 37 RX6 TX6 8 := ⟨by decide +kernel, rfl, au_6, by decide +kernel, rfl⟩
theorem af_6_6 : am_F 6 6 93 RX6 TX6 8 := ⟨by decide +kernel, rfl, au_6, by decide +kernel, rfl⟩
theorem af_6_7 : am_F 6 7 0 RX6 TX6 8 := ⟨by decide +kernel, rfl, au_6, by decide +kernel, rfl⟩
theorem au_7 : ∀ w ∈ u_ws RX7 TX7 2, w ∈ am_tbl := fun w hw => am_in (List.mem_append_right _ (am_mem_p (big := tables_1) [109, 111] (by decide +kernel) w hw)) (List.all_eq_true.mp (show (u_ws RX7 TX7 2).all am_wk = true by decide +kernel) w hw)
theorem af_7_0 : am_F 7 0 38 RX7 TX7 2 := ⟨by decide +kernel, rfl, au_7, by decide +kernel, rfl⟩
theorem af_7_1 : am_F 7 1 0 RX7 TX7 2 := ⟨by decide +kernel, rfl, au_7, by decide +kernel, rfl⟩
theorem au_8 : ∀ w ∈ u_ws RX8 TX8 10, w ∈ am_tbl := fun w hw => am_in (List.mem_append_right _ (am_mem_p (big := tables_1) [62, 64, 66, 68, 70, 72, 74, 76, 78, 80] (by decide +kernel) w hw)) (List.all_eq_true.mp (show (u_ws RX8 TX8 10).all am_wk = true by decide +kernel) w hw)
theorem af_8_0 : am_F 8 0 0 RX8 TX8 10 := ⟨by decide +kernel, rfl, au_8, by decide +kernel, rfl⟩
theorem af_8_1 : am_F 8 1 0 RX8 TX8 10 := ⟨by decide +kernel, rfl, au_8, by decide +kernel, rfl⟩
theorem af_8_2 : am_F 8 2 0 RX8 TX8 10 := ⟨by decide +kernel, rfl, au_8, by decide +kernel, rfl⟩
theorem af_8_3 : am_F 8 3 0 RX8 TX8 10 := ⟨by decide +kernel, rfl, au_8, by decide +kernel, rfl⟩
theorem af_8_4 : am_F 8 4 39 RX8 TX8 10 := ⟨by decide +kernel, rfl, au_8, by decide +kernel, rfl⟩
theorem af_8_5 : am_F 8 5 40 RX8 TX8 10 := ⟨by decide +kernel, rfl, au_8, by decide +kernel, rfl⟩
theorem af_8_6 : am_F 8 6 41 RX8 TX8 10 := ⟨by decide +kernel, rfl, au_8, by decide +kernel, rfl⟩
theorem af_8_7 : am_F 8 7 42 RX8 TX8 10 := ⟨by decide +kernel, rfl, au_8, by decide +kernel, rfl⟩
theorem af_8_8 : am_F 8 8 43 RX8 TX8 10 := ⟨by decide +kernel, rfl, au_8, by decide +kernel, rfl⟩
theorem af_8_9 : am_F 8 9 103 RX8 TX8 10 := ⟨by decide +kernel, rfl, au_8, by decide +kernel, rfl⟩
theorem au_9 : ∀ w ∈ u_ws RX9 TX9 18, w ∈ am_tbl := fun w hw => am_in (List.mem_append_right _ (am_mem_p (big := tables_1) [296, 298, 300, 302, 304, 306, 308, 310, 312, 314, 316, 318, 320, 322, 324, 326, 328, 330] (by decide +kernel) w hw)) (List.all_eq_true.mp (show (u_ws RX9 TX9 18).all am_wk = true by decide +kernel) w hw)
theorem af_9_0 : am_F 9 0 11 RX9 TX9 18 := ⟨by decide +kernel, rfl, au_9, by decide +kernel, rfl⟩
theorem af_9_1 : am_F 9 1 11 RX9 TX9 18 := ⟨by decide +kernel, rfl, au_9, by decide +kernel, rfl⟩
theorem af_9_2 : am_F 9 2 11 RX9 TX9 18 := ⟨by decide +kernel, rfl, au_9, by decide +kernel, rfl⟩
theorem af_9_3 : am_F 9 3 104 RX9 TX9 18 := ⟨by decide +kernel, rfl, au_9, by decide +kernel, rfl⟩
theorem af_9_4 : am_F 9 4 6 RX9 TX9 18 := ⟨by decide +kernel, rfl, au_9, by decide +kernel, rfl⟩
theorem af_9_5 : am_F 9 5 6 RX9 TX9 18 := ⟨by decide +kernel, rfl, au_9, by decide +kernel, rfl⟩
theorem af_9_6 : am_F 9 6 10 RX9 TX9 18 := ⟨by decide +kernel, rfl, au_9, by decide +kernel, rfl⟩
theorem af_9_7 : am_F 9 7 7 RX9 TX9 18 := ⟨by decide +kernel, rfl, au_9, by decide +kernel, rfl⟩
theorem af_9_8 : am_F 9 8 4 RX9 TX9 18 := ⟨by decide +kernel, rfl, au_9, by decide +kernel, rfl⟩
theorem af_9_9 : am_F 9 9 9 RX9 TX9 18 := ⟨by decide +kernel, rfl, au_9, by decide +kernel, rfl⟩
theorem af_9_10 : am_F 9 10 5 RX9 TX9 18 := ⟨by decide +kernel, rfl, au_9, by decide +kernel, rfl⟩
theorem af_9_11 : am_F 9 11 3 RX9 TX9 18 := ⟨by decide +kernel, rfl, au_9, by decide +kernel, rfl⟩
theorem af_9_12 : am_F 9 12 44 RX9 TX9 18 := ⟨by decide +kernel, rfl, au_9, by decide +kernel, rfl⟩
theorem af_9_13 : am_F 9 13 84 RX9 TX9 18 := ⟨by decide +kernel, rfl, au_9, by decide +kernel, rfl⟩
theorem af_9_14 : am_F 9 14 45 RX9 TX9 18 := ⟨by decide +kernel, rfl, au_9, by decide +kernel, rfl⟩
theorem af_9_15 : am_F 9 15 0 RX9 TX9 18 := ⟨by decide +kernel, rfl, au_9, by decide +kernel, rfl⟩
theorem af_9_16 : am_F 9 16 0 RX9 TX9 18 := ⟨by decide +kernel, rfl, au_9, by decide +kernel, rfl⟩
theorem af_9_17 : am_F 9 17 0 RX9 TX9 18 := ⟨by decide +kernel, rfl, au_9, by decide +kernel, rfl⟩
theorem au_10 : ∀ w ∈ u_ws RX10 TX10 62, w ∈ am_tbl := fun w hw => am_in (List.mem_append_right _ (am_mem_p (big := tables_1) [1166, 1168, 1170, 1172, 1174, 1176, 1178, 1180, 1182, 1184, 1186, 1188, 1190, 1192, 1194, 1196, 1198, 1200, 1202, 1204, 1206, 1208, 1210, 1212, 1214, 1216, 1218, 1220, 1222, 1224, 1226, 1228, 1230, 1232, 1234, 1236, 1238, 1240, 1242, 1244, 1246, 1248, 1250, 1252, 1254, 1256, 1258, 1260, 1262, 1264, 1266, 1268, 1270, 1272, 1274, 1276, 1278, 1280, 1282, 1284, 1286, 1288] (by decide +kernel) w hw)) (List.all_eq_true.mp (show (u_ws RX10 TX10 62).all am_wk = true by decide +kernel) w hw)
theorem af_10_0 : am_F 10 0 0 RX10 TX10 62 := ⟨by decide +kernel, rfl, au_10, by decide +kernel, rfl⟩
theorem af_10_1 : am_F 10 1 0 RX10 TX10 62 := ⟨by decide +kernel, rfl, au_10, by decide +kernel, rfl⟩
theorem af_10_2 : am_F 10 2 46 RX10 TX10 62 := ⟨by decide +kernel, rfl, au_10, by decide +kernel, rfl⟩
theorem af_10_3 : am_F 10 3 47 RX10 TX10 62 := ⟨by decide +kernel, rfl, au_10, by decide +kernel, rfl⟩
theorem af_10_4 : am_F 10 4 48 RX10 TX10 62 := ⟨by decide +kernel, rfl, au_10, by decide +kernel, rfl⟩
theorem af_10_5 : am_F 10 5 94 RX10 TX10 62 := ⟨by decide +kernel, rfl, au_10, by decide +kernel, rfl⟩
theorem af_10_6 : am_F 10 6 49 RX10 TX10 62 := ⟨by decide +kernel, rfl, au_10, by decide +kernel, rfl⟩
theorem af_10_7 : am_F 10 7 50 RX10 TX10 62 := ⟨by decide +kernel, rfl, au_10, by decide +kernel, rfl⟩
theorem af_10_8 : am_F 10 8 0 RX10 TX10 62 := ⟨by decide +kernel, rfl, au_10, by decide +kernel, rfl⟩
theorem af_10_9 : am_F 10 9 51 RX10 TX10 62 := ⟨by decide +kernel, rfl, au_10, by decide +kernel, rfl⟩
theorem af_10_10 : am_F 10 10 52 RX10 TX10 62 := ⟨by decide +kernel, rfl, au_10, by decide +kernel, rfl⟩
theorem af_10_11 : am_F 10 11 0 RX10 TX10 62 := ⟨by decide +kernel, rfl, au_10, by decide +kernel, rfl⟩
theorem af_10_12 : am_F 10 12 53 RX10 TX10 62 := ⟨by decide +kernel, rfl, au_10, by decide +kernel, rfl⟩
theorem af_10_13 : am_F 10 13 0 RX10 TX10 62 := ⟨by decide +kernel, rfl, au_10, by decide +kernel, rfl⟩
theorem af_10_14 : am_F 10 14 0 RX10 TX10 62 := ⟨by decide +kernel, rfl, au_10, by decide +kernel, rfl⟩
theorem af_10_15 : am_F 10 15 0 RX10 TX10 62 := ⟨by decide +kernel, rfl, au_10, by decide +kernel, rfl⟩
theorem af_10_16 : am_F 10 16 0 RX10 TX10 62 := ⟨by decide +kernel, rfl, au_10, by decide +kernel, rfl⟩
theorem af_10_17 : am_F 10 17 1 RX10 TX10 62 := ⟨by decide +kernel, rfl, au_10, by decide +kernel, rfl⟩
theorem af_10_18 : am_F 10 18 0 RX10 TX10 62 := ⟨by decide +kernel, rfl, au_10, by decide +kernel, rfl⟩
theorem af_10_19 : am_F 10 19 2 RX10 TX10 62 := ⟨by decide +kernel, rfl, au_10, by decide +kernel, rfl⟩
theorem af_10_20 : am_F 10 20 2 RX10 TX10 62 := ⟨by decide +kernel, rfl, au_10, by decide +kernel, rfl⟩
theorem af_10_21 : am_F 10 21 0 RX10 TX10 62 := ⟨by decide +kernel, rfl, au_10, by decide +kernel, rfl⟩
theorem af_10_22 : am_F 10 22 54 RX10 TX10 62 := ⟨by decide +kernel, rfl, au_10, by decide +kernel, rfl⟩
theorem af_10_23 : am_F 10 23 0 RX10 TX10 62 := ⟨by decide +kernel, rfl, au_10, by decide +kernel, rfl⟩
theorem af_10_24 : am_F 10 24 55 RX10 TX10 62 := ⟨by decide +kernel, rfl, au_10, by decide +kernel, rfl⟩
theorem af_10_25 : am_F 10 25 56 RX10 TX10 62 := ⟨by decide +kernel, rfl, au_10, by decide +kernel, rfl⟩
theorem af_10_26 : am_F 10 26 0 RX10 TX10 62 := ⟨by decide +kernel, rfl, au_10, by decide +kernel, rfl⟩
theorem af_10_27 : am_F 10 27 57 RX10 TX10 62 := ⟨by decide +kernel, rfl, au_10, by decide +kernel, rfl⟩
theorem af_10_28 : am_F 10 28 58 RX10 TX10 62 := ⟨by decide +kernel, rfl, au_10, by decide +kernel, rfl⟩
theorem af_10_29 : am_F 10 29 0 RX10 TX10 62 := ⟨by decide +kernel, rfl, au_10, by decide +kernel, rfl⟩
theorem af_10_30 : am_F 10 30 0 RX10 TX10 62 := ⟨by decide +kernel, rfl, au_10, by decide +kernel, rfl⟩
theorem af_10_31 : am_F 10 31 85 RX10 TX10 62 := ⟨by decide +kernel, rfl, au_10, by decide +kernel, rfl⟩
theorem af_10_32 : am_F 10 32 86 RX10 TX10 62 := ⟨by decide +kernel, rfl, au_10, by decide +kernel, rfl⟩
theorem af_10_33 : am_F 10 33 87 RX10 TX10 62 := ⟨by decide +kernel, rfl, au_10, by decide +kernel, rfl⟩
theorem af_10_34 : am_F 10 34 0 RX10 TX10 62 := ⟨by decide +kernel, rfl, au_10, by decide +kernel, rfl⟩
theorem af_10_35 : am_F 10 35 88 RX10 TX10 62 := ⟨by decide +kernel, rfl, au_10, by decide +kernel, rfl⟩
theorem af_10_36 : am_F 10 36 89 RX10 TX10 62 := ⟨by decide +kernel, rfl, au_10, by decide +kernel, rfl⟩
theorem af_10_37 : am_F 10 37 90 RX10 TX10 62 := ⟨by decide +kernel, rfl, au_10, by decide +kernel, rfl⟩
theorem af_10_38 : am_F 10 38 2 RX10 TX10 62 := ⟨by decide +kernel, rfl, au_10, by decide +kernel, rfl⟩
theorem af_10_39 : am_F 10 39 1 RX10 TX10 62 := ⟨by decide +kernel, rfl, au_10, by decide +kernel, rfl⟩
theorem af_10_40 : am_F 10 40 1 RX10 TX10 62 := ⟨by decide +kernel, rfl, au_10, by decide +kernel, rfl⟩
theorem af_10_41 : am_F 10 41 95 RX10 TX10 62 := ⟨by decide +kernel, rfl, au_10, by decide +kernel, rfl⟩
theorem af_10_42 : am_F 10 42 96 RX10 TX10 62 := ⟨by decide +kernel, rfl, au_10, by decide +kernel, rfl⟩
theorem af_10_43 : am_F 10 43 59 RX10 TX10 62 := ⟨by decide +kernel, rfl, au_10, by decide +kernel, rfl⟩
theorem af_10_44 : am_F 10 44 60 RX10 TX10 62 := ⟨by decide +kernel, rfl, au_10, by decide +kernel, rfl⟩
theorem af_10_45 : am_F 10 45 61 RX10 TX10 62 := ⟨by decide +kernel, rfl, au_10, by decide +kernel, rfl⟩
theorem af_10_46 : am_F 10 46 0 RX10 TX10 62 := ⟨by decide +kernel, rfl, au_10, by decide +kernel, rfl⟩
theorem af_10_47 : am_F 10 47 97 RX10 TX10 62 := ⟨by decide +kernel, rfl, au_10, by decide +kernel, rfl⟩
theorem af_10_48 : am_F 10 48 98 RX10 TX10 62 := ⟨by decide +kernel, rfl, au_10, by decide +kernel, rfl⟩
theorem af_10_49 : am_F 10 49 62 RX10 TX10 62 := ⟨by decide +kernel, rfl, au_10, by decide +kernel, rfl⟩
theorem af_10_50 : am_F 10 50 63 RX10 TX10 62 := ⟨by decide +kernel, rfl, au_10, by decide +kernel, rfl⟩
theorem af_10_51 : am_F 10 51 91 RX10 TX10 62 := ⟨by decide +kernel, rfl, au_10, by decide +kernel, rfl⟩
theorem af_10_52 : am_F 10 52 92 RX10 TX10 62 := ⟨by decide +kernel, rfl, au_10, by decide +kernel, rfl⟩
theorem af_10_53 : am_F 10 53 64 RX10 TX10 62 := ⟨by decide +kernel, rfl, au_10, by decide +kernel, rfl⟩
theorem af_10_54 : am_F 10 54 65 RX10 TX10 62 := ⟨by decide +kernel, rfl, au_10, by decide +kernel, rfl⟩
theorem af_10_55 : am_F 10 55 0 RX10 TX10 62 := ⟨by decide +kernel, rfl, au_10, by decide +kernel, rfl⟩
theorem af_10_56 : am_F 10 56 0 RX10 TX10 62 := ⟨by decide +kernel, rfl, au_10, by decide +kernel, rfl⟩
theorem af_10_57 : am_F 10 57 0 RX10 TX10 62 := ⟨by decide +kernel, rfl, au_10, by decide +kernel, rfl⟩
theorem af_10_58 : am_F 10 58 2 RX10 TX10 62 := ⟨by decide +kernel, rfl, au_10, by decide +kernel, rfl⟩
theorem af_10_59 : am_F 10 59 1 RX10 TX10 62 := ⟨by decide +kernel, rfl, au_10, by decide +kernel, rfl⟩
theorem af_10_60 : am_F 10 60 66 RX10 TX10 62 := ⟨by decide +kernel, rfl, au_10, by decide +kernel, rfl⟩
theorem af_10_61 : am_F 10 61 0 RX10 TX10 62 := ⟨by decide +kernel, rfl, au_10, by decide +kernel, rfl⟩
theorem aw_1_1 : (Cond.initialized "BrokenBread") ∈ am_tbl := am_t1 (List.mem_of_getElem? (i := 1) rfl) rfl
theorem aw_1_2 : (Cond.initialized "BrokenBread$Upland") ∈ am_tbl := am_t1 (List.mem_of_getElem? (i := 2) rfl) rfl
theorem aw_1_3 : (Cond.initialized "BrokenBread$Past") ∈ am_tbl := am_t1 (List.mem_of_getElem? (i := 3) rfl) rfl
theorem aw_1_4 : (Cond.initialized "BrokenBread$Tape") ∈ am_tbl := am_t1 (List.mem_of_getElem? (i := 4) rfl) rfl
theorem aw_1_5 : (Cond.initialized "BrokenBread$Reader") ∈ am_tbl := am_t1 (List.mem_of_getElem? (i := 5) rfl) rfl
theorem aw_1_6 : (Cond.initialized "BrokenBread$Script") ∈ am_tbl := am_t1 (List.mem_of_getElem? (i := 6) rfl) rfl
theorem aw_1_7 : (Cond.initialized "java/lang/Math") ∈ am_tbl := am_t1 (List.mem_of_getElem? (i := 7) rfl) rfl
theorem aw_1_8 : (Cond.initialized "BrokenBread$Judge") ∈ am_tbl := am_t1 (List.mem_of_getElem? (i := 8) rfl) rfl
theorem aw_1_9 : (Cond.initialized "BrokenBread$Seating") ∈ am_tbl := am_t1 (List.mem_of_getElem? (i := 9) rfl) rfl
theorem aw_1_10 : (Cond.initialized "BrokenBread$Parting") ∈ am_tbl := am_t1 (List.mem_of_getElem? (i := 10) rfl) rfl
theorem aw_1_11 : (Cond.initialized "BrokenBread$Draws") ∈ am_tbl := am_t1 (List.mem_of_getElem? (i := 11) rfl) rfl
theorem aw_1_12 : (Cond.initialized "BrokenBreadModel") ∈ am_tbl := am_t1 (List.mem_of_getElem? (i := 12) rfl) rfl
theorem aw_1_13 : (Cond.initialized "java/lang/String") ∈ am_tbl := am_t1 (List.mem_of_getElem? (i := 13) rfl) rfl
theorem aw_1_14 : (Cond.initialized "java/lang/StringLatin1") ∈ am_tbl := am_t1 (List.mem_of_getElem? (i := 14) rfl) rfl
theorem aw_1_15 : (Cond.initialized "jdk/internal/util/Preconditions") ∈ am_tbl := am_t1 (List.mem_of_getElem? (i := 15) rfl) rfl
theorem aw_1_17 : (Cond.initialized "java/lang/System") ∈ am_tbl := am_t1 (List.mem_of_getElem? (i := 17) rfl) rfl
theorem aw_1_18 : (Cond.initialized "java/lang/Integer") ∈ am_tbl := am_t1 (List.mem_of_getElem? (i := 18) rfl) rfl
theorem aw_1_19 : (Cond.classLink "BrokenBreadLaw" (7 : Nat) "BrokenBread") ∈ am_tbl := am_t1 (List.mem_of_getElem? (i := 19) rfl) rfl
theorem aw_1_20 : (Cond.instantiable "BrokenBread" (18 : Nat)) ∈ am_tbl := am_t1 (List.mem_of_getElem? (i := 20) rfl) rfl
theorem aw_1_21 : (Cond.methodLink "BrokenBreadLaw" (9 : Nat) ({ cls := "BrokenBread", name := "<init>", desc := "()V" } : MethodName)) ∈ am_tbl := am_t1 (List.mem_of_getElem? (i := 21) rfl) rfl
theorem aw_1_22 : (Cond.instanceMethod ({ cls := "BrokenBread", name := "<init>", desc := "()V" } : MethodName)) ∈ am_tbl := am_t1 (List.mem_of_getElem? (i := 22) rfl) rfl
theorem aw_1_23 : (Cond.code ({ cls := "BrokenBread", name := "<init>", desc := "()V" } : MethodName) prog_1_method_1_code (1 : Nat) (Option.none : Option FieldType)) ∈ am_tbl := am_t1 (List.mem_of_getElem? (i := 23) rfl) rfl
theorem aw_1_24 : (Cond.methodLink "BrokenBread" (1 : Nat) ({ cls := "java/lang/Object", name := "<init>", desc := "()V" } : MethodName)) ∈ am_tbl := am_t1 (List.mem_of_getElem? (i := 24) rfl) rfl
theorem aw_1_25 : (Cond.instanceMethod ({ cls := "java/lang/Object", name := "<init>", desc := "()V" } : MethodName)) ∈ am_tbl := am_t1 (List.mem_of_getElem? (i := 25) rfl) rfl
theorem aw_1_26 : (Cond.code ({ cls := "java/lang/Object", name := "<init>", desc := "()V" } : MethodName) object_method_1_code (1 : Nat) (Option.none : Option FieldType)) ∈ am_tbl := am_t1 (List.mem_of_getElem? (i := 26) rfl) rfl
theorem aw_1_27 : (Cond.classLink "BrokenBread" (7 : Nat) "BrokenBread$Upland") ∈ am_tbl := am_t1 (List.mem_of_getElem? (i := 27) rfl) rfl
theorem aw_1_28 : (Cond.instantiable "BrokenBread$Upland" (10 : Nat)) ∈ am_tbl := am_t1 (List.mem_of_getElem? (i := 28) rfl) rfl
theorem aw_1_29 : (Cond.methodLink "BrokenBread" (9 : Nat) ({ cls := "BrokenBread$Upland", name := "<init>", desc := "()V" } : MethodName)) ∈ am_tbl := am_t1 (List.mem_of_getElem? (i := 29) rfl) rfl
theorem aw_1_30 : (Cond.instanceMethod ({ cls := "BrokenBread$Upland", name := "<init>", desc := "()V" } : MethodName)) ∈ am_tbl := am_t1 (List.mem_of_getElem? (i := 30) rfl) rfl
theorem aw_1_31 : (Cond.code ({ cls := "BrokenBread$Upland", name := "<init>", desc := "()V" } : MethodName) prog_10_method_1_code (1 : Nat) (Option.none : Option FieldType)) ∈ am_tbl := am_t1 (List.mem_of_getElem? (i := 31) rfl) rfl
theorem aw_1_32 : (Cond.methodLink "BrokenBread$Upland" (3 : Nat) ({ cls := "java/lang/Object", name := "<init>", desc := "()V" } : MethodName)) ∈ am_tbl := am_t1 (List.mem_of_getElem? (i := 32) rfl) rfl
theorem aw_1_33 : (Cond.classLink "BrokenBread$Upland" (40 : Nat) "BrokenBread$Script") ∈ am_tbl := am_t1 (List.mem_of_getElem? (i := 33) rfl) rfl
theorem aw_1_34 : (Cond.arrayOver (FieldType.object "BrokenBread$Script")) ∈ am_tbl := am_t1 (List.mem_of_getElem? (i := 34) rfl) rfl
theorem aw_1_35 : (Cond.fieldLink "BrokenBread$Upland" (9 : Nat) "BrokenBread$Upland" "folks" "I") ∈ am_tbl := am_t1 (List.mem_of_getElem? (i := 35) rfl) rfl
theorem aw_1_36 : (Cond.fieldLinkNest "BrokenBread" (103 : Nat) "BrokenBread$Upland" "folks" "I" "BrokenBread") ∈ am_tbl := am_t1 (List.mem_of_getElem? (i := 36) rfl) rfl
theorem aw_1_37 : (Cond.fieldLinkNest "BrokenBread$Judge" (30 : Nat) "BrokenBread$Upland" "folks" "I" "BrokenBread") ∈ am_tbl := am_t1 (List.mem_of_getElem? (i := 37) rfl) rfl
theorem aw_1_38 : (Cond.fieldLink "BrokenBread$Upland" (15 : Nat) "BrokenBread$Upland" "seenCount" "I") ∈ am_tbl := am_t1 (List.mem_of_getElem? (i := 38) rfl) rfl
theorem aw_1_39 : (Cond.fieldLinkNest "BrokenBread$Seating" (100 : Nat) "BrokenBread$Upland" "seenCount" "I" "BrokenBread") ∈ am_tbl := am_t1 (List.mem_of_getElem? (i := 39) rfl) rfl
theorem aw_1_40 : (Cond.fieldLinkNest "BrokenBread" (290 : Nat) "BrokenBread$Upland" "seenCount" "I" "BrokenBread") ∈ am_tbl := am_t1 (List.mem_of_getElem? (i := 40) rfl) rfl
theorem aw_1_41 : (Cond.fieldLink "BrokenBread$Upland" (18 : Nat) "BrokenBread$Upland" "lawCount" "I") ∈ am_tbl := am_t1 (List.mem_of_getElem? (i := 41) rfl) rfl
theorem aw_1_42 : (Cond.fieldLinkNest "BrokenBread" (171 : Nat) "BrokenBread$Upland" "lawCount" "I" "BrokenBread") ∈ am_tbl := am_t1 (List.mem_of_getElem? (i := 42) rfl) rfl
theorem aw_1_43 : (Cond.fieldLink "BrokenBread$Upland" (21 : Nat) "BrokenBread$Upland" "inForce" "I") ∈ am_tbl := am_t1 (List.mem_of_getElem? (i := 43) rfl) rfl
theorem aw_1_44 : (Cond.fieldLinkNest "BrokenBread" (218 : Nat) "BrokenBread$Upland" "inForce" "I" "BrokenBread") ∈ am_tbl := am_t1 (List.mem_of_getElem? (i := 44) rfl) rfl
theorem aw_1_45 : (Cond.fieldLink "BrokenBread$Upland" (24 : Nat) "BrokenBread$Upland" "fed" "[I") ∈ am_tbl := am_t1 (List.mem_of_getElem? (i := 45) rfl) rfl
theorem aw_1_46 : (Cond.fieldLinkNest "BrokenBread" (106 : Nat) "BrokenBread$Upland" "fed" "[I" "BrokenBread") ∈ am_tbl := am_t1 (List.mem_of_getElem? (i := 46) rfl) rfl
theorem aw_1_47 : (Cond.fieldLinkNest "BrokenBread$Past" (40 : Nat) "BrokenBread$Upland" "fed" "[I" "BrokenBread") ∈ am_tbl := am_t1 (List.mem_of_getElem? (i := 47) rfl) rfl
theorem aw_1_48 : (Cond.fieldLinkNest "BrokenBread$Judge" (59 : Nat) "BrokenBread$Upland" "fed" "[I" "BrokenBread") ∈ am_tbl := am_t1 (List.mem_of_getElem? (i := 48) rfl) rfl
theorem aw_1_49 : (Cond.fieldLink "BrokenBread$Upland" (28 : Nat) "BrokenBread$Upland" "weight" "[I") ∈ am_tbl := am_t1 (List.mem_of_getElem? (i := 49) rfl) rfl
theorem aw_1_50 : (Cond.fieldLinkNest "BrokenBread$Judge" (80 : Nat) "BrokenBread$Upland" "weight" "[I" "BrokenBread") ∈ am_tbl := am_t1 (List.mem_of_getElem? (i := 50) rfl) rfl
theorem aw_1_51 : (Cond.fieldLink "BrokenBread$Upland" (31 : Nat) "BrokenBread$Upland" "since" "[I") ∈ am_tbl := am_t1 (List.mem_of_getElem? (i := 51) rfl) rfl
theorem aw_1_52 : (Cond.fieldLinkNest "BrokenBread$Judge" (83 : Nat) "BrokenBread$Upland" "since" "[I" "BrokenBread") ∈ am_tbl := am_t1 (List.mem_of_getElem? (i := 52) rfl) rfl
theorem aw_1_53 : (Cond.fieldLink "BrokenBread$Upland" (34 : Nat) "BrokenBread$Upland" "term" "[I") ∈ am_tbl := am_t1 (List.mem_of_getElem? (i := 53) rfl) rfl
theorem aw_1_54 : (Cond.fieldLinkNest "BrokenBread" (125 : Nat) "BrokenBread$Upland" "term" "[I" "BrokenBread") ∈ am_tbl := am_t1 (List.mem_of_getElem? (i := 54) rfl) rfl
theorem aw_1_55 : (Cond.fieldLinkNest "BrokenBread$Past" (37 : Nat) "BrokenBread$Upland" "term" "[I" "BrokenBread") ∈ am_tbl := am_t1 (List.mem_of_getElem? (i := 55) rfl) rfl
theorem aw_1_56 : (Cond.fieldLinkNest "BrokenBread$Judge" (62 : Nat) "BrokenBread$Upland" "term" "[I" "BrokenBread") ∈ am_tbl := am_t1 (List.mem_of_getElem? (i := 56) rfl) rfl
theorem aw_1_57 : (Cond.fieldLink "BrokenBread$Upland" (37 : Nat) "BrokenBread$Upland" "seen" "[I") ∈ am_tbl := am_t1 (List.mem_of_getElem? (i := 57) rfl) rfl
theorem aw_1_58 : (Cond.fieldLinkNest "BrokenBread$Seating" (105 : Nat) "BrokenBread$Upland" "seen" "[I" "BrokenBread") ∈ am_tbl := am_t1 (List.mem_of_getElem? (i := 58) rfl) rfl
theorem aw_1_59 : (Cond.fieldLinkNest "BrokenBread" (293 : Nat) "BrokenBread$Upland" "seen" "[I" "BrokenBread") ∈ am_tbl := am_t1 (List.mem_of_getElem? (i := 59) rfl) rfl
theorem aw_1_60 : (Cond.fieldLink "BrokenBread$Upland" (42 : Nat) "BrokenBread$Upland" "laws" "[LBrokenBread$Script;") ∈ am_tbl := am_t1 (List.mem_of_getElem? (i := 60) rfl) rfl
theorem aw_1_61 : (Cond.fieldLinkNest "BrokenBread" (178 : Nat) "BrokenBread$Upland" "laws" "[LBrokenBread$Script;" "BrokenBread") ∈ am_tbl := am_t1 (List.mem_of_getElem? (i := 61) rfl) rfl
theorem aw_1_83 : (Cond.arrayClass FieldType.int) ∈ am_tbl := am_t1 (List.mem_of_getElem? (i := 83) rfl) rfl
theorem aw_1_84 : (Cond.arrayOver (FieldType.object "BrokenBread$Upland")) ∈ am_tbl := am_t1 (List.mem_of_getElem? (i := 84) rfl) rfl
theorem aw_1_85 : (Cond.classLink "BrokenBread" (26 : Nat) "BrokenBread$Past") ∈ am_tbl := am_t1 (List.mem_of_getElem? (i := 85) rfl) rfl
theorem aw_1_86 : (Cond.instantiable "BrokenBread$Past" (2 : Nat)) ∈ am_tbl := am_t1 (List.mem_of_getElem? (i := 86) rfl) rfl
theorem aw_1_87 : (Cond.methodLinkNest "BrokenBread" (28 : Nat) ({ cls := "BrokenBread$Past", name := "<init>", desc := "()V" } : MethodName) "BrokenBread") ∈ am_tbl := am_t1 (List.mem_of_getElem? (i := 87) rfl) rfl
theorem aw_1_88 : (Cond.instanceMethod ({ cls := "BrokenBread$Past", name := "<init>", desc := "()V" } : MethodName)) ∈ am_tbl := am_t1 (List.mem_of_getElem? (i := 88) rfl) rfl
theorem aw_1_89 : (Cond.code ({ cls := "BrokenBread$Past", name := "<init>", desc := "()V" } : MethodName) prog_5_method_1_code (1 : Nat) (Option.none : Option FieldType)) ∈ am_tbl := am_t1 (List.mem_of_getElem? (i := 89) rfl) rfl
theorem aw_1_90 : (Cond.methodLink "BrokenBread$Past" (3 : Nat) ({ cls := "java/lang/Object", name := "<init>", desc := "()V" } : MethodName)) ∈ am_tbl := am_t1 (List.mem_of_getElem? (i := 90) rfl) rfl
theorem aw_1_91 : (Cond.fieldLink "BrokenBread$Past" (11 : Nat) "BrokenBread$Past" "deeds" "[I") ∈ am_tbl := am_t1 (List.mem_of_getElem? (i := 91) rfl) rfl
theorem aw_1_92 : (Cond.fieldLink "BrokenBread$Past" (15 : Nat) "BrokenBread$Past" "kept" "I") ∈ am_tbl := am_t1 (List.mem_of_getElem? (i := 92) rfl) rfl
theorem aw_1_93 : (Cond.fieldLinkNest "BrokenBread" (350 : Nat) "BrokenBread$Past" "kept" "I" "BrokenBread") ∈ am_tbl := am_t1 (List.mem_of_getElem? (i := 93) rfl) rfl
theorem aw_1_99 : (Cond.classLink "BrokenBread" (36 : Nat) "BrokenBread$Tape") ∈ am_tbl := am_t1 (List.mem_of_getElem? (i := 99) rfl) rfl
theorem aw_1_100 : (Cond.instantiable "BrokenBread$Tape" (2 : Nat)) ∈ am_tbl := am_t1 (List.mem_of_getElem? (i := 100) rfl) rfl
theorem aw_1_101 : (Cond.methodLinkNest "BrokenBread" (38 : Nat) ({ cls := "BrokenBread$Tape", name := "<init>", desc := "()V" } : MethodName) "BrokenBread") ∈ am_tbl := am_t1 (List.mem_of_getElem? (i := 101) rfl) rfl
theorem aw_1_102 : (Cond.instanceMethod ({ cls := "BrokenBread$Tape", name := "<init>", desc := "()V" } : MethodName)) ∈ am_tbl := am_t1 (List.mem_of_getElem? (i := 102) rfl) rfl
theorem aw_1_103 : (Cond.code ({ cls := "BrokenBread$Tape", name := "<init>", desc := "()V" } : MethodName) prog_9_method_1_code (1 : Nat) (Option.none : Option FieldType)) ∈ am_tbl := am_t1 (List.mem_of_getElem? (i := 103) rfl) rfl
theorem aw_1_104 : (Cond.methodLink "BrokenBread$Tape" (3 : Nat) ({ cls := "java/lang/Object", name := "<init>", desc := "()V" } : MethodName)) ∈ am_tbl := am_t1 (List.mem_of_getElem? (i := 104) rfl) rfl
theorem aw_1_105 : (Cond.fieldLink "BrokenBread$Tape" (9 : Nat) "BrokenBread$Tape" "bytes" "[I") ∈ am_tbl := am_t1 (List.mem_of_getElem? (i := 105) rfl) rfl
theorem aw_1_106 : (Cond.fieldLink "BrokenBread$Tape" (15 : Nat) "BrokenBread$Tape" "length" "I") ∈ am_tbl := am_t1 (List.mem_of_getElem? (i := 106) rfl) rfl
theorem aw_1_107 : (Cond.fieldLinkNest "BrokenBread$Reader" (57 : Nat) "BrokenBread$Tape" "length" "I" "BrokenBread") ∈ am_tbl := am_t1 (List.mem_of_getElem? (i := 107) rfl) rfl
theorem aw_1_108 : (Cond.fieldLinkNest "BrokenBread" (161 : Nat) "BrokenBread$Tape" "length" "I" "BrokenBread") ∈ am_tbl := am_t1 (List.mem_of_getElem? (i := 108) rfl) rfl
theorem aw_1_114 : (Cond.classLink "BrokenBread" (43 : Nat) "BrokenBread$Reader") ∈ am_tbl := am_t1 (List.mem_of_getElem? (i := 114) rfl) rfl
theorem aw_1_115 : (Cond.instantiable "BrokenBread$Reader" (11 : Nat)) ∈ am_tbl := am_t1 (List.mem_of_getElem? (i := 115) rfl) rfl
theorem aw_1_116 : (Cond.methodLinkNest "BrokenBread" (45 : Nat) ({ cls := "BrokenBread$Reader", name := "<init>", desc := "()V" } : MethodName) "BrokenBread") ∈ am_tbl := am_t1 (List.mem_of_getElem? (i := 116) rfl) rfl
theorem aw_1_117 : (Cond.instanceMethod ({ cls := "BrokenBread$Reader", name := "<init>", desc := "()V" } : MethodName)) ∈ am_tbl := am_t1 (List.mem_of_getElem? (i := 117) rfl) rfl
theorem aw_1_118 : (Cond.code ({ cls := "BrokenBread$Reader", name := "<init>", desc := "()V" } : MethodName) prog_6_method_1_code (1 : Nat) (Option.none : Option FieldType)) ∈ am_tbl := am_t1 (List.mem_of_getElem? (i := 118) rfl) rfl
theorem aw_1_119 : (Cond.methodLink "BrokenBread$Reader" (3 : Nat) ({ cls := "java/lang/Object", name := "<init>", desc := "()V" } : MethodName)) ∈ am_tbl := am_t1 (List.mem_of_getElem? (i := 119) rfl) rfl
theorem aw_1_120 : (Cond.classLink "BrokenBread$Reader" (21 : Nat) "BrokenBread$Script") ∈ am_tbl := am_t1 (List.mem_of_getElem? (i := 120) rfl) rfl
theorem aw_1_121 : (Cond.instantiable "BrokenBread$Script" (5 : Nat)) ∈ am_tbl := am_t1 (List.mem_of_getElem? (i := 121) rfl) rfl
theorem aw_1_122 : (Cond.methodLink "BrokenBread$Reader" (23 : Nat) ({ cls := "BrokenBread$Script", name := "<init>", desc := "(II)V" } : MethodName)) ∈ am_tbl := am_t1 (List.mem_of_getElem? (i := 122) rfl) rfl
theorem aw_1_123 : (Cond.instanceMethod ({ cls := "BrokenBread$Script", name := "<init>", desc := "(II)V" } : MethodName)) ∈ am_tbl := am_t1 (List.mem_of_getElem? (i := 123) rfl) rfl
theorem aw_1_124 : (Cond.code ({ cls := "BrokenBread$Script", name := "<init>", desc := "(II)V" } : MethodName) prog_7_method_1_code (3 : Nat) (Option.none : Option FieldType)) ∈ am_tbl := am_t1 (List.mem_of_getElem? (i := 124) rfl) rfl
theorem aw_1_125 : (Cond.methodLink "BrokenBread$Script" (3 : Nat) ({ cls := "java/lang/Object", name := "<init>", desc := "()V" } : MethodName)) ∈ am_tbl := am_t1 (List.mem_of_getElem? (i := 125) rfl) rfl
theorem aw_1_126 : (Cond.methodLink "BrokenBread$Script" (21 : Nat) ({ cls := "java/lang/Math", name := "max", desc := "(II)I" } : MethodName)) ∈ am_tbl := am_t1 (List.mem_of_getElem? (i := 126) rfl) rfl
theorem aw_1_127 : (Cond.static ({ cls := "java/lang/Math", name := "max", desc := "(II)I" } : MethodName)) ∈ am_tbl := am_t1 (List.mem_of_getElem? (i := 127) rfl) rfl
theorem aw_1_128 : (Cond.code ({ cls := "java/lang/Math", name := "max", desc := "(II)I" } : MethodName) prog_14_method_65_code (2 : Nat) (Option.some FieldType.int)) ∈ am_tbl := am_t1 (List.mem_of_getElem? (i := 128) rfl) rfl
theorem aw_1_129 : (Cond.fieldLink "BrokenBread$Script" (27 : Nat) "BrokenBread$Script" "heads" "[I") ∈ am_tbl := am_t1 (List.mem_of_getElem? (i := 129) rfl) rfl
theorem aw_1_130 : (Cond.fieldLink "BrokenBread$Script" (31 : Nat) "BrokenBread$Script" "code" "[I") ∈ am_tbl := am_t1 (List.mem_of_getElem? (i := 130) rfl) rfl
theorem aw_1_131 : (Cond.fieldLinkNest "BrokenBread$Judge" (102 : Nat) "BrokenBread$Script" "code" "[I" "BrokenBread") ∈ am_tbl := am_t1 (List.mem_of_getElem? (i := 131) rfl) rfl
theorem aw_1_132 : (Cond.fieldLink "BrokenBread$Script" (9 : Nat) "BrokenBread$Script" "clauses" "I") ∈ am_tbl := am_t1 (List.mem_of_getElem? (i := 132) rfl) rfl
theorem aw_1_133 : (Cond.fieldLinkNest "BrokenBread" (205 : Nat) "BrokenBread$Script" "clauses" "I" "BrokenBread") ∈ am_tbl := am_t1 (List.mem_of_getElem? (i := 133) rfl) rfl
theorem aw_1_134 : (Cond.fieldLinkNest "BrokenBread$Judge" (86 : Nat) "BrokenBread$Script" "clauses" "I" "BrokenBread") ∈ am_tbl := am_t1 (List.mem_of_getElem? (i := 134) rfl) rfl
theorem aw_1_135 : (Cond.fieldLink "BrokenBread$Script" (15 : Nat) "BrokenBread$Script" "length" "I") ∈ am_tbl := am_t1 (List.mem_of_getElem? (i := 135) rfl) rfl
theorem aw_1_136 : (Cond.fieldLinkNest "BrokenBread$Reader" (131 : Nat) "BrokenBread$Script" "length" "I" "BrokenBread") ∈ am_tbl := am_t1 (List.mem_of_getElem? (i := 136) rfl) rfl
theorem aw_1_137 : (Cond.fieldLinkNest "BrokenBread$Judge" (99 : Nat) "BrokenBread$Script" "length" "I" "BrokenBread") ∈ am_tbl := am_t1 (List.mem_of_getElem? (i := 137) rfl) rfl
theorem aw_1_138 : (Cond.fieldLink "BrokenBread$Script" (18 : Nat) "BrokenBread$Script" "atWhom" "I") ∈ am_tbl := am_t1 (List.mem_of_getElem? (i := 138) rfl) rfl
theorem aw_1_139 : (Cond.fieldLinkNest "BrokenBread" (199 : Nat) "BrokenBread$Script" "atWhom" "I" "BrokenBread") ∈ am_tbl := am_t1 (List.mem_of_getElem? (i := 139) rfl) rfl
theorem aw_1_140 : (Cond.fieldLinkNest "BrokenBread$Reader" (171 : Nat) "BrokenBread$Script" "atWhom" "I" "BrokenBread") ∈ am_tbl := am_t1 (List.mem_of_getElem? (i := 140) rfl) rfl
theorem aw_1_152 : (Cond.fieldLink "BrokenBread$Reader" (11 : Nat) "BrokenBread$Reader" "kinds" "[I") ∈ am_tbl := am_t1 (List.mem_of_getElem? (i := 152) rfl) rfl
theorem aw_1_153 : (Cond.fieldLink "BrokenBread$Reader" (15 : Nat) "BrokenBread$Reader" "values" "[I") ∈ am_tbl := am_t1 (List.mem_of_getElem? (i := 153) rfl) rfl
theorem aw_1_154 : (Cond.fieldLink "BrokenBread$Reader" (18 : Nat) "BrokenBread$Reader" "places" "[I") ∈ am_tbl := am_t1 (List.mem_of_getElem? (i := 154) rfl) rfl
theorem aw_1_155 : (Cond.fieldLink "BrokenBread$Reader" (26 : Nat) "BrokenBread$Reader" "draft" "LBrokenBread$Script;") ∈ am_tbl := am_t1 (List.mem_of_getElem? (i := 155) rfl) rfl
theorem aw_1_156 : (Cond.fieldLinkNest "BrokenBread" (182 : Nat) "BrokenBread$Reader" "draft" "LBrokenBread$Script;" "BrokenBread") ∈ am_tbl := am_t1 (List.mem_of_getElem? (i := 156) rfl) rfl
theorem aw_1_157 : (Cond.fieldLink "BrokenBread$Reader" (30 : Nat) "BrokenBread$Reader" "tokens" "I") ∈ am_tbl := am_t1 (List.mem_of_getElem? (i := 157) rfl) rfl
theorem aw_1_158 : (Cond.fieldLink "BrokenBread$Reader" (34 : Nat) "BrokenBread$Reader" "at" "I") ∈ am_tbl := am_t1 (List.mem_of_getElem? (i := 158) rfl) rfl
theorem aw_1_159 : (Cond.fieldLink "BrokenBread$Reader" (37 : Nat) "BrokenBread$Reader" "now" "I") ∈ am_tbl := am_t1 (List.mem_of_getElem? (i := 159) rfl) rfl
theorem aw_1_160 : (Cond.fieldLink "BrokenBread$Reader" (40 : Nat) "BrokenBread$Reader" "nowValue" "I") ∈ am_tbl := am_t1 (List.mem_of_getElem? (i := 160) rfl) rfl
theorem aw_1_161 : (Cond.fieldLink "BrokenBread$Reader" (43 : Nat) "BrokenBread$Reader" "parts" "I") ∈ am_tbl := am_t1 (List.mem_of_getElem? (i := 161) rfl) rfl
theorem aw_1_162 : (Cond.fieldLink "BrokenBread$Reader" (46 : Nat) "BrokenBread$Reader" "ofOrders" "Z") ∈ am_tbl := am_t1 (List.mem_of_getElem? (i := 162) rfl) rfl
theorem aw_1_163 : (Cond.fieldLink "BrokenBread$Reader" (50 : Nat) "BrokenBread$Reader" "place" "I") ∈ am_tbl := am_t1 (List.mem_of_getElem? (i := 163) rfl) rfl
theorem aw_1_164 : (Cond.fieldLinkNest "BrokenBread" (212 : Nat) "BrokenBread$Reader" "place" "I" "BrokenBread") ∈ am_tbl := am_t1 (List.mem_of_getElem? (i := 164) rfl) rfl
theorem aw_1_188 : (Cond.classLink "BrokenBread" (50 : Nat) "BrokenBread$Judge") ∈ am_tbl := am_t1 (List.mem_of_getElem? (i := 188) rfl) rfl
theorem aw_1_189 : (Cond.instantiable "BrokenBread$Judge" (4 : Nat)) ∈ am_tbl := am_t1 (List.mem_of_getElem? (i := 189) rfl) rfl
theorem aw_1_190 : (Cond.methodLinkNest "BrokenBread" (52 : Nat) ({ cls := "BrokenBread$Judge", name := "<init>", desc := "()V" } : MethodName) "BrokenBread") ∈ am_tbl := am_t1 (List.mem_of_getElem? (i := 190) rfl) rfl
theorem aw_1_191 : (Cond.instanceMethod ({ cls := "BrokenBread$Judge", name := "<init>", desc := "()V" } : MethodName)) ∈ am_tbl := am_t1 (List.mem_of_getElem? (i := 191) rfl) rfl
theorem aw_1_192 : (Cond.code ({ cls := "BrokenBread$Judge", name := "<init>", desc := "()V" } : MethodName) prog_3_method_1_code (1 : Nat) (Option.none : Option FieldType)) ∈ am_tbl := am_t1 (List.mem_of_getElem? (i := 192) rfl) rfl
theorem aw_1_193 : (Cond.methodLink "BrokenBread$Judge" (3 : Nat) ({ cls := "java/lang/Object", name := "<init>", desc := "()V" } : MethodName)) ∈ am_tbl := am_t1 (List.mem_of_getElem? (i := 193) rfl) rfl
theorem aw_1_194 : (Cond.classLink "BrokenBread$Judge" (9 : Nat) "BrokenBread$Upland") ∈ am_tbl := am_t1 (List.mem_of_getElem? (i := 194) rfl) rfl
theorem aw_1_195 : (Cond.methodLink "BrokenBread$Judge" (11 : Nat) ({ cls := "BrokenBread$Upland", name := "<init>", desc := "()V" } : MethodName)) ∈ am_tbl := am_t1 (List.mem_of_getElem? (i := 195) rfl) rfl
theorem aw_1_196 : (Cond.fieldLink "BrokenBread$Judge" (12 : Nat) "BrokenBread$Judge" "land" "LBrokenBread$Upland;") ∈ am_tbl := am_t1 (List.mem_of_getElem? (i := 196) rfl) rfl
theorem aw_1_197 : (Cond.fieldLink "BrokenBread$Judge" (18 : Nat) "BrokenBread$Judge" "law" "LBrokenBread$Script;") ∈ am_tbl := am_t1 (List.mem_of_getElem? (i := 197) rfl) rfl
theorem aw_1_198 : (Cond.fieldLink "BrokenBread$Judge" (22 : Nat) "BrokenBread$Judge" "lawWords" "[I") ∈ am_tbl := am_t1 (List.mem_of_getElem? (i := 198) rfl) rfl
theorem aw_1_199 : (Cond.fieldLink "BrokenBread$Judge" (26 : Nat) "BrokenBread$Judge" "stack" "[J") ∈ am_tbl := am_t1 (List.mem_of_getElem? (i := 199) rfl) rfl
theorem aw_1_209 : (Cond.arrayClass FieldType.long) ∈ am_tbl := am_t1 (List.mem_of_getElem? (i := 209) rfl) rfl
theorem aw_1_210 : (Cond.classLink "BrokenBread" (57 : Nat) "BrokenBread$Seating") ∈ am_tbl := am_t1 (List.mem_of_getElem? (i := 210) rfl) rfl
theorem aw_1_211 : (Cond.instantiable "BrokenBread$Seating" (8 : Nat)) ∈ am_tbl := am_t1 (List.mem_of_getElem? (i := 211) rfl) rfl
theorem aw_1_212 : (Cond.methodLinkNest "BrokenBread" (59 : Nat) ({ cls := "BrokenBread$Seating", name := "<init>", desc := "()V" } : MethodName) "BrokenBread") ∈ am_tbl := am_t1 (List.mem_of_getElem? (i := 212) rfl) rfl
theorem aw_1_213 : (Cond.instanceMethod ({ cls := "BrokenBread$Seating", name := "<init>", desc := "()V" } : MethodName)) ∈ am_tbl := am_t1 (List.mem_of_getElem? (i := 213) rfl) rfl
theorem aw_1_214 : (Cond.code ({ cls := "BrokenBread$Seating", name := "<init>", desc := "()V" } : MethodName) prog_8_method_1_code (1 : Nat) (Option.none : Option FieldType)) ∈ am_tbl := am_t1 (List.mem_of_getElem? (i := 214) rfl) rfl
theorem aw_1_215 : (Cond.methodLink "BrokenBread$Seating" (3 : Nat) ({ cls := "java/lang/Object", name := "<init>", desc := "()V" } : MethodName)) ∈ am_tbl := am_t1 (List.mem_of_getElem? (i := 215) rfl) rfl
theorem aw_1_216 : (Cond.fieldLink "BrokenBread$Seating" (9 : Nat) "BrokenBread$Seating" "folks" "I") ∈ am_tbl := am_t1 (List.mem_of_getElem? (i := 216) rfl) rfl
theorem aw_1_217 : (Cond.fieldLinkNest "BrokenBread$Parting" (36 : Nat) "BrokenBread$Seating" "folks" "I" "BrokenBread") ∈ am_tbl := am_t1 (List.mem_of_getElem? (i := 217) rfl) rfl
theorem aw_1_218 : (Cond.fieldLink "BrokenBread$Seating" (15 : Nat) "BrokenBread$Seating" "may" "[I") ∈ am_tbl := am_t1 (List.mem_of_getElem? (i := 218) rfl) rfl
theorem aw_1_219 : (Cond.fieldLink "BrokenBread$Seating" (19 : Nat) "BrokenBread$Seating" "bars" "[I") ∈ am_tbl := am_t1 (List.mem_of_getElem? (i := 219) rfl) rfl
theorem aw_1_220 : (Cond.fieldLink "BrokenBread$Seating" (22 : Nat) "BrokenBread$Seating" "steps" "[I") ∈ am_tbl := am_t1 (List.mem_of_getElem? (i := 220) rfl) rfl
theorem aw_1_221 : (Cond.fieldLink "BrokenBread$Seating" (25 : Nat) "BrokenBread$Seating" "twos" "[I") ∈ am_tbl := am_t1 (List.mem_of_getElem? (i := 221) rfl) rfl
theorem aw_1_222 : (Cond.fieldLink "BrokenBread$Seating" (28 : Nat) "BrokenBread$Seating" "fewest" "[I") ∈ am_tbl := am_t1 (List.mem_of_getElem? (i := 222) rfl) rfl
theorem aw_1_223 : (Cond.fieldLink "BrokenBread$Seating" (31 : Nat) "BrokenBread$Seating" "parts" "[Z") ∈ am_tbl := am_t1 (List.mem_of_getElem? (i := 223) rfl) rfl
theorem aw_1_224 : (Cond.fieldLink "BrokenBread$Seating" (35 : Nat) "BrokenBread$Seating" "twoCount" "I") ∈ am_tbl := am_t1 (List.mem_of_getElem? (i := 224) rfl) rfl
theorem aw_2_2 : (Cond.arrayClass FieldType.boolean) ∈ am_tbl := am_t2 (List.mem_of_getElem? (i := 2) rfl) rfl
theorem aw_2_3 : (Cond.classLink "BrokenBread" (64 : Nat) "BrokenBread$Parting") ∈ am_tbl := am_t2 (List.mem_of_getElem? (i := 3) rfl) rfl
theorem aw_2_4 : (Cond.instantiable "BrokenBread$Parting" (6 : Nat)) ∈ am_tbl := am_t2 (List.mem_of_getElem? (i := 4) rfl) rfl
theorem aw_2_5 : (Cond.methodLinkNest "BrokenBread" (66 : Nat) ({ cls := "BrokenBread$Parting", name := "<init>", desc := "()V" } : MethodName) "BrokenBread") ∈ am_tbl := am_t2 (List.mem_of_getElem? (i := 5) rfl) rfl
theorem aw_2_6 : (Cond.instanceMethod ({ cls := "BrokenBread$Parting", name := "<init>", desc := "()V" } : MethodName)) ∈ am_tbl := am_t2 (List.mem_of_getElem? (i := 6) rfl) rfl
theorem aw_2_7 : (Cond.code ({ cls := "BrokenBread$Parting", name := "<init>", desc := "()V" } : MethodName) prog_4_method_1_code (1 : Nat) (Option.none : Option FieldType)) ∈ am_tbl := am_t2 (List.mem_of_getElem? (i := 7) rfl) rfl
theorem aw_2_8 : (Cond.methodLink "BrokenBread$Parting" (3 : Nat) ({ cls := "java/lang/Object", name := "<init>", desc := "()V" } : MethodName)) ∈ am_tbl := am_t2 (List.mem_of_getElem? (i := 8) rfl) rfl
theorem aw_2_9 : (Cond.fieldLink "BrokenBread$Parting" (9 : Nat) "BrokenBread$Parting" "tablesOnly" "Z") ∈ am_tbl := am_t2 (List.mem_of_getElem? (i := 9) rfl) rfl
theorem aw_2_10 : (Cond.fieldLink "BrokenBread$Parting" (15 : Nat) "BrokenBread$Parting" "folks" "I") ∈ am_tbl := am_t2 (List.mem_of_getElem? (i := 10) rfl) rfl
theorem aw_2_11 : (Cond.fieldLink "BrokenBread$Parting" (19 : Nat) "BrokenBread$Parting" "cheapest" "I") ∈ am_tbl := am_t2 (List.mem_of_getElem? (i := 11) rfl) rfl
theorem aw_2_12 : (Cond.fieldLink "BrokenBread$Parting" (22 : Nat) "BrokenBread$Parting" "sets" "[I") ∈ am_tbl := am_t2 (List.mem_of_getElem? (i := 12) rfl) rfl
theorem aw_2_13 : (Cond.fieldLink "BrokenBread$Parting" (26 : Nat) "BrokenBread$Parting" "numbers" "[I") ∈ am_tbl := am_t2 (List.mem_of_getElem? (i := 13) rfl) rfl
theorem aw_2_14 : (Cond.fieldLink "BrokenBread$Parting" (29 : Nat) "BrokenBread$Parting" "first" "[I") ∈ am_tbl := am_t2 (List.mem_of_getElem? (i := 14) rfl) rfl
theorem aw_2_28 : (Cond.classLink "BrokenBread" (71 : Nat) "BrokenBread$Draws") ∈ am_tbl := am_t2 (List.mem_of_getElem? (i := 28) rfl) rfl
theorem aw_2_29 : (Cond.instantiable "BrokenBread$Draws" (1 : Nat)) ∈ am_tbl := am_t2 (List.mem_of_getElem? (i := 29) rfl) rfl
theorem aw_2_30 : (Cond.methodLinkNest "BrokenBread" (73 : Nat) ({ cls := "BrokenBread$Draws", name := "<init>", desc := "()V" } : MethodName) "BrokenBread") ∈ am_tbl := am_t2 (List.mem_of_getElem? (i := 30) rfl) rfl
theorem aw_2_31 : (Cond.instanceMethod ({ cls := "BrokenBread$Draws", name := "<init>", desc := "()V" } : MethodName)) ∈ am_tbl := am_t2 (List.mem_of_getElem? (i := 31) rfl) rfl
theorem aw_2_32 : (Cond.code ({ cls := "BrokenBread$Draws", name := "<init>", desc := "()V" } : MethodName) prog_2_method_1_code (1 : Nat) (Option.none : Option FieldType)) ∈ am_tbl := am_t2 (List.mem_of_getElem? (i := 32) rfl) rfl
theorem aw_2_33 : (Cond.methodLink "BrokenBread$Draws" (1 : Nat) ({ cls := "java/lang/Object", name := "<init>", desc := "()V" } : MethodName)) ∈ am_tbl := am_t2 (List.mem_of_getElem? (i := 33) rfl) rfl
theorem aw_2_34 : (Cond.fieldLink "BrokenBread$Draws" (7 : Nat) "BrokenBread$Draws" "s" "J") ∈ am_tbl := am_t2 (List.mem_of_getElem? (i := 34) rfl) rfl
theorem aw_2_38 : (Cond.fieldLink "BrokenBread" (10 : Nat) "BrokenBread" "live" "LBrokenBread$Upland;") ∈ am_tbl := am_t2 (List.mem_of_getElem? (i := 38) rfl) rfl
theorem aw_2_39 : (Cond.fieldLink "BrokenBread" (16 : Nat) "BrokenBread" "ahead" "LBrokenBread$Upland;") ∈ am_tbl := am_t2 (List.mem_of_getElem? (i := 39) rfl) rfl
theorem aw_2_40 : (Cond.fieldLink "BrokenBread" (19 : Nat) "BrokenBread" "season" "LBrokenBread$Upland;") ∈ am_tbl := am_t2 (List.mem_of_getElem? (i := 40) rfl) rfl
theorem aw_2_41 : (Cond.fieldLink "BrokenBread" (22 : Nat) "BrokenBread" "images" "[LBrokenBread$Upland;") ∈ am_tbl := am_t2 (List.mem_of_getElem? (i := 41) rfl) rfl
theorem aw_2_42 : (Cond.fieldLink "BrokenBread" (29 : Nat) "BrokenBread" "past" "LBrokenBread$Past;") ∈ am_tbl := am_t2 (List.mem_of_getElem? (i := 42) rfl) rfl
theorem aw_2_43 : (Cond.fieldLink "BrokenBread" (33 : Nat) "BrokenBread" "pastAhead" "LBrokenBread$Past;") ∈ am_tbl := am_t2 (List.mem_of_getElem? (i := 43) rfl) rfl
theorem aw_2_44 : (Cond.fieldLink "BrokenBread" (39 : Nat) "BrokenBread" "tape" "LBrokenBread$Tape;") ∈ am_tbl := am_t2 (List.mem_of_getElem? (i := 44) rfl) rfl
theorem aw_2_45 : (Cond.fieldLink "BrokenBread" (46 : Nat) "BrokenBread" "reader" "LBrokenBread$Reader;") ∈ am_tbl := am_t2 (List.mem_of_getElem? (i := 45) rfl) rfl
theorem aw_2_46 : (Cond.fieldLink "BrokenBread" (53 : Nat) "BrokenBread" "judge" "LBrokenBread$Judge;") ∈ am_tbl := am_t2 (List.mem_of_getElem? (i := 46) rfl) rfl
theorem aw_2_47 : (Cond.fieldLink "BrokenBread" (60 : Nat) "BrokenBread" "seating" "LBrokenBread$Seating;") ∈ am_tbl := am_t2 (List.mem_of_getElem? (i := 47) rfl) rfl
theorem aw_2_48 : (Cond.fieldLink "BrokenBread" (67 : Nat) "BrokenBread" "parting" "LBrokenBread$Parting;") ∈ am_tbl := am_t2 (List.mem_of_getElem? (i := 48) rfl) rfl
theorem aw_2_49 : (Cond.fieldLink "BrokenBread" (74 : Nat) "BrokenBread" "draws" "LBrokenBread$Draws;") ∈ am_tbl := am_t2 (List.mem_of_getElem? (i := 49) rfl) rfl
theorem aw_2_50 : (Cond.fieldLink "BrokenBread" (78 : Nat) "BrokenBread" "orderWords" "[I") ∈ am_tbl := am_t2 (List.mem_of_getElem? (i := 50) rfl) rfl
theorem aw_2_51 : (Cond.fieldLink "BrokenBread" (82 : Nat) "BrokenBread" "tripped" "[J") ∈ am_tbl := am_t2 (List.mem_of_getElem? (i := 51) rfl) rfl
theorem aw_2_52 : (Cond.fieldLink "BrokenBread" (86 : Nat) "BrokenBread" "refusedBy" "[I") ∈ am_tbl := am_t2 (List.mem_of_getElem? (i := 52) rfl) rfl
theorem aw_2_53 : (Cond.fieldLink "BrokenBread" (89 : Nat) "BrokenBread" "rowCrumbs" "I") ∈ am_tbl := am_t2 (List.mem_of_getElem? (i := 53) rfl) rfl
theorem aw_2_54 : (Cond.fieldLink "BrokenBread" (93 : Nat) "BrokenBread" "clauseStopped" "I") ∈ am_tbl := am_t2 (List.mem_of_getElem? (i := 54) rfl) rfl
theorem aw_2_55 : (Cond.fieldLink "BrokenBread" (96 : Nat) "BrokenBread" "latestStatus" "I") ∈ am_tbl := am_t2 (List.mem_of_getElem? (i := 55) rfl) rfl
theorem aw_2_93 : (Cond.methodLink "BrokenBreadLaw" (13 : Nat) ({ cls := "BrokenBread", name := "folk", desc := "(I)I" } : MethodName)) ∈ am_tbl := am_t2 (List.mem_of_getElem? (i := 93) rfl) rfl
theorem aw_2_94 : (Cond.instanceMethod ({ cls := "BrokenBread", name := "folk", desc := "(I)I" } : MethodName)) ∈ am_tbl := am_t2 (List.mem_of_getElem? (i := 94) rfl) rfl
theorem aw_2_95 : (Cond.selects "BrokenBread" ({ cls := "BrokenBread", name := "folk", desc := "(I)I" } : MethodName) ({ cls := "BrokenBread", name := "folk", desc := "(I)I" } : MethodName)) ∈ am_tbl := am_t2 (List.mem_of_getElem? (i := 95) rfl) rfl
theorem aw_2_96 : (Cond.code ({ cls := "BrokenBread", name := "folk", desc := "(I)I" } : MethodName) prog_1_method_2_code (3 : Nat) (Option.some FieldType.int)) ∈ am_tbl := am_t2 (List.mem_of_getElem? (i := 96) rfl) rfl
theorem aw_2_97 : (Cond.methodLink "BrokenBread" (99 : Nat) ({ cls := "BrokenBread", name := "told", desc := "(I)I" } : MethodName)) ∈ am_tbl := am_t2 (List.mem_of_getElem? (i := 97) rfl) rfl
theorem aw_2_99 : (Cond.instanceMethod ({ cls := "BrokenBread", name := "told", desc := "(I)I" } : MethodName)) ∈ am_tbl := am_t2 (List.mem_of_getElem? (i := 99) rfl) rfl
theorem aw_2_100 : (Cond.code ({ cls := "BrokenBread", name := "told", desc := "(I)I" } : MethodName) prog_1_method_43_code (2 : Nat) (Option.some FieldType.int)) ∈ am_tbl := am_t2 (List.mem_of_getElem? (i := 100) rfl) rfl
theorem aw_2_101 : (Cond.methodLink "BrokenBread" (353 : Nat) ({ cls := "java/lang/Math", name := "min", desc := "(II)I" } : MethodName)) ∈ am_tbl := am_t2 (List.mem_of_getElem? (i := 101) rfl) rfl
theorem aw_2_102 : (Cond.static ({ cls := "java/lang/Math", name := "min", desc := "(II)I" } : MethodName)) ∈ am_tbl := am_t2 (List.mem_of_getElem? (i := 102) rfl) rfl
theorem aw_2_103 : (Cond.code ({ cls := "java/lang/Math", name := "min", desc := "(II)I" } : MethodName) prog_14_method_69_code (2 : Nat) (Option.some FieldType.int)) ∈ am_tbl := am_t2 (List.mem_of_getElem? (i := 103) rfl) rfl
theorem aw_2_104 : (Cond.methodLink "BrokenBread" (109 : Nat) ({ cls := "BrokenBread$Past", name := "clear", desc := "()V" } : MethodName)) ∈ am_tbl := am_t2 (List.mem_of_getElem? (i := 104) rfl) rfl
theorem aw_2_105 : (Cond.instanceMethod ({ cls := "BrokenBread$Past", name := "clear", desc := "()V" } : MethodName)) ∈ am_tbl := am_t2 (List.mem_of_getElem? (i := 105) rfl) rfl
theorem aw_2_106 : (Cond.selects "BrokenBread$Past" ({ cls := "BrokenBread$Past", name := "clear", desc := "()V" } : MethodName) ({ cls := "BrokenBread$Past", name := "clear", desc := "()V" } : MethodName)) ∈ am_tbl := am_t2 (List.mem_of_getElem? (i := 106) rfl) rfl
theorem aw_2_107 : (Cond.code ({ cls := "BrokenBread$Past", name := "clear", desc := "()V" } : MethodName) prog_5_method_2_code (1 : Nat) (Option.none : Option FieldType)) ∈ am_tbl := am_t2 (List.mem_of_getElem? (i := 107) rfl) rfl
theorem aw_2_108 : (Cond.methodLink "BrokenBreadLaw" (18 : Nat) ({ cls := "BrokenBread", name := "of", desc := "(II)I" } : MethodName)) ∈ am_tbl := am_t2 (List.mem_of_getElem? (i := 108) rfl) rfl
theorem aw_2_109 : (Cond.instanceMethod ({ cls := "BrokenBread", name := "of", desc := "(II)I" } : MethodName)) ∈ am_tbl := am_t2 (List.mem_of_getElem? (i := 109) rfl) rfl
theorem aw_2_110 : (Cond.selects "BrokenBread" ({ cls := "BrokenBread", name := "of", desc := "(II)I" } : MethodName) ({ cls := "BrokenBread", name := "of", desc := "(II)I" } : MethodName)) ∈ am_tbl := am_t2 (List.mem_of_getElem? (i := 110) rfl) rfl
theorem aw_2_111 : (Cond.code ({ cls := "BrokenBread", name := "of", desc := "(II)I" } : MethodName) prog_1_method_3_code (3 : Nat) (Option.some FieldType.int)) ∈ am_tbl := am_t2 (List.mem_of_getElem? (i := 111) rfl) rfl
theorem aw_2_112 : (Cond.methodLink "BrokenBread" (112 : Nat) ({ cls := "BrokenBread$Upland", name := "has", desc := "(I)Z" } : MethodName)) ∈ am_tbl := am_t2 (List.mem_of_getElem? (i := 112) rfl) rfl
theorem aw_2_113 : (Cond.instanceMethod ({ cls := "BrokenBread$Upland", name := "has", desc := "(I)Z" } : MethodName)) ∈ am_tbl := am_t2 (List.mem_of_getElem? (i := 113) rfl) rfl
theorem aw_2_114 : (Cond.selects "BrokenBread$Upland" ({ cls := "BrokenBread$Upland", name := "has", desc := "(I)Z" } : MethodName) ({ cls := "BrokenBread$Upland", name := "has", desc := "(I)Z" } : MethodName)) ∈ am_tbl := am_t2 (List.mem_of_getElem? (i := 114) rfl) rfl
theorem aw_2_115 : (Cond.code ({ cls := "BrokenBread$Upland", name := "has", desc := "(I)Z" } : MethodName) prog_10_method_3_code (2 : Nat) (Option.some FieldType.boolean)) ∈ am_tbl := am_t2 (List.mem_of_getElem? (i := 115) rfl) rfl
theorem aw_2_116 : (Cond.methodLink "BrokenBread" (116 : Nat) ({ cls := "BrokenBread", name := "askLive", desc := "()V" } : MethodName)) ∈ am_tbl := am_t2 (List.mem_of_getElem? (i := 116) rfl) rfl
theorem aw_2_118 : (Cond.instanceMethod ({ cls := "BrokenBread", name := "askLive", desc := "()V" } : MethodName)) ∈ am_tbl := am_t2 (List.mem_of_getElem? (i := 118) rfl) rfl
theorem aw_2_119 : (Cond.code ({ cls := "BrokenBread", name := "askLive", desc := "()V" } : MethodName) prog_1_method_44_code (1 : Nat) (Option.none : Option FieldType)) ∈ am_tbl := am_t2 (List.mem_of_getElem? (i := 119) rfl) rfl
theorem aw_2_120 : (Cond.methodLink "BrokenBread" (326 : Nat) ({ cls := "BrokenBread$Upland", name := "lawOf", desc := "(I)LBrokenBread$Script;" } : MethodName)) ∈ am_tbl := am_t2 (List.mem_of_getElem? (i := 120) rfl) rfl
theorem aw_2_121 : (Cond.instanceMethod ({ cls := "BrokenBread$Upland", name := "lawOf", desc := "(I)LBrokenBread$Script;" } : MethodName)) ∈ am_tbl := am_t2 (List.mem_of_getElem? (i := 121) rfl) rfl
theorem aw_2_122 : (Cond.selects "BrokenBread$Upland" ({ cls := "BrokenBread$Upland", name := "lawOf", desc := "(I)LBrokenBread$Script;" } : MethodName) ({ cls := "BrokenBread$Upland", name := "lawOf", desc := "(I)LBrokenBread$Script;" } : MethodName)) ∈ am_tbl := am_t2 (List.mem_of_getElem? (i := 122) rfl) rfl
theorem aw_2_123 : (Cond.code ({ cls := "BrokenBread$Upland", name := "lawOf", desc := "(I)LBrokenBread$Script;" } : MethodName) prog_10_method_7_code (2 : Nat) (Option.some (FieldType.object "BrokenBread$Script"))) ∈ am_tbl := am_t2 (List.mem_of_getElem? (i := 123) rfl) rfl
theorem aw_2_124 : (Cond.methodLink "BrokenBread" (330 : Nat) ({ cls := "BrokenBread$Judge", name := "look", desc := "(LBrokenBread$Upland;LBrokenBread$Script;)V" } : MethodName)) ∈ am_tbl := am_t2 (List.mem_of_getElem? (i := 124) rfl) rfl
theorem aw_2_125 : (Cond.instanceMethod ({ cls := "BrokenBread$Judge", name := "look", desc := "(LBrokenBread$Upland;LBrokenBread$Script;)V" } : MethodName)) ∈ am_tbl := am_t2 (List.mem_of_getElem? (i := 125) rfl) rfl
theorem aw_2_126 : (Cond.selects "BrokenBread$Judge" ({ cls := "BrokenBread$Judge", name := "look", desc := "(LBrokenBread$Upland;LBrokenBread$Script;)V" } : MethodName) ({ cls := "BrokenBread$Judge", name := "look", desc := "(LBrokenBread$Upland;LBrokenBread$Script;)V" } : MethodName)) ∈ am_tbl := am_t2 (List.mem_of_getElem? (i := 126) rfl) rfl
theorem aw_2_127 : (Cond.code ({ cls := "BrokenBread$Judge", name := "look", desc := "(LBrokenBread$Upland;LBrokenBread$Script;)V" } : MethodName) prog_3_method_2_code (3 : Nat) (Option.none : Option FieldType)) ∈ am_tbl := am_t2 (List.mem_of_getElem? (i := 127) rfl) rfl
theorem aw_2_128 : (Cond.methodLink "BrokenBread" (119 : Nat) ({ cls := "BrokenBread$Upland", name := "fedOf", desc := "(I)I" } : MethodName)) ∈ am_tbl := am_t2 (List.mem_of_getElem? (i := 128) rfl) rfl
theorem aw_2_129 : (Cond.instanceMethod ({ cls := "BrokenBread$Upland", name := "fedOf", desc := "(I)I" } : MethodName)) ∈ am_tbl := am_t2 (List.mem_of_getElem? (i := 129) rfl) rfl
theorem aw_2_130 : (Cond.selects "BrokenBread$Upland" ({ cls := "BrokenBread$Upland", name := "fedOf", desc := "(I)I" } : MethodName) ({ cls := "BrokenBread$Upland", name := "fedOf", desc := "(I)I" } : MethodName)) ∈ am_tbl := am_t2 (List.mem_of_getElem? (i := 130) rfl) rfl
theorem aw_2_131 : (Cond.code ({ cls := "BrokenBread$Upland", name := "fedOf", desc := "(I)I" } : MethodName) prog_10_method_8_code (2 : Nat) (Option.some FieldType.int)) ∈ am_tbl := am_t2 (List.mem_of_getElem? (i := 131) rfl) rfl
theorem aw_2_132 : (Cond.methodLink "BrokenBread$Upland" (52 : Nat) ({ cls := "BrokenBread$Upland", name := "has", desc := "(I)Z" } : MethodName)) ∈ am_tbl := am_t2 (List.mem_of_getElem? (i := 132) rfl) rfl
theorem aw_2_133 : (Cond.methodLink "BrokenBread" (122 : Nat) ({ cls := "BrokenBread$Judge", name := "companions", desc := "(I)I" } : MethodName)) ∈ am_tbl := am_t2 (List.mem_of_getElem? (i := 133) rfl) rfl
theorem aw_2_134 : (Cond.instanceMethod ({ cls := "BrokenBread$Judge", name := "companions", desc := "(I)I" } : MethodName)) ∈ am_tbl := am_t2 (List.mem_of_getElem? (i := 134) rfl) rfl
theorem aw_2_135 : (Cond.selects "BrokenBread$Judge" ({ cls := "BrokenBread$Judge", name := "companions", desc := "(I)I" } : MethodName) ({ cls := "BrokenBread$Judge", name := "companions", desc := "(I)I" } : MethodName)) ∈ am_tbl := am_t2 (List.mem_of_getElem? (i := 135) rfl) rfl
theorem aw_2_136 : (Cond.code ({ cls := "BrokenBread$Judge", name := "companions", desc := "(I)I" } : MethodName) prog_3_method_7_code (4 : Nat) (Option.some FieldType.int)) ∈ am_tbl := am_t2 (List.mem_of_getElem? (i := 136) rfl) rfl
theorem aw_2_137 : (Cond.methodLink "BrokenBread$Judge" (42 : Nat) ({ cls := "BrokenBread$Judge", name := "maySit", desc := "(II)Z" } : MethodName)) ∈ am_tbl := am_t2 (List.mem_of_getElem? (i := 137) rfl) rfl
theorem aw_2_138 : (Cond.instanceMethod ({ cls := "BrokenBread$Judge", name := "maySit", desc := "(II)Z" } : MethodName)) ∈ am_tbl := am_t2 (List.mem_of_getElem? (i := 138) rfl) rfl
theorem aw_2_139 : (Cond.selects "BrokenBread$Judge" ({ cls := "BrokenBread$Judge", name := "maySit", desc := "(II)Z" } : MethodName) ({ cls := "BrokenBread$Judge", name := "maySit", desc := "(II)Z" } : MethodName)) ∈ am_tbl := am_t2 (List.mem_of_getElem? (i := 139) rfl) rfl
theorem aw_2_140 : (Cond.code ({ cls := "BrokenBread$Judge", name := "maySit", desc := "(II)Z" } : MethodName) prog_3_method_6_code (5 : Nat) (Option.some FieldType.boolean)) ∈ am_tbl := am_t2 (List.mem_of_getElem? (i := 140) rfl) rfl
theorem aw_2_141 : (Cond.methodLink "BrokenBread$Judge" (34 : Nat) ({ cls := "BrokenBread$Judge", name := "knowTwo", desc := "(II)V" } : MethodName)) ∈ am_tbl := am_t2 (List.mem_of_getElem? (i := 141) rfl) rfl
theorem aw_2_143 : (Cond.instanceMethod ({ cls := "BrokenBread$Judge", name := "knowTwo", desc := "(II)V" } : MethodName)) ∈ am_tbl := am_t2 (List.mem_of_getElem? (i := 143) rfl) rfl
theorem aw_2_144 : (Cond.code ({ cls := "BrokenBread$Judge", name := "knowTwo", desc := "(II)V" } : MethodName) prog_3_method_13_code (6 : Nat) (Option.none : Option FieldType)) ∈ am_tbl := am_t2 (List.mem_of_getElem? (i := 144) rfl) rfl
theorem aw_2_145 : (Cond.methodLink "BrokenBread$Judge" (77 : Nat) ({ cls := "BrokenBread$Upland", name := "hasTwo", desc := "(II)Z" } : MethodName)) ∈ am_tbl := am_t2 (List.mem_of_getElem? (i := 145) rfl) rfl
theorem aw_2_146 : (Cond.instanceMethod ({ cls := "BrokenBread$Upland", name := "hasTwo", desc := "(II)Z" } : MethodName)) ∈ am_tbl := am_t2 (List.mem_of_getElem? (i := 146) rfl) rfl
theorem aw_2_147 : (Cond.selects "BrokenBread$Upland" ({ cls := "BrokenBread$Upland", name := "hasTwo", desc := "(II)Z" } : MethodName) ({ cls := "BrokenBread$Upland", name := "hasTwo", desc := "(II)Z" } : MethodName)) ∈ am_tbl := am_t2 (List.mem_of_getElem? (i := 147) rfl) rfl
theorem aw_2_148 : (Cond.code ({ cls := "BrokenBread$Upland", name := "hasTwo", desc := "(II)Z" } : MethodName) prog_10_method_4_code (3 : Nat) (Option.some FieldType.boolean)) ∈ am_tbl := am_t2 (List.mem_of_getElem? (i := 148) rfl) rfl
theorem aw_2_149 : (Cond.methodLink "BrokenBread$Judge" (55 : Nat) ({ cls := "BrokenBread$Judge", name := "knowOne", desc := "(IIII)V" } : MethodName)) ∈ am_tbl := am_t2 (List.mem_of_getElem? (i := 149) rfl) rfl
theorem aw_2_151 : (Cond.instanceMethod ({ cls := "BrokenBread$Judge", name := "knowOne", desc := "(IIII)V" } : MethodName)) ∈ am_tbl := am_t2 (List.mem_of_getElem? (i := 151) rfl) rfl
theorem aw_2_152 : (Cond.code ({ cls := "BrokenBread$Judge", name := "knowOne", desc := "(IIII)V" } : MethodName) prog_3_method_14_code (5 : Nat) (Option.none : Option FieldType)) ∈ am_tbl := am_t2 (List.mem_of_getElem? (i := 152) rfl) rfl
theorem aw_2_153 : (Cond.methodLink "BrokenBread$Judge" (38 : Nat) ({ cls := "BrokenBread$Judge", name := "tellsLaw", desc := "(II)I" } : MethodName)) ∈ am_tbl := am_t2 (List.mem_of_getElem? (i := 153) rfl) rfl
theorem aw_2_155 : (Cond.instanceMethod ({ cls := "BrokenBread$Judge", name := "tellsLaw", desc := "(II)I" } : MethodName)) ∈ am_tbl := am_t2 (List.mem_of_getElem? (i := 155) rfl) rfl
theorem aw_2_156 : (Cond.code ({ cls := "BrokenBread$Judge", name := "tellsLaw", desc := "(II)I" } : MethodName) prog_3_method_15_code (5 : Nat) (Option.some FieldType.int)) ∈ am_tbl := am_t2 (List.mem_of_getElem? (i := 156) rfl) rfl
theorem aw_2_157 : (Cond.methodLink "BrokenBread$Judge" (91 : Nat) ({ cls := "BrokenBread$Script", name := "headOf", desc := "(II)I" } : MethodName)) ∈ am_tbl := am_t2 (List.mem_of_getElem? (i := 157) rfl) rfl
theorem aw_2_158 : (Cond.instanceMethod ({ cls := "BrokenBread$Script", name := "headOf", desc := "(II)I" } : MethodName)) ∈ am_tbl := am_t2 (List.mem_of_getElem? (i := 158) rfl) rfl
theorem aw_2_159 : (Cond.selects "BrokenBread$Script" ({ cls := "BrokenBread$Script", name := "headOf", desc := "(II)I" } : MethodName) ({ cls := "BrokenBread$Script", name := "headOf", desc := "(II)I" } : MethodName)) ∈ am_tbl := am_t2 (List.mem_of_getElem? (i := 159) rfl) rfl
theorem aw_2_160 : (Cond.code ({ cls := "BrokenBread$Script", name := "headOf", desc := "(II)I" } : MethodName) prog_7_method_8_code (5 : Nat) (Option.some FieldType.int)) ∈ am_tbl := am_t2 (List.mem_of_getElem? (i := 160) rfl) rfl
theorem aw_2_161 : (Cond.methodLink "BrokenBread$Judge" (94 : Nat) ({ cls := "BrokenBread$Judge", name := "tell", desc := "(LBrokenBread$Script;I[I)I" } : MethodName)) ∈ am_tbl := am_t2 (List.mem_of_getElem? (i := 161) rfl) rfl
theorem aw_2_162 : (Cond.instanceMethod ({ cls := "BrokenBread$Judge", name := "tell", desc := "(LBrokenBread$Script;I[I)I" } : MethodName)) ∈ am_tbl := am_t2 (List.mem_of_getElem? (i := 162) rfl) rfl
theorem aw_2_163 : (Cond.selects "BrokenBread$Judge" ({ cls := "BrokenBread$Judge", name := "tell", desc := "(LBrokenBread$Script;I[I)I" } : MethodName) ({ cls := "BrokenBread$Judge", name := "tell", desc := "(LBrokenBread$Script;I[I)I" } : MethodName)) ∈ am_tbl := am_t2 (List.mem_of_getElem? (i := 163) rfl) rfl
theorem aw_2_164 : (Cond.code ({ cls := "BrokenBread$Judge", name := "tell", desc := "(LBrokenBread$Script;I[I)I" } : MethodName) prog_3_method_16_code (10 : Nat) (Option.some FieldType.int)) ∈ am_tbl := am_t2 (List.mem_of_getElem? (i := 164) rfl) rfl
theorem aw_2_165 : (Cond.constant "BrokenBread$Judge" (98 : Nat) (2000000000 : Int32)) ∈ am_tbl := am_t2 (List.mem_of_getElem? (i := 165) rfl) rfl
theorem aw_2_166 : (Cond.methodLink "BrokenBread$Judge" (105 : Nat) ({ cls := "BrokenBread$Judge", name := "joined", desc := "(IJJ)J" } : MethodName)) ∈ am_tbl := am_t2 (List.mem_of_getElem? (i := 166) rfl) rfl
theorem aw_2_167 : (Cond.static ({ cls := "BrokenBread$Judge", name := "joined", desc := "(IJJ)J" } : MethodName)) ∈ am_tbl := am_t2 (List.mem_of_getElem? (i := 167) rfl) rfl
theorem aw_2_168 : (Cond.code ({ cls := "BrokenBread$Judge", name := "joined", desc := "(IJJ)J" } : MethodName) prog_3_method_17_code (7 : Nat) (Option.some FieldType.long)) ∈ am_tbl := am_t2 (List.mem_of_getElem? (i := 168) rfl) rfl
theorem aw_2_169 : (Cond.constantLong "BrokenBread$Judge" (109 : Nat) (2000000000 : Int64)) ∈ am_tbl := am_t2 (List.mem_of_getElem? (i := 169) rfl) rfl
theorem aw_2_170 : (Cond.constantLong "BrokenBread$Judge" (111 : Nat) (1000000000 : Int64)) ∈ am_tbl := am_t2 (List.mem_of_getElem? (i := 170) rfl) rfl
theorem aw_2_171 : (Cond.constantLong "BrokenBread$Judge" (113 : Nat) (-1000000000 : Int64)) ∈ am_tbl := am_t2 (List.mem_of_getElem? (i := 171) rfl) rfl
theorem aw_2_172 : (Cond.methodLink "BrokenBread$Judge" (65 : Nat) ({ cls := "java/lang/Math", name := "min", desc := "(II)I" } : MethodName)) ∈ am_tbl := am_t2 (List.mem_of_getElem? (i := 172) rfl) rfl
theorem aw_2_173 : (Cond.methodLink "BrokenBread$Judge" (74 : Nat) ({ cls := "java/lang/Math", name := "max", desc := "(II)I" } : MethodName)) ∈ am_tbl := am_t2 (List.mem_of_getElem? (i := 173) rfl) rfl
theorem aw_2_174 : (Cond.methodLink "BrokenBread" (128 : Nat) ({ cls := "BrokenBread$Judge", name := "hungerOf", desc := "(III)I" } : MethodName)) ∈ am_tbl := am_t2 (List.mem_of_getElem? (i := 174) rfl) rfl
theorem aw_2_175 : (Cond.instanceMethod ({ cls := "BrokenBread$Judge", name := "hungerOf", desc := "(III)I" } : MethodName)) ∈ am_tbl := am_t2 (List.mem_of_getElem? (i := 175) rfl) rfl
theorem aw_2_176 : (Cond.selects "BrokenBread$Judge" ({ cls := "BrokenBread$Judge", name := "hungerOf", desc := "(III)I" } : MethodName) ({ cls := "BrokenBread$Judge", name := "hungerOf", desc := "(III)I" } : MethodName)) ∈ am_tbl := am_t2 (List.mem_of_getElem? (i := 176) rfl) rfl
theorem aw_2_177 : (Cond.code ({ cls := "BrokenBread$Judge", name := "hungerOf", desc := "(III)I" } : MethodName) prog_3_method_10_code (4 : Nat) (Option.some FieldType.int)) ∈ am_tbl := am_t2 (List.mem_of_getElem? (i := 177) rfl) rfl
theorem aw_2_178 : (Cond.methodLink "BrokenBread" (132 : Nat) ({ cls := "BrokenBread$Upland", name := "harmsBy", desc := "(I)I" } : MethodName)) ∈ am_tbl := am_t2 (List.mem_of_getElem? (i := 178) rfl) rfl
theorem aw_2_179 : (Cond.instanceMethod ({ cls := "BrokenBread$Upland", name := "harmsBy", desc := "(I)I" } : MethodName)) ∈ am_tbl := am_t2 (List.mem_of_getElem? (i := 179) rfl) rfl
theorem aw_2_180 : (Cond.selects "BrokenBread$Upland" ({ cls := "BrokenBread$Upland", name := "harmsBy", desc := "(I)I" } : MethodName) ({ cls := "BrokenBread$Upland", name := "harmsBy", desc := "(I)I" } : MethodName)) ∈ am_tbl := am_t2 (List.mem_of_getElem? (i := 180) rfl) rfl
theorem aw_2_181 : (Cond.code ({ cls := "BrokenBread$Upland", name := "harmsBy", desc := "(I)I" } : MethodName) prog_10_method_12_code (4 : Nat) (Option.some FieldType.int)) ∈ am_tbl := am_t2 (List.mem_of_getElem? (i := 181) rfl) rfl
theorem aw_2_182 : (Cond.methodLink "BrokenBread$Upland" (60 : Nat) ({ cls := "BrokenBread$Upland", name := "weightOf", desc := "(II)I" } : MethodName)) ∈ am_tbl := am_t2 (List.mem_of_getElem? (i := 182) rfl) rfl
theorem aw_2_183 : (Cond.instanceMethod ({ cls := "BrokenBread$Upland", name := "weightOf", desc := "(II)I" } : MethodName)) ∈ am_tbl := am_t2 (List.mem_of_getElem? (i := 183) rfl) rfl
theorem aw_2_184 : (Cond.selects "BrokenBread$Upland" ({ cls := "BrokenBread$Upland", name := "weightOf", desc := "(II)I" } : MethodName) ({ cls := "BrokenBread$Upland", name := "weightOf", desc := "(II)I" } : MethodName)) ∈ am_tbl := am_t2 (List.mem_of_getElem? (i := 184) rfl) rfl
theorem aw_2_185 : (Cond.code ({ cls := "BrokenBread$Upland", name := "weightOf", desc := "(II)I" } : MethodName) prog_10_method_9_code (3 : Nat) (Option.some FieldType.int)) ∈ am_tbl := am_t2 (List.mem_of_getElem? (i := 185) rfl) rfl
theorem aw_2_186 : (Cond.methodLink "BrokenBread$Upland" (56 : Nat) ({ cls := "BrokenBread$Upland", name := "hasTwo", desc := "(II)Z" } : MethodName)) ∈ am_tbl := am_t2 (List.mem_of_getElem? (i := 186) rfl) rfl
theorem aw_2_187 : (Cond.methodLink "BrokenBread" (135 : Nat) ({ cls := "BrokenBread$Upland", name := "harmsTo", desc := "(I)I" } : MethodName)) ∈ am_tbl := am_t2 (List.mem_of_getElem? (i := 187) rfl) rfl
theorem aw_2_188 : (Cond.instanceMethod ({ cls := "BrokenBread$Upland", name := "harmsTo", desc := "(I)I" } : MethodName)) ∈ am_tbl := am_t2 (List.mem_of_getElem? (i := 188) rfl) rfl
theorem aw_2_189 : (Cond.selects "BrokenBread$Upland" ({ cls := "BrokenBread$Upland", name := "harmsTo", desc := "(I)I" } : MethodName) ({ cls := "BrokenBread$Upland", name := "harmsTo", desc := "(I)I" } : MethodName)) ∈ am_tbl := am_t2 (List.mem_of_getElem? (i := 189) rfl) rfl
theorem aw_2_190 : (Cond.code ({ cls := "BrokenBread$Upland", name := "harmsTo", desc := "(I)I" } : MethodName) prog_10_method_13_code (4 : Nat) (Option.some FieldType.int)) ∈ am_tbl := am_t2 (List.mem_of_getElem? (i := 190) rfl) rfl
theorem aw_2_191 : (Cond.methodLink "BrokenBreadLaw" (23 : Nat) ({ cls := "BrokenBread", name := "asks", desc := "(III)I" } : MethodName)) ∈ am_tbl := am_t2 (List.mem_of_getElem? (i := 191) rfl) rfl
theorem aw_2_192 : (Cond.instanceMethod ({ cls := "BrokenBread", name := "asks", desc := "(III)I" } : MethodName)) ∈ am_tbl := am_t2 (List.mem_of_getElem? (i := 192) rfl) rfl
theorem aw_2_193 : (Cond.selects "BrokenBread" ({ cls := "BrokenBread", name := "asks", desc := "(III)I" } : MethodName) ({ cls := "BrokenBread", name := "asks", desc := "(III)I" } : MethodName)) ∈ am_tbl := am_t2 (List.mem_of_getElem? (i := 193) rfl) rfl
theorem aw_2_194 : (Cond.code ({ cls := "BrokenBread", name := "asks", desc := "(III)I" } : MethodName) prog_1_method_4_code (4 : Nat) (Option.some FieldType.int)) ∈ am_tbl := am_t2 (List.mem_of_getElem? (i := 194) rfl) rfl
theorem aw_2_195 : (Cond.methodLink "BrokenBread" (138 : Nat) ({ cls := "BrokenBread$Upland", name := "hasTwo", desc := "(II)Z" } : MethodName)) ∈ am_tbl := am_t2 (List.mem_of_getElem? (i := 195) rfl) rfl
theorem aw_2_196 : (Cond.methodLink "BrokenBread" (142 : Nat) ({ cls := "BrokenBread$Upland", name := "weightOf", desc := "(II)I" } : MethodName)) ∈ am_tbl := am_t2 (List.mem_of_getElem? (i := 196) rfl) rfl
theorem aw_2_197 : (Cond.methodLink "BrokenBread" (146 : Nat) ({ cls := "BrokenBread$Upland", name := "sinceOf", desc := "(II)I" } : MethodName)) ∈ am_tbl := am_t2 (List.mem_of_getElem? (i := 197) rfl) rfl
theorem aw_2_198 : (Cond.instanceMethod ({ cls := "BrokenBread$Upland", name := "sinceOf", desc := "(II)I" } : MethodName)) ∈ am_tbl := am_t2 (List.mem_of_getElem? (i := 198) rfl) rfl
theorem aw_2_199 : (Cond.selects "BrokenBread$Upland" ({ cls := "BrokenBread$Upland", name := "sinceOf", desc := "(II)I" } : MethodName) ({ cls := "BrokenBread$Upland", name := "sinceOf", desc := "(II)I" } : MethodName)) ∈ am_tbl := am_t2 (List.mem_of_getElem? (i := 199) rfl) rfl
theorem aw_2_200 : (Cond.code ({ cls := "BrokenBread$Upland", name := "sinceOf", desc := "(II)I" } : MethodName) prog_10_method_10_code (3 : Nat) (Option.some FieldType.int)) ∈ am_tbl := am_t2 (List.mem_of_getElem? (i := 200) rfl) rfl
theorem aw_2_201 : (Cond.methodLink "BrokenBread" (149 : Nat) ({ cls := "BrokenBread$Judge", name := "countsOf", desc := "(II)I" } : MethodName)) ∈ am_tbl := am_t2 (List.mem_of_getElem? (i := 201) rfl) rfl
theorem aw_2_202 : (Cond.instanceMethod ({ cls := "BrokenBread$Judge", name := "countsOf", desc := "(II)I" } : MethodName)) ∈ am_tbl := am_t2 (List.mem_of_getElem? (i := 202) rfl) rfl
theorem aw_2_203 : (Cond.selects "BrokenBread$Judge" ({ cls := "BrokenBread$Judge", name := "countsOf", desc := "(II)I" } : MethodName) ({ cls := "BrokenBread$Judge", name := "countsOf", desc := "(II)I" } : MethodName)) ∈ am_tbl := am_t2 (List.mem_of_getElem? (i := 203) rfl) rfl
theorem aw_2_204 : (Cond.code ({ cls := "BrokenBread$Judge", name := "countsOf", desc := "(II)I" } : MethodName) prog_3_method_4_code (3 : Nat) (Option.some FieldType.int)) ∈ am_tbl := am_t2 (List.mem_of_getElem? (i := 204) rfl) rfl
theorem aw_2_205 : (Cond.methodLink "BrokenBread" (152 : Nat) ({ cls := "BrokenBread$Judge", name := "isBarred", desc := "(II)Z" } : MethodName)) ∈ am_tbl := am_t2 (List.mem_of_getElem? (i := 205) rfl) rfl
theorem aw_2_206 : (Cond.instanceMethod ({ cls := "BrokenBread$Judge", name := "isBarred", desc := "(II)Z" } : MethodName)) ∈ am_tbl := am_t2 (List.mem_of_getElem? (i := 206) rfl) rfl
theorem aw_2_207 : (Cond.selects "BrokenBread$Judge" ({ cls := "BrokenBread$Judge", name := "isBarred", desc := "(II)Z" } : MethodName) ({ cls := "BrokenBread$Judge", name := "isBarred", desc := "(II)Z" } : MethodName)) ∈ am_tbl := am_t2 (List.mem_of_getElem? (i := 207) rfl) rfl
theorem aw_2_208 : (Cond.code ({ cls := "BrokenBread$Judge", name := "isBarred", desc := "(II)Z" } : MethodName) prog_3_method_5_code (3 : Nat) (Option.some FieldType.boolean)) ∈ am_tbl := am_t2 (List.mem_of_getElem? (i := 208) rfl) rfl
theorem aw_2_209 : (Cond.methodLink "BrokenBread" (155 : Nat) ({ cls := "BrokenBread$Judge", name := "maySit", desc := "(II)Z" } : MethodName)) ∈ am_tbl := am_t2 (List.mem_of_getElem? (i := 209) rfl) rfl
theorem aw_2_210 : (Cond.methodLink "BrokenBreadLaw" (28 : Nat) ({ cls := "BrokenBread", name := "terms", desc := "(II)I" } : MethodName)) ∈ am_tbl := am_t2 (List.mem_of_getElem? (i := 210) rfl) rfl
theorem aw_2_211 : (Cond.instanceMethod ({ cls := "BrokenBread", name := "terms", desc := "(II)I" } : MethodName)) ∈ am_tbl := am_t2 (List.mem_of_getElem? (i := 211) rfl) rfl
theorem aw_2_212 : (Cond.selects "BrokenBread" ({ cls := "BrokenBread", name := "terms", desc := "(II)I" } : MethodName) ({ cls := "BrokenBread", name := "terms", desc := "(II)I" } : MethodName)) ∈ am_tbl := am_t2 (List.mem_of_getElem? (i := 212) rfl) rfl
theorem aw_2_213 : (Cond.code ({ cls := "BrokenBread", name := "terms", desc := "(II)I" } : MethodName) prog_1_method_5_code (4 : Nat) (Option.some FieldType.int)) ∈ am_tbl := am_t2 (List.mem_of_getElem? (i := 213) rfl) rfl
theorem aw_2_214 : (Cond.methodLink "BrokenBread" (158 : Nat) ({ cls := "BrokenBread", name := "mostOfTerm", desc := "(I)I" } : MethodName)) ∈ am_tbl := am_t2 (List.mem_of_getElem? (i := 214) rfl) rfl
theorem aw_2_215 : (Cond.static ({ cls := "BrokenBread", name := "mostOfTerm", desc := "(I)I" } : MethodName)) ∈ am_tbl := am_t2 (List.mem_of_getElem? (i := 215) rfl) rfl
theorem aw_2_216 : (Cond.code ({ cls := "BrokenBread", name := "mostOfTerm", desc := "(I)I" } : MethodName) prog_1_method_46_code (1 : Nat) (Option.some FieldType.int)) ∈ am_tbl := am_t2 (List.mem_of_getElem? (i := 216) rfl) rfl
theorem aw_2_217 : (Cond.methodLink "BrokenBreadLaw" (32 : Nat) ({ cls := "BrokenBread", name := "feed", desc := "(IIIII)I" } : MethodName)) ∈ am_tbl := am_t2 (List.mem_of_getElem? (i := 217) rfl) rfl
theorem aw_2_218 : (Cond.instanceMethod ({ cls := "BrokenBread", name := "feed", desc := "(IIIII)I" } : MethodName)) ∈ am_tbl := am_t2 (List.mem_of_getElem? (i := 218) rfl) rfl
theorem aw_2_219 : (Cond.selects "BrokenBread" ({ cls := "BrokenBread", name := "feed", desc := "(IIIII)I" } : MethodName) ({ cls := "BrokenBread", name := "feed", desc := "(IIIII)I" } : MethodName)) ∈ am_tbl := am_t2 (List.mem_of_getElem? (i := 219) rfl) rfl
theorem aw_2_220 : (Cond.code ({ cls := "BrokenBread", name := "feed", desc := "(IIIII)I" } : MethodName) prog_1_method_6_code (6 : Nat) (Option.some FieldType.int)) ∈ am_tbl := am_t2 (List.mem_of_getElem? (i := 220) rfl) rfl
theorem aw_2_221 : (Cond.methodLink "BrokenBread" (164 : Nat) ({ cls := "BrokenBread$Tape", name := "take", desc := "(I)V" } : MethodName)) ∈ am_tbl := am_t2 (List.mem_of_getElem? (i := 221) rfl) rfl
theorem aw_2_222 : (Cond.instanceMethod ({ cls := "BrokenBread$Tape", name := "take", desc := "(I)V" } : MethodName)) ∈ am_tbl := am_t2 (List.mem_of_getElem? (i := 222) rfl) rfl
theorem aw_2_223 : (Cond.selects "BrokenBread$Tape" ({ cls := "BrokenBread$Tape", name := "take", desc := "(I)V" } : MethodName) ({ cls := "BrokenBread$Tape", name := "take", desc := "(I)V" } : MethodName)) ∈ am_tbl := am_t2 (List.mem_of_getElem? (i := 223) rfl) rfl
theorem aw_2_224 : (Cond.code ({ cls := "BrokenBread$Tape", name := "take", desc := "(I)V" } : MethodName) prog_9_method_2_code (3 : Nat) (Option.none : Option FieldType)) ∈ am_tbl := am_t2 (List.mem_of_getElem? (i := 224) rfl) rfl
theorem aw_2_225 : (Cond.methodLink "BrokenBreadLaw" (37 : Nat) ({ cls := "BrokenBread", name := "end", desc := "(I)I" } : MethodName)) ∈ am_tbl := am_t2 (List.mem_of_getElem? (i := 225) rfl) rfl
theorem aw_2_226 : (Cond.instanceMethod ({ cls := "BrokenBread", name := "end", desc := "(I)I" } : MethodName)) ∈ am_tbl := am_t2 (List.mem_of_getElem? (i := 226) rfl) rfl
theorem aw_2_227 : (Cond.selects "BrokenBread" ({ cls := "BrokenBread", name := "end", desc := "(I)I" } : MethodName) ({ cls := "BrokenBread", name := "end", desc := "(I)I" } : MethodName)) ∈ am_tbl := am_t2 (List.mem_of_getElem? (i := 227) rfl) rfl
theorem aw_2_228 : (Cond.code ({ cls := "BrokenBread", name := "end", desc := "(I)I" } : MethodName) prog_1_method_7_code (2 : Nat) (Option.some FieldType.int)) ∈ am_tbl := am_t2 (List.mem_of_getElem? (i := 228) rfl) rfl
theorem aw_2_229 : (Cond.methodLink "BrokenBreadLaw" (41 : Nat) ({ cls := "BrokenBread", name := "row", desc := "()I" } : MethodName)) ∈ am_tbl := am_t2 (List.mem_of_getElem? (i := 229) rfl) rfl
theorem aw_2_230 : (Cond.instanceMethod ({ cls := "BrokenBread", name := "row", desc := "()I" } : MethodName)) ∈ am_tbl := am_t2 (List.mem_of_getElem? (i := 230) rfl) rfl
theorem aw_2_231 : (Cond.selects "BrokenBread" ({ cls := "BrokenBread", name := "row", desc := "()I" } : MethodName) ({ cls := "BrokenBread", name := "row", desc := "()I" } : MethodName)) ∈ am_tbl := am_t2 (List.mem_of_getElem? (i := 231) rfl) rfl
theorem aw_2_232 : (Cond.code ({ cls := "BrokenBread", name := "row", desc := "()I" } : MethodName) prog_1_method_8_code (4 : Nat) (Option.some FieldType.int)) ∈ am_tbl := am_t2 (List.mem_of_getElem? (i := 232) rfl) rfl
theorem aw_2_233 : (Cond.methodLink "BrokenBread" (168 : Nat) ({ cls := "BrokenBread", name := "rowHarm", desc := "(I)Z" } : MethodName)) ∈ am_tbl := am_t2 (List.mem_of_getElem? (i := 233) rfl) rfl
theorem aw_2_235 : (Cond.instanceMethod ({ cls := "BrokenBread", name := "rowHarm", desc := "(I)Z" } : MethodName)) ∈ am_tbl := am_t2 (List.mem_of_getElem? (i := 235) rfl) rfl
theorem aw_2_236 : (Cond.code ({ cls := "BrokenBread", name := "rowHarm", desc := "(I)Z" } : MethodName) prog_1_method_48_code (5 : Nat) (Option.some FieldType.boolean)) ∈ am_tbl := am_t2 (List.mem_of_getElem? (i := 236) rfl) rfl
theorem aw_2_237 : (Cond.methodLink "BrokenBread" (356 : Nat) ({ cls := "BrokenBread$Tape", name := "byteAt", desc := "(I)I" } : MethodName)) ∈ am_tbl := am_t2 (List.mem_of_getElem? (i := 237) rfl) rfl
theorem aw_2_238 : (Cond.instanceMethod ({ cls := "BrokenBread$Tape", name := "byteAt", desc := "(I)I" } : MethodName)) ∈ am_tbl := am_t2 (List.mem_of_getElem? (i := 238) rfl) rfl
theorem aw_2_239 : (Cond.selects "BrokenBread$Tape" ({ cls := "BrokenBread$Tape", name := "byteAt", desc := "(I)I" } : MethodName) ({ cls := "BrokenBread$Tape", name := "byteAt", desc := "(I)I" } : MethodName)) ∈ am_tbl := am_t2 (List.mem_of_getElem? (i := 239) rfl) rfl
theorem aw_3_0 : (Cond.code ({ cls := "BrokenBread$Tape", name := "byteAt", desc := "(I)I" } : MethodName) prog_9_method_3_code (2 : Nat) (Option.some FieldType.int)) ∈ am_tbl := am_t3 (List.mem_of_getElem? (i := 0) rfl) rfl
theorem aw_3_1 : (Cond.methodLink "BrokenBread" (359 : Nat) ({ cls := "BrokenBread$Upland", name := "setHarm", desc := "(IIII)V" } : MethodName)) ∈ am_tbl := am_t3 (List.mem_of_getElem? (i := 1) rfl) rfl
theorem aw_3_2 : (Cond.instanceMethod ({ cls := "BrokenBread$Upland", name := "setHarm", desc := "(IIII)V" } : MethodName)) ∈ am_tbl := am_t3 (List.mem_of_getElem? (i := 2) rfl) rfl
theorem aw_3_3 : (Cond.selects "BrokenBread$Upland" ({ cls := "BrokenBread$Upland", name := "setHarm", desc := "(IIII)V" } : MethodName) ({ cls := "BrokenBread$Upland", name := "setHarm", desc := "(IIII)V" } : MethodName)) ∈ am_tbl := am_t3 (List.mem_of_getElem? (i := 3) rfl) rfl
theorem aw_3_4 : (Cond.code ({ cls := "BrokenBread$Upland", name := "setHarm", desc := "(IIII)V" } : MethodName) prog_10_method_11_code (5 : Nat) (Option.none : Option FieldType)) ∈ am_tbl := am_t3 (List.mem_of_getElem? (i := 4) rfl) rfl
theorem aw_3_5 : (Cond.methodLink "BrokenBreadLaw" (46 : Nat) ({ cls := "BrokenBread", name := "crumbs", desc := "()I" } : MethodName)) ∈ am_tbl := am_t3 (List.mem_of_getElem? (i := 5) rfl) rfl
theorem aw_3_6 : (Cond.instanceMethod ({ cls := "BrokenBread", name := "crumbs", desc := "()I" } : MethodName)) ∈ am_tbl := am_t3 (List.mem_of_getElem? (i := 6) rfl) rfl
theorem aw_3_7 : (Cond.selects "BrokenBread" ({ cls := "BrokenBread", name := "crumbs", desc := "()I" } : MethodName) ({ cls := "BrokenBread", name := "crumbs", desc := "()I" } : MethodName)) ∈ am_tbl := am_t3 (List.mem_of_getElem? (i := 7) rfl) rfl
theorem aw_3_8 : (Cond.code ({ cls := "BrokenBread", name := "crumbs", desc := "()I" } : MethodName) prog_1_method_9_code (1 : Nat) (Option.some FieldType.int)) ∈ am_tbl := am_t3 (List.mem_of_getElem? (i := 8) rfl) rfl
theorem aw_3_9 : (Cond.methodLink "BrokenBreadLaw" (50 : Nat) ({ cls := "BrokenBread", name := "law", desc := "()I" } : MethodName)) ∈ am_tbl := am_t3 (List.mem_of_getElem? (i := 9) rfl) rfl
theorem aw_3_10 : (Cond.instanceMethod ({ cls := "BrokenBread", name := "law", desc := "()I" } : MethodName)) ∈ am_tbl := am_t3 (List.mem_of_getElem? (i := 10) rfl) rfl
theorem aw_3_11 : (Cond.selects "BrokenBread" ({ cls := "BrokenBread", name := "law", desc := "()I" } : MethodName) ({ cls := "BrokenBread", name := "law", desc := "()I" } : MethodName)) ∈ am_tbl := am_t3 (List.mem_of_getElem? (i := 11) rfl) rfl
theorem aw_3_12 : (Cond.code ({ cls := "BrokenBread", name := "law", desc := "()I" } : MethodName) prog_1_method_10_code (2 : Nat) (Option.some FieldType.int)) ∈ am_tbl := am_t3 (List.mem_of_getElem? (i := 12) rfl) rfl
theorem aw_3_13 : (Cond.methodLink "BrokenBread" (174 : Nat) ({ cls := "BrokenBread$Reader", name := "readWhole", desc := "(LBrokenBread$Tape;Z)Z" } : MethodName)) ∈ am_tbl := am_t3 (List.mem_of_getElem? (i := 13) rfl) rfl
theorem aw_3_14 : (Cond.instanceMethod ({ cls := "BrokenBread$Reader", name := "readWhole", desc := "(LBrokenBread$Tape;Z)Z" } : MethodName)) ∈ am_tbl := am_t3 (List.mem_of_getElem? (i := 14) rfl) rfl
theorem aw_3_15 : (Cond.selects "BrokenBread$Reader" ({ cls := "BrokenBread$Reader", name := "readWhole", desc := "(LBrokenBread$Tape;Z)Z" } : MethodName) ({ cls := "BrokenBread$Reader", name := "readWhole", desc := "(LBrokenBread$Tape;Z)Z" } : MethodName)) ∈ am_tbl := am_t3 (List.mem_of_getElem? (i := 15) rfl) rfl
theorem aw_3_16 : (Cond.code ({ cls := "BrokenBread$Reader", name := "readWhole", desc := "(LBrokenBread$Tape;Z)Z" } : MethodName) prog_6_method_2_code (4 : Nat) (Option.some FieldType.boolean)) ∈ am_tbl := am_t3 (List.mem_of_getElem? (i := 16) rfl) rfl
theorem aw_3_17 : (Cond.methodLink "BrokenBread$Reader" (53 : Nat) ({ cls := "BrokenBread$Reader", name := "split", desc := "(LBrokenBread$Tape;)V" } : MethodName)) ∈ am_tbl := am_t3 (List.mem_of_getElem? (i := 17) rfl) rfl
theorem aw_3_19 : (Cond.instanceMethod ({ cls := "BrokenBread$Reader", name := "split", desc := "(LBrokenBread$Tape;)V" } : MethodName)) ∈ am_tbl := am_t3 (List.mem_of_getElem? (i := 19) rfl) rfl
theorem aw_3_20 : (Cond.code ({ cls := "BrokenBread$Reader", name := "split", desc := "(LBrokenBread$Tape;)V" } : MethodName) prog_6_method_3_code (5 : Nat) (Option.none : Option FieldType)) ∈ am_tbl := am_t3 (List.mem_of_getElem? (i := 20) rfl) rfl
theorem aw_3_21 : (Cond.methodLink "BrokenBread$Reader" (80 : Nat) ({ cls := "BrokenBread$Tape", name := "byteAt", desc := "(I)I" } : MethodName)) ∈ am_tbl := am_t3 (List.mem_of_getElem? (i := 21) rfl) rfl
theorem aw_3_22 : (Cond.methodLink "BrokenBread$Reader" (84 : Nat) ({ cls := "BrokenBread$Reader", name := "isLetter", desc := "(I)Z" } : MethodName)) ∈ am_tbl := am_t3 (List.mem_of_getElem? (i := 22) rfl) rfl
theorem aw_3_23 : (Cond.static ({ cls := "BrokenBread$Reader", name := "isLetter", desc := "(I)Z" } : MethodName)) ∈ am_tbl := am_t3 (List.mem_of_getElem? (i := 23) rfl) rfl
theorem aw_3_24 : (Cond.code ({ cls := "BrokenBread$Reader", name := "isLetter", desc := "(I)Z" } : MethodName) prog_6_method_5_code (1 : Nat) (Option.some FieldType.boolean)) ∈ am_tbl := am_t3 (List.mem_of_getElem? (i := 24) rfl) rfl
theorem aw_3_25 : (Cond.methodLink "BrokenBread$Reader" (87 : Nat) ({ cls := "BrokenBread$Reader", name := "wordOf", desc := "(LBrokenBread$Tape;II)I" } : MethodName)) ∈ am_tbl := am_t3 (List.mem_of_getElem? (i := 25) rfl) rfl
theorem aw_3_26 : (Cond.static ({ cls := "BrokenBread$Reader", name := "wordOf", desc := "(LBrokenBread$Tape;II)I" } : MethodName)) ∈ am_tbl := am_t3 (List.mem_of_getElem? (i := 26) rfl) rfl
theorem aw_3_27 : (Cond.code ({ cls := "BrokenBread$Reader", name := "wordOf", desc := "(LBrokenBread$Tape;II)I" } : MethodName) prog_6_method_8_code (6 : Nat) (Option.some FieldType.int)) ∈ am_tbl := am_t3 (List.mem_of_getElem? (i := 27) rfl) rfl
theorem aw_3_29 : (Cond.methodLink "BrokenBread$Reader" (109 : Nat) ({ cls := "java/lang/String", name := "length", desc := "()I" } : MethodName)) ∈ am_tbl := am_t3 (List.mem_of_getElem? (i := 29) rfl) rfl
theorem aw_3_30 : (Cond.instanceMethod ({ cls := "java/lang/String", name := "length", desc := "()I" } : MethodName)) ∈ am_tbl := am_t3 (List.mem_of_getElem? (i := 30) rfl) rfl
theorem aw_3_31 : (Cond.selects "java/lang/String" ({ cls := "java/lang/String", name := "length", desc := "()I" } : MethodName) ({ cls := "java/lang/String", name := "length", desc := "()I" } : MethodName)) ∈ am_tbl := am_t3 (List.mem_of_getElem? (i := 31) rfl) rfl
theorem aw_3_32 : (Cond.code ({ cls := "java/lang/String", name := "length", desc := "()I" } : MethodName) prog_15_method_54_code (1 : Nat) (Option.some FieldType.int)) ∈ am_tbl := am_t3 (List.mem_of_getElem? (i := 32) rfl) rfl
theorem aw_3_33 : (Cond.methodLink "java/lang/String" (335 : Nat) ({ cls := "java/lang/String", name := "coder", desc := "()B" } : MethodName)) ∈ am_tbl := am_t3 (List.mem_of_getElem? (i := 33) rfl) rfl
theorem aw_3_34 : (Cond.instanceMethod ({ cls := "java/lang/String", name := "coder", desc := "()B" } : MethodName)) ∈ am_tbl := am_t3 (List.mem_of_getElem? (i := 34) rfl) rfl
theorem aw_3_35 : (Cond.selects "java/lang/String" ({ cls := "java/lang/String", name := "coder", desc := "()B" } : MethodName) ({ cls := "java/lang/String", name := "coder", desc := "()B" } : MethodName)) ∈ am_tbl := am_t3 (List.mem_of_getElem? (i := 35) rfl) rfl
theorem aw_3_36 : (Cond.code ({ cls := "java/lang/String", name := "coder", desc := "()B" } : MethodName) prog_15_method_152_code (1 : Nat) (Option.some FieldType.byte)) ∈ am_tbl := am_t3 (List.mem_of_getElem? (i := 36) rfl) rfl
theorem aw_3_37 : (Cond.fieldLink "java/lang/String" (38 : Nat) "java/lang/String" "COMPACT_STRINGS" "Z") ∈ am_tbl := am_t3 (List.mem_of_getElem? (i := 37) rfl) rfl
theorem aw_3_39 : (Cond.methodLink "BrokenBread$Reader" (114 : Nat) ({ cls := "java/lang/String", name := "charAt", desc := "(I)C" } : MethodName)) ∈ am_tbl := am_t3 (List.mem_of_getElem? (i := 39) rfl) rfl
theorem aw_3_40 : (Cond.instanceMethod ({ cls := "java/lang/String", name := "charAt", desc := "(I)C" } : MethodName)) ∈ am_tbl := am_t3 (List.mem_of_getElem? (i := 40) rfl) rfl
theorem aw_3_41 : (Cond.selects "java/lang/String" ({ cls := "java/lang/String", name := "charAt", desc := "(I)C" } : MethodName) ({ cls := "java/lang/String", name := "charAt", desc := "(I)C" } : MethodName)) ∈ am_tbl := am_t3 (List.mem_of_getElem? (i := 41) rfl) rfl
theorem aw_3_42 : (Cond.code ({ cls := "java/lang/String", name := "charAt", desc := "(I)C" } : MethodName) prog_15_method_56_code (2 : Nat) (Option.some FieldType.char)) ∈ am_tbl := am_t3 (List.mem_of_getElem? (i := 42) rfl) rfl
theorem aw_3_43 : (Cond.methodLink "java/lang/String" (492 : Nat) ({ cls := "java/lang/String", name := "isLatin1", desc := "()Z" } : MethodName)) ∈ am_tbl := am_t3 (List.mem_of_getElem? (i := 43) rfl) rfl
theorem aw_3_44 : (Cond.instanceMethod ({ cls := "java/lang/String", name := "isLatin1", desc := "()Z" } : MethodName)) ∈ am_tbl := am_t3 (List.mem_of_getElem? (i := 44) rfl) rfl
theorem aw_3_45 : (Cond.selects "java/lang/String" ({ cls := "java/lang/String", name := "isLatin1", desc := "()Z" } : MethodName) ({ cls := "java/lang/String", name := "isLatin1", desc := "()Z" } : MethodName)) ∈ am_tbl := am_t3 (List.mem_of_getElem? (i := 45) rfl) rfl
theorem aw_3_46 : (Cond.code ({ cls := "java/lang/String", name := "isLatin1", desc := "()Z" } : MethodName) prog_15_method_154_code (1 : Nat) (Option.some FieldType.boolean)) ∈ am_tbl := am_t3 (List.mem_of_getElem? (i := 46) rfl) rfl
theorem aw_3_47 : (Cond.methodLink "java/lang/String" (495 : Nat) ({ cls := "java/lang/StringLatin1", name := "charAt", desc := "([BI)C" } : MethodName)) ∈ am_tbl := am_t3 (List.mem_of_getElem? (i := 47) rfl) rfl
theorem aw_3_48 : (Cond.static ({ cls := "java/lang/StringLatin1", name := "charAt", desc := "([BI)C" } : MethodName)) ∈ am_tbl := am_t3 (List.mem_of_getElem? (i := 48) rfl) rfl
theorem aw_3_49 : (Cond.code ({ cls := "java/lang/StringLatin1", name := "charAt", desc := "([BI)C" } : MethodName) prog_16_method_2_code (2 : Nat) (Option.some FieldType.char)) ∈ am_tbl := am_t3 (List.mem_of_getElem? (i := 49) rfl) rfl
theorem aw_3_50 : (Cond.methodLink "java/lang/StringLatin1" (9 : Nat) ({ cls := "java/lang/String", name := "checkIndex", desc := "(II)V" } : MethodName)) ∈ am_tbl := am_t3 (List.mem_of_getElem? (i := 50) rfl) rfl
theorem aw_3_51 : (Cond.static ({ cls := "java/lang/String", name := "checkIndex", desc := "(II)V" } : MethodName)) ∈ am_tbl := am_t3 (List.mem_of_getElem? (i := 51) rfl) rfl
theorem aw_3_52 : (Cond.code ({ cls := "java/lang/String", name := "checkIndex", desc := "(II)V" } : MethodName) prog_15_method_155_code (2 : Nat) (Option.none : Option FieldType)) ∈ am_tbl := am_t3 (List.mem_of_getElem? (i := 52) rfl) rfl
theorem aw_3_53 : (Cond.fieldLink "java/lang/String" (1053 : Nat) "jdk/internal/util/Preconditions" "SIOOBE_FORMATTER" "Ljava/util/function/BiFunction;") ∈ am_tbl := am_t3 (List.mem_of_getElem? (i := 53) rfl) rfl
theorem aw_3_55 : (Cond.methodLink "java/lang/String" (1059 : Nat) ({ cls := "jdk/internal/util/Preconditions", name := "checkIndex", desc := "(IILjava/util/function/BiFunction;)I" } : MethodName)) ∈ am_tbl := am_t3 (List.mem_of_getElem? (i := 55) rfl) rfl
theorem aw_3_56 : (Cond.static ({ cls := "jdk/internal/util/Preconditions", name := "checkIndex", desc := "(IILjava/util/function/BiFunction;)I" } : MethodName)) ∈ am_tbl := am_t3 (List.mem_of_getElem? (i := 56) rfl) rfl
theorem aw_3_57 : (Cond.code ({ cls := "jdk/internal/util/Preconditions", name := "checkIndex", desc := "(IILjava/util/function/BiFunction;)I" } : MethodName) prog_19_method_11_code (3 : Nat) (Option.some FieldType.int)) ∈ am_tbl := am_t3 (List.mem_of_getElem? (i := 57) rfl) rfl
theorem aw_3_77 : (Cond.methodLink "BrokenBread$Reader" (118 : Nat) ({ cls := "BrokenBread$Reader", name := "isSame", desc := "(LBrokenBread$Tape;III)Z" } : MethodName)) ∈ am_tbl := am_t3 (List.mem_of_getElem? (i := 77) rfl) rfl
theorem aw_3_78 : (Cond.static ({ cls := "BrokenBread$Reader", name := "isSame", desc := "(LBrokenBread$Tape;III)Z" } : MethodName)) ∈ am_tbl := am_t3 (List.mem_of_getElem? (i := 78) rfl) rfl
theorem aw_3_79 : (Cond.code ({ cls := "BrokenBread$Reader", name := "isSame", desc := "(LBrokenBread$Tape;III)Z" } : MethodName) prog_6_method_9_code (5 : Nat) (Option.some FieldType.boolean)) ∈ am_tbl := am_t3 (List.mem_of_getElem? (i := 79) rfl) rfl
theorem aw_3_80 : (Cond.methodLink "BrokenBread$Reader" (91 : Nat) ({ cls := "BrokenBread$Reader", name := "addToken", desc := "(III)V" } : MethodName)) ∈ am_tbl := am_t3 (List.mem_of_getElem? (i := 80) rfl) rfl
theorem aw_3_82 : (Cond.instanceMethod ({ cls := "BrokenBread$Reader", name := "addToken", desc := "(III)V" } : MethodName)) ∈ am_tbl := am_t3 (List.mem_of_getElem? (i := 82) rfl) rfl
theorem aw_3_83 : (Cond.code ({ cls := "BrokenBread$Reader", name := "addToken", desc := "(III)V" } : MethodName) prog_6_method_4_code (4 : Nat) (Option.none : Option FieldType)) ∈ am_tbl := am_t3 (List.mem_of_getElem? (i := 83) rfl) rfl
theorem aw_3_84 : (Cond.methodLink "BrokenBread$Reader" (95 : Nat) ({ cls := "BrokenBread$Reader", name := "isDigit", desc := "(I)Z" } : MethodName)) ∈ am_tbl := am_t3 (List.mem_of_getElem? (i := 84) rfl) rfl
theorem aw_3_85 : (Cond.static ({ cls := "BrokenBread$Reader", name := "isDigit", desc := "(I)Z" } : MethodName)) ∈ am_tbl := am_t3 (List.mem_of_getElem? (i := 85) rfl) rfl
theorem aw_3_86 : (Cond.code ({ cls := "BrokenBread$Reader", name := "isDigit", desc := "(I)Z" } : MethodName) prog_6_method_6_code (1 : Nat) (Option.some FieldType.boolean)) ∈ am_tbl := am_t3 (List.mem_of_getElem? (i := 86) rfl) rfl
theorem aw_3_87 : (Cond.methodLink "BrokenBread$Reader" (98 : Nat) ({ cls := "BrokenBread$Reader", name := "numberOf", desc := "(LBrokenBread$Tape;II)I" } : MethodName)) ∈ am_tbl := am_t3 (List.mem_of_getElem? (i := 87) rfl) rfl
theorem aw_3_88 : (Cond.static ({ cls := "BrokenBread$Reader", name := "numberOf", desc := "(LBrokenBread$Tape;II)I" } : MethodName)) ∈ am_tbl := am_t3 (List.mem_of_getElem? (i := 88) rfl) rfl
theorem aw_3_89 : (Cond.code ({ cls := "BrokenBread$Reader", name := "numberOf", desc := "(LBrokenBread$Tape;II)I" } : MethodName) prog_6_method_7_code (5 : Nat) (Option.some FieldType.int)) ∈ am_tbl := am_t3 (List.mem_of_getElem? (i := 89) rfl) rfl
theorem aw_3_90 : (Cond.methodLink "BrokenBread$Reader" (101 : Nat) ({ cls := "java/lang/Math", name := "min", desc := "(II)I" } : MethodName)) ∈ am_tbl := am_t3 (List.mem_of_getElem? (i := 90) rfl) rfl
theorem aw_3_91 : (Cond.methodLink "BrokenBread$Reader" (62 : Nat) ({ cls := "BrokenBread$Script", name := "clear", desc := "()V" } : MethodName)) ∈ am_tbl := am_t3 (List.mem_of_getElem? (i := 91) rfl) rfl
theorem aw_3_92 : (Cond.instanceMethod ({ cls := "BrokenBread$Script", name := "clear", desc := "()V" } : MethodName)) ∈ am_tbl := am_t3 (List.mem_of_getElem? (i := 92) rfl) rfl
theorem aw_3_93 : (Cond.selects "BrokenBread$Script" ({ cls := "BrokenBread$Script", name := "clear", desc := "()V" } : MethodName) ({ cls := "BrokenBread$Script", name := "clear", desc := "()V" } : MethodName)) ∈ am_tbl := am_t3 (List.mem_of_getElem? (i := 93) rfl) rfl
theorem aw_3_94 : (Cond.code ({ cls := "BrokenBread$Script", name := "clear", desc := "()V" } : MethodName) prog_7_method_2_code (1 : Nat) (Option.none : Option FieldType)) ∈ am_tbl := am_t3 (List.mem_of_getElem? (i := 94) rfl) rfl
theorem aw_3_95 : (Cond.methodLink "BrokenBread$Reader" (65 : Nat) ({ cls := "BrokenBread$Reader", name := "goTo", desc := "(I)V" } : MethodName)) ∈ am_tbl := am_t3 (List.mem_of_getElem? (i := 95) rfl) rfl
theorem aw_3_97 : (Cond.instanceMethod ({ cls := "BrokenBread$Reader", name := "goTo", desc := "(I)V" } : MethodName)) ∈ am_tbl := am_t3 (List.mem_of_getElem? (i := 97) rfl) rfl
theorem aw_3_98 : (Cond.code ({ cls := "BrokenBread$Reader", name := "goTo", desc := "(I)V" } : MethodName) prog_6_method_10_code (2 : Nat) (Option.none : Option FieldType)) ∈ am_tbl := am_t3 (List.mem_of_getElem? (i := 98) rfl) rfl
theorem aw_3_99 : (Cond.methodLink "BrokenBread$Reader" (122 : Nat) ({ cls := "java/lang/Math", name := "max", desc := "(II)I" } : MethodName)) ∈ am_tbl := am_t3 (List.mem_of_getElem? (i := 99) rfl) rfl
theorem aw_3_100 : (Cond.methodLink "BrokenBread$Reader" (69 : Nat) ({ cls := "BrokenBread$Reader", name := "readClause", desc := "()Z" } : MethodName)) ∈ am_tbl := am_t3 (List.mem_of_getElem? (i := 100) rfl) rfl
theorem aw_3_102 : (Cond.instanceMethod ({ cls := "BrokenBread$Reader", name := "readClause", desc := "()Z" } : MethodName)) ∈ am_tbl := am_t3 (List.mem_of_getElem? (i := 102) rfl) rfl
theorem aw_3_103 : (Cond.code ({ cls := "BrokenBread$Reader", name := "readClause", desc := "()Z" } : MethodName) prog_6_method_13_code (3 : Nat) (Option.some FieldType.boolean)) ∈ am_tbl := am_t3 (List.mem_of_getElem? (i := 103) rfl) rfl
theorem aw_3_104 : (Cond.methodLink "BrokenBread$Reader" (125 : Nat) ({ cls := "BrokenBread$Reader", name := "sumsOf", desc := "(I)I" } : MethodName)) ∈ am_tbl := am_t3 (List.mem_of_getElem? (i := 104) rfl) rfl
theorem aw_3_106 : (Cond.instanceMethod ({ cls := "BrokenBread$Reader", name := "sumsOf", desc := "(I)I" } : MethodName)) ∈ am_tbl := am_t3 (List.mem_of_getElem? (i := 106) rfl) rfl
theorem aw_3_107 : (Cond.code ({ cls := "BrokenBread$Reader", name := "sumsOf", desc := "(I)I" } : MethodName) prog_6_method_14_code (2 : Nat) (Option.some FieldType.int)) ∈ am_tbl := am_t3 (List.mem_of_getElem? (i := 107) rfl) rfl
theorem aw_3_108 : (Cond.methodLink "BrokenBread$Reader" (77 : Nat) ({ cls := "BrokenBread$Reader", name := "failed", desc := "()Z" } : MethodName)) ∈ am_tbl := am_t3 (List.mem_of_getElem? (i := 108) rfl) rfl
theorem aw_3_110 : (Cond.instanceMethod ({ cls := "BrokenBread$Reader", name := "failed", desc := "()Z" } : MethodName)) ∈ am_tbl := am_t3 (List.mem_of_getElem? (i := 110) rfl) rfl
theorem aw_3_111 : (Cond.code ({ cls := "BrokenBread$Reader", name := "failed", desc := "()Z" } : MethodName) prog_6_method_11_code (1 : Nat) (Option.some FieldType.boolean)) ∈ am_tbl := am_t3 (List.mem_of_getElem? (i := 111) rfl) rfl
theorem aw_3_112 : (Cond.methodLink "BrokenBread$Reader" (128 : Nat) ({ cls := "BrokenBread$Script", name := "open", desc := "(I)V" } : MethodName)) ∈ am_tbl := am_t3 (List.mem_of_getElem? (i := 112) rfl) rfl
theorem aw_3_113 : (Cond.instanceMethod ({ cls := "BrokenBread$Script", name := "open", desc := "(I)V" } : MethodName)) ∈ am_tbl := am_t3 (List.mem_of_getElem? (i := 113) rfl) rfl
theorem aw_3_114 : (Cond.selects "BrokenBread$Script" ({ cls := "BrokenBread$Script", name := "open", desc := "(I)V" } : MethodName) ({ cls := "BrokenBread$Script", name := "open", desc := "(I)V" } : MethodName)) ∈ am_tbl := am_t3 (List.mem_of_getElem? (i := 114) rfl) rfl
theorem aw_3_115 : (Cond.code ({ cls := "BrokenBread$Script", name := "open", desc := "(I)V" } : MethodName) prog_7_method_4_code (4 : Nat) (Option.none : Option FieldType)) ∈ am_tbl := am_t3 (List.mem_of_getElem? (i := 115) rfl) rfl
theorem aw_3_116 : (Cond.methodLink "BrokenBread$Reader" (73 : Nat) ({ cls := "BrokenBread$Reader", name := "took", desc := "(I)Z" } : MethodName)) ∈ am_tbl := am_t3 (List.mem_of_getElem? (i := 116) rfl) rfl
theorem aw_3_118 : (Cond.instanceMethod ({ cls := "BrokenBread$Reader", name := "took", desc := "(I)Z" } : MethodName)) ∈ am_tbl := am_t3 (List.mem_of_getElem? (i := 118) rfl) rfl
theorem aw_3_119 : (Cond.code ({ cls := "BrokenBread$Reader", name := "took", desc := "(I)Z" } : MethodName) prog_6_method_12_code (2 : Nat) (Option.some FieldType.boolean)) ∈ am_tbl := am_t3 (List.mem_of_getElem? (i := 119) rfl) rfl
theorem aw_3_120 : (Cond.methodLink "BrokenBread$Reader" (132 : Nat) ({ cls := "BrokenBread$Script", name := "mark", desc := "(II)V" } : MethodName)) ∈ am_tbl := am_t3 (List.mem_of_getElem? (i := 120) rfl) rfl
theorem aw_3_121 : (Cond.instanceMethod ({ cls := "BrokenBread$Script", name := "mark", desc := "(II)V" } : MethodName)) ∈ am_tbl := am_t3 (List.mem_of_getElem? (i := 121) rfl) rfl
theorem aw_3_122 : (Cond.selects "BrokenBread$Script" ({ cls := "BrokenBread$Script", name := "mark", desc := "(II)V" } : MethodName) ({ cls := "BrokenBread$Script", name := "mark", desc := "(II)V" } : MethodName)) ∈ am_tbl := am_t3 (List.mem_of_getElem? (i := 122) rfl) rfl
theorem aw_3_123 : (Cond.code ({ cls := "BrokenBread$Script", name := "mark", desc := "(II)V" } : MethodName) prog_7_method_5_code (4 : Nat) (Option.none : Option FieldType)) ∈ am_tbl := am_t3 (List.mem_of_getElem? (i := 123) rfl) rfl
theorem aw_3_124 : (Cond.methodLink "BrokenBread$Reader" (135 : Nat) ({ cls := "BrokenBread$Reader", name := "readSum", desc := "(I)Z" } : MethodName)) ∈ am_tbl := am_t3 (List.mem_of_getElem? (i := 124) rfl) rfl
theorem aw_3_126 : (Cond.instanceMethod ({ cls := "BrokenBread$Reader", name := "readSum", desc := "(I)Z" } : MethodName)) ∈ am_tbl := am_t3 (List.mem_of_getElem? (i := 126) rfl) rfl
theorem aw_3_127 : (Cond.code ({ cls := "BrokenBread$Reader", name := "readSum", desc := "(I)Z" } : MethodName) prog_6_method_20_code (4 : Nat) (Option.some FieldType.boolean)) ∈ am_tbl := am_t3 (List.mem_of_getElem? (i := 127) rfl) rfl
theorem aw_3_128 : (Cond.methodLink "BrokenBread$Reader" (159 : Nat) ({ cls := "BrokenBread$Reader", name := "readTerm", desc := "(I)Z" } : MethodName)) ∈ am_tbl := am_t3 (List.mem_of_getElem? (i := 128) rfl) rfl
theorem aw_3_130 : (Cond.instanceMethod ({ cls := "BrokenBread$Reader", name := "readTerm", desc := "(I)Z" } : MethodName)) ∈ am_tbl := am_t3 (List.mem_of_getElem? (i := 130) rfl) rfl
theorem aw_3_131 : (Cond.code ({ cls := "BrokenBread$Reader", name := "readTerm", desc := "(I)Z" } : MethodName) prog_6_method_21_code (4 : Nat) (Option.some FieldType.boolean)) ∈ am_tbl := am_t3 (List.mem_of_getElem? (i := 131) rfl) rfl
theorem aw_3_132 : (Cond.methodLink "BrokenBread$Reader" (162 : Nat) ({ cls := "BrokenBread$Reader", name := "readPart", desc := "(I)Z" } : MethodName)) ∈ am_tbl := am_t3 (List.mem_of_getElem? (i := 132) rfl) rfl
theorem aw_3_134 : (Cond.instanceMethod ({ cls := "BrokenBread$Reader", name := "readPart", desc := "(I)Z" } : MethodName)) ∈ am_tbl := am_t3 (List.mem_of_getElem? (i := 134) rfl) rfl
theorem aw_3_135 : (Cond.code ({ cls := "BrokenBread$Reader", name := "readPart", desc := "(I)Z" } : MethodName) prog_6_method_22_code (2 : Nat) (Option.some FieldType.boolean)) ∈ am_tbl := am_t3 (List.mem_of_getElem? (i := 135) rfl) rfl
theorem aw_3_136 : (Cond.methodLink "BrokenBread$Reader" (165 : Nat) ({ cls := "BrokenBread$Reader", name := "readOrderWord", desc := "()Z" } : MethodName)) ∈ am_tbl := am_t3 (List.mem_of_getElem? (i := 136) rfl) rfl
theorem aw_3_138 : (Cond.instanceMethod ({ cls := "BrokenBread$Reader", name := "readOrderWord", desc := "()Z" } : MethodName)) ∈ am_tbl := am_t3 (List.mem_of_getElem? (i := 138) rfl) rfl
theorem aw_3_139 : (Cond.code ({ cls := "BrokenBread$Reader", name := "readOrderWord", desc := "()Z" } : MethodName) prog_6_method_24_code (2 : Nat) (Option.some FieldType.boolean)) ∈ am_tbl := am_t3 (List.mem_of_getElem? (i := 139) rfl) rfl
theorem aw_3_140 : (Cond.methodLink "BrokenBread$Reader" (138 : Nat) ({ cls := "BrokenBread$Script", name := "put", desc := "(II)V" } : MethodName)) ∈ am_tbl := am_t3 (List.mem_of_getElem? (i := 140) rfl) rfl
theorem aw_3_141 : (Cond.instanceMethod ({ cls := "BrokenBread$Script", name := "put", desc := "(II)V" } : MethodName)) ∈ am_tbl := am_t3 (List.mem_of_getElem? (i := 141) rfl) rfl
theorem aw_3_142 : (Cond.selects "BrokenBread$Script" ({ cls := "BrokenBread$Script", name := "put", desc := "(II)V" } : MethodName) ({ cls := "BrokenBread$Script", name := "put", desc := "(II)V" } : MethodName)) ∈ am_tbl := am_t3 (List.mem_of_getElem? (i := 142) rfl) rfl
theorem aw_3_143 : (Cond.code ({ cls := "BrokenBread$Script", name := "put", desc := "(II)V" } : MethodName) prog_7_method_6_code (3 : Nat) (Option.none : Option FieldType)) ∈ am_tbl := am_t3 (List.mem_of_getElem? (i := 143) rfl) rfl
theorem aw_3_144 : (Cond.methodLink "BrokenBread$Reader" (168 : Nat) ({ cls := "BrokenBread$Reader", name := "readLawWord", desc := "()Z" } : MethodName)) ∈ am_tbl := am_t3 (List.mem_of_getElem? (i := 144) rfl) rfl
theorem aw_3_146 : (Cond.instanceMethod ({ cls := "BrokenBread$Reader", name := "readLawWord", desc := "()Z" } : MethodName)) ∈ am_tbl := am_t3 (List.mem_of_getElem? (i := 146) rfl) rfl
theorem aw_3_147 : (Cond.code ({ cls := "BrokenBread$Reader", name := "readLawWord", desc := "()Z" } : MethodName) prog_6_method_23_code (1 : Nat) (Option.some FieldType.boolean)) ∈ am_tbl := am_t3 (List.mem_of_getElem? (i := 147) rfl) rfl
theorem aw_3_148 : (Cond.methodLink "BrokenBread$Reader" (141 : Nat) ({ cls := "BrokenBread$Reader", name := "readTimes", desc := "()Z" } : MethodName)) ∈ am_tbl := am_t3 (List.mem_of_getElem? (i := 148) rfl) rfl
theorem aw_3_150 : (Cond.instanceMethod ({ cls := "BrokenBread$Reader", name := "readTimes", desc := "()Z" } : MethodName)) ∈ am_tbl := am_t3 (List.mem_of_getElem? (i := 150) rfl) rfl
theorem aw_3_151 : (Cond.code ({ cls := "BrokenBread$Reader", name := "readTimes", desc := "()Z" } : MethodName) prog_6_method_15_code (1 : Nat) (Option.some FieldType.boolean)) ∈ am_tbl := am_t3 (List.mem_of_getElem? (i := 151) rfl) rfl
theorem aw_3_152 : (Cond.methodLink "BrokenBread$Reader" (144 : Nat) ({ cls := "BrokenBread$Reader", name := "readTest", desc := "(I)Z" } : MethodName)) ∈ am_tbl := am_t3 (List.mem_of_getElem? (i := 152) rfl) rfl
theorem aw_3_154 : (Cond.instanceMethod ({ cls := "BrokenBread$Reader", name := "readTest", desc := "(I)Z" } : MethodName)) ∈ am_tbl := am_t3 (List.mem_of_getElem? (i := 154) rfl) rfl
theorem aw_3_155 : (Cond.code ({ cls := "BrokenBread$Reader", name := "readTest", desc := "(I)Z" } : MethodName) prog_6_method_16_code (4 : Nat) (Option.some FieldType.boolean)) ∈ am_tbl := am_t3 (List.mem_of_getElem? (i := 155) rfl) rfl
theorem aw_3_156 : (Cond.methodLink "BrokenBread$Reader" (147 : Nat) ({ cls := "BrokenBread$Reader", name := "readBoth", desc := "(I)Z" } : MethodName)) ∈ am_tbl := am_t3 (List.mem_of_getElem? (i := 156) rfl) rfl
theorem aw_3_158 : (Cond.instanceMethod ({ cls := "BrokenBread$Reader", name := "readBoth", desc := "(I)Z" } : MethodName)) ∈ am_tbl := am_t3 (List.mem_of_getElem? (i := 158) rfl) rfl
theorem aw_3_159 : (Cond.code ({ cls := "BrokenBread$Reader", name := "readBoth", desc := "(I)Z" } : MethodName) prog_6_method_17_code (4 : Nat) (Option.some FieldType.boolean)) ∈ am_tbl := am_t3 (List.mem_of_getElem? (i := 159) rfl) rfl
theorem aw_3_160 : (Cond.methodLink "BrokenBread$Reader" (153 : Nat) ({ cls := "BrokenBread$Reader", name := "readPlain", desc := "(I)Z" } : MethodName)) ∈ am_tbl := am_t3 (List.mem_of_getElem? (i := 160) rfl) rfl
theorem aw_3_162 : (Cond.instanceMethod ({ cls := "BrokenBread$Reader", name := "readPlain", desc := "(I)Z" } : MethodName)) ∈ am_tbl := am_t3 (List.mem_of_getElem? (i := 162) rfl) rfl
theorem aw_3_163 : (Cond.code ({ cls := "BrokenBread$Reader", name := "readPlain", desc := "(I)Z" } : MethodName) prog_6_method_18_code (4 : Nat) (Option.some FieldType.boolean)) ∈ am_tbl := am_t3 (List.mem_of_getElem? (i := 163) rfl) rfl
theorem aw_3_164 : (Cond.methodLink "BrokenBread$Reader" (156 : Nat) ({ cls := "BrokenBread$Reader", name := "readCompared", desc := "(I)Z" } : MethodName)) ∈ am_tbl := am_t3 (List.mem_of_getElem? (i := 164) rfl) rfl
theorem aw_3_166 : (Cond.instanceMethod ({ cls := "BrokenBread$Reader", name := "readCompared", desc := "(I)Z" } : MethodName)) ∈ am_tbl := am_t3 (List.mem_of_getElem? (i := 166) rfl) rfl
theorem aw_3_167 : (Cond.code ({ cls := "BrokenBread$Reader", name := "readCompared", desc := "(I)Z" } : MethodName) prog_6_method_19_code (3 : Nat) (Option.some FieldType.boolean)) ∈ am_tbl := am_t3 (List.mem_of_getElem? (i := 167) rfl) rfl
theorem aw_3_168 : (Cond.methodLink "BrokenBread$Reader" (150 : Nat) ({ cls := "BrokenBread$Script", name := "skipToHere", desc := "(II)V" } : MethodName)) ∈ am_tbl := am_t3 (List.mem_of_getElem? (i := 168) rfl) rfl
theorem aw_3_169 : (Cond.instanceMethod ({ cls := "BrokenBread$Script", name := "skipToHere", desc := "(II)V" } : MethodName)) ∈ am_tbl := am_t3 (List.mem_of_getElem? (i := 169) rfl) rfl
theorem aw_3_170 : (Cond.selects "BrokenBread$Script" ({ cls := "BrokenBread$Script", name := "skipToHere", desc := "(II)V" } : MethodName) ({ cls := "BrokenBread$Script", name := "skipToHere", desc := "(II)V" } : MethodName)) ∈ am_tbl := am_t3 (List.mem_of_getElem? (i := 170) rfl) rfl
theorem aw_3_171 : (Cond.code ({ cls := "BrokenBread$Script", name := "skipToHere", desc := "(II)V" } : MethodName) prog_7_method_7_code (3 : Nat) (Option.none : Option FieldType)) ∈ am_tbl := am_t3 (List.mem_of_getElem? (i := 171) rfl) rfl
theorem aw_3_172 : (Cond.methodLink "BrokenBread" (186 : Nat) ({ cls := "BrokenBread$Script", name := "trimmed", desc := "()LBrokenBread$Script;" } : MethodName)) ∈ am_tbl := am_t3 (List.mem_of_getElem? (i := 172) rfl) rfl
theorem aw_3_173 : (Cond.instanceMethod ({ cls := "BrokenBread$Script", name := "trimmed", desc := "()LBrokenBread$Script;" } : MethodName)) ∈ am_tbl := am_t3 (List.mem_of_getElem? (i := 173) rfl) rfl
theorem aw_3_174 : (Cond.selects "BrokenBread$Script" ({ cls := "BrokenBread$Script", name := "trimmed", desc := "()LBrokenBread$Script;" } : MethodName) ({ cls := "BrokenBread$Script", name := "trimmed", desc := "()LBrokenBread$Script;" } : MethodName)) ∈ am_tbl := am_t3 (List.mem_of_getElem? (i := 174) rfl) rfl
theorem aw_3_175 : (Cond.code ({ cls := "BrokenBread$Script", name := "trimmed", desc := "()LBrokenBread$Script;" } : MethodName) prog_7_method_3_code (2 : Nat) (Option.some (FieldType.object "BrokenBread$Script"))) ∈ am_tbl := am_t3 (List.mem_of_getElem? (i := 175) rfl) rfl
theorem aw_3_176 : (Cond.classLink "BrokenBread$Script" (10 : Nat) "BrokenBread$Script") ∈ am_tbl := am_t3 (List.mem_of_getElem? (i := 176) rfl) rfl
theorem aw_3_177 : (Cond.methodLink "BrokenBread$Script" (34 : Nat) ({ cls := "BrokenBread$Script", name := "<init>", desc := "(II)V" } : MethodName)) ∈ am_tbl := am_t3 (List.mem_of_getElem? (i := 177) rfl) rfl
theorem aw_3_178 : (Cond.methodLink "BrokenBread$Script" (37 : Nat) ({ cls := "java/lang/System", name := "arraycopy", desc := "(Ljava/lang/Object;ILjava/lang/Object;II)V" } : MethodName)) ∈ am_tbl := am_t3 (List.mem_of_getElem? (i := 178) rfl) rfl
theorem aw_3_179 : (Cond.static ({ cls := "java/lang/System", name := "arraycopy", desc := "(Ljava/lang/Object;ILjava/lang/Object;II)V" } : MethodName)) ∈ am_tbl := am_t3 (List.mem_of_getElem? (i := 179) rfl) rfl
theorem aw_3_180 : (Cond.native ({ cls := "java/lang/System", name := "arraycopy", desc := "(Ljava/lang/Object;ILjava/lang/Object;II)V" } : MethodName)) ∈ am_tbl := am_t3 (List.mem_of_getElem? (i := 180) rfl) rfl
theorem aw_3_182 : (Cond.methodLink "BrokenBreadLaw" (54 : Nat) ({ cls := "BrokenBread", name := "orders", desc := "()I" } : MethodName)) ∈ am_tbl := am_t3 (List.mem_of_getElem? (i := 182) rfl) rfl
theorem aw_3_183 : (Cond.instanceMethod ({ cls := "BrokenBread", name := "orders", desc := "()I" } : MethodName)) ∈ am_tbl := am_t3 (List.mem_of_getElem? (i := 183) rfl) rfl
theorem aw_3_184 : (Cond.selects "BrokenBread" ({ cls := "BrokenBread", name := "orders", desc := "()I" } : MethodName) ({ cls := "BrokenBread", name := "orders", desc := "()I" } : MethodName)) ∈ am_tbl := am_t3 (List.mem_of_getElem? (i := 184) rfl) rfl
theorem aw_3_185 : (Cond.code ({ cls := "BrokenBread", name := "orders", desc := "()I" } : MethodName) prog_1_method_11_code (2 : Nat) (Option.some FieldType.int)) ∈ am_tbl := am_t3 (List.mem_of_getElem? (i := 185) rfl) rfl
theorem aw_3_186 : (Cond.methodLink "BrokenBread" (192 : Nat) ({ cls := "BrokenBread$Upland", name := "become", desc := "(LBrokenBread$Upland;)V" } : MethodName)) ∈ am_tbl := am_t3 (List.mem_of_getElem? (i := 186) rfl) rfl
theorem aw_3_187 : (Cond.instanceMethod ({ cls := "BrokenBread$Upland", name := "become", desc := "(LBrokenBread$Upland;)V" } : MethodName)) ∈ am_tbl := am_t3 (List.mem_of_getElem? (i := 187) rfl) rfl
theorem aw_3_188 : (Cond.selects "BrokenBread$Upland" ({ cls := "BrokenBread$Upland", name := "become", desc := "(LBrokenBread$Upland;)V" } : MethodName) ({ cls := "BrokenBread$Upland", name := "become", desc := "(LBrokenBread$Upland;)V" } : MethodName)) ∈ am_tbl := am_t3 (List.mem_of_getElem? (i := 188) rfl) rfl
theorem aw_3_189 : (Cond.code ({ cls := "BrokenBread$Upland", name := "become", desc := "(LBrokenBread$Upland;)V" } : MethodName) prog_10_method_2_code (3 : Nat) (Option.none : Option FieldType)) ∈ am_tbl := am_t3 (List.mem_of_getElem? (i := 189) rfl) rfl
theorem aw_3_190 : (Cond.methodLink "BrokenBread$Upland" (46 : Nat) ({ cls := "java/lang/System", name := "arraycopy", desc := "(Ljava/lang/Object;ILjava/lang/Object;II)V" } : MethodName)) ∈ am_tbl := am_t3 (List.mem_of_getElem? (i := 190) rfl) rfl
theorem aw_3_191 : (Cond.methodLink "BrokenBread" (196 : Nat) ({ cls := "BrokenBread$Past", name := "become", desc := "(LBrokenBread$Past;)V" } : MethodName)) ∈ am_tbl := am_t3 (List.mem_of_getElem? (i := 191) rfl) rfl
theorem aw_3_192 : (Cond.instanceMethod ({ cls := "BrokenBread$Past", name := "become", desc := "(LBrokenBread$Past;)V" } : MethodName)) ∈ am_tbl := am_t3 (List.mem_of_getElem? (i := 192) rfl) rfl
theorem aw_3_193 : (Cond.selects "BrokenBread$Past" ({ cls := "BrokenBread$Past", name := "become", desc := "(LBrokenBread$Past;)V" } : MethodName) ({ cls := "BrokenBread$Past", name := "become", desc := "(LBrokenBread$Past;)V" } : MethodName)) ∈ am_tbl := am_t3 (List.mem_of_getElem? (i := 193) rfl) rfl
theorem aw_3_194 : (Cond.code ({ cls := "BrokenBread$Past", name := "become", desc := "(LBrokenBread$Past;)V" } : MethodName) prog_5_method_3_code (2 : Nat) (Option.none : Option FieldType)) ∈ am_tbl := am_t3 (List.mem_of_getElem? (i := 194) rfl) rfl
theorem aw_3_195 : (Cond.methodLink "BrokenBread$Past" (19 : Nat) ({ cls := "java/lang/System", name := "arraycopy", desc := "(Ljava/lang/Object;ILjava/lang/Object;II)V" } : MethodName)) ∈ am_tbl := am_t3 (List.mem_of_getElem? (i := 195) rfl) rfl
theorem aw_3_196 : (Cond.methodLink "BrokenBread" (202 : Nat) ({ cls := "BrokenBread", name := "fillOrderWords", desc := "(I)V" } : MethodName)) ∈ am_tbl := am_t3 (List.mem_of_getElem? (i := 196) rfl) rfl
theorem aw_3_198 : (Cond.instanceMethod ({ cls := "BrokenBread", name := "fillOrderWords", desc := "(I)V" } : MethodName)) ∈ am_tbl := am_t3 (List.mem_of_getElem? (i := 198) rfl) rfl
theorem aw_3_199 : (Cond.code ({ cls := "BrokenBread", name := "fillOrderWords", desc := "(I)V" } : MethodName) prog_1_method_54_code (4 : Nat) (Option.none : Option FieldType)) ∈ am_tbl := am_t3 (List.mem_of_getElem? (i := 199) rfl) rfl
theorem aw_3_200 : (Cond.methodLink "BrokenBread" (347 : Nat) ({ cls := "BrokenBread$Upland", name := "harmCount", desc := "()I" } : MethodName)) ∈ am_tbl := am_t3 (List.mem_of_getElem? (i := 200) rfl) rfl
theorem aw_3_201 : (Cond.instanceMethod ({ cls := "BrokenBread$Upland", name := "harmCount", desc := "()I" } : MethodName)) ∈ am_tbl := am_t3 (List.mem_of_getElem? (i := 201) rfl) rfl
theorem aw_3_202 : (Cond.selects "BrokenBread$Upland" ({ cls := "BrokenBread$Upland", name := "harmCount", desc := "()I" } : MethodName) ({ cls := "BrokenBread$Upland", name := "harmCount", desc := "()I" } : MethodName)) ∈ am_tbl := am_t3 (List.mem_of_getElem? (i := 202) rfl) rfl
theorem aw_3_203 : (Cond.code ({ cls := "BrokenBread$Upland", name := "harmCount", desc := "()I" } : MethodName) prog_10_method_14_code (3 : Nat) (Option.some FieldType.int)) ∈ am_tbl := am_t3 (List.mem_of_getElem? (i := 203) rfl) rfl
theorem aw_3_204 : (Cond.methodLink "BrokenBread$Upland" (64 : Nat) ({ cls := "BrokenBread$Upland", name := "harmsBy", desc := "(I)I" } : MethodName)) ∈ am_tbl := am_t3 (List.mem_of_getElem? (i := 204) rfl) rfl
theorem aw_3_205 : (Cond.methodLink "BrokenBread" (344 : Nat) ({ cls := "BrokenBread$Upland", name := "starving", desc := "()I" } : MethodName)) ∈ am_tbl := am_t3 (List.mem_of_getElem? (i := 205) rfl) rfl
theorem aw_3_206 : (Cond.instanceMethod ({ cls := "BrokenBread$Upland", name := "starving", desc := "()I" } : MethodName)) ∈ am_tbl := am_t3 (List.mem_of_getElem? (i := 206) rfl) rfl
theorem aw_3_207 : (Cond.selects "BrokenBread$Upland" ({ cls := "BrokenBread$Upland", name := "starving", desc := "()I" } : MethodName) ({ cls := "BrokenBread$Upland", name := "starving", desc := "()I" } : MethodName)) ∈ am_tbl := am_t3 (List.mem_of_getElem? (i := 207) rfl) rfl
theorem aw_3_208 : (Cond.code ({ cls := "BrokenBread$Upland", name := "starving", desc := "()I" } : MethodName) prog_10_method_16_code (1 : Nat) (Option.some FieldType.int)) ∈ am_tbl := am_t3 (List.mem_of_getElem? (i := 208) rfl) rfl
theorem aw_3_209 : (Cond.methodLink "BrokenBread$Upland" (68 : Nat) ({ cls := "BrokenBread$Upland", name := "fedBelow", desc := "(I)I" } : MethodName)) ∈ am_tbl := am_t3 (List.mem_of_getElem? (i := 209) rfl) rfl
theorem aw_3_210 : (Cond.instanceMethod ({ cls := "BrokenBread$Upland", name := "fedBelow", desc := "(I)I" } : MethodName)) ∈ am_tbl := am_t3 (List.mem_of_getElem? (i := 210) rfl) rfl
theorem aw_3_211 : (Cond.selects "BrokenBread$Upland" ({ cls := "BrokenBread$Upland", name := "fedBelow", desc := "(I)I" } : MethodName) ({ cls := "BrokenBread$Upland", name := "fedBelow", desc := "(I)I" } : MethodName)) ∈ am_tbl := am_t3 (List.mem_of_getElem? (i := 211) rfl) rfl
theorem aw_3_212 : (Cond.code ({ cls := "BrokenBread$Upland", name := "fedBelow", desc := "(I)I" } : MethodName) prog_10_method_15_code (4 : Nat) (Option.some FieldType.int)) ∈ am_tbl := am_t3 (List.mem_of_getElem? (i := 212) rfl) rfl
theorem aw_3_213 : (Cond.methodLink "BrokenBread$Upland" (71 : Nat) ({ cls := "java/lang/Integer", name := "bitCount", desc := "(I)I" } : MethodName)) ∈ am_tbl := am_t3 (List.mem_of_getElem? (i := 213) rfl) rfl
theorem aw_3_214 : (Cond.static ({ cls := "java/lang/Integer", name := "bitCount", desc := "(I)I" } : MethodName)) ∈ am_tbl := am_t3 (List.mem_of_getElem? (i := 214) rfl) rfl
theorem aw_3_215 : (Cond.code ({ cls := "java/lang/Integer", name := "bitCount", desc := "(I)I" } : MethodName) prog_13_method_49_code (1 : Nat) (Option.some FieldType.int)) ∈ am_tbl := am_t3 (List.mem_of_getElem? (i := 215) rfl) rfl
theorem aw_3_216 : (Cond.constant "java/lang/Integer" (265 : Nat) (1431655765 : Int32)) ∈ am_tbl := am_t3 (List.mem_of_getElem? (i := 216) rfl) rfl
theorem aw_3_217 : (Cond.constant "java/lang/Integer" (266 : Nat) (858993459 : Int32)) ∈ am_tbl := am_t3 (List.mem_of_getElem? (i := 217) rfl) rfl
theorem aw_3_218 : (Cond.constant "java/lang/Integer" (267 : Nat) (252645135 : Int32)) ∈ am_tbl := am_t3 (List.mem_of_getElem? (i := 218) rfl) rfl
theorem aw_3_219 : (Cond.methodLink "BrokenBread" (208 : Nat) ({ cls := "BrokenBread", name := "ranClause", desc := "(LBrokenBread$Script;I)Z" } : MethodName)) ∈ am_tbl := am_t3 (List.mem_of_getElem? (i := 219) rfl) rfl
theorem aw_3_221 : (Cond.instanceMethod ({ cls := "BrokenBread", name := "ranClause", desc := "(LBrokenBread$Script;I)Z" } : MethodName)) ∈ am_tbl := am_t3 (List.mem_of_getElem? (i := 221) rfl) rfl
theorem aw_3_222 : (Cond.code ({ cls := "BrokenBread", name := "ranClause", desc := "(LBrokenBread$Script;I)Z" } : MethodName) prog_1_method_53_code (9 : Nat) (Option.some FieldType.boolean)) ∈ am_tbl := am_t3 (List.mem_of_getElem? (i := 222) rfl) rfl
theorem aw_3_223 : (Cond.methodLink "BrokenBread" (376 : Nat) ({ cls := "BrokenBread$Script", name := "headOf", desc := "(II)I" } : MethodName)) ∈ am_tbl := am_t3 (List.mem_of_getElem? (i := 223) rfl) rfl
theorem aw_3_224 : (Cond.methodLink "BrokenBread" (379 : Nat) ({ cls := "BrokenBread$Judge", name := "tell", desc := "(LBrokenBread$Script;I[I)I" } : MethodName)) ∈ am_tbl := am_t3 (List.mem_of_getElem? (i := 224) rfl) rfl
theorem aw_3_225 : (Cond.constant "BrokenBread" (383 : Nat) (2000000000 : Int32)) ∈ am_tbl := am_t3 (List.mem_of_getElem? (i := 225) rfl) rfl
theorem aw_3_226 : (Cond.methodLink "BrokenBread" (221 : Nat) ({ cls := "BrokenBread", name := "doHarm", desc := "(III)I" } : MethodName)) ∈ am_tbl := am_t3 (List.mem_of_getElem? (i := 226) rfl) rfl
theorem aw_3_228 : (Cond.instanceMethod ({ cls := "BrokenBread", name := "doHarm", desc := "(III)I" } : MethodName)) ∈ am_tbl := am_t3 (List.mem_of_getElem? (i := 228) rfl) rfl
theorem aw_3_229 : (Cond.code ({ cls := "BrokenBread", name := "doHarm", desc := "(III)I" } : MethodName) prog_1_method_49_code (5 : Nat) (Option.some FieldType.int)) ∈ am_tbl := am_t3 (List.mem_of_getElem? (i := 229) rfl) rfl
theorem aw_3_230 : (Cond.methodLink "BrokenBread" (363 : Nat) ({ cls := "BrokenBread$Past", name := "keep", desc := "(IIILBrokenBread$Upland;)V" } : MethodName)) ∈ am_tbl := am_t3 (List.mem_of_getElem? (i := 230) rfl) rfl
theorem aw_3_231 : (Cond.instanceMethod ({ cls := "BrokenBread$Past", name := "keep", desc := "(IIILBrokenBread$Upland;)V" } : MethodName)) ∈ am_tbl := am_t3 (List.mem_of_getElem? (i := 231) rfl) rfl
theorem aw_3_232 : (Cond.selects "BrokenBread$Past" ({ cls := "BrokenBread$Past", name := "keep", desc := "(IIILBrokenBread$Upland;)V" } : MethodName) ({ cls := "BrokenBread$Past", name := "keep", desc := "(IIILBrokenBread$Upland;)V" } : MethodName)) ∈ am_tbl := am_t3 (List.mem_of_getElem? (i := 232) rfl) rfl
theorem aw_3_233 : (Cond.code ({ cls := "BrokenBread$Past", name := "keep", desc := "(IIILBrokenBread$Upland;)V" } : MethodName) prog_5_method_4_code (6 : Nat) (Option.none : Option FieldType)) ∈ am_tbl := am_t3 (List.mem_of_getElem? (i := 233) rfl) rfl
theorem aw_3_234 : (Cond.methodLink "BrokenBread$Past" (25 : Nat) ({ cls := "BrokenBread$Past", name := "forgetOldest", desc := "()V" } : MethodName)) ∈ am_tbl := am_t3 (List.mem_of_getElem? (i := 234) rfl) rfl
theorem aw_3_236 : (Cond.instanceMethod ({ cls := "BrokenBread$Past", name := "forgetOldest", desc := "()V" } : MethodName)) ∈ am_tbl := am_t3 (List.mem_of_getElem? (i := 236) rfl) rfl
theorem aw_3_237 : (Cond.code ({ cls := "BrokenBread$Past", name := "forgetOldest", desc := "()V" } : MethodName) prog_5_method_5_code (2 : Nat) (Option.none : Option FieldType)) ∈ am_tbl := am_t3 (List.mem_of_getElem? (i := 237) rfl) rfl
theorem aw_3_238 : (Cond.methodLink "BrokenBread$Past" (28 : Nat) ({ cls := "BrokenBread$Upland", name := "weightOf", desc := "(II)I" } : MethodName)) ∈ am_tbl := am_t3 (List.mem_of_getElem? (i := 238) rfl) rfl
theorem aw_3_239 : (Cond.methodLink "BrokenBread$Past" (34 : Nat) ({ cls := "BrokenBread$Upland", name := "sinceOf", desc := "(II)I" } : MethodName)) ∈ am_tbl := am_t3 (List.mem_of_getElem? (i := 239) rfl) rfl
theorem aw_4_0 : (Cond.methodLink "BrokenBread" (224 : Nat) ({ cls := "BrokenBread", name := "doFeast", desc := "(I)I" } : MethodName)) ∈ am_tbl := am_t4 (List.mem_of_getElem? (i := 0) rfl) rfl
theorem aw_4_2 : (Cond.instanceMethod ({ cls := "BrokenBread", name := "doFeast", desc := "(I)I" } : MethodName)) ∈ am_tbl := am_t4 (List.mem_of_getElem? (i := 2) rfl) rfl
theorem aw_4_3 : (Cond.code ({ cls := "BrokenBread", name := "doFeast", desc := "(I)I" } : MethodName) prog_1_method_50_code (2 : Nat) (Option.some FieldType.int)) ∈ am_tbl := am_t4 (List.mem_of_getElem? (i := 3) rfl) rfl
theorem aw_4_4 : (Cond.methodLink "BrokenBread" (264 : Nat) ({ cls := "BrokenBread$Upland", name := "hasSet", desc := "(I)Z" } : MethodName)) ∈ am_tbl := am_t4 (List.mem_of_getElem? (i := 4) rfl) rfl
theorem aw_4_5 : (Cond.instanceMethod ({ cls := "BrokenBread$Upland", name := "hasSet", desc := "(I)Z" } : MethodName)) ∈ am_tbl := am_t4 (List.mem_of_getElem? (i := 5) rfl) rfl
theorem aw_4_6 : (Cond.selects "BrokenBread$Upland" ({ cls := "BrokenBread$Upland", name := "hasSet", desc := "(I)Z" } : MethodName) ({ cls := "BrokenBread$Upland", name := "hasSet", desc := "(I)Z" } : MethodName)) ∈ am_tbl := am_t4 (List.mem_of_getElem? (i := 6) rfl) rfl
theorem aw_4_7 : (Cond.code ({ cls := "BrokenBread$Upland", name := "hasSet", desc := "(I)Z" } : MethodName) prog_10_method_5_code (2 : Nat) (Option.some FieldType.boolean)) ∈ am_tbl := am_t4 (List.mem_of_getElem? (i := 7) rfl) rfl
theorem aw_4_8 : (Cond.methodLink "BrokenBread" (367 : Nat) ({ cls := "BrokenBread$Judge", name := "isTable", desc := "(I)Z" } : MethodName)) ∈ am_tbl := am_t4 (List.mem_of_getElem? (i := 8) rfl) rfl
theorem aw_4_9 : (Cond.instanceMethod ({ cls := "BrokenBread$Judge", name := "isTable", desc := "(I)Z" } : MethodName)) ∈ am_tbl := am_t4 (List.mem_of_getElem? (i := 9) rfl) rfl
theorem aw_4_10 : (Cond.selects "BrokenBread$Judge" ({ cls := "BrokenBread$Judge", name := "isTable", desc := "(I)Z" } : MethodName) ({ cls := "BrokenBread$Judge", name := "isTable", desc := "(I)Z" } : MethodName)) ∈ am_tbl := am_t4 (List.mem_of_getElem? (i := 10) rfl) rfl
theorem aw_4_11 : (Cond.code ({ cls := "BrokenBread$Judge", name := "isTable", desc := "(I)Z" } : MethodName) prog_3_method_8_code (4 : Nat) (Option.some FieldType.boolean)) ∈ am_tbl := am_t4 (List.mem_of_getElem? (i := 11) rfl) rfl
theorem aw_4_12 : (Cond.methodLink "BrokenBread$Judge" (46 : Nat) ({ cls := "java/lang/Integer", name := "bitCount", desc := "(I)I" } : MethodName)) ∈ am_tbl := am_t4 (List.mem_of_getElem? (i := 12) rfl) rfl
theorem aw_4_13 : (Cond.methodLink "BrokenBread" (370 : Nat) ({ cls := "BrokenBread$Judge", name := "feedTable", desc := "(I)V" } : MethodName)) ∈ am_tbl := am_t4 (List.mem_of_getElem? (i := 13) rfl) rfl
theorem aw_4_14 : (Cond.instanceMethod ({ cls := "BrokenBread$Judge", name := "feedTable", desc := "(I)V" } : MethodName)) ∈ am_tbl := am_t4 (List.mem_of_getElem? (i := 14) rfl) rfl
theorem aw_4_15 : (Cond.selects "BrokenBread$Judge" ({ cls := "BrokenBread$Judge", name := "feedTable", desc := "(I)V" } : MethodName) ({ cls := "BrokenBread$Judge", name := "feedTable", desc := "(I)V" } : MethodName)) ∈ am_tbl := am_t4 (List.mem_of_getElem? (i := 15) rfl) rfl
theorem aw_4_16 : (Cond.code ({ cls := "BrokenBread$Judge", name := "feedTable", desc := "(I)V" } : MethodName) prog_3_method_11_code (4 : Nat) (Option.none : Option FieldType)) ∈ am_tbl := am_t4 (List.mem_of_getElem? (i := 16) rfl) rfl
theorem aw_4_17 : (Cond.methodLink "BrokenBread" (267 : Nat) ({ cls := "java/lang/Integer", name := "bitCount", desc := "(I)I" } : MethodName)) ∈ am_tbl := am_t4 (List.mem_of_getElem? (i := 17) rfl) rfl
theorem aw_4_18 : (Cond.methodLink "BrokenBread" (227 : Nat) ({ cls := "BrokenBread", name := "doPardon", desc := "(II)I" } : MethodName)) ∈ am_tbl := am_t4 (List.mem_of_getElem? (i := 18) rfl) rfl
theorem aw_4_20 : (Cond.instanceMethod ({ cls := "BrokenBread", name := "doPardon", desc := "(II)I" } : MethodName)) ∈ am_tbl := am_t4 (List.mem_of_getElem? (i := 20) rfl) rfl
theorem aw_4_21 : (Cond.code ({ cls := "BrokenBread", name := "doPardon", desc := "(II)I" } : MethodName) prog_1_method_51_code (4 : Nat) (Option.some FieldType.int)) ∈ am_tbl := am_t4 (List.mem_of_getElem? (i := 21) rfl) rfl
theorem aw_4_22 : (Cond.methodLink "BrokenBread" (230 : Nat) ({ cls := "BrokenBread", name := "doPass", desc := "()I" } : MethodName)) ∈ am_tbl := am_t4 (List.mem_of_getElem? (i := 22) rfl) rfl
theorem aw_4_24 : (Cond.instanceMethod ({ cls := "BrokenBread", name := "doPass", desc := "()I" } : MethodName)) ∈ am_tbl := am_t4 (List.mem_of_getElem? (i := 24) rfl) rfl
theorem aw_4_25 : (Cond.code ({ cls := "BrokenBread", name := "doPass", desc := "()I" } : MethodName) prog_1_method_52_code (1 : Nat) (Option.some FieldType.int)) ∈ am_tbl := am_t4 (List.mem_of_getElem? (i := 25) rfl) rfl
theorem aw_4_26 : (Cond.methodLink "BrokenBread" (373 : Nat) ({ cls := "BrokenBread$Judge", name := "passDay", desc := "()V" } : MethodName)) ∈ am_tbl := am_t4 (List.mem_of_getElem? (i := 26) rfl) rfl
theorem aw_4_27 : (Cond.instanceMethod ({ cls := "BrokenBread$Judge", name := "passDay", desc := "()V" } : MethodName)) ∈ am_tbl := am_t4 (List.mem_of_getElem? (i := 27) rfl) rfl
theorem aw_4_28 : (Cond.selects "BrokenBread$Judge" ({ cls := "BrokenBread$Judge", name := "passDay", desc := "()V" } : MethodName) ({ cls := "BrokenBread$Judge", name := "passDay", desc := "()V" } : MethodName)) ∈ am_tbl := am_t4 (List.mem_of_getElem? (i := 28) rfl) rfl
theorem aw_4_29 : (Cond.code ({ cls := "BrokenBread$Judge", name := "passDay", desc := "()V" } : MethodName) prog_3_method_12_code (2 : Nat) (Option.none : Option FieldType)) ∈ am_tbl := am_t4 (List.mem_of_getElem? (i := 29) rfl) rfl
theorem aw_4_30 : (Cond.methodLink "BrokenBread$Judge" (70 : Nat) ({ cls := "BrokenBread$Judge", name := "hungerOf", desc := "(III)I" } : MethodName)) ∈ am_tbl := am_t4 (List.mem_of_getElem? (i := 30) rfl) rfl
theorem aw_4_31 : (Cond.methodLink "BrokenBreadLaw" (58 : Nat) ({ cls := "BrokenBread", name := "fault", desc := "()I" } : MethodName)) ∈ am_tbl := am_t4 (List.mem_of_getElem? (i := 31) rfl) rfl
theorem aw_4_32 : (Cond.instanceMethod ({ cls := "BrokenBread", name := "fault", desc := "()I" } : MethodName)) ∈ am_tbl := am_t4 (List.mem_of_getElem? (i := 32) rfl) rfl
theorem aw_4_33 : (Cond.selects "BrokenBread" ({ cls := "BrokenBread", name := "fault", desc := "()I" } : MethodName) ({ cls := "BrokenBread", name := "fault", desc := "()I" } : MethodName)) ∈ am_tbl := am_t4 (List.mem_of_getElem? (i := 33) rfl) rfl
theorem aw_4_34 : (Cond.code ({ cls := "BrokenBread", name := "fault", desc := "()I" } : MethodName) prog_1_method_12_code (1 : Nat) (Option.some FieldType.int)) ∈ am_tbl := am_t4 (List.mem_of_getElem? (i := 34) rfl) rfl
theorem aw_4_35 : (Cond.methodLink "BrokenBreadLaw" (62 : Nat) ({ cls := "BrokenBread", name := "stopped", desc := "()I" } : MethodName)) ∈ am_tbl := am_t4 (List.mem_of_getElem? (i := 35) rfl) rfl
theorem aw_4_36 : (Cond.instanceMethod ({ cls := "BrokenBread", name := "stopped", desc := "()I" } : MethodName)) ∈ am_tbl := am_t4 (List.mem_of_getElem? (i := 36) rfl) rfl
theorem aw_4_37 : (Cond.selects "BrokenBread" ({ cls := "BrokenBread", name := "stopped", desc := "()I" } : MethodName) ({ cls := "BrokenBread", name := "stopped", desc := "()I" } : MethodName)) ∈ am_tbl := am_t4 (List.mem_of_getElem? (i := 37) rfl) rfl
theorem aw_4_38 : (Cond.code ({ cls := "BrokenBread", name := "stopped", desc := "()I" } : MethodName) prog_1_method_13_code (1 : Nat) (Option.some FieldType.int)) ∈ am_tbl := am_t4 (List.mem_of_getElem? (i := 38) rfl) rfl
theorem aw_4_39 : (Cond.methodLink "BrokenBreadLaw" (66 : Nat) ({ cls := "BrokenBread", name := "force", desc := "(I)I" } : MethodName)) ∈ am_tbl := am_t4 (List.mem_of_getElem? (i := 39) rfl) rfl
theorem aw_4_40 : (Cond.instanceMethod ({ cls := "BrokenBread", name := "force", desc := "(I)I" } : MethodName)) ∈ am_tbl := am_t4 (List.mem_of_getElem? (i := 40) rfl) rfl
theorem aw_4_41 : (Cond.selects "BrokenBread" ({ cls := "BrokenBread", name := "force", desc := "(I)I" } : MethodName) ({ cls := "BrokenBread", name := "force", desc := "(I)I" } : MethodName)) ∈ am_tbl := am_t4 (List.mem_of_getElem? (i := 41) rfl) rfl
theorem aw_4_42 : (Cond.code ({ cls := "BrokenBread", name := "force", desc := "(I)I" } : MethodName) prog_1_method_14_code (3 : Nat) (Option.some FieldType.int)) ∈ am_tbl := am_t4 (List.mem_of_getElem? (i := 42) rfl) rfl
theorem aw_4_43 : (Cond.methodLink "BrokenBread" (215 : Nat) ({ cls := "BrokenBread$Upland", name := "hasLaw", desc := "(I)Z" } : MethodName)) ∈ am_tbl := am_t4 (List.mem_of_getElem? (i := 43) rfl) rfl
theorem aw_4_44 : (Cond.instanceMethod ({ cls := "BrokenBread$Upland", name := "hasLaw", desc := "(I)Z" } : MethodName)) ∈ am_tbl := am_t4 (List.mem_of_getElem? (i := 44) rfl) rfl
theorem aw_4_45 : (Cond.selects "BrokenBread$Upland" ({ cls := "BrokenBread$Upland", name := "hasLaw", desc := "(I)Z" } : MethodName) ({ cls := "BrokenBread$Upland", name := "hasLaw", desc := "(I)Z" } : MethodName)) ∈ am_tbl := am_t4 (List.mem_of_getElem? (i := 45) rfl) rfl
theorem aw_4_46 : (Cond.code ({ cls := "BrokenBread$Upland", name := "hasLaw", desc := "(I)Z" } : MethodName) prog_10_method_6_code (2 : Nat) (Option.some FieldType.boolean)) ∈ am_tbl := am_t4 (List.mem_of_getElem? (i := 46) rfl) rfl
theorem aw_4_47 : (Cond.methodLink "BrokenBreadLaw" (70 : Nat) ({ cls := "BrokenBread", name := "harm", desc := "(III)I" } : MethodName)) ∈ am_tbl := am_t4 (List.mem_of_getElem? (i := 47) rfl) rfl
theorem aw_4_48 : (Cond.instanceMethod ({ cls := "BrokenBread", name := "harm", desc := "(III)I" } : MethodName)) ∈ am_tbl := am_t4 (List.mem_of_getElem? (i := 48) rfl) rfl
theorem aw_4_49 : (Cond.selects "BrokenBread" ({ cls := "BrokenBread", name := "harm", desc := "(III)I" } : MethodName) ({ cls := "BrokenBread", name := "harm", desc := "(III)I" } : MethodName)) ∈ am_tbl := am_t4 (List.mem_of_getElem? (i := 49) rfl) rfl
theorem aw_4_50 : (Cond.code ({ cls := "BrokenBread", name := "harm", desc := "(III)I" } : MethodName) prog_1_method_15_code (4 : Nat) (Option.some FieldType.int)) ∈ am_tbl := am_t4 (List.mem_of_getElem? (i := 50) rfl) rfl
theorem aw_4_51 : (Cond.methodLink "BrokenBreadLaw" (74 : Nat) ({ cls := "BrokenBread", name := "feast", desc := "(I)I" } : MethodName)) ∈ am_tbl := am_t4 (List.mem_of_getElem? (i := 51) rfl) rfl
theorem aw_4_52 : (Cond.instanceMethod ({ cls := "BrokenBread", name := "feast", desc := "(I)I" } : MethodName)) ∈ am_tbl := am_t4 (List.mem_of_getElem? (i := 52) rfl) rfl
theorem aw_4_53 : (Cond.selects "BrokenBread" ({ cls := "BrokenBread", name := "feast", desc := "(I)I" } : MethodName) ({ cls := "BrokenBread", name := "feast", desc := "(I)I" } : MethodName)) ∈ am_tbl := am_t4 (List.mem_of_getElem? (i := 53) rfl) rfl
theorem aw_4_54 : (Cond.code ({ cls := "BrokenBread", name := "feast", desc := "(I)I" } : MethodName) prog_1_method_16_code (2 : Nat) (Option.some FieldType.int)) ∈ am_tbl := am_t4 (List.mem_of_getElem? (i := 54) rfl) rfl
theorem aw_4_55 : (Cond.methodLink "BrokenBreadLaw" (78 : Nat) ({ cls := "BrokenBread", name := "pardon", desc := "(II)I" } : MethodName)) ∈ am_tbl := am_t4 (List.mem_of_getElem? (i := 55) rfl) rfl
theorem aw_4_56 : (Cond.instanceMethod ({ cls := "BrokenBread", name := "pardon", desc := "(II)I" } : MethodName)) ∈ am_tbl := am_t4 (List.mem_of_getElem? (i := 56) rfl) rfl
theorem aw_4_57 : (Cond.selects "BrokenBread" ({ cls := "BrokenBread", name := "pardon", desc := "(II)I" } : MethodName) ({ cls := "BrokenBread", name := "pardon", desc := "(II)I" } : MethodName)) ∈ am_tbl := am_t4 (List.mem_of_getElem? (i := 57) rfl) rfl
theorem aw_4_58 : (Cond.code ({ cls := "BrokenBread", name := "pardon", desc := "(II)I" } : MethodName) prog_1_method_17_code (3 : Nat) (Option.some FieldType.int)) ∈ am_tbl := am_t4 (List.mem_of_getElem? (i := 58) rfl) rfl
theorem aw_4_59 : (Cond.methodLink "BrokenBreadLaw" (82 : Nat) ({ cls := "BrokenBread", name := "pass", desc := "()I" } : MethodName)) ∈ am_tbl := am_t4 (List.mem_of_getElem? (i := 59) rfl) rfl
theorem aw_4_60 : (Cond.instanceMethod ({ cls := "BrokenBread", name := "pass", desc := "()I" } : MethodName)) ∈ am_tbl := am_t4 (List.mem_of_getElem? (i := 60) rfl) rfl
theorem aw_4_61 : (Cond.selects "BrokenBread" ({ cls := "BrokenBread", name := "pass", desc := "()I" } : MethodName) ({ cls := "BrokenBread", name := "pass", desc := "()I" } : MethodName)) ∈ am_tbl := am_t4 (List.mem_of_getElem? (i := 61) rfl) rfl
theorem aw_4_62 : (Cond.code ({ cls := "BrokenBread", name := "pass", desc := "()I" } : MethodName) prog_1_method_18_code (1 : Nat) (Option.some FieldType.int)) ∈ am_tbl := am_t4 (List.mem_of_getElem? (i := 62) rfl) rfl
theorem aw_4_63 : (Cond.methodLink "BrokenBreadLaw" (86 : Nat) ({ cls := "BrokenBread", name := "undo", desc := "()I" } : MethodName)) ∈ am_tbl := am_t4 (List.mem_of_getElem? (i := 63) rfl) rfl
theorem aw_4_64 : (Cond.instanceMethod ({ cls := "BrokenBread", name := "undo", desc := "()I" } : MethodName)) ∈ am_tbl := am_t4 (List.mem_of_getElem? (i := 64) rfl) rfl
theorem aw_4_65 : (Cond.selects "BrokenBread" ({ cls := "BrokenBread", name := "undo", desc := "()I" } : MethodName) ({ cls := "BrokenBread", name := "undo", desc := "()I" } : MethodName)) ∈ am_tbl := am_t4 (List.mem_of_getElem? (i := 65) rfl) rfl
theorem aw_4_66 : (Cond.code ({ cls := "BrokenBread", name := "undo", desc := "()I" } : MethodName) prog_1_method_19_code (1 : Nat) (Option.some FieldType.int)) ∈ am_tbl := am_t4 (List.mem_of_getElem? (i := 66) rfl) rfl
theorem aw_4_67 : (Cond.methodLink "BrokenBread" (234 : Nat) ({ cls := "BrokenBread$Past", name := "undoLatest", desc := "(LBrokenBread$Upland;)I" } : MethodName)) ∈ am_tbl := am_t4 (List.mem_of_getElem? (i := 67) rfl) rfl
theorem aw_4_68 : (Cond.instanceMethod ({ cls := "BrokenBread$Past", name := "undoLatest", desc := "(LBrokenBread$Upland;)I" } : MethodName)) ∈ am_tbl := am_t4 (List.mem_of_getElem? (i := 68) rfl) rfl
theorem aw_4_69 : (Cond.selects "BrokenBread$Past" ({ cls := "BrokenBread$Past", name := "undoLatest", desc := "(LBrokenBread$Upland;)I" } : MethodName) ({ cls := "BrokenBread$Past", name := "undoLatest", desc := "(LBrokenBread$Upland;)I" } : MethodName)) ∈ am_tbl := am_t4 (List.mem_of_getElem? (i := 69) rfl) rfl
theorem aw_4_70 : (Cond.code ({ cls := "BrokenBread$Past", name := "undoLatest", desc := "(LBrokenBread$Upland;)I" } : MethodName) prog_5_method_6_code (3 : Nat) (Option.some FieldType.int)) ∈ am_tbl := am_t4 (List.mem_of_getElem? (i := 70) rfl) rfl
theorem aw_4_71 : (Cond.methodLink "BrokenBread$Past" (43 : Nat) ({ cls := "BrokenBread$Upland", name := "setHarm", desc := "(IIII)V" } : MethodName)) ∈ am_tbl := am_t4 (List.mem_of_getElem? (i := 71) rfl) rfl
theorem aw_4_72 : (Cond.methodLink "BrokenBreadLaw" (90 : Nat) ({ cls := "BrokenBread", name := "largest", desc := "(I)I" } : MethodName)) ∈ am_tbl := am_t4 (List.mem_of_getElem? (i := 72) rfl) rfl
theorem aw_4_73 : (Cond.instanceMethod ({ cls := "BrokenBread", name := "largest", desc := "(I)I" } : MethodName)) ∈ am_tbl := am_t4 (List.mem_of_getElem? (i := 73) rfl) rfl
theorem aw_4_74 : (Cond.selects "BrokenBread" ({ cls := "BrokenBread", name := "largest", desc := "(I)I" } : MethodName) ({ cls := "BrokenBread", name := "largest", desc := "(I)I" } : MethodName)) ∈ am_tbl := am_t4 (List.mem_of_getElem? (i := 74) rfl) rfl
theorem aw_4_75 : (Cond.code ({ cls := "BrokenBread", name := "largest", desc := "(I)I" } : MethodName) prog_1_method_20_code (3 : Nat) (Option.some FieldType.int)) ∈ am_tbl := am_t4 (List.mem_of_getElem? (i := 75) rfl) rfl
theorem aw_4_76 : (Cond.methodLink "BrokenBread" (238 : Nat) ({ cls := "BrokenBread", name := "lookLive", desc := "()V" } : MethodName)) ∈ am_tbl := am_t4 (List.mem_of_getElem? (i := 76) rfl) rfl
theorem aw_4_78 : (Cond.instanceMethod ({ cls := "BrokenBread", name := "lookLive", desc := "()V" } : MethodName)) ∈ am_tbl := am_t4 (List.mem_of_getElem? (i := 78) rfl) rfl
theorem aw_4_79 : (Cond.code ({ cls := "BrokenBread", name := "lookLive", desc := "()V" } : MethodName) prog_1_method_45_code (1 : Nat) (Option.none : Option FieldType)) ∈ am_tbl := am_t4 (List.mem_of_getElem? (i := 79) rfl) rfl
theorem aw_4_80 : (Cond.methodLink "BrokenBread" (334 : Nat) ({ cls := "BrokenBread$Seating", name := "lookAt", desc := "(LBrokenBread$Judge;)V" } : MethodName)) ∈ am_tbl := am_t4 (List.mem_of_getElem? (i := 80) rfl) rfl
theorem aw_4_81 : (Cond.instanceMethod ({ cls := "BrokenBread$Seating", name := "lookAt", desc := "(LBrokenBread$Judge;)V" } : MethodName)) ∈ am_tbl := am_t4 (List.mem_of_getElem? (i := 81) rfl) rfl
theorem aw_4_82 : (Cond.selects "BrokenBread$Seating" ({ cls := "BrokenBread$Seating", name := "lookAt", desc := "(LBrokenBread$Judge;)V" } : MethodName) ({ cls := "BrokenBread$Seating", name := "lookAt", desc := "(LBrokenBread$Judge;)V" } : MethodName)) ∈ am_tbl := am_t4 (List.mem_of_getElem? (i := 82) rfl) rfl
theorem aw_4_83 : (Cond.code ({ cls := "BrokenBread$Seating", name := "lookAt", desc := "(LBrokenBread$Judge;)V" } : MethodName) prog_8_method_2_code (4 : Nat) (Option.none : Option FieldType)) ∈ am_tbl := am_t4 (List.mem_of_getElem? (i := 83) rfl) rfl
theorem aw_4_84 : (Cond.methodLink "BrokenBread$Seating" (38 : Nat) ({ cls := "BrokenBread$Judge", name := "folks", desc := "()I" } : MethodName)) ∈ am_tbl := am_t4 (List.mem_of_getElem? (i := 84) rfl) rfl
theorem aw_4_85 : (Cond.instanceMethod ({ cls := "BrokenBread$Judge", name := "folks", desc := "()I" } : MethodName)) ∈ am_tbl := am_t4 (List.mem_of_getElem? (i := 85) rfl) rfl
theorem aw_4_86 : (Cond.selects "BrokenBread$Judge" ({ cls := "BrokenBread$Judge", name := "folks", desc := "()I" } : MethodName) ({ cls := "BrokenBread$Judge", name := "folks", desc := "()I" } : MethodName)) ∈ am_tbl := am_t4 (List.mem_of_getElem? (i := 86) rfl) rfl
theorem aw_4_87 : (Cond.code ({ cls := "BrokenBread$Judge", name := "folks", desc := "()I" } : MethodName) prog_3_method_3_code (1 : Nat) (Option.some FieldType.int)) ∈ am_tbl := am_t4 (List.mem_of_getElem? (i := 87) rfl) rfl
theorem aw_4_88 : (Cond.methodLink "BrokenBread$Seating" (43 : Nat) ({ cls := "java/lang/Math", name := "min", desc := "(II)I" } : MethodName)) ∈ am_tbl := am_t4 (List.mem_of_getElem? (i := 88) rfl) rfl
theorem aw_4_89 : (Cond.methodLink "BrokenBread$Seating" (49 : Nat) ({ cls := "BrokenBread$Judge", name := "maySit", desc := "(II)Z" } : MethodName)) ∈ am_tbl := am_t4 (List.mem_of_getElem? (i := 89) rfl) rfl
theorem aw_4_90 : (Cond.methodLink "BrokenBread" (241 : Nat) ({ cls := "BrokenBread$Seating", name := "largestTable", desc := "()I" } : MethodName)) ∈ am_tbl := am_t4 (List.mem_of_getElem? (i := 90) rfl) rfl
theorem aw_4_91 : (Cond.instanceMethod ({ cls := "BrokenBread$Seating", name := "largestTable", desc := "()I" } : MethodName)) ∈ am_tbl := am_t4 (List.mem_of_getElem? (i := 91) rfl) rfl
theorem aw_4_92 : (Cond.selects "BrokenBread$Seating" ({ cls := "BrokenBread$Seating", name := "largestTable", desc := "()I" } : MethodName) ({ cls := "BrokenBread$Seating", name := "largestTable", desc := "()I" } : MethodName)) ∈ am_tbl := am_t4 (List.mem_of_getElem? (i := 92) rfl) rfl
theorem aw_4_93 : (Cond.code ({ cls := "BrokenBread$Seating", name := "largestTable", desc := "()I" } : MethodName) prog_8_method_9_code (3 : Nat) (Option.some FieldType.int)) ∈ am_tbl := am_t4 (List.mem_of_getElem? (i := 93) rfl) rfl
theorem aw_4_94 : (Cond.methodLink "BrokenBread$Seating" (66 : Nat) ({ cls := "BrokenBread$Seating", name := "everybody", desc := "()I" } : MethodName)) ∈ am_tbl := am_t4 (List.mem_of_getElem? (i := 94) rfl) rfl
theorem aw_4_96 : (Cond.instanceMethod ({ cls := "BrokenBread$Seating", name := "everybody", desc := "()I" } : MethodName)) ∈ am_tbl := am_t4 (List.mem_of_getElem? (i := 96) rfl) rfl
theorem aw_4_97 : (Cond.code ({ cls := "BrokenBread$Seating", name := "everybody", desc := "()I" } : MethodName) prog_8_method_7_code (1 : Nat) (Option.some FieldType.int)) ∈ am_tbl := am_t4 (List.mem_of_getElem? (i := 97) rfl) rfl
theorem aw_4_98 : (Cond.methodLink "BrokenBread$Seating" (60 : Nat) ({ cls := "java/lang/Integer", name := "bitCount", desc := "(I)I" } : MethodName)) ∈ am_tbl := am_t4 (List.mem_of_getElem? (i := 98) rfl) rfl
theorem aw_4_99 : (Cond.methodLink "BrokenBread$Seating" (69 : Nat) ({ cls := "BrokenBread$Seating", name := "isTable", desc := "(I)Z" } : MethodName)) ∈ am_tbl := am_t4 (List.mem_of_getElem? (i := 99) rfl) rfl
theorem aw_4_101 : (Cond.instanceMethod ({ cls := "BrokenBread$Seating", name := "isTable", desc := "(I)Z" } : MethodName)) ∈ am_tbl := am_t4 (List.mem_of_getElem? (i := 101) rfl) rfl
theorem aw_4_102 : (Cond.code ({ cls := "BrokenBread$Seating", name := "isTable", desc := "(I)Z" } : MethodName) prog_8_method_8_code (4 : Nat) (Option.some FieldType.boolean)) ∈ am_tbl := am_t4 (List.mem_of_getElem? (i := 102) rfl) rfl
theorem aw_4_103 : (Cond.methodLink "BrokenBread" (244 : Nat) ({ cls := "BrokenBread", name := "sizeOrSet", desc := "(II)I" } : MethodName)) ∈ am_tbl := am_t4 (List.mem_of_getElem? (i := 103) rfl) rfl
theorem aw_4_104 : (Cond.static ({ cls := "BrokenBread", name := "sizeOrSet", desc := "(II)I" } : MethodName)) ∈ am_tbl := am_t4 (List.mem_of_getElem? (i := 104) rfl) rfl
theorem aw_4_105 : (Cond.code ({ cls := "BrokenBread", name := "sizeOrSet", desc := "(II)I" } : MethodName) prog_1_method_47_code (2 : Nat) (Option.some FieldType.int)) ∈ am_tbl := am_t4 (List.mem_of_getElem? (i := 105) rfl) rfl
theorem aw_4_106 : (Cond.methodLink "BrokenBreadLaw" (94 : Nat) ({ cls := "BrokenBread", name := "tables", desc := "(I)I" } : MethodName)) ∈ am_tbl := am_t4 (List.mem_of_getElem? (i := 106) rfl) rfl
theorem aw_4_107 : (Cond.instanceMethod ({ cls := "BrokenBread", name := "tables", desc := "(I)I" } : MethodName)) ∈ am_tbl := am_t4 (List.mem_of_getElem? (i := 107) rfl) rfl
theorem aw_4_108 : (Cond.selects "BrokenBread" ({ cls := "BrokenBread", name := "tables", desc := "(I)I" } : MethodName) ({ cls := "BrokenBread", name := "tables", desc := "(I)I" } : MethodName)) ∈ am_tbl := am_t4 (List.mem_of_getElem? (i := 108) rfl) rfl
theorem aw_4_109 : (Cond.code ({ cls := "BrokenBread", name := "tables", desc := "(I)I" } : MethodName) prog_1_method_21_code (2 : Nat) (Option.some FieldType.int)) ∈ am_tbl := am_t4 (List.mem_of_getElem? (i := 109) rfl) rfl
theorem aw_4_110 : (Cond.methodLink "BrokenBread" (247 : Nat) ({ cls := "BrokenBread$Parting", name := "intoTables", desc := "(LBrokenBread$Seating;)V" } : MethodName)) ∈ am_tbl := am_t4 (List.mem_of_getElem? (i := 110) rfl) rfl
theorem aw_4_111 : (Cond.instanceMethod ({ cls := "BrokenBread$Parting", name := "intoTables", desc := "(LBrokenBread$Seating;)V" } : MethodName)) ∈ am_tbl := am_t4 (List.mem_of_getElem? (i := 111) rfl) rfl
theorem aw_4_112 : (Cond.selects "BrokenBread$Parting" ({ cls := "BrokenBread$Parting", name := "intoTables", desc := "(LBrokenBread$Seating;)V" } : MethodName) ({ cls := "BrokenBread$Parting", name := "intoTables", desc := "(LBrokenBread$Seating;)V" } : MethodName)) ∈ am_tbl := am_t4 (List.mem_of_getElem? (i := 112) rfl) rfl
theorem aw_4_113 : (Cond.code ({ cls := "BrokenBread$Parting", name := "intoTables", desc := "(LBrokenBread$Seating;)V" } : MethodName) prog_4_method_2_code (2 : Nat) (Option.none : Option FieldType)) ∈ am_tbl := am_t4 (List.mem_of_getElem? (i := 113) rfl) rfl
theorem aw_4_114 : (Cond.methodLink "BrokenBread$Parting" (32 : Nat) ({ cls := "BrokenBread$Parting", name := "begin", desc := "(LBrokenBread$Seating;)V" } : MethodName)) ∈ am_tbl := am_t4 (List.mem_of_getElem? (i := 114) rfl) rfl
theorem aw_4_116 : (Cond.instanceMethod ({ cls := "BrokenBread$Parting", name := "begin", desc := "(LBrokenBread$Seating;)V" } : MethodName)) ∈ am_tbl := am_t4 (List.mem_of_getElem? (i := 116) rfl) rfl
theorem aw_4_117 : (Cond.code ({ cls := "BrokenBread$Parting", name := "begin", desc := "(LBrokenBread$Seating;)V" } : MethodName) prog_4_method_5_code (2 : Nat) (Option.none : Option FieldType)) ∈ am_tbl := am_t4 (List.mem_of_getElem? (i := 117) rfl) rfl
theorem aw_4_118 : (Cond.methodLink "BrokenBread$Parting" (39 : Nat) ({ cls := "BrokenBread$Parting", name := "place", desc := "(LBrokenBread$Seating;III)V" } : MethodName)) ∈ am_tbl := am_t4 (List.mem_of_getElem? (i := 118) rfl) rfl
theorem aw_4_120 : (Cond.instanceMethod ({ cls := "BrokenBread$Parting", name := "place", desc := "(LBrokenBread$Seating;III)V" } : MethodName)) ∈ am_tbl := am_t4 (List.mem_of_getElem? (i := 120) rfl) rfl
theorem aw_4_121 : (Cond.code ({ cls := "BrokenBread$Parting", name := "place", desc := "(LBrokenBread$Seating;III)V" } : MethodName) prog_4_method_6_code (8 : Nat) (Option.none : Option FieldType)) ∈ am_tbl := am_t4 (List.mem_of_getElem? (i := 121) rfl) rfl
theorem aw_4_122 : (Cond.methodLink "BrokenBread$Parting" (43 : Nat) ({ cls := "BrokenBread$Parting", name := "keepIfCheaper", desc := "(II)V" } : MethodName)) ∈ am_tbl := am_t4 (List.mem_of_getElem? (i := 122) rfl) rfl
theorem aw_4_124 : (Cond.instanceMethod ({ cls := "BrokenBread$Parting", name := "keepIfCheaper", desc := "(II)V" } : MethodName)) ∈ am_tbl := am_t4 (List.mem_of_getElem? (i := 124) rfl) rfl
theorem aw_4_125 : (Cond.code ({ cls := "BrokenBread$Parting", name := "keepIfCheaper", desc := "(II)V" } : MethodName) prog_4_method_8_code (4 : Nat) (Option.none : Option FieldType)) ∈ am_tbl := am_t4 (List.mem_of_getElem? (i := 125) rfl) rfl
theorem aw_4_126 : (Cond.methodLink "BrokenBread$Parting" (55 : Nat) ({ cls := "java/lang/Integer", name := "bitCount", desc := "(I)I" } : MethodName)) ∈ am_tbl := am_t4 (List.mem_of_getElem? (i := 126) rfl) rfl
theorem aw_4_127 : (Cond.methodLink "BrokenBread$Parting" (69 : Nat) ({ cls := "java/lang/System", name := "arraycopy", desc := "(Ljava/lang/Object;ILjava/lang/Object;II)V" } : MethodName)) ∈ am_tbl := am_t4 (List.mem_of_getElem? (i := 127) rfl) rfl
theorem aw_4_128 : (Cond.methodLink "BrokenBread$Parting" (47 : Nat) ({ cls := "BrokenBread$Parting", name := "isAllowed", desc := "(LBrokenBread$Seating;II)Z" } : MethodName)) ∈ am_tbl := am_t4 (List.mem_of_getElem? (i := 128) rfl) rfl
theorem aw_4_130 : (Cond.instanceMethod ({ cls := "BrokenBread$Parting", name := "isAllowed", desc := "(LBrokenBread$Seating;II)Z" } : MethodName)) ∈ am_tbl := am_t4 (List.mem_of_getElem? (i := 130) rfl) rfl
theorem aw_4_131 : (Cond.code ({ cls := "BrokenBread$Parting", name := "isAllowed", desc := "(LBrokenBread$Seating;II)Z" } : MethodName) prog_4_method_7_code (4 : Nat) (Option.some FieldType.boolean)) ∈ am_tbl := am_t4 (List.mem_of_getElem? (i := 131) rfl) rfl
theorem aw_4_132 : (Cond.methodLink "BrokenBread$Parting" (51 : Nat) ({ cls := "BrokenBread$Seating", name := "mayOf", desc := "(I)I" } : MethodName)) ∈ am_tbl := am_t4 (List.mem_of_getElem? (i := 132) rfl) rfl
theorem aw_4_133 : (Cond.instanceMethod ({ cls := "BrokenBread$Seating", name := "mayOf", desc := "(I)I" } : MethodName)) ∈ am_tbl := am_t4 (List.mem_of_getElem? (i := 133) rfl) rfl
theorem aw_4_134 : (Cond.selects "BrokenBread$Seating" ({ cls := "BrokenBread$Seating", name := "mayOf", desc := "(I)I" } : MethodName) ({ cls := "BrokenBread$Seating", name := "mayOf", desc := "(I)I" } : MethodName)) ∈ am_tbl := am_t4 (List.mem_of_getElem? (i := 134) rfl) rfl
theorem aw_4_135 : (Cond.code ({ cls := "BrokenBread$Seating", name := "mayOf", desc := "(I)I" } : MethodName) prog_8_method_5_code (2 : Nat) (Option.some FieldType.int)) ∈ am_tbl := am_t4 (List.mem_of_getElem? (i := 135) rfl) rfl
theorem aw_4_136 : (Cond.methodLink "BrokenBread$Seating" (56 : Nat) ({ cls := "BrokenBread$Seating", name := "isThere", desc := "(I)Z" } : MethodName)) ∈ am_tbl := am_t4 (List.mem_of_getElem? (i := 136) rfl) rfl
theorem aw_4_138 : (Cond.instanceMethod ({ cls := "BrokenBread$Seating", name := "isThere", desc := "(I)Z" } : MethodName)) ∈ am_tbl := am_t4 (List.mem_of_getElem? (i := 138) rfl) rfl
theorem aw_4_139 : (Cond.code ({ cls := "BrokenBread$Seating", name := "isThere", desc := "(I)Z" } : MethodName) prog_8_method_4_code (2 : Nat) (Option.some FieldType.boolean)) ∈ am_tbl := am_t4 (List.mem_of_getElem? (i := 139) rfl) rfl
theorem aw_4_140 : (Cond.methodLink "BrokenBread$Parting" (66 : Nat) ({ cls := "BrokenBread$Seating", name := "barsOf", desc := "(I)I" } : MethodName)) ∈ am_tbl := am_t4 (List.mem_of_getElem? (i := 140) rfl) rfl
theorem aw_4_141 : (Cond.instanceMethod ({ cls := "BrokenBread$Seating", name := "barsOf", desc := "(I)I" } : MethodName)) ∈ am_tbl := am_t4 (List.mem_of_getElem? (i := 141) rfl) rfl
theorem aw_4_142 : (Cond.selects "BrokenBread$Seating" ({ cls := "BrokenBread$Seating", name := "barsOf", desc := "(I)I" } : MethodName) ({ cls := "BrokenBread$Seating", name := "barsOf", desc := "(I)I" } : MethodName)) ∈ am_tbl := am_t4 (List.mem_of_getElem? (i := 142) rfl) rfl
theorem aw_4_143 : (Cond.code ({ cls := "BrokenBread$Seating", name := "barsOf", desc := "(I)I" } : MethodName) prog_8_method_6_code (2 : Nat) (Option.some FieldType.int)) ∈ am_tbl := am_t4 (List.mem_of_getElem? (i := 143) rfl) rfl
theorem aw_4_144 : (Cond.methodLink "BrokenBread$Parting" (60 : Nat) ({ cls := "java/lang/Math", name := "max", desc := "(II)I" } : MethodName)) ∈ am_tbl := am_t4 (List.mem_of_getElem? (i := 144) rfl) rfl
theorem aw_4_145 : (Cond.methodLink "BrokenBread" (251 : Nat) ({ cls := "BrokenBread$Parting", name := "answer", desc := "(I)I" } : MethodName)) ∈ am_tbl := am_t4 (List.mem_of_getElem? (i := 145) rfl) rfl
theorem aw_4_146 : (Cond.instanceMethod ({ cls := "BrokenBread$Parting", name := "answer", desc := "(I)I" } : MethodName)) ∈ am_tbl := am_t4 (List.mem_of_getElem? (i := 146) rfl) rfl
theorem aw_4_147 : (Cond.selects "BrokenBread$Parting" ({ cls := "BrokenBread$Parting", name := "answer", desc := "(I)I" } : MethodName) ({ cls := "BrokenBread$Parting", name := "answer", desc := "(I)I" } : MethodName)) ∈ am_tbl := am_t4 (List.mem_of_getElem? (i := 147) rfl) rfl
theorem aw_4_148 : (Cond.code ({ cls := "BrokenBread$Parting", name := "answer", desc := "(I)I" } : MethodName) prog_4_method_4_code (2 : Nat) (Option.some FieldType.int)) ∈ am_tbl := am_t4 (List.mem_of_getElem? (i := 148) rfl) rfl
theorem aw_4_149 : (Cond.methodLink "BrokenBreadLaw" (98 : Nat) ({ cls := "BrokenBread", name := "newHarms", desc := "(I)I" } : MethodName)) ∈ am_tbl := am_t4 (List.mem_of_getElem? (i := 149) rfl) rfl
theorem aw_4_150 : (Cond.instanceMethod ({ cls := "BrokenBread", name := "newHarms", desc := "(I)I" } : MethodName)) ∈ am_tbl := am_t4 (List.mem_of_getElem? (i := 150) rfl) rfl
theorem aw_4_151 : (Cond.selects "BrokenBread" ({ cls := "BrokenBread", name := "newHarms", desc := "(I)I" } : MethodName) ({ cls := "BrokenBread", name := "newHarms", desc := "(I)I" } : MethodName)) ∈ am_tbl := am_t4 (List.mem_of_getElem? (i := 151) rfl) rfl
theorem aw_4_152 : (Cond.code ({ cls := "BrokenBread", name := "newHarms", desc := "(I)I" } : MethodName) prog_1_method_22_code (2 : Nat) (Option.some FieldType.int)) ∈ am_tbl := am_t4 (List.mem_of_getElem? (i := 152) rfl) rfl
theorem aw_4_153 : (Cond.methodLink "BrokenBread" (254 : Nat) ({ cls := "BrokenBread$Seating", name := "lookAtBars", desc := "(LBrokenBread$Judge;)V" } : MethodName)) ∈ am_tbl := am_t4 (List.mem_of_getElem? (i := 153) rfl) rfl
theorem aw_4_154 : (Cond.instanceMethod ({ cls := "BrokenBread$Seating", name := "lookAtBars", desc := "(LBrokenBread$Judge;)V" } : MethodName)) ∈ am_tbl := am_t4 (List.mem_of_getElem? (i := 154) rfl) rfl
theorem aw_4_155 : (Cond.selects "BrokenBread$Seating" ({ cls := "BrokenBread$Seating", name := "lookAtBars", desc := "(LBrokenBread$Judge;)V" } : MethodName) ({ cls := "BrokenBread$Seating", name := "lookAtBars", desc := "(LBrokenBread$Judge;)V" } : MethodName)) ∈ am_tbl := am_t4 (List.mem_of_getElem? (i := 155) rfl) rfl
theorem aw_4_156 : (Cond.code ({ cls := "BrokenBread$Seating", name := "lookAtBars", desc := "(LBrokenBread$Judge;)V" } : MethodName) prog_8_method_3_code (4 : Nat) (Option.none : Option FieldType)) ∈ am_tbl := am_t4 (List.mem_of_getElem? (i := 156) rfl) rfl
theorem aw_4_157 : (Cond.methodLink "BrokenBread$Seating" (53 : Nat) ({ cls := "BrokenBread$Judge", name := "isBarred", desc := "(II)Z" } : MethodName)) ∈ am_tbl := am_t4 (List.mem_of_getElem? (i := 157) rfl) rfl
theorem aw_4_158 : (Cond.methodLink "BrokenBread" (258 : Nat) ({ cls := "BrokenBread$Parting", name := "intoSets", desc := "(LBrokenBread$Seating;)V" } : MethodName)) ∈ am_tbl := am_t4 (List.mem_of_getElem? (i := 158) rfl) rfl
theorem aw_4_159 : (Cond.instanceMethod ({ cls := "BrokenBread$Parting", name := "intoSets", desc := "(LBrokenBread$Seating;)V" } : MethodName)) ∈ am_tbl := am_t4 (List.mem_of_getElem? (i := 159) rfl) rfl
theorem aw_4_160 : (Cond.selects "BrokenBread$Parting" ({ cls := "BrokenBread$Parting", name := "intoSets", desc := "(LBrokenBread$Seating;)V" } : MethodName) ({ cls := "BrokenBread$Parting", name := "intoSets", desc := "(LBrokenBread$Seating;)V" } : MethodName)) ∈ am_tbl := am_t4 (List.mem_of_getElem? (i := 160) rfl) rfl
theorem aw_4_161 : (Cond.code ({ cls := "BrokenBread$Parting", name := "intoSets", desc := "(LBrokenBread$Seating;)V" } : MethodName) prog_4_method_3_code (2 : Nat) (Option.none : Option FieldType)) ∈ am_tbl := am_t4 (List.mem_of_getElem? (i := 161) rfl) rfl
theorem aw_4_162 : (Cond.methodLink "BrokenBreadLaw" (102 : Nat) ({ cls := "BrokenBread", name := "leftOut", desc := "(I)I" } : MethodName)) ∈ am_tbl := am_t4 (List.mem_of_getElem? (i := 162) rfl) rfl
theorem aw_4_163 : (Cond.instanceMethod ({ cls := "BrokenBread", name := "leftOut", desc := "(I)I" } : MethodName)) ∈ am_tbl := am_t4 (List.mem_of_getElem? (i := 163) rfl) rfl
theorem aw_4_164 : (Cond.selects "BrokenBread" ({ cls := "BrokenBread", name := "leftOut", desc := "(I)I" } : MethodName) ({ cls := "BrokenBread", name := "leftOut", desc := "(I)I" } : MethodName)) ∈ am_tbl := am_t4 (List.mem_of_getElem? (i := 164) rfl) rfl
theorem aw_4_165 : (Cond.code ({ cls := "BrokenBread", name := "leftOut", desc := "(I)I" } : MethodName) prog_1_method_23_code (2 : Nat) (Option.some FieldType.int)) ∈ am_tbl := am_t4 (List.mem_of_getElem? (i := 165) rfl) rfl
theorem aw_4_166 : (Cond.methodLink "BrokenBread" (261 : Nat) ({ cls := "BrokenBread$Seating", name := "fewestOut", desc := "()I" } : MethodName)) ∈ am_tbl := am_t4 (List.mem_of_getElem? (i := 166) rfl) rfl
theorem aw_4_167 : (Cond.instanceMethod ({ cls := "BrokenBread$Seating", name := "fewestOut", desc := "()I" } : MethodName)) ∈ am_tbl := am_t4 (List.mem_of_getElem? (i := 167) rfl) rfl
theorem aw_4_168 : (Cond.selects "BrokenBread$Seating" ({ cls := "BrokenBread$Seating", name := "fewestOut", desc := "()I" } : MethodName) ({ cls := "BrokenBread$Seating", name := "fewestOut", desc := "()I" } : MethodName)) ∈ am_tbl := am_t4 (List.mem_of_getElem? (i := 168) rfl) rfl
theorem aw_4_169 : (Cond.code ({ cls := "BrokenBread$Seating", name := "fewestOut", desc := "()I" } : MethodName) prog_8_method_10_code (4 : Nat) (Option.some FieldType.int)) ∈ am_tbl := am_t4 (List.mem_of_getElem? (i := 169) rfl) rfl
theorem aw_4_170 : (Cond.methodLink "BrokenBread$Seating" (72 : Nat) ({ cls := "BrokenBread$Seating", name := "findParts", desc := "()V" } : MethodName)) ∈ am_tbl := am_t4 (List.mem_of_getElem? (i := 170) rfl) rfl
theorem aw_4_172 : (Cond.instanceMethod ({ cls := "BrokenBread$Seating", name := "findParts", desc := "()V" } : MethodName)) ∈ am_tbl := am_t4 (List.mem_of_getElem? (i := 172) rfl) rfl
theorem aw_4_173 : (Cond.code ({ cls := "BrokenBread$Seating", name := "findParts", desc := "()V" } : MethodName) prog_8_method_11_code (4 : Nat) (Option.none : Option FieldType)) ∈ am_tbl := am_t4 (List.mem_of_getElem? (i := 173) rfl) rfl
theorem aw_4_174 : (Cond.methodLink "BrokenBreadLaw" (106 : Nat) ({ cls := "BrokenBread", name := "seat", desc := "(II)I" } : MethodName)) ∈ am_tbl := am_t4 (List.mem_of_getElem? (i := 174) rfl) rfl
theorem aw_4_175 : (Cond.instanceMethod ({ cls := "BrokenBread", name := "seat", desc := "(II)I" } : MethodName)) ∈ am_tbl := am_t4 (List.mem_of_getElem? (i := 175) rfl) rfl
theorem aw_4_176 : (Cond.selects "BrokenBread" ({ cls := "BrokenBread", name := "seat", desc := "(II)I" } : MethodName) ({ cls := "BrokenBread", name := "seat", desc := "(II)I" } : MethodName)) ∈ am_tbl := am_t4 (List.mem_of_getElem? (i := 176) rfl) rfl
theorem aw_4_177 : (Cond.code ({ cls := "BrokenBread", name := "seat", desc := "(II)I" } : MethodName) prog_1_method_24_code (5 : Nat) (Option.some FieldType.int)) ∈ am_tbl := am_t4 (List.mem_of_getElem? (i := 177) rfl) rfl
theorem aw_4_178 : (Cond.methodLink "BrokenBread" (272 : Nat) ({ cls := "BrokenBread", name := "mostHurt", desc := "(II)I" } : MethodName)) ∈ am_tbl := am_t4 (List.mem_of_getElem? (i := 178) rfl) rfl
theorem aw_4_180 : (Cond.instanceMethod ({ cls := "BrokenBread", name := "mostHurt", desc := "(II)I" } : MethodName)) ∈ am_tbl := am_t4 (List.mem_of_getElem? (i := 180) rfl) rfl
theorem aw_4_181 : (Cond.code ({ cls := "BrokenBread", name := "mostHurt", desc := "(II)I" } : MethodName) prog_1_method_55_code (7 : Nat) (Option.some FieldType.int)) ∈ am_tbl := am_t4 (List.mem_of_getElem? (i := 181) rfl) rfl
theorem aw_4_182 : (Cond.methodLink "BrokenBread" (384 : Nat) ({ cls := "BrokenBread$Judge", name := "sufferedBy", desc := "(II)I" } : MethodName)) ∈ am_tbl := am_t4 (List.mem_of_getElem? (i := 182) rfl) rfl
theorem aw_4_183 : (Cond.instanceMethod ({ cls := "BrokenBread$Judge", name := "sufferedBy", desc := "(II)I" } : MethodName)) ∈ am_tbl := am_t4 (List.mem_of_getElem? (i := 183) rfl) rfl
theorem aw_4_184 : (Cond.selects "BrokenBread$Judge" ({ cls := "BrokenBread$Judge", name := "sufferedBy", desc := "(II)I" } : MethodName) ({ cls := "BrokenBread$Judge", name := "sufferedBy", desc := "(II)I" } : MethodName)) ∈ am_tbl := am_t4 (List.mem_of_getElem? (i := 184) rfl) rfl
theorem aw_4_185 : (Cond.code ({ cls := "BrokenBread$Judge", name := "sufferedBy", desc := "(II)I" } : MethodName) prog_3_method_9_code (5 : Nat) (Option.some FieldType.int)) ∈ am_tbl := am_t4 (List.mem_of_getElem? (i := 185) rfl) rfl
theorem aw_4_186 : (Cond.methodLink "BrokenBread$Judge" (52 : Nat) ({ cls := "BrokenBread$Judge", name := "countsOf", desc := "(II)I" } : MethodName)) ∈ am_tbl := am_t4 (List.mem_of_getElem? (i := 186) rfl) rfl
theorem aw_4_187 : (Cond.methodLink "BrokenBreadLaw" (110 : Nat) ({ cls := "BrokenBread", name := "chain", desc := "(III)I" } : MethodName)) ∈ am_tbl := am_t4 (List.mem_of_getElem? (i := 187) rfl) rfl
theorem aw_4_188 : (Cond.instanceMethod ({ cls := "BrokenBread", name := "chain", desc := "(III)I" } : MethodName)) ∈ am_tbl := am_t4 (List.mem_of_getElem? (i := 188) rfl) rfl
theorem aw_4_189 : (Cond.selects "BrokenBread" ({ cls := "BrokenBread", name := "chain", desc := "(III)I" } : MethodName) ({ cls := "BrokenBread", name := "chain", desc := "(III)I" } : MethodName)) ∈ am_tbl := am_t4 (List.mem_of_getElem? (i := 189) rfl) rfl
theorem aw_4_190 : (Cond.code ({ cls := "BrokenBread", name := "chain", desc := "(III)I" } : MethodName) prog_1_method_25_code (5 : Nat) (Option.some FieldType.int)) ∈ am_tbl := am_t4 (List.mem_of_getElem? (i := 190) rfl) rfl
theorem aw_4_191 : (Cond.methodLink "BrokenBread" (275 : Nat) ({ cls := "BrokenBread$Seating", name := "stepsTo", desc := "(II)I" } : MethodName)) ∈ am_tbl := am_t4 (List.mem_of_getElem? (i := 191) rfl) rfl
theorem aw_4_192 : (Cond.instanceMethod ({ cls := "BrokenBread$Seating", name := "stepsTo", desc := "(II)I" } : MethodName)) ∈ am_tbl := am_t4 (List.mem_of_getElem? (i := 192) rfl) rfl
theorem aw_4_193 : (Cond.selects "BrokenBread$Seating" ({ cls := "BrokenBread$Seating", name := "stepsTo", desc := "(II)I" } : MethodName) ({ cls := "BrokenBread$Seating", name := "stepsTo", desc := "(II)I" } : MethodName)) ∈ am_tbl := am_t4 (List.mem_of_getElem? (i := 193) rfl) rfl
theorem aw_4_194 : (Cond.code ({ cls := "BrokenBread$Seating", name := "stepsTo", desc := "(II)I" } : MethodName) prog_8_method_14_code (5 : Nat) (Option.some FieldType.int)) ∈ am_tbl := am_t4 (List.mem_of_getElem? (i := 194) rfl) rfl
theorem aw_4_195 : (Cond.methodLink "BrokenBread$Seating" (79 : Nat) ({ cls := "BrokenBread$Seating", name := "isStepAhead", desc := "(II)Z" } : MethodName)) ∈ am_tbl := am_t4 (List.mem_of_getElem? (i := 195) rfl) rfl
theorem aw_4_197 : (Cond.instanceMethod ({ cls := "BrokenBread$Seating", name := "isStepAhead", desc := "(II)Z" } : MethodName)) ∈ am_tbl := am_t4 (List.mem_of_getElem? (i := 197) rfl) rfl
theorem aw_4_198 : (Cond.code ({ cls := "BrokenBread$Seating", name := "isStepAhead", desc := "(II)Z" } : MethodName) prog_8_method_15_code (4 : Nat) (Option.some FieldType.boolean)) ∈ am_tbl := am_t4 (List.mem_of_getElem? (i := 198) rfl) rfl
theorem aw_4_199 : (Cond.methodLink "BrokenBread" (278 : Nat) ({ cls := "BrokenBread$Seating", name := "stepOf", desc := "(III)I" } : MethodName)) ∈ am_tbl := am_t4 (List.mem_of_getElem? (i := 199) rfl) rfl
theorem aw_4_200 : (Cond.instanceMethod ({ cls := "BrokenBread$Seating", name := "stepOf", desc := "(III)I" } : MethodName)) ∈ am_tbl := am_t4 (List.mem_of_getElem? (i := 200) rfl) rfl
theorem aw_4_201 : (Cond.selects "BrokenBread$Seating" ({ cls := "BrokenBread$Seating", name := "stepOf", desc := "(III)I" } : MethodName) ({ cls := "BrokenBread$Seating", name := "stepOf", desc := "(III)I" } : MethodName)) ∈ am_tbl := am_t4 (List.mem_of_getElem? (i := 201) rfl) rfl
theorem aw_4_202 : (Cond.code ({ cls := "BrokenBread$Seating", name := "stepOf", desc := "(III)I" } : MethodName) prog_8_method_16_code (6 : Nat) (Option.some FieldType.int)) ∈ am_tbl := am_t4 (List.mem_of_getElem? (i := 202) rfl) rfl
theorem aw_4_203 : (Cond.methodLink "BrokenBread$Seating" (82 : Nat) ({ cls := "BrokenBread$Seating", name := "nearer", desc := "(I)I" } : MethodName)) ∈ am_tbl := am_t4 (List.mem_of_getElem? (i := 203) rfl) rfl
theorem aw_4_205 : (Cond.instanceMethod ({ cls := "BrokenBread$Seating", name := "nearer", desc := "(I)I" } : MethodName)) ∈ am_tbl := am_t4 (List.mem_of_getElem? (i := 205) rfl) rfl
theorem aw_4_206 : (Cond.code ({ cls := "BrokenBread$Seating", name := "nearer", desc := "(I)I" } : MethodName) prog_8_method_17_code (3 : Nat) (Option.some FieldType.int)) ∈ am_tbl := am_t4 (List.mem_of_getElem? (i := 206) rfl) rfl
theorem aw_4_207 : (Cond.methodLink "BrokenBreadLaw" (114 : Nat) ({ cls := "BrokenBread", name := "circles", desc := "()I" } : MethodName)) ∈ am_tbl := am_t4 (List.mem_of_getElem? (i := 207) rfl) rfl
theorem aw_4_208 : (Cond.instanceMethod ({ cls := "BrokenBread", name := "circles", desc := "()I" } : MethodName)) ∈ am_tbl := am_t4 (List.mem_of_getElem? (i := 208) rfl) rfl
theorem aw_4_209 : (Cond.selects "BrokenBread" ({ cls := "BrokenBread", name := "circles", desc := "()I" } : MethodName) ({ cls := "BrokenBread", name := "circles", desc := "()I" } : MethodName)) ∈ am_tbl := am_t4 (List.mem_of_getElem? (i := 209) rfl) rfl
theorem aw_4_210 : (Cond.code ({ cls := "BrokenBread", name := "circles", desc := "()I" } : MethodName) prog_1_method_26_code (1 : Nat) (Option.some FieldType.int)) ∈ am_tbl := am_t4 (List.mem_of_getElem? (i := 210) rfl) rfl
theorem aw_4_211 : (Cond.methodLink "BrokenBread" (281 : Nat) ({ cls := "BrokenBread$Seating", name := "circlesWithout", desc := "(II)I" } : MethodName)) ∈ am_tbl := am_t4 (List.mem_of_getElem? (i := 211) rfl) rfl
theorem aw_4_212 : (Cond.instanceMethod ({ cls := "BrokenBread$Seating", name := "circlesWithout", desc := "(II)I" } : MethodName)) ∈ am_tbl := am_t4 (List.mem_of_getElem? (i := 212) rfl) rfl
theorem aw_4_213 : (Cond.selects "BrokenBread$Seating" ({ cls := "BrokenBread$Seating", name := "circlesWithout", desc := "(II)I" } : MethodName) ({ cls := "BrokenBread$Seating", name := "circlesWithout", desc := "(II)I" } : MethodName)) ∈ am_tbl := am_t4 (List.mem_of_getElem? (i := 213) rfl) rfl
theorem aw_4_214 : (Cond.code ({ cls := "BrokenBread$Seating", name := "circlesWithout", desc := "(II)I" } : MethodName) prog_8_method_18_code (6 : Nat) (Option.some FieldType.int)) ∈ am_tbl := am_t4 (List.mem_of_getElem? (i := 214) rfl) rfl
theorem aw_4_215 : (Cond.methodLink "BrokenBread$Seating" (85 : Nat) ({ cls := "BrokenBread$Seating", name := "circleOf", desc := "(III)I" } : MethodName)) ∈ am_tbl := am_t4 (List.mem_of_getElem? (i := 215) rfl) rfl
theorem aw_4_217 : (Cond.instanceMethod ({ cls := "BrokenBread$Seating", name := "circleOf", desc := "(III)I" } : MethodName)) ∈ am_tbl := am_t4 (List.mem_of_getElem? (i := 217) rfl) rfl
theorem aw_4_218 : (Cond.code ({ cls := "BrokenBread$Seating", name := "circleOf", desc := "(III)I" } : MethodName) prog_8_method_19_code (8 : Nat) (Option.some FieldType.int)) ∈ am_tbl := am_t4 (List.mem_of_getElem? (i := 218) rfl) rfl
theorem aw_4_219 : (Cond.methodLink "BrokenBreadLaw" (118 : Nat) ({ cls := "BrokenBread", name := "bridges", desc := "(I)I" } : MethodName)) ∈ am_tbl := am_t4 (List.mem_of_getElem? (i := 219) rfl) rfl
theorem aw_4_220 : (Cond.instanceMethod ({ cls := "BrokenBread", name := "bridges", desc := "(I)I" } : MethodName)) ∈ am_tbl := am_t4 (List.mem_of_getElem? (i := 220) rfl) rfl
theorem aw_4_221 : (Cond.selects "BrokenBread" ({ cls := "BrokenBread", name := "bridges", desc := "(I)I" } : MethodName) ({ cls := "BrokenBread", name := "bridges", desc := "(I)I" } : MethodName)) ∈ am_tbl := am_t4 (List.mem_of_getElem? (i := 221) rfl) rfl
theorem aw_4_222 : (Cond.code ({ cls := "BrokenBread", name := "bridges", desc := "(I)I" } : MethodName) prog_1_method_27_code (2 : Nat) (Option.some FieldType.int)) ∈ am_tbl := am_t4 (List.mem_of_getElem? (i := 222) rfl) rfl
theorem aw_4_223 : (Cond.methodLink "BrokenBread" (284 : Nat) ({ cls := "BrokenBread$Seating", name := "findBridges", desc := "()V" } : MethodName)) ∈ am_tbl := am_t4 (List.mem_of_getElem? (i := 223) rfl) rfl
theorem aw_4_224 : (Cond.instanceMethod ({ cls := "BrokenBread$Seating", name := "findBridges", desc := "()V" } : MethodName)) ∈ am_tbl := am_t4 (List.mem_of_getElem? (i := 224) rfl) rfl
theorem aw_4_225 : (Cond.selects "BrokenBread$Seating" ({ cls := "BrokenBread$Seating", name := "findBridges", desc := "()V" } : MethodName) ({ cls := "BrokenBread$Seating", name := "findBridges", desc := "()V" } : MethodName)) ∈ am_tbl := am_t4 (List.mem_of_getElem? (i := 225) rfl) rfl
theorem aw_4_226 : (Cond.code ({ cls := "BrokenBread$Seating", name := "findBridges", desc := "()V" } : MethodName) prog_8_method_20_code (4 : Nat) (Option.none : Option FieldType)) ∈ am_tbl := am_t4 (List.mem_of_getElem? (i := 226) rfl) rfl
theorem aw_4_227 : (Cond.methodLink "BrokenBread$Seating" (89 : Nat) ({ cls := "BrokenBread$Seating", name := "circlesWithout", desc := "(II)I" } : MethodName)) ∈ am_tbl := am_t4 (List.mem_of_getElem? (i := 227) rfl) rfl
theorem aw_4_228 : (Cond.methodLink "BrokenBread$Seating" (92 : Nat) ({ cls := "BrokenBread$Seating", name := "addTwo", desc := "(II)V" } : MethodName)) ∈ am_tbl := am_t4 (List.mem_of_getElem? (i := 228) rfl) rfl
theorem aw_4_230 : (Cond.instanceMethod ({ cls := "BrokenBread$Seating", name := "addTwo", desc := "(II)V" } : MethodName)) ∈ am_tbl := am_t4 (List.mem_of_getElem? (i := 230) rfl) rfl
theorem aw_4_231 : (Cond.code ({ cls := "BrokenBread$Seating", name := "addTwo", desc := "(II)V" } : MethodName) prog_8_method_23_code (3 : Nat) (Option.none : Option FieldType)) ∈ am_tbl := am_t4 (List.mem_of_getElem? (i := 231) rfl) rfl
theorem aw_4_232 : (Cond.methodLink "BrokenBread" (287 : Nat) ({ cls := "BrokenBread$Seating", name := "twoOf", desc := "(I)I" } : MethodName)) ∈ am_tbl := am_t4 (List.mem_of_getElem? (i := 232) rfl) rfl
theorem aw_4_233 : (Cond.instanceMethod ({ cls := "BrokenBread$Seating", name := "twoOf", desc := "(I)I" } : MethodName)) ∈ am_tbl := am_t4 (List.mem_of_getElem? (i := 233) rfl) rfl
theorem aw_4_234 : (Cond.selects "BrokenBread$Seating" ({ cls := "BrokenBread$Seating", name := "twoOf", desc := "(I)I" } : MethodName) ({ cls := "BrokenBread$Seating", name := "twoOf", desc := "(I)I" } : MethodName)) ∈ am_tbl := am_t4 (List.mem_of_getElem? (i := 234) rfl) rfl
theorem aw_4_235 : (Cond.code ({ cls := "BrokenBread$Seating", name := "twoOf", desc := "(I)I" } : MethodName) prog_8_method_24_code (2 : Nat) (Option.some FieldType.int)) ∈ am_tbl := am_t4 (List.mem_of_getElem? (i := 235) rfl) rfl
theorem aw_4_236 : (Cond.methodLink "BrokenBreadLaw" (122 : Nat) ({ cls := "BrokenBread", name := "sat", desc := "(I)I" } : MethodName)) ∈ am_tbl := am_t4 (List.mem_of_getElem? (i := 236) rfl) rfl
theorem aw_4_237 : (Cond.instanceMethod ({ cls := "BrokenBread", name := "sat", desc := "(I)I" } : MethodName)) ∈ am_tbl := am_t4 (List.mem_of_getElem? (i := 237) rfl) rfl
theorem aw_4_238 : (Cond.selects "BrokenBread" ({ cls := "BrokenBread", name := "sat", desc := "(I)I" } : MethodName) ({ cls := "BrokenBread", name := "sat", desc := "(I)I" } : MethodName)) ∈ am_tbl := am_t4 (List.mem_of_getElem? (i := 238) rfl) rfl
theorem aw_4_239 : (Cond.code ({ cls := "BrokenBread", name := "sat", desc := "(I)I" } : MethodName) prog_1_method_28_code (2 : Nat) (Option.some FieldType.int)) ∈ am_tbl := am_t4 (List.mem_of_getElem? (i := 239) rfl) rfl
theorem aw_5_0 : (Cond.methodLink "BrokenBreadLaw" (126 : Nat) ({ cls := "BrokenBread", name := "forget", desc := "()I" } : MethodName)) ∈ am_tbl := am_t5 (List.mem_of_getElem? (i := 0) rfl) rfl
theorem aw_5_1 : (Cond.instanceMethod ({ cls := "BrokenBread", name := "forget", desc := "()I" } : MethodName)) ∈ am_tbl := am_t5 (List.mem_of_getElem? (i := 1) rfl) rfl
theorem aw_5_2 : (Cond.selects "BrokenBread" ({ cls := "BrokenBread", name := "forget", desc := "()I" } : MethodName) ({ cls := "BrokenBread", name := "forget", desc := "()I" } : MethodName)) ∈ am_tbl := am_t5 (List.mem_of_getElem? (i := 2) rfl) rfl
theorem aw_5_3 : (Cond.code ({ cls := "BrokenBread", name := "forget", desc := "()I" } : MethodName) prog_1_method_29_code (2 : Nat) (Option.some FieldType.int)) ∈ am_tbl := am_t5 (List.mem_of_getElem? (i := 3) rfl) rfl
theorem aw_5_4 : (Cond.methodLink "BrokenBreadLaw" (130 : Nat) ({ cls := "BrokenBread", name := "doubted", desc := "(I)I" } : MethodName)) ∈ am_tbl := am_t5 (List.mem_of_getElem? (i := 4) rfl) rfl
theorem aw_5_5 : (Cond.instanceMethod ({ cls := "BrokenBread", name := "doubted", desc := "(I)I" } : MethodName)) ∈ am_tbl := am_t5 (List.mem_of_getElem? (i := 5) rfl) rfl
theorem aw_5_6 : (Cond.selects "BrokenBread" ({ cls := "BrokenBread", name := "doubted", desc := "(I)I" } : MethodName) ({ cls := "BrokenBread", name := "doubted", desc := "(I)I" } : MethodName)) ∈ am_tbl := am_t5 (List.mem_of_getElem? (i := 6) rfl) rfl
theorem aw_5_7 : (Cond.code ({ cls := "BrokenBread", name := "doubted", desc := "(I)I" } : MethodName) prog_1_method_30_code (2 : Nat) (Option.some FieldType.int)) ∈ am_tbl := am_t5 (List.mem_of_getElem? (i := 7) rfl) rfl
theorem aw_5_8 : (Cond.methodLink "BrokenBread" (296 : Nat) ({ cls := "BrokenBread$Seating", name := "findDoubted", desc := "(LBrokenBread$Upland;)V" } : MethodName)) ∈ am_tbl := am_t5 (List.mem_of_getElem? (i := 8) rfl) rfl
theorem aw_5_9 : (Cond.instanceMethod ({ cls := "BrokenBread$Seating", name := "findDoubted", desc := "(LBrokenBread$Upland;)V" } : MethodName)) ∈ am_tbl := am_t5 (List.mem_of_getElem? (i := 9) rfl) rfl
theorem aw_5_10 : (Cond.selects "BrokenBread$Seating" ({ cls := "BrokenBread$Seating", name := "findDoubted", desc := "(LBrokenBread$Upland;)V" } : MethodName) ({ cls := "BrokenBread$Seating", name := "findDoubted", desc := "(LBrokenBread$Upland;)V" } : MethodName)) ∈ am_tbl := am_t5 (List.mem_of_getElem? (i := 10) rfl) rfl
theorem aw_5_11 : (Cond.code ({ cls := "BrokenBread$Seating", name := "findDoubted", desc := "(LBrokenBread$Upland;)V" } : MethodName) prog_8_method_21_code (4 : Nat) (Option.none : Option FieldType)) ∈ am_tbl := am_t5 (List.mem_of_getElem? (i := 11) rfl) rfl
theorem aw_5_12 : (Cond.methodLink "BrokenBread$Seating" (96 : Nat) ({ cls := "BrokenBread$Seating", name := "wereSeen", desc := "(LBrokenBread$Upland;I)Z" } : MethodName)) ∈ am_tbl := am_t5 (List.mem_of_getElem? (i := 12) rfl) rfl
theorem aw_5_13 : (Cond.static ({ cls := "BrokenBread$Seating", name := "wereSeen", desc := "(LBrokenBread$Upland;I)Z" } : MethodName)) ∈ am_tbl := am_t5 (List.mem_of_getElem? (i := 13) rfl) rfl
theorem aw_5_14 : (Cond.code ({ cls := "BrokenBread$Seating", name := "wereSeen", desc := "(LBrokenBread$Upland;I)Z" } : MethodName) prog_8_method_22_code (3 : Nat) (Option.some FieldType.boolean)) ∈ am_tbl := am_t5 (List.mem_of_getElem? (i := 14) rfl) rfl
theorem aw_5_15 : (Cond.methodLink "BrokenBreadLaw" (134 : Nat) ({ cls := "BrokenBread", name := "fitting", desc := "(I)I" } : MethodName)) ∈ am_tbl := am_t5 (List.mem_of_getElem? (i := 15) rfl) rfl
theorem aw_5_16 : (Cond.instanceMethod ({ cls := "BrokenBread", name := "fitting", desc := "(I)I" } : MethodName)) ∈ am_tbl := am_t5 (List.mem_of_getElem? (i := 16) rfl) rfl
theorem aw_5_17 : (Cond.selects "BrokenBread" ({ cls := "BrokenBread", name := "fitting", desc := "(I)I" } : MethodName) ({ cls := "BrokenBread", name := "fitting", desc := "(I)I" } : MethodName)) ∈ am_tbl := am_t5 (List.mem_of_getElem? (i := 17) rfl) rfl
theorem aw_5_18 : (Cond.code ({ cls := "BrokenBread", name := "fitting", desc := "(I)I" } : MethodName) prog_1_method_31_code (2 : Nat) (Option.some FieldType.int)) ∈ am_tbl := am_t5 (List.mem_of_getElem? (i := 18) rfl) rfl
theorem aw_5_19 : (Cond.methodLink "BrokenBread" (299 : Nat) ({ cls := "BrokenBread$Seating", name := "fittingFor", desc := "(I)I" } : MethodName)) ∈ am_tbl := am_t5 (List.mem_of_getElem? (i := 19) rfl) rfl
theorem aw_5_20 : (Cond.instanceMethod ({ cls := "BrokenBread$Seating", name := "fittingFor", desc := "(I)I" } : MethodName)) ∈ am_tbl := am_t5 (List.mem_of_getElem? (i := 20) rfl) rfl
theorem aw_5_21 : (Cond.selects "BrokenBread$Seating" ({ cls := "BrokenBread$Seating", name := "fittingFor", desc := "(I)I" } : MethodName) ({ cls := "BrokenBread$Seating", name := "fittingFor", desc := "(I)I" } : MethodName)) ∈ am_tbl := am_t5 (List.mem_of_getElem? (i := 21) rfl) rfl
theorem aw_5_22 : (Cond.code ({ cls := "BrokenBread$Seating", name := "fittingFor", desc := "(I)I" } : MethodName) prog_8_method_25_code (4 : Nat) (Option.some FieldType.int)) ∈ am_tbl := am_t5 (List.mem_of_getElem? (i := 22) rfl) rfl
theorem aw_5_23 : (Cond.methodLink "BrokenBreadLaw" (138 : Nat) ({ cls := "BrokenBread", name := "ask", desc := "(II)I" } : MethodName)) ∈ am_tbl := am_t5 (List.mem_of_getElem? (i := 23) rfl) rfl
theorem aw_5_24 : (Cond.instanceMethod ({ cls := "BrokenBread", name := "ask", desc := "(II)I" } : MethodName)) ∈ am_tbl := am_t5 (List.mem_of_getElem? (i := 24) rfl) rfl
theorem aw_5_25 : (Cond.selects "BrokenBread" ({ cls := "BrokenBread", name := "ask", desc := "(II)I" } : MethodName) ({ cls := "BrokenBread", name := "ask", desc := "(II)I" } : MethodName)) ∈ am_tbl := am_t5 (List.mem_of_getElem? (i := 25) rfl) rfl
theorem aw_5_26 : (Cond.code ({ cls := "BrokenBread", name := "ask", desc := "(II)I" } : MethodName) prog_1_method_32_code (5 : Nat) (Option.some FieldType.int)) ∈ am_tbl := am_t5 (List.mem_of_getElem? (i := 26) rfl) rfl
theorem aw_5_27 : (Cond.methodLink "BrokenBread" (302 : Nat) ({ cls := "BrokenBread$Seating", name := "nearestHalf", desc := "(I)I" } : MethodName)) ∈ am_tbl := am_t5 (List.mem_of_getElem? (i := 27) rfl) rfl
theorem aw_5_28 : (Cond.instanceMethod ({ cls := "BrokenBread$Seating", name := "nearestHalf", desc := "(I)I" } : MethodName)) ∈ am_tbl := am_t5 (List.mem_of_getElem? (i := 28) rfl) rfl
theorem aw_5_29 : (Cond.selects "BrokenBread$Seating" ({ cls := "BrokenBread$Seating", name := "nearestHalf", desc := "(I)I" } : MethodName) ({ cls := "BrokenBread$Seating", name := "nearestHalf", desc := "(I)I" } : MethodName)) ∈ am_tbl := am_t5 (List.mem_of_getElem? (i := 29) rfl) rfl
theorem aw_5_30 : (Cond.code ({ cls := "BrokenBread$Seating", name := "nearestHalf", desc := "(I)I" } : MethodName) prog_8_method_27_code (6 : Nat) (Option.some FieldType.int)) ∈ am_tbl := am_t5 (List.mem_of_getElem? (i := 30) rfl) rfl
theorem aw_5_31 : (Cond.methodLink "BrokenBread$Seating" (111 : Nat) ({ cls := "BrokenBread$Seating", name := "companionsAmong", desc := "(II)I" } : MethodName)) ∈ am_tbl := am_t5 (List.mem_of_getElem? (i := 31) rfl) rfl
theorem aw_5_32 : (Cond.instanceMethod ({ cls := "BrokenBread$Seating", name := "companionsAmong", desc := "(II)I" } : MethodName)) ∈ am_tbl := am_t5 (List.mem_of_getElem? (i := 32) rfl) rfl
theorem aw_5_33 : (Cond.selects "BrokenBread$Seating" ({ cls := "BrokenBread$Seating", name := "companionsAmong", desc := "(II)I" } : MethodName) ({ cls := "BrokenBread$Seating", name := "companionsAmong", desc := "(II)I" } : MethodName)) ∈ am_tbl := am_t5 (List.mem_of_getElem? (i := 33) rfl) rfl
theorem aw_5_34 : (Cond.code ({ cls := "BrokenBread$Seating", name := "companionsAmong", desc := "(II)I" } : MethodName) prog_8_method_26_code (3 : Nat) (Option.some FieldType.int)) ∈ am_tbl := am_t5 (List.mem_of_getElem? (i := 34) rfl) rfl
theorem aw_5_35 : (Cond.methodLink "BrokenBread$Seating" (108 : Nat) ({ cls := "BrokenBread$Seating", name := "mayOf", desc := "(I)I" } : MethodName)) ∈ am_tbl := am_t5 (List.mem_of_getElem? (i := 35) rfl) rfl
theorem aw_5_36 : (Cond.methodLink "BrokenBread$Seating" (114 : Nat) ({ cls := "java/lang/Math", name := "abs", desc := "(I)I" } : MethodName)) ∈ am_tbl := am_t5 (List.mem_of_getElem? (i := 36) rfl) rfl
theorem aw_5_37 : (Cond.static ({ cls := "java/lang/Math", name := "abs", desc := "(I)I" } : MethodName)) ∈ am_tbl := am_t5 (List.mem_of_getElem? (i := 37) rfl) rfl
theorem aw_5_38 : (Cond.code ({ cls := "java/lang/Math", name := "abs", desc := "(I)I" } : MethodName) prog_14_method_59_code (1 : Nat) (Option.some FieldType.int)) ∈ am_tbl := am_t5 (List.mem_of_getElem? (i := 38) rfl) rfl
theorem aw_5_39 : (Cond.methodLink "BrokenBread" (305 : Nat) ({ cls := "BrokenBread$Seating", name := "companionsAmong", desc := "(II)I" } : MethodName)) ∈ am_tbl := am_t5 (List.mem_of_getElem? (i := 39) rfl) rfl
theorem aw_5_40 : (Cond.methodLink "BrokenBreadLaw" (142 : Nat) ({ cls := "BrokenBread", name := "lasts", desc := "(I)I" } : MethodName)) ∈ am_tbl := am_t5 (List.mem_of_getElem? (i := 40) rfl) rfl
theorem aw_5_41 : (Cond.instanceMethod ({ cls := "BrokenBread", name := "lasts", desc := "(I)I" } : MethodName)) ∈ am_tbl := am_t5 (List.mem_of_getElem? (i := 41) rfl) rfl
theorem aw_5_42 : (Cond.selects "BrokenBread" ({ cls := "BrokenBread", name := "lasts", desc := "(I)I" } : MethodName) ({ cls := "BrokenBread", name := "lasts", desc := "(I)I" } : MethodName)) ∈ am_tbl := am_t5 (List.mem_of_getElem? (i := 42) rfl) rfl
theorem aw_5_43 : (Cond.code ({ cls := "BrokenBread", name := "lasts", desc := "(I)I" } : MethodName) prog_1_method_33_code (4 : Nat) (Option.some FieldType.int)) ∈ am_tbl := am_t5 (List.mem_of_getElem? (i := 43) rfl) rfl
theorem aw_5_44 : (Cond.methodLink "BrokenBread" (308 : Nat) ({ cls := "java/lang/Math", name := "max", desc := "(II)I" } : MethodName)) ∈ am_tbl := am_t5 (List.mem_of_getElem? (i := 44) rfl) rfl
theorem aw_5_45 : (Cond.methodLink "BrokenBreadLaw" (146 : Nat) ({ cls := "BrokenBread", name := "fedBy", desc := "(I)I" } : MethodName)) ∈ am_tbl := am_t5 (List.mem_of_getElem? (i := 45) rfl) rfl
theorem aw_5_46 : (Cond.instanceMethod ({ cls := "BrokenBread", name := "fedBy", desc := "(I)I" } : MethodName)) ∈ am_tbl := am_t5 (List.mem_of_getElem? (i := 46) rfl) rfl
theorem aw_5_47 : (Cond.selects "BrokenBread" ({ cls := "BrokenBread", name := "fedBy", desc := "(I)I" } : MethodName) ({ cls := "BrokenBread", name := "fedBy", desc := "(I)I" } : MethodName)) ∈ am_tbl := am_t5 (List.mem_of_getElem? (i := 47) rfl) rfl
theorem aw_5_48 : (Cond.code ({ cls := "BrokenBread", name := "fedBy", desc := "(I)I" } : MethodName) prog_1_method_34_code (2 : Nat) (Option.some FieldType.int)) ∈ am_tbl := am_t5 (List.mem_of_getElem? (i := 48) rfl) rfl
theorem aw_5_49 : (Cond.methodLink "BrokenBread" (313 : Nat) ({ cls := "BrokenBread$Upland", name := "fedBelow", desc := "(I)I" } : MethodName)) ∈ am_tbl := am_t5 (List.mem_of_getElem? (i := 49) rfl) rfl
theorem aw_5_50 : (Cond.methodLink "BrokenBread" (316 : Nat) ({ cls := "BrokenBread$Seating", name := "fewestFeeding", desc := "(I)I" } : MethodName)) ∈ am_tbl := am_t5 (List.mem_of_getElem? (i := 50) rfl) rfl
theorem aw_5_51 : (Cond.instanceMethod ({ cls := "BrokenBread$Seating", name := "fewestFeeding", desc := "(I)I" } : MethodName)) ∈ am_tbl := am_t5 (List.mem_of_getElem? (i := 51) rfl) rfl
theorem aw_5_52 : (Cond.selects "BrokenBread$Seating" ({ cls := "BrokenBread$Seating", name := "fewestFeeding", desc := "(I)I" } : MethodName) ({ cls := "BrokenBread$Seating", name := "fewestFeeding", desc := "(I)I" } : MethodName)) ∈ am_tbl := am_t5 (List.mem_of_getElem? (i := 52) rfl) rfl
theorem aw_5_53 : (Cond.code ({ cls := "BrokenBread$Seating", name := "fewestFeeding", desc := "(I)I" } : MethodName) prog_8_method_12_code (3 : Nat) (Option.some FieldType.int)) ∈ am_tbl := am_t5 (List.mem_of_getElem? (i := 53) rfl) rfl
theorem aw_5_54 : (Cond.methodLink "BrokenBread$Seating" (75 : Nat) ({ cls := "BrokenBread$Seating", name := "addTable", desc := "(I)V" } : MethodName)) ∈ am_tbl := am_t5 (List.mem_of_getElem? (i := 54) rfl) rfl
theorem aw_5_56 : (Cond.instanceMethod ({ cls := "BrokenBread$Seating", name := "addTable", desc := "(I)V" } : MethodName)) ∈ am_tbl := am_t5 (List.mem_of_getElem? (i := 56) rfl) rfl
theorem aw_5_57 : (Cond.code ({ cls := "BrokenBread$Seating", name := "addTable", desc := "(I)V" } : MethodName) prog_8_method_13_code (5 : Nat) (Option.none : Option FieldType)) ∈ am_tbl := am_t5 (List.mem_of_getElem? (i := 57) rfl) rfl
theorem aw_5_58 : (Cond.methodLink "BrokenBreadLaw" (150 : Nat) ({ cls := "BrokenBread", name := "few", desc := "(II)J" } : MethodName)) ∈ am_tbl := am_t5 (List.mem_of_getElem? (i := 58) rfl) rfl
theorem aw_5_59 : (Cond.instanceMethod ({ cls := "BrokenBread", name := "few", desc := "(II)J" } : MethodName)) ∈ am_tbl := am_t5 (List.mem_of_getElem? (i := 59) rfl) rfl
theorem aw_5_60 : (Cond.selects "BrokenBread" ({ cls := "BrokenBread", name := "few", desc := "(II)J" } : MethodName) ({ cls := "BrokenBread", name := "few", desc := "(II)J" } : MethodName)) ∈ am_tbl := am_t5 (List.mem_of_getElem? (i := 60) rfl) rfl
theorem aw_5_61 : (Cond.code ({ cls := "BrokenBread", name := "few", desc := "(II)J" } : MethodName) prog_1_method_35_code (6 : Nat) (Option.some FieldType.long)) ∈ am_tbl := am_t5 (List.mem_of_getElem? (i := 61) rfl) rfl
theorem aw_5_62 : (Cond.constantLong "BrokenBread" (319 : Nat) (-1 : Int64)) ∈ am_tbl := am_t5 (List.mem_of_getElem? (i := 62) rfl) rfl
theorem aw_5_63 : (Cond.constantLong "BrokenBread" (321 : Nat) (1000000000000 : Int64)) ∈ am_tbl := am_t5 (List.mem_of_getElem? (i := 63) rfl) rfl
theorem aw_5_64 : (Cond.methodLink "BrokenBread" (323 : Nat) ({ cls := "BrokenBread", name := "seatGuest", desc := "(I)V" } : MethodName)) ∈ am_tbl := am_t5 (List.mem_of_getElem? (i := 64) rfl) rfl
theorem aw_5_66 : (Cond.instanceMethod ({ cls := "BrokenBread", name := "seatGuest", desc := "(I)V" } : MethodName)) ∈ am_tbl := am_t5 (List.mem_of_getElem? (i := 66) rfl) rfl
theorem aw_5_67 : (Cond.code ({ cls := "BrokenBread", name := "seatGuest", desc := "(I)V" } : MethodName) prog_1_method_56_code (7 : Nat) (Option.none : Option FieldType)) ∈ am_tbl := am_t5 (List.mem_of_getElem? (i := 67) rfl) rfl
theorem aw_5_68 : (Cond.constantLong "BrokenBread" (387 : Nat) (10 : Int64)) ∈ am_tbl := am_t5 (List.mem_of_getElem? (i := 68) rfl) rfl
theorem aw_5_69 : (Cond.methodLink "BrokenBreadLaw" (155 : Nat) ({ cls := "BrokenBread", name := "compare", desc := "(I)I" } : MethodName)) ∈ am_tbl := am_t5 (List.mem_of_getElem? (i := 69) rfl) rfl
theorem aw_5_70 : (Cond.instanceMethod ({ cls := "BrokenBread", name := "compare", desc := "(I)I" } : MethodName)) ∈ am_tbl := am_t5 (List.mem_of_getElem? (i := 70) rfl) rfl
theorem aw_5_71 : (Cond.selects "BrokenBread" ({ cls := "BrokenBread", name := "compare", desc := "(I)I" } : MethodName) ({ cls := "BrokenBread", name := "compare", desc := "(I)I" } : MethodName)) ∈ am_tbl := am_t5 (List.mem_of_getElem? (i := 71) rfl) rfl
theorem aw_5_72 : (Cond.code ({ cls := "BrokenBread", name := "compare", desc := "(I)I" } : MethodName) prog_1_method_36_code (2 : Nat) (Option.some FieldType.int)) ∈ am_tbl := am_t5 (List.mem_of_getElem? (i := 72) rfl) rfl
theorem aw_5_73 : (Cond.methodLink "BrokenBreadLaw" (159 : Nat) ({ cls := "BrokenBread", name := "seasons", desc := "(II)I" } : MethodName)) ∈ am_tbl := am_t5 (List.mem_of_getElem? (i := 73) rfl) rfl
theorem aw_5_74 : (Cond.instanceMethod ({ cls := "BrokenBread", name := "seasons", desc := "(II)I" } : MethodName)) ∈ am_tbl := am_t5 (List.mem_of_getElem? (i := 74) rfl) rfl
theorem aw_5_75 : (Cond.selects "BrokenBread" ({ cls := "BrokenBread", name := "seasons", desc := "(II)I" } : MethodName) ({ cls := "BrokenBread", name := "seasons", desc := "(II)I" } : MethodName)) ∈ am_tbl := am_t5 (List.mem_of_getElem? (i := 75) rfl) rfl
theorem aw_5_76 : (Cond.code ({ cls := "BrokenBread", name := "seasons", desc := "(II)I" } : MethodName) prog_1_method_37_code (4 : Nat) (Option.some FieldType.int)) ∈ am_tbl := am_t5 (List.mem_of_getElem? (i := 76) rfl) rfl
theorem aw_5_77 : (Cond.constant "BrokenBread" (337 : Nat) (1000000 : Int32)) ∈ am_tbl := am_t5 (List.mem_of_getElem? (i := 77) rfl) rfl
theorem aw_5_78 : (Cond.methodLink "BrokenBread" (338 : Nat) ({ cls := "BrokenBread$Draws", name := "begin", desc := "(I)V" } : MethodName)) ∈ am_tbl := am_t5 (List.mem_of_getElem? (i := 78) rfl) rfl
theorem aw_5_79 : (Cond.instanceMethod ({ cls := "BrokenBread$Draws", name := "begin", desc := "(I)V" } : MethodName)) ∈ am_tbl := am_t5 (List.mem_of_getElem? (i := 79) rfl) rfl
theorem aw_5_80 : (Cond.selects "BrokenBread$Draws" ({ cls := "BrokenBread$Draws", name := "begin", desc := "(I)V" } : MethodName) ({ cls := "BrokenBread$Draws", name := "begin", desc := "(I)V" } : MethodName)) ∈ am_tbl := am_t5 (List.mem_of_getElem? (i := 80) rfl) rfl
theorem aw_5_81 : (Cond.code ({ cls := "BrokenBread$Draws", name := "begin", desc := "(I)V" } : MethodName) prog_2_method_2_code (2 : Nat) (Option.none : Option FieldType)) ∈ am_tbl := am_t5 (List.mem_of_getElem? (i := 81) rfl) rfl
theorem aw_5_82 : (Cond.methodLink "BrokenBread" (341 : Nat) ({ cls := "BrokenBread", name := "oneSeason", desc := "()V" } : MethodName)) ∈ am_tbl := am_t5 (List.mem_of_getElem? (i := 82) rfl) rfl
theorem aw_5_84 : (Cond.instanceMethod ({ cls := "BrokenBread", name := "oneSeason", desc := "()V" } : MethodName)) ∈ am_tbl := am_t5 (List.mem_of_getElem? (i := 84) rfl) rfl
theorem aw_5_85 : (Cond.code ({ cls := "BrokenBread", name := "oneSeason", desc := "()V" } : MethodName) prog_1_method_57_code (5 : Nat) (Option.none : Option FieldType)) ∈ am_tbl := am_t5 (List.mem_of_getElem? (i := 85) rfl) rfl
theorem aw_5_86 : (Cond.methodLink "BrokenBread" (389 : Nat) ({ cls := "BrokenBread$Draws", name := "next", desc := "(I)I" } : MethodName)) ∈ am_tbl := am_t5 (List.mem_of_getElem? (i := 86) rfl) rfl
theorem aw_5_87 : (Cond.instanceMethod ({ cls := "BrokenBread$Draws", name := "next", desc := "(I)I" } : MethodName)) ∈ am_tbl := am_t5 (List.mem_of_getElem? (i := 87) rfl) rfl
theorem aw_5_88 : (Cond.selects "BrokenBread$Draws" ({ cls := "BrokenBread$Draws", name := "next", desc := "(I)I" } : MethodName) ({ cls := "BrokenBread$Draws", name := "next", desc := "(I)I" } : MethodName)) ∈ am_tbl := am_t5 (List.mem_of_getElem? (i := 88) rfl) rfl
theorem aw_5_89 : (Cond.code ({ cls := "BrokenBread$Draws", name := "next", desc := "(I)I" } : MethodName) prog_2_method_3_code (2 : Nat) (Option.some FieldType.int)) ∈ am_tbl := am_t5 (List.mem_of_getElem? (i := 89) rfl) rfl
theorem aw_5_90 : (Cond.constantLong "BrokenBread$Draws" (13 : Nat) (1103 : Int64)) ∈ am_tbl := am_t5 (List.mem_of_getElem? (i := 90) rfl) rfl
theorem aw_5_91 : (Cond.constantLong "BrokenBread$Draws" (15 : Nat) (12345 : Int64)) ∈ am_tbl := am_t5 (List.mem_of_getElem? (i := 91) rfl) rfl
theorem aw_5_92 : (Cond.constantLong "BrokenBread$Draws" (17 : Nat) (1000003 : Int64)) ∈ am_tbl := am_t5 (List.mem_of_getElem? (i := 92) rfl) rfl
theorem aw_5_93 : (Cond.methodLink "BrokenBread" (392 : Nat) ({ cls := "BrokenBread", name := "seasonDeed", desc := "(IIII)V" } : MethodName)) ∈ am_tbl := am_t5 (List.mem_of_getElem? (i := 93) rfl) rfl
theorem aw_5_95 : (Cond.instanceMethod ({ cls := "BrokenBread", name := "seasonDeed", desc := "(IIII)V" } : MethodName)) ∈ am_tbl := am_t5 (List.mem_of_getElem? (i := 95) rfl) rfl
theorem aw_5_96 : (Cond.code ({ cls := "BrokenBread", name := "seasonDeed", desc := "(IIII)V" } : MethodName) prog_1_method_58_code (7 : Nat) (Option.none : Option FieldType)) ∈ am_tbl := am_t5 (List.mem_of_getElem? (i := 96) rfl) rfl
theorem aw_5_97 : (Cond.methodLink "BrokenBreadLaw" (163 : Nat) ({ cls := "BrokenBread", name := "drawn", desc := "(II)I" } : MethodName)) ∈ am_tbl := am_t5 (List.mem_of_getElem? (i := 97) rfl) rfl
theorem aw_5_98 : (Cond.instanceMethod ({ cls := "BrokenBread", name := "drawn", desc := "(II)I" } : MethodName)) ∈ am_tbl := am_t5 (List.mem_of_getElem? (i := 98) rfl) rfl
theorem aw_5_99 : (Cond.selects "BrokenBread" ({ cls := "BrokenBread", name := "drawn", desc := "(II)I" } : MethodName) ({ cls := "BrokenBread", name := "drawn", desc := "(II)I" } : MethodName)) ∈ am_tbl := am_t5 (List.mem_of_getElem? (i := 99) rfl) rfl
theorem aw_5_100 : (Cond.code ({ cls := "BrokenBread", name := "drawn", desc := "(II)I" } : MethodName) prog_1_method_38_code (3 : Nat) (Option.some FieldType.int)) ∈ am_tbl := am_t5 (List.mem_of_getElem? (i := 100) rfl) rfl
theorem aw_5_101 : (Cond.methodLink "BrokenBreadLaw" (167 : Nat) ({ cls := "BrokenBread", name := "image", desc := "(I)I" } : MethodName)) ∈ am_tbl := am_t5 (List.mem_of_getElem? (i := 101) rfl) rfl
theorem aw_5_102 : (Cond.instanceMethod ({ cls := "BrokenBread", name := "image", desc := "(I)I" } : MethodName)) ∈ am_tbl := am_t5 (List.mem_of_getElem? (i := 102) rfl) rfl
theorem aw_5_103 : (Cond.selects "BrokenBread" ({ cls := "BrokenBread", name := "image", desc := "(I)I" } : MethodName) ({ cls := "BrokenBread", name := "image", desc := "(I)I" } : MethodName)) ∈ am_tbl := am_t5 (List.mem_of_getElem? (i := 103) rfl) rfl
theorem aw_5_104 : (Cond.code ({ cls := "BrokenBread", name := "image", desc := "(I)I" } : MethodName) prog_1_method_39_code (3 : Nat) (Option.some FieldType.int)) ∈ am_tbl := am_t5 (List.mem_of_getElem? (i := 104) rfl) rfl
theorem aw_5_105 : (Cond.methodLink "BrokenBreadLaw" (171 : Nat) ({ cls := "BrokenBread", name := "back", desc := "(I)I" } : MethodName)) ∈ am_tbl := am_t5 (List.mem_of_getElem? (i := 105) rfl) rfl
theorem aw_5_106 : (Cond.instanceMethod ({ cls := "BrokenBread", name := "back", desc := "(I)I" } : MethodName)) ∈ am_tbl := am_t5 (List.mem_of_getElem? (i := 106) rfl) rfl
theorem aw_5_107 : (Cond.selects "BrokenBread" ({ cls := "BrokenBread", name := "back", desc := "(I)I" } : MethodName) ({ cls := "BrokenBread", name := "back", desc := "(I)I" } : MethodName)) ∈ am_tbl := am_t5 (List.mem_of_getElem? (i := 107) rfl) rfl
theorem aw_5_108 : (Cond.code ({ cls := "BrokenBread", name := "back", desc := "(I)I" } : MethodName) prog_1_method_40_code (3 : Nat) (Option.some FieldType.int)) ∈ am_tbl := am_t5 (List.mem_of_getElem? (i := 108) rfl) rfl
theorem aw_5_109 : (Cond.methodLink "BrokenBreadLaw" (175 : Nat) ({ cls := "BrokenBread", name := "count", desc := "(I)I" } : MethodName)) ∈ am_tbl := am_t5 (List.mem_of_getElem? (i := 109) rfl) rfl
theorem aw_5_110 : (Cond.instanceMethod ({ cls := "BrokenBread", name := "count", desc := "(I)I" } : MethodName)) ∈ am_tbl := am_t5 (List.mem_of_getElem? (i := 110) rfl) rfl
theorem aw_5_111 : (Cond.selects "BrokenBread" ({ cls := "BrokenBread", name := "count", desc := "(I)I" } : MethodName) ({ cls := "BrokenBread", name := "count", desc := "(I)I" } : MethodName)) ∈ am_tbl := am_t5 (List.mem_of_getElem? (i := 111) rfl) rfl
theorem aw_5_112 : (Cond.code ({ cls := "BrokenBread", name := "count", desc := "(I)I" } : MethodName) prog_1_method_41_code (2 : Nat) (Option.some FieldType.int)) ∈ am_tbl := am_t5 (List.mem_of_getElem? (i := 112) rfl) rfl
theorem aw_5_113 : (Cond.methodLink "BrokenBreadLaw" (179 : Nat) ({ cls := "BrokenBread", name := "status", desc := "()I" } : MethodName)) ∈ am_tbl := am_t5 (List.mem_of_getElem? (i := 113) rfl) rfl
theorem aw_5_114 : (Cond.instanceMethod ({ cls := "BrokenBread", name := "status", desc := "()I" } : MethodName)) ∈ am_tbl := am_t5 (List.mem_of_getElem? (i := 114) rfl) rfl
theorem aw_5_115 : (Cond.selects "BrokenBread" ({ cls := "BrokenBread", name := "status", desc := "()I" } : MethodName) ({ cls := "BrokenBread", name := "status", desc := "()I" } : MethodName)) ∈ am_tbl := am_t5 (List.mem_of_getElem? (i := 115) rfl) rfl
theorem aw_5_116 : (Cond.code ({ cls := "BrokenBread", name := "status", desc := "()I" } : MethodName) prog_1_method_42_code (1 : Nat) (Option.some FieldType.int)) ∈ am_tbl := am_t5 (List.mem_of_getElem? (i := 116) rfl) rfl
theorem aw_5_117 : (Cond.classLink "BrokenBreadLaw" (10 : Nat) "BrokenBreadModel") ∈ am_tbl := am_t5 (List.mem_of_getElem? (i := 117) rfl) rfl
theorem aw_5_118 : (Cond.instantiable "BrokenBreadModel" (62 : Nat)) ∈ am_tbl := am_t5 (List.mem_of_getElem? (i := 118) rfl) rfl
theorem aw_5_119 : (Cond.methodLink "BrokenBreadLaw" (12 : Nat) ({ cls := "BrokenBreadModel", name := "<init>", desc := "()V" } : MethodName)) ∈ am_tbl := am_t5 (List.mem_of_getElem? (i := 119) rfl) rfl
theorem aw_5_120 : (Cond.instanceMethod ({ cls := "BrokenBreadModel", name := "<init>", desc := "()V" } : MethodName)) ∈ am_tbl := am_t5 (List.mem_of_getElem? (i := 120) rfl) rfl
theorem aw_5_121 : (Cond.code ({ cls := "BrokenBreadModel", name := "<init>", desc := "()V" } : MethodName) prog_12_method_1_code (1 : Nat) (Option.none : Option FieldType)) ∈ am_tbl := am_t5 (List.mem_of_getElem? (i := 121) rfl) rfl
theorem aw_5_122 : (Cond.methodLink "BrokenBreadModel" (1 : Nat) ({ cls := "java/lang/Object", name := "<init>", desc := "()V" } : MethodName)) ∈ am_tbl := am_t5 (List.mem_of_getElem? (i := 122) rfl) rfl
theorem aw_5_123 : (Cond.constantLong "BrokenBreadModel" (57 : Nat) (146610 : Int64)) ∈ am_tbl := am_t5 (List.mem_of_getElem? (i := 123) rfl) rfl
theorem aw_5_124 : (Cond.constantLong "BrokenBreadModel" (59 : Nat) (16392370 : Int64)) ∈ am_tbl := am_t5 (List.mem_of_getElem? (i := 124) rfl) rfl
theorem aw_5_125 : (Cond.constantLong "BrokenBreadModel" (61 : Nat) (777297172 : Int64)) ∈ am_tbl := am_t5 (List.mem_of_getElem? (i := 125) rfl) rfl
theorem aw_5_126 : (Cond.constantLong "BrokenBreadModel" (63 : Nat) (1253 : Int64)) ∈ am_tbl := am_t5 (List.mem_of_getElem? (i := 126) rfl) rfl
theorem aw_5_127 : (Cond.constantLong "BrokenBreadModel" (65 : Nat) (6308 : Int64)) ∈ am_tbl := am_t5 (List.mem_of_getElem? (i := 127) rfl) rfl
theorem aw_5_128 : (Cond.constantLong "BrokenBreadModel" (67 : Nat) (632645 : Int64)) ∈ am_tbl := am_t5 (List.mem_of_getElem? (i := 128) rfl) rfl
theorem aw_5_129 : (Cond.constantLong "BrokenBreadModel" (69 : Nat) (4153 : Int64)) ∈ am_tbl := am_t5 (List.mem_of_getElem? (i := 129) rfl) rfl
theorem aw_5_130 : (Cond.constantLong "BrokenBreadModel" (71 : Nat) (441828 : Int64)) ∈ am_tbl := am_t5 (List.mem_of_getElem? (i := 130) rfl) rfl
theorem aw_5_131 : (Cond.constantLong "BrokenBreadModel" (77 : Nat) (146885 : Int64)) ∈ am_tbl := am_t5 (List.mem_of_getElem? (i := 131) rfl) rfl
theorem aw_5_132 : (Cond.constantLong "BrokenBreadModel" (79 : Nat) (404362868 : Int64)) ∈ am_tbl := am_t5 (List.mem_of_getElem? (i := 132) rfl) rfl
theorem aw_5_133 : (Cond.constantLong "BrokenBreadModel" (81 : Nat) (8440243 : Int64)) ∈ am_tbl := am_t5 (List.mem_of_getElem? (i := 133) rfl) rfl
theorem aw_5_134 : (Cond.constantLong "BrokenBreadModel" (83 : Nat) (674363024839 : Int64)) ∈ am_tbl := am_t5 (List.mem_of_getElem? (i := 134) rfl) rfl
theorem aw_5_135 : (Cond.constantLong "BrokenBreadModel" (85 : Nat) (52 : Int64)) ∈ am_tbl := am_t5 (List.mem_of_getElem? (i := 135) rfl) rfl
theorem aw_5_136 : (Cond.constantLong "BrokenBreadModel" (90 : Nat) (117095059 : Int64)) ∈ am_tbl := am_t5 (List.mem_of_getElem? (i := 136) rfl) rfl
theorem aw_5_137 : (Cond.constantLong "BrokenBreadModel" (92 : Nat) (6460563 : Int64)) ∈ am_tbl := am_t5 (List.mem_of_getElem? (i := 137) rfl) rfl
theorem aw_5_138 : (Cond.constantLong "BrokenBreadModel" (94 : Nat) (9309492819 : Int64)) ∈ am_tbl := am_t5 (List.mem_of_getElem? (i := 138) rfl) rfl
theorem aw_5_139 : (Cond.constantLong "BrokenBreadModel" (96 : Nat) (67155 : Int64)) ∈ am_tbl := am_t5 (List.mem_of_getElem? (i := 139) rfl) rfl
theorem aw_5_140 : (Cond.constantLong "BrokenBreadModel" (140 : Nat) (263757 : Int64)) ∈ am_tbl := am_t5 (List.mem_of_getElem? (i := 140) rfl) rfl
theorem aw_5_141 : (Cond.constantLong "BrokenBreadModel" (142 : Nat) (6456948 : Int64)) ∈ am_tbl := am_t5 (List.mem_of_getElem? (i := 141) rfl) rfl
theorem aw_5_142 : (Cond.constantLong "BrokenBreadModel" (144 : Nat) (538513902 : Int64)) ∈ am_tbl := am_t5 (List.mem_of_getElem? (i := 142) rfl) rfl
theorem aw_5_143 : (Cond.constantLong "BrokenBreadModel" (146 : Nat) (525939 : Int64)) ∈ am_tbl := am_t5 (List.mem_of_getElem? (i := 143) rfl) rfl
theorem aw_5_144 : (Cond.fieldLink "BrokenBreadModel" (166 : Nat) "BrokenBreadModel" "thrown" "I") ∈ am_tbl := am_t5 (List.mem_of_getElem? (i := 144) rfl) rfl
theorem aw_5_145 : (Cond.fieldLink "BrokenBreadModel" (169 : Nat) "BrokenBreadModel" "status" "I") ∈ am_tbl := am_t5 (List.mem_of_getElem? (i := 145) rfl) rfl
theorem aw_5_146 : (Cond.fieldLink "BrokenBreadModel" (7 : Nat) "BrokenBreadModel" "refusals" "[I") ∈ am_tbl := am_t5 (List.mem_of_getElem? (i := 146) rfl) rfl
theorem aw_5_147 : (Cond.fieldLink "BrokenBreadModel" (13 : Nat) "BrokenBreadModel" "row" "[I") ∈ am_tbl := am_t5 (List.mem_of_getElem? (i := 147) rfl) rfl
theorem aw_5_148 : (Cond.fieldLink "BrokenBreadModel" (16 : Nat) "BrokenBreadModel" "images" "[I") ∈ am_tbl := am_t5 (List.mem_of_getElem? (i := 148) rfl) rfl
theorem aw_5_149 : (Cond.fieldLink "BrokenBreadModel" (19 : Nat) "BrokenBreadModel" "isKept" "[Z") ∈ am_tbl := am_t5 (List.mem_of_getElem? (i := 149) rfl) rfl
theorem aw_5_150 : (Cond.fieldLink "BrokenBreadModel" (23 : Nat) "BrokenBreadModel" "undos" "[I") ∈ am_tbl := am_t5 (List.mem_of_getElem? (i := 150) rfl) rfl
theorem aw_5_151 : (Cond.fieldLink "BrokenBreadModel" (26 : Nat) "BrokenBreadModel" "sorts" "[I") ∈ am_tbl := am_t5 (List.mem_of_getElem? (i := 151) rfl) rfl
theorem aw_5_152 : (Cond.fieldLink "BrokenBreadModel" (172 : Nat) "BrokenBreadModel" "nUndo" "I") ∈ am_tbl := am_t5 (List.mem_of_getElem? (i := 152) rfl) rfl
theorem aw_5_153 : (Cond.fieldLink "BrokenBreadModel" (29 : Nat) "BrokenBreadModel" "undosBefore" "[I") ∈ am_tbl := am_t5 (List.mem_of_getElem? (i := 153) rfl) rfl
theorem aw_5_154 : (Cond.fieldLink "BrokenBreadModel" (32 : Nat) "BrokenBreadModel" "sortsBefore" "[I") ∈ am_tbl := am_t5 (List.mem_of_getElem? (i := 154) rfl) rfl
theorem aw_5_155 : (Cond.fieldLink "BrokenBreadModel" (242 : Nat) "BrokenBreadModel" "crumbs" "I") ∈ am_tbl := am_t5 (List.mem_of_getElem? (i := 155) rfl) rfl
theorem aw_5_156 : (Cond.fieldLink "BrokenBreadModel" (35 : Nat) "BrokenBreadModel" "tape" "[I") ∈ am_tbl := am_t5 (List.mem_of_getElem? (i := 156) rfl) rfl
theorem aw_5_157 : (Cond.fieldLink "BrokenBreadModel" (239 : Nat) "BrokenBreadModel" "taped" "I") ∈ am_tbl := am_t5 (List.mem_of_getElem? (i := 157) rfl) rfl
theorem aw_5_158 : (Cond.fieldLink "BrokenBreadModel" (262 : Nat) "BrokenBreadModel" "from" "I") ∈ am_tbl := am_t5 (List.mem_of_getElem? (i := 158) rfl) rfl
theorem aw_5_159 : (Cond.fieldLink "BrokenBreadModel" (252 : Nat) "BrokenBreadModel" "to" "I") ∈ am_tbl := am_t5 (List.mem_of_getElem? (i := 159) rfl) rfl
theorem aw_5_160 : (Cond.fieldLink "BrokenBreadModel" (275 : Nat) "BrokenBreadModel" "sort" "I") ∈ am_tbl := am_t5 (List.mem_of_getElem? (i := 160) rfl) rfl
theorem aw_5_161 : (Cond.fieldLink "BrokenBreadModel" (265 : Nat) "BrokenBreadModel" "worth" "J") ∈ am_tbl := am_t5 (List.mem_of_getElem? (i := 161) rfl) rfl
theorem aw_5_162 : (Cond.fieldLink "BrokenBreadModel" (38 : Nat) "BrokenBreadModel" "fault" "I") ∈ am_tbl := am_t5 (List.mem_of_getElem? (i := 162) rfl) rfl
theorem aw_5_163 : (Cond.fieldLink "BrokenBreadModel" (255 : Nat) "BrokenBreadModel" "bad" "Z") ∈ am_tbl := am_t5 (List.mem_of_getElem? (i := 163) rfl) rfl
theorem aw_5_164 : (Cond.fieldLink "BrokenBreadModel" (332 : Nat) "BrokenBreadModel" "ordered" "Z") ∈ am_tbl := am_t5 (List.mem_of_getElem? (i := 164) rfl) rfl
theorem aw_5_165 : (Cond.fieldLink "BrokenBreadModel" (385 : Nat) "BrokenBreadModel" "nClauses" "I") ∈ am_tbl := am_t5 (List.mem_of_getElem? (i := 165) rfl) rfl
theorem aw_5_166 : (Cond.fieldLink "BrokenBreadModel" (42 : Nat) "BrokenBreadModel" "nClause" "[I") ∈ am_tbl := am_t5 (List.mem_of_getElem? (i := 166) rfl) rfl
theorem aw_5_167 : (Cond.fieldLink "BrokenBreadModel" (292 : Nat) "BrokenBreadModel" "nCode" "I") ∈ am_tbl := am_t5 (List.mem_of_getElem? (i := 167) rfl) rfl
theorem aw_5_168 : (Cond.fieldLink "BrokenBreadModel" (45 : Nat) "BrokenBreadModel" "nOp" "[I") ∈ am_tbl := am_t5 (List.mem_of_getElem? (i := 168) rfl) rfl
theorem aw_5_169 : (Cond.fieldLink "BrokenBreadModel" (48 : Nat) "BrokenBreadModel" "nArg" "[I") ∈ am_tbl := am_t5 (List.mem_of_getElem? (i := 169) rfl) rfl
theorem aw_5_170 : (Cond.fieldLink "BrokenBreadModel" (323 : Nat) "BrokenBreadModel" "nLeaves" "I") ∈ am_tbl := am_t5 (List.mem_of_getElem? (i := 170) rfl) rfl
theorem aw_5_171 : (Cond.fieldLink "BrokenBreadModel" (51 : Nat) "BrokenBreadModel" "pile" "[I") ∈ am_tbl := am_t5 (List.mem_of_getElem? (i := 171) rfl) rfl
theorem aw_5_172 : (Cond.fieldLink "BrokenBreadModel" (54 : Nat) "BrokenBreadModel" "pileAt" "[I") ∈ am_tbl := am_t5 (List.mem_of_getElem? (i := 172) rfl) rfl
theorem aw_5_173 : (Cond.fieldLink "BrokenBreadModel" (295 : Nat) "BrokenBreadModel" "piled" "I") ∈ am_tbl := am_t5 (List.mem_of_getElem? (i := 173) rfl) rfl
theorem aw_5_174 : (Cond.fieldLink "BrokenBreadModel" (317 : Nat) "BrokenBreadModel" "opened" "I") ∈ am_tbl := am_t5 (List.mem_of_getElem? (i := 174) rfl) rfl
theorem aw_5_175 : (Cond.fieldLink "BrokenBreadModel" (73 : Nat) "BrokenBreadModel" "words" "[J") ∈ am_tbl := am_t5 (List.mem_of_getElem? (i := 175) rfl) rfl
theorem aw_5_176 : (Cond.fieldLink "BrokenBreadModel" (87 : Nat) "BrokenBreadModel" "orderWords" "[J") ∈ am_tbl := am_t5 (List.mem_of_getElem? (i := 176) rfl) rfl
theorem aw_5_177 : (Cond.fieldLink "BrokenBreadModel" (98 : Nat) "BrokenBreadModel" "heads" "[J") ∈ am_tbl := am_t5 (List.mem_of_getElem? (i := 177) rfl) rfl
theorem aw_5_178 : (Cond.fieldLink "BrokenBreadModel" (408 : Nat) "BrokenBreadModel" "law" "I") ∈ am_tbl := am_t5 (List.mem_of_getElem? (i := 178) rfl) rfl
theorem aw_5_179 : (Cond.fieldLink "BrokenBreadModel" (101 : Nat) "BrokenBreadModel" "set" "[J") ∈ am_tbl := am_t5 (List.mem_of_getElem? (i := 179) rfl) rfl
theorem aw_5_180 : (Cond.fieldLink "BrokenBreadModel" (104 : Nat) "BrokenBreadModel" "now" "[J") ∈ am_tbl := am_t5 (List.mem_of_getElem? (i := 180) rfl) rfl
theorem aw_5_181 : (Cond.fieldLink "BrokenBreadModel" (107 : Nat) "BrokenBreadModel" "rest" "[J") ∈ am_tbl := am_t5 (List.mem_of_getElem? (i := 181) rfl) rfl
theorem aw_5_182 : (Cond.fieldLink "BrokenBreadModel" (405 : Nat) "BrokenBreadModel" "broken" "Z") ∈ am_tbl := am_t5 (List.mem_of_getElem? (i := 182) rfl) rfl
theorem aw_5_183 : (Cond.fieldLink "BrokenBreadModel" (419 : Nat) "BrokenBreadModel" "value" "J") ∈ am_tbl := am_t5 (List.mem_of_getElem? (i := 183) rfl) rfl
theorem aw_5_184 : (Cond.fieldLink "BrokenBreadModel" (425 : Nat) "BrokenBreadModel" "sum" "J") ∈ am_tbl := am_t5 (List.mem_of_getElem? (i := 184) rfl) rfl
theorem aw_5_185 : (Cond.fieldLink "BrokenBreadModel" (110 : Nat) "BrokenBreadModel" "may" "[Z") ∈ am_tbl := am_t5 (List.mem_of_getElem? (i := 185) rfl) rfl
theorem aw_5_186 : (Cond.fieldLink "BrokenBreadModel" (113 : Nat) "BrokenBreadModel" "apart" "[Z") ∈ am_tbl := am_t5 (List.mem_of_getElem? (i := 186) rfl) rfl
theorem aw_5_187 : (Cond.fieldLink "BrokenBreadModel" (116 : Nat) "BrokenBreadModel" "change1" "[I") ∈ am_tbl := am_t5 (List.mem_of_getElem? (i := 187) rfl) rfl
theorem aw_5_188 : (Cond.fieldLink "BrokenBreadModel" (119 : Nat) "BrokenBreadModel" "tried" "[I") ∈ am_tbl := am_t5 (List.mem_of_getElem? (i := 188) rfl) rfl
theorem aw_5_189 : (Cond.fieldLink "BrokenBreadModel" (122 : Nat) "BrokenBreadModel" "best" "[I") ∈ am_tbl := am_t5 (List.mem_of_getElem? (i := 189) rfl) rfl
theorem aw_5_190 : (Cond.fieldLink "BrokenBreadModel" (494 : Nat) "BrokenBreadModel" "value1" "I") ∈ am_tbl := am_t5 (List.mem_of_getElem? (i := 190) rfl) rfl
theorem aw_5_191 : (Cond.fieldLink "BrokenBreadModel" (125 : Nat) "BrokenBreadModel" "canPart" "[Z") ∈ am_tbl := am_t5 (List.mem_of_getElem? (i := 191) rfl) rfl
theorem aw_5_192 : (Cond.fieldLink "BrokenBreadModel" (128 : Nat) "BrokenBreadModel" "table" "[Z") ∈ am_tbl := am_t5 (List.mem_of_getElem? (i := 192) rfl) rfl
theorem aw_5_193 : (Cond.fieldLink "BrokenBreadModel" (131 : Nat) "BrokenBreadModel" "far" "[I") ∈ am_tbl := am_t5 (List.mem_of_getElem? (i := 193) rfl) rfl
theorem aw_5_194 : (Cond.fieldLink "BrokenBreadModel" (134 : Nat) "BrokenBreadModel" "few1" "[I") ∈ am_tbl := am_t5 (List.mem_of_getElem? (i := 194) rfl) rfl
theorem aw_5_195 : (Cond.fieldLink "BrokenBreadModel" (137 : Nat) "BrokenBreadModel" "parts" "[J") ∈ am_tbl := am_t5 (List.mem_of_getElem? (i := 195) rfl) rfl
theorem aw_5_196 : (Cond.fieldLink "BrokenBreadModel" (148 : Nat) "BrokenBreadModel" "acts" "[J") ∈ am_tbl := am_t5 (List.mem_of_getElem? (i := 196) rfl) rfl
theorem aw_5_197 : (Cond.fieldLink "BrokenBreadModel" (151 : Nat) "BrokenBreadModel" "nOrder" "[I") ∈ am_tbl := am_t5 (List.mem_of_getElem? (i := 197) rfl) rfl
theorem aw_5_198 : (Cond.fieldLink "BrokenBreadModel" (154 : Nat) "BrokenBreadModel" "sittingNow" "[I") ∈ am_tbl := am_t5 (List.mem_of_getElem? (i := 198) rfl) rfl
theorem aw_5_199 : (Cond.fieldLink "BrokenBreadModel" (544 : Nat) "BrokenBreadModel" "done" "I") ∈ am_tbl := am_t5 (List.mem_of_getElem? (i := 199) rfl) rfl
theorem aw_5_200 : (Cond.fieldLink "BrokenBreadModel" (547 : Nat) "BrokenBreadModel" "latest" "I") ∈ am_tbl := am_t5 (List.mem_of_getElem? (i := 200) rfl) rfl
theorem aw_5_201 : (Cond.fieldLink "BrokenBreadModel" (157 : Nat) "BrokenBreadModel" "stopped" "I") ∈ am_tbl := am_t5 (List.mem_of_getElem? (i := 201) rfl) rfl
theorem aw_5_202 : (Cond.fieldLink "BrokenBreadModel" (541 : Nat) "BrokenBreadModel" "off" "Z") ∈ am_tbl := am_t5 (List.mem_of_getElem? (i := 202) rfl) rfl
theorem aw_5_203 : (Cond.fieldLink "BrokenBreadModel" (569 : Nat) "BrokenBreadModel" "state" "J") ∈ am_tbl := am_t5 (List.mem_of_getElem? (i := 203) rfl) rfl
theorem aw_5_204 : (Cond.fieldLink "BrokenBreadModel" (160 : Nat) "BrokenBreadModel" "drawn" "[I") ∈ am_tbl := am_t5 (List.mem_of_getElem? (i := 204) rfl) rfl
theorem aw_5_205 : (Cond.fieldLink "BrokenBreadModel" (163 : Nat) "BrokenBreadModel" "drawnFolk" "I") ∈ am_tbl := am_t5 (List.mem_of_getElem? (i := 205) rfl) rfl
theorem aw_6_91 : (Cond.methodLink "BrokenBreadLaw" (89 : Nat) ({ cls := "BrokenBreadModel", name := "undo", desc := "()I" } : MethodName)) ∈ am_tbl := am_t6 (List.mem_of_getElem? (i := 91) rfl) rfl
theorem aw_6_92 : (Cond.instanceMethod ({ cls := "BrokenBreadModel", name := "undo", desc := "()I" } : MethodName)) ∈ am_tbl := am_t6 (List.mem_of_getElem? (i := 92) rfl) rfl
theorem aw_6_93 : (Cond.selects "BrokenBreadModel" ({ cls := "BrokenBreadModel", name := "undo", desc := "()I" } : MethodName) ({ cls := "BrokenBreadModel", name := "undo", desc := "()I" } : MethodName)) ∈ am_tbl := am_t6 (List.mem_of_getElem? (i := 93) rfl) rfl
theorem aw_6_94 : (Cond.code ({ cls := "BrokenBreadModel", name := "undo", desc := "()I" } : MethodName) prog_12_method_13_code (1 : Nat) (Option.some FieldType.int)) ∈ am_tbl := am_t6 (List.mem_of_getElem? (i := 94) rfl) rfl
theorem aw_6_95 : (Cond.methodLink "BrokenBreadModel" (175 : Nat) ({ cls := "BrokenBreadModel", name := "tell", desc := "(I)I" } : MethodName)) ∈ am_tbl := am_t6 (List.mem_of_getElem? (i := 95) rfl) rfl
theorem aw_6_97 : (Cond.instanceMethod ({ cls := "BrokenBreadModel", name := "tell", desc := "(I)I" } : MethodName)) ∈ am_tbl := am_t6 (List.mem_of_getElem? (i := 97) rfl) rfl
theorem aw_6_98 : (Cond.code ({ cls := "BrokenBreadModel", name := "tell", desc := "(I)I" } : MethodName) prog_12_method_7_code (2 : Nat) (Option.some FieldType.int)) ∈ am_tbl := am_t6 (List.mem_of_getElem? (i := 98) rfl) rfl
theorem aw_6_99 : (Cond.methodLink "BrokenBreadModel" (183 : Nat) ({ cls := "BrokenBreadModel", name := "putBack", desc := "(I)V" } : MethodName)) ∈ am_tbl := am_t6 (List.mem_of_getElem? (i := 99) rfl) rfl
theorem aw_6_101 : (Cond.instanceMethod ({ cls := "BrokenBreadModel", name := "putBack", desc := "(I)V" } : MethodName)) ∈ am_tbl := am_t6 (List.mem_of_getElem? (i := 101) rfl) rfl
theorem aw_6_102 : (Cond.code ({ cls := "BrokenBreadModel", name := "putBack", desc := "(I)V" } : MethodName) prog_12_method_11_code (3 : Nat) (Option.none : Option FieldType)) ∈ am_tbl := am_t6 (List.mem_of_getElem? (i := 102) rfl) rfl
theorem aw_6_103 : (Cond.methodLink "BrokenBreadLaw" (170 : Nat) ({ cls := "BrokenBreadModel", name := "image", desc := "(I)I" } : MethodName)) ∈ am_tbl := am_t6 (List.mem_of_getElem? (i := 103) rfl) rfl
theorem aw_6_104 : (Cond.instanceMethod ({ cls := "BrokenBreadModel", name := "image", desc := "(I)I" } : MethodName)) ∈ am_tbl := am_t6 (List.mem_of_getElem? (i := 104) rfl) rfl
theorem aw_6_105 : (Cond.selects "BrokenBreadModel" ({ cls := "BrokenBreadModel", name := "image", desc := "(I)I" } : MethodName) ({ cls := "BrokenBreadModel", name := "image", desc := "(I)I" } : MethodName)) ∈ am_tbl := am_t6 (List.mem_of_getElem? (i := 105) rfl) rfl
theorem aw_6_106 : (Cond.code ({ cls := "BrokenBreadModel", name := "image", desc := "(I)I" } : MethodName) prog_12_method_14_code (3 : Nat) (Option.some FieldType.int)) ∈ am_tbl := am_t6 (List.mem_of_getElem? (i := 106) rfl) rfl
theorem aw_6_107 : (Cond.methodLink "BrokenBreadModel" (186 : Nat) ({ cls := "BrokenBreadModel", name := "in", desc := "(JJJ)Z" } : MethodName)) ∈ am_tbl := am_t6 (List.mem_of_getElem? (i := 107) rfl) rfl
theorem aw_6_108 : (Cond.static ({ cls := "BrokenBreadModel", name := "in", desc := "(JJJ)Z" } : MethodName)) ∈ am_tbl := am_t6 (List.mem_of_getElem? (i := 108) rfl) rfl
theorem aw_6_109 : (Cond.code ({ cls := "BrokenBreadModel", name := "in", desc := "(JJJ)Z" } : MethodName) prog_12_method_3_code (6 : Nat) (Option.some FieldType.boolean)) ∈ am_tbl := am_t6 (List.mem_of_getElem? (i := 109) rfl) rfl
theorem aw_6_110 : (Cond.methodLink "BrokenBreadLaw" (174 : Nat) ({ cls := "BrokenBreadModel", name := "back", desc := "(I)I" } : MethodName)) ∈ am_tbl := am_t6 (List.mem_of_getElem? (i := 110) rfl) rfl
theorem aw_6_111 : (Cond.instanceMethod ({ cls := "BrokenBreadModel", name := "back", desc := "(I)I" } : MethodName)) ∈ am_tbl := am_t6 (List.mem_of_getElem? (i := 111) rfl) rfl
theorem aw_6_112 : (Cond.selects "BrokenBreadModel" ({ cls := "BrokenBreadModel", name := "back", desc := "(I)I" } : MethodName) ({ cls := "BrokenBreadModel", name := "back", desc := "(I)I" } : MethodName)) ∈ am_tbl := am_t6 (List.mem_of_getElem? (i := 112) rfl) rfl
theorem aw_6_113 : (Cond.code ({ cls := "BrokenBreadModel", name := "back", desc := "(I)I" } : MethodName) prog_12_method_15_code (3 : Nat) (Option.some FieldType.int)) ∈ am_tbl := am_t6 (List.mem_of_getElem? (i := 113) rfl) rfl
theorem aw_6_114 : (Cond.methodLink "BrokenBreadModel" (190 : Nat) ({ cls := "BrokenBreadModel", name := "lasting", desc := "(I)I" } : MethodName)) ∈ am_tbl := am_t6 (List.mem_of_getElem? (i := 114) rfl) rfl
theorem aw_6_116 : (Cond.instanceMethod ({ cls := "BrokenBreadModel", name := "lasting", desc := "(I)I" } : MethodName)) ∈ am_tbl := am_t6 (List.mem_of_getElem? (i := 116) rfl) rfl
theorem aw_6_117 : (Cond.code ({ cls := "BrokenBreadModel", name := "lasting", desc := "(I)I" } : MethodName) prog_12_method_9_code (2 : Nat) (Option.some FieldType.int)) ∈ am_tbl := am_t6 (List.mem_of_getElem? (i := 117) rfl) rfl
theorem aw_6_118 : (Cond.methodLink "BrokenBreadLaw" (17 : Nat) ({ cls := "BrokenBreadModel", name := "folk", desc := "(I)I" } : MethodName)) ∈ am_tbl := am_t6 (List.mem_of_getElem? (i := 118) rfl) rfl
theorem aw_6_119 : (Cond.instanceMethod ({ cls := "BrokenBreadModel", name := "folk", desc := "(I)I" } : MethodName)) ∈ am_tbl := am_t6 (List.mem_of_getElem? (i := 119) rfl) rfl
theorem aw_6_120 : (Cond.selects "BrokenBreadModel" ({ cls := "BrokenBreadModel", name := "folk", desc := "(I)I" } : MethodName) ({ cls := "BrokenBreadModel", name := "folk", desc := "(I)I" } : MethodName)) ∈ am_tbl := am_t6 (List.mem_of_getElem? (i := 120) rfl) rfl
theorem aw_6_121 : (Cond.code ({ cls := "BrokenBreadModel", name := "folk", desc := "(I)I" } : MethodName) prog_12_method_23_code (3 : Nat) (Option.some FieldType.int)) ∈ am_tbl := am_t6 (List.mem_of_getElem? (i := 121) rfl) rfl
theorem aw_6_122 : (Cond.constantLong "BrokenBreadModel" (199 : Nat) (9 : Int64)) ∈ am_tbl := am_t6 (List.mem_of_getElem? (i := 122) rfl) rfl
theorem aw_6_123 : (Cond.methodLink "BrokenBreadLaw" (22 : Nat) ({ cls := "BrokenBreadModel", name := "of", desc := "(II)I" } : MethodName)) ∈ am_tbl := am_t6 (List.mem_of_getElem? (i := 123) rfl) rfl
theorem aw_6_124 : (Cond.instanceMethod ({ cls := "BrokenBreadModel", name := "of", desc := "(II)I" } : MethodName)) ∈ am_tbl := am_t6 (List.mem_of_getElem? (i := 124) rfl) rfl
theorem aw_6_125 : (Cond.selects "BrokenBreadModel" ({ cls := "BrokenBreadModel", name := "of", desc := "(II)I" } : MethodName) ({ cls := "BrokenBreadModel", name := "of", desc := "(II)I" } : MethodName)) ∈ am_tbl := am_t6 (List.mem_of_getElem? (i := 125) rfl) rfl
theorem aw_6_126 : (Cond.code ({ cls := "BrokenBreadModel", name := "of", desc := "(II)I" } : MethodName) prog_12_method_25_code (3 : Nat) (Option.some FieldType.int)) ∈ am_tbl := am_t6 (List.mem_of_getElem? (i := 126) rfl) rfl
theorem aw_6_127 : (Cond.methodLink "BrokenBreadModel" (205 : Nat) ({ cls := "BrokenBreadModel", name := "isFolk", desc := "(I)Z" } : MethodName)) ∈ am_tbl := am_t6 (List.mem_of_getElem? (i := 127) rfl) rfl
theorem aw_6_129 : (Cond.instanceMethod ({ cls := "BrokenBreadModel", name := "isFolk", desc := "(I)Z" } : MethodName)) ∈ am_tbl := am_t6 (List.mem_of_getElem? (i := 129) rfl) rfl
theorem aw_6_130 : (Cond.code ({ cls := "BrokenBreadModel", name := "isFolk", desc := "(I)Z" } : MethodName) prog_12_method_16_code (2 : Nat) (Option.some FieldType.boolean)) ∈ am_tbl := am_t6 (List.mem_of_getElem? (i := 130) rfl) rfl
theorem aw_6_131 : (Cond.methodLink "BrokenBreadModel" (209 : Nat) ({ cls := "BrokenBreadModel", name := "layMay", desc := "()V" } : MethodName)) ∈ am_tbl := am_t6 (List.mem_of_getElem? (i := 131) rfl) rfl
theorem aw_6_133 : (Cond.instanceMethod ({ cls := "BrokenBreadModel", name := "layMay", desc := "()V" } : MethodName)) ∈ am_tbl := am_t6 (List.mem_of_getElem? (i := 133) rfl) rfl
theorem aw_6_134 : (Cond.code ({ cls := "BrokenBreadModel", name := "layMay", desc := "()V" } : MethodName) prog_12_method_73_code (3 : Nat) (Option.none : Option FieldType)) ∈ am_tbl := am_t6 (List.mem_of_getElem? (i := 134) rfl) rfl
theorem aw_6_135 : (Cond.methodLink "BrokenBreadModel" (229 : Nat) ({ cls := "BrokenBreadModel", name := "maySit", desc := "(II)Z" } : MethodName)) ∈ am_tbl := am_t6 (List.mem_of_getElem? (i := 135) rfl) rfl
theorem aw_6_137 : (Cond.instanceMethod ({ cls := "BrokenBreadModel", name := "maySit", desc := "(II)Z" } : MethodName)) ∈ am_tbl := am_t6 (List.mem_of_getElem? (i := 137) rfl) rfl
theorem aw_6_138 : (Cond.code ({ cls := "BrokenBreadModel", name := "maySit", desc := "(II)Z" } : MethodName) prog_12_method_72_code (3 : Nat) (Option.some FieldType.boolean)) ∈ am_tbl := am_t6 (List.mem_of_getElem? (i := 138) rfl) rfl
theorem aw_6_139 : (Cond.methodLink "BrokenBreadModel" (222 : Nat) ({ cls := "BrokenBreadModel", name := "countsAs", desc := "(II)I" } : MethodName)) ∈ am_tbl := am_t6 (List.mem_of_getElem? (i := 139) rfl) rfl
theorem aw_6_141 : (Cond.instanceMethod ({ cls := "BrokenBreadModel", name := "countsAs", desc := "(II)I" } : MethodName)) ∈ am_tbl := am_t6 (List.mem_of_getElem? (i := 141) rfl) rfl
theorem aw_6_142 : (Cond.code ({ cls := "BrokenBreadModel", name := "countsAs", desc := "(II)I" } : MethodName) prog_12_method_68_code (3 : Nat) (Option.some FieldType.int)) ∈ am_tbl := am_t6 (List.mem_of_getElem? (i := 142) rfl) rfl
theorem aw_6_143 : (Cond.methodLink "BrokenBreadModel" (201 : Nat) ({ cls := "BrokenBreadModel", name := "weightOf", desc := "(II)I" } : MethodName)) ∈ am_tbl := am_t6 (List.mem_of_getElem? (i := 143) rfl) rfl
theorem aw_6_145 : (Cond.instanceMethod ({ cls := "BrokenBreadModel", name := "weightOf", desc := "(II)I" } : MethodName)) ∈ am_tbl := am_t6 (List.mem_of_getElem? (i := 145) rfl) rfl
theorem aw_6_146 : (Cond.code ({ cls := "BrokenBreadModel", name := "weightOf", desc := "(II)I" } : MethodName) prog_12_method_20_code (3 : Nat) (Option.some FieldType.int)) ∈ am_tbl := am_t6 (List.mem_of_getElem? (i := 146) rfl) rfl
theorem aw_6_147 : (Cond.methodLink "BrokenBreadModel" (431 : Nat) ({ cls := "BrokenBreadModel", name := "tells", desc := "(IIIIJ)J" } : MethodName)) ∈ am_tbl := am_t6 (List.mem_of_getElem? (i := 147) rfl) rfl
theorem aw_6_149 : (Cond.instanceMethod ({ cls := "BrokenBreadModel", name := "tells", desc := "(IIIIJ)J" } : MethodName)) ∈ am_tbl := am_t6 (List.mem_of_getElem? (i := 149) rfl) rfl
theorem aw_6_150 : (Cond.code ({ cls := "BrokenBreadModel", name := "tells", desc := "(IIIIJ)J" } : MethodName) prog_12_method_67_code (11 : Nat) (Option.some FieldType.long)) ∈ am_tbl := am_t6 (List.mem_of_getElem? (i := 150) rfl) rfl
theorem aw_6_151 : (Cond.constantLong "BrokenBreadModel" (282 : Nat) (-1 : Int64)) ∈ am_tbl := am_t6 (List.mem_of_getElem? (i := 151) rfl) rfl
theorem aw_6_152 : (Cond.methodLink "BrokenBreadModel" (428 : Nat) ({ cls := "BrokenBreadModel", name := "isSo", desc := "(I)Z" } : MethodName)) ∈ am_tbl := am_t6 (List.mem_of_getElem? (i := 152) rfl) rfl
theorem aw_6_154 : (Cond.instanceMethod ({ cls := "BrokenBreadModel", name := "isSo", desc := "(I)Z" } : MethodName)) ∈ am_tbl := am_t6 (List.mem_of_getElem? (i := 154) rfl) rfl
theorem aw_6_155 : (Cond.code ({ cls := "BrokenBreadModel", name := "isSo", desc := "(I)Z" } : MethodName) prog_12_method_66_code (2 : Nat) (Option.some FieldType.boolean)) ∈ am_tbl := am_t6 (List.mem_of_getElem? (i := 155) rfl) rfl
theorem aw_6_156 : (Cond.methodLink "BrokenBreadModel" (422 : Nat) ({ cls := "BrokenBreadModel", name := "reckonAll", desc := "(II)V" } : MethodName)) ∈ am_tbl := am_t6 (List.mem_of_getElem? (i := 156) rfl) rfl
theorem aw_6_158 : (Cond.instanceMethod ({ cls := "BrokenBreadModel", name := "reckonAll", desc := "(II)V" } : MethodName)) ∈ am_tbl := am_t6 (List.mem_of_getElem? (i := 158) rfl) rfl
theorem aw_6_159 : (Cond.code ({ cls := "BrokenBreadModel", name := "reckonAll", desc := "(II)V" } : MethodName) prog_12_method_65_code (7 : Nat) (Option.none : Option FieldType)) ∈ am_tbl := am_t6 (List.mem_of_getElem? (i := 159) rfl) rfl
theorem aw_6_160 : (Cond.methodLink "BrokenBreadModel" (411 : Nat) ({ cls := "BrokenBreadModel", name := "reckon", desc := "(IJJ)J" } : MethodName)) ∈ am_tbl := am_t6 (List.mem_of_getElem? (i := 160) rfl) rfl
theorem aw_6_162 : (Cond.instanceMethod ({ cls := "BrokenBreadModel", name := "reckon", desc := "(IJJ)J" } : MethodName)) ∈ am_tbl := am_t6 (List.mem_of_getElem? (i := 162) rfl) rfl
theorem aw_6_163 : (Cond.code ({ cls := "BrokenBreadModel", name := "reckon", desc := "(IJJ)J" } : MethodName) prog_12_method_64_code (6 : Nat) (Option.some FieldType.long)) ∈ am_tbl := am_t6 (List.mem_of_getElem? (i := 163) rfl) rfl
theorem aw_6_164 : (Cond.constantLong "BrokenBreadModel" (415 : Nat) (-1000000000 : Int64)) ∈ am_tbl := am_t6 (List.mem_of_getElem? (i := 164) rfl) rfl
theorem aw_6_165 : (Cond.constantLong "BrokenBreadModel" (417 : Nat) (1000000000 : Int64)) ∈ am_tbl := am_t6 (List.mem_of_getElem? (i := 165) rfl) rfl
theorem aw_6_166 : (Cond.methodLink "BrokenBreadModel" (435 : Nat) ({ cls := "BrokenBreadModel", name := "bounded", desc := "(JII)I" } : MethodName)) ∈ am_tbl := am_t6 (List.mem_of_getElem? (i := 166) rfl) rfl
theorem aw_6_167 : (Cond.static ({ cls := "BrokenBreadModel", name := "bounded", desc := "(JII)I" } : MethodName)) ∈ am_tbl := am_t6 (List.mem_of_getElem? (i := 167) rfl) rfl
theorem aw_6_168 : (Cond.code ({ cls := "BrokenBreadModel", name := "bounded", desc := "(JII)I" } : MethodName) prog_12_method_6_code (4 : Nat) (Option.some FieldType.int)) ∈ am_tbl := am_t6 (List.mem_of_getElem? (i := 168) rfl) rfl
theorem aw_6_169 : (Cond.methodLink "BrokenBreadModel" (225 : Nat) ({ cls := "BrokenBreadModel", name := "barsOff", desc := "(II)Z" } : MethodName)) ∈ am_tbl := am_t6 (List.mem_of_getElem? (i := 169) rfl) rfl
theorem aw_6_171 : (Cond.instanceMethod ({ cls := "BrokenBreadModel", name := "barsOff", desc := "(II)Z" } : MethodName)) ∈ am_tbl := am_t6 (List.mem_of_getElem? (i := 171) rfl) rfl
theorem aw_6_172 : (Cond.code ({ cls := "BrokenBreadModel", name := "barsOff", desc := "(II)Z" } : MethodName) prog_12_method_71_code (3 : Nat) (Option.some FieldType.boolean)) ∈ am_tbl := am_t6 (List.mem_of_getElem? (i := 172) rfl) rfl
theorem aw_6_173 : (Cond.methodLink "BrokenBreadModel" (212 : Nat) ({ cls := "BrokenBreadModel", name := "sitsWith", desc := "(I)I" } : MethodName)) ∈ am_tbl := am_t6 (List.mem_of_getElem? (i := 173) rfl) rfl
theorem aw_6_175 : (Cond.instanceMethod ({ cls := "BrokenBreadModel", name := "sitsWith", desc := "(I)I" } : MethodName)) ∈ am_tbl := am_t6 (List.mem_of_getElem? (i := 175) rfl) rfl
theorem aw_6_176 : (Cond.code ({ cls := "BrokenBreadModel", name := "sitsWith", desc := "(I)I" } : MethodName) prog_12_method_74_code (4 : Nat) (Option.some FieldType.int)) ∈ am_tbl := am_t6 (List.mem_of_getElem? (i := 176) rfl) rfl
theorem aw_6_177 : (Cond.methodLink "BrokenBreadModel" (215 : Nat) ({ cls := "BrokenBreadModel", name := "hungersBy", desc := "(I)I" } : MethodName)) ∈ am_tbl := am_t6 (List.mem_of_getElem? (i := 177) rfl) rfl
theorem aw_6_179 : (Cond.instanceMethod ({ cls := "BrokenBreadModel", name := "hungersBy", desc := "(I)I" } : MethodName)) ∈ am_tbl := am_t6 (List.mem_of_getElem? (i := 179) rfl) rfl
theorem aw_6_180 : (Cond.code ({ cls := "BrokenBreadModel", name := "hungersBy", desc := "(I)I" } : MethodName) prog_12_method_70_code (2 : Nat) (Option.some FieldType.int)) ∈ am_tbl := am_t6 (List.mem_of_getElem? (i := 180) rfl) rfl
theorem aw_6_181 : (Cond.methodLink "BrokenBreadModel" (218 : Nat) ({ cls := "BrokenBreadModel", name := "harmsBy", desc := "(IZ)I" } : MethodName)) ∈ am_tbl := am_t6 (List.mem_of_getElem? (i := 181) rfl) rfl
theorem aw_6_183 : (Cond.instanceMethod ({ cls := "BrokenBreadModel", name := "harmsBy", desc := "(IZ)I" } : MethodName)) ∈ am_tbl := am_t6 (List.mem_of_getElem? (i := 183) rfl) rfl
theorem aw_6_184 : (Cond.code ({ cls := "BrokenBreadModel", name := "harmsBy", desc := "(IZ)I" } : MethodName) prog_12_method_24_code (5 : Nat) (Option.some FieldType.int)) ∈ am_tbl := am_t6 (List.mem_of_getElem? (i := 184) rfl) rfl
theorem aw_6_185 : (Cond.methodLink "BrokenBreadLaw" (27 : Nat) ({ cls := "BrokenBreadModel", name := "asks", desc := "(III)I" } : MethodName)) ∈ am_tbl := am_t6 (List.mem_of_getElem? (i := 185) rfl) rfl
theorem aw_6_186 : (Cond.instanceMethod ({ cls := "BrokenBreadModel", name := "asks", desc := "(III)I" } : MethodName)) ∈ am_tbl := am_t6 (List.mem_of_getElem? (i := 186) rfl) rfl
theorem aw_6_187 : (Cond.selects "BrokenBreadModel" ({ cls := "BrokenBreadModel", name := "asks", desc := "(III)I" } : MethodName) ({ cls := "BrokenBreadModel", name := "asks", desc := "(III)I" } : MethodName)) ∈ am_tbl := am_t6 (List.mem_of_getElem? (i := 187) rfl) rfl
theorem aw_6_188 : (Cond.code ({ cls := "BrokenBreadModel", name := "asks", desc := "(III)I" } : MethodName) prog_12_method_26_code (4 : Nat) (Option.some FieldType.int)) ∈ am_tbl := am_t6 (List.mem_of_getElem? (i := 188) rfl) rfl
theorem aw_6_189 : (Cond.methodLink "BrokenBreadLaw" (31 : Nat) ({ cls := "BrokenBreadModel", name := "terms", desc := "(II)I" } : MethodName)) ∈ am_tbl := am_t6 (List.mem_of_getElem? (i := 189) rfl) rfl
theorem aw_6_190 : (Cond.instanceMethod ({ cls := "BrokenBreadModel", name := "terms", desc := "(II)I" } : MethodName)) ∈ am_tbl := am_t6 (List.mem_of_getElem? (i := 190) rfl) rfl
theorem aw_6_191 : (Cond.selects "BrokenBreadModel" ({ cls := "BrokenBreadModel", name := "terms", desc := "(II)I" } : MethodName) ({ cls := "BrokenBreadModel", name := "terms", desc := "(II)I" } : MethodName)) ∈ am_tbl := am_t6 (List.mem_of_getElem? (i := 191) rfl) rfl
theorem aw_6_192 : (Cond.code ({ cls := "BrokenBreadModel", name := "terms", desc := "(II)I" } : MethodName) prog_12_method_27_code (4 : Nat) (Option.some FieldType.int)) ∈ am_tbl := am_t6 (List.mem_of_getElem? (i := 192) rfl) rfl
theorem aw_6_193 : (Cond.constantLong "BrokenBreadModel" (232 : Nat) (999 : Int64)) ∈ am_tbl := am_t6 (List.mem_of_getElem? (i := 193) rfl) rfl
theorem aw_6_194 : (Cond.constantLong "BrokenBreadModel" (234 : Nat) (10 : Int64)) ∈ am_tbl := am_t6 (List.mem_of_getElem? (i := 194) rfl) rfl
theorem aw_6_195 : (Cond.methodLink "BrokenBreadModel" (236 : Nat) ({ cls := "BrokenBreadModel", name := "change", desc := "(II)I" } : MethodName)) ∈ am_tbl := am_t6 (List.mem_of_getElem? (i := 195) rfl) rfl
theorem aw_6_197 : (Cond.instanceMethod ({ cls := "BrokenBreadModel", name := "change", desc := "(II)I" } : MethodName)) ∈ am_tbl := am_t6 (List.mem_of_getElem? (i := 197) rfl) rfl
theorem aw_6_198 : (Cond.code ({ cls := "BrokenBreadModel", name := "change", desc := "(II)I" } : MethodName) prog_12_method_8_code (4 : Nat) (Option.some FieldType.int)) ∈ am_tbl := am_t6 (List.mem_of_getElem? (i := 198) rfl) rfl
theorem aw_6_199 : (Cond.methodLink "BrokenBreadLaw" (45 : Nat) ({ cls := "BrokenBreadModel", name := "row", desc := "()I" } : MethodName)) ∈ am_tbl := am_t6 (List.mem_of_getElem? (i := 199) rfl) rfl
theorem aw_6_200 : (Cond.instanceMethod ({ cls := "BrokenBreadModel", name := "row", desc := "()I" } : MethodName)) ∈ am_tbl := am_t6 (List.mem_of_getElem? (i := 200) rfl) rfl
theorem aw_6_201 : (Cond.selects "BrokenBreadModel" ({ cls := "BrokenBreadModel", name := "row", desc := "()I" } : MethodName) ({ cls := "BrokenBreadModel", name := "row", desc := "()I" } : MethodName)) ∈ am_tbl := am_t6 (List.mem_of_getElem? (i := 201) rfl) rfl
theorem aw_6_202 : (Cond.code ({ cls := "BrokenBreadModel", name := "row", desc := "()I" } : MethodName) prog_12_method_29_code (4 : Nat) (Option.some FieldType.int)) ∈ am_tbl := am_t6 (List.mem_of_getElem? (i := 202) rfl) rfl
theorem aw_6_203 : (Cond.methodLink "BrokenBreadModel" (245 : Nat) ({ cls := "BrokenBreadModel", name := "setHarm", desc := "(III)V" } : MethodName)) ∈ am_tbl := am_t6 (List.mem_of_getElem? (i := 203) rfl) rfl
theorem aw_6_205 : (Cond.instanceMethod ({ cls := "BrokenBreadModel", name := "setHarm", desc := "(III)V" } : MethodName)) ∈ am_tbl := am_t6 (List.mem_of_getElem? (i := 205) rfl) rfl
theorem aw_6_206 : (Cond.code ({ cls := "BrokenBreadModel", name := "setHarm", desc := "(III)V" } : MethodName) prog_12_method_28_code (4 : Nat) (Option.none : Option FieldType)) ∈ am_tbl := am_t6 (List.mem_of_getElem? (i := 206) rfl) rfl
theorem aw_6_207 : (Cond.methodLink "BrokenBreadLaw" (49 : Nat) ({ cls := "BrokenBreadModel", name := "crumbs", desc := "()I" } : MethodName)) ∈ am_tbl := am_t6 (List.mem_of_getElem? (i := 207) rfl) rfl
theorem aw_6_208 : (Cond.instanceMethod ({ cls := "BrokenBreadModel", name := "crumbs", desc := "()I" } : MethodName)) ∈ am_tbl := am_t6 (List.mem_of_getElem? (i := 208) rfl) rfl
theorem aw_6_209 : (Cond.selects "BrokenBreadModel" ({ cls := "BrokenBreadModel", name := "crumbs", desc := "()I" } : MethodName) ({ cls := "BrokenBreadModel", name := "crumbs", desc := "()I" } : MethodName)) ∈ am_tbl := am_t6 (List.mem_of_getElem? (i := 209) rfl) rfl
theorem aw_6_210 : (Cond.code ({ cls := "BrokenBreadModel", name := "crumbs", desc := "()I" } : MethodName) prog_12_method_30_code (1 : Nat) (Option.some FieldType.int)) ∈ am_tbl := am_t6 (List.mem_of_getElem? (i := 210) rfl) rfl
theorem aw_6_211 : (Cond.methodLink "BrokenBreadLaw" (36 : Nat) ({ cls := "BrokenBreadModel", name := "feed", desc := "(IIIII)I" } : MethodName)) ∈ am_tbl := am_t6 (List.mem_of_getElem? (i := 211) rfl) rfl
theorem aw_6_212 : (Cond.instanceMethod ({ cls := "BrokenBreadModel", name := "feed", desc := "(IIIII)I" } : MethodName)) ∈ am_tbl := am_t6 (List.mem_of_getElem? (i := 212) rfl) rfl
theorem aw_6_213 : (Cond.selects "BrokenBreadModel" ({ cls := "BrokenBreadModel", name := "feed", desc := "(IIIII)I" } : MethodName) ({ cls := "BrokenBreadModel", name := "feed", desc := "(IIIII)I" } : MethodName)) ∈ am_tbl := am_t6 (List.mem_of_getElem? (i := 213) rfl) rfl
theorem aw_6_214 : (Cond.code ({ cls := "BrokenBreadModel", name := "feed", desc := "(IIIII)I" } : MethodName) prog_12_method_32_code (6 : Nat) (Option.some FieldType.int)) ∈ am_tbl := am_t6 (List.mem_of_getElem? (i := 214) rfl) rfl
theorem aw_6_215 : (Cond.methodLink "BrokenBreadModel" (249 : Nat) ({ cls := "BrokenBreadModel", name := "four", desc := "(I)V" } : MethodName)) ∈ am_tbl := am_t6 (List.mem_of_getElem? (i := 215) rfl) rfl
theorem aw_6_217 : (Cond.instanceMethod ({ cls := "BrokenBreadModel", name := "four", desc := "(I)V" } : MethodName)) ∈ am_tbl := am_t6 (List.mem_of_getElem? (i := 217) rfl) rfl
theorem aw_6_218 : (Cond.code ({ cls := "BrokenBreadModel", name := "four", desc := "(I)V" } : MethodName) prog_12_method_31_code (3 : Nat) (Option.none : Option FieldType)) ∈ am_tbl := am_t6 (List.mem_of_getElem? (i := 218) rfl) rfl
theorem aw_6_219 : (Cond.methodLink "BrokenBreadLaw" (40 : Nat) ({ cls := "BrokenBreadModel", name := "end", desc := "(I)I" } : MethodName)) ∈ am_tbl := am_t6 (List.mem_of_getElem? (i := 219) rfl) rfl
theorem aw_6_220 : (Cond.instanceMethod ({ cls := "BrokenBreadModel", name := "end", desc := "(I)I" } : MethodName)) ∈ am_tbl := am_t6 (List.mem_of_getElem? (i := 220) rfl) rfl
theorem aw_6_221 : (Cond.selects "BrokenBreadModel" ({ cls := "BrokenBreadModel", name := "end", desc := "(I)I" } : MethodName) ({ cls := "BrokenBreadModel", name := "end", desc := "(I)I" } : MethodName)) ∈ am_tbl := am_t6 (List.mem_of_getElem? (i := 221) rfl) rfl
theorem aw_6_222 : (Cond.code ({ cls := "BrokenBreadModel", name := "end", desc := "(I)I" } : MethodName) prog_12_method_33_code (2 : Nat) (Option.some FieldType.int)) ∈ am_tbl := am_t6 (List.mem_of_getElem? (i := 222) rfl) rfl
theorem aw_6_223 : (Cond.methodLink "BrokenBreadLaw" (61 : Nat) ({ cls := "BrokenBreadModel", name := "fault", desc := "()I" } : MethodName)) ∈ am_tbl := am_t6 (List.mem_of_getElem? (i := 223) rfl) rfl
theorem aw_6_224 : (Cond.instanceMethod ({ cls := "BrokenBreadModel", name := "fault", desc := "()I" } : MethodName)) ∈ am_tbl := am_t6 (List.mem_of_getElem? (i := 224) rfl) rfl
theorem aw_6_225 : (Cond.selects "BrokenBreadModel" ({ cls := "BrokenBreadModel", name := "fault", desc := "()I" } : MethodName) ({ cls := "BrokenBreadModel", name := "fault", desc := "()I" } : MethodName)) ∈ am_tbl := am_t6 (List.mem_of_getElem? (i := 225) rfl) rfl
theorem aw_6_226 : (Cond.code ({ cls := "BrokenBreadModel", name := "fault", desc := "()I" } : MethodName) prog_12_method_42_code (1 : Nat) (Option.some FieldType.int)) ∈ am_tbl := am_t6 (List.mem_of_getElem? (i := 226) rfl) rfl
theorem aw_6_227 : (Cond.methodLink "BrokenBreadLaw" (53 : Nat) ({ cls := "BrokenBreadModel", name := "law", desc := "()I" } : MethodName)) ∈ am_tbl := am_t6 (List.mem_of_getElem? (i := 227) rfl) rfl
theorem aw_6_228 : (Cond.instanceMethod ({ cls := "BrokenBreadModel", name := "law", desc := "()I" } : MethodName)) ∈ am_tbl := am_t6 (List.mem_of_getElem? (i := 228) rfl) rfl
theorem aw_6_229 : (Cond.selects "BrokenBreadModel" ({ cls := "BrokenBreadModel", name := "law", desc := "()I" } : MethodName) ({ cls := "BrokenBreadModel", name := "law", desc := "()I" } : MethodName)) ∈ am_tbl := am_t6 (List.mem_of_getElem? (i := 229) rfl) rfl
theorem aw_6_230 : (Cond.code ({ cls := "BrokenBreadModel", name := "law", desc := "()I" } : MethodName) prog_12_method_61_code (3 : Nat) (Option.some FieldType.int)) ∈ am_tbl := am_t6 (List.mem_of_getElem? (i := 230) rfl) rfl
theorem aw_6_231 : (Cond.methodLink "BrokenBreadModel" (393 : Nat) ({ cls := "BrokenBreadModel", name := "beginText", desc := "(Z)V" } : MethodName)) ∈ am_tbl := am_t6 (List.mem_of_getElem? (i := 231) rfl) rfl
theorem aw_6_233 : (Cond.instanceMethod ({ cls := "BrokenBreadModel", name := "beginText", desc := "(Z)V" } : MethodName)) ∈ am_tbl := am_t6 (List.mem_of_getElem? (i := 233) rfl) rfl
theorem aw_6_234 : (Cond.code ({ cls := "BrokenBreadModel", name := "beginText", desc := "(Z)V" } : MethodName) prog_12_method_58_code (2 : Nat) (Option.none : Option FieldType)) ∈ am_tbl := am_t6 (List.mem_of_getElem? (i := 234) rfl) rfl
theorem aw_6_235 : (Cond.methodLink "BrokenBreadModel" (382 : Nat) ({ cls := "BrokenBreadModel", name := "begin", desc := "()V" } : MethodName)) ∈ am_tbl := am_t6 (List.mem_of_getElem? (i := 235) rfl) rfl
theorem aw_6_237 : (Cond.instanceMethod ({ cls := "BrokenBreadModel", name := "begin", desc := "()V" } : MethodName)) ∈ am_tbl := am_t6 (List.mem_of_getElem? (i := 237) rfl) rfl
theorem aw_6_238 : (Cond.code ({ cls := "BrokenBreadModel", name := "begin", desc := "()V" } : MethodName) prog_12_method_36_code (1 : Nat) (Option.none : Option FieldType)) ∈ am_tbl := am_t6 (List.mem_of_getElem? (i := 238) rfl) rfl
theorem aw_6_239 : (Cond.methodLink "BrokenBreadModel" (259 : Nat) ({ cls := "BrokenBreadModel", name := "next", desc := "()V" } : MethodName)) ∈ am_tbl := am_t6 (List.mem_of_getElem? (i := 239) rfl) rfl
theorem aw_7_1 : (Cond.instanceMethod ({ cls := "BrokenBreadModel", name := "next", desc := "()V" } : MethodName)) ∈ am_tbl := am_t7 (List.mem_of_getElem? (i := 1) rfl) rfl
theorem aw_7_2 : (Cond.code ({ cls := "BrokenBreadModel", name := "next", desc := "()V" } : MethodName) prog_12_method_37_code (1 : Nat) (Option.none : Option FieldType)) ∈ am_tbl := am_t7 (List.mem_of_getElem? (i := 2) rfl) rfl
theorem aw_7_3 : (Cond.methodLink "BrokenBreadModel" (269 : Nat) ({ cls := "BrokenBreadModel", name := "isSmall", desc := "(I)Z" } : MethodName)) ∈ am_tbl := am_t7 (List.mem_of_getElem? (i := 3) rfl) rfl
theorem aw_7_4 : (Cond.static ({ cls := "BrokenBreadModel", name := "isSmall", desc := "(I)Z" } : MethodName)) ∈ am_tbl := am_t7 (List.mem_of_getElem? (i := 4) rfl) rfl
theorem aw_7_5 : (Cond.code ({ cls := "BrokenBreadModel", name := "isSmall", desc := "(I)Z" } : MethodName) prog_12_method_34_code (1 : Nat) (Option.some FieldType.boolean)) ∈ am_tbl := am_t7 (List.mem_of_getElem? (i := 5) rfl) rfl
theorem aw_7_6 : (Cond.methodLink "BrokenBreadModel" (272 : Nat) ({ cls := "BrokenBreadModel", name := "isDigit", desc := "(I)Z" } : MethodName)) ∈ am_tbl := am_t7 (List.mem_of_getElem? (i := 6) rfl) rfl
theorem aw_7_7 : (Cond.static ({ cls := "BrokenBreadModel", name := "isDigit", desc := "(I)Z" } : MethodName)) ∈ am_tbl := am_t7 (List.mem_of_getElem? (i := 7) rfl) rfl
theorem aw_7_8 : (Cond.code ({ cls := "BrokenBreadModel", name := "isDigit", desc := "(I)Z" } : MethodName) prog_12_method_35_code (1 : Nat) (Option.some FieldType.boolean)) ∈ am_tbl := am_t7 (List.mem_of_getElem? (i := 8) rfl) rfl
theorem aw_7_9 : (Cond.constantLong "BrokenBreadModel" (278 : Nat) (32 : Int64)) ∈ am_tbl := am_t7 (List.mem_of_getElem? (i := 9) rfl) rfl
theorem aw_7_10 : (Cond.constantLong "BrokenBreadModel" (280 : Nat) (96 : Int64)) ∈ am_tbl := am_t7 (List.mem_of_getElem? (i := 10) rfl) rfl
theorem aw_7_11 : (Cond.constantLong "BrokenBreadModel" (284 : Nat) (1000000 : Int64)) ∈ am_tbl := am_t7 (List.mem_of_getElem? (i := 11) rfl) rfl
theorem aw_7_12 : (Cond.constantLong "BrokenBreadModel" (286 : Nat) (48 : Int64)) ∈ am_tbl := am_t7 (List.mem_of_getElem? (i := 12) rfl) rfl
theorem aw_7_13 : (Cond.methodLink "BrokenBreadModel" (396 : Nat) ({ cls := "BrokenBreadModel", name := "readLaw", desc := "()V" } : MethodName)) ∈ am_tbl := am_t7 (List.mem_of_getElem? (i := 13) rfl) rfl
theorem aw_7_15 : (Cond.instanceMethod ({ cls := "BrokenBreadModel", name := "readLaw", desc := "()V" } : MethodName)) ∈ am_tbl := am_t7 (List.mem_of_getElem? (i := 15) rfl) rfl
theorem aw_7_16 : (Cond.code ({ cls := "BrokenBreadModel", name := "readLaw", desc := "()V" } : MethodName) prog_12_method_60_code (4 : Nat) (Option.none : Option FieldType)) ∈ am_tbl := am_t7 (List.mem_of_getElem? (i := 16) rfl) rfl
theorem aw_7_17 : (Cond.methodLink "BrokenBreadModel" (313 : Nat) ({ cls := "BrokenBreadModel", name := "isWord", desc := "(J)Z" } : MethodName)) ∈ am_tbl := am_t7 (List.mem_of_getElem? (i := 17) rfl) rfl
theorem aw_7_19 : (Cond.instanceMethod ({ cls := "BrokenBreadModel", name := "isWord", desc := "(J)Z" } : MethodName)) ∈ am_tbl := am_t7 (List.mem_of_getElem? (i := 19) rfl) rfl
theorem aw_7_20 : (Cond.code ({ cls := "BrokenBreadModel", name := "isWord", desc := "(J)Z" } : MethodName) prog_12_method_38_code (3 : Nat) (Option.some FieldType.boolean)) ∈ am_tbl := am_t7 (List.mem_of_getElem? (i := 20) rfl) rfl
theorem aw_7_21 : (Cond.methodLink "BrokenBreadModel" (288 : Nat) ({ cls := "BrokenBreadModel", name := "must", desc := "(Z)V" } : MethodName)) ∈ am_tbl := am_t7 (List.mem_of_getElem? (i := 21) rfl) rfl
theorem aw_7_23 : (Cond.instanceMethod ({ cls := "BrokenBreadModel", name := "must", desc := "(Z)V" } : MethodName)) ∈ am_tbl := am_t7 (List.mem_of_getElem? (i := 23) rfl) rfl
theorem aw_7_24 : (Cond.code ({ cls := "BrokenBreadModel", name := "must", desc := "(Z)V" } : MethodName) prog_12_method_40_code (2 : Nat) (Option.none : Option FieldType)) ∈ am_tbl := am_t7 (List.mem_of_getElem? (i := 24) rfl) rfl
theorem aw_7_25 : (Cond.methodLink "BrokenBreadModel" (388 : Nat) ({ cls := "BrokenBreadModel", name := "readExpression", desc := "(Z)V" } : MethodName)) ∈ am_tbl := am_t7 (List.mem_of_getElem? (i := 25) rfl) rfl
theorem aw_7_27 : (Cond.instanceMethod ({ cls := "BrokenBreadModel", name := "readExpression", desc := "(Z)V" } : MethodName)) ∈ am_tbl := am_t7 (List.mem_of_getElem? (i := 27) rfl) rfl
theorem aw_7_28 : (Cond.code ({ cls := "BrokenBreadModel", name := "readExpression", desc := "(Z)V" } : MethodName) prog_12_method_57_code (3 : Nat) (Option.none : Option FieldType)) ∈ am_tbl := am_t7 (List.mem_of_getElem? (i := 28) rfl) rfl
theorem aw_7_29 : (Cond.methodLink "BrokenBreadModel" (372 : Nat) ({ cls := "BrokenBreadModel", name := "readPlain", desc := "()I" } : MethodName)) ∈ am_tbl := am_t7 (List.mem_of_getElem? (i := 29) rfl) rfl
theorem aw_7_31 : (Cond.instanceMethod ({ cls := "BrokenBreadModel", name := "readPlain", desc := "()I" } : MethodName)) ∈ am_tbl := am_t7 (List.mem_of_getElem? (i := 31) rfl) rfl
theorem aw_7_32 : (Cond.code ({ cls := "BrokenBreadModel", name := "readPlain", desc := "()I" } : MethodName) prog_12_method_54_code (1 : Nat) (Option.some FieldType.int)) ∈ am_tbl := am_t7 (List.mem_of_getElem? (i := 32) rfl) rfl
theorem aw_7_33 : (Cond.constantLong "BrokenBreadModel" (353 : Nat) (14836 : Int64)) ∈ am_tbl := am_t7 (List.mem_of_getElem? (i := 33) rfl) rfl
theorem aw_7_34 : (Cond.methodLink "BrokenBreadModel" (320 : Nat) ({ cls := "BrokenBreadModel", name := "push", desc := "(II)V" } : MethodName)) ∈ am_tbl := am_t7 (List.mem_of_getElem? (i := 34) rfl) rfl
theorem aw_7_36 : (Cond.instanceMethod ({ cls := "BrokenBreadModel", name := "push", desc := "(II)V" } : MethodName)) ∈ am_tbl := am_t7 (List.mem_of_getElem? (i := 36) rfl) rfl
theorem aw_7_37 : (Cond.code ({ cls := "BrokenBreadModel", name := "push", desc := "(II)V" } : MethodName) prog_12_method_44_code (3 : Nat) (Option.none : Option FieldType)) ∈ am_tbl := am_t7 (List.mem_of_getElem? (i := 37) rfl) rfl
theorem aw_7_38 : (Cond.methodLink "BrokenBreadModel" (326 : Nat) ({ cls := "BrokenBreadModel", name := "isSign", desc := "(I)Z" } : MethodName)) ∈ am_tbl := am_t7 (List.mem_of_getElem? (i := 38) rfl) rfl
theorem aw_7_40 : (Cond.instanceMethod ({ cls := "BrokenBreadModel", name := "isSign", desc := "(I)Z" } : MethodName)) ∈ am_tbl := am_t7 (List.mem_of_getElem? (i := 40) rfl) rfl
theorem aw_7_41 : (Cond.code ({ cls := "BrokenBreadModel", name := "isSign", desc := "(I)Z" } : MethodName) prog_12_method_39_code (2 : Nat) (Option.some FieldType.boolean)) ∈ am_tbl := am_t7 (List.mem_of_getElem? (i := 41) rfl) rfl
theorem aw_7_42 : (Cond.methodLink "BrokenBreadModel" (329 : Nat) ({ cls := "BrokenBreadModel", name := "openBracket", desc := "(I)V" } : MethodName)) ∈ am_tbl := am_t7 (List.mem_of_getElem? (i := 42) rfl) rfl
theorem aw_7_44 : (Cond.instanceMethod ({ cls := "BrokenBreadModel", name := "openBracket", desc := "(I)V" } : MethodName)) ∈ am_tbl := am_t7 (List.mem_of_getElem? (i := 44) rfl) rfl
theorem aw_7_45 : (Cond.code ({ cls := "BrokenBreadModel", name := "openBracket", desc := "(I)V" } : MethodName) prog_12_method_51_code (2 : Nat) (Option.none : Option FieldType)) ∈ am_tbl := am_t7 (List.mem_of_getElem? (i := 45) rfl) rfl
theorem aw_7_46 : (Cond.methodLink "BrokenBreadModel" (355 : Nat) ({ cls := "BrokenBreadModel", name := "readPart", desc := "()I" } : MethodName)) ∈ am_tbl := am_t7 (List.mem_of_getElem? (i := 46) rfl) rfl
theorem aw_7_48 : (Cond.instanceMethod ({ cls := "BrokenBreadModel", name := "readPart", desc := "()I" } : MethodName)) ∈ am_tbl := am_t7 (List.mem_of_getElem? (i := 48) rfl) rfl
theorem aw_7_49 : (Cond.code ({ cls := "BrokenBreadModel", name := "readPart", desc := "()I" } : MethodName) prog_12_method_53_code (4 : Nat) (Option.some FieldType.int)) ∈ am_tbl := am_t7 (List.mem_of_getElem? (i := 49) rfl) rfl
theorem aw_7_50 : (Cond.methodLink "BrokenBreadModel" (335 : Nat) ({ cls := "BrokenBreadModel", name := "orderPartAt", desc := "()I" } : MethodName)) ∈ am_tbl := am_t7 (List.mem_of_getElem? (i := 50) rfl) rfl
theorem aw_7_52 : (Cond.instanceMethod ({ cls := "BrokenBreadModel", name := "orderPartAt", desc := "()I" } : MethodName)) ∈ am_tbl := am_t7 (List.mem_of_getElem? (i := 52) rfl) rfl
theorem aw_7_53 : (Cond.code ({ cls := "BrokenBreadModel", name := "orderPartAt", desc := "()I" } : MethodName) prog_12_method_50_code (3 : Nat) (Option.some FieldType.int)) ∈ am_tbl := am_t7 (List.mem_of_getElem? (i := 53) rfl) rfl
theorem aw_7_54 : (Cond.methodLink "BrokenBreadModel" (338 : Nat) ({ cls := "BrokenBreadModel", name := "partAt", desc := "()I" } : MethodName)) ∈ am_tbl := am_t7 (List.mem_of_getElem? (i := 54) rfl) rfl
theorem aw_7_56 : (Cond.instanceMethod ({ cls := "BrokenBreadModel", name := "partAt", desc := "()I" } : MethodName)) ∈ am_tbl := am_t7 (List.mem_of_getElem? (i := 56) rfl) rfl
theorem aw_7_57 : (Cond.code ({ cls := "BrokenBreadModel", name := "partAt", desc := "()I" } : MethodName) prog_12_method_49_code (3 : Nat) (Option.some FieldType.int)) ∈ am_tbl := am_t7 (List.mem_of_getElem? (i := 57) rfl) rfl
theorem aw_7_58 : (Cond.constantLong "BrokenBreadModel" (341 : Nat) (1000 : Int64)) ∈ am_tbl := am_t7 (List.mem_of_getElem? (i := 58) rfl) rfl
theorem aw_7_59 : (Cond.methodLink "BrokenBreadModel" (343 : Nat) ({ cls := "BrokenBreadModel", name := "leaf", desc := "(ZII)V" } : MethodName)) ∈ am_tbl := am_t7 (List.mem_of_getElem? (i := 59) rfl) rfl
theorem aw_7_61 : (Cond.instanceMethod ({ cls := "BrokenBreadModel", name := "leaf", desc := "(ZII)V" } : MethodName)) ∈ am_tbl := am_t7 (List.mem_of_getElem? (i := 61) rfl) rfl
theorem aw_7_62 : (Cond.code ({ cls := "BrokenBreadModel", name := "leaf", desc := "(ZII)V" } : MethodName) prog_12_method_52_code (4 : Nat) (Option.none : Option FieldType)) ∈ am_tbl := am_t7 (List.mem_of_getElem? (i := 62) rfl) rfl
theorem aw_7_63 : (Cond.methodLink "BrokenBreadModel" (301 : Nat) ({ cls := "BrokenBreadModel", name := "emit", desc := "(II)V" } : MethodName)) ∈ am_tbl := am_t7 (List.mem_of_getElem? (i := 63) rfl) rfl
theorem aw_7_65 : (Cond.instanceMethod ({ cls := "BrokenBreadModel", name := "emit", desc := "(II)V" } : MethodName)) ∈ am_tbl := am_t7 (List.mem_of_getElem? (i := 65) rfl) rfl
theorem aw_7_66 : (Cond.code ({ cls := "BrokenBreadModel", name := "emit", desc := "(II)V" } : MethodName) prog_12_method_43_code (3 : Nat) (Option.none : Option FieldType)) ∈ am_tbl := am_t7 (List.mem_of_getElem? (i := 66) rfl) rfl
theorem aw_7_67 : (Cond.constantLong "BrokenBreadModel" (347 : Nat) (6 : Int64)) ∈ am_tbl := am_t7 (List.mem_of_getElem? (i := 67) rfl) rfl
theorem aw_7_68 : (Cond.methodLink "BrokenBreadModel" (349 : Nat) ({ cls := "BrokenBreadModel", name := "number", desc := "(JJ)I" } : MethodName)) ∈ am_tbl := am_t7 (List.mem_of_getElem? (i := 68) rfl) rfl
theorem aw_7_70 : (Cond.instanceMethod ({ cls := "BrokenBreadModel", name := "number", desc := "(JJ)I" } : MethodName)) ∈ am_tbl := am_t7 (List.mem_of_getElem? (i := 70) rfl) rfl
theorem aw_7_71 : (Cond.code ({ cls := "BrokenBreadModel", name := "number", desc := "(JJ)I" } : MethodName) prog_12_method_41_code (6 : Nat) (Option.some FieldType.int)) ∈ am_tbl := am_t7 (List.mem_of_getElem? (i := 71) rfl) rfl
theorem aw_7_72 : (Cond.methodLink "BrokenBreadModel" (375 : Nat) ({ cls := "BrokenBreadModel", name := "behindSum", desc := "(Z)I" } : MethodName)) ∈ am_tbl := am_t7 (List.mem_of_getElem? (i := 72) rfl) rfl
theorem aw_7_74 : (Cond.instanceMethod ({ cls := "BrokenBreadModel", name := "behindSum", desc := "(Z)I" } : MethodName)) ∈ am_tbl := am_t7 (List.mem_of_getElem? (i := 74) rfl) rfl
theorem aw_7_75 : (Cond.code ({ cls := "BrokenBreadModel", name := "behindSum", desc := "(Z)I" } : MethodName) prog_12_method_55_code (4 : Nat) (Option.some FieldType.int)) ∈ am_tbl := am_t7 (List.mem_of_getElem? (i := 75) rfl) rfl
theorem aw_7_76 : (Cond.methodLink "BrokenBreadModel" (298 : Nat) ({ cls := "BrokenBreadModel", name := "binds", desc := "(I)I" } : MethodName)) ∈ am_tbl := am_t7 (List.mem_of_getElem? (i := 76) rfl) rfl
theorem aw_7_77 : (Cond.static ({ cls := "BrokenBreadModel", name := "binds", desc := "(I)I" } : MethodName)) ∈ am_tbl := am_t7 (List.mem_of_getElem? (i := 77) rfl) rfl
theorem aw_7_78 : (Cond.code ({ cls := "BrokenBreadModel", name := "binds", desc := "(I)I" } : MethodName) prog_12_method_45_code (1 : Nat) (Option.some FieldType.int)) ∈ am_tbl := am_t7 (List.mem_of_getElem? (i := 78) rfl) rfl
theorem aw_7_79 : (Cond.methodLink "BrokenBreadModel" (358 : Nat) ({ cls := "BrokenBreadModel", name := "settle", desc := "(I)V" } : MethodName)) ∈ am_tbl := am_t7 (List.mem_of_getElem? (i := 79) rfl) rfl
theorem aw_7_81 : (Cond.instanceMethod ({ cls := "BrokenBreadModel", name := "settle", desc := "(I)V" } : MethodName)) ∈ am_tbl := am_t7 (List.mem_of_getElem? (i := 81) rfl) rfl
theorem aw_7_82 : (Cond.code ({ cls := "BrokenBreadModel", name := "settle", desc := "(I)V" } : MethodName) prog_12_method_46_code (2 : Nat) (Option.none : Option FieldType)) ∈ am_tbl := am_t7 (List.mem_of_getElem? (i := 82) rfl) rfl
theorem aw_7_83 : (Cond.methodLink "BrokenBreadModel" (361 : Nat) ({ cls := "BrokenBreadModel", name := "inner", desc := "()I" } : MethodName)) ∈ am_tbl := am_t7 (List.mem_of_getElem? (i := 83) rfl) rfl
theorem aw_7_85 : (Cond.instanceMethod ({ cls := "BrokenBreadModel", name := "inner", desc := "()I" } : MethodName)) ∈ am_tbl := am_t7 (List.mem_of_getElem? (i := 85) rfl) rfl
theorem aw_7_86 : (Cond.code ({ cls := "BrokenBreadModel", name := "inner", desc := "()I" } : MethodName) prog_12_method_47_code (3 : Nat) (Option.some FieldType.int)) ∈ am_tbl := am_t7 (List.mem_of_getElem? (i := 86) rfl) rfl
theorem aw_7_87 : (Cond.methodLink "BrokenBreadModel" (364 : Nat) ({ cls := "BrokenBreadModel", name := "isCompared", desc := "()Z" } : MethodName)) ∈ am_tbl := am_t7 (List.mem_of_getElem? (i := 87) rfl) rfl
theorem aw_7_89 : (Cond.instanceMethod ({ cls := "BrokenBreadModel", name := "isCompared", desc := "()Z" } : MethodName)) ∈ am_tbl := am_t7 (List.mem_of_getElem? (i := 89) rfl) rfl
theorem aw_7_90 : (Cond.code ({ cls := "BrokenBreadModel", name := "isCompared", desc := "()Z" } : MethodName) prog_12_method_48_code (2 : Nat) (Option.some FieldType.boolean)) ∈ am_tbl := am_t7 (List.mem_of_getElem? (i := 90) rfl) rfl
theorem aw_7_91 : (Cond.constantLong "BrokenBreadModel" (305 : Nat) (20 : Int64)) ∈ am_tbl := am_t7 (List.mem_of_getElem? (i := 91) rfl) rfl
theorem aw_7_92 : (Cond.constantLong "BrokenBreadModel" (307 : Nat) (24 : Int64)) ∈ am_tbl := am_t7 (List.mem_of_getElem? (i := 92) rfl) rfl
theorem aw_7_93 : (Cond.constantLong "BrokenBreadModel" (309 : Nat) (25 : Int64)) ∈ am_tbl := am_t7 (List.mem_of_getElem? (i := 93) rfl) rfl
theorem aw_7_94 : (Cond.constantLong "BrokenBreadModel" (311 : Nat) (27 : Int64)) ∈ am_tbl := am_t7 (List.mem_of_getElem? (i := 94) rfl) rfl
theorem aw_7_95 : (Cond.methodLink "BrokenBreadModel" (379 : Nat) ({ cls := "BrokenBreadModel", name := "behindTest", desc := "()I" } : MethodName)) ∈ am_tbl := am_t7 (List.mem_of_getElem? (i := 95) rfl) rfl
theorem aw_7_97 : (Cond.instanceMethod ({ cls := "BrokenBreadModel", name := "behindTest", desc := "()I" } : MethodName)) ∈ am_tbl := am_t7 (List.mem_of_getElem? (i := 97) rfl) rfl
theorem aw_7_98 : (Cond.code ({ cls := "BrokenBreadModel", name := "behindTest", desc := "()I" } : MethodName) prog_12_method_56_code (2 : Nat) (Option.some FieldType.int)) ∈ am_tbl := am_t7 (List.mem_of_getElem? (i := 98) rfl) rfl
theorem aw_7_99 : (Cond.constantLong "BrokenBreadModel" (368 : Nat) (1476 : Int64)) ∈ am_tbl := am_t7 (List.mem_of_getElem? (i := 99) rfl) rfl
theorem aw_7_100 : (Cond.constantLong "BrokenBreadModel" (370 : Nat) (498 : Int64)) ∈ am_tbl := am_t7 (List.mem_of_getElem? (i := 100) rfl) rfl
theorem aw_7_101 : (Cond.constantLong "BrokenBreadModel" (391 : Nat) (294 : Int64)) ∈ am_tbl := am_t7 (List.mem_of_getElem? (i := 101) rfl) rfl
theorem aw_7_102 : (Cond.methodLink "BrokenBreadModel" (399 : Nat) ({ cls := "BrokenBreadModel", name := "endText", desc := "()V" } : MethodName)) ∈ am_tbl := am_t7 (List.mem_of_getElem? (i := 102) rfl) rfl
theorem aw_7_104 : (Cond.instanceMethod ({ cls := "BrokenBreadModel", name := "endText", desc := "()V" } : MethodName)) ∈ am_tbl := am_t7 (List.mem_of_getElem? (i := 104) rfl) rfl
theorem aw_7_105 : (Cond.code ({ cls := "BrokenBreadModel", name := "endText", desc := "()V" } : MethodName) prog_12_method_59_code (1 : Nat) (Option.none : Option FieldType)) ∈ am_tbl := am_t7 (List.mem_of_getElem? (i := 105) rfl) rfl
theorem aw_7_106 : (Cond.methodLink "BrokenBreadLaw" (69 : Nat) ({ cls := "BrokenBreadModel", name := "force", desc := "(I)I" } : MethodName)) ∈ am_tbl := am_t7 (List.mem_of_getElem? (i := 106) rfl) rfl
theorem aw_7_107 : (Cond.instanceMethod ({ cls := "BrokenBreadModel", name := "force", desc := "(I)I" } : MethodName)) ∈ am_tbl := am_t7 (List.mem_of_getElem? (i := 107) rfl) rfl
theorem aw_7_108 : (Cond.selects "BrokenBreadModel" ({ cls := "BrokenBreadModel", name := "force", desc := "(I)I" } : MethodName) ({ cls := "BrokenBreadModel", name := "force", desc := "(I)I" } : MethodName)) ∈ am_tbl := am_t7 (List.mem_of_getElem? (i := 108) rfl) rfl
theorem aw_7_109 : (Cond.code ({ cls := "BrokenBreadModel", name := "force", desc := "(I)I" } : MethodName) prog_12_method_63_code (2 : Nat) (Option.some FieldType.int)) ∈ am_tbl := am_t7 (List.mem_of_getElem? (i := 109) rfl) rfl
theorem aw_7_110 : (Cond.methodLink "BrokenBreadModel" (402 : Nat) ({ cls := "BrokenBreadModel", name := "isLaw", desc := "(I)Z" } : MethodName)) ∈ am_tbl := am_t7 (List.mem_of_getElem? (i := 110) rfl) rfl
theorem aw_7_112 : (Cond.instanceMethod ({ cls := "BrokenBreadModel", name := "isLaw", desc := "(I)Z" } : MethodName)) ∈ am_tbl := am_t7 (List.mem_of_getElem? (i := 112) rfl) rfl
theorem aw_7_113 : (Cond.code ({ cls := "BrokenBreadModel", name := "isLaw", desc := "(I)Z" } : MethodName) prog_12_method_62_code (2 : Nat) (Option.some FieldType.boolean)) ∈ am_tbl := am_t7 (List.mem_of_getElem? (i := 113) rfl) rfl
theorem aw_7_114 : (Cond.methodLink "BrokenBreadLaw" (73 : Nat) ({ cls := "BrokenBreadModel", name := "harm", desc := "(III)I" } : MethodName)) ∈ am_tbl := am_t7 (List.mem_of_getElem? (i := 114) rfl) rfl
theorem aw_7_115 : (Cond.instanceMethod ({ cls := "BrokenBreadModel", name := "harm", desc := "(III)I" } : MethodName)) ∈ am_tbl := am_t7 (List.mem_of_getElem? (i := 115) rfl) rfl
theorem aw_7_116 : (Cond.selects "BrokenBreadModel" ({ cls := "BrokenBreadModel", name := "harm", desc := "(III)I" } : MethodName) ({ cls := "BrokenBreadModel", name := "harm", desc := "(III)I" } : MethodName)) ∈ am_tbl := am_t7 (List.mem_of_getElem? (i := 116) rfl) rfl
theorem aw_7_117 : (Cond.code ({ cls := "BrokenBreadModel", name := "harm", desc := "(III)I" } : MethodName) prog_12_method_77_code (4 : Nat) (Option.some FieldType.int)) ∈ am_tbl := am_t7 (List.mem_of_getElem? (i := 117) rfl) rfl
theorem aw_7_118 : (Cond.methodLink "BrokenBreadModel" (450 : Nat) ({ cls := "BrokenBreadModel", name := "harmNow", desc := "(III)I" } : MethodName)) ∈ am_tbl := am_t7 (List.mem_of_getElem? (i := 118) rfl) rfl
theorem aw_7_120 : (Cond.instanceMethod ({ cls := "BrokenBreadModel", name := "harmNow", desc := "(III)I" } : MethodName)) ∈ am_tbl := am_t7 (List.mem_of_getElem? (i := 120) rfl) rfl
theorem aw_7_121 : (Cond.code ({ cls := "BrokenBreadModel", name := "harmNow", desc := "(III)I" } : MethodName) prog_12_method_76_code (5 : Nat) (Option.some FieldType.int)) ∈ am_tbl := am_t7 (List.mem_of_getElem? (i := 121) rfl) rfl
theorem aw_7_122 : (Cond.methodLink "BrokenBreadModel" (447 : Nat) ({ cls := "BrokenBreadModel", name := "remember", desc := "(I)V" } : MethodName)) ∈ am_tbl := am_t7 (List.mem_of_getElem? (i := 122) rfl) rfl
theorem aw_7_124 : (Cond.instanceMethod ({ cls := "BrokenBreadModel", name := "remember", desc := "(I)V" } : MethodName)) ∈ am_tbl := am_t7 (List.mem_of_getElem? (i := 124) rfl) rfl
theorem aw_7_125 : (Cond.code ({ cls := "BrokenBreadModel", name := "remember", desc := "(I)V" } : MethodName) prog_12_method_12_code (3 : Nat) (Option.none : Option FieldType)) ∈ am_tbl := am_t7 (List.mem_of_getElem? (i := 125) rfl) rfl
theorem aw_7_126 : (Cond.methodLink "BrokenBreadModel" (179 : Nat) ({ cls := "BrokenBreadModel", name := "keepAll", desc := "(I)V" } : MethodName)) ∈ am_tbl := am_t7 (List.mem_of_getElem? (i := 126) rfl) rfl
theorem aw_7_128 : (Cond.instanceMethod ({ cls := "BrokenBreadModel", name := "keepAll", desc := "(I)V" } : MethodName)) ∈ am_tbl := am_t7 (List.mem_of_getElem? (i := 128) rfl) rfl
theorem aw_7_129 : (Cond.code ({ cls := "BrokenBreadModel", name := "keepAll", desc := "(I)V" } : MethodName) prog_12_method_10_code (3 : Nat) (Option.none : Option FieldType)) ∈ am_tbl := am_t7 (List.mem_of_getElem? (i := 129) rfl) rfl
theorem aw_7_130 : (Cond.methodLink "BrokenBreadLaw" (77 : Nat) ({ cls := "BrokenBreadModel", name := "feast", desc := "(I)I" } : MethodName)) ∈ am_tbl := am_t7 (List.mem_of_getElem? (i := 130) rfl) rfl
theorem aw_7_131 : (Cond.instanceMethod ({ cls := "BrokenBreadModel", name := "feast", desc := "(I)I" } : MethodName)) ∈ am_tbl := am_t7 (List.mem_of_getElem? (i := 131) rfl) rfl
theorem aw_7_132 : (Cond.selects "BrokenBreadModel" ({ cls := "BrokenBreadModel", name := "feast", desc := "(I)I" } : MethodName) ({ cls := "BrokenBreadModel", name := "feast", desc := "(I)I" } : MethodName)) ∈ am_tbl := am_t7 (List.mem_of_getElem? (i := 132) rfl) rfl
theorem aw_7_133 : (Cond.code ({ cls := "BrokenBreadModel", name := "feast", desc := "(I)I" } : MethodName) prog_12_method_80_code (2 : Nat) (Option.some FieldType.int)) ∈ am_tbl := am_t7 (List.mem_of_getElem? (i := 133) rfl) rfl
theorem aw_7_134 : (Cond.methodLink "BrokenBreadModel" (469 : Nat) ({ cls := "BrokenBreadModel", name := "feastNow", desc := "(I)I" } : MethodName)) ∈ am_tbl := am_t7 (List.mem_of_getElem? (i := 134) rfl) rfl
theorem aw_7_136 : (Cond.instanceMethod ({ cls := "BrokenBreadModel", name := "feastNow", desc := "(I)I" } : MethodName)) ∈ am_tbl := am_t7 (List.mem_of_getElem? (i := 136) rfl) rfl
theorem aw_7_137 : (Cond.code ({ cls := "BrokenBreadModel", name := "feastNow", desc := "(I)I" } : MethodName) prog_12_method_79_code (2 : Nat) (Option.some FieldType.int)) ∈ am_tbl := am_t7 (List.mem_of_getElem? (i := 137) rfl) rfl
theorem aw_7_138 : (Cond.methodLink "BrokenBreadModel" (457 : Nat) ({ cls := "BrokenBreadModel", name := "isSet", desc := "(I)Z" } : MethodName)) ∈ am_tbl := am_t7 (List.mem_of_getElem? (i := 138) rfl) rfl
theorem aw_7_139 : (Cond.static ({ cls := "BrokenBreadModel", name := "isSet", desc := "(I)Z" } : MethodName)) ∈ am_tbl := am_t7 (List.mem_of_getElem? (i := 139) rfl) rfl
theorem aw_7_140 : (Cond.code ({ cls := "BrokenBreadModel", name := "isSet", desc := "(I)Z" } : MethodName) prog_12_method_19_code (1 : Nat) (Option.some FieldType.boolean)) ∈ am_tbl := am_t7 (List.mem_of_getElem? (i := 140) rfl) rfl
theorem aw_7_141 : (Cond.constantLong "BrokenBreadModel" (197 : Nat) (127 : Int64)) ∈ am_tbl := am_t7 (List.mem_of_getElem? (i := 141) rfl) rfl
theorem aw_7_142 : (Cond.methodLink "BrokenBreadModel" (460 : Nat) ({ cls := "BrokenBreadModel", name := "areThere", desc := "(I)Z" } : MethodName)) ∈ am_tbl := am_t7 (List.mem_of_getElem? (i := 142) rfl) rfl
theorem aw_7_144 : (Cond.instanceMethod ({ cls := "BrokenBreadModel", name := "areThere", desc := "(I)Z" } : MethodName)) ∈ am_tbl := am_t7 (List.mem_of_getElem? (i := 144) rfl) rfl
theorem aw_7_145 : (Cond.code ({ cls := "BrokenBreadModel", name := "areThere", desc := "(I)Z" } : MethodName) prog_12_method_18_code (2 : Nat) (Option.some FieldType.boolean)) ∈ am_tbl := am_t7 (List.mem_of_getElem? (i := 145) rfl) rfl
theorem aw_7_146 : (Cond.methodLink "BrokenBreadModel" (193 : Nat) ({ cls := "BrokenBreadModel", name := "all", desc := "()I" } : MethodName)) ∈ am_tbl := am_t7 (List.mem_of_getElem? (i := 146) rfl) rfl
theorem aw_7_148 : (Cond.instanceMethod ({ cls := "BrokenBreadModel", name := "all", desc := "()I" } : MethodName)) ∈ am_tbl := am_t7 (List.mem_of_getElem? (i := 148) rfl) rfl
theorem aw_7_149 : (Cond.code ({ cls := "BrokenBreadModel", name := "all", desc := "()I" } : MethodName) prog_12_method_17_code (1 : Nat) (Option.some FieldType.int)) ∈ am_tbl := am_t7 (List.mem_of_getElem? (i := 149) rfl) rfl
theorem aw_7_150 : (Cond.methodLink "BrokenBreadModel" (463 : Nat) ({ cls := "BrokenBreadModel", name := "isTable", desc := "(I)Z" } : MethodName)) ∈ am_tbl := am_t7 (List.mem_of_getElem? (i := 150) rfl) rfl
theorem aw_7_152 : (Cond.instanceMethod ({ cls := "BrokenBreadModel", name := "isTable", desc := "(I)Z" } : MethodName)) ∈ am_tbl := am_t7 (List.mem_of_getElem? (i := 152) rfl) rfl
theorem aw_7_153 : (Cond.code ({ cls := "BrokenBreadModel", name := "isTable", desc := "(I)Z" } : MethodName) prog_12_method_75_code (4 : Nat) (Option.some FieldType.boolean)) ∈ am_tbl := am_t7 (List.mem_of_getElem? (i := 153) rfl) rfl
theorem aw_7_154 : (Cond.methodLink "BrokenBreadModel" (441 : Nat) ({ cls := "BrokenBreadModel", name := "ones", desc := "(I)I" } : MethodName)) ∈ am_tbl := am_t7 (List.mem_of_getElem? (i := 154) rfl) rfl
theorem aw_7_155 : (Cond.static ({ cls := "BrokenBreadModel", name := "ones", desc := "(I)I" } : MethodName)) ∈ am_tbl := am_t7 (List.mem_of_getElem? (i := 155) rfl) rfl
theorem aw_7_156 : (Cond.code ({ cls := "BrokenBreadModel", name := "ones", desc := "(I)I" } : MethodName) prog_12_method_5_code (3 : Nat) (Option.some FieldType.int)) ∈ am_tbl := am_t7 (List.mem_of_getElem? (i := 156) rfl) rfl
theorem aw_7_157 : (Cond.methodLink "BrokenBreadModel" (444 : Nat) ({ cls := "BrokenBreadModel", name := "is", desc := "(II)Z" } : MethodName)) ∈ am_tbl := am_t7 (List.mem_of_getElem? (i := 157) rfl) rfl
theorem aw_7_158 : (Cond.static ({ cls := "BrokenBreadModel", name := "is", desc := "(II)Z" } : MethodName)) ∈ am_tbl := am_t7 (List.mem_of_getElem? (i := 158) rfl) rfl
theorem aw_7_159 : (Cond.code ({ cls := "BrokenBreadModel", name := "is", desc := "(II)Z" } : MethodName) prog_12_method_4_code (2 : Nat) (Option.some FieldType.boolean)) ∈ am_tbl := am_t7 (List.mem_of_getElem? (i := 159) rfl) rfl
theorem aw_7_160 : (Cond.methodLink "BrokenBreadModel" (466 : Nat) ({ cls := "BrokenBreadModel", name := "feastIt", desc := "(I)V" } : MethodName)) ∈ am_tbl := am_t7 (List.mem_of_getElem? (i := 160) rfl) rfl
theorem aw_7_162 : (Cond.instanceMethod ({ cls := "BrokenBreadModel", name := "feastIt", desc := "(I)V" } : MethodName)) ∈ am_tbl := am_t7 (List.mem_of_getElem? (i := 162) rfl) rfl
theorem aw_7_163 : (Cond.code ({ cls := "BrokenBreadModel", name := "feastIt", desc := "(I)V" } : MethodName) prog_12_method_78_code (3 : Nat) (Option.none : Option FieldType)) ∈ am_tbl := am_t7 (List.mem_of_getElem? (i := 163) rfl) rfl
theorem aw_7_164 : (Cond.methodLink "BrokenBreadModel" (454 : Nat) ({ cls := "BrokenBreadModel", name := "feedsAt", desc := "(II)I" } : MethodName)) ∈ am_tbl := am_t7 (List.mem_of_getElem? (i := 164) rfl) rfl
theorem aw_7_166 : (Cond.instanceMethod ({ cls := "BrokenBreadModel", name := "feedsAt", desc := "(II)I" } : MethodName)) ∈ am_tbl := am_t7 (List.mem_of_getElem? (i := 166) rfl) rfl
theorem aw_7_167 : (Cond.code ({ cls := "BrokenBreadModel", name := "feedsAt", desc := "(II)I" } : MethodName) prog_12_method_69_code (3 : Nat) (Option.some FieldType.int)) ∈ am_tbl := am_t7 (List.mem_of_getElem? (i := 167) rfl) rfl
theorem aw_7_168 : (Cond.constantLong "BrokenBreadModel" (439 : Nat) (2 : Int64)) ∈ am_tbl := am_t7 (List.mem_of_getElem? (i := 168) rfl) rfl
theorem aw_7_169 : (Cond.methodLink "BrokenBreadLaw" (81 : Nat) ({ cls := "BrokenBreadModel", name := "pardon", desc := "(II)I" } : MethodName)) ∈ am_tbl := am_t7 (List.mem_of_getElem? (i := 169) rfl) rfl
theorem aw_7_170 : (Cond.instanceMethod ({ cls := "BrokenBreadModel", name := "pardon", desc := "(II)I" } : MethodName)) ∈ am_tbl := am_t7 (List.mem_of_getElem? (i := 170) rfl) rfl
theorem aw_7_171 : (Cond.selects "BrokenBreadModel" ({ cls := "BrokenBreadModel", name := "pardon", desc := "(II)I" } : MethodName) ({ cls := "BrokenBreadModel", name := "pardon", desc := "(II)I" } : MethodName)) ∈ am_tbl := am_t7 (List.mem_of_getElem? (i := 171) rfl) rfl
theorem aw_7_172 : (Cond.code ({ cls := "BrokenBreadModel", name := "pardon", desc := "(II)I" } : MethodName) prog_12_method_82_code (3 : Nat) (Option.some FieldType.int)) ∈ am_tbl := am_t7 (List.mem_of_getElem? (i := 172) rfl) rfl
theorem aw_7_173 : (Cond.methodLink "BrokenBreadModel" (472 : Nat) ({ cls := "BrokenBreadModel", name := "pardonNow", desc := "(II)I" } : MethodName)) ∈ am_tbl := am_t7 (List.mem_of_getElem? (i := 173) rfl) rfl
theorem aw_7_175 : (Cond.instanceMethod ({ cls := "BrokenBreadModel", name := "pardonNow", desc := "(II)I" } : MethodName)) ∈ am_tbl := am_t7 (List.mem_of_getElem? (i := 175) rfl) rfl
theorem aw_7_176 : (Cond.code ({ cls := "BrokenBreadModel", name := "pardonNow", desc := "(II)I" } : MethodName) prog_12_method_81_code (4 : Nat) (Option.some FieldType.int)) ∈ am_tbl := am_t7 (List.mem_of_getElem? (i := 176) rfl) rfl
theorem aw_7_177 : (Cond.methodLink "BrokenBreadLaw" (85 : Nat) ({ cls := "BrokenBreadModel", name := "pass", desc := "()I" } : MethodName)) ∈ am_tbl := am_t7 (List.mem_of_getElem? (i := 177) rfl) rfl
theorem aw_7_178 : (Cond.instanceMethod ({ cls := "BrokenBreadModel", name := "pass", desc := "()I" } : MethodName)) ∈ am_tbl := am_t7 (List.mem_of_getElem? (i := 178) rfl) rfl
theorem aw_7_179 : (Cond.selects "BrokenBreadModel" ({ cls := "BrokenBreadModel", name := "pass", desc := "()I" } : MethodName) ({ cls := "BrokenBreadModel", name := "pass", desc := "()I" } : MethodName)) ∈ am_tbl := am_t7 (List.mem_of_getElem? (i := 179) rfl) rfl
theorem aw_7_180 : (Cond.code ({ cls := "BrokenBreadModel", name := "pass", desc := "()I" } : MethodName) prog_12_method_85_code (1 : Nat) (Option.some FieldType.int)) ∈ am_tbl := am_t7 (List.mem_of_getElem? (i := 180) rfl) rfl
theorem aw_7_181 : (Cond.methodLink "BrokenBreadModel" (481 : Nat) ({ cls := "BrokenBreadModel", name := "passNow", desc := "()I" } : MethodName)) ∈ am_tbl := am_t7 (List.mem_of_getElem? (i := 181) rfl) rfl
theorem aw_7_183 : (Cond.instanceMethod ({ cls := "BrokenBreadModel", name := "passNow", desc := "()I" } : MethodName)) ∈ am_tbl := am_t7 (List.mem_of_getElem? (i := 183) rfl) rfl
theorem aw_7_184 : (Cond.code ({ cls := "BrokenBreadModel", name := "passNow", desc := "()I" } : MethodName) prog_12_method_84_code (1 : Nat) (Option.some FieldType.int)) ∈ am_tbl := am_t7 (List.mem_of_getElem? (i := 184) rfl) rfl
theorem aw_7_185 : (Cond.methodLink "BrokenBreadModel" (475 : Nat) ({ cls := "BrokenBreadModel", name := "passIt", desc := "()V" } : MethodName)) ∈ am_tbl := am_t7 (List.mem_of_getElem? (i := 185) rfl) rfl
theorem aw_7_187 : (Cond.instanceMethod ({ cls := "BrokenBreadModel", name := "passIt", desc := "()V" } : MethodName)) ∈ am_tbl := am_t7 (List.mem_of_getElem? (i := 187) rfl) rfl
theorem aw_7_188 : (Cond.code ({ cls := "BrokenBreadModel", name := "passIt", desc := "()V" } : MethodName) prog_12_method_83_code (2 : Nat) (Option.none : Option FieldType)) ∈ am_tbl := am_t7 (List.mem_of_getElem? (i := 188) rfl) rfl
theorem aw_7_189 : (Cond.methodLink "BrokenBreadModel" (478 : Nat) ({ cls := "BrokenBreadModel", name := "starving", desc := "()I" } : MethodName)) ∈ am_tbl := am_t7 (List.mem_of_getElem? (i := 189) rfl) rfl
theorem aw_7_191 : (Cond.instanceMethod ({ cls := "BrokenBreadModel", name := "starving", desc := "()I" } : MethodName)) ∈ am_tbl := am_t7 (List.mem_of_getElem? (i := 191) rfl) rfl
theorem aw_7_192 : (Cond.code ({ cls := "BrokenBreadModel", name := "starving", desc := "()I" } : MethodName) prog_12_method_22_code (3 : Nat) (Option.some FieldType.int)) ∈ am_tbl := am_t7 (List.mem_of_getElem? (i := 192) rfl) rfl
theorem aw_7_193 : (Cond.methodLink "BrokenBreadLaw" (93 : Nat) ({ cls := "BrokenBreadModel", name := "largest", desc := "(I)I" } : MethodName)) ∈ am_tbl := am_t7 (List.mem_of_getElem? (i := 193) rfl) rfl
theorem aw_7_194 : (Cond.instanceMethod ({ cls := "BrokenBreadModel", name := "largest", desc := "(I)I" } : MethodName)) ∈ am_tbl := am_t7 (List.mem_of_getElem? (i := 194) rfl) rfl
theorem aw_7_195 : (Cond.selects "BrokenBreadModel" ({ cls := "BrokenBreadModel", name := "largest", desc := "(I)I" } : MethodName) ({ cls := "BrokenBreadModel", name := "largest", desc := "(I)I" } : MethodName)) ∈ am_tbl := am_t7 (List.mem_of_getElem? (i := 195) rfl) rfl
theorem aw_7_196 : (Cond.code ({ cls := "BrokenBreadModel", name := "largest", desc := "(I)I" } : MethodName) prog_12_method_87_code (3 : Nat) (Option.some FieldType.int)) ∈ am_tbl := am_t7 (List.mem_of_getElem? (i := 196) rfl) rfl
theorem aw_7_197 : (Cond.methodLink "BrokenBreadModel" (484 : Nat) ({ cls := "BrokenBreadModel", name := "largestSet", desc := "()I" } : MethodName)) ∈ am_tbl := am_t7 (List.mem_of_getElem? (i := 197) rfl) rfl
theorem aw_7_199 : (Cond.instanceMethod ({ cls := "BrokenBreadModel", name := "largestSet", desc := "()I" } : MethodName)) ∈ am_tbl := am_t7 (List.mem_of_getElem? (i := 199) rfl) rfl
theorem aw_7_200 : (Cond.code ({ cls := "BrokenBreadModel", name := "largestSet", desc := "()I" } : MethodName) prog_12_method_86_code (4 : Nat) (Option.some FieldType.int)) ∈ am_tbl := am_t7 (List.mem_of_getElem? (i := 200) rfl) rfl
theorem aw_7_201 : (Cond.methodLink "BrokenBreadLaw" (97 : Nat) ({ cls := "BrokenBreadModel", name := "tables", desc := "(I)I" } : MethodName)) ∈ am_tbl := am_t7 (List.mem_of_getElem? (i := 201) rfl) rfl
theorem aw_7_202 : (Cond.instanceMethod ({ cls := "BrokenBreadModel", name := "tables", desc := "(I)I" } : MethodName)) ∈ am_tbl := am_t7 (List.mem_of_getElem? (i := 202) rfl) rfl
theorem aw_7_203 : (Cond.selects "BrokenBreadModel" ({ cls := "BrokenBreadModel", name := "tables", desc := "(I)I" } : MethodName) ({ cls := "BrokenBreadModel", name := "tables", desc := "(I)I" } : MethodName)) ∈ am_tbl := am_t7 (List.mem_of_getElem? (i := 203) rfl) rfl
theorem aw_7_204 : (Cond.code ({ cls := "BrokenBreadModel", name := "tables", desc := "(I)I" } : MethodName) prog_12_method_92_code (2 : Nat) (Option.some FieldType.int)) ∈ am_tbl := am_t7 (List.mem_of_getElem? (i := 204) rfl) rfl
theorem aw_7_205 : (Cond.methodLink "BrokenBreadModel" (500 : Nat) ({ cls := "BrokenBreadModel", name := "findParts", desc := "(Z)V" } : MethodName)) ∈ am_tbl := am_t7 (List.mem_of_getElem? (i := 205) rfl) rfl
theorem aw_7_207 : (Cond.instanceMethod ({ cls := "BrokenBreadModel", name := "findParts", desc := "(Z)V" } : MethodName)) ∈ am_tbl := am_t7 (List.mem_of_getElem? (i := 207) rfl) rfl
theorem aw_7_208 : (Cond.code ({ cls := "BrokenBreadModel", name := "findParts", desc := "(Z)V" } : MethodName) prog_12_method_91_code (5 : Nat) (Option.none : Option FieldType)) ∈ am_tbl := am_t7 (List.mem_of_getElem? (i := 208) rfl) rfl
theorem aw_7_209 : (Cond.constant "BrokenBreadModel" (493 : Nat) (100000000 : Int32)) ∈ am_tbl := am_t7 (List.mem_of_getElem? (i := 209) rfl) rfl
theorem aw_7_210 : (Cond.methodLink "BrokenBreadModel" (487 : Nat) ({ cls := "BrokenBreadModel", name := "setsAhead", desc := "(I)I" } : MethodName)) ∈ am_tbl := am_t7 (List.mem_of_getElem? (i := 210) rfl) rfl
theorem aw_7_212 : (Cond.instanceMethod ({ cls := "BrokenBreadModel", name := "setsAhead", desc := "(I)I" } : MethodName)) ∈ am_tbl := am_t7 (List.mem_of_getElem? (i := 212) rfl) rfl
theorem aw_7_213 : (Cond.code ({ cls := "BrokenBreadModel", name := "setsAhead", desc := "(I)I" } : MethodName) prog_12_method_88_code (4 : Nat) (Option.some FieldType.int)) ∈ am_tbl := am_t7 (List.mem_of_getElem? (i := 213) rfl) rfl
theorem aw_7_214 : (Cond.methodLink "BrokenBreadModel" (497 : Nat) ({ cls := "BrokenBreadModel", name := "worthOf", desc := "(Z)I" } : MethodName)) ∈ am_tbl := am_t7 (List.mem_of_getElem? (i := 214) rfl) rfl
theorem aw_7_216 : (Cond.instanceMethod ({ cls := "BrokenBreadModel", name := "worthOf", desc := "(Z)I" } : MethodName)) ∈ am_tbl := am_t7 (List.mem_of_getElem? (i := 216) rfl) rfl
theorem aw_7_217 : (Cond.code ({ cls := "BrokenBreadModel", name := "worthOf", desc := "(Z)I" } : MethodName) prog_12_method_90_code (7 : Nat) (Option.some FieldType.int)) ∈ am_tbl := am_t7 (List.mem_of_getElem? (i := 217) rfl) rfl
theorem aw_7_218 : (Cond.methodLink "BrokenBreadModel" (490 : Nat) ({ cls := "BrokenBreadModel", name := "setOf", desc := "(II)I" } : MethodName)) ∈ am_tbl := am_t7 (List.mem_of_getElem? (i := 218) rfl) rfl
theorem aw_7_220 : (Cond.instanceMethod ({ cls := "BrokenBreadModel", name := "setOf", desc := "(II)I" } : MethodName)) ∈ am_tbl := am_t7 (List.mem_of_getElem? (i := 220) rfl) rfl
theorem aw_7_221 : (Cond.code ({ cls := "BrokenBreadModel", name := "setOf", desc := "(II)I" } : MethodName) prog_12_method_89_code (5 : Nat) (Option.some FieldType.int)) ∈ am_tbl := am_t7 (List.mem_of_getElem? (i := 221) rfl) rfl
theorem aw_7_222 : (Cond.methodLink "BrokenBreadLaw" (101 : Nat) ({ cls := "BrokenBreadModel", name := "newHarms", desc := "(I)I" } : MethodName)) ∈ am_tbl := am_t7 (List.mem_of_getElem? (i := 222) rfl) rfl
theorem aw_7_223 : (Cond.instanceMethod ({ cls := "BrokenBreadModel", name := "newHarms", desc := "(I)I" } : MethodName)) ∈ am_tbl := am_t7 (List.mem_of_getElem? (i := 223) rfl) rfl
theorem aw_7_224 : (Cond.selects "BrokenBreadModel" ({ cls := "BrokenBreadModel", name := "newHarms", desc := "(I)I" } : MethodName) ({ cls := "BrokenBreadModel", name := "newHarms", desc := "(I)I" } : MethodName)) ∈ am_tbl := am_t7 (List.mem_of_getElem? (i := 224) rfl) rfl
theorem aw_7_225 : (Cond.code ({ cls := "BrokenBreadModel", name := "newHarms", desc := "(I)I" } : MethodName) prog_12_method_93_code (2 : Nat) (Option.some FieldType.int)) ∈ am_tbl := am_t7 (List.mem_of_getElem? (i := 225) rfl) rfl
theorem aw_7_226 : (Cond.methodLink "BrokenBreadLaw" (105 : Nat) ({ cls := "BrokenBreadModel", name := "leftOut", desc := "(I)I" } : MethodName)) ∈ am_tbl := am_t7 (List.mem_of_getElem? (i := 226) rfl) rfl
theorem aw_7_227 : (Cond.instanceMethod ({ cls := "BrokenBreadModel", name := "leftOut", desc := "(I)I" } : MethodName)) ∈ am_tbl := am_t7 (List.mem_of_getElem? (i := 227) rfl) rfl
theorem aw_7_228 : (Cond.selects "BrokenBreadModel" ({ cls := "BrokenBreadModel", name := "leftOut", desc := "(I)I" } : MethodName) ({ cls := "BrokenBreadModel", name := "leftOut", desc := "(I)I" } : MethodName)) ∈ am_tbl := am_t7 (List.mem_of_getElem? (i := 228) rfl) rfl
theorem aw_7_229 : (Cond.code ({ cls := "BrokenBreadModel", name := "leftOut", desc := "(I)I" } : MethodName) prog_12_method_95_code (5 : Nat) (Option.some FieldType.int)) ∈ am_tbl := am_t7 (List.mem_of_getElem? (i := 229) rfl) rfl
theorem aw_7_230 : (Cond.methodLink "BrokenBreadModel" (503 : Nat) ({ cls := "BrokenBreadModel", name := "layParts", desc := "()V" } : MethodName)) ∈ am_tbl := am_t7 (List.mem_of_getElem? (i := 230) rfl) rfl
theorem aw_7_232 : (Cond.instanceMethod ({ cls := "BrokenBreadModel", name := "layParts", desc := "()V" } : MethodName)) ∈ am_tbl := am_t7 (List.mem_of_getElem? (i := 232) rfl) rfl
theorem aw_7_233 : (Cond.code ({ cls := "BrokenBreadModel", name := "layParts", desc := "()V" } : MethodName) prog_12_method_94_code (3 : Nat) (Option.none : Option FieldType)) ∈ am_tbl := am_t7 (List.mem_of_getElem? (i := 233) rfl) rfl
theorem aw_7_234 : (Cond.methodLink "BrokenBreadLaw" (109 : Nat) ({ cls := "BrokenBreadModel", name := "seat", desc := "(II)I" } : MethodName)) ∈ am_tbl := am_t7 (List.mem_of_getElem? (i := 234) rfl) rfl
theorem aw_7_235 : (Cond.instanceMethod ({ cls := "BrokenBreadModel", name := "seat", desc := "(II)I" } : MethodName)) ∈ am_tbl := am_t7 (List.mem_of_getElem? (i := 235) rfl) rfl
theorem aw_7_236 : (Cond.selects "BrokenBreadModel" ({ cls := "BrokenBreadModel", name := "seat", desc := "(II)I" } : MethodName) ({ cls := "BrokenBreadModel", name := "seat", desc := "(II)I" } : MethodName)) ∈ am_tbl := am_t7 (List.mem_of_getElem? (i := 236) rfl) rfl
theorem aw_7_237 : (Cond.code ({ cls := "BrokenBreadModel", name := "seat", desc := "(II)I" } : MethodName) prog_12_method_97_code (8 : Nat) (Option.some FieldType.int)) ∈ am_tbl := am_t7 (List.mem_of_getElem? (i := 237) rfl) rfl
theorem aw_7_238 : (Cond.methodLink "BrokenBreadModel" (506 : Nat) ({ cls := "BrokenBreadModel", name := "suffered", desc := "(II)I" } : MethodName)) ∈ am_tbl := am_t7 (List.mem_of_getElem? (i := 238) rfl) rfl
theorem aw_8_0 : (Cond.instanceMethod ({ cls := "BrokenBreadModel", name := "suffered", desc := "(II)I" } : MethodName)) ∈ am_tbl := am_t8 (List.mem_of_getElem? (i := 0) rfl) rfl
theorem aw_8_1 : (Cond.code ({ cls := "BrokenBreadModel", name := "suffered", desc := "(II)I" } : MethodName) prog_12_method_96_code (5 : Nat) (Option.some FieldType.int)) ∈ am_tbl := am_t8 (List.mem_of_getElem? (i := 1) rfl) rfl
theorem aw_8_2 : (Cond.methodLink "BrokenBreadLaw" (113 : Nat) ({ cls := "BrokenBreadModel", name := "chain", desc := "(III)I" } : MethodName)) ∈ am_tbl := am_t8 (List.mem_of_getElem? (i := 2) rfl) rfl
theorem aw_8_3 : (Cond.instanceMethod ({ cls := "BrokenBreadModel", name := "chain", desc := "(III)I" } : MethodName)) ∈ am_tbl := am_t8 (List.mem_of_getElem? (i := 3) rfl) rfl
theorem aw_8_4 : (Cond.selects "BrokenBreadModel" ({ cls := "BrokenBreadModel", name := "chain", desc := "(III)I" } : MethodName) ({ cls := "BrokenBreadModel", name := "chain", desc := "(III)I" } : MethodName)) ∈ am_tbl := am_t8 (List.mem_of_getElem? (i := 4) rfl) rfl
theorem aw_8_5 : (Cond.code ({ cls := "BrokenBreadModel", name := "chain", desc := "(III)I" } : MethodName) prog_12_method_99_code (7 : Nat) (Option.some FieldType.int)) ∈ am_tbl := am_t8 (List.mem_of_getElem? (i := 5) rfl) rfl
theorem aw_8_6 : (Cond.methodLink "BrokenBreadModel" (509 : Nat) ({ cls := "BrokenBreadModel", name := "layFar", desc := "(I)V" } : MethodName)) ∈ am_tbl := am_t8 (List.mem_of_getElem? (i := 6) rfl) rfl
theorem aw_8_8 : (Cond.instanceMethod ({ cls := "BrokenBreadModel", name := "layFar", desc := "(I)V" } : MethodName)) ∈ am_tbl := am_t8 (List.mem_of_getElem? (i := 8) rfl) rfl
theorem aw_8_9 : (Cond.code ({ cls := "BrokenBreadModel", name := "layFar", desc := "(I)V" } : MethodName) prog_12_method_98_code (5 : Nat) (Option.none : Option FieldType)) ∈ am_tbl := am_t8 (List.mem_of_getElem? (i := 9) rfl) rfl
theorem aw_8_10 : (Cond.methodLink "BrokenBreadLaw" (117 : Nat) ({ cls := "BrokenBreadModel", name := "circles", desc := "()I" } : MethodName)) ∈ am_tbl := am_t8 (List.mem_of_getElem? (i := 10) rfl) rfl
theorem aw_8_11 : (Cond.instanceMethod ({ cls := "BrokenBreadModel", name := "circles", desc := "()I" } : MethodName)) ∈ am_tbl := am_t8 (List.mem_of_getElem? (i := 11) rfl) rfl
theorem aw_8_12 : (Cond.selects "BrokenBreadModel" ({ cls := "BrokenBreadModel", name := "circles", desc := "()I" } : MethodName) ({ cls := "BrokenBreadModel", name := "circles", desc := "()I" } : MethodName)) ∈ am_tbl := am_t8 (List.mem_of_getElem? (i := 12) rfl) rfl
theorem aw_8_13 : (Cond.code ({ cls := "BrokenBreadModel", name := "circles", desc := "()I" } : MethodName) prog_12_method_101_code (1 : Nat) (Option.some FieldType.int)) ∈ am_tbl := am_t8 (List.mem_of_getElem? (i := 13) rfl) rfl
theorem aw_8_14 : (Cond.methodLink "BrokenBreadModel" (512 : Nat) ({ cls := "BrokenBreadModel", name := "circlesNow", desc := "()I" } : MethodName)) ∈ am_tbl := am_t8 (List.mem_of_getElem? (i := 14) rfl) rfl
theorem aw_8_16 : (Cond.instanceMethod ({ cls := "BrokenBreadModel", name := "circlesNow", desc := "()I" } : MethodName)) ∈ am_tbl := am_t8 (List.mem_of_getElem? (i := 16) rfl) rfl
theorem aw_8_17 : (Cond.code ({ cls := "BrokenBreadModel", name := "circlesNow", desc := "()I" } : MethodName) prog_12_method_100_code (7 : Nat) (Option.some FieldType.int)) ∈ am_tbl := am_t8 (List.mem_of_getElem? (i := 17) rfl) rfl
theorem aw_8_18 : (Cond.methodLink "BrokenBreadLaw" (121 : Nat) ({ cls := "BrokenBreadModel", name := "bridges", desc := "(I)I" } : MethodName)) ∈ am_tbl := am_t8 (List.mem_of_getElem? (i := 18) rfl) rfl
theorem aw_8_19 : (Cond.instanceMethod ({ cls := "BrokenBreadModel", name := "bridges", desc := "(I)I" } : MethodName)) ∈ am_tbl := am_t8 (List.mem_of_getElem? (i := 19) rfl) rfl
theorem aw_8_20 : (Cond.selects "BrokenBreadModel" ({ cls := "BrokenBreadModel", name := "bridges", desc := "(I)I" } : MethodName) ({ cls := "BrokenBreadModel", name := "bridges", desc := "(I)I" } : MethodName)) ∈ am_tbl := am_t8 (List.mem_of_getElem? (i := 20) rfl) rfl
theorem aw_8_21 : (Cond.code ({ cls := "BrokenBreadModel", name := "bridges", desc := "(I)I" } : MethodName) prog_12_method_103_code (6 : Nat) (Option.some FieldType.int)) ∈ am_tbl := am_t8 (List.mem_of_getElem? (i := 21) rfl) rfl
theorem aw_8_22 : (Cond.methodLink "BrokenBreadModel" (515 : Nat) ({ cls := "BrokenBreadModel", name := "isBridge", desc := "(II)Z" } : MethodName)) ∈ am_tbl := am_t8 (List.mem_of_getElem? (i := 22) rfl) rfl
theorem aw_8_24 : (Cond.instanceMethod ({ cls := "BrokenBreadModel", name := "isBridge", desc := "(II)Z" } : MethodName)) ∈ am_tbl := am_t8 (List.mem_of_getElem? (i := 24) rfl) rfl
theorem aw_8_25 : (Cond.code ({ cls := "BrokenBreadModel", name := "isBridge", desc := "(II)Z" } : MethodName) prog_12_method_102_code (5 : Nat) (Option.some FieldType.boolean)) ∈ am_tbl := am_t8 (List.mem_of_getElem? (i := 25) rfl) rfl
theorem aw_8_26 : (Cond.methodLink "BrokenBreadLaw" (125 : Nat) ({ cls := "BrokenBreadModel", name := "sat", desc := "(I)I" } : MethodName)) ∈ am_tbl := am_t8 (List.mem_of_getElem? (i := 26) rfl) rfl
theorem aw_8_27 : (Cond.instanceMethod ({ cls := "BrokenBreadModel", name := "sat", desc := "(I)I" } : MethodName)) ∈ am_tbl := am_t8 (List.mem_of_getElem? (i := 27) rfl) rfl
theorem aw_8_28 : (Cond.selects "BrokenBreadModel" ({ cls := "BrokenBreadModel", name := "sat", desc := "(I)I" } : MethodName) ({ cls := "BrokenBreadModel", name := "sat", desc := "(I)I" } : MethodName)) ∈ am_tbl := am_t8 (List.mem_of_getElem? (i := 28) rfl) rfl
theorem aw_8_29 : (Cond.code ({ cls := "BrokenBreadModel", name := "sat", desc := "(I)I" } : MethodName) prog_12_method_104_code (3 : Nat) (Option.some FieldType.int)) ∈ am_tbl := am_t8 (List.mem_of_getElem? (i := 29) rfl) rfl
theorem aw_8_30 : (Cond.methodLink "BrokenBreadLaw" (129 : Nat) ({ cls := "BrokenBreadModel", name := "forget", desc := "()I" } : MethodName)) ∈ am_tbl := am_t8 (List.mem_of_getElem? (i := 30) rfl) rfl
theorem aw_8_31 : (Cond.instanceMethod ({ cls := "BrokenBreadModel", name := "forget", desc := "()I" } : MethodName)) ∈ am_tbl := am_t8 (List.mem_of_getElem? (i := 31) rfl) rfl
theorem aw_8_32 : (Cond.selects "BrokenBreadModel" ({ cls := "BrokenBreadModel", name := "forget", desc := "()I" } : MethodName) ({ cls := "BrokenBreadModel", name := "forget", desc := "()I" } : MethodName)) ∈ am_tbl := am_t8 (List.mem_of_getElem? (i := 32) rfl) rfl
theorem aw_8_33 : (Cond.code ({ cls := "BrokenBreadModel", name := "forget", desc := "()I" } : MethodName) prog_12_method_105_code (2 : Nat) (Option.some FieldType.int)) ∈ am_tbl := am_t8 (List.mem_of_getElem? (i := 33) rfl) rfl
theorem aw_8_34 : (Cond.methodLink "BrokenBreadLaw" (133 : Nat) ({ cls := "BrokenBreadModel", name := "doubted", desc := "(I)I" } : MethodName)) ∈ am_tbl := am_t8 (List.mem_of_getElem? (i := 34) rfl) rfl
theorem aw_8_35 : (Cond.instanceMethod ({ cls := "BrokenBreadModel", name := "doubted", desc := "(I)I" } : MethodName)) ∈ am_tbl := am_t8 (List.mem_of_getElem? (i := 35) rfl) rfl
theorem aw_8_36 : (Cond.selects "BrokenBreadModel" ({ cls := "BrokenBreadModel", name := "doubted", desc := "(I)I" } : MethodName) ({ cls := "BrokenBreadModel", name := "doubted", desc := "(I)I" } : MethodName)) ∈ am_tbl := am_t8 (List.mem_of_getElem? (i := 36) rfl) rfl
theorem aw_8_37 : (Cond.code ({ cls := "BrokenBreadModel", name := "doubted", desc := "(I)I" } : MethodName) prog_12_method_107_code (6 : Nat) (Option.some FieldType.int)) ∈ am_tbl := am_t8 (List.mem_of_getElem? (i := 37) rfl) rfl
theorem aw_8_38 : (Cond.methodLink "BrokenBreadModel" (518 : Nat) ({ cls := "BrokenBreadModel", name := "satBoth", desc := "(II)Z" } : MethodName)) ∈ am_tbl := am_t8 (List.mem_of_getElem? (i := 38) rfl) rfl
theorem aw_8_40 : (Cond.instanceMethod ({ cls := "BrokenBreadModel", name := "satBoth", desc := "(II)Z" } : MethodName)) ∈ am_tbl := am_t8 (List.mem_of_getElem? (i := 40) rfl) rfl
theorem aw_8_41 : (Cond.code ({ cls := "BrokenBreadModel", name := "satBoth", desc := "(II)Z" } : MethodName) prog_12_method_106_code (5 : Nat) (Option.some FieldType.boolean)) ∈ am_tbl := am_t8 (List.mem_of_getElem? (i := 41) rfl) rfl
theorem aw_8_42 : (Cond.methodLink "BrokenBreadLaw" (137 : Nat) ({ cls := "BrokenBreadModel", name := "fitting", desc := "(I)I" } : MethodName)) ∈ am_tbl := am_t8 (List.mem_of_getElem? (i := 42) rfl) rfl
theorem aw_8_43 : (Cond.instanceMethod ({ cls := "BrokenBreadModel", name := "fitting", desc := "(I)I" } : MethodName)) ∈ am_tbl := am_t8 (List.mem_of_getElem? (i := 43) rfl) rfl
theorem aw_8_44 : (Cond.selects "BrokenBreadModel" ({ cls := "BrokenBreadModel", name := "fitting", desc := "(I)I" } : MethodName) ({ cls := "BrokenBreadModel", name := "fitting", desc := "(I)I" } : MethodName)) ∈ am_tbl := am_t8 (List.mem_of_getElem? (i := 44) rfl) rfl
theorem aw_8_45 : (Cond.code ({ cls := "BrokenBreadModel", name := "fitting", desc := "(I)I" } : MethodName) prog_12_method_109_code (2 : Nat) (Option.some FieldType.int)) ∈ am_tbl := am_t8 (List.mem_of_getElem? (i := 45) rfl) rfl
theorem aw_8_46 : (Cond.methodLink "BrokenBreadModel" (521 : Nat) ({ cls := "BrokenBreadModel", name := "fittingFor", desc := "(I)I" } : MethodName)) ∈ am_tbl := am_t8 (List.mem_of_getElem? (i := 46) rfl) rfl
theorem aw_8_48 : (Cond.instanceMethod ({ cls := "BrokenBreadModel", name := "fittingFor", desc := "(I)I" } : MethodName)) ∈ am_tbl := am_t8 (List.mem_of_getElem? (i := 48) rfl) rfl
theorem aw_8_49 : (Cond.code ({ cls := "BrokenBreadModel", name := "fittingFor", desc := "(I)I" } : MethodName) prog_12_method_108_code (4 : Nat) (Option.some FieldType.int)) ∈ am_tbl := am_t8 (List.mem_of_getElem? (i := 49) rfl) rfl
theorem aw_8_50 : (Cond.methodLink "BrokenBreadLaw" (141 : Nat) ({ cls := "BrokenBreadModel", name := "ask", desc := "(II)I" } : MethodName)) ∈ am_tbl := am_t8 (List.mem_of_getElem? (i := 50) rfl) rfl
theorem aw_8_51 : (Cond.instanceMethod ({ cls := "BrokenBreadModel", name := "ask", desc := "(II)I" } : MethodName)) ∈ am_tbl := am_t8 (List.mem_of_getElem? (i := 51) rfl) rfl
theorem aw_8_52 : (Cond.selects "BrokenBreadModel" ({ cls := "BrokenBreadModel", name := "ask", desc := "(II)I" } : MethodName) ({ cls := "BrokenBreadModel", name := "ask", desc := "(II)I" } : MethodName)) ∈ am_tbl := am_t8 (List.mem_of_getElem? (i := 52) rfl) rfl
theorem aw_8_53 : (Cond.code ({ cls := "BrokenBreadModel", name := "ask", desc := "(II)I" } : MethodName) prog_12_method_110_code (8 : Nat) (Option.some FieldType.int)) ∈ am_tbl := am_t8 (List.mem_of_getElem? (i := 53) rfl) rfl
theorem aw_8_54 : (Cond.methodLink "BrokenBreadLaw" (145 : Nat) ({ cls := "BrokenBreadModel", name := "lasts", desc := "(I)I" } : MethodName)) ∈ am_tbl := am_t8 (List.mem_of_getElem? (i := 54) rfl) rfl
theorem aw_8_55 : (Cond.instanceMethod ({ cls := "BrokenBreadModel", name := "lasts", desc := "(I)I" } : MethodName)) ∈ am_tbl := am_t8 (List.mem_of_getElem? (i := 55) rfl) rfl
theorem aw_8_56 : (Cond.selects "BrokenBreadModel" ({ cls := "BrokenBreadModel", name := "lasts", desc := "(I)I" } : MethodName) ({ cls := "BrokenBreadModel", name := "lasts", desc := "(I)I" } : MethodName)) ∈ am_tbl := am_t8 (List.mem_of_getElem? (i := 56) rfl) rfl
theorem aw_8_57 : (Cond.code ({ cls := "BrokenBreadModel", name := "lasts", desc := "(I)I" } : MethodName) prog_12_method_111_code (3 : Nat) (Option.some FieldType.int)) ∈ am_tbl := am_t8 (List.mem_of_getElem? (i := 57) rfl) rfl
theorem aw_8_58 : (Cond.methodLink "BrokenBreadLaw" (149 : Nat) ({ cls := "BrokenBreadModel", name := "fedBy", desc := "(I)I" } : MethodName)) ∈ am_tbl := am_t8 (List.mem_of_getElem? (i := 58) rfl) rfl
theorem aw_8_59 : (Cond.instanceMethod ({ cls := "BrokenBreadModel", name := "fedBy", desc := "(I)I" } : MethodName)) ∈ am_tbl := am_t8 (List.mem_of_getElem? (i := 59) rfl) rfl
theorem aw_8_60 : (Cond.selects "BrokenBreadModel" ({ cls := "BrokenBreadModel", name := "fedBy", desc := "(I)I" } : MethodName) ({ cls := "BrokenBreadModel", name := "fedBy", desc := "(I)I" } : MethodName)) ∈ am_tbl := am_t8 (List.mem_of_getElem? (i := 60) rfl) rfl
theorem aw_8_61 : (Cond.code ({ cls := "BrokenBreadModel", name := "fedBy", desc := "(I)I" } : MethodName) prog_12_method_112_code (6 : Nat) (Option.some FieldType.int)) ∈ am_tbl := am_t8 (List.mem_of_getElem? (i := 61) rfl) rfl
theorem aw_8_62 : (Cond.methodLink "BrokenBreadLaw" (154 : Nat) ({ cls := "BrokenBreadModel", name := "few", desc := "(II)J" } : MethodName)) ∈ am_tbl := am_t8 (List.mem_of_getElem? (i := 62) rfl) rfl
theorem aw_8_63 : (Cond.instanceMethod ({ cls := "BrokenBreadModel", name := "few", desc := "(II)J" } : MethodName)) ∈ am_tbl := am_t8 (List.mem_of_getElem? (i := 63) rfl) rfl
theorem aw_8_64 : (Cond.selects "BrokenBreadModel" ({ cls := "BrokenBreadModel", name := "few", desc := "(II)J" } : MethodName) ({ cls := "BrokenBreadModel", name := "few", desc := "(II)J" } : MethodName)) ∈ am_tbl := am_t8 (List.mem_of_getElem? (i := 64) rfl) rfl
theorem aw_8_65 : (Cond.code ({ cls := "BrokenBreadModel", name := "few", desc := "(II)J" } : MethodName) prog_12_method_113_code (8 : Nat) (Option.some FieldType.long)) ∈ am_tbl := am_t8 (List.mem_of_getElem? (i := 65) rfl) rfl
theorem aw_8_66 : (Cond.constantLong "BrokenBreadModel" (524 : Nat) (99 : Int64)) ∈ am_tbl := am_t8 (List.mem_of_getElem? (i := 66) rfl) rfl
theorem aw_8_67 : (Cond.constantLong "BrokenBreadModel" (526 : Nat) (1000000000000 : Int64)) ∈ am_tbl := am_t8 (List.mem_of_getElem? (i := 67) rfl) rfl
theorem aw_8_68 : (Cond.methodLink "BrokenBreadLaw" (158 : Nat) ({ cls := "BrokenBreadModel", name := "compare", desc := "(I)I" } : MethodName)) ∈ am_tbl := am_t8 (List.mem_of_getElem? (i := 68) rfl) rfl
theorem aw_8_69 : (Cond.instanceMethod ({ cls := "BrokenBreadModel", name := "compare", desc := "(I)I" } : MethodName)) ∈ am_tbl := am_t8 (List.mem_of_getElem? (i := 69) rfl) rfl
theorem aw_8_70 : (Cond.selects "BrokenBreadModel" ({ cls := "BrokenBreadModel", name := "compare", desc := "(I)I" } : MethodName) ({ cls := "BrokenBreadModel", name := "compare", desc := "(I)I" } : MethodName)) ∈ am_tbl := am_t8 (List.mem_of_getElem? (i := 70) rfl) rfl
theorem aw_8_71 : (Cond.code ({ cls := "BrokenBreadModel", name := "compare", desc := "(I)I" } : MethodName) prog_12_method_114_code (3 : Nat) (Option.some FieldType.int)) ∈ am_tbl := am_t8 (List.mem_of_getElem? (i := 71) rfl) rfl
theorem aw_8_72 : (Cond.methodLink "BrokenBreadLaw" (57 : Nat) ({ cls := "BrokenBreadModel", name := "orders", desc := "()I" } : MethodName)) ∈ am_tbl := am_t8 (List.mem_of_getElem? (i := 72) rfl) rfl
theorem aw_8_73 : (Cond.instanceMethod ({ cls := "BrokenBreadModel", name := "orders", desc := "()I" } : MethodName)) ∈ am_tbl := am_t8 (List.mem_of_getElem? (i := 73) rfl) rfl
theorem aw_8_74 : (Cond.selects "BrokenBreadModel" ({ cls := "BrokenBreadModel", name := "orders", desc := "()I" } : MethodName) ({ cls := "BrokenBreadModel", name := "orders", desc := "()I" } : MethodName)) ∈ am_tbl := am_t8 (List.mem_of_getElem? (i := 74) rfl) rfl
theorem aw_8_75 : (Cond.code ({ cls := "BrokenBreadModel", name := "orders", desc := "()I" } : MethodName) prog_12_method_121_code (4 : Nat) (Option.some FieldType.int)) ∈ am_tbl := am_t8 (List.mem_of_getElem? (i := 75) rfl) rfl
theorem aw_8_76 : (Cond.methodLink "BrokenBreadModel" (560 : Nat) ({ cls := "BrokenBreadModel", name := "readOrder", desc := "()V" } : MethodName)) ∈ am_tbl := am_t8 (List.mem_of_getElem? (i := 76) rfl) rfl
theorem aw_8_78 : (Cond.instanceMethod ({ cls := "BrokenBreadModel", name := "readOrder", desc := "()V" } : MethodName)) ∈ am_tbl := am_t8 (List.mem_of_getElem? (i := 78) rfl) rfl
theorem aw_8_79 : (Cond.code ({ cls := "BrokenBreadModel", name := "readOrder", desc := "()V" } : MethodName) prog_12_method_117_code (4 : Nat) (Option.none : Option FieldType)) ∈ am_tbl := am_t8 (List.mem_of_getElem? (i := 79) rfl) rfl
theorem aw_8_80 : (Cond.methodLink "BrokenBreadModel" (528 : Nat) ({ cls := "BrokenBreadModel", name := "readSum", desc := "(I)V" } : MethodName)) ∈ am_tbl := am_t8 (List.mem_of_getElem? (i := 80) rfl) rfl
theorem aw_8_82 : (Cond.instanceMethod ({ cls := "BrokenBreadModel", name := "readSum", desc := "(I)V" } : MethodName)) ∈ am_tbl := am_t8 (List.mem_of_getElem? (i := 82) rfl) rfl
theorem aw_8_83 : (Cond.code ({ cls := "BrokenBreadModel", name := "readSum", desc := "(I)V" } : MethodName) prog_12_method_115_code (2 : Nat) (Option.none : Option FieldType)) ∈ am_tbl := am_t8 (List.mem_of_getElem? (i := 83) rfl) rfl
theorem aw_8_84 : (Cond.constantLong "BrokenBreadModel" (531 : Nat) (655 : Int64)) ∈ am_tbl := am_t8 (List.mem_of_getElem? (i := 84) rfl) rfl
theorem aw_8_85 : (Cond.methodLink "BrokenBreadModel" (533 : Nat) ({ cls := "BrokenBreadModel", name := "readBehind", desc := "(JI)V" } : MethodName)) ∈ am_tbl := am_t8 (List.mem_of_getElem? (i := 85) rfl) rfl
theorem aw_8_87 : (Cond.instanceMethod ({ cls := "BrokenBreadModel", name := "readBehind", desc := "(JI)V" } : MethodName)) ∈ am_tbl := am_t8 (List.mem_of_getElem? (i := 87) rfl) rfl
theorem aw_8_88 : (Cond.code ({ cls := "BrokenBreadModel", name := "readBehind", desc := "(JI)V" } : MethodName) prog_12_method_116_code (4 : Nat) (Option.none : Option FieldType)) ∈ am_tbl := am_t8 (List.mem_of_getElem? (i := 88) rfl) rfl
theorem aw_8_89 : (Cond.constantLong "BrokenBreadModel" (537 : Nat) (89 : Int64)) ∈ am_tbl := am_t8 (List.mem_of_getElem? (i := 89) rfl) rfl
theorem aw_8_90 : (Cond.constantLong "BrokenBreadModel" (539 : Nat) (21279923 : Int64)) ∈ am_tbl := am_t8 (List.mem_of_getElem? (i := 90) rfl) rfl
theorem aw_8_91 : (Cond.methodLink "BrokenBreadModel" (563 : Nat) ({ cls := "BrokenBreadModel", name := "run", desc := "(I)I" } : MethodName)) ∈ am_tbl := am_t8 (List.mem_of_getElem? (i := 91) rfl) rfl
theorem aw_8_93 : (Cond.instanceMethod ({ cls := "BrokenBreadModel", name := "run", desc := "(I)I" } : MethodName)) ∈ am_tbl := am_t8 (List.mem_of_getElem? (i := 93) rfl) rfl
theorem aw_8_94 : (Cond.code ({ cls := "BrokenBreadModel", name := "run", desc := "(I)I" } : MethodName) prog_12_method_120_code (6 : Nat) (Option.some FieldType.int)) ∈ am_tbl := am_t8 (List.mem_of_getElem? (i := 94) rfl) rfl
theorem aw_8_95 : (Cond.methodLink "BrokenBreadModel" (550 : Nat) ({ cls := "BrokenBreadModel", name := "harmsOf", desc := "()I" } : MethodName)) ∈ am_tbl := am_t8 (List.mem_of_getElem? (i := 95) rfl) rfl
theorem aw_8_97 : (Cond.instanceMethod ({ cls := "BrokenBreadModel", name := "harmsOf", desc := "()I" } : MethodName)) ∈ am_tbl := am_t8 (List.mem_of_getElem? (i := 97) rfl) rfl
theorem aw_8_98 : (Cond.code ({ cls := "BrokenBreadModel", name := "harmsOf", desc := "()I" } : MethodName) prog_12_method_21_code (3 : Nat) (Option.some FieldType.int)) ∈ am_tbl := am_t8 (List.mem_of_getElem? (i := 98) rfl) rfl
theorem aw_8_99 : (Cond.methodLink "BrokenBreadModel" (553 : Nat) ({ cls := "BrokenBreadModel", name := "sumOf", desc := "(I)I" } : MethodName)) ∈ am_tbl := am_t8 (List.mem_of_getElem? (i := 99) rfl) rfl
theorem aw_8_101 : (Cond.instanceMethod ({ cls := "BrokenBreadModel", name := "sumOf", desc := "(I)I" } : MethodName)) ∈ am_tbl := am_t8 (List.mem_of_getElem? (i := 101) rfl) rfl
theorem aw_8_102 : (Cond.code ({ cls := "BrokenBreadModel", name := "sumOf", desc := "(I)I" } : MethodName) prog_12_method_118_code (2 : Nat) (Option.some FieldType.int)) ∈ am_tbl := am_t8 (List.mem_of_getElem? (i := 102) rfl) rfl
theorem aw_8_103 : (Cond.methodLink "BrokenBreadModel" (556 : Nat) ({ cls := "BrokenBreadModel", name := "act", desc := "(IIII)I" } : MethodName)) ∈ am_tbl := am_t8 (List.mem_of_getElem? (i := 103) rfl) rfl
theorem aw_8_105 : (Cond.instanceMethod ({ cls := "BrokenBreadModel", name := "act", desc := "(IIII)I" } : MethodName)) ∈ am_tbl := am_t8 (List.mem_of_getElem? (i := 105) rfl) rfl
theorem aw_8_106 : (Cond.code ({ cls := "BrokenBreadModel", name := "act", desc := "(IIII)I" } : MethodName) prog_12_method_119_code (5 : Nat) (Option.some FieldType.int)) ∈ am_tbl := am_t8 (List.mem_of_getElem? (i := 106) rfl) rfl
theorem aw_8_107 : (Cond.methodLink "BrokenBreadModel" (566 : Nat) ({ cls := "BrokenBreadModel", name := "giveBack", desc := "(I)V" } : MethodName)) ∈ am_tbl := am_t8 (List.mem_of_getElem? (i := 107) rfl) rfl
theorem aw_8_109 : (Cond.instanceMethod ({ cls := "BrokenBreadModel", name := "giveBack", desc := "(I)V" } : MethodName)) ∈ am_tbl := am_t8 (List.mem_of_getElem? (i := 109) rfl) rfl
theorem aw_8_110 : (Cond.code ({ cls := "BrokenBreadModel", name := "giveBack", desc := "(I)V" } : MethodName) prog_12_method_122_code (3 : Nat) (Option.none : Option FieldType)) ∈ am_tbl := am_t8 (List.mem_of_getElem? (i := 110) rfl) rfl
theorem aw_8_111 : (Cond.methodLink "BrokenBreadLaw" (65 : Nat) ({ cls := "BrokenBreadModel", name := "stopped", desc := "()I" } : MethodName)) ∈ am_tbl := am_t8 (List.mem_of_getElem? (i := 111) rfl) rfl
theorem aw_8_112 : (Cond.instanceMethod ({ cls := "BrokenBreadModel", name := "stopped", desc := "()I" } : MethodName)) ∈ am_tbl := am_t8 (List.mem_of_getElem? (i := 112) rfl) rfl
theorem aw_8_113 : (Cond.selects "BrokenBreadModel" ({ cls := "BrokenBreadModel", name := "stopped", desc := "()I" } : MethodName) ({ cls := "BrokenBreadModel", name := "stopped", desc := "()I" } : MethodName)) ∈ am_tbl := am_t8 (List.mem_of_getElem? (i := 113) rfl) rfl
theorem aw_8_114 : (Cond.code ({ cls := "BrokenBreadModel", name := "stopped", desc := "()I" } : MethodName) prog_12_method_123_code (1 : Nat) (Option.some FieldType.int)) ∈ am_tbl := am_t8 (List.mem_of_getElem? (i := 114) rfl) rfl
theorem aw_8_115 : (Cond.methodLink "BrokenBreadLaw" (162 : Nat) ({ cls := "BrokenBreadModel", name := "seasons", desc := "(II)I" } : MethodName)) ∈ am_tbl := am_t8 (List.mem_of_getElem? (i := 115) rfl) rfl
theorem aw_8_116 : (Cond.instanceMethod ({ cls := "BrokenBreadModel", name := "seasons", desc := "(II)I" } : MethodName)) ∈ am_tbl := am_t8 (List.mem_of_getElem? (i := 116) rfl) rfl
theorem aw_8_117 : (Cond.selects "BrokenBreadModel" ({ cls := "BrokenBreadModel", name := "seasons", desc := "(II)I" } : MethodName) ({ cls := "BrokenBreadModel", name := "seasons", desc := "(II)I" } : MethodName)) ∈ am_tbl := am_t8 (List.mem_of_getElem? (i := 117) rfl) rfl
theorem aw_8_118 : (Cond.code ({ cls := "BrokenBreadModel", name := "seasons", desc := "(II)I" } : MethodName) prog_12_method_125_code (8 : Nat) (Option.some FieldType.int)) ∈ am_tbl := am_t8 (List.mem_of_getElem? (i := 118) rfl) rfl
theorem aw_8_119 : (Cond.constantLong "BrokenBreadModel" (578 : Nat) (60 : Int64)) ∈ am_tbl := am_t8 (List.mem_of_getElem? (i := 119) rfl) rfl
theorem aw_8_120 : (Cond.methodLink "BrokenBreadModel" (580 : Nat) ({ cls := "BrokenBreadModel", name := "draw", desc := "(I)I" } : MethodName)) ∈ am_tbl := am_t8 (List.mem_of_getElem? (i := 120) rfl) rfl
theorem aw_8_122 : (Cond.instanceMethod ({ cls := "BrokenBreadModel", name := "draw", desc := "(I)I" } : MethodName)) ∈ am_tbl := am_t8 (List.mem_of_getElem? (i := 122) rfl) rfl
theorem aw_8_123 : (Cond.code ({ cls := "BrokenBreadModel", name := "draw", desc := "(I)I" } : MethodName) prog_12_method_124_code (2 : Nat) (Option.some FieldType.int)) ∈ am_tbl := am_t8 (List.mem_of_getElem? (i := 123) rfl) rfl
theorem aw_8_124 : (Cond.constantLong "BrokenBreadModel" (572 : Nat) (1103 : Int64)) ∈ am_tbl := am_t8 (List.mem_of_getElem? (i := 124) rfl) rfl
theorem aw_8_125 : (Cond.constantLong "BrokenBreadModel" (574 : Nat) (12345 : Int64)) ∈ am_tbl := am_t8 (List.mem_of_getElem? (i := 125) rfl) rfl
theorem aw_8_126 : (Cond.constantLong "BrokenBreadModel" (576 : Nat) (1000003 : Int64)) ∈ am_tbl := am_t8 (List.mem_of_getElem? (i := 126) rfl) rfl
theorem aw_8_127 : (Cond.methodLink "BrokenBreadLaw" (166 : Nat) ({ cls := "BrokenBreadModel", name := "drawn", desc := "(II)I" } : MethodName)) ∈ am_tbl := am_t8 (List.mem_of_getElem? (i := 127) rfl) rfl
theorem aw_8_128 : (Cond.instanceMethod ({ cls := "BrokenBreadModel", name := "drawn", desc := "(II)I" } : MethodName)) ∈ am_tbl := am_t8 (List.mem_of_getElem? (i := 128) rfl) rfl
theorem aw_8_129 : (Cond.selects "BrokenBreadModel" ({ cls := "BrokenBreadModel", name := "drawn", desc := "(II)I" } : MethodName) ({ cls := "BrokenBreadModel", name := "drawn", desc := "(II)I" } : MethodName)) ∈ am_tbl := am_t8 (List.mem_of_getElem? (i := 129) rfl) rfl
theorem aw_8_130 : (Cond.code ({ cls := "BrokenBreadModel", name := "drawn", desc := "(II)I" } : MethodName) prog_12_method_126_code (3 : Nat) (Option.some FieldType.int)) ∈ am_tbl := am_t8 (List.mem_of_getElem? (i := 130) rfl) rfl
theorem aw_8_131 : (Cond.methodLink "BrokenBreadLaw" (178 : Nat) ({ cls := "BrokenBreadModel", name := "count", desc := "(I)I" } : MethodName)) ∈ am_tbl := am_t8 (List.mem_of_getElem? (i := 131) rfl) rfl
theorem aw_8_132 : (Cond.instanceMethod ({ cls := "BrokenBreadModel", name := "count", desc := "(I)I" } : MethodName)) ∈ am_tbl := am_t8 (List.mem_of_getElem? (i := 132) rfl) rfl
theorem aw_8_133 : (Cond.selects "BrokenBreadModel" ({ cls := "BrokenBreadModel", name := "count", desc := "(I)I" } : MethodName) ({ cls := "BrokenBreadModel", name := "count", desc := "(I)I" } : MethodName)) ∈ am_tbl := am_t8 (List.mem_of_getElem? (i := 133) rfl) rfl
theorem aw_8_134 : (Cond.code ({ cls := "BrokenBreadModel", name := "count", desc := "(I)I" } : MethodName) prog_12_method_127_code (2 : Nat) (Option.some FieldType.int)) ∈ am_tbl := am_t8 (List.mem_of_getElem? (i := 134) rfl) rfl
theorem aw_8_135 : (Cond.constantLong "BrokenBreadModel" (583 : Nat) (13 : Int64)) ∈ am_tbl := am_t8 (List.mem_of_getElem? (i := 135) rfl) rfl
theorem aw_8_136 : (Cond.constantLong "BrokenBreadModel" (585 : Nat) (15 : Int64)) ∈ am_tbl := am_t8 (List.mem_of_getElem? (i := 136) rfl) rfl
theorem aw_8_137 : (Cond.methodLink "BrokenBreadLaw" (182 : Nat) ({ cls := "BrokenBreadModel", name := "status", desc := "()I" } : MethodName)) ∈ am_tbl := am_t8 (List.mem_of_getElem? (i := 137) rfl) rfl
theorem aw_8_138 : (Cond.instanceMethod ({ cls := "BrokenBreadModel", name := "status", desc := "()I" } : MethodName)) ∈ am_tbl := am_t8 (List.mem_of_getElem? (i := 138) rfl) rfl
theorem aw_8_139 : (Cond.selects "BrokenBreadModel" ({ cls := "BrokenBreadModel", name := "status", desc := "()I" } : MethodName) ({ cls := "BrokenBreadModel", name := "status", desc := "()I" } : MethodName)) ∈ am_tbl := am_t8 (List.mem_of_getElem? (i := 139) rfl) rfl
theorem aw_8_140 : (Cond.code ({ cls := "BrokenBreadModel", name := "status", desc := "()I" } : MethodName) prog_12_method_128_code (1 : Nat) (Option.some FieldType.int)) ∈ am_tbl := am_t8 (List.mem_of_getElem? (i := 140) rfl) rfl
theorem aw_8_141 : (Cond.fieldLink "java/lang/String" (9 : Nat) "java/lang/String" "value" "[B") ∈ am_tbl := am_t8 (List.mem_of_getElem? (i := 141) rfl) rfl
theorem aw_8_142 : (Cond.fieldLink "java/lang/String" (15 : Nat) "java/lang/String" "coder" "B") ∈ am_tbl := am_t8 (List.mem_of_getElem? (i := 142) rfl) rfl
theorem awp_0 : (Cond.selects "BrokenBread" ({ cls := "BrokenBread", name := "told", desc := "(I)I" } : MethodName) ({ cls := "BrokenBread", name := "told", desc := "(I)I" } : MethodName)) ∈ am_tbl := am_in (List.mem_append_left _ (List.mem_of_getElem? (i := 0) rfl)) rfl
theorem awp_1 : (Cond.selects "BrokenBread" ({ cls := "BrokenBread", name := "askLive", desc := "()V" } : MethodName) ({ cls := "BrokenBread", name := "askLive", desc := "()V" } : MethodName)) ∈ am_tbl := am_in (List.mem_append_left _ (List.mem_of_getElem? (i := 1) rfl)) rfl
theorem awp_2 : (Cond.selects "BrokenBread$Judge" ({ cls := "BrokenBread$Judge", name := "knowTwo", desc := "(II)V" } : MethodName) ({ cls := "BrokenBread$Judge", name := "knowTwo", desc := "(II)V" } : MethodName)) ∈ am_tbl := am_in (List.mem_append_left _ (List.mem_of_getElem? (i := 2) rfl)) rfl
theorem awp_3 : (Cond.selects "BrokenBread$Judge" ({ cls := "BrokenBread$Judge", name := "knowOne", desc := "(IIII)V" } : MethodName) ({ cls := "BrokenBread$Judge", name := "knowOne", desc := "(IIII)V" } : MethodName)) ∈ am_tbl := am_in (List.mem_append_left _ (List.mem_of_getElem? (i := 3) rfl)) rfl
theorem awp_4 : (Cond.selects "BrokenBread$Judge" ({ cls := "BrokenBread$Judge", name := "tellsLaw", desc := "(II)I" } : MethodName) ({ cls := "BrokenBread$Judge", name := "tellsLaw", desc := "(II)I" } : MethodName)) ∈ am_tbl := am_in (List.mem_append_left _ (List.mem_of_getElem? (i := 4) rfl)) rfl
theorem awp_5 : (Cond.selects "BrokenBread" ({ cls := "BrokenBread", name := "rowHarm", desc := "(I)Z" } : MethodName) ({ cls := "BrokenBread", name := "rowHarm", desc := "(I)Z" } : MethodName)) ∈ am_tbl := am_in (List.mem_append_left _ (List.mem_of_getElem? (i := 5) rfl)) rfl
theorem awp_6 : (Cond.selects "BrokenBread$Reader" ({ cls := "BrokenBread$Reader", name := "split", desc := "(LBrokenBread$Tape;)V" } : MethodName) ({ cls := "BrokenBread$Reader", name := "split", desc := "(LBrokenBread$Tape;)V" } : MethodName)) ∈ am_tbl := am_in (List.mem_append_left _ (List.mem_of_getElem? (i := 6) rfl)) rfl
theorem awp_7 : (Cond.selects "BrokenBread$Reader" ({ cls := "BrokenBread$Reader", name := "addToken", desc := "(III)V" } : MethodName) ({ cls := "BrokenBread$Reader", name := "addToken", desc := "(III)V" } : MethodName)) ∈ am_tbl := am_in (List.mem_append_left _ (List.mem_of_getElem? (i := 7) rfl)) rfl
theorem awp_8 : (Cond.selects "BrokenBread$Reader" ({ cls := "BrokenBread$Reader", name := "goTo", desc := "(I)V" } : MethodName) ({ cls := "BrokenBread$Reader", name := "goTo", desc := "(I)V" } : MethodName)) ∈ am_tbl := am_in (List.mem_append_left _ (List.mem_of_getElem? (i := 8) rfl)) rfl
theorem awp_9 : (Cond.selects "BrokenBread$Reader" ({ cls := "BrokenBread$Reader", name := "readClause", desc := "()Z" } : MethodName) ({ cls := "BrokenBread$Reader", name := "readClause", desc := "()Z" } : MethodName)) ∈ am_tbl := am_in (List.mem_append_left _ (List.mem_of_getElem? (i := 9) rfl)) rfl
theorem awp_10 : (Cond.selects "BrokenBread$Reader" ({ cls := "BrokenBread$Reader", name := "sumsOf", desc := "(I)I" } : MethodName) ({ cls := "BrokenBread$Reader", name := "sumsOf", desc := "(I)I" } : MethodName)) ∈ am_tbl := am_in (List.mem_append_left _ (List.mem_of_getElem? (i := 10) rfl)) rfl
theorem awp_11 : (Cond.selects "BrokenBread$Reader" ({ cls := "BrokenBread$Reader", name := "failed", desc := "()Z" } : MethodName) ({ cls := "BrokenBread$Reader", name := "failed", desc := "()Z" } : MethodName)) ∈ am_tbl := am_in (List.mem_append_left _ (List.mem_of_getElem? (i := 11) rfl)) rfl
theorem awp_12 : (Cond.selects "BrokenBread$Reader" ({ cls := "BrokenBread$Reader", name := "took", desc := "(I)Z" } : MethodName) ({ cls := "BrokenBread$Reader", name := "took", desc := "(I)Z" } : MethodName)) ∈ am_tbl := am_in (List.mem_append_left _ (List.mem_of_getElem? (i := 12) rfl)) rfl
theorem awp_13 : (Cond.selects "BrokenBread$Reader" ({ cls := "BrokenBread$Reader", name := "readSum", desc := "(I)Z" } : MethodName) ({ cls := "BrokenBread$Reader", name := "readSum", desc := "(I)Z" } : MethodName)) ∈ am_tbl := am_in (List.mem_append_left _ (List.mem_of_getElem? (i := 13) rfl)) rfl
theorem awp_14 : (Cond.selects "BrokenBread$Reader" ({ cls := "BrokenBread$Reader", name := "readTerm", desc := "(I)Z" } : MethodName) ({ cls := "BrokenBread$Reader", name := "readTerm", desc := "(I)Z" } : MethodName)) ∈ am_tbl := am_in (List.mem_append_left _ (List.mem_of_getElem? (i := 14) rfl)) rfl
theorem awp_15 : (Cond.selects "BrokenBread$Reader" ({ cls := "BrokenBread$Reader", name := "readPart", desc := "(I)Z" } : MethodName) ({ cls := "BrokenBread$Reader", name := "readPart", desc := "(I)Z" } : MethodName)) ∈ am_tbl := am_in (List.mem_append_left _ (List.mem_of_getElem? (i := 15) rfl)) rfl
theorem awp_16 : (Cond.selects "BrokenBread$Reader" ({ cls := "BrokenBread$Reader", name := "readOrderWord", desc := "()Z" } : MethodName) ({ cls := "BrokenBread$Reader", name := "readOrderWord", desc := "()Z" } : MethodName)) ∈ am_tbl := am_in (List.mem_append_left _ (List.mem_of_getElem? (i := 16) rfl)) rfl
theorem awp_17 : (Cond.selects "BrokenBread$Reader" ({ cls := "BrokenBread$Reader", name := "readLawWord", desc := "()Z" } : MethodName) ({ cls := "BrokenBread$Reader", name := "readLawWord", desc := "()Z" } : MethodName)) ∈ am_tbl := am_in (List.mem_append_left _ (List.mem_of_getElem? (i := 17) rfl)) rfl
theorem awp_18 : (Cond.selects "BrokenBread$Reader" ({ cls := "BrokenBread$Reader", name := "readTimes", desc := "()Z" } : MethodName) ({ cls := "BrokenBread$Reader", name := "readTimes", desc := "()Z" } : MethodName)) ∈ am_tbl := am_in (List.mem_append_left _ (List.mem_of_getElem? (i := 18) rfl)) rfl
theorem awp_19 : (Cond.selects "BrokenBread$Reader" ({ cls := "BrokenBread$Reader", name := "readTest", desc := "(I)Z" } : MethodName) ({ cls := "BrokenBread$Reader", name := "readTest", desc := "(I)Z" } : MethodName)) ∈ am_tbl := am_in (List.mem_append_left _ (List.mem_of_getElem? (i := 19) rfl)) rfl
theorem awp_20 : (Cond.selects "BrokenBread$Reader" ({ cls := "BrokenBread$Reader", name := "readBoth", desc := "(I)Z" } : MethodName) ({ cls := "BrokenBread$Reader", name := "readBoth", desc := "(I)Z" } : MethodName)) ∈ am_tbl := am_in (List.mem_append_left _ (List.mem_of_getElem? (i := 20) rfl)) rfl
theorem awp_21 : (Cond.selects "BrokenBread$Reader" ({ cls := "BrokenBread$Reader", name := "readPlain", desc := "(I)Z" } : MethodName) ({ cls := "BrokenBread$Reader", name := "readPlain", desc := "(I)Z" } : MethodName)) ∈ am_tbl := am_in (List.mem_append_left _ (List.mem_of_getElem? (i := 21) rfl)) rfl
theorem awp_22 : (Cond.selects "BrokenBread$Reader" ({ cls := "BrokenBread$Reader", name := "readCompared", desc := "(I)Z" } : MethodName) ({ cls := "BrokenBread$Reader", name := "readCompared", desc := "(I)Z" } : MethodName)) ∈ am_tbl := am_in (List.mem_append_left _ (List.mem_of_getElem? (i := 22) rfl)) rfl
theorem awp_23 : (Cond.selects "BrokenBread" ({ cls := "BrokenBread", name := "fillOrderWords", desc := "(I)V" } : MethodName) ({ cls := "BrokenBread", name := "fillOrderWords", desc := "(I)V" } : MethodName)) ∈ am_tbl := am_in (List.mem_append_left _ (List.mem_of_getElem? (i := 23) rfl)) rfl
theorem awp_24 : (Cond.selects "BrokenBread" ({ cls := "BrokenBread", name := "ranClause", desc := "(LBrokenBread$Script;I)Z" } : MethodName) ({ cls := "BrokenBread", name := "ranClause", desc := "(LBrokenBread$Script;I)Z" } : MethodName)) ∈ am_tbl := am_in (List.mem_append_left _ (List.mem_of_getElem? (i := 24) rfl)) rfl
theorem awp_25 : (Cond.selects "BrokenBread" ({ cls := "BrokenBread", name := "doHarm", desc := "(III)I" } : MethodName) ({ cls := "BrokenBread", name := "doHarm", desc := "(III)I" } : MethodName)) ∈ am_tbl := am_in (List.mem_append_left _ (List.mem_of_getElem? (i := 25) rfl)) rfl
theorem awp_26 : (Cond.selects "BrokenBread$Past" ({ cls := "BrokenBread$Past", name := "forgetOldest", desc := "()V" } : MethodName) ({ cls := "BrokenBread$Past", name := "forgetOldest", desc := "()V" } : MethodName)) ∈ am_tbl := am_in (List.mem_append_left _ (List.mem_of_getElem? (i := 26) rfl)) rfl
theorem awp_27 : (Cond.selects "BrokenBread" ({ cls := "BrokenBread", name := "doFeast", desc := "(I)I" } : MethodName) ({ cls := "BrokenBread", name := "doFeast", desc := "(I)I" } : MethodName)) ∈ am_tbl := am_in (List.mem_append_left _ (List.mem_of_getElem? (i := 27) rfl)) rfl
theorem awp_28 : (Cond.selects "BrokenBread" ({ cls := "BrokenBread", name := "doPardon", desc := "(II)I" } : MethodName) ({ cls := "BrokenBread", name := "doPardon", desc := "(II)I" } : MethodName)) ∈ am_tbl := am_in (List.mem_append_left _ (List.mem_of_getElem? (i := 28) rfl)) rfl
theorem awp_29 : (Cond.selects "BrokenBread" ({ cls := "BrokenBread", name := "doPass", desc := "()I" } : MethodName) ({ cls := "BrokenBread", name := "doPass", desc := "()I" } : MethodName)) ∈ am_tbl := am_in (List.mem_append_left _ (List.mem_of_getElem? (i := 29) rfl)) rfl
theorem awp_30 : (Cond.selects "BrokenBread" ({ cls := "BrokenBread", name := "lookLive", desc := "()V" } : MethodName) ({ cls := "BrokenBread", name := "lookLive", desc := "()V" } : MethodName)) ∈ am_tbl := am_in (List.mem_append_left _ (List.mem_of_getElem? (i := 30) rfl)) rfl
theorem awp_31 : (Cond.selects "BrokenBread$Seating" ({ cls := "BrokenBread$Seating", name := "everybody", desc := "()I" } : MethodName) ({ cls := "BrokenBread$Seating", name := "everybody", desc := "()I" } : MethodName)) ∈ am_tbl := am_in (List.mem_append_left _ (List.mem_of_getElem? (i := 31) rfl)) rfl
theorem awp_32 : (Cond.selects "BrokenBread$Seating" ({ cls := "BrokenBread$Seating", name := "isTable", desc := "(I)Z" } : MethodName) ({ cls := "BrokenBread$Seating", name := "isTable", desc := "(I)Z" } : MethodName)) ∈ am_tbl := am_in (List.mem_append_left _ (List.mem_of_getElem? (i := 32) rfl)) rfl
theorem awp_33 : (Cond.selects "BrokenBread$Parting" ({ cls := "BrokenBread$Parting", name := "begin", desc := "(LBrokenBread$Seating;)V" } : MethodName) ({ cls := "BrokenBread$Parting", name := "begin", desc := "(LBrokenBread$Seating;)V" } : MethodName)) ∈ am_tbl := am_in (List.mem_append_left _ (List.mem_of_getElem? (i := 33) rfl)) rfl
theorem awp_34 : (Cond.selects "BrokenBread$Parting" ({ cls := "BrokenBread$Parting", name := "place", desc := "(LBrokenBread$Seating;III)V" } : MethodName) ({ cls := "BrokenBread$Parting", name := "place", desc := "(LBrokenBread$Seating;III)V" } : MethodName)) ∈ am_tbl := am_in (List.mem_append_left _ (List.mem_of_getElem? (i := 34) rfl)) rfl
theorem awp_35 : (Cond.selects "BrokenBread$Parting" ({ cls := "BrokenBread$Parting", name := "keepIfCheaper", desc := "(II)V" } : MethodName) ({ cls := "BrokenBread$Parting", name := "keepIfCheaper", desc := "(II)V" } : MethodName)) ∈ am_tbl := am_in (List.mem_append_left _ (List.mem_of_getElem? (i := 35) rfl)) rfl
theorem awp_36 : (Cond.selects "BrokenBread$Parting" ({ cls := "BrokenBread$Parting", name := "isAllowed", desc := "(LBrokenBread$Seating;II)Z" } : MethodName) ({ cls := "BrokenBread$Parting", name := "isAllowed", desc := "(LBrokenBread$Seating;II)Z" } : MethodName)) ∈ am_tbl := am_in (List.mem_append_left _ (List.mem_of_getElem? (i := 36) rfl)) rfl
theorem awp_37 : (Cond.selects "BrokenBread$Seating" ({ cls := "BrokenBread$Seating", name := "isThere", desc := "(I)Z" } : MethodName) ({ cls := "BrokenBread$Seating", name := "isThere", desc := "(I)Z" } : MethodName)) ∈ am_tbl := am_in (List.mem_append_left _ (List.mem_of_getElem? (i := 37) rfl)) rfl
theorem awp_38 : (Cond.selects "BrokenBread$Seating" ({ cls := "BrokenBread$Seating", name := "findParts", desc := "()V" } : MethodName) ({ cls := "BrokenBread$Seating", name := "findParts", desc := "()V" } : MethodName)) ∈ am_tbl := am_in (List.mem_append_left _ (List.mem_of_getElem? (i := 38) rfl)) rfl
theorem awp_39 : (Cond.selects "BrokenBread" ({ cls := "BrokenBread", name := "mostHurt", desc := "(II)I" } : MethodName) ({ cls := "BrokenBread", name := "mostHurt", desc := "(II)I" } : MethodName)) ∈ am_tbl := am_in (List.mem_append_left _ (List.mem_of_getElem? (i := 39) rfl)) rfl
theorem awp_40 : (Cond.selects "BrokenBread$Seating" ({ cls := "BrokenBread$Seating", name := "isStepAhead", desc := "(II)Z" } : MethodName) ({ cls := "BrokenBread$Seating", name := "isStepAhead", desc := "(II)Z" } : MethodName)) ∈ am_tbl := am_in (List.mem_append_left _ (List.mem_of_getElem? (i := 40) rfl)) rfl
theorem awp_41 : (Cond.selects "BrokenBread$Seating" ({ cls := "BrokenBread$Seating", name := "nearer", desc := "(I)I" } : MethodName) ({ cls := "BrokenBread$Seating", name := "nearer", desc := "(I)I" } : MethodName)) ∈ am_tbl := am_in (List.mem_append_left _ (List.mem_of_getElem? (i := 41) rfl)) rfl
theorem awp_42 : (Cond.selects "BrokenBread$Seating" ({ cls := "BrokenBread$Seating", name := "circleOf", desc := "(III)I" } : MethodName) ({ cls := "BrokenBread$Seating", name := "circleOf", desc := "(III)I" } : MethodName)) ∈ am_tbl := am_in (List.mem_append_left _ (List.mem_of_getElem? (i := 42) rfl)) rfl
theorem awp_43 : (Cond.selects "BrokenBread$Seating" ({ cls := "BrokenBread$Seating", name := "addTwo", desc := "(II)V" } : MethodName) ({ cls := "BrokenBread$Seating", name := "addTwo", desc := "(II)V" } : MethodName)) ∈ am_tbl := am_in (List.mem_append_left _ (List.mem_of_getElem? (i := 43) rfl)) rfl
theorem awp_44 : (Cond.selects "BrokenBread$Seating" ({ cls := "BrokenBread$Seating", name := "addTable", desc := "(I)V" } : MethodName) ({ cls := "BrokenBread$Seating", name := "addTable", desc := "(I)V" } : MethodName)) ∈ am_tbl := am_in (List.mem_append_left _ (List.mem_of_getElem? (i := 44) rfl)) rfl
theorem awp_45 : (Cond.selects "BrokenBread" ({ cls := "BrokenBread", name := "seatGuest", desc := "(I)V" } : MethodName) ({ cls := "BrokenBread", name := "seatGuest", desc := "(I)V" } : MethodName)) ∈ am_tbl := am_in (List.mem_append_left _ (List.mem_of_getElem? (i := 45) rfl)) rfl
theorem awp_46 : (Cond.selects "BrokenBread" ({ cls := "BrokenBread", name := "oneSeason", desc := "()V" } : MethodName) ({ cls := "BrokenBread", name := "oneSeason", desc := "()V" } : MethodName)) ∈ am_tbl := am_in (List.mem_append_left _ (List.mem_of_getElem? (i := 46) rfl)) rfl
theorem awp_47 : (Cond.selects "BrokenBread" ({ cls := "BrokenBread", name := "seasonDeed", desc := "(IIII)V" } : MethodName) ({ cls := "BrokenBread", name := "seasonDeed", desc := "(IIII)V" } : MethodName)) ∈ am_tbl := am_in (List.mem_append_left _ (List.mem_of_getElem? (i := 47) rfl)) rfl
theorem awp_48 : (Cond.selects "BrokenBreadModel" ({ cls := "BrokenBreadModel", name := "tell", desc := "(I)I" } : MethodName) ({ cls := "BrokenBreadModel", name := "tell", desc := "(I)I" } : MethodName)) ∈ am_tbl := am_in (List.mem_append_left _ (List.mem_of_getElem? (i := 48) rfl)) rfl
theorem awp_49 : (Cond.selects "BrokenBreadModel" ({ cls := "BrokenBreadModel", name := "putBack", desc := "(I)V" } : MethodName) ({ cls := "BrokenBreadModel", name := "putBack", desc := "(I)V" } : MethodName)) ∈ am_tbl := am_in (List.mem_append_left _ (List.mem_of_getElem? (i := 49) rfl)) rfl
theorem awp_50 : (Cond.selects "BrokenBreadModel" ({ cls := "BrokenBreadModel", name := "lasting", desc := "(I)I" } : MethodName) ({ cls := "BrokenBreadModel", name := "lasting", desc := "(I)I" } : MethodName)) ∈ am_tbl := am_in (List.mem_append_left _ (List.mem_of_getElem? (i := 50) rfl)) rfl
theorem awp_51 : (Cond.selects "BrokenBreadModel" ({ cls := "BrokenBreadModel", name := "isFolk", desc := "(I)Z" } : MethodName) ({ cls := "BrokenBreadModel", name := "isFolk", desc := "(I)Z" } : MethodName)) ∈ am_tbl := am_in (List.mem_append_left _ (List.mem_of_getElem? (i := 51) rfl)) rfl
theorem awp_52 : (Cond.selects "BrokenBreadModel" ({ cls := "BrokenBreadModel", name := "layMay", desc := "()V" } : MethodName) ({ cls := "BrokenBreadModel", name := "layMay", desc := "()V" } : MethodName)) ∈ am_tbl := am_in (List.mem_append_left _ (List.mem_of_getElem? (i := 52) rfl)) rfl
theorem awp_53 : (Cond.selects "BrokenBreadModel" ({ cls := "BrokenBreadModel", name := "maySit", desc := "(II)Z" } : MethodName) ({ cls := "BrokenBreadModel", name := "maySit", desc := "(II)Z" } : MethodName)) ∈ am_tbl := am_in (List.mem_append_left _ (List.mem_of_getElem? (i := 53) rfl)) rfl
theorem awp_54 : (Cond.selects "BrokenBreadModel" ({ cls := "BrokenBreadModel", name := "countsAs", desc := "(II)I" } : MethodName) ({ cls := "BrokenBreadModel", name := "countsAs", desc := "(II)I" } : MethodName)) ∈ am_tbl := am_in (List.mem_append_left _ (List.mem_of_getElem? (i := 54) rfl)) rfl
theorem awp_55 : (Cond.selects "BrokenBreadModel" ({ cls := "BrokenBreadModel", name := "weightOf", desc := "(II)I" } : MethodName) ({ cls := "BrokenBreadModel", name := "weightOf", desc := "(II)I" } : MethodName)) ∈ am_tbl := am_in (List.mem_append_left _ (List.mem_of_getElem? (i := 55) rfl)) rfl
theorem awp_56 : (Cond.selects "BrokenBreadModel" ({ cls := "BrokenBreadModel", name := "tells", desc := "(IIIIJ)J" } : MethodName) ({ cls := "BrokenBreadModel", name := "tells", desc := "(IIIIJ)J" } : MethodName)) ∈ am_tbl := am_in (List.mem_append_left _ (List.mem_of_getElem? (i := 56) rfl)) rfl
theorem awp_57 : (Cond.selects "BrokenBreadModel" ({ cls := "BrokenBreadModel", name := "isSo", desc := "(I)Z" } : MethodName) ({ cls := "BrokenBreadModel", name := "isSo", desc := "(I)Z" } : MethodName)) ∈ am_tbl := am_in (List.mem_append_left _ (List.mem_of_getElem? (i := 57) rfl)) rfl
theorem awp_58 : (Cond.selects "BrokenBreadModel" ({ cls := "BrokenBreadModel", name := "reckonAll", desc := "(II)V" } : MethodName) ({ cls := "BrokenBreadModel", name := "reckonAll", desc := "(II)V" } : MethodName)) ∈ am_tbl := am_in (List.mem_append_left _ (List.mem_of_getElem? (i := 58) rfl)) rfl
theorem awp_59 : (Cond.selects "BrokenBreadModel" ({ cls := "BrokenBreadModel", name := "reckon", desc := "(IJJ)J" } : MethodName) ({ cls := "BrokenBreadModel", name := "reckon", desc := "(IJJ)J" } : MethodName)) ∈ am_tbl := am_in (List.mem_append_left _ (List.mem_of_getElem? (i := 59) rfl)) rfl
theorem awp_60 : (Cond.selects "BrokenBreadModel" ({ cls := "BrokenBreadModel", name := "barsOff", desc := "(II)Z" } : MethodName) ({ cls := "BrokenBreadModel", name := "barsOff", desc := "(II)Z" } : MethodName)) ∈ am_tbl := am_in (List.mem_append_left _ (List.mem_of_getElem? (i := 60) rfl)) rfl
theorem awp_61 : (Cond.selects "BrokenBreadModel" ({ cls := "BrokenBreadModel", name := "sitsWith", desc := "(I)I" } : MethodName) ({ cls := "BrokenBreadModel", name := "sitsWith", desc := "(I)I" } : MethodName)) ∈ am_tbl := am_in (List.mem_append_left _ (List.mem_of_getElem? (i := 61) rfl)) rfl
theorem awp_62 : (Cond.selects "BrokenBreadModel" ({ cls := "BrokenBreadModel", name := "hungersBy", desc := "(I)I" } : MethodName) ({ cls := "BrokenBreadModel", name := "hungersBy", desc := "(I)I" } : MethodName)) ∈ am_tbl := am_in (List.mem_append_left _ (List.mem_of_getElem? (i := 62) rfl)) rfl
theorem awp_63 : (Cond.selects "BrokenBreadModel" ({ cls := "BrokenBreadModel", name := "harmsBy", desc := "(IZ)I" } : MethodName) ({ cls := "BrokenBreadModel", name := "harmsBy", desc := "(IZ)I" } : MethodName)) ∈ am_tbl := am_in (List.mem_append_left _ (List.mem_of_getElem? (i := 63) rfl)) rfl
theorem awp_64 : (Cond.selects "BrokenBreadModel" ({ cls := "BrokenBreadModel", name := "change", desc := "(II)I" } : MethodName) ({ cls := "BrokenBreadModel", name := "change", desc := "(II)I" } : MethodName)) ∈ am_tbl := am_in (List.mem_append_left _ (List.mem_of_getElem? (i := 64) rfl)) rfl
theorem awp_65 : (Cond.selects "BrokenBreadModel" ({ cls := "BrokenBreadModel", name := "setHarm", desc := "(III)V" } : MethodName) ({ cls := "BrokenBreadModel", name := "setHarm", desc := "(III)V" } : MethodName)) ∈ am_tbl := am_in (List.mem_append_left _ (List.mem_of_getElem? (i := 65) rfl)) rfl
theorem awp_66 : (Cond.selects "BrokenBreadModel" ({ cls := "BrokenBreadModel", name := "four", desc := "(I)V" } : MethodName) ({ cls := "BrokenBreadModel", name := "four", desc := "(I)V" } : MethodName)) ∈ am_tbl := am_in (List.mem_append_left _ (List.mem_of_getElem? (i := 66) rfl)) rfl
theorem awp_67 : (Cond.selects "BrokenBreadModel" ({ cls := "BrokenBreadModel", name := "beginText", desc := "(Z)V" } : MethodName) ({ cls := "BrokenBreadModel", name := "beginText", desc := "(Z)V" } : MethodName)) ∈ am_tbl := am_in (List.mem_append_left _ (List.mem_of_getElem? (i := 67) rfl)) rfl
theorem awp_68 : (Cond.selects "BrokenBreadModel" ({ cls := "BrokenBreadModel", name := "begin", desc := "()V" } : MethodName) ({ cls := "BrokenBreadModel", name := "begin", desc := "()V" } : MethodName)) ∈ am_tbl := am_in (List.mem_append_left _ (List.mem_of_getElem? (i := 68) rfl)) rfl
theorem awp_69 : (Cond.selects "BrokenBreadModel" ({ cls := "BrokenBreadModel", name := "next", desc := "()V" } : MethodName) ({ cls := "BrokenBreadModel", name := "next", desc := "()V" } : MethodName)) ∈ am_tbl := am_in (List.mem_append_left _ (List.mem_of_getElem? (i := 69) rfl)) rfl
theorem awp_70 : (Cond.selects "BrokenBreadModel" ({ cls := "BrokenBreadModel", name := "readLaw", desc := "()V" } : MethodName) ({ cls := "BrokenBreadModel", name := "readLaw", desc := "()V" } : MethodName)) ∈ am_tbl := am_in (List.mem_append_left _ (List.mem_of_getElem? (i := 70) rfl)) rfl
theorem awp_71 : (Cond.selects "BrokenBreadModel" ({ cls := "BrokenBreadModel", name := "isWord", desc := "(J)Z" } : MethodName) ({ cls := "BrokenBreadModel", name := "isWord", desc := "(J)Z" } : MethodName)) ∈ am_tbl := am_in (List.mem_append_left _ (List.mem_of_getElem? (i := 71) rfl)) rfl
theorem awp_72 : (Cond.selects "BrokenBreadModel" ({ cls := "BrokenBreadModel", name := "must", desc := "(Z)V" } : MethodName) ({ cls := "BrokenBreadModel", name := "must", desc := "(Z)V" } : MethodName)) ∈ am_tbl := am_in (List.mem_append_left _ (List.mem_of_getElem? (i := 72) rfl)) rfl
theorem awp_73 : (Cond.selects "BrokenBreadModel" ({ cls := "BrokenBreadModel", name := "readExpression", desc := "(Z)V" } : MethodName) ({ cls := "BrokenBreadModel", name := "readExpression", desc := "(Z)V" } : MethodName)) ∈ am_tbl := am_in (List.mem_append_left _ (List.mem_of_getElem? (i := 73) rfl)) rfl
theorem awp_74 : (Cond.selects "BrokenBreadModel" ({ cls := "BrokenBreadModel", name := "readPlain", desc := "()I" } : MethodName) ({ cls := "BrokenBreadModel", name := "readPlain", desc := "()I" } : MethodName)) ∈ am_tbl := am_in (List.mem_append_left _ (List.mem_of_getElem? (i := 74) rfl)) rfl
theorem awp_75 : (Cond.selects "BrokenBreadModel" ({ cls := "BrokenBreadModel", name := "push", desc := "(II)V" } : MethodName) ({ cls := "BrokenBreadModel", name := "push", desc := "(II)V" } : MethodName)) ∈ am_tbl := am_in (List.mem_append_left _ (List.mem_of_getElem? (i := 75) rfl)) rfl
theorem awp_76 : (Cond.selects "BrokenBreadModel" ({ cls := "BrokenBreadModel", name := "isSign", desc := "(I)Z" } : MethodName) ({ cls := "BrokenBreadModel", name := "isSign", desc := "(I)Z" } : MethodName)) ∈ am_tbl := am_in (List.mem_append_left _ (List.mem_of_getElem? (i := 76) rfl)) rfl
theorem awp_77 : (Cond.selects "BrokenBreadModel" ({ cls := "BrokenBreadModel", name := "openBracket", desc := "(I)V" } : MethodName) ({ cls := "BrokenBreadModel", name := "openBracket", desc := "(I)V" } : MethodName)) ∈ am_tbl := am_in (List.mem_append_left _ (List.mem_of_getElem? (i := 77) rfl)) rfl
theorem awp_78 : (Cond.selects "BrokenBreadModel" ({ cls := "BrokenBreadModel", name := "readPart", desc := "()I" } : MethodName) ({ cls := "BrokenBreadModel", name := "readPart", desc := "()I" } : MethodName)) ∈ am_tbl := am_in (List.mem_append_left _ (List.mem_of_getElem? (i := 78) rfl)) rfl
theorem awp_79 : (Cond.selects "BrokenBreadModel" ({ cls := "BrokenBreadModel", name := "orderPartAt", desc := "()I" } : MethodName) ({ cls := "BrokenBreadModel", name := "orderPartAt", desc := "()I" } : MethodName)) ∈ am_tbl := am_in (List.mem_append_left _ (List.mem_of_getElem? (i := 79) rfl)) rfl
theorem awp_80 : (Cond.selects "BrokenBreadModel" ({ cls := "BrokenBreadModel", name := "partAt", desc := "()I" } : MethodName) ({ cls := "BrokenBreadModel", name := "partAt", desc := "()I" } : MethodName)) ∈ am_tbl := am_in (List.mem_append_left _ (List.mem_of_getElem? (i := 80) rfl)) rfl
theorem awp_81 : (Cond.selects "BrokenBreadModel" ({ cls := "BrokenBreadModel", name := "leaf", desc := "(ZII)V" } : MethodName) ({ cls := "BrokenBreadModel", name := "leaf", desc := "(ZII)V" } : MethodName)) ∈ am_tbl := am_in (List.mem_append_left _ (List.mem_of_getElem? (i := 81) rfl)) rfl
theorem awp_82 : (Cond.selects "BrokenBreadModel" ({ cls := "BrokenBreadModel", name := "emit", desc := "(II)V" } : MethodName) ({ cls := "BrokenBreadModel", name := "emit", desc := "(II)V" } : MethodName)) ∈ am_tbl := am_in (List.mem_append_left _ (List.mem_of_getElem? (i := 82) rfl)) rfl
theorem awp_83 : (Cond.selects "BrokenBreadModel" ({ cls := "BrokenBreadModel", name := "number", desc := "(JJ)I" } : MethodName) ({ cls := "BrokenBreadModel", name := "number", desc := "(JJ)I" } : MethodName)) ∈ am_tbl := am_in (List.mem_append_left _ (List.mem_of_getElem? (i := 83) rfl)) rfl
theorem awp_84 : (Cond.selects "BrokenBreadModel" ({ cls := "BrokenBreadModel", name := "behindSum", desc := "(Z)I" } : MethodName) ({ cls := "BrokenBreadModel", name := "behindSum", desc := "(Z)I" } : MethodName)) ∈ am_tbl := am_in (List.mem_append_left _ (List.mem_of_getElem? (i := 84) rfl)) rfl
theorem awp_85 : (Cond.selects "BrokenBreadModel" ({ cls := "BrokenBreadModel", name := "settle", desc := "(I)V" } : MethodName) ({ cls := "BrokenBreadModel", name := "settle", desc := "(I)V" } : MethodName)) ∈ am_tbl := am_in (List.mem_append_left _ (List.mem_of_getElem? (i := 85) rfl)) rfl
theorem awp_86 : (Cond.selects "BrokenBreadModel" ({ cls := "BrokenBreadModel", name := "inner", desc := "()I" } : MethodName) ({ cls := "BrokenBreadModel", name := "inner", desc := "()I" } : MethodName)) ∈ am_tbl := am_in (List.mem_append_left _ (List.mem_of_getElem? (i := 86) rfl)) rfl
theorem awp_87 : (Cond.selects "BrokenBreadModel" ({ cls := "BrokenBreadModel", name := "isCompared", desc := "()Z" } : MethodName) ({ cls := "BrokenBreadModel", name := "isCompared", desc := "()Z" } : MethodName)) ∈ am_tbl := am_in (List.mem_append_left _ (List.mem_of_getElem? (i := 87) rfl)) rfl
theorem awp_88 : (Cond.selects "BrokenBreadModel" ({ cls := "BrokenBreadModel", name := "behindTest", desc := "()I" } : MethodName) ({ cls := "BrokenBreadModel", name := "behindTest", desc := "()I" } : MethodName)) ∈ am_tbl := am_in (List.mem_append_left _ (List.mem_of_getElem? (i := 88) rfl)) rfl
theorem awp_89 : (Cond.selects "BrokenBreadModel" ({ cls := "BrokenBreadModel", name := "endText", desc := "()V" } : MethodName) ({ cls := "BrokenBreadModel", name := "endText", desc := "()V" } : MethodName)) ∈ am_tbl := am_in (List.mem_append_left _ (List.mem_of_getElem? (i := 89) rfl)) rfl
theorem awp_90 : (Cond.selects "BrokenBreadModel" ({ cls := "BrokenBreadModel", name := "isLaw", desc := "(I)Z" } : MethodName) ({ cls := "BrokenBreadModel", name := "isLaw", desc := "(I)Z" } : MethodName)) ∈ am_tbl := am_in (List.mem_append_left _ (List.mem_of_getElem? (i := 90) rfl)) rfl
theorem awp_91 : (Cond.selects "BrokenBreadModel" ({ cls := "BrokenBreadModel", name := "harmNow", desc := "(III)I" } : MethodName) ({ cls := "BrokenBreadModel", name := "harmNow", desc := "(III)I" } : MethodName)) ∈ am_tbl := am_in (List.mem_append_left _ (List.mem_of_getElem? (i := 91) rfl)) rfl
theorem awp_92 : (Cond.selects "BrokenBreadModel" ({ cls := "BrokenBreadModel", name := "remember", desc := "(I)V" } : MethodName) ({ cls := "BrokenBreadModel", name := "remember", desc := "(I)V" } : MethodName)) ∈ am_tbl := am_in (List.mem_append_left _ (List.mem_of_getElem? (i := 92) rfl)) rfl
theorem awp_93 : (Cond.selects "BrokenBreadModel" ({ cls := "BrokenBreadModel", name := "keepAll", desc := "(I)V" } : MethodName) ({ cls := "BrokenBreadModel", name := "keepAll", desc := "(I)V" } : MethodName)) ∈ am_tbl := am_in (List.mem_append_left _ (List.mem_of_getElem? (i := 93) rfl)) rfl
theorem awp_94 : (Cond.selects "BrokenBreadModel" ({ cls := "BrokenBreadModel", name := "feastNow", desc := "(I)I" } : MethodName) ({ cls := "BrokenBreadModel", name := "feastNow", desc := "(I)I" } : MethodName)) ∈ am_tbl := am_in (List.mem_append_left _ (List.mem_of_getElem? (i := 94) rfl)) rfl
theorem awp_95 : (Cond.selects "BrokenBreadModel" ({ cls := "BrokenBreadModel", name := "areThere", desc := "(I)Z" } : MethodName) ({ cls := "BrokenBreadModel", name := "areThere", desc := "(I)Z" } : MethodName)) ∈ am_tbl := am_in (List.mem_append_left _ (List.mem_of_getElem? (i := 95) rfl)) rfl
theorem awp_96 : (Cond.selects "BrokenBreadModel" ({ cls := "BrokenBreadModel", name := "all", desc := "()I" } : MethodName) ({ cls := "BrokenBreadModel", name := "all", desc := "()I" } : MethodName)) ∈ am_tbl := am_in (List.mem_append_left _ (List.mem_of_getElem? (i := 96) rfl)) rfl
theorem awp_97 : (Cond.selects "BrokenBreadModel" ({ cls := "BrokenBreadModel", name := "isTable", desc := "(I)Z" } : MethodName) ({ cls := "BrokenBreadModel", name := "isTable", desc := "(I)Z" } : MethodName)) ∈ am_tbl := am_in (List.mem_append_left _ (List.mem_of_getElem? (i := 97) rfl)) rfl
theorem awp_98 : (Cond.selects "BrokenBreadModel" ({ cls := "BrokenBreadModel", name := "feastIt", desc := "(I)V" } : MethodName) ({ cls := "BrokenBreadModel", name := "feastIt", desc := "(I)V" } : MethodName)) ∈ am_tbl := am_in (List.mem_append_left _ (List.mem_of_getElem? (i := 98) rfl)) rfl
theorem awp_99 : (Cond.selects "BrokenBreadModel" ({ cls := "BrokenBreadModel", name := "feedsAt", desc := "(II)I" } : MethodName) ({ cls := "BrokenBreadModel", name := "feedsAt", desc := "(II)I" } : MethodName)) ∈ am_tbl := am_in (List.mem_append_left _ (List.mem_of_getElem? (i := 99) rfl)) rfl
theorem awp_100 : (Cond.selects "BrokenBreadModel" ({ cls := "BrokenBreadModel", name := "pardonNow", desc := "(II)I" } : MethodName) ({ cls := "BrokenBreadModel", name := "pardonNow", desc := "(II)I" } : MethodName)) ∈ am_tbl := am_in (List.mem_append_left _ (List.mem_of_getElem? (i := 100) rfl)) rfl
theorem awp_101 : (Cond.selects "BrokenBreadModel" ({ cls := "BrokenBreadModel", name := "passNow", desc := "()I" } : MethodName) ({ cls := "BrokenBreadModel", name := "passNow", desc := "()I" } : MethodName)) ∈ am_tbl := am_in (List.mem_append_left _ (List.mem_of_getElem? (i := 101) rfl)) rfl
theorem awp_102 : (Cond.selects "BrokenBreadModel" ({ cls := "BrokenBreadModel", name := "passIt", desc := "()V" } : MethodName) ({ cls := "BrokenBreadModel", name := "passIt", desc := "()V" } : MethodName)) ∈ am_tbl := am_in (List.mem_append_left _ (List.mem_of_getElem? (i := 102) rfl)) rfl
theorem awp_103 : (Cond.selects "BrokenBreadModel" ({ cls := "BrokenBreadModel", name := "starving", desc := "()I" } : MethodName) ({ cls := "BrokenBreadModel", name := "starving", desc := "()I" } : MethodName)) ∈ am_tbl := am_in (List.mem_append_left _ (List.mem_of_getElem? (i := 103) rfl)) rfl
theorem awp_104 : (Cond.selects "BrokenBreadModel" ({ cls := "BrokenBreadModel", name := "largestSet", desc := "()I" } : MethodName) ({ cls := "BrokenBreadModel", name := "largestSet", desc := "()I" } : MethodName)) ∈ am_tbl := am_in (List.mem_append_left _ (List.mem_of_getElem? (i := 104) rfl)) rfl
theorem awp_105 : (Cond.selects "BrokenBreadModel" ({ cls := "BrokenBreadModel", name := "findParts", desc := "(Z)V" } : MethodName) ({ cls := "BrokenBreadModel", name := "findParts", desc := "(Z)V" } : MethodName)) ∈ am_tbl := am_in (List.mem_append_left _ (List.mem_of_getElem? (i := 105) rfl)) rfl
theorem awp_106 : (Cond.selects "BrokenBreadModel" ({ cls := "BrokenBreadModel", name := "setsAhead", desc := "(I)I" } : MethodName) ({ cls := "BrokenBreadModel", name := "setsAhead", desc := "(I)I" } : MethodName)) ∈ am_tbl := am_in (List.mem_append_left _ (List.mem_of_getElem? (i := 106) rfl)) rfl
theorem awp_107 : (Cond.selects "BrokenBreadModel" ({ cls := "BrokenBreadModel", name := "worthOf", desc := "(Z)I" } : MethodName) ({ cls := "BrokenBreadModel", name := "worthOf", desc := "(Z)I" } : MethodName)) ∈ am_tbl := am_in (List.mem_append_left _ (List.mem_of_getElem? (i := 107) rfl)) rfl
theorem awp_108 : (Cond.selects "BrokenBreadModel" ({ cls := "BrokenBreadModel", name := "setOf", desc := "(II)I" } : MethodName) ({ cls := "BrokenBreadModel", name := "setOf", desc := "(II)I" } : MethodName)) ∈ am_tbl := am_in (List.mem_append_left _ (List.mem_of_getElem? (i := 108) rfl)) rfl
theorem awp_109 : (Cond.selects "BrokenBreadModel" ({ cls := "BrokenBreadModel", name := "layParts", desc := "()V" } : MethodName) ({ cls := "BrokenBreadModel", name := "layParts", desc := "()V" } : MethodName)) ∈ am_tbl := am_in (List.mem_append_left _ (List.mem_of_getElem? (i := 109) rfl)) rfl
theorem awp_110 : (Cond.selects "BrokenBreadModel" ({ cls := "BrokenBreadModel", name := "suffered", desc := "(II)I" } : MethodName) ({ cls := "BrokenBreadModel", name := "suffered", desc := "(II)I" } : MethodName)) ∈ am_tbl := am_in (List.mem_append_left _ (List.mem_of_getElem? (i := 110) rfl)) rfl
theorem awp_111 : (Cond.selects "BrokenBreadModel" ({ cls := "BrokenBreadModel", name := "layFar", desc := "(I)V" } : MethodName) ({ cls := "BrokenBreadModel", name := "layFar", desc := "(I)V" } : MethodName)) ∈ am_tbl := am_in (List.mem_append_left _ (List.mem_of_getElem? (i := 111) rfl)) rfl
theorem awp_112 : (Cond.selects "BrokenBreadModel" ({ cls := "BrokenBreadModel", name := "circlesNow", desc := "()I" } : MethodName) ({ cls := "BrokenBreadModel", name := "circlesNow", desc := "()I" } : MethodName)) ∈ am_tbl := am_in (List.mem_append_left _ (List.mem_of_getElem? (i := 112) rfl)) rfl
theorem awp_113 : (Cond.selects "BrokenBreadModel" ({ cls := "BrokenBreadModel", name := "isBridge", desc := "(II)Z" } : MethodName) ({ cls := "BrokenBreadModel", name := "isBridge", desc := "(II)Z" } : MethodName)) ∈ am_tbl := am_in (List.mem_append_left _ (List.mem_of_getElem? (i := 113) rfl)) rfl
theorem awp_114 : (Cond.selects "BrokenBreadModel" ({ cls := "BrokenBreadModel", name := "satBoth", desc := "(II)Z" } : MethodName) ({ cls := "BrokenBreadModel", name := "satBoth", desc := "(II)Z" } : MethodName)) ∈ am_tbl := am_in (List.mem_append_left _ (List.mem_of_getElem? (i := 114) rfl)) rfl
theorem awp_115 : (Cond.selects "BrokenBreadModel" ({ cls := "BrokenBreadModel", name := "fittingFor", desc := "(I)I" } : MethodName) ({ cls := "BrokenBreadModel", name := "fittingFor", desc := "(I)I" } : MethodName)) ∈ am_tbl := am_in (List.mem_append_left _ (List.mem_of_getElem? (i := 115) rfl)) rfl
theorem awp_116 : (Cond.selects "BrokenBreadModel" ({ cls := "BrokenBreadModel", name := "readOrder", desc := "()V" } : MethodName) ({ cls := "BrokenBreadModel", name := "readOrder", desc := "()V" } : MethodName)) ∈ am_tbl := am_in (List.mem_append_left _ (List.mem_of_getElem? (i := 116) rfl)) rfl
theorem awp_117 : (Cond.selects "BrokenBreadModel" ({ cls := "BrokenBreadModel", name := "readSum", desc := "(I)V" } : MethodName) ({ cls := "BrokenBreadModel", name := "readSum", desc := "(I)V" } : MethodName)) ∈ am_tbl := am_in (List.mem_append_left _ (List.mem_of_getElem? (i := 117) rfl)) rfl
theorem awp_118 : (Cond.selects "BrokenBreadModel" ({ cls := "BrokenBreadModel", name := "readBehind", desc := "(JI)V" } : MethodName) ({ cls := "BrokenBreadModel", name := "readBehind", desc := "(JI)V" } : MethodName)) ∈ am_tbl := am_in (List.mem_append_left _ (List.mem_of_getElem? (i := 118) rfl)) rfl
theorem awp_119 : (Cond.selects "BrokenBreadModel" ({ cls := "BrokenBreadModel", name := "run", desc := "(I)I" } : MethodName) ({ cls := "BrokenBreadModel", name := "run", desc := "(I)I" } : MethodName)) ∈ am_tbl := am_in (List.mem_append_left _ (List.mem_of_getElem? (i := 119) rfl)) rfl
theorem awp_120 : (Cond.selects "BrokenBreadModel" ({ cls := "BrokenBreadModel", name := "harmsOf", desc := "()I" } : MethodName) ({ cls := "BrokenBreadModel", name := "harmsOf", desc := "()I" } : MethodName)) ∈ am_tbl := am_in (List.mem_append_left _ (List.mem_of_getElem? (i := 120) rfl)) rfl
theorem awp_121 : (Cond.selects "BrokenBreadModel" ({ cls := "BrokenBreadModel", name := "sumOf", desc := "(I)I" } : MethodName) ({ cls := "BrokenBreadModel", name := "sumOf", desc := "(I)I" } : MethodName)) ∈ am_tbl := am_in (List.mem_append_left _ (List.mem_of_getElem? (i := 121) rfl)) rfl
theorem awp_122 : (Cond.selects "BrokenBreadModel" ({ cls := "BrokenBreadModel", name := "act", desc := "(IIII)I" } : MethodName) ({ cls := "BrokenBreadModel", name := "act", desc := "(IIII)I" } : MethodName)) ∈ am_tbl := am_in (List.mem_append_left _ (List.mem_of_getElem? (i := 122) rfl)) rfl
theorem awp_123 : (Cond.selects "BrokenBreadModel" ({ cls := "BrokenBreadModel", name := "giveBack", desc := "(I)V" } : MethodName) ({ cls := "BrokenBreadModel", name := "giveBack", desc := "(I)V" } : MethodName)) ∈ am_tbl := am_in (List.mem_append_left _ (List.mem_of_getElem? (i := 123) rfl)) rfl
theorem awp_124 : (Cond.selects "BrokenBreadModel" ({ cls := "BrokenBreadModel", name := "draw", desc := "(I)I" } : MethodName) ({ cls := "BrokenBreadModel", name := "draw", desc := "(I)I" } : MethodName)) ∈ am_tbl := am_in (List.mem_append_left _ (List.mem_of_getElem? (i := 124) rfl)) rfl
theorem ak_0 : am_K 0 0 := ⟨aw_2_32, aw_1_11, ⟨by decide +kernel, by decide +kernel⟩, by decide +kernel, by decide +kernel⟩
theorem ak_1 : am_K 1 1 := ⟨aw_5_81, aw_1_11, ⟨by decide +kernel, by decide +kernel⟩, by decide +kernel, by decide +kernel⟩
theorem ak_2 : am_K 2 1 := ⟨aw_5_89, aw_1_11, ⟨by decide +kernel, by decide +kernel⟩, by decide +kernel, by decide +kernel⟩
theorem ak_3 : am_K 3 0 := ⟨aw_1_192, aw_1_8, ⟨by decide +kernel, by decide +kernel⟩, by decide +kernel, by decide +kernel⟩
theorem ak_4 : am_K 4 2 := ⟨aw_2_127, aw_1_8, ⟨by decide +kernel, by decide +kernel⟩, by decide +kernel, by decide +kernel⟩
theorem ak_5 : am_K 5 0 := ⟨aw_4_87, aw_1_8, ⟨by decide +kernel, by decide +kernel⟩, by decide +kernel, by decide +kernel⟩
theorem ak_6 : am_K 6 2 := ⟨aw_2_204, aw_1_8, ⟨by decide +kernel, by decide +kernel⟩, by decide +kernel, by decide +kernel⟩
theorem ak_7 : am_K 7 2 := ⟨aw_2_208, aw_1_8, ⟨by decide +kernel, by decide +kernel⟩, by decide +kernel, by decide +kernel⟩
theorem ak_8 : am_K 8 2 := ⟨aw_2_140, aw_1_8, ⟨by decide +kernel, by decide +kernel⟩, by decide +kernel, by decide +kernel⟩
theorem ak_9 : am_K 9 1 := ⟨aw_2_136, aw_1_8, ⟨by decide +kernel, by decide +kernel⟩, by decide +kernel, by decide +kernel⟩
theorem ak_10 : am_K 10 1 := ⟨aw_4_11, aw_1_8, ⟨by decide +kernel, by decide +kernel⟩, by decide +kernel, by decide +kernel⟩
theorem ak_11 : am_K 11 2 := ⟨aw_4_185, aw_1_8, ⟨by decide +kernel, by decide +kernel⟩, by decide +kernel, by decide +kernel⟩
theorem ak_12 : am_K 12 3 := ⟨aw_2_177, aw_1_8, ⟨by decide +kernel, by decide +kernel⟩, by decide +kernel, by decide +kernel⟩
theorem ak_13 : am_K 13 1 := ⟨aw_4_16, aw_1_8, ⟨by decide +kernel, by decide +kernel⟩, by decide +kernel, by decide +kernel⟩
theorem ak_14 : am_K 14 0 := ⟨aw_4_29, aw_1_8, ⟨by decide +kernel, by decide +kernel⟩, by decide +kernel, by decide +kernel⟩
theorem ak_15 : am_K 15 2 := ⟨aw_2_144, aw_1_8, ⟨by decide +kernel, by decide +kernel⟩, by decide +kernel, by decide +kernel⟩
theorem ak_16 : am_K 16 4 := ⟨aw_2_152, aw_1_8, ⟨by decide +kernel, by decide +kernel⟩, by decide +kernel, by decide +kernel⟩
theorem ak_17 : am_K 17 2 := ⟨aw_2_156, aw_1_8, ⟨by decide +kernel, by decide +kernel⟩, by decide +kernel, by decide +kernel⟩
theorem ak_18 : am_K 18 3 := ⟨aw_2_164, aw_1_8, ⟨by decide +kernel, by decide +kernel⟩, by decide +kernel, by decide +kernel⟩
theorem ak_19 : am_K 19 3 := ⟨aw_2_168, aw_1_8, ⟨by decide +kernel, by decide +kernel⟩, by decide +kernel, by decide +kernel⟩
theorem ak_20 : am_K 20 0 := ⟨aw_2_7, aw_1_10, ⟨by decide +kernel, by decide +kernel⟩, by decide +kernel, by decide +kernel⟩
theorem ak_21 : am_K 21 1 := ⟨aw_4_113, aw_1_10, ⟨by decide +kernel, by decide +kernel⟩, by decide +kernel, by decide +kernel⟩
theorem ak_22 : am_K 22 1 := ⟨aw_4_161, aw_1_10, ⟨by decide +kernel, by decide +kernel⟩, by decide +kernel, by decide +kernel⟩
theorem ak_23 : am_K 23 1 := ⟨aw_4_148, aw_1_10, ⟨by decide +kernel, by decide +kernel⟩, by decide +kernel, by decide +kernel⟩
theorem ak_24 : am_K 24 1 := ⟨aw_4_117, aw_1_10, ⟨by decide +kernel, by decide +kernel⟩, by decide +kernel, by decide +kernel⟩
theorem ak_25 : am_K 25 4 := ⟨aw_4_121, aw_1_10, ⟨by decide +kernel, by decide +kernel⟩, by decide +kernel, by decide +kernel⟩
theorem ak_26 : am_K 26 3 := ⟨aw_4_131, aw_1_10, ⟨by decide +kernel, by decide +kernel⟩, by decide +kernel, by decide +kernel⟩
theorem ak_27 : am_K 27 2 := ⟨aw_4_125, aw_1_10, ⟨by decide +kernel, by decide +kernel⟩, by decide +kernel, by decide +kernel⟩
theorem ak_28 : am_K 28 0 := ⟨aw_1_89, aw_1_3, ⟨by decide +kernel, by decide +kernel⟩, by decide +kernel, by decide +kernel⟩
theorem ak_29 : am_K 29 0 := ⟨aw_2_107, aw_1_3, ⟨by decide +kernel, by decide +kernel⟩, by decide +kernel, by decide +kernel⟩
theorem ak_30 : am_K 30 1 := ⟨aw_3_194, aw_1_3, ⟨by decide +kernel, by decide +kernel⟩, by decide +kernel, by decide +kernel⟩
theorem ak_31 : am_K 31 4 := ⟨aw_3_233, aw_1_3, ⟨by decide +kernel, by decide +kernel⟩, by decide +kernel, by decide +kernel⟩
theorem ak_32 : am_K 32 0 := ⟨aw_3_237, aw_1_3, ⟨by decide +kernel, by decide +kernel⟩, by decide +kernel, by decide +kernel⟩
theorem ak_33 : am_K 33 1 := ⟨aw_4_70, aw_1_3, ⟨by decide +kernel, by decide +kernel⟩, by decide +kernel, by decide +kernel⟩
theorem ak_34 : am_K 34 0 := ⟨aw_1_118, aw_1_5, ⟨by decide +kernel, by decide +kernel⟩, by decide +kernel, by decide +kernel⟩
theorem ak_35 : am_K 35 2 := ⟨aw_3_16, aw_1_5, ⟨by decide +kernel, by decide +kernel⟩, by decide +kernel, by decide +kernel⟩
theorem ak_36 : am_K 36 1 := ⟨aw_3_20, aw_1_5, ⟨by decide +kernel, by decide +kernel⟩, by decide +kernel, by decide +kernel⟩
theorem ak_37 : am_K 37 3 := ⟨aw_3_83, aw_1_5, ⟨by decide +kernel, by decide +kernel⟩, by decide +kernel, by decide +kernel⟩
theorem ak_38 : am_K 38 1 := ⟨aw_3_24, aw_1_5, ⟨by decide +kernel, by decide +kernel⟩, by decide +kernel, by decide +kernel⟩
theorem ak_39 : am_K 39 1 := ⟨aw_3_86, aw_1_5, ⟨by decide +kernel, by decide +kernel⟩, by decide +kernel, by decide +kernel⟩
theorem ak_40 : am_K 40 3 := ⟨aw_3_89, aw_1_5, ⟨by decide +kernel, by decide +kernel⟩, by decide +kernel, by decide +kernel⟩
theorem ak_41 : am_K 41 3 := ⟨aw_3_27, aw_1_5, ⟨by decide +kernel, by decide +kernel⟩, by decide +kernel, by decide +kernel⟩
theorem ak_42 : am_K 42 4 := ⟨aw_3_79, aw_1_5, ⟨by decide +kernel, by decide +kernel⟩, by decide +kernel, by decide +kernel⟩
theorem ak_43 : am_K 43 1 := ⟨aw_3_98, aw_1_5, ⟨by decide +kernel, by decide +kernel⟩, by decide +kernel, by decide +kernel⟩
theorem ak_44 : am_K 44 0 := ⟨aw_3_111, aw_1_5, ⟨by decide +kernel, by decide +kernel⟩, by decide +kernel, by decide +kernel⟩
theorem ak_45 : am_K 45 1 := ⟨aw_3_119, aw_1_5, ⟨by decide +kernel, by decide +kernel⟩, by decide +kernel, by decide +kernel⟩
theorem ak_46 : am_K 46 0 := ⟨aw_3_103, aw_1_5, ⟨by decide +kernel, by decide +kernel⟩, by decide +kernel, by decide +kernel⟩
theorem ak_47 : am_K 47 1 := ⟨aw_3_107, aw_1_5, ⟨by decide +kernel, by decide +kernel⟩, by decide +kernel, by decide +kernel⟩
theorem ak_48 : am_K 48 0 := ⟨aw_3_151, aw_1_5, ⟨by decide +kernel, by decide +kernel⟩, by decide +kernel, by decide +kernel⟩
theorem ak_49 : am_K 49 1 := ⟨aw_3_155, aw_1_5, ⟨by decide +kernel, by decide +kernel⟩, by decide +kernel, by decide +kernel⟩
theorem ak_50 : am_K 50 1 := ⟨aw_3_159, aw_1_5, ⟨by decide +kernel, by decide +kernel⟩, by decide +kernel, by decide +kernel⟩
theorem ak_51 : am_K 51 1 := ⟨aw_3_163, aw_1_5, ⟨by decide +kernel, by decide +kernel⟩, by decide +kernel, by decide +kernel⟩
theorem ak_52 : am_K 52 1 := ⟨aw_3_167, aw_1_5, ⟨by decide +kernel, by decide +kernel⟩, by decide +kernel, by decide +kernel⟩
theorem ak_53 : am_K 53 1 := ⟨aw_3_127, aw_1_5, ⟨by decide +kernel, by decide +kernel⟩, by decide +kernel, by decide +kernel⟩
theorem ak_54 : am_K 54 1 := ⟨aw_3_131, aw_1_5, ⟨by decide +kernel, by decide +kernel⟩, by decide +kernel, by decide +kernel⟩
theorem ak_55 : am_K 55 1 := ⟨aw_3_135, aw_1_5, ⟨by decide +kernel, by decide +kernel⟩, by decide +kernel, by decide +kernel⟩
theorem ak_56 : am_K 56 0 := ⟨aw_3_147, aw_1_5, ⟨by decide +kernel, by decide +kernel⟩, by decide +kernel, by decide +kernel⟩
theorem ak_57 : am_K 57 0 := ⟨aw_3_139, aw_1_5, ⟨by decide +kernel, by decide +kernel⟩, by decide +kernel, by decide +kernel⟩
theorem ak_58 : am_K 58 2 := ⟨aw_1_124, aw_1_6, ⟨by decide +kernel, by decide +kernel⟩, by decide +kernel, by decide +kernel⟩
theorem ak_59 : am_K 59 0 := ⟨aw_3_94, aw_1_6, ⟨by decide +kernel, by decide +kernel⟩, by decide +kernel, by decide +kernel⟩
theorem ak_60 : am_K 60 0 := ⟨aw_3_175, aw_1_6, ⟨by decide +kernel, by decide +kernel⟩, by decide +kernel, by decide +kernel⟩
theorem ak_61 : am_K 61 1 := ⟨aw_3_115, aw_1_6, ⟨by decide +kernel, by decide +kernel⟩, by decide +kernel, by decide +kernel⟩
theorem ak_62 : am_K 62 2 := ⟨aw_3_123, aw_1_6, ⟨by decide +kernel, by decide +kernel⟩, by decide +kernel, by decide +kernel⟩
theorem ak_63 : am_K 63 2 := ⟨aw_3_143, aw_1_6, ⟨by decide +kernel, by decide +kernel⟩, by decide +kernel, by decide +kernel⟩
theorem ak_64 : am_K 64 2 := ⟨aw_3_171, aw_1_6, ⟨by decide +kernel, by decide +kernel⟩, by decide +kernel, by decide +kernel⟩
theorem ak_65 : am_K 65 2 := ⟨aw_2_160, aw_1_6, ⟨by decide +kernel, by decide +kernel⟩, by decide +kernel, by decide +kernel⟩
theorem ak_66 : am_K 66 0 := ⟨aw_1_214, aw_1_9, ⟨by decide +kernel, by decide +kernel⟩, by decide +kernel, by decide +kernel⟩
theorem ak_67 : am_K 67 1 := ⟨aw_4_83, aw_1_9, ⟨by decide +kernel, by decide +kernel⟩, by decide +kernel, by decide +kernel⟩
theorem ak_68 : am_K 68 1 := ⟨aw_4_156, aw_1_9, ⟨by decide +kernel, by decide +kernel⟩, by decide +kernel, by decide +kernel⟩
theorem ak_69 : am_K 69 1 := ⟨aw_4_139, aw_1_9, ⟨by decide +kernel, by decide +kernel⟩, by decide +kernel, by decide +kernel⟩
theorem ak_70 : am_K 70 1 := ⟨aw_4_135, aw_1_9, ⟨by decide +kernel, by decide +kernel⟩, by decide +kernel, by decide +kernel⟩
theorem ak_71 : am_K 71 1 := ⟨aw_4_143, aw_1_9, ⟨by decide +kernel, by decide +kernel⟩, by decide +kernel, by decide +kernel⟩
theorem ak_72 : am_K 72 0 := ⟨aw_4_97, aw_1_9, ⟨by decide +kernel, by decide +kernel⟩, by decide +kernel, by decide +kernel⟩
theorem ak_73 : am_K 73 1 := ⟨aw_4_102, aw_1_9, ⟨by decide +kernel, by decide +kernel⟩, by decide +kernel, by decide +kernel⟩
theorem ak_74 : am_K 74 0 := ⟨aw_4_93, aw_1_9, ⟨by decide +kernel, by decide +kernel⟩, by decide +kernel, by decide +kernel⟩
theorem ak_75 : am_K 75 0 := ⟨aw_4_169, aw_1_9, ⟨by decide +kernel, by decide +kernel⟩, by decide +kernel, by decide +kernel⟩
theorem ak_76 : am_K 76 0 := ⟨aw_4_173, aw_1_9, ⟨by decide +kernel, by decide +kernel⟩, by decide +kernel, by decide +kernel⟩
theorem ak_77 : am_K 77 1 := ⟨aw_5_53, aw_1_9, ⟨by decide +kernel, by decide +kernel⟩, by decide +kernel, by decide +kernel⟩
theorem ak_78 : am_K 78 1 := ⟨aw_5_57, aw_1_9, ⟨by decide +kernel, by decide +kernel⟩, by decide +kernel, by decide +kernel⟩
theorem ak_79 : am_K 79 2 := ⟨aw_4_194, aw_1_9, ⟨by decide +kernel, by decide +kernel⟩, by decide +kernel, by decide +kernel⟩
theorem ak_80 : am_K 80 2 := ⟨aw_4_198, aw_1_9, ⟨by decide +kernel, by decide +kernel⟩, by decide +kernel, by decide +kernel⟩
theorem ak_81 : am_K 81 3 := ⟨aw_4_202, aw_1_9, ⟨by decide +kernel, by decide +kernel⟩, by decide +kernel, by decide +kernel⟩
theorem ak_82 : am_K 82 1 := ⟨aw_4_206, aw_1_9, ⟨by decide +kernel, by decide +kernel⟩, by decide +kernel, by decide +kernel⟩
theorem ak_83 : am_K 83 2 := ⟨aw_4_214, aw_1_9, ⟨by decide +kernel, by decide +kernel⟩, by decide +kernel, by decide +kernel⟩
theorem ak_84 : am_K 84 3 := ⟨aw_4_218, aw_1_9, ⟨by decide +kernel, by decide +kernel⟩, by decide +kernel, by decide +kernel⟩
theorem ak_85 : am_K 85 0 := ⟨aw_4_226, aw_1_9, ⟨by decide +kernel, by decide +kernel⟩, by decide +kernel, by decide +kernel⟩
theorem ak_86 : am_K 86 1 := ⟨aw_5_11, aw_1_9, ⟨by decide +kernel, by decide +kernel⟩, by decide +kernel, by decide +kernel⟩
theorem ak_87 : am_K 87 2 := ⟨aw_5_14, aw_1_9, ⟨by decide +kernel, by decide +kernel⟩, by decide +kernel, by decide +kernel⟩
theorem ak_88 : am_K 88 2 := ⟨aw_4_231, aw_1_9, ⟨by decide +kernel, by decide +kernel⟩, by decide +kernel, by decide +kernel⟩
theorem ak_89 : am_K 89 1 := ⟨aw_4_235, aw_1_9, ⟨by decide +kernel, by decide +kernel⟩, by decide +kernel, by decide +kernel⟩
theorem ak_90 : am_K 90 1 := ⟨aw_5_22, aw_1_9, ⟨by decide +kernel, by decide +kernel⟩, by decide +kernel, by decide +kernel⟩
theorem ak_91 : am_K 91 2 := ⟨aw_5_34, aw_1_9, ⟨by decide +kernel, by decide +kernel⟩, by decide +kernel, by decide +kernel⟩
theorem ak_92 : am_K 92 1 := ⟨aw_5_30, aw_1_9, ⟨by decide +kernel, by decide +kernel⟩, by decide +kernel, by decide +kernel⟩
theorem ak_93 : am_K 93 0 := ⟨aw_1_103, aw_1_4, ⟨by decide +kernel, by decide +kernel⟩, by decide +kernel, by decide +kernel⟩
theorem ak_94 : am_K 94 1 := ⟨aw_2_224, aw_1_4, ⟨by decide +kernel, by decide +kernel⟩, by decide +kernel, by decide +kernel⟩
theorem ak_95 : am_K 95 1 := ⟨aw_3_0, aw_1_4, ⟨by decide +kernel, by decide +kernel⟩, by decide +kernel, by decide +kernel⟩
theorem ak_96 : am_K 96 0 := ⟨aw_1_31, aw_1_2, ⟨by decide +kernel, by decide +kernel⟩, by decide +kernel, by decide +kernel⟩
theorem ak_97 : am_K 97 1 := ⟨aw_3_189, aw_1_2, ⟨by decide +kernel, by decide +kernel⟩, by decide +kernel, by decide +kernel⟩
theorem ak_98 : am_K 98 1 := ⟨aw_2_115, aw_1_2, ⟨by decide +kernel, by decide +kernel⟩, by decide +kernel, by decide +kernel⟩
theorem ak_99 : am_K 99 2 := ⟨aw_2_148, aw_1_2, ⟨by decide +kernel, by decide +kernel⟩, by decide +kernel, by decide +kernel⟩
theorem ak_100 : am_K 100 1 := ⟨aw_4_7, aw_1_2, ⟨by decide +kernel, by decide +kernel⟩, by decide +kernel, by decide +kernel⟩
theorem ak_101 : am_K 101 1 := ⟨aw_4_46, aw_1_2, ⟨by decide +kernel, by decide +kernel⟩, by decide +kernel, by decide +kernel⟩
theorem ak_102 : am_K 102 1 := ⟨aw_2_123, aw_1_2, ⟨by decide +kernel, by decide +kernel⟩, by decide +kernel, by decide +kernel⟩
theorem ak_103 : am_K 103 1 := ⟨aw_2_131, aw_1_2, ⟨by decide +kernel, by decide +kernel⟩, by decide +kernel, by decide +kernel⟩
theorem ak_104 : am_K 104 2 := ⟨aw_2_185, aw_1_2, ⟨by decide +kernel, by decide +kernel⟩, by decide +kernel, by decide +kernel⟩
theorem ak_105 : am_K 105 2 := ⟨aw_2_200, aw_1_2, ⟨by decide +kernel, by decide +kernel⟩, by decide +kernel, by decide +kernel⟩
theorem ak_106 : am_K 106 4 := ⟨aw_3_4, aw_1_2, ⟨by decide +kernel, by decide +kernel⟩, by decide +kernel, by decide +kernel⟩
theorem ak_107 : am_K 107 1 := ⟨aw_2_181, aw_1_2, ⟨by decide +kernel, by decide +kernel⟩, by decide +kernel, by decide +kernel⟩
theorem ak_108 : am_K 108 1 := ⟨aw_2_190, aw_1_2, ⟨by decide +kernel, by decide +kernel⟩, by decide +kernel, by decide +kernel⟩
theorem ak_109 : am_K 109 0 := ⟨aw_3_203, aw_1_2, ⟨by decide +kernel, by decide +kernel⟩, by decide +kernel, by decide +kernel⟩
theorem ak_110 : am_K 110 1 := ⟨aw_3_212, aw_1_2, ⟨by decide +kernel, by decide +kernel⟩, by decide +kernel, by decide +kernel⟩
theorem ak_111 : am_K 111 0 := ⟨aw_3_208, aw_1_2, ⟨by decide +kernel, by decide +kernel⟩, by decide +kernel, by decide +kernel⟩
theorem ak_112 : am_K 112 0 := ⟨aw_1_23, aw_1_1, ⟨by decide +kernel, by decide +kernel⟩, by decide +kernel, by decide +kernel⟩
theorem ak_113 : am_K 113 1 := ⟨aw_2_96, aw_1_1, ⟨by decide +kernel, by decide +kernel⟩, by decide +kernel, by decide +kernel⟩
theorem ak_114 : am_K 114 2 := ⟨aw_2_111, aw_1_1, ⟨by decide +kernel, by decide +kernel⟩, by decide +kernel, by decide +kernel⟩
theorem ak_115 : am_K 115 3 := ⟨aw_2_194, aw_1_1, ⟨by decide +kernel, by decide +kernel⟩, by decide +kernel, by decide +kernel⟩
theorem ak_116 : am_K 116 2 := ⟨aw_2_213, aw_1_1, ⟨by decide +kernel, by decide +kernel⟩, by decide +kernel, by decide +kernel⟩
theorem ak_117 : am_K 117 5 := ⟨aw_2_220, aw_1_1, ⟨by decide +kernel, by decide +kernel⟩, by decide +kernel, by decide +kernel⟩
theorem ak_118 : am_K 118 1 := ⟨aw_2_228, aw_1_1, ⟨by decide +kernel, by decide +kernel⟩, by decide +kernel, by decide +kernel⟩
theorem ak_119 : am_K 119 0 := ⟨aw_2_232, aw_1_1, ⟨by decide +kernel, by decide +kernel⟩, by decide +kernel, by decide +kernel⟩
theorem ak_120 : am_K 120 0 := ⟨aw_3_8, aw_1_1, ⟨by decide +kernel, by decide +kernel⟩, by decide +kernel, by decide +kernel⟩
theorem ak_121 : am_K 121 0 := ⟨aw_3_12, aw_1_1, ⟨by decide +kernel, by decide +kernel⟩, by decide +kernel, by decide +kernel⟩
theorem ak_122 : am_K 122 0 := ⟨aw_3_185, aw_1_1, ⟨by decide +kernel, by decide +kernel⟩, by decide +kernel, by decide +kernel⟩
theorem ak_123 : am_K 123 0 := ⟨aw_4_34, aw_1_1, ⟨by decide +kernel, by decide +kernel⟩, by decide +kernel, by decide +kernel⟩
theorem ak_124 : am_K 124 0 := ⟨aw_4_38, aw_1_1, ⟨by decide +kernel, by decide +kernel⟩, by decide +kernel, by decide +kernel⟩
theorem ak_125 : am_K 125 1 := ⟨aw_4_42, aw_1_1, ⟨by decide +kernel, by decide +kernel⟩, by decide +kernel, by decide +kernel⟩
theorem ak_126 : am_K 126 3 := ⟨aw_4_50, aw_1_1, ⟨by decide +kernel, by decide +kernel⟩, by decide +kernel, by decide +kernel⟩
theorem ak_127 : am_K 127 1 := ⟨aw_4_54, aw_1_1, ⟨by decide +kernel, by decide +kernel⟩, by decide +kernel, by decide +kernel⟩
theorem ak_128 : am_K 128 2 := ⟨aw_4_58, aw_1_1, ⟨by decide +kernel, by decide +kernel⟩, by decide +kernel, by decide +kernel⟩
theorem ak_129 : am_K 129 0 := ⟨aw_4_62, aw_1_1, ⟨by decide +kernel, by decide +kernel⟩, by decide +kernel, by decide +kernel⟩
theorem ak_130 : am_K 130 0 := ⟨aw_4_66, aw_1_1, ⟨by decide +kernel, by decide +kernel⟩, by decide +kernel, by decide +kernel⟩
theorem ak_131 : am_K 131 1 := ⟨aw_4_75, aw_1_1, ⟨by decide +kernel, by decide +kernel⟩, by decide +kernel, by decide +kernel⟩
theorem ak_132 : am_K 132 1 := ⟨aw_4_109, aw_1_1, ⟨by decide +kernel, by decide +kernel⟩, by decide +kernel, by decide +kernel⟩
theorem ak_133 : am_K 133 1 := ⟨aw_4_152, aw_1_1, ⟨by decide +kernel, by decide +kernel⟩, by decide +kernel, by decide +kernel⟩
theorem ak_134 : am_K 134 1 := ⟨aw_4_165, aw_1_1, ⟨by decide +kernel, by decide +kernel⟩, by decide +kernel, by decide +kernel⟩
theorem ak_135 : am_K 135 2 := ⟨aw_4_177, aw_1_1, ⟨by decide +kernel, by decide +kernel⟩, by decide +kernel, by decide +kernel⟩
theorem ak_136 : am_K 136 3 := ⟨aw_4_190, aw_1_1, ⟨by decide +kernel, by decide +kernel⟩, by decide +kernel, by decide +kernel⟩
theorem ak_137 : am_K 137 0 := ⟨aw_4_210, aw_1_1, ⟨by decide +kernel, by decide +kernel⟩, by decide +kernel, by decide +kernel⟩
theorem ak_138 : am_K 138 1 := ⟨aw_4_222, aw_1_1, ⟨by decide +kernel, by decide +kernel⟩, by decide +kernel, by decide +kernel⟩
theorem ak_139 : am_K 139 1 := ⟨aw_4_239, aw_1_1, ⟨by decide +kernel, by decide +kernel⟩, by decide +kernel, by decide +kernel⟩
theorem ak_140 : am_K 140 0 := ⟨aw_5_3, aw_1_1, ⟨by decide +kernel, by decide +kernel⟩, by decide +kernel, by decide +kernel⟩
theorem ak_141 : am_K 141 1 := ⟨aw_5_7, aw_1_1, ⟨by decide +kernel, by decide +kernel⟩, by decide +kernel, by decide +kernel⟩
theorem ak_142 : am_K 142 1 := ⟨aw_5_18, aw_1_1, ⟨by decide +kernel, by decide +kernel⟩, by decide +kernel, by decide +kernel⟩
theorem ak_143 : am_K 143 2 := ⟨aw_5_26, aw_1_1, ⟨by decide +kernel, by decide +kernel⟩, by decide +kernel, by decide +kernel⟩
theorem ak_144 : am_K 144 1 := ⟨aw_5_43, aw_1_1, ⟨by decide +kernel, by decide +kernel⟩, by decide +kernel, by decide +kernel⟩
theorem ak_145 : am_K 145 1 := ⟨aw_5_48, aw_1_1, ⟨by decide +kernel, by decide +kernel⟩, by decide +kernel, by decide +kernel⟩
theorem ak_146 : am_K 146 2 := ⟨aw_5_61, aw_1_1, ⟨by decide +kernel, by decide +kernel⟩, by decide +kernel, by decide +kernel⟩
theorem ak_147 : am_K 147 1 := ⟨aw_5_72, aw_1_1, ⟨by decide +kernel, by decide +kernel⟩, by decide +kernel, by decide +kernel⟩
theorem ak_148 : am_K 148 2 := ⟨aw_5_76, aw_1_1, ⟨by decide +kernel, by decide +kernel⟩, by decide +kernel, by decide +kernel⟩
theorem ak_149 : am_K 149 2 := ⟨aw_5_100, aw_1_1, ⟨by decide +kernel, by decide +kernel⟩, by decide +kernel, by decide +kernel⟩
theorem ak_150 : am_K 150 1 := ⟨aw_5_104, aw_1_1, ⟨by decide +kernel, by decide +kernel⟩, by decide +kernel, by decide +kernel⟩
theorem ak_151 : am_K 151 1 := ⟨aw_5_108, aw_1_1, ⟨by decide +kernel, by decide +kernel⟩, by decide +kernel, by decide +kernel⟩
theorem ak_152 : am_K 152 1 := ⟨aw_5_112, aw_1_1, ⟨by decide +kernel, by decide +kernel⟩, by decide +kernel, by decide +kernel⟩
theorem ak_153 : am_K 153 0 := ⟨aw_5_116, aw_1_1, ⟨by decide +kernel, by decide +kernel⟩, by decide +kernel, by decide +kernel⟩
theorem ak_154 : am_K 154 1 := ⟨aw_2_100, aw_1_1, ⟨by decide +kernel, by decide +kernel⟩, by decide +kernel, by decide +kernel⟩
theorem ak_155 : am_K 155 0 := ⟨aw_2_119, aw_1_1, ⟨by decide +kernel, by decide +kernel⟩, by decide +kernel, by decide +kernel⟩
theorem ak_156 : am_K 156 0 := ⟨aw_4_79, aw_1_1, ⟨by decide +kernel, by decide +kernel⟩, by decide +kernel, by decide +kernel⟩
theorem ak_157 : am_K 157 1 := ⟨aw_2_216, aw_1_1, ⟨by decide +kernel, by decide +kernel⟩, by decide +kernel, by decide +kernel⟩
theorem ak_158 : am_K 158 2 := ⟨aw_4_105, aw_1_1, ⟨by decide +kernel, by decide +kernel⟩, by decide +kernel, by decide +kernel⟩
theorem ak_159 : am_K 159 1 := ⟨aw_2_236, aw_1_1, ⟨by decide +kernel, by decide +kernel⟩, by decide +kernel, by decide +kernel⟩
theorem ak_160 : am_K 160 3 := ⟨aw_3_229, aw_1_1, ⟨by decide +kernel, by decide +kernel⟩, by decide +kernel, by decide +kernel⟩
theorem ak_161 : am_K 161 1 := ⟨aw_4_3, aw_1_1, ⟨by decide +kernel, by decide +kernel⟩, by decide +kernel, by decide +kernel⟩
theorem ak_162 : am_K 162 2 := ⟨aw_4_21, aw_1_1, ⟨by decide +kernel, by decide +kernel⟩, by decide +kernel, by decide +kernel⟩
theorem ak_163 : am_K 163 0 := ⟨aw_4_25, aw_1_1, ⟨by decide +kernel, by decide +kernel⟩, by decide +kernel, by decide +kernel⟩
theorem ak_164 : am_K 164 2 := ⟨aw_3_222, aw_1_1, ⟨by decide +kernel, by decide +kernel⟩, by decide +kernel, by decide +kernel⟩
theorem ak_165 : am_K 165 1 := ⟨aw_3_199, aw_1_1, ⟨by decide +kernel, by decide +kernel⟩, by decide +kernel, by decide +kernel⟩
theorem ak_166 : am_K 166 2 := ⟨aw_4_181, aw_1_1, ⟨by decide +kernel, by decide +kernel⟩, by decide +kernel, by decide +kernel⟩
theorem ak_167 : am_K 167 1 := ⟨aw_5_67, aw_1_1, ⟨by decide +kernel, by decide +kernel⟩, by decide +kernel, by decide +kernel⟩
theorem ak_168 : am_K 168 0 := ⟨aw_5_85, aw_1_1, ⟨by decide +kernel, by decide +kernel⟩, by decide +kernel, by decide +kernel⟩
theorem ak_169 : am_K 169 4 := ⟨aw_5_96, aw_1_1, ⟨by decide +kernel, by decide +kernel⟩, by decide +kernel, by decide +kernel⟩
theorem ak_170 : am_K 170 0 := ⟨aw_5_121, aw_1_12, ⟨by decide +kernel, by decide +kernel⟩, by decide +kernel, by decide +kernel⟩
theorem ak_171 : am_K 171 3 := ⟨aw_6_109, aw_1_12, ⟨by decide +kernel, by decide +kernel⟩, by decide +kernel, by decide +kernel⟩
theorem ak_172 : am_K 172 2 := ⟨aw_7_159, aw_1_12, ⟨by decide +kernel, by decide +kernel⟩, by decide +kernel, by decide +kernel⟩
theorem ak_173 : am_K 173 1 := ⟨aw_7_156, aw_1_12, ⟨by decide +kernel, by decide +kernel⟩, by decide +kernel, by decide +kernel⟩
theorem ak_174 : am_K 174 3 := ⟨aw_6_168, aw_1_12, ⟨by decide +kernel, by decide +kernel⟩, by decide +kernel, by decide +kernel⟩
theorem ak_175 : am_K 175 1 := ⟨aw_6_98, aw_1_12, ⟨by decide +kernel, by decide +kernel⟩, by decide +kernel, by decide +kernel⟩
theorem ak_176 : am_K 176 2 := ⟨aw_6_198, aw_1_12, ⟨by decide +kernel, by decide +kernel⟩, by decide +kernel, by decide +kernel⟩
theorem ak_177 : am_K 177 1 := ⟨aw_6_117, aw_1_12, ⟨by decide +kernel, by decide +kernel⟩, by decide +kernel, by decide +kernel⟩
theorem ak_178 : am_K 178 1 := ⟨aw_7_129, aw_1_12, ⟨by decide +kernel, by decide +kernel⟩, by decide +kernel, by decide +kernel⟩
theorem ak_179 : am_K 179 1 := ⟨aw_6_102, aw_1_12, ⟨by decide +kernel, by decide +kernel⟩, by decide +kernel, by decide +kernel⟩
theorem ak_180 : am_K 180 1 := ⟨aw_7_125, aw_1_12, ⟨by decide +kernel, by decide +kernel⟩, by decide +kernel, by decide +kernel⟩
theorem ak_181 : am_K 181 0 := ⟨aw_6_94, aw_1_12, ⟨by decide +kernel, by decide +kernel⟩, by decide +kernel, by decide +kernel⟩
theorem ak_182 : am_K 182 1 := ⟨aw_6_106, aw_1_12, ⟨by decide +kernel, by decide +kernel⟩, by decide +kernel, by decide +kernel⟩
theorem ak_183 : am_K 183 1 := ⟨aw_6_113, aw_1_12, ⟨by decide +kernel, by decide +kernel⟩, by decide +kernel, by decide +kernel⟩
theorem ak_184 : am_K 184 1 := ⟨aw_6_130, aw_1_12, ⟨by decide +kernel, by decide +kernel⟩, by decide +kernel, by decide +kernel⟩
theorem ak_185 : am_K 185 0 := ⟨aw_7_149, aw_1_12, ⟨by decide +kernel, by decide +kernel⟩, by decide +kernel, by decide +kernel⟩
theorem ak_186 : am_K 186 1 := ⟨aw_7_145, aw_1_12, ⟨by decide +kernel, by decide +kernel⟩, by decide +kernel, by decide +kernel⟩
theorem ak_187 : am_K 187 1 := ⟨aw_7_140, aw_1_12, ⟨by decide +kernel, by decide +kernel⟩, by decide +kernel, by decide +kernel⟩
theorem ak_188 : am_K 188 2 := ⟨aw_6_146, aw_1_12, ⟨by decide +kernel, by decide +kernel⟩, by decide +kernel, by decide +kernel⟩
theorem ak_189 : am_K 189 0 := ⟨aw_8_98, aw_1_12, ⟨by decide +kernel, by decide +kernel⟩, by decide +kernel, by decide +kernel⟩
theorem ak_190 : am_K 190 0 := ⟨aw_7_192, aw_1_12, ⟨by decide +kernel, by decide +kernel⟩, by decide +kernel, by decide +kernel⟩
theorem ak_191 : am_K 191 1 := ⟨aw_6_121, aw_1_12, ⟨by decide +kernel, by decide +kernel⟩, by decide +kernel, by decide +kernel⟩
theorem ak_192 : am_K 192 2 := ⟨aw_6_184, aw_1_12, ⟨by decide +kernel, by decide +kernel⟩, by decide +kernel, by decide +kernel⟩
theorem ak_193 : am_K 193 2 := ⟨aw_6_126, aw_1_12, ⟨by decide +kernel, by decide +kernel⟩, by decide +kernel, by decide +kernel⟩
theorem ak_194 : am_K 194 3 := ⟨aw_6_188, aw_1_12, ⟨by decide +kernel, by decide +kernel⟩, by decide +kernel, by decide +kernel⟩
theorem ak_195 : am_K 195 2 := ⟨aw_6_192, aw_1_12, ⟨by decide +kernel, by decide +kernel⟩, by decide +kernel, by decide +kernel⟩
theorem ak_196 : am_K 196 3 := ⟨aw_6_206, aw_1_12, ⟨by decide +kernel, by decide +kernel⟩, by decide +kernel, by decide +kernel⟩
theorem ak_197 : am_K 197 0 := ⟨aw_6_202, aw_1_12, ⟨by decide +kernel, by decide +kernel⟩, by decide +kernel, by decide +kernel⟩
theorem ak_198 : am_K 198 0 := ⟨aw_6_210, aw_1_12, ⟨by decide +kernel, by decide +kernel⟩, by decide +kernel, by decide +kernel⟩
theorem ak_199 : am_K 199 1 := ⟨aw_6_218, aw_1_12, ⟨by decide +kernel, by decide +kernel⟩, by decide +kernel, by decide +kernel⟩
theorem ak_200 : am_K 200 5 := ⟨aw_6_214, aw_1_12, ⟨by decide +kernel, by decide +kernel⟩, by decide +kernel, by decide +kernel⟩
theorem ak_201 : am_K 201 1 := ⟨aw_6_222, aw_1_12, ⟨by decide +kernel, by decide +kernel⟩, by decide +kernel, by decide +kernel⟩
theorem ak_202 : am_K 202 1 := ⟨aw_7_5, aw_1_12, ⟨by decide +kernel, by decide +kernel⟩, by decide +kernel, by decide +kernel⟩
theorem ak_203 : am_K 203 1 := ⟨aw_7_8, aw_1_12, ⟨by decide +kernel, by decide +kernel⟩, by decide +kernel, by decide +kernel⟩
theorem ak_204 : am_K 204 0 := ⟨aw_6_238, aw_1_12, ⟨by decide +kernel, by decide +kernel⟩, by decide +kernel, by decide +kernel⟩
theorem ak_205 : am_K 205 0 := ⟨aw_7_2, aw_1_12, ⟨by decide +kernel, by decide +kernel⟩, by decide +kernel, by decide +kernel⟩
theorem ak_206 : am_K 206 1 := ⟨aw_7_20, aw_1_12, ⟨by decide +kernel, by decide +kernel⟩, by decide +kernel, by decide +kernel⟩
theorem ak_207 : am_K 207 1 := ⟨aw_7_41, aw_1_12, ⟨by decide +kernel, by decide +kernel⟩, by decide +kernel, by decide +kernel⟩
theorem ak_208 : am_K 208 1 := ⟨aw_7_24, aw_1_12, ⟨by decide +kernel, by decide +kernel⟩, by decide +kernel, by decide +kernel⟩
theorem ak_209 : am_K 209 2 := ⟨aw_7_71, aw_1_12, ⟨by decide +kernel, by decide +kernel⟩, by decide +kernel, by decide +kernel⟩
theorem ak_210 : am_K 210 0 := ⟨aw_6_226, aw_1_12, ⟨by decide +kernel, by decide +kernel⟩, by decide +kernel, by decide +kernel⟩
theorem ak_211 : am_K 211 2 := ⟨aw_7_66, aw_1_12, ⟨by decide +kernel, by decide +kernel⟩, by decide +kernel, by decide +kernel⟩
theorem ak_212 : am_K 212 2 := ⟨aw_7_37, aw_1_12, ⟨by decide +kernel, by decide +kernel⟩, by decide +kernel, by decide +kernel⟩
theorem ak_213 : am_K 213 1 := ⟨aw_7_78, aw_1_12, ⟨by decide +kernel, by decide +kernel⟩, by decide +kernel, by decide +kernel⟩
theorem ak_214 : am_K 214 1 := ⟨aw_7_82, aw_1_12, ⟨by decide +kernel, by decide +kernel⟩, by decide +kernel, by decide +kernel⟩
theorem ak_215 : am_K 215 0 := ⟨aw_7_86, aw_1_12, ⟨by decide +kernel, by decide +kernel⟩, by decide +kernel, by decide +kernel⟩
theorem ak_216 : am_K 216 0 := ⟨aw_7_90, aw_1_12, ⟨by decide +kernel, by decide +kernel⟩, by decide +kernel, by decide +kernel⟩
theorem ak_217 : am_K 217 0 := ⟨aw_7_57, aw_1_12, ⟨by decide +kernel, by decide +kernel⟩, by decide +kernel, by decide +kernel⟩
theorem ak_218 : am_K 218 0 := ⟨aw_7_53, aw_1_12, ⟨by decide +kernel, by decide +kernel⟩, by decide +kernel, by decide +kernel⟩
theorem ak_219 : am_K 219 1 := ⟨aw_7_45, aw_1_12, ⟨by decide +kernel, by decide +kernel⟩, by decide +kernel, by decide +kernel⟩
theorem ak_220 : am_K 220 3 := ⟨aw_7_62, aw_1_12, ⟨by decide +kernel, by decide +kernel⟩, by decide +kernel, by decide +kernel⟩
theorem ak_221 : am_K 221 0 := ⟨aw_7_49, aw_1_12, ⟨by decide +kernel, by decide +kernel⟩, by decide +kernel, by decide +kernel⟩
theorem ak_222 : am_K 222 0 := ⟨aw_7_32, aw_1_12, ⟨by decide +kernel, by decide +kernel⟩, by decide +kernel, by decide +kernel⟩
theorem ak_223 : am_K 223 1 := ⟨aw_7_75, aw_1_12, ⟨by decide +kernel, by decide +kernel⟩, by decide +kernel, by decide +kernel⟩
theorem ak_224 : am_K 224 0 := ⟨aw_7_98, aw_1_12, ⟨by decide +kernel, by decide +kernel⟩, by decide +kernel, by decide +kernel⟩
theorem ak_225 : am_K 225 1 := ⟨aw_7_28, aw_1_12, ⟨by decide +kernel, by decide +kernel⟩, by decide +kernel, by decide +kernel⟩
theorem ak_226 : am_K 226 1 := ⟨aw_6_234, aw_1_12, ⟨by decide +kernel, by decide +kernel⟩, by decide +kernel, by decide +kernel⟩
theorem ak_227 : am_K 227 0 := ⟨aw_7_105, aw_1_12, ⟨by decide +kernel, by decide +kernel⟩, by decide +kernel, by decide +kernel⟩
theorem ak_228 : am_K 228 0 := ⟨aw_7_16, aw_1_12, ⟨by decide +kernel, by decide +kernel⟩, by decide +kernel, by decide +kernel⟩
theorem ak_229 : am_K 229 0 := ⟨aw_6_230, aw_1_12, ⟨by decide +kernel, by decide +kernel⟩, by decide +kernel, by decide +kernel⟩
theorem ak_230 : am_K 230 1 := ⟨aw_7_113, aw_1_12, ⟨by decide +kernel, by decide +kernel⟩, by decide +kernel, by decide +kernel⟩
theorem ak_231 : am_K 231 1 := ⟨aw_7_109, aw_1_12, ⟨by decide +kernel, by decide +kernel⟩, by decide +kernel, by decide +kernel⟩
theorem ak_232 : am_K 232 3 := ⟨aw_6_163, aw_1_12, ⟨by decide +kernel, by decide +kernel⟩, by decide +kernel, by decide +kernel⟩
theorem ak_233 : am_K 233 2 := ⟨aw_6_159, aw_1_12, ⟨by decide +kernel, by decide +kernel⟩, by decide +kernel, by decide +kernel⟩
theorem ak_234 : am_K 234 1 := ⟨aw_6_155, aw_1_12, ⟨by decide +kernel, by decide +kernel⟩, by decide +kernel, by decide +kernel⟩
theorem ak_235 : am_K 235 5 := ⟨aw_6_150, aw_1_12, ⟨by decide +kernel, by decide +kernel⟩, by decide +kernel, by decide +kernel⟩
theorem ak_236 : am_K 236 2 := ⟨aw_6_142, aw_1_12, ⟨by decide +kernel, by decide +kernel⟩, by decide +kernel, by decide +kernel⟩
theorem ak_237 : am_K 237 2 := ⟨aw_7_167, aw_1_12, ⟨by decide +kernel, by decide +kernel⟩, by decide +kernel, by decide +kernel⟩
theorem ak_238 : am_K 238 1 := ⟨aw_6_180, aw_1_12, ⟨by decide +kernel, by decide +kernel⟩, by decide +kernel, by decide +kernel⟩
theorem ak_239 : am_K 239 2 := ⟨aw_6_172, aw_1_12, ⟨by decide +kernel, by decide +kernel⟩, by decide +kernel, by decide +kernel⟩
theorem ak_240 : am_K 240 2 := ⟨aw_6_138, aw_1_12, ⟨by decide +kernel, by decide +kernel⟩, by decide +kernel, by decide +kernel⟩
theorem ak_241 : am_K 241 0 := ⟨aw_6_134, aw_1_12, ⟨by decide +kernel, by decide +kernel⟩, by decide +kernel, by decide +kernel⟩
theorem ak_242 : am_K 242 1 := ⟨aw_6_176, aw_1_12, ⟨by decide +kernel, by decide +kernel⟩, by decide +kernel, by decide +kernel⟩
theorem ak_243 : am_K 243 1 := ⟨aw_7_153, aw_1_12, ⟨by decide +kernel, by decide +kernel⟩, by decide +kernel, by decide +kernel⟩
theorem ak_244 : am_K 244 3 := ⟨aw_7_121, aw_1_12, ⟨by decide +kernel, by decide +kernel⟩, by decide +kernel, by decide +kernel⟩
theorem ak_245 : am_K 245 3 := ⟨aw_7_117, aw_1_12, ⟨by decide +kernel, by decide +kernel⟩, by decide +kernel, by decide +kernel⟩
theorem ak_246 : am_K 246 1 := ⟨aw_7_163, aw_1_12, ⟨by decide +kernel, by decide +kernel⟩, by decide +kernel, by decide +kernel⟩
theorem ak_247 : am_K 247 1 := ⟨aw_7_137, aw_1_12, ⟨by decide +kernel, by decide +kernel⟩, by decide +kernel, by decide +kernel⟩
theorem ak_248 : am_K 248 1 := ⟨aw_7_133, aw_1_12, ⟨by decide +kernel, by decide +kernel⟩, by decide +kernel, by decide +kernel⟩
theorem ak_249 : am_K 249 2 := ⟨aw_7_176, aw_1_12, ⟨by decide +kernel, by decide +kernel⟩, by decide +kernel, by decide +kernel⟩
theorem ak_250 : am_K 250 2 := ⟨aw_7_172, aw_1_12, ⟨by decide +kernel, by decide +kernel⟩, by decide +kernel, by decide +kernel⟩
theorem ak_251 : am_K 251 0 := ⟨aw_7_188, aw_1_12, ⟨by decide +kernel, by decide +kernel⟩, by decide +kernel, by decide +kernel⟩
theorem ak_252 : am_K 252 0 := ⟨aw_7_184, aw_1_12, ⟨by decide +kernel, by decide +kernel⟩, by decide +kernel, by decide +kernel⟩
theorem ak_253 : am_K 253 0 := ⟨aw_7_180, aw_1_12, ⟨by decide +kernel, by decide +kernel⟩, by decide +kernel, by decide +kernel⟩
theorem ak_254 : am_K 254 0 := ⟨aw_7_200, aw_1_12, ⟨by decide +kernel, by decide +kernel⟩, by decide +kernel, by decide +kernel⟩
theorem ak_255 : am_K 255 1 := ⟨aw_7_196, aw_1_12, ⟨by decide +kernel, by decide +kernel⟩, by decide +kernel, by decide +kernel⟩
theorem ak_256 : am_K 256 1 := ⟨aw_7_213, aw_1_12, ⟨by decide +kernel, by decide +kernel⟩, by decide +kernel, by decide +kernel⟩
theorem ak_257 : am_K 257 2 := ⟨aw_7_221, aw_1_12, ⟨by decide +kernel, by decide +kernel⟩, by decide +kernel, by decide +kernel⟩
theorem ak_258 : am_K 258 1 := ⟨aw_7_217, aw_1_12, ⟨by decide +kernel, by decide +kernel⟩, by decide +kernel, by decide +kernel⟩
theorem ak_259 : am_K 259 1 := ⟨aw_7_208, aw_1_12, ⟨by decide +kernel, by decide +kernel⟩, by decide +kernel, by decide +kernel⟩
theorem ak_260 : am_K 260 1 := ⟨aw_7_204, aw_1_12, ⟨by decide +kernel, by decide +kernel⟩, by decide +kernel, by decide +kernel⟩
theorem ak_261 : am_K 261 1 := ⟨aw_7_225, aw_1_12, ⟨by decide +kernel, by decide +kernel⟩, by decide +kernel, by decide +kernel⟩
theorem ak_262 : am_K 262 0 := ⟨aw_7_233, aw_1_12, ⟨by decide +kernel, by decide +kernel⟩, by decide +kernel, by decide +kernel⟩
theorem ak_263 : am_K 263 1 := ⟨aw_7_229, aw_1_12, ⟨by decide +kernel, by decide +kernel⟩, by decide +kernel, by decide +kernel⟩
theorem ak_264 : am_K 264 2 := ⟨aw_8_1, aw_1_12, ⟨by decide +kernel, by decide +kernel⟩, by decide +kernel, by decide +kernel⟩
theorem ak_265 : am_K 265 2 := ⟨aw_7_237, aw_1_12, ⟨by decide +kernel, by decide +kernel⟩, by decide +kernel, by decide +kernel⟩
theorem ak_266 : am_K 266 1 := ⟨aw_8_9, aw_1_12, ⟨by decide +kernel, by decide +kernel⟩, by decide +kernel, by decide +kernel⟩
theorem ak_267 : am_K 267 3 := ⟨aw_8_5, aw_1_12, ⟨by decide +kernel, by decide +kernel⟩, by decide +kernel, by decide +kernel⟩
theorem ak_268 : am_K 268 0 := ⟨aw_8_17, aw_1_12, ⟨by decide +kernel, by decide +kernel⟩, by decide +kernel, by decide +kernel⟩
theorem ak_269 : am_K 269 0 := ⟨aw_8_13, aw_1_12, ⟨by decide +kernel, by decide +kernel⟩, by decide +kernel, by decide +kernel⟩
theorem ak_270 : am_K 270 2 := ⟨aw_8_25, aw_1_12, ⟨by decide +kernel, by decide +kernel⟩, by decide +kernel, by decide +kernel⟩
theorem ak_271 : am_K 271 1 := ⟨aw_8_21, aw_1_12, ⟨by decide +kernel, by decide +kernel⟩, by decide +kernel, by decide +kernel⟩
theorem ak_272 : am_K 272 1 := ⟨aw_8_29, aw_1_12, ⟨by decide +kernel, by decide +kernel⟩, by decide +kernel, by decide +kernel⟩
theorem ak_273 : am_K 273 0 := ⟨aw_8_33, aw_1_12, ⟨by decide +kernel, by decide +kernel⟩, by decide +kernel, by decide +kernel⟩
theorem ak_274 : am_K 274 2 := ⟨aw_8_41, aw_1_12, ⟨by decide +kernel, by decide +kernel⟩, by decide +kernel, by decide +kernel⟩
theorem ak_275 : am_K 275 1 := ⟨aw_8_37, aw_1_12, ⟨by decide +kernel, by decide +kernel⟩, by decide +kernel, by decide +kernel⟩
theorem ak_276 : am_K 276 1 := ⟨aw_8_49, aw_1_12, ⟨by decide +kernel, by decide +kernel⟩, by decide +kernel, by decide +kernel⟩
theorem ak_277 : am_K 277 1 := ⟨aw_8_45, aw_1_12, ⟨by decide +kernel, by decide +kernel⟩, by decide +kernel, by decide +kernel⟩
theorem ak_278 : am_K 278 2 := ⟨aw_8_53, aw_1_12, ⟨by decide +kernel, by decide +kernel⟩, by decide +kernel, by decide +kernel⟩
theorem ak_279 : am_K 279 1 := ⟨aw_8_57, aw_1_12, ⟨by decide +kernel, by decide +kernel⟩, by decide +kernel, by decide +kernel⟩
theorem ak_280 : am_K 280 1 := ⟨aw_8_61, aw_1_12, ⟨by decide +kernel, by decide +kernel⟩, by decide +kernel, by decide +kernel⟩
theorem ak_281 : am_K 281 2 := ⟨aw_8_65, aw_1_12, ⟨by decide +kernel, by decide +kernel⟩, by decide +kernel, by decide +kernel⟩
theorem ak_282 : am_K 282 1 := ⟨aw_8_71, aw_1_12, ⟨by decide +kernel, by decide +kernel⟩, by decide +kernel, by decide +kernel⟩
theorem ak_283 : am_K 283 1 := ⟨aw_8_83, aw_1_12, ⟨by decide +kernel, by decide +kernel⟩, by decide +kernel, by decide +kernel⟩
theorem ak_284 : am_K 284 2 := ⟨aw_8_88, aw_1_12, ⟨by decide +kernel, by decide +kernel⟩, by decide +kernel, by decide +kernel⟩
theorem ak_285 : am_K 285 0 := ⟨aw_8_79, aw_1_12, ⟨by decide +kernel, by decide +kernel⟩, by decide +kernel, by decide +kernel⟩
theorem ak_286 : am_K 286 1 := ⟨aw_8_102, aw_1_12, ⟨by decide +kernel, by decide +kernel⟩, by decide +kernel, by decide +kernel⟩
theorem ak_287 : am_K 287 4 := ⟨aw_8_106, aw_1_12, ⟨by decide +kernel, by decide +kernel⟩, by decide +kernel, by decide +kernel⟩
theorem ak_288 : am_K 288 1 := ⟨aw_8_94, aw_1_12, ⟨by decide +kernel, by decide +kernel⟩, by decide +kernel, by decide +kernel⟩
theorem ak_289 : am_K 289 0 := ⟨aw_8_75, aw_1_12, ⟨by decide +kernel, by decide +kernel⟩, by decide +kernel, by decide +kernel⟩
theorem ak_290 : am_K 290 1 := ⟨aw_8_110, aw_1_12, ⟨by decide +kernel, by decide +kernel⟩, by decide +kernel, by decide +kernel⟩
theorem ak_291 : am_K 291 0 := ⟨aw_8_114, aw_1_12, ⟨by decide +kernel, by decide +kernel⟩, by decide +kernel, by decide +kernel⟩
theorem ak_292 : am_K 292 1 := ⟨aw_8_123, aw_1_12, ⟨by decide +kernel, by decide +kernel⟩, by decide +kernel, by decide +kernel⟩
theorem ak_293 : am_K 293 2 := ⟨aw_8_118, aw_1_12, ⟨by decide +kernel, by decide +kernel⟩, by decide +kernel, by decide +kernel⟩
theorem ak_294 : am_K 294 2 := ⟨aw_8_130, aw_1_12, ⟨by decide +kernel, by decide +kernel⟩, by decide +kernel, by decide +kernel⟩
theorem ak_295 : am_K 295 1 := ⟨aw_8_134, aw_1_12, ⟨by decide +kernel, by decide +kernel⟩, by decide +kernel, by decide +kernel⟩
theorem ak_296 : am_K 296 0 := ⟨aw_8_140, aw_1_12, ⟨by decide +kernel, by decide +kernel⟩, by decide +kernel, by decide +kernel⟩
theorem ak_297 : am_K 297 1 := ⟨aw_3_215, aw_1_18, ⟨by decide +kernel, by decide +kernel⟩, by decide +kernel, by decide +kernel⟩
theorem ak_298 : am_K 298 1 := ⟨aw_5_38, aw_1_7, ⟨by decide +kernel, by decide +kernel⟩, by decide +kernel, by decide +kernel⟩
theorem ak_299 : am_K 299 2 := ⟨aw_1_128, aw_1_7, ⟨by decide +kernel, by decide +kernel⟩, by decide +kernel, by decide +kernel⟩
theorem ak_300 : am_K 300 2 := ⟨aw_2_103, aw_1_7, ⟨by decide +kernel, by decide +kernel⟩, by decide +kernel, by decide +kernel⟩
theorem ak_301 : am_K 301 0 := ⟨aw_3_32, aw_1_13, ⟨by decide +kernel, by decide +kernel⟩, by decide +kernel, by decide +kernel⟩
theorem ak_302 : am_K 302 1 := ⟨aw_3_42, aw_1_13, ⟨by decide +kernel, by decide +kernel⟩, by decide +kernel, by decide +kernel⟩
theorem ak_303 : am_K 303 0 := ⟨aw_3_36, aw_1_13, ⟨by decide +kernel, by decide +kernel⟩, by decide +kernel, by decide +kernel⟩
theorem ak_304 : am_K 304 0 := ⟨aw_3_46, aw_1_13, ⟨by decide +kernel, by decide +kernel⟩, by decide +kernel, by decide +kernel⟩
theorem ak_305 : am_K 305 2 := ⟨aw_3_52, aw_1_13, ⟨by decide +kernel, by decide +kernel⟩, by decide +kernel, by decide +kernel⟩
theorem ak_306 : am_K 306 2 := ⟨aw_3_49, aw_1_14, ⟨by decide +kernel, by decide +kernel⟩, by decide +kernel, by decide +kernel⟩
theorem ak_311 : am_K 311 3 := ⟨aw_3_57, aw_1_15, ⟨by decide +kernel, by decide +kernel⟩, by decide +kernel, by decide +kernel⟩
