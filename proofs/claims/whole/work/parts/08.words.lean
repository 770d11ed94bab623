theorem cb_bipush_6 : (Int8.ofInt 6).toInt32 = (6 : Int32) := by decide
theorem cb_bipush_7 : (Int8.ofInt 7).toInt32 = (7 : Int32) := by decide
theorem cb_bipush_8 : (Int8.ofInt 8).toInt32 = (8 : Int32) := by decide
theorem cb_bipush_9 : (Int8.ofInt 9).toInt32 = (9 : Int32) := by decide
theorem cb_bipush_10 : (Int8.ofInt 10).toInt32 = (10 : Int32) := by decide
theorem cb_bipush_14 : (Int8.ofInt 14).toInt32 = (14 : Int32) := by decide
theorem cb_bipush_15 : (Int8.ofInt 15).toInt32 = (15 : Int32) := by decide
theorem cb_bipush_32 : (Int8.ofInt 32).toInt32 = (32 : Int32) := by decide
theorem cb_bipush_33 : (Int8.ofInt 33).toInt32 = (33 : Int32) := by decide
theorem cb_bipush_43 : (Int8.ofInt 43).toInt32 = (43 : Int32) := by decide
theorem cb_bipush_45 : (Int8.ofInt 45).toInt32 = (45 : Int32) := by decide
theorem cb_bipush_48 : (Int8.ofInt 48).toInt32 = (48 : Int32) := by decide
theorem cb_bipush_49 : (Int8.ofInt 49).toInt32 = (49 : Int32) := by decide
theorem cb_bipush_51 : (Int8.ofInt 51).toInt32 = (51 : Int32) := by decide
theorem cb_bipush_55 : (Int8.ofInt 55).toInt32 = (55 : Int32) := by decide
theorem cb_bipush_57 : (Int8.ofInt 57).toInt32 = (57 : Int32) := by decide
theorem cb_bipush_59 : (Int8.ofInt 59).toInt32 = (59 : Int32) := by decide
theorem cb_bipush_60 : (Int8.ofInt 60).toInt32 = (60 : Int32) := by decide
theorem cb_bipush_64 : (Int8.ofInt 64).toInt32 = (64 : Int32) := by decide
theorem cb_bipush_98 : (Int8.ofInt 98).toInt32 = (98 : Int32) := by decide
theorem cb_bipush_99 : (Int8.ofInt 99).toInt32 = (99 : Int32) := by decide
theorem cb_bipush_100 : (Int8.ofInt 100).toInt32 = (100 : Int32) := by decide
theorem cb_bipush_108 : (Int8.ofInt 108).toInt32 = (108 : Int32) := by decide
theorem cb_bipush_109 : (Int8.ofInt 109).toInt32 = (109 : Int32) := by decide
theorem cb_bipush_112 : (Int8.ofInt 112).toInt32 = (112 : Int32) := by decide
theorem cb_bipush_114 : (Int8.ofInt 114).toInt32 = (114 : Int32) := by decide
theorem cb_bipush_115 : (Int8.ofInt 115).toInt32 = (115 : Int32) := by decide
theorem cb_bipush_117 : (Int8.ofInt 117).toInt32 = (117 : Int32) := by decide
theorem cb_bipush_120 : (Int8.ofInt 120).toInt32 = (120 : Int32) := by decide
theorem cb_bipush_126 : (Int8.ofInt 126).toInt32 = (126 : Int32) := by decide
theorem cb_iconst_m1 : Int32.ofInt (-1) = ((-1) : Int32) := by decide
theorem cb_iconst_0 : Int32.ofInt 0 = (0 : Int32) := by decide
theorem cb_iconst_1 : Int32.ofInt 1 = (1 : Int32) := by decide
theorem cb_iconst_2 : Int32.ofInt 2 = (2 : Int32) := by decide
theorem cb_iconst_3 : Int32.ofInt 3 = (3 : Int32) := by decide
theorem cb_iconst_4 : Int32.ofInt 4 = (4 : Int32) := by decide
theorem cb_sipush_128 : (Int16.ofInt 128).toInt32 = (128 : Int32) := by decide
theorem cb_sipush_196 : (Int16.ofInt 196).toInt32 = (196 : Int32) := by decide
theorem cb_sipush_232 : (Int16.ofInt 232).toInt32 = (232 : Int32) := by decide
theorem cb_sipush_255 : (Int16.ofInt 255).toInt32 = (255 : Int32) := by decide
theorem cb_sipush_300 : (Int16.ofInt 300).toInt32 = (300 : Int32) := by decide
theorem cb_sipush_344 : (Int16.ofInt 344).toInt32 = (344 : Int32) := by decide
theorem cb_sipush_602 : (Int16.ofInt 602).toInt32 = (602 : Int32) := by decide
theorem cin_0 : ∀ w ∈ u_ws RX0 TX0 3, w ∈ cv_gw := cv_mU _ [83, 85, 87] (by decide +kernel) (by decide +kernel)
theorem cin_1 : ∀ w ∈ u_ws RX1 TX1 4, w ∈ cv_gw := cv_mU _ [153, 155, 157, 159] (by decide +kernel) (by decide +kernel)
theorem cin_2 : ∀ w ∈ u_ws RX2 TX2 3, w ∈ cv_gw := cv_mU _ [100, 102, 104] (by decide +kernel) (by decide +kernel)
theorem cin_3 : ∀ w ∈ u_ws RX3 TX3 7, w ∈ cv_gw := cv_mU _ [177, 179, 181, 183, 185, 187, 189] (by decide +kernel) (by decide +kernel)
theorem cin_4 : ∀ w ∈ u_ws RX4 TX4 12, w ∈ cv_gw := cv_mU _ [253, 255, 257, 259, 261, 263, 265, 267, 269, 271, 273, 275] (by decide +kernel) (by decide +kernel)
theorem cin_5 : ∀ w ∈ u_ws RX5 TX5 9, w ∈ cv_gw := cv_mU _ [213, 215, 217, 219, 221, 223, 225, 227, 229] (by decide +kernel) (by decide +kernel)
theorem cin_6 : ∀ w ∈ u_ws RX6 TX6 6, w ∈ cv_gw := cv_mU _ [52, 54, 56, 58, 60, 62] (by decide +kernel) (by decide +kernel)
theorem cin_7 : ∀ w ∈ u_ws RX7 TX7 8, w ∈ cv_gw := cv_mU _ [123, 125, 127, 129, 131, 133, 135, 137] (by decide +kernel) (by decide +kernel)
theorem cin_8 : ∀ w ∈ u_ws RX8 TX8 12, w ∈ cv_gw := cv_mU _ [290, 292, 294, 296, 298, 300, 302, 304, 306, 308, 310, 312] (by decide +kernel) (by decide +kernel)
theorem cin_9 : ∀ w ∈ u_ws RX9 TX9 38, w ∈ cv_gw := cv_mU _ [1117, 1119, 1121, 1123, 1125, 1127, 1129, 1131, 1133, 1135, 1137, 1139, 1141, 1143, 1145, 1147, 1149, 1151, 1153, 1155, 1157, 1159, 1161, 1163, 1165, 1167, 1169, 1171, 1173, 1175, 1177, 1179, 1181, 1183, 1185, 1187, 1189, 1191] (by decide +kernel) (by decide +kernel)
theorem ob_0 (G : cv_G) : cv_ob G 0 RX8 := ⟨TX8, 12, 8, cv_f0 G, rfl, fun _ => rfl⟩
theorem ob_1 (G : cv_G) : cv_ob G 1 RX6 := ⟨TX6, 6, 6, cv_f1 G, rfl, fun _ => rfl⟩
theorem ob_2 (G : cv_G) : cv_ob G 2 RX0 := ⟨TX0, 3, 0, cv_f2 G, rfl, fun _ => rfl⟩
theorem ob_3 (G : cv_G) : cv_ob G 3 RX0 := ⟨TX0, 3, 0, cv_f3 G, rfl, fun _ => rfl⟩
theorem ob_4 (G : cv_G) : cv_ob G 4 RX2 := ⟨TX2, 3, 2, cv_f4 G, rfl, fun _ => rfl⟩
theorem ob_5 (G : cv_G) : cv_ob G 5 RX7 := ⟨TX7, 8, 7, cv_f5 G, rfl, fun _ => rfl⟩
theorem ob_6 (G : cv_G) : cv_ob G 6 RX1 := ⟨TX1, 4, 1, cv_f6 G, rfl, fun _ => rfl⟩
theorem ob_7 (G : cv_G) : cv_ob G 7 RX3 := ⟨TX3, 7, 3, cv_f7 G, rfl, fun _ => rfl⟩
theorem ob_8 (G : cv_G) : cv_ob G 8 RX5 := ⟨TX5, 9, 5, cv_f8 G, rfl, fun _ => rfl⟩
theorem ob_9 (G : cv_G) : cv_ob G 9 RX4 := ⟨TX4, 12, 4, cv_f9 G, rfl, fun _ => rfl⟩
theorem ob_10 (G : cv_G) : cv_ob G 10 RX9 := ⟨TX9, 38, 9, cv_f10 G, rfl, fun _ => rfl⟩
theorem lf_X0_9 : Cond.fieldLink RX0 9 (TX0 0).1 (TX0 0).2.1 (TX0 0).2.2.1 ∈ cv_gw := (cv_mT 73 (by decide +kernel) rfl)
theorem fg_X0_9_2 (G : cv_G) : cv_GR G RX0 9 2 14 := ⟨RX0, TX0, 3, 0, 0, cv_f2 G, rfl, cin_0, by decide, lf_X0_9, fun _ => rfl, fun _ => rfl⟩
theorem fg_X0_9_3 (G : cv_G) : cv_GR G RX0 9 3 17 := ⟨RX0, TX0, 3, 0, 0, cv_f3 G, rfl, cin_0, by decide, lf_X0_9, fun _ => rfl, fun _ => rfl⟩
theorem lf_X0_15 : Cond.fieldLink RX0 15 (TX0 1).1 (TX0 1).2.1 (TX0 1).2.2.1 ∈ cv_gw := (cv_mT 81 (by decide +kernel) rfl)
theorem fg_X0_15_2 (G : cv_G) : cv_GR G RX0 15 2 15 := ⟨RX0, TX0, 3, 0, 1, cv_f2 G, rfl, cin_0, by decide, lf_X0_15, fun _ => rfl, fun _ => rfl⟩
theorem fg_X0_15_3 (G : cv_G) : cv_GR G RX0 15 3 18 := ⟨RX0, TX0, 3, 0, 1, cv_f3 G, rfl, cin_0, by decide, lf_X0_15, fun _ => rfl, fun _ => rfl⟩
theorem lf_X0_19 : Cond.fieldLink RX0 19 (TX0 2).1 (TX0 2).2.1 (TX0 2).2.2.1 ∈ cv_gw := (cv_mT 82 (by decide +kernel) rfl)
theorem fg_X0_19_2 (G : cv_G) : cv_GR G RX0 19 2 16 := ⟨RX0, TX0, 3, 0, 2, cv_f2 G, rfl, cin_0, by decide, lf_X0_19, fun _ => rfl, fun _ => rfl⟩
theorem fg_X0_19_3 (G : cv_G) : cv_GR G RX0 19 3 19 := ⟨RX0, TX0, 3, 0, 2, cv_f3 G, rfl, cin_0, by decide, lf_X0_19, fun _ => rfl, fun _ => rfl⟩
theorem lf_X0_34 : Cond.fieldLink RX0 34 (TX6 4).1 (TX6 4).2.1 (TX6 4).2.2.1 ∈ cv_gw := (cv_mT 49 (by decide +kernel) rfl)
theorem fg_X0_34_1 (G : cv_G) : cv_GI G RX0 34 1 4 := ⟨RX6, TX6, 6, 6, 4, cv_f1 G, rfl, cin_6, by decide, lf_X0_34, fun _ => rfl, fun _ => rfl⟩
theorem lf_X0_45 : Cond.fieldLink RX0 45 (TX6 1).1 (TX6 1).2.1 (TX6 1).2.2.1 ∈ cv_gw := (cv_mT 42 (by decide +kernel) rfl)
theorem fg_X0_45_1 (G : cv_G) : cv_GR G RX0 45 1 12 := ⟨RX6, TX6, 6, 6, 1, cv_f1 G, rfl, cin_6, by decide, lf_X0_45, fun _ => rfl, fun _ => rfl⟩
theorem lf_X0_46 : Cond.fieldLink RX0 46 (TX6 2).1 (TX6 2).2.1 (TX6 2).2.2.1 ∈ cv_gw := (cv_mT 44 (by decide +kernel) rfl)
theorem fg_X0_46_1 (G : cv_G) : cv_GR G RX0 46 1 13 := ⟨RX6, TX6, 6, 6, 2, cv_f1 G, rfl, cin_6, by decide, lf_X0_46, fun _ => rfl, fun _ => rfl⟩
theorem lf_X1_9 : Cond.fieldLink RX1 9 (TX1 2).1 (TX1 2).2.1 (TX1 2).2.2.1 ∈ cv_gw := (cv_mT 149 (by decide +kernel) rfl)
theorem fg_X1_9_6 (G : cv_G) : cv_GR G RX1 9 6 27 := ⟨RX1, TX1, 4, 1, 2, cv_f6 G, rfl, cin_1, by decide, lf_X1_9, fun _ => rfl, fun _ => rfl⟩
theorem lf_X1_15 : Cond.fieldLink RX1 15 (TX1 3).1 (TX1 3).2.1 (TX1 3).2.2.1 ∈ cv_gw := (cv_mT 152 (by decide +kernel) rfl)
theorem fg_X1_15_6 (G : cv_G) : cv_GR G RX1 15 6 28 := ⟨RX1, TX1, 4, 1, 3, cv_f6 G, rfl, cin_1, by decide, lf_X1_15, fun _ => rfl, fun _ => rfl⟩
theorem lf_X1_18 : Cond.fieldLink RX1 18 (TX1 0).1 (TX1 0).2.1 (TX1 0).2.2.1 ∈ cv_gw := (cv_mT 147 (by decide +kernel) rfl)
theorem fg_X1_18_6 (G : cv_G) : cv_GR G RX1 18 6 2 := ⟨RX1, TX1, 4, 1, 0, cv_f6 G, rfl, cin_1, by decide, lf_X1_18, fun _ => rfl, fun _ => rfl⟩
theorem lf_X1_22 : Cond.fieldLink RX1 22 (TX1 1).1 (TX1 1).2.1 (TX1 1).2.2.1 ∈ cv_gw := (cv_mT 148 (by decide +kernel) rfl)
theorem fg_X1_22_6 (G : cv_G) : cv_GR G RX1 22 6 4 := ⟨RX1, TX1, 4, 1, 1, cv_f6 G, rfl, cin_1, by decide, lf_X1_22, fun _ => rfl, fun _ => rfl⟩
theorem lf_X1_41 : Cond.fieldLink RX1 41 (TX0 0).1 (TX0 0).2.1 (TX0 0).2.2.1 ∈ cv_gw := (cv_mT 76 (by decide +kernel) rfl)
theorem fg_X1_41_2 (G : cv_G) : cv_GR G RX1 41 2 14 := ⟨RX0, TX0, 3, 0, 0, cv_f2 G, rfl, cin_0, by decide, lf_X1_41, fun _ => rfl, fun _ => rfl⟩
theorem lf_X2_9 : Cond.fieldLink RX2 9 (TX2 1).1 (TX2 1).2.1 (TX2 1).2.2.1 ∈ cv_gw := (cv_mT 97 (by decide +kernel) rfl)
theorem fg_X2_9_4 (G : cv_G) : cv_GR G RX2 9 4 20 := ⟨RX2, TX2, 3, 2, 1, cv_f4 G, rfl, cin_2, by decide, lf_X2_9, fun _ => rfl, fun _ => rfl⟩
theorem lf_X2_15 : Cond.fieldLink RX2 15 (TX2 2).1 (TX2 2).2.1 (TX2 2).2.2.1 ∈ cv_gw := (cv_mT 98 (by decide +kernel) rfl)
theorem fg_X2_15_4 (G : cv_G) : cv_GR G RX2 15 4 21 := ⟨RX2, TX2, 3, 2, 2, cv_f4 G, rfl, cin_2, by decide, lf_X2_15, fun _ => rfl, fun _ => rfl⟩
theorem lf_X2_18 : Cond.fieldLink RX2 18 (TX2 0).1 (TX2 0).2.1 (TX2 0).2.2.1 ∈ cv_gw := (cv_mT 96 (by decide +kernel) rfl)
theorem fg_X2_18_4 (G : cv_G) : cv_GR G RX2 18 4 2 := ⟨RX2, TX2, 3, 2, 0, cv_f4 G, rfl, cin_2, by decide, lf_X2_18, fun _ => rfl, fun _ => rfl⟩
theorem lf_X2_32 : Cond.fieldLink RX2 32 (TX0 0).1 (TX0 0).2.1 (TX0 0).2.2.1 ∈ cv_gw := (cv_mT 74 (by decide +kernel) rfl)
theorem fg_X2_32_2 (G : cv_G) : cv_GR G RX2 32 2 14 := ⟨RX0, TX0, 3, 0, 0, cv_f2 G, rfl, cin_0, by decide, lf_X2_32, fun _ => rfl, fun _ => rfl⟩
theorem lf_X3_9 : Cond.fieldLink RX3 9 (TX3 4).1 (TX3 4).2.1 (TX3 4).2.2.1 ∈ cv_gw := (cv_mT 172 (by decide +kernel) rfl)
theorem fg_X3_9_7 (G : cv_G) : cv_GR G RX3 9 7 29 := ⟨RX3, TX3, 7, 3, 4, cv_f7 G, rfl, cin_3, by decide, lf_X3_9, fun _ => rfl, fun _ => rfl⟩
theorem lf_X3_15 : Cond.fieldLink RX3 15 (TX3 5).1 (TX3 5).2.1 (TX3 5).2.2.1 ∈ cv_gw := (cv_mT 173 (by decide +kernel) rfl)
theorem fg_X3_15_7 (G : cv_G) : cv_GR G RX3 15 7 30 := ⟨RX3, TX3, 7, 3, 5, cv_f7 G, rfl, cin_3, by decide, lf_X3_15, fun _ => rfl, fun _ => rfl⟩
theorem lf_X3_18 : Cond.fieldLink RX3 18 (TX3 6).1 (TX3 6).2.1 (TX3 6).2.2.1 ∈ cv_gw := (cv_mT 175 (by decide +kernel) rfl)
theorem fg_X3_18_7 (G : cv_G) : cv_GR G RX3 18 7 31 := ⟨RX3, TX3, 7, 3, 6, cv_f7 G, rfl, cin_3, by decide, lf_X3_18, fun _ => rfl, fun _ => rfl⟩
theorem lf_X3_21 : Cond.fieldLink RX3 21 (TX3 0).1 (TX3 0).2.1 (TX3 0).2.2.1 ∈ cv_gw := (cv_mT 168 (by decide +kernel) rfl)
theorem fg_X3_21_7 (G : cv_G) : cv_GR G RX3 21 7 2 := ⟨RX3, TX3, 7, 3, 0, cv_f7 G, rfl, cin_3, by decide, lf_X3_21, fun _ => rfl, fun _ => rfl⟩
theorem lf_X3_25 : Cond.fieldLink RX3 25 (TX3 1).1 (TX3 1).2.1 (TX3 1).2.2.1 ∈ cv_gw := (cv_mT 169 (by decide +kernel) rfl)
theorem fg_X3_25_7 (G : cv_G) : cv_GR G RX3 25 7 4 := ⟨RX3, TX3, 7, 3, 1, cv_f7 G, rfl, cin_3, by decide, lf_X3_25, fun _ => rfl, fun _ => rfl⟩
theorem lf_X3_29 : Cond.fieldLink RX3 29 (TX3 2).1 (TX3 2).2.1 (TX3 2).2.2.1 ∈ cv_gw := (cv_mT 170 (by decide +kernel) rfl)
theorem fg_X3_29_7 (G : cv_G) : cv_GR G RX3 29 7 5 := ⟨RX3, TX3, 7, 3, 2, cv_f7 G, rfl, cin_3, by decide, lf_X3_29, fun _ => rfl, fun _ => rfl⟩
theorem lf_X3_33 : Cond.fieldLink RX3 33 (TX3 3).1 (TX3 3).2.1 (TX3 3).2.2.1 ∈ cv_gw := (cv_mT 171 (by decide +kernel) rfl)
theorem fg_X3_33_7 (G : cv_G) : cv_GR G RX3 33 7 6 := ⟨RX3, TX3, 7, 3, 3, cv_f7 G, rfl, cin_3, by decide, lf_X3_33, fun _ => rfl, fun _ => rfl⟩
theorem lf_X3_59 : Cond.fieldLink RX3 59 (TX0 0).1 (TX0 0).2.1 (TX0 0).2.2.1 ∈ cv_gw := (cv_mT 80 (by decide +kernel) rfl)
theorem fg_X3_59_2 (G : cv_G) : cv_GR G RX3 59 2 14 := ⟨RX0, TX0, 3, 0, 0, cv_f2 G, rfl, cin_0, by decide, lf_X3_59, fun _ => rfl, fun _ => rfl⟩
theorem lf_X3_95 : Cond.fieldLink RX3 95 (TX1 2).1 (TX1 2).2.1 (TX1 2).2.2.1 ∈ cv_gw := (cv_mT 150 (by decide +kernel) rfl)
theorem fg_X3_95_6 (G : cv_G) : cv_GR G RX3 95 6 27 := ⟨RX1, TX1, 4, 1, 2, cv_f6 G, rfl, cin_1, by decide, lf_X3_95, fun _ => rfl, fun _ => rfl⟩
theorem lf_X4_9 : Cond.fieldLink RX4 9 (TX4 1).1 (TX4 1).2.1 (TX4 1).2.2.1 ∈ cv_gw := (cv_mT 239 (by decide +kernel) rfl)
theorem fg_X4_9_9 (G : cv_G) : cv_GR G RX4 9 9 38 := ⟨RX4, TX4, 12, 4, 1, cv_f9 G, rfl, cin_4, by decide, lf_X4_9, fun _ => rfl, fun _ => rfl⟩
theorem lf_X4_15 : Cond.fieldLink RX4 15 (TX4 2).1 (TX4 2).2.1 (TX4 2).2.2.1 ∈ cv_gw := (cv_mT 241 (by decide +kernel) rfl)
theorem fg_X4_15_9 (G : cv_G) : cv_GR G RX4 15 9 39 := ⟨RX4, TX4, 12, 4, 2, cv_f9 G, rfl, cin_4, by decide, lf_X4_15, fun _ => rfl, fun _ => rfl⟩
theorem lf_X4_18 : Cond.fieldLink RX4 18 (TX4 3).1 (TX4 3).2.1 (TX4 3).2.2.1 ∈ cv_gw := (cv_mT 242 (by decide +kernel) rfl)
theorem fg_X4_18_9 (G : cv_G) : cv_GR G RX4 18 9 40 := ⟨RX4, TX4, 12, 4, 3, cv_f9 G, rfl, cin_4, by decide, lf_X4_18, fun _ => rfl, fun _ => rfl⟩
theorem lf_X4_21 : Cond.fieldLink RX4 21 (TX4 4).1 (TX4 4).2.1 (TX4 4).2.2.1 ∈ cv_gw := (cv_mT 243 (by decide +kernel) rfl)
theorem fg_X4_21_9 (G : cv_G) : cv_GR G RX4 21 9 41 := ⟨RX4, TX4, 12, 4, 4, cv_f9 G, rfl, cin_4, by decide, lf_X4_21, fun _ => rfl, fun _ => rfl⟩
theorem lf_X4_24 : Cond.fieldLink RX4 24 (TX4 5).1 (TX4 5).2.1 (TX4 5).2.2.1 ∈ cv_gw := (cv_mT 244 (by decide +kernel) rfl)
theorem fg_X4_24_9 (G : cv_G) : cv_GR G RX4 24 9 42 := ⟨RX4, TX4, 12, 4, 5, cv_f9 G, rfl, cin_4, by decide, lf_X4_24, fun _ => rfl, fun _ => rfl⟩
theorem lf_X4_27 : Cond.fieldLink RX4 27 (TX4 6).1 (TX4 6).2.1 (TX4 6).2.2.1 ∈ cv_gw := (cv_mT 245 (by decide +kernel) rfl)
theorem fg_X4_27_9 (G : cv_G) : cv_GI G RX4 27 9 8 := ⟨RX4, TX4, 12, 4, 6, cv_f9 G, rfl, cin_4, by decide, lf_X4_27, fun _ => rfl, fun _ => rfl⟩
theorem fp_X4_27_9 (G : cv_G) : cv_PI G RX4 27 9 8 .int := ⟨RX4, TX4, tyX4, 12, 4, 6, cv_f9 G, rfl, cin_4, by decide, lf_X4_27, fun _ => rfl, tyX4_ok, nmX4, rfl, by decide +kernel, fun _ => Nat.le_of_ble_eq_true rfl, fun _ _ => rfl⟩
theorem lf_X4_31 : Cond.fieldLink RX4 31 (TX4 7).1 (TX4 7).2.1 (TX4 7).2.2.1 ∈ cv_gw := (cv_mT 246 (by decide +kernel) rfl)
theorem fg_X4_31_9 (G : cv_G) : cv_GI G RX4 31 9 9 := ⟨RX4, TX4, 12, 4, 7, cv_f9 G, rfl, cin_4, by decide, lf_X4_31, fun _ => rfl, fun _ => rfl⟩
theorem fp_X4_31_9 (G : cv_G) : cv_PI G RX4 31 9 9 .int := ⟨RX4, TX4, tyX4, 12, 4, 7, cv_f9 G, rfl, cin_4, by decide, lf_X4_31, fun _ => rfl, tyX4_ok, nmX4, rfl, by decide +kernel, fun _ => Nat.le_of_ble_eq_true rfl, fun _ _ => rfl⟩
theorem lf_X4_34 : Cond.fieldLink RX4 34 (TX4 8).1 (TX4 8).2.1 (TX4 8).2.2.1 ∈ cv_gw := (cv_mT 248 (by decide +kernel) rfl)
theorem fg_X4_34_9 (G : cv_G) : cv_GI G RX4 34 9 10 := ⟨RX4, TX4, 12, 4, 8, cv_f9 G, rfl, cin_4, by decide, lf_X4_34, fun _ => rfl, fun _ => rfl⟩
theorem fp_X4_34_9 (G : cv_G) : cv_PI G RX4 34 9 10 .int := ⟨RX4, TX4, tyX4, 12, 4, 8, cv_f9 G, rfl, cin_4, by decide, lf_X4_34, fun _ => rfl, tyX4_ok, nmX4, rfl, by decide +kernel, fun _ => Nat.le_of_ble_eq_true rfl, fun _ _ => rfl⟩
theorem lf_X4_37 : Cond.fieldLink RX4 37 (TX4 9).1 (TX4 9).2.1 (TX4 9).2.2.1 ∈ cv_gw := (cv_mT 249 (by decide +kernel) rfl)
theorem fg_X4_37_9 (G : cv_G) : cv_GI G RX4 37 9 11 := ⟨RX4, TX4, 12, 4, 9, cv_f9 G, rfl, cin_4, by decide, lf_X4_37, fun _ => rfl, fun _ => rfl⟩
theorem fp_X4_37_9 (G : cv_G) : cv_PI G RX4 37 9 11 .int := ⟨RX4, TX4, tyX4, 12, 4, 9, cv_f9 G, rfl, cin_4, by decide, lf_X4_37, fun _ => rfl, tyX4_ok, nmX4, rfl, by decide +kernel, fun _ => Nat.le_of_ble_eq_true rfl, fun _ _ => rfl⟩
theorem lf_X4_40 : Cond.fieldLink RX4 40 (TX4 10).1 (TX4 10).2.1 (TX4 10).2.2.1 ∈ cv_gw := (cv_mT 250 (by decide +kernel) rfl)
theorem fg_X4_40_9 (G : cv_G) : cv_GI G RX4 40 9 12 := ⟨RX4, TX4, 12, 4, 10, cv_f9 G, rfl, cin_4, by decide, lf_X4_40, fun _ => rfl, fun _ => rfl⟩
theorem fp_X4_40_9 (G : cv_G) : cv_PI G RX4 40 9 12 .int := ⟨RX4, TX4, tyX4, 12, 4, 10, cv_f9 G, rfl, cin_4, by decide, lf_X4_40, fun _ => rfl, tyX4_ok, nmX4, rfl, by decide +kernel, fun _ => Nat.le_of_ble_eq_true rfl, fun _ _ => rfl⟩
theorem lf_X4_43 : Cond.fieldLink RX4 43 (TX4 11).1 (TX4 11).2.1 (TX4 11).2.2.1 ∈ cv_gw := (cv_mT 251 (by decide +kernel) rfl)
theorem fg_X4_43_9 (G : cv_G) : cv_GI G RX4 43 9 13 := ⟨RX4, TX4, 12, 4, 11, cv_f9 G, rfl, cin_4, by decide, lf_X4_43, fun _ => rfl, fun _ => rfl⟩
theorem fp_X4_43_9 (G : cv_G) : cv_PI G RX4 43 9 13 .boolean := ⟨RX4, TX4, tyX4, 12, 4, 11, cv_f9 G, rfl, cin_4, by decide, lf_X4_43, fun _ => rfl, tyX4_ok, nmX4, rfl, by decide +kernel, fun _ => Nat.le_of_ble_eq_true rfl, fun _ _ => rfl⟩
theorem lf_X4_47 : Cond.fieldLink RX4 47 (TX4 0).1 (TX4 0).2.1 (TX4 0).2.2.1 ∈ cv_gw := (cv_mT 238 (by decide +kernel) rfl)
theorem fg_X4_47_9 (G : cv_G) : cv_GR G RX4 47 9 2 := ⟨RX4, TX4, 12, 4, 0, cv_f9 G, rfl, cin_4, by decide, lf_X4_47, fun _ => rfl, fun _ => rfl⟩
theorem lf_X4_58 : Cond.fieldLink RX4 58 (TX0 0).1 (TX0 0).2.1 (TX0 0).2.2.1 ∈ cv_gw := (cv_mT 78 (by decide +kernel) rfl)
theorem fg_X4_58_2 (G : cv_G) : cv_GR G RX4 58 2 14 := ⟨RX0, TX0, 3, 0, 0, cv_f2 G, rfl, cin_0, by decide, lf_X4_58, fun _ => rfl, fun _ => rfl⟩
theorem lf_X5_9 : Cond.fieldLink RX5 9 (TX5 2).1 (TX5 2).2.1 (TX5 2).2.2.1 ∈ cv_gw := (cv_mT 200 (by decide +kernel) rfl)
theorem fg_X5_9_8 (G : cv_G) : cv_GR G RX5 9 8 32 := ⟨RX5, TX5, 9, 5, 2, cv_f8 G, rfl, cin_5, by decide, lf_X5_9, fun _ => rfl, fun _ => rfl⟩
theorem lf_X5_15 : Cond.fieldLink RX5 15 (TX5 3).1 (TX5 3).2.1 (TX5 3).2.2.1 ∈ cv_gw := (cv_mT 202 (by decide +kernel) rfl)
theorem fg_X5_15_8 (G : cv_G) : cv_GR G RX5 15 8 33 := ⟨RX5, TX5, 9, 5, 3, cv_f8 G, rfl, cin_5, by decide, lf_X5_15, fun _ => rfl, fun _ => rfl⟩
theorem lf_X5_18 : Cond.fieldLink RX5 18 (TX5 4).1 (TX5 4).2.1 (TX5 4).2.2.1 ∈ cv_gw := (cv_mT 204 (by decide +kernel) rfl)
theorem fg_X5_18_8 (G : cv_G) : cv_GR G RX5 18 8 34 := ⟨RX5, TX5, 9, 5, 4, cv_f8 G, rfl, cin_5, by decide, lf_X5_18, fun _ => rfl, fun _ => rfl⟩
theorem lf_X5_21 : Cond.fieldLink RX5 21 (TX5 5).1 (TX5 5).2.1 (TX5 5).2.2.1 ∈ cv_gw := (cv_mT 206 (by decide +kernel) rfl)
theorem fg_X5_21_8 (G : cv_G) : cv_GR G RX5 21 8 35 := ⟨RX5, TX5, 9, 5, 5, cv_f8 G, rfl, cin_5, by decide, lf_X5_21, fun _ => rfl, fun _ => rfl⟩
theorem lf_X5_24 : Cond.fieldLink RX5 24 (TX5 6).1 (TX5 6).2.1 (TX5 6).2.2.1 ∈ cv_gw := (cv_mT 208 (by decide +kernel) rfl)
theorem fg_X5_24_8 (G : cv_G) : cv_GR G RX5 24 8 36 := ⟨RX5, TX5, 9, 5, 6, cv_f8 G, rfl, cin_5, by decide, lf_X5_24, fun _ => rfl, fun _ => rfl⟩
theorem lf_X5_27 : Cond.fieldLink RX5 27 (TX5 7).1 (TX5 7).2.1 (TX5 7).2.2.1 ∈ cv_gw := (cv_mT 210 (by decide +kernel) rfl)
theorem fg_X5_27_8 (G : cv_G) : cv_GR G RX5 27 8 37 := ⟨RX5, TX5, 9, 5, 7, cv_f8 G, rfl, cin_5, by decide, lf_X5_27, fun _ => rfl, fun _ => rfl⟩
theorem lf_X5_30 : Cond.fieldLink RX5 30 (TX5 8).1 (TX5 8).2.1 (TX5 8).2.2.1 ∈ cv_gw := (cv_mT 211 (by decide +kernel) rfl)
theorem fg_X5_30_8 (G : cv_G) : cv_GI G RX5 30 8 7 := ⟨RX5, TX5, 9, 5, 8, cv_f8 G, rfl, cin_5, by decide, lf_X5_30, fun _ => rfl, fun _ => rfl⟩
theorem fp_X5_30_8 (G : cv_G) : cv_PI G RX5 30 8 7 .int := ⟨RX5, TX5, tyX5, 9, 5, 8, cv_f8 G, rfl, cin_5, by decide, lf_X5_30, fun _ => rfl, tyX5_ok, nmX5, rfl, by decide +kernel, fun _ => Nat.le_of_ble_eq_true rfl, fun _ _ => rfl⟩
theorem lf_X5_34 : Cond.fieldLink RX5 34 (TX5 0).1 (TX5 0).2.1 (TX5 0).2.2.1 ∈ cv_gw := (cv_mT 198 (by decide +kernel) rfl)
theorem fg_X5_34_8 (G : cv_G) : cv_GR G RX5 34 8 2 := ⟨RX5, TX5, 9, 5, 0, cv_f8 G, rfl, cin_5, by decide, lf_X5_34, fun _ => rfl, fun _ => rfl⟩
theorem lf_X5_38 : Cond.fieldLink RX5 38 (TX5 1).1 (TX5 1).2.1 (TX5 1).2.2.1 ∈ cv_gw := (cv_mT 199 (by decide +kernel) rfl)
theorem fg_X5_38_8 (G : cv_G) : cv_GR G RX5 38 8 4 := ⟨RX5, TX5, 9, 5, 1, cv_f8 G, rfl, cin_5, by decide, lf_X5_38, fun _ => rfl, fun _ => rfl⟩
theorem lf_X5_58 : Cond.fieldLink RX5 58 (TX0 0).1 (TX0 0).2.1 (TX0 0).2.2.1 ∈ cv_gw := (cv_mT 75 (by decide +kernel) rfl)
theorem fg_X5_58_2 (G : cv_G) : cv_GR G RX5 58 2 14 := ⟨RX0, TX0, 3, 0, 0, cv_f2 G, rfl, cin_0, by decide, lf_X5_58, fun _ => rfl, fun _ => rfl⟩
theorem lf_X6_9 : Cond.fieldLink RX6 9 (TX6 0).1 (TX6 0).2.1 (TX6 0).2.2.1 ∈ cv_gw := (cv_mT 39 (by decide +kernel) rfl)
theorem fg_X6_9_1 (G : cv_G) : cv_GR G RX6 9 1 11 := ⟨RX6, TX6, 6, 6, 0, cv_f1 G, rfl, cin_6, by decide, lf_X6_9, fun _ => rfl, fun _ => rfl⟩
theorem lf_X6_15 : Cond.fieldLink RX6 15 (TX6 1).1 (TX6 1).2.1 (TX6 1).2.2.1 ∈ cv_gw := (cv_mT 41 (by decide +kernel) rfl)
theorem fg_X6_15_1 (G : cv_G) : cv_GR G RX6 15 1 12 := ⟨RX6, TX6, 6, 6, 1, cv_f1 G, rfl, cin_6, by decide, lf_X6_15, fun _ => rfl, fun _ => rfl⟩
theorem lf_X6_18 : Cond.fieldLink RX6 18 (TX6 2).1 (TX6 2).2.1 (TX6 2).2.2.1 ∈ cv_gw := (cv_mT 43 (by decide +kernel) rfl)
theorem fg_X6_18_1 (G : cv_G) : cv_GR G RX6 18 1 13 := ⟨RX6, TX6, 6, 6, 2, cv_f1 G, rfl, cin_6, by decide, lf_X6_18, fun _ => rfl, fun _ => rfl⟩
theorem lf_X6_22 : Cond.fieldLink RX6 22 (TX6 3).1 (TX6 3).2.1 (TX6 3).2.2.1 ∈ cv_gw := (cv_mT 45 (by decide +kernel) rfl)
theorem fg_X6_22_1 (G : cv_G) : cv_GI G RX6 22 1 3 := ⟨RX6, TX6, 6, 6, 3, cv_f1 G, rfl, cin_6, by decide, lf_X6_22, fun _ => rfl, fun _ => rfl⟩
theorem fp_X6_22_1 (G : cv_G) : cv_PI G RX6 22 1 3 .int := ⟨RX6, TX6, tyX6, 6, 6, 3, cv_f1 G, rfl, cin_6, by decide, lf_X6_22, fun _ => rfl, tyX6_ok, nmX6, rfl, by decide +kernel, fun _ => Nat.le_of_ble_eq_true rfl, fun _ _ => rfl⟩
theorem lf_X6_26 : Cond.fieldLink RX6 26 (TX6 4).1 (TX6 4).2.1 (TX6 4).2.2.1 ∈ cv_gw := (cv_mT 47 (by decide +kernel) rfl)
theorem fg_X6_26_1 (G : cv_G) : cv_GI G RX6 26 1 4 := ⟨RX6, TX6, 6, 6, 4, cv_f1 G, rfl, cin_6, by decide, lf_X6_26, fun _ => rfl, fun _ => rfl⟩
theorem fp_X6_26_1 (G : cv_G) : cv_PI G RX6 26 1 4 .int := ⟨RX6, TX6, tyX6, 6, 6, 4, cv_f1 G, rfl, cin_6, by decide, lf_X6_26, fun _ => rfl, tyX6_ok, nmX6, rfl, by decide +kernel, fun _ => Nat.le_of_ble_eq_true rfl, fun _ _ => rfl⟩
theorem lf_X6_29 : Cond.fieldLink RX6 29 (TX6 5).1 (TX6 5).2.1 (TX6 5).2.2.1 ∈ cv_gw := (cv_mT 50 (by decide +kernel) rfl)
theorem fp_X6_29_1 (G : cv_G) : cv_PI G RX6 29 1 5 .int := ⟨RX6, TX6, tyX6, 6, 6, 5, cv_f1 G, rfl, cin_6, by decide, lf_X6_29, fun _ => rfl, tyX6_ok, nmX6, rfl, by decide +kernel, fun _ => Nat.le_of_ble_eq_true rfl, fun _ _ => rfl⟩
theorem lf_X7_9 : Cond.fieldLink RX7 9 (TX7 2).1 (TX7 2).2.1 (TX7 2).2.2.1 ∈ cv_gw := (cv_mT 115 (by decide +kernel) rfl)
theorem fg_X7_9_5 (G : cv_G) : cv_GR G RX7 9 5 22 := ⟨RX7, TX7, 8, 7, 2, cv_f5 G, rfl, cin_7, by decide, lf_X7_9, fun _ => rfl, fun _ => rfl⟩
theorem lf_X7_15 : Cond.fieldLink RX7 15 (TX7 3).1 (TX7 3).2.1 (TX7 3).2.2.1 ∈ cv_gw := (cv_mT 117 (by decide +kernel) rfl)
theorem fg_X7_15_5 (G : cv_G) : cv_GR G RX7 15 5 23 := ⟨RX7, TX7, 8, 7, 3, cv_f5 G, rfl, cin_7, by decide, lf_X7_15, fun _ => rfl, fun _ => rfl⟩
theorem lf_X7_19 : Cond.fieldLink RX7 19 (TX7 4).1 (TX7 4).2.1 (TX7 4).2.2.1 ∈ cv_gw := (cv_mT 119 (by decide +kernel) rfl)
theorem fg_X7_19_5 (G : cv_G) : cv_GR G RX7 19 5 24 := ⟨RX7, TX7, 8, 7, 4, cv_f5 G, rfl, cin_7, by decide, lf_X7_19, fun _ => rfl, fun _ => rfl⟩
theorem lf_X7_22 : Cond.fieldLink RX7 22 (TX7 5).1 (TX7 5).2.1 (TX7 5).2.2.1 ∈ cv_gw := (cv_mT 120 (by decide +kernel) rfl)
theorem fg_X7_22_5 (G : cv_G) : cv_GR G RX7 22 5 25 := ⟨RX7, TX7, 8, 7, 5, cv_f5 G, rfl, cin_7, by decide, lf_X7_22, fun _ => rfl, fun _ => rfl⟩
theorem lf_X7_25 : Cond.fieldLink RX7 25 (TX7 6).1 (TX7 6).2.1 (TX7 6).2.2.1 ∈ cv_gw := (cv_mT 121 (by decide +kernel) rfl)
theorem fg_X7_25_5 (G : cv_G) : cv_GR G RX7 25 5 26 := ⟨RX7, TX7, 8, 7, 6, cv_f5 G, rfl, cin_7, by decide, lf_X7_25, fun _ => rfl, fun _ => rfl⟩
theorem lf_X7_28 : Cond.fieldLink RX7 28 (TX7 7).1 (TX7 7).2.1 (TX7 7).2.2.1 ∈ cv_gw := (cv_mT 122 (by decide +kernel) rfl)
theorem fg_X7_28_5 (G : cv_G) : cv_GI G RX7 28 5 6 := ⟨RX7, TX7, 8, 7, 7, cv_f5 G, rfl, cin_7, by decide, lf_X7_28, fun _ => rfl, fun _ => rfl⟩
theorem fp_X7_28_5 (G : cv_G) : cv_PI G RX7 28 5 6 .int := ⟨RX7, TX7, tyX7, 8, 7, 7, cv_f5 G, rfl, cin_7, by decide, lf_X7_28, fun _ => rfl, tyX7_ok, nmX7, rfl, by decide +kernel, fun _ => Nat.le_of_ble_eq_true rfl, fun _ _ => rfl⟩
theorem lf_X7_32 : Cond.fieldLink RX7 32 (TX7 0).1 (TX7 0).2.1 (TX7 0).2.2.1 ∈ cv_gw := (cv_mT 113 (by decide +kernel) rfl)
theorem fg_X7_32_5 (G : cv_G) : cv_GR G RX7 32 5 2 := ⟨RX7, TX7, 8, 7, 0, cv_f5 G, rfl, cin_7, by decide, lf_X7_32, fun _ => rfl, fun _ => rfl⟩
theorem lf_X7_36 : Cond.fieldLink RX7 36 (TX7 1).1 (TX7 1).2.1 (TX7 1).2.2.1 ∈ cv_gw := (cv_mT 114 (by decide +kernel) rfl)
theorem fg_X7_36_5 (G : cv_G) : cv_GR G RX7 36 5 4 := ⟨RX7, TX7, 8, 7, 1, cv_f5 G, rfl, cin_7, by decide, lf_X7_36, fun _ => rfl, fun _ => rfl⟩
theorem lf_X7_53 : Cond.fieldLink RX7 53 (TX0 0).1 (TX0 0).2.1 (TX0 0).2.2.1 ∈ cv_gw := (cv_mT 79 (by decide +kernel) rfl)
theorem fg_X7_53_2 (G : cv_G) : cv_GR G RX7 53 2 14 := ⟨RX0, TX0, 3, 0, 0, cv_f2 G, rfl, cin_0, by decide, lf_X7_53, fun _ => rfl, fun _ => rfl⟩
theorem lf_X8_12 : Cond.fieldLink RX8 12 (TX8 0).1 (TX8 0).2.1 (TX8 0).2.2.1 ∈ cv_gw := (cv_mT 278 (by decide +kernel) rfl)
theorem fg_X8_12_0 (G : cv_G) : cv_GR G RX8 12 0 1 := ⟨RX8, TX8, 12, 8, 0, cv_f0 G, rfl, cin_8, by decide, lf_X8_12, fun _ => rfl, fun _ => rfl⟩
theorem lf_X8_19 : Cond.fieldLink RX8 19 (TX8 1).1 (TX8 1).2.1 (TX8 1).2.2.1 ∈ cv_gw := (cv_mT 279 (by decide +kernel) rfl)
theorem fg_X8_19_0 (G : cv_G) : cv_GR G RX8 19 0 2 := ⟨RX8, TX8, 12, 8, 1, cv_f0 G, rfl, cin_8, by decide, lf_X8_19, fun _ => rfl, fun _ => rfl⟩
theorem lf_X8_23 : Cond.fieldLink RX8 23 (TX8 2).1 (TX8 2).2.1 (TX8 2).2.2.1 ∈ cv_gw := (cv_mT 280 (by decide +kernel) rfl)
theorem fg_X8_23_0 (G : cv_G) : cv_GR G RX8 23 0 3 := ⟨RX8, TX8, 12, 8, 2, cv_f0 G, rfl, cin_8, by decide, lf_X8_23, fun _ => rfl, fun _ => rfl⟩
theorem lf_X8_31 : Cond.fieldLink RX8 31 (TX8 3).1 (TX8 3).2.1 (TX8 3).2.2.1 ∈ cv_gw := (cv_mT 281 (by decide +kernel) rfl)
theorem fg_X8_31_0 (G : cv_G) : cv_GR G RX8 31 0 4 := ⟨RX8, TX8, 12, 8, 3, cv_f0 G, rfl, cin_8, by decide, lf_X8_31, fun _ => rfl, fun _ => rfl⟩
theorem lf_X8_40 : Cond.fieldLink RX8 40 (TX8 4).1 (TX8 4).2.1 (TX8 4).2.2.1 ∈ cv_gw := (cv_mT 282 (by decide +kernel) rfl)
theorem fg_X8_40_0 (G : cv_G) : cv_GR G RX8 40 0 5 := ⟨RX8, TX8, 12, 8, 4, cv_f0 G, rfl, cin_8, by decide, lf_X8_40, fun _ => rfl, fun _ => rfl⟩
theorem lf_X8_47 : Cond.fieldLink RX8 47 (TX8 5).1 (TX8 5).2.1 (TX8 5).2.2.1 ∈ cv_gw := (cv_mT 283 (by decide +kernel) rfl)
theorem fg_X8_47_0 (G : cv_G) : cv_GR G RX8 47 0 6 := ⟨RX8, TX8, 12, 8, 5, cv_f0 G, rfl, cin_8, by decide, lf_X8_47, fun _ => rfl, fun _ => rfl⟩
theorem lf_X8_56 : Cond.fieldLink RX8 56 (TX8 6).1 (TX8 6).2.1 (TX8 6).2.2.1 ∈ cv_gw := (cv_mT 284 (by decide +kernel) rfl)
theorem fg_X8_56_0 (G : cv_G) : cv_GR G RX8 56 0 7 := ⟨RX8, TX8, 12, 8, 6, cv_f0 G, rfl, cin_8, by decide, lf_X8_56, fun _ => rfl, fun _ => rfl⟩
theorem lf_X8_63 : Cond.fieldLink RX8 63 (TX8 7).1 (TX8 7).2.1 (TX8 7).2.2.1 ∈ cv_gw := (cv_mT 285 (by decide +kernel) rfl)
theorem fg_X8_63_0 (G : cv_G) : cv_GR G RX8 63 0 8 := ⟨RX8, TX8, 12, 8, 7, cv_f0 G, rfl, cin_8, by decide, lf_X8_63, fun _ => rfl, fun _ => rfl⟩
theorem lf_X8_70 : Cond.fieldLink RX8 70 (TX8 8).1 (TX8 8).2.1 (TX8 8).2.2.1 ∈ cv_gw := (cv_mT 286 (by decide +kernel) rfl)
theorem fg_X8_70_0 (G : cv_G) : cv_GR G RX8 70 0 9 := ⟨RX8, TX8, 12, 8, 8, cv_f0 G, rfl, cin_8, by decide, lf_X8_70, fun _ => rfl, fun _ => rfl⟩
theorem lf_X8_74 : Cond.fieldLink RX8 74 (TX8 9).1 (TX8 9).2.1 (TX8 9).2.2.1 ∈ cv_gw := (cv_mT 287 (by decide +kernel) rfl)
theorem fg_X8_74_0 (G : cv_G) : cv_GI G RX8 74 0 0 := ⟨RX8, TX8, 12, 8, 9, cv_f0 G, rfl, cin_8, by decide, lf_X8_74, fun _ => rfl, fun _ => rfl⟩
theorem fp_X8_74_0 (G : cv_G) : cv_PI G RX8 74 0 0 .boolean := ⟨RX8, TX8, tyX8, 12, 8, 9, cv_f0 G, rfl, cin_8, by decide, lf_X8_74, fun _ => rfl, tyX8_ok, nmX8, rfl, by decide +kernel, fun _ => Nat.le_of_ble_eq_true rfl, fun _ _ => rfl⟩
theorem lf_X8_78 : Cond.fieldLink RX8 78 (TX8 10).1 (TX8 10).2.1 (TX8 10).2.2.1 ∈ cv_gw := (cv_mT 288 (by decide +kernel) rfl)
theorem fg_X8_78_0 (G : cv_G) : cv_GI G RX8 78 0 1 := ⟨RX8, TX8, 12, 8, 10, cv_f0 G, rfl, cin_8, by decide, lf_X8_78, fun _ => rfl, fun _ => rfl⟩
theorem fp_X8_78_0 (G : cv_G) : cv_PI G RX8 78 0 1 .boolean := ⟨RX8, TX8, tyX8, 12, 8, 10, cv_f0 G, rfl, cin_8, by decide, lf_X8_78, fun _ => rfl, tyX8_ok, nmX8, rfl, by decide +kernel, fun _ => Nat.le_of_ble_eq_true rfl, fun _ _ => rfl⟩
theorem lf_X8_81 : Cond.fieldLink RX8 81 (TX8 11).1 (TX8 11).2.1 (TX8 11).2.2.1 ∈ cv_gw := (cv_mT 289 (by decide +kernel) rfl)
theorem fg_X8_81_0 (G : cv_G) : cv_GI G RX8 81 0 2 := ⟨RX8, TX8, 12, 8, 11, cv_f0 G, rfl, cin_8, by decide, lf_X8_81, fun _ => rfl, fun _ => rfl⟩
theorem fp_X8_81_0 (G : cv_G) : cv_PI G RX8 81 0 2 .boolean := ⟨RX8, TX8, tyX8, 12, 8, 11, cv_f0 G, rfl, cin_8, by decide, lf_X8_81, fun _ => rfl, tyX8_ok, nmX8, rfl, by decide +kernel, fun _ => Nat.le_of_ble_eq_true rfl, fun _ _ => rfl⟩
theorem lf_X8_91 : Cond.fieldLink RX8 91 (TX6 3).1 (TX6 3).2.1 (TX6 3).2.2.1 ∈ cv_gw := (cv_mT 46 (by decide +kernel) rfl)
theorem fg_X8_91_1 (G : cv_G) : cv_GI G RX8 91 1 3 := ⟨RX6, TX6, 6, 6, 3, cv_f1 G, rfl, cin_6, by decide, lf_X8_91, fun _ => rfl, fun _ => rfl⟩
theorem fp_X8_91_1 (G : cv_G) : cv_PI G RX8 91 1 3 .int := ⟨RX6, TX6, tyX6, 6, 6, 3, cv_f1 G, rfl, cin_6, by decide, lf_X8_91, fun _ => rfl, tyX6_ok, nmX6, rfl, by decide +kernel, fun _ => Nat.le_of_ble_eq_true rfl, fun _ _ => rfl⟩
theorem lf_X8_100 : Cond.fieldLink RX8 100 (TX6 0).1 (TX6 0).2.1 (TX6 0).2.2.1 ∈ cv_gw := (cv_mT 40 (by decide +kernel) rfl)
theorem fg_X8_100_1 (G : cv_G) : cv_GR G RX8 100 1 11 := ⟨RX6, TX6, 6, 6, 0, cv_f1 G, rfl, cin_6, by decide, lf_X8_100, fun _ => rfl, fun _ => rfl⟩
theorem lf_X8_111 : Cond.fieldLink RX8 111 (TX6 5).1 (TX6 5).2.1 (TX6 5).2.2.1 ∈ cv_gw := (cv_mT 51 (by decide +kernel) rfl)
theorem fg_X8_111_1 (G : cv_G) : cv_GI G RX8 111 1 5 := ⟨RX6, TX6, 6, 6, 5, cv_f1 G, rfl, cin_6, by decide, lf_X8_111, fun _ => rfl, fun _ => rfl⟩
theorem lf_X8_116 : Cond.fieldLink RX8 116 (TX6 4).1 (TX6 4).2.1 (TX6 4).2.2.1 ∈ cv_gw := (cv_mT 48 (by decide +kernel) rfl)
theorem fg_X8_116_1 (G : cv_G) : cv_GI G RX8 116 1 4 := ⟨RX6, TX6, 6, 6, 4, cv_f1 G, rfl, cin_6, by decide, lf_X8_116, fun _ => rfl, fun _ => rfl⟩
theorem lf_X8_128 : Cond.fieldLink RX8 128 (TX0 0).1 (TX0 0).2.1 (TX0 0).2.2.1 ∈ cv_gw := (cv_mT 77 (by decide +kernel) rfl)
theorem fg_X8_128_2 (G : cv_G) : cv_GR G RX8 128 2 14 := ⟨RX0, TX0, 3, 0, 0, cv_f2 G, rfl, cin_0, by decide, lf_X8_128, fun _ => rfl, fun _ => rfl⟩
theorem lf_X8_159 : Cond.fieldLink RX8 159 (TX7 2).1 (TX7 2).2.1 (TX7 2).2.2.1 ∈ cv_gw := (cv_mT 116 (by decide +kernel) rfl)
theorem fg_X8_159_5 (G : cv_G) : cv_GR G RX8 159 5 22 := ⟨RX7, TX7, 8, 7, 2, cv_f5 G, rfl, cin_7, by decide, lf_X8_159, fun _ => rfl, fun _ => rfl⟩
theorem lf_X8_163 : Cond.fieldLink RX8 163 (TX7 3).1 (TX7 3).2.1 (TX7 3).2.2.1 ∈ cv_gw := (cv_mT 118 (by decide +kernel) rfl)
theorem fg_X8_163_5 (G : cv_G) : cv_GR G RX8 163 5 23 := ⟨RX7, TX7, 8, 7, 3, cv_f5 G, rfl, cin_7, by decide, lf_X8_163, fun _ => rfl, fun _ => rfl⟩
theorem lf_X8_166 : Cond.fieldLink RX8 166 (TX1 2).1 (TX1 2).2.1 (TX1 2).2.2.1 ∈ cv_gw := (cv_mT 151 (by decide +kernel) rfl)
theorem fg_X8_166_6 (G : cv_G) : cv_GR G RX8 166 6 27 := ⟨RX1, TX1, 4, 1, 2, cv_f6 G, rfl, cin_1, by decide, lf_X8_166, fun _ => rfl, fun _ => rfl⟩
theorem lf_X8_169 : Cond.fieldLink RX8 169 (TX3 5).1 (TX3 5).2.1 (TX3 5).2.2.1 ∈ cv_gw := (cv_mT 174 (by decide +kernel) rfl)
theorem fg_X8_169_7 (G : cv_G) : cv_GR G RX8 169 7 30 := ⟨RX3, TX3, 7, 3, 5, cv_f7 G, rfl, cin_3, by decide, lf_X8_169, fun _ => rfl, fun _ => rfl⟩
theorem lf_X8_172 : Cond.fieldLink RX8 172 (TX3 6).1 (TX3 6).2.1 (TX3 6).2.2.1 ∈ cv_gw := (cv_mT 176 (by decide +kernel) rfl)
theorem fg_X8_172_7 (G : cv_G) : cv_GR G RX8 172 7 31 := ⟨RX3, TX3, 7, 3, 6, cv_f7 G, rfl, cin_3, by decide, lf_X8_172, fun _ => rfl, fun _ => rfl⟩
theorem lf_X8_180 : Cond.fieldLink RX8 180 (TX5 6).1 (TX5 6).2.1 (TX5 6).2.2.1 ∈ cv_gw := (cv_mT 209 (by decide +kernel) rfl)
theorem fg_X8_180_8 (G : cv_G) : cv_GR G RX8 180 8 36 := ⟨RX5, TX5, 9, 5, 6, cv_f8 G, rfl, cin_5, by decide, lf_X8_180, fun _ => rfl, fun _ => rfl⟩
theorem lf_X8_187 : Cond.fieldLink RX8 187 (TX2 2).1 (TX2 2).2.1 (TX2 2).2.2.1 ∈ cv_gw := (cv_mT 99 (by decide +kernel) rfl)
theorem fg_X8_187_4 (G : cv_G) : cv_GR G RX8 187 4 21 := ⟨RX2, TX2, 3, 2, 2, cv_f4 G, rfl, cin_2, by decide, lf_X8_187, fun _ => rfl, fun _ => rfl⟩
theorem lf_X8_200 : Cond.fieldLink RX8 200 (TX5 8).1 (TX5 8).2.1 (TX5 8).2.2.1 ∈ cv_gw := (cv_mT 212 (by decide +kernel) rfl)
theorem fg_X8_200_8 (G : cv_G) : cv_GI G RX8 200 8 7 := ⟨RX5, TX5, 9, 5, 8, cv_f8 G, rfl, cin_5, by decide, lf_X8_200, fun _ => rfl, fun _ => rfl⟩
theorem lf_X8_206 : Cond.fieldLink RX8 206 (TX5 2).1 (TX5 2).2.1 (TX5 2).2.2.1 ∈ cv_gw := (cv_mT 201 (by decide +kernel) rfl)
theorem fg_X8_206_8 (G : cv_G) : cv_GR G RX8 206 8 32 := ⟨RX5, TX5, 9, 5, 2, cv_f8 G, rfl, cin_5, by decide, lf_X8_206, fun _ => rfl, fun _ => rfl⟩
theorem lf_X8_208 : Cond.fieldLink RX8 208 (TX5 3).1 (TX5 3).2.1 (TX5 3).2.2.1 ∈ cv_gw := (cv_mT 203 (by decide +kernel) rfl)
theorem fg_X8_208_8 (G : cv_G) : cv_GR G RX8 208 8 33 := ⟨RX5, TX5, 9, 5, 3, cv_f8 G, rfl, cin_5, by decide, lf_X8_208, fun _ => rfl, fun _ => rfl⟩
theorem lf_X8_211 : Cond.fieldLink RX8 211 (TX5 4).1 (TX5 4).2.1 (TX5 4).2.2.1 ∈ cv_gw := (cv_mT 205 (by decide +kernel) rfl)
theorem fg_X8_211_8 (G : cv_G) : cv_GR G RX8 211 8 34 := ⟨RX5, TX5, 9, 5, 4, cv_f8 G, rfl, cin_5, by decide, lf_X8_211, fun _ => rfl, fun _ => rfl⟩
theorem lf_X8_214 : Cond.fieldLink RX8 214 (TX5 5).1 (TX5 5).2.1 (TX5 5).2.2.1 ∈ cv_gw := (cv_mT 207 (by decide +kernel) rfl)
theorem fg_X8_214_8 (G : cv_G) : cv_GR G RX8 214 8 35 := ⟨RX5, TX5, 9, 5, 5, cv_f8 G, rfl, cin_5, by decide, lf_X8_214, fun _ => rfl, fun _ => rfl⟩
theorem lf_X8_254 : Cond.fieldLink RX8 254 (TX4 7).1 (TX4 7).2.1 (TX4 7).2.2.1 ∈ cv_gw := (cv_mT 247 (by decide +kernel) rfl)
theorem fg_X8_254_9 (G : cv_G) : cv_GI G RX8 254 9 9 := ⟨RX4, TX4, 12, 4, 7, cv_f9 G, rfl, cin_4, by decide, lf_X8_254, fun _ => rfl, fun _ => rfl⟩
theorem lf_X8_260 : Cond.fieldLink RX8 260 (TX4 11).1 (TX4 11).2.1 (TX4 11).2.2.1 ∈ cv_gw := (cv_mT 252 (by decide +kernel) rfl)
theorem fg_X8_260_9 (G : cv_G) : cv_GI G RX8 260 9 13 := ⟨RX4, TX4, 12, 4, 11, cv_f9 G, rfl, cin_4, by decide, lf_X8_260, fun _ => rfl, fun _ => rfl⟩
theorem lf_X8_266 : Cond.fieldLink RX8 266 (TX4 1).1 (TX4 1).2.1 (TX4 1).2.2.1 ∈ cv_gw := (cv_mT 240 (by decide +kernel) rfl)
theorem fg_X8_266_9 (G : cv_G) : cv_GR G RX8 266 9 38 := ⟨RX4, TX4, 12, 4, 1, cv_f9 G, rfl, cin_4, by decide, lf_X8_266, fun _ => rfl, fun _ => rfl⟩
theorem lf_X9_9 : Cond.fieldLink RX9 9 (TX9 0).1 (TX9 0).2.1 (TX9 0).2.2.1 ∈ cv_gw := (cv_mT 1079 (by decide +kernel) rfl)
theorem fg_X9_9_10 (G : cv_G) : cv_GR G RX9 9 10 43 := ⟨RX9, TX9, 38, 9, 0, cv_f10 G, rfl, cin_9, by decide, lf_X9_9, fun _ => rfl, fun _ => rfl⟩
theorem lf_X9_13 : Cond.fieldLink RX9 13 (TX9 1).1 (TX9 1).2.1 (TX9 1).2.2.1 ∈ cv_gw := (cv_mT 1080 (by decide +kernel) rfl)
theorem fg_X9_13_10 (G : cv_G) : cv_GR G RX9 13 10 44 := ⟨RX9, TX9, 38, 9, 1, cv_f10 G, rfl, cin_9, by decide, lf_X9_13, fun _ => rfl, fun _ => rfl⟩
theorem lf_X9_16 : Cond.fieldLink RX9 16 (TX9 3).1 (TX9 3).2.1 (TX9 3).2.2.1 ∈ cv_gw := (cv_mT 1082 (by decide +kernel) rfl)
theorem fg_X9_16_10 (G : cv_G) : cv_GR G RX9 16 10 45 := ⟨RX9, TX9, 38, 9, 3, cv_f10 G, rfl, cin_9, by decide, lf_X9_16, fun _ => rfl, fun _ => rfl⟩
theorem lf_X9_19 : Cond.fieldLink RX9 19 (TX9 5).1 (TX9 5).2.1 (TX9 5).2.2.1 ∈ cv_gw := (cv_mT 1084 (by decide +kernel) rfl)
theorem fg_X9_19_10 (G : cv_G) : cv_GI G RX9 19 10 16 := ⟨RX9, TX9, 38, 9, 5, cv_f10 G, rfl, cin_9, by decide, lf_X9_19, fun _ => rfl, fun _ => rfl⟩
theorem fp_X9_19_10 (G : cv_G) : cv_PI G RX9 19 10 16 .int := ⟨RX9, TX9, tyX9, 38, 9, 5, cv_f10 G, rfl, cin_9, by decide, lf_X9_19, fun _ => rfl, tyX9_ok, nmX9, rfl, by decide +kernel, fun _ => Nat.le_of_ble_eq_true rfl, fun _ _ => rfl⟩
theorem lf_X9_23 : Cond.fieldLink RX9 23 (TX9 10).1 (TX9 10).2.1 (TX9 10).2.2.1 ∈ cv_gw := (cv_mT 1089 (by decide +kernel) rfl)
theorem fg_X9_23_10 (G : cv_G) : cv_GR G RX9 23 10 46 := ⟨RX9, TX9, 38, 9, 10, cv_f10 G, rfl, cin_9, by decide, lf_X9_23, fun _ => rfl, fun _ => rfl⟩
theorem lf_X9_26 : Cond.fieldLink RX9 26 (TX9 11).1 (TX9 11).2.1 (TX9 11).2.2.1 ∈ cv_gw := (cv_mT 1090 (by decide +kernel) rfl)
theorem fg_X9_26_10 (G : cv_G) : cv_GR G RX9 26 10 47 := ⟨RX9, TX9, 38, 9, 11, cv_f10 G, rfl, cin_9, by decide, lf_X9_26, fun _ => rfl, fun _ => rfl⟩
theorem lf_X9_29 : Cond.fieldLink RX9 29 (TX9 12).1 (TX9 12).2.1 (TX9 12).2.2.1 ∈ cv_gw := (cv_mT 1091 (by decide +kernel) rfl)
theorem fg_X9_29_10 (G : cv_G) : cv_GR G RX9 29 10 48 := ⟨RX9, TX9, 38, 9, 12, cv_f10 G, rfl, cin_9, by decide, lf_X9_29, fun _ => rfl, fun _ => rfl⟩
theorem lf_X9_32 : Cond.fieldLink RX9 32 (TX9 13).1 (TX9 13).2.1 (TX9 13).2.2.1 ∈ cv_gw := (cv_mT 1092 (by decide +kernel) rfl)
theorem fg_X9_32_10 (G : cv_G) : cv_GR G RX9 32 10 49 := ⟨RX9, TX9, 38, 9, 13, cv_f10 G, rfl, cin_9, by decide, lf_X9_32, fun _ => rfl, fun _ => rfl⟩
theorem lf_X9_36 : Cond.fieldLink RX9 36 (TX9 14).1 (TX9 14).2.1 (TX9 14).2.2.1 ∈ cv_gw := (cv_mT 1093 (by decide +kernel) rfl)
theorem fg_X9_36_10 (G : cv_G) : cv_GR G RX9 36 10 50 := ⟨RX9, TX9, 38, 9, 14, cv_f10 G, rfl, cin_9, by decide, lf_X9_36, fun _ => rfl, fun _ => rfl⟩
theorem lf_X9_39 : Cond.fieldLink RX9 39 (TX9 15).1 (TX9 15).2.1 (TX9 15).2.2.1 ∈ cv_gw := (cv_mT 1094 (by decide +kernel) rfl)
theorem fg_X9_39_10 (G : cv_G) : cv_GR G RX9 39 10 51 := ⟨RX9, TX9, 38, 9, 15, cv_f10 G, rfl, cin_9, by decide, lf_X9_39, fun _ => rfl, fun _ => rfl⟩
theorem lf_X9_42 : Cond.fieldLink RX9 42 (TX9 16).1 (TX9 16).2.1 (TX9 16).2.2.1 ∈ cv_gw := (cv_mT 1095 (by decide +kernel) rfl)
theorem fg_X9_42_10 (G : cv_G) : cv_GR G RX9 42 10 52 := ⟨RX9, TX9, 38, 9, 16, cv_f10 G, rfl, cin_9, by decide, lf_X9_42, fun _ => rfl, fun _ => rfl⟩
theorem lf_X9_45 : Cond.fieldLink RX9 45 (TX9 17).1 (TX9 17).2.1 (TX9 17).2.2.1 ∈ cv_gw := (cv_mT 1096 (by decide +kernel) rfl)
theorem fg_X9_45_10 (G : cv_G) : cv_GR G RX9 45 10 53 := ⟨RX9, TX9, 38, 9, 17, cv_f10 G, rfl, cin_9, by decide, lf_X9_45, fun _ => rfl, fun _ => rfl⟩
theorem lf_X9_48 : Cond.fieldLink RX9 48 (TX9 18).1 (TX9 18).2.1 (TX9 18).2.2.1 ∈ cv_gw := (cv_mT 1097 (by decide +kernel) rfl)
theorem fg_X9_48_10 (G : cv_G) : cv_GR G RX9 48 10 54 := ⟨RX9, TX9, 38, 9, 18, cv_f10 G, rfl, cin_9, by decide, lf_X9_48, fun _ => rfl, fun _ => rfl⟩
theorem lf_X9_51 : Cond.fieldLink RX9 51 (TX9 19).1 (TX9 19).2.1 (TX9 19).2.2.1 ∈ cv_gw := (cv_mT 1098 (by decide +kernel) rfl)
theorem fg_X9_51_10 (G : cv_G) : cv_GR G RX9 51 10 55 := ⟨RX9, TX9, 38, 9, 19, cv_f10 G, rfl, cin_9, by decide, lf_X9_51, fun _ => rfl, fun _ => rfl⟩
theorem lf_X9_54 : Cond.fieldLink RX9 54 (TX9 20).1 (TX9 20).2.1 (TX9 20).2.2.1 ∈ cv_gw := (cv_mT 1099 (by decide +kernel) rfl)
theorem fg_X9_54_10 (G : cv_G) : cv_GR G RX9 54 10 56 := ⟨RX9, TX9, 38, 9, 20, cv_f10 G, rfl, cin_9, by decide, lf_X9_54, fun _ => rfl, fun _ => rfl⟩
theorem lf_X9_57 : Cond.fieldLink RX9 57 (TX9 21).1 (TX9 21).2.1 (TX9 21).2.2.1 ∈ cv_gw := (cv_mT 1100 (by decide +kernel) rfl)
theorem fg_X9_57_10 (G : cv_G) : cv_GR G RX9 57 10 57 := ⟨RX9, TX9, 38, 9, 21, cv_f10 G, rfl, cin_9, by decide, lf_X9_57, fun _ => rfl, fun _ => rfl⟩
theorem lf_X9_60 : Cond.fieldLink RX9 60 (TX9 22).1 (TX9 22).2.1 (TX9 22).2.2.1 ∈ cv_gw := (cv_mT 1101 (by decide +kernel) rfl)
theorem fg_X9_60_10 (G : cv_G) : cv_GR G RX9 60 10 58 := ⟨RX9, TX9, 38, 9, 22, cv_f10 G, rfl, cin_9, by decide, lf_X9_60, fun _ => rfl, fun _ => rfl⟩
theorem lf_X9_63 : Cond.fieldLink RX9 63 (TX9 23).1 (TX9 23).2.1 (TX9 23).2.2.1 ∈ cv_gw := (cv_mT 1102 (by decide +kernel) rfl)
theorem fg_X9_63_10 (G : cv_G) : cv_GR G RX9 63 10 59 := ⟨RX9, TX9, 38, 9, 23, cv_f10 G, rfl, cin_9, by decide, lf_X9_63, fun _ => rfl, fun _ => rfl⟩
theorem lf_X9_66 : Cond.fieldLink RX9 66 (TX9 24).1 (TX9 24).2.1 (TX9 24).2.2.1 ∈ cv_gw := (cv_mT 1103 (by decide +kernel) rfl)
theorem fg_X9_66_10 (G : cv_G) : cv_GR G RX9 66 10 60 := ⟨RX9, TX9, 38, 9, 24, cv_f10 G, rfl, cin_9, by decide, lf_X9_66, fun _ => rfl, fun _ => rfl⟩
theorem lf_X9_69 : Cond.fieldLink RX9 69 (TX9 26).1 (TX9 26).2.1 (TX9 26).2.2.1 ∈ cv_gw := (cv_mT 1105 (by decide +kernel) rfl)
theorem fg_X9_69_10 (G : cv_G) : cv_GR G RX9 69 10 61 := ⟨RX9, TX9, 38, 9, 26, cv_f10 G, rfl, cin_9, by decide, lf_X9_69, fun _ => rfl, fun _ => rfl⟩
theorem lf_X9_72 : Cond.fieldLink RX9 72 (TX9 27).1 (TX9 27).2.1 (TX9 27).2.2.1 ∈ cv_gw := (cv_mT 1106 (by decide +kernel) rfl)
theorem fg_X9_72_10 (G : cv_G) : cv_GR G RX9 72 10 62 := ⟨RX9, TX9, 38, 9, 27, cv_f10 G, rfl, cin_9, by decide, lf_X9_72, fun _ => rfl, fun _ => rfl⟩
theorem lf_X9_75 : Cond.fieldLink RX9 75 (TX9 35).1 (TX9 35).2.1 (TX9 35).2.2.1 ∈ cv_gw := (cv_mT 1114 (by decide +kernel) rfl)
theorem fg_X9_75_10 (G : cv_G) : cv_GR G RX9 75 10 63 := ⟨RX9, TX9, 38, 9, 35, cv_f10 G, rfl, cin_9, by decide, lf_X9_75, fun _ => rfl, fun _ => rfl⟩
theorem lf_X9_78 : Cond.fieldLink RX9 78 (TX9 36).1 (TX9 36).2.1 (TX9 36).2.2.1 ∈ cv_gw := (cv_mT 1115 (by decide +kernel) rfl)
theorem fg_X9_78_10 (G : cv_G) : cv_GR G RX9 78 10 64 := ⟨RX9, TX9, 38, 9, 36, cv_f10 G, rfl, cin_9, by decide, lf_X9_78, fun _ => rfl, fun _ => rfl⟩
theorem lf_X9_81 : Cond.fieldLink RX9 81 (TX9 37).1 (TX9 37).2.1 (TX9 37).2.2.1 ∈ cv_gw := (cv_mT 1116 (by decide +kernel) rfl)
theorem fg_X9_81_10 (G : cv_G) : cv_GR G RX9 81 10 65 := ⟨RX9, TX9, 38, 9, 37, cv_f10 G, rfl, cin_9, by decide, lf_X9_81, fun _ => rfl, fun _ => rfl⟩
theorem lf_X9_84 : Cond.fieldLink RX9 84 (TX9 6).1 (TX9 6).2.1 (TX9 6).2.2.1 ∈ cv_gw := (cv_mT 1085 (by decide +kernel) rfl)
theorem fg_X9_84_10 (G : cv_G) : cv_GI G RX9 84 10 17 := ⟨RX9, TX9, 38, 9, 6, cv_f10 G, rfl, cin_9, by decide, lf_X9_84, fun _ => rfl, fun _ => rfl⟩
theorem fp_X9_84_10 (G : cv_G) : cv_PI G RX9 84 10 17 .int := ⟨RX9, TX9, tyX9, 38, 9, 6, cv_f10 G, rfl, cin_9, by decide, lf_X9_84, fun _ => rfl, tyX9_ok, nmX9, rfl, by decide +kernel, fun _ => Nat.le_of_ble_eq_true rfl, fun _ _ => rfl⟩
theorem lf_X9_97 : Cond.fieldLink RX9 97 (TX9 28).1 (TX9 28).2.1 (TX9 28).2.2.1 ∈ cv_gw := (cv_mT 1107 (by decide +kernel) rfl)
theorem fg_X9_97_10 (G : cv_G) : cv_GI G RX9 97 10 22 := ⟨RX9, TX9, 38, 9, 28, cv_f10 G, rfl, cin_9, by decide, lf_X9_97, fun _ => rfl, fun _ => rfl⟩
theorem fp_X9_97_10 (G : cv_G) : cv_PI G RX9 97 10 22 .boolean := ⟨RX9, TX9, tyX9, 38, 9, 28, cv_f10 G, rfl, cin_9, by decide, lf_X9_97, fun _ => rfl, tyX9_ok, nmX9, rfl, by decide +kernel, fun _ => Nat.le_of_ble_eq_true rfl, fun _ _ => rfl⟩
theorem lf_X9_101 : Cond.fieldLink RX9 101 (TX9 29).1 (TX9 29).2.1 (TX9 29).2.2.1 ∈ cv_gw := (cv_mT 1108 (by decide +kernel) rfl)
theorem fg_X9_101_10 (G : cv_G) : cv_GI G RX9 101 10 23 := ⟨RX9, TX9, 38, 9, 29, cv_f10 G, rfl, cin_9, by decide, lf_X9_101, fun _ => rfl, fun _ => rfl⟩
theorem fp_X9_101_10 (G : cv_G) : cv_PI G RX9 101 10 23 .boolean := ⟨RX9, TX9, tyX9, 38, 9, 29, cv_f10 G, rfl, cin_9, by decide, lf_X9_101, fun _ => rfl, tyX9_ok, nmX9, rfl, by decide +kernel, fun _ => Nat.le_of_ble_eq_true rfl, fun _ _ => rfl⟩
theorem lf_X9_108 : Cond.fieldLink RX9 108 (TX9 4).1 (TX9 4).2.1 (TX9 4).2.2.1 ∈ cv_gw := (cv_mT 1083 (by decide +kernel) rfl)
theorem fg_X9_108_10 (G : cv_G) : cv_GI G RX9 108 10 15 := ⟨RX9, TX9, 38, 9, 4, cv_f10 G, rfl, cin_9, by decide, lf_X9_108, fun _ => rfl, fun _ => rfl⟩
theorem fp_X9_108_10 (G : cv_G) : cv_PI G RX9 108 10 15 .int := ⟨RX9, TX9, tyX9, 38, 9, 4, cv_f10 G, rfl, cin_9, by decide, lf_X9_108, fun _ => rfl, tyX9_ok, nmX9, rfl, by decide +kernel, fun _ => Nat.le_of_ble_eq_true rfl, fun _ _ => rfl⟩
theorem lf_X9_111 : Cond.fieldLink RX9 111 (TX9 7).1 (TX9 7).2.1 (TX9 7).2.2.1 ∈ cv_gw := (cv_mT 1086 (by decide +kernel) rfl)
theorem fg_X9_111_10 (G : cv_G) : cv_GI G RX9 111 10 18 := ⟨RX9, TX9, 38, 9, 7, cv_f10 G, rfl, cin_9, by decide, lf_X9_111, fun _ => rfl, fun _ => rfl⟩
theorem fp_X9_111_10 (G : cv_G) : cv_PI G RX9 111 10 18 .int := ⟨RX9, TX9, tyX9, 38, 9, 7, cv_f10 G, rfl, cin_9, by decide, lf_X9_111, fun _ => rfl, tyX9_ok, nmX9, rfl, by decide +kernel, fun _ => Nat.le_of_ble_eq_true rfl, fun _ _ => rfl⟩
theorem lf_X9_114 : Cond.fieldLink RX9 114 (TX9 8).1 (TX9 8).2.1 (TX9 8).2.2.1 ∈ cv_gw := (cv_mT 1087 (by decide +kernel) rfl)
theorem fg_X9_114_10 (G : cv_G) : cv_GI G RX9 114 10 19 := ⟨RX9, TX9, 38, 9, 8, cv_f10 G, rfl, cin_9, by decide, lf_X9_114, fun _ => rfl, fun _ => rfl⟩
theorem fp_X9_114_10 (G : cv_G) : cv_PI G RX9 114 10 19 .boolean := ⟨RX9, TX9, tyX9, 38, 9, 8, cv_f10 G, rfl, cin_9, by decide, lf_X9_114, fun _ => rfl, tyX9_ok, nmX9, rfl, by decide +kernel, fun _ => Nat.le_of_ble_eq_true rfl, fun _ _ => rfl⟩
theorem lf_X9_121 : Cond.fieldLink RX9 121 (TX9 9).1 (TX9 9).2.1 (TX9 9).2.2.1 ∈ cv_gw := (cv_mT 1088 (by decide +kernel) rfl)
theorem fg_X9_121_10 (G : cv_G) : cv_GI G RX9 121 10 20 := ⟨RX9, TX9, 38, 9, 9, cv_f10 G, rfl, cin_9, by decide, lf_X9_121, fun _ => rfl, fun _ => rfl⟩
theorem fp_X9_121_10 (G : cv_G) : cv_PI G RX9 121 10 20 .int := ⟨RX9, TX9, tyX9, 38, 9, 9, cv_f10 G, rfl, cin_9, by decide, lf_X9_121, fun _ => rfl, tyX9_ok, nmX9, rfl, by decide +kernel, fun _ => Nat.le_of_ble_eq_true rfl, fun _ _ => rfl⟩
theorem lf_X9_201 : Cond.fieldLink RX9 201 (TX9 25).1 (TX9 25).2.1 (TX9 25).2.2.1 ∈ cv_gw := (cv_mT 1104 (by decide +kernel) rfl)
theorem fg_X9_201_10 (G : cv_G) : cv_GI G RX9 201 10 21 := ⟨RX9, TX9, 38, 9, 25, cv_f10 G, rfl, cin_9, by decide, lf_X9_201, fun _ => rfl, fun _ => rfl⟩
theorem fp_X9_201_10 (G : cv_G) : cv_PI G RX9 201 10 21 .int := ⟨RX9, TX9, tyX9, 38, 9, 25, cv_f10 G, rfl, cin_9, by decide, lf_X9_201, fun _ => rfl, tyX9_ok, nmX9, rfl, by decide +kernel, fun _ => Nat.le_of_ble_eq_true rfl, fun _ _ => rfl⟩
theorem lf_X9_278 : Cond.fieldLink RX9 278 (TX9 31).1 (TX9 31).2.1 (TX9 31).2.2.1 ∈ cv_gw := (cv_mT 1110 (by decide +kernel) rfl)
theorem fg_X9_278_10 (G : cv_G) : cv_GI G RX9 278 10 25 := ⟨RX9, TX9, 38, 9, 31, cv_f10 G, rfl, cin_9, by decide, lf_X9_278, fun _ => rfl, fun _ => rfl⟩
theorem fp_X9_278_10 (G : cv_G) : cv_PI G RX9 278 10 25 .int := ⟨RX9, TX9, tyX9, 38, 9, 31, cv_f10 G, rfl, cin_9, by decide, lf_X9_278, fun _ => rfl, tyX9_ok, nmX9, rfl, by decide +kernel, fun _ => Nat.le_of_ble_eq_true rfl, fun _ _ => rfl⟩
theorem lf_X9_281 : Cond.fieldLink RX9 281 (TX9 30).1 (TX9 30).2.1 (TX9 30).2.2.1 ∈ cv_gw := (cv_mT 1109 (by decide +kernel) rfl)
theorem fg_X9_281_10 (G : cv_G) : cv_GI G RX9 281 10 24 := ⟨RX9, TX9, 38, 9, 30, cv_f10 G, rfl, cin_9, by decide, lf_X9_281, fun _ => rfl, fun _ => rfl⟩
theorem fp_X9_281_10 (G : cv_G) : cv_PI G RX9 281 10 24 .boolean := ⟨RX9, TX9, tyX9, 38, 9, 30, cv_f10 G, rfl, cin_9, by decide, lf_X9_281, fun _ => rfl, tyX9_ok, nmX9, rfl, by decide +kernel, fun _ => Nat.le_of_ble_eq_true rfl, fun _ _ => rfl⟩
theorem lf_X9_288 : Cond.fieldLink RX9 288 (TX9 33).1 (TX9 33).2.1 (TX9 33).2.2.1 ∈ cv_gw := (cv_mT 1112 (by decide +kernel) rfl)
theorem fg_X9_288_10 (G : cv_G) : cv_GI G RX9 288 10 27 := ⟨RX9, TX9, 38, 9, 33, cv_f10 G, rfl, cin_9, by decide, lf_X9_288, fun _ => rfl, fun _ => rfl⟩
theorem fp_X9_288_10 (G : cv_G) : cv_PI G RX9 288 10 27 .int := ⟨RX9, TX9, tyX9, 38, 9, 33, cv_f10 G, rfl, cin_9, by decide, lf_X9_288, fun _ => rfl, tyX9_ok, nmX9, rfl, by decide +kernel, fun _ => Nat.le_of_ble_eq_true rfl, fun _ _ => rfl⟩
theorem lf_X9_291 : Cond.fieldLink RX9 291 (TX9 32).1 (TX9 32).2.1 (TX9 32).2.2.1 ∈ cv_gw := (cv_mT 1111 (by decide +kernel) rfl)
theorem fg_X9_291_10 (G : cv_G) : cv_GI G RX9 291 10 26 := ⟨RX9, TX9, 38, 9, 32, cv_f10 G, rfl, cin_9, by decide, lf_X9_291, fun _ => rfl, fun _ => rfl⟩
theorem fp_X9_291_10 (G : cv_G) : cv_PI G RX9 291 10 26 .int := ⟨RX9, TX9, tyX9, 38, 9, 32, cv_f10 G, rfl, cin_9, by decide, lf_X9_291, fun _ => rfl, tyX9_ok, nmX9, rfl, by decide +kernel, fun _ => Nat.le_of_ble_eq_true rfl, fun _ _ => rfl⟩
theorem lf_X9_297 : Cond.fieldLink RX9 297 (TX9 34).1 (TX9 34).2.1 (TX9 34).2.2.1 ∈ cv_gw := (cv_mT 1113 (by decide +kernel) rfl)
theorem fg_X9_297_10 (G : cv_G) : cv_GI G RX9 297 10 28 := ⟨RX9, TX9, 38, 9, 34, cv_f10 G, rfl, cin_9, by decide, lf_X9_297, fun _ => rfl, fun _ => rfl⟩
theorem fp_X9_297_10 (G : cv_G) : cv_PI G RX9 297 10 28 .int := ⟨RX9, TX9, tyX9, 38, 9, 34, cv_f10 G, rfl, cin_9, by decide, lf_X9_297, fun _ => rfl, tyX9_ok, nmX9, rfl, by decide +kernel, fun _ => Nat.le_of_ble_eq_true rfl, fun _ _ => rfl⟩
theorem lf_X9_304 : Cond.fieldLink RX9 304 (TX9 2).1 (TX9 2).2.1 (TX9 2).2.2.1 ∈ cv_gw := (cv_mT 1081 (by decide +kernel) rfl)
theorem fg_X9_304_10 (G : cv_G) : cv_GI G RX9 304 10 14 := ⟨RX9, TX9, 38, 9, 2, cv_f10 G, rfl, cin_9, by decide, lf_X9_304, fun _ => rfl, fun _ => rfl⟩
theorem fp_X9_304_10 (G : cv_G) : cv_PI G RX9 304 10 14 .boolean := ⟨RX9, TX9, tyX9, 38, 9, 2, cv_f10 G, rfl, cin_9, by decide, lf_X9_304, fun _ => rfl, tyX9_ok, nmX9, rfl, by decide +kernel, fun _ => Nat.le_of_ble_eq_true rfl, fun _ _ => rfl⟩
theorem lc_X9_87 : Cond.constantLong RX9 87 7 ∈ cv_gw := (cv_mT 1214 (by decide +kernel) rfl)
theorem lc_X9_104 : Cond.constantLong RX9 104 33 ∈ cv_gw := (cv_mT 1202 (by decide +kernel) rfl)
theorem lc_X9_106 : Cond.constantLong RX9 106 126 ∈ cv_gw := (cv_mT 1203 (by decide +kernel) rfl)
theorem lc_X9_253 : Cond.constantLong RX9 253 2 ∈ cv_gw := (cv_mT 1438 (by decide +kernel) rfl)
theorem lc_X9_270 : Cond.constantLong RX9 270 3 ∈ cv_gw := (cv_mT 1486 (by decide +kernel) rfl)
theorem ln_X0_22 : Cond.methodLink RX0 22 yX0_kindAt ∈ cv_gw := (cv_mT 358 (by decide +kernel) rfl)
theorem ln_X0_26 : Cond.methodLink RX0 26 yX0_numberAt ∈ cv_gw := (cv_mT 437 (by decide +kernel) rfl)
theorem ln_X0_30 : Cond.methodLink RX0 30 yX0_nodeBehind ∈ cv_gw := (cv_mT 346 (by decide +kernel) rfl)
theorem ln_X0_40 : Cond.methodLink RX0 40 Lib.Math.min.name ∈ cv_gw := (cv_mT 707 (by decide +kernel) rfl)
theorem ln_X0_47 : Cond.methodLink RX0 47 arraycopyName ∈ cv_gw := (cv_mT 537 (by decide +kernel) rfl)
theorem ln_X1_26 : Cond.methodLink RX1 26 yJ7_fill_53178 ∈ cv_gw := (cv_mT 418 (by decide +kernel) rfl)
theorem ln_X1_32 : Cond.methodLink RX1 32 yX1_definedBy ∈ cv_gw := (cv_mT 421 (by decide +kernel) rfl)
theorem ln_X1_36 : Cond.methodLink RX1 36 yX0_entry ∈ cv_gw := (cv_mT 425 (by decide +kernel) rfl)
theorem ln_X1_44 : Cond.methodLink RX1 44 yX2_reaches ∈ cv_gw := (cv_mT 426 (by decide +kernel) rfl)
theorem ln_X1_50 : Cond.methodLink RX1 50 yX1_definedAt ∈ cv_gw := (cv_mT 427 (by decide +kernel) rfl)
theorem ln_X1_54 : Cond.methodLink RX1 54 yX0_next ∈ cv_gw := (cv_mT 438 (by decide +kernel) rfl)
theorem ln_X1_57 : Cond.methodLink RX1 57 yX0_other ∈ cv_gw := (cv_mT 439 (by decide +kernel) rfl)
theorem ln_X1_60 : Cond.methodLink RX1 60 yX0_isCall ∈ cv_gw := (cv_mT 431 (by decide +kernel) rfl)
theorem ln_X1_63 : Cond.methodLink RX1 63 yX0_numberAt ∈ cv_gw := (cv_mT 432 (by decide +kernel) rfl)
theorem ln_X1_66 : Cond.methodLink RX1 66 yX0_writtenBy ∈ cv_gw := (cv_mT 433 (by decide +kernel) rfl)
theorem ln_X2_22 : Cond.methodLink RX2 22 yX2_follow ∈ cv_gw := (cv_mT 331 (by decide +kernel) rfl)
theorem ln_X2_26 : Cond.methodLink RX2 26 yX0_entry ∈ cv_gw := (cv_mT 335 (by decide +kernel) rfl)
theorem ln_X2_39 : Cond.methodLink RX2 39 yX0_next ∈ cv_gw := (cv_mT 342 (by decide +kernel) rfl)
theorem ln_X2_43 : Cond.methodLink RX2 43 yX0_other ∈ cv_gw := (cv_mT 350 (by decide +kernel) rfl)
theorem ln_X2_46 : Cond.methodLink RX2 46 yX0_isCall ∈ cv_gw := (cv_mT 354 (by decide +kernel) rfl)
theorem ln_X2_49 : Cond.methodLink RX2 49 yX0_numberAt ∈ cv_gw := (cv_mT 362 (by decide +kernel) rfl)
theorem ln_X3_37 : Cond.methodLink RX3 37 yX0_next ∈ cv_gw := (cv_mT 454 (by decide +kernel) rfl)
theorem ln_X3_43 : Cond.methodLink RX3 43 yX3_before ∈ cv_gw := (cv_mT 455 (by decide +kernel) rfl)
theorem ln_X3_46 : Cond.methodLink RX3 46 yX0_other ∈ cv_gw := (cv_mT 459 (by decide +kernel) rfl)
theorem ln_X3_49 : Cond.methodLink RX3 49 yJ7_fill_53178 ∈ cv_gw := (cv_mT 444 (by decide +kernel) rfl)
theorem ln_X3_55 : Cond.methodLink RX3 55 yX3_trace ∈ cv_gw := (cv_mT 445 (by decide +kernel) rfl)
theorem ln_X3_62 : Cond.methodLink RX3 62 yX2_reaches ∈ cv_gw := (cv_mT 449 (by decide +kernel) rfl)
theorem ln_X3_68 : Cond.methodLink RX3 68 yX3_behind ∈ cv_gw := (cv_mT 450 (by decide +kernel) rfl)
theorem ln_X3_71 : Cond.methodLink RX3 71 yX0_isCall ∈ cv_gw := (cv_mT 460 (by decide +kernel) rfl)
theorem ln_X3_74 : Cond.methodLink RX3 74 yX0_numberAt ∈ cv_gw := (cv_mT 461 (by decide +kernel) rfl)
theorem ln_X3_77 : Cond.methodLink RX3 77 yX3_ask ∈ cv_gw := (cv_mT 462 (by decide +kernel) rfl)
theorem ln_X3_80 : Cond.methodLink RX3 80 yX3_readAt ∈ cv_gw := (cv_mT 467 (by decide +kernel) rfl)
theorem ln_X3_83 : Cond.methodLink RX3 83 yX3_writtenAt ∈ cv_gw := (cv_mT 475 (by decide +kernel) rfl)
theorem ln_X3_86 : Cond.methodLink RX3 86 yX0_entry ∈ cv_gw := (cv_mT 480 (by decide +kernel) rfl)
theorem ln_X3_90 : Cond.methodLink RX3 90 yX7_clobbered ∈ cv_gw := (cv_mT 466 (by decide +kernel) rfl)
theorem ln_X3_100 : Cond.methodLink RX3 100 yX0_readBy ∈ cv_gw := (cv_mT 471 (by decide +kernel) rfl)
theorem ln_X3_103 : Cond.methodLink RX3 103 yX0_writtenBy ∈ cv_gw := (cv_mT 479 (by decide +kernel) rfl)
theorem ln_X4_51 : Cond.methodLink RX4 51 yX4_enter ∈ cv_gw := (cv_mT 979 (by decide +kernel) rfl)
theorem ln_X4_55 : Cond.methodLink RX4 55 yX4_advance ∈ cv_gw := (cv_mT 983 (by decide +kernel) rfl)
theorem ln_X4_63 : Cond.methodLink RX4 63 yX0_kindAt ∈ cv_gw := (cv_mT 987 (by decide +kernel) rfl)
theorem ln_X4_67 : Cond.methodLink RX4 67 yX4_isBlocked ∈ cv_gw := (cv_mT 988 (by decide +kernel) rfl)
theorem ln_X4_71 : Cond.methodLink RX4 71 yX0_numberAt ∈ cv_gw := (cv_mT 992 (by decide +kernel) rfl)
theorem ln_X4_75 : Cond.methodLink RX4 75 yX4_perform ∈ cv_gw := (cv_mT 993 (by decide +kernel) rfl)
theorem ln_X4_79 : Cond.methodLink RX4 79 yX4_isTaken ∈ cv_gw := (cv_mT 997 (by decide +kernel) rfl)
theorem ln_X5_42 : Cond.methodLink RX5 42 yX5_collect ∈ cv_gw := (cv_mT 485 (by decide +kernel) rfl)
theorem ln_X5_46 : Cond.methodLink RX5 46 yJ7_fill_53178 ∈ cv_gw := (cv_mT 489 (by decide +kernel) rfl)
theorem ln_X5_52 : Cond.methodLink RX5 52 yX0_entry ∈ cv_gw := (cv_mT 490 (by decide +kernel) rfl)
theorem ln_X5_61 : Cond.methodLink RX5 61 yX2_reaches ∈ cv_gw := (cv_mT 491 (by decide +kernel) rfl)
theorem ln_X5_67 : Cond.methodLink RX5 67 yX5_visit ∈ cv_gw := (cv_mT 492 (by decide +kernel) rfl)
theorem ln_X5_71 : Cond.methodLink RX5 71 yX5_storedBehind ∈ cv_gw := (cv_mT 501 (by decide +kernel) rfl)
theorem ln_X5_75 : Cond.methodLink RX5 75 yX0_next ∈ cv_gw := (cv_mT 505 (by decide +kernel) rfl)
theorem ln_X5_78 : Cond.methodLink RX5 78 yX0_other ∈ cv_gw := (cv_mT 506 (by decide +kernel) rfl)
theorem ln_X5_81 : Cond.methodLink RX5 81 yX0_kindAt ∈ cv_gw := (cv_mT 496 (by decide +kernel) rfl)
theorem ln_X5_85 : Cond.methodLink RX5 85 yX0_numberAt ∈ cv_gw := (cv_mT 497 (by decide +kernel) rfl)
theorem ln_X5_88 : Cond.methodLink RX5 88 Lib.Math.max.name ∈ cv_gw := (cv_mT 498 (by decide +kernel) rfl)
theorem ln_X6_32 : Cond.methodLink RX6 32 yX6_findFault ∈ cv_gw := (cv_mT 687 (by decide +kernel) rfl)
theorem ln_X6_36 : Cond.methodLink RX6 36 yX6_digitsBehind ∈ cv_gw := (cv_mT 691 (by decide +kernel) rfl)
theorem ln_X6_40 : Cond.methodLink RX6 40 yX6_fits ∈ cv_gw := (cv_mT 694 (by decide +kernel) rfl)
theorem ln_X6_44 : Cond.methodLink RX6 44 yX6_keep ∈ cv_gw := (cv_mT 697 (by decide +kernel) rfl)
theorem ln_X7_40 : Cond.methodLink RX7 40 yX7_measure ∈ cv_gw := (cv_mT 370 (by decide +kernel) rfl)
theorem ln_X7_44 : Cond.methodLink RX7 44 yX7_keptBy ∈ cv_gw := (cv_mT 385 (by decide +kernel) rfl)
theorem ln_X7_48 : Cond.methodLink RX7 48 yX0_entry ∈ cv_gw := (cv_mT 374 (by decide +kernel) rfl)
theorem ln_X7_56 : Cond.methodLink RX7 56 yX0_kindAt ∈ cv_gw := (cv_mT 375 (by decide +kernel) rfl)
theorem ln_X7_60 : Cond.methodLink RX7 60 yX7_growth ∈ cv_gw := (cv_mT 376 (by decide +kernel) rfl)
theorem ln_X7_64 : Cond.methodLink RX7 64 yX0_next ∈ cv_gw := (cv_mT 379 (by decide +kernel) rfl)
theorem ln_X7_68 : Cond.methodLink RX7 68 yX7_agrees ∈ cv_gw := (cv_mT 380 (by decide +kernel) rfl)
theorem ln_X7_72 : Cond.methodLink RX7 72 yX0_other ∈ cv_gw := (cv_mT 384 (by decide +kernel) rfl)
theorem ln_X7_75 : Cond.methodLink RX7 75 yX7_merge ∈ cv_gw := (cv_mT 389 (by decide +kernel) rfl)
theorem ln_X7_79 : Cond.methodLink RX7 79 yX2_reaches ∈ cv_gw := (cv_mT 394 (by decide +kernel) rfl)
theorem ln_X7_84 : Cond.methodLink RX7 84 arraycopyName ∈ cv_gw := (cv_mT 398 (by decide +kernel) rfl)
theorem ln_X7_90 : Cond.methodLink RX7 90 yX7_step ∈ cv_gw := (cv_mT 401 (by decide +kernel) rfl)
theorem ln_X7_97 : Cond.methodLink RX7 97 yX0_numberAt ∈ cv_gw := (cv_mT 405 (by decide +kernel) rfl)
theorem ln_X7_100 : Cond.methodLink RX7 100 yX7_clobbered ∈ cv_gw := (cv_mT 406 (by decide +kernel) rfl)
theorem ln_X7_103 : Cond.methodLink RX7 103 yX7_forget ∈ cv_gw := (cv_mT 410 (by decide +kernel) rfl)
theorem ln_X8_104 : Cond.methodLink RX8 104 yX8_checkFunction ∈ cv_gw := (cv_mT 666 (by decide +kernel) rfl)
theorem ln_X8_108 : Cond.methodLink RX8 108 yX6_read ∈ cv_gw := (cv_mT 683 (by decide +kernel) rfl)
theorem ln_X8_121 : Cond.methodLink RX8 121 yX0_take ∈ cv_gw := (cv_mT 703 (by decide +kernel) rfl)
theorem ln_X8_125 : Cond.methodLink RX8 125 yX8_forgetFacts ∈ cv_gw := (cv_mT 710 (by decide +kernel) rfl)
theorem ln_X8_132 : Cond.methodLink RX8 132 yX8_checkInstruction ∈ cv_gw := (cv_mT 728 (by decide +kernel) rfl)
theorem ln_X8_136 : Cond.methodLink RX8 136 yX0_kindAt ∈ cv_gw := (cv_mT 733 (by decide +kernel) rfl)
theorem ln_X8_145 : Cond.methodLink RX8 145 yX0_numberAt ∈ cv_gw := (cv_mT 758 (by decide +kernel) rfl)
theorem ln_X8_149 : Cond.methodLink RX8 149 yX0_drop ∈ cv_gw := (cv_mT 766 (by decide +kernel) rfl)
theorem ln_X8_152 : Cond.methodLink RX8 152 yX8_inferFacts ∈ cv_gw := (cv_mT 323 (by decide +kernel) rfl)
theorem ln_X8_155 : Cond.methodLink RX8 155 yX2_reaches ∈ cv_gw := (cv_mT 777 (by decide +kernel) rfl)
theorem ln_X8_177 : Cond.methodLink RX8 177 yX3_before ∈ cv_gw := (cv_mT 821 (by decide +kernel) rfl)
theorem ln_X8_183 : Cond.methodLink RX8 183 yX5_differFor ∈ cv_gw := (cv_mT 836 (by decide +kernel) rfl)
theorem ln_X8_190 : Cond.methodLink RX8 190 yX2_callers ∈ cv_gw := (cv_mT 854 (by decide +kernel) rfl)
theorem ln_X8_194 : Cond.methodLink RX8 194 yX2_calledInAll ∈ cv_gw := (cv_mT 865 (by decide +kernel) rfl)
theorem ln_X8_197 : Cond.methodLink RX8 197 yX8_contains ∈ cv_gw := (cv_mT 869 (by decide +kernel) rfl)
theorem ln_X8_201 : Cond.methodLink RX8 201 yX8_checkSite ∈ cv_gw := (cv_mT 877 (by decide +kernel) rfl)
theorem ln_X8_217 : Cond.methodLink RX8 217 yX5_missing ∈ cv_gw := (cv_mT 519 (by decide +kernel) rfl)
theorem ln_X8_220 : Cond.methodLink RX8 220 yX8_lostAt ∈ cv_gw := (cv_mT 523 (by decide +kernel) rfl)
theorem ln_X8_223 : Cond.methodLink RX8 223 yX3_behind ∈ cv_gw := (cv_mT 527 (by decide +kernel) rfl)
theorem ln_X8_226 : Cond.methodLink RX8 226 yX8_countProblems ∈ cv_gw := (cv_mT 511 (by decide +kernel) rfl)
theorem ln_X8_230 : Cond.methodLink RX8 230 yX8_hasProblem ∈ cv_gw := (cv_mT 515 (by decide +kernel) rfl)
theorem ln_X8_238 : Cond.methodLink RX8 238 yX8_checkRegister ∈ cv_gw := (cv_mT 942 (by decide +kernel) rfl)
theorem ln_X8_243 : Cond.methodLink RX8 243 yX8_countVotes ∈ cv_gw := (cv_mT 948 (by decide +kernel) rfl)
theorem ln_X8_246 : Cond.methodLink RX8 246 yX0_countFilled ∈ cv_gw := (cv_mT 963 (by decide +kernel) rfl)
theorem ln_X8_251 : Cond.methodLink RX8 251 yX4_execute ∈ cv_gw := (cv_mT 975 (by decide +kernel) rfl)
theorem ln_X8_257 : Cond.methodLink RX8 257 yX8_checkRun ∈ cv_gw := (cv_mT 1009 (by decide +kernel) rfl)
theorem ln_X8_263 : Cond.methodLink RX8 263 yX8_checkNotCut ∈ cv_gw := (cv_mT 1021 (by decide +kernel) rfl)
theorem ln_X8_276 : Cond.methodLink RX8 276 yX0_copyFrom ∈ cv_gw := (cv_mT 533 (by decide +kernel) rfl)
theorem ln_X8_296 : Cond.methodLink RX8 296 yX2_infer ∈ cv_gw := (cv_mT 327 (by decide +kernel) rfl)
theorem ln_X8_299 : Cond.methodLink RX8 299 yX7_infer ∈ cv_gw := (cv_mT 366 (by decide +kernel) rfl)
theorem ln_X8_300 : Cond.methodLink RX8 300 yX1_infer ∈ cv_gw := (cv_mT 414 (by decide +kernel) rfl)
theorem ln_X8_301 : Cond.methodLink RX8 301 yX3_infer ∈ cv_gw := (cv_mT 440 (by decide +kernel) rfl)
theorem ln_X8_302 : Cond.methodLink RX8 302 yX5_infer ∈ cv_gw := (cv_mT 481 (by decide +kernel) rfl)
theorem ln_X8_303 : Cond.methodLink RX8 303 yX7_clobbered ∈ cv_gw := (cv_mT 528 (by decide +kernel) rfl)
theorem ln_X8_306 : Cond.methodLink RX8 306 yX8_votedFor ∈ cv_gw := (cv_mT 952 (by decide +kernel) rfl)
theorem ln_X9_89 : Cond.methodLink RX9 89 yX9_in ∈ cv_gw := (cv_mT 1204 (by decide +kernel) rfl)
theorem ln_X9_93 : Cond.methodLink RX9 93 yX9_isFunction ∈ cv_gw := (cv_mT 1211 (by decide +kernel) rfl)
theorem ln_X9_117 : Cond.methodLink RX9 117 yX9_here ∈ cv_gw := (cv_mT 1219 (by decide +kernel) rfl)
theorem ln_X9_124 : Cond.methodLink RX9 124 yX9_digit ∈ cv_gw := (cv_mT 1223 (by decide +kernel) rfl)
theorem ln_X9_128 : Cond.methodLink RX9 128 yX9_readInstruction ∈ cv_gw := (cv_mT 1215 (by decide +kernel) rfl)
theorem ln_X9_131 : Cond.methodLink RX9 131 yX9_changed ∈ cv_gw := (cv_mT 1227 (by decide +kernel) rfl)
theorem ln_X9_134 : Cond.methodLink RX9 134 yX9_isInstruction ∈ cv_gw := (cv_mT 1243 (by decide +kernel) rfl)
theorem ln_X9_138 : Cond.methodLink RX9 138 yX9_kind ∈ cv_gw := (cv_mT 1247 (by decide +kernel) rfl)
theorem ln_X9_141 : Cond.methodLink RX9 141 yX9_first ∈ cv_gw := (cv_mT 1255 (by decide +kernel) rfl)
theorem ln_X9_144 : Cond.methodLink RX9 144 yX9_second ∈ cv_gw := (cv_mT 1259 (by decide +kernel) rfl)
theorem ln_X9_147 : Cond.methodLink RX9 147 Lib.Math.min.name ∈ cv_gw := (cv_mT 1287 (by decide +kernel) rfl)
theorem ln_X9_152 : Cond.methodLink RX9 152 yX9_reached ∈ cv_gw := (cv_mT 1279 (by decide +kernel) rfl)
theorem ln_X9_155 : Cond.methodLink RX9 155 yX9_next ∈ cv_gw := (cv_mT 1283 (by decide +kernel) rfl)
theorem ln_X9_159 : Cond.methodLink RX9 159 yX9_comes ∈ cv_gw := (cv_mT 1312 (by decide +kernel) rfl)
theorem ln_X9_162 : Cond.methodLink RX9 162 arraycopyName ∈ cv_gw := (cv_mT 1316 (by decide +kernel) rfl)
theorem ln_X9_168 : Cond.methodLink RX9 168 yX9_does ∈ cv_gw := (cv_mT 1317 (by decide +kernel) rfl)
theorem ln_X9_171 : Cond.methodLink RX9 171 yX9_follows ∈ cv_gw := (cv_mT 1308 (by decide +kernel) rfl)
theorem ln_X9_174 : Cond.methodLink RX9 174 yX9_preservedBy ∈ cv_gw := (cv_mT 1321 (by decide +kernel) rfl)
theorem ln_X9_178 : Cond.methodLink RX9 178 yX9_beginSets ∈ cv_gw := (cv_mT 1292 (by decide +kernel) rfl)
theorem ln_X9_182 : Cond.methodLink RX9 182 yX9_bringSet ∈ cv_gw := (cv_mT 1296 (by decide +kernel) rfl)
theorem ln_X9_186 : Cond.methodLink RX9 186 yX9_definedBy ∈ cv_gw := (cv_mT 1329 (by decide +kernel) rfl)
theorem ln_X9_189 : Cond.methodLink RX9 189 yX9_clobbered ∈ cv_gw := (cv_mT 1353 (by decide +kernel) rfl)
theorem ln_X9_192 : Cond.methodLink RX9 192 yX9_reads ∈ cv_gw := (cv_mT 1341 (by decide +kernel) rfl)
theorem ln_X9_195 : Cond.methodLink RX9 195 yX9_liveBehind ∈ cv_gw := (cv_mT 1345 (by decide +kernel) rfl)
theorem ln_X9_198 : Cond.methodLink RX9 198 yX9_writes ∈ cv_gw := (cv_mT 1349 (by decide +kernel) rfl)
theorem ln_X9_204 : Cond.methodLink RX9 204 yX9_calleeOf ∈ cv_gw := (cv_mT 1361 (by decide +kernel) rfl)
theorem ln_X9_207 : Cond.methodLink RX9 207 yX9_findLive ∈ cv_gw := (cv_mT 1337 (by decide +kernel) rfl)
theorem ln_X9_210 : Cond.methodLink RX9 210 yX9_liveBehindCalls ∈ cv_gw := (cv_mT 1357 (by decide +kernel) rfl)
theorem ln_X9_213 : Cond.methodLink RX9 213 yX9_findReached ∈ cv_gw := (cv_mT 1275 (by decide +kernel) rfl)
theorem ln_X9_216 : Cond.methodLink RX9 216 yX9_findPassed ∈ cv_gw := (cv_mT 1288 (by decide +kernel) rfl)
theorem ln_X9_219 : Cond.methodLink RX9 219 yX9_findSites ∈ cv_gw := (cv_mT 1300 (by decide +kernel) rfl)
theorem ln_X9_222 : Cond.methodLink RX9 222 yX9_findPreserved ∈ cv_gw := (cv_mT 1304 (by decide +kernel) rfl)
theorem ln_X9_225 : Cond.methodLink RX9 225 yX9_findDefined ∈ cv_gw := (cv_mT 1325 (by decide +kernel) rfl)
theorem ln_X9_228 : Cond.methodLink RX9 228 yX9_findArguments ∈ cv_gw := (cv_mT 1333 (by decide +kernel) rfl)
theorem ln_X9_231 : Cond.methodLink RX9 231 yX9_infer ∈ cv_gw := (cv_mT 1271 (by decide +kernel) rfl)
theorem ln_X9_234 : Cond.methodLink RX9 234 yX9_ofFunction ∈ cv_gw := (cv_mT 1373 (by decide +kernel) rfl)
theorem ln_X9_238 : Cond.methodLink RX9 238 Lib.Math.max.name ∈ cv_gw := (cv_mT 1401 (by decide +kernel) rfl)
theorem ln_X9_241 : Cond.methodLink RX9 241 yX9_neededBy ∈ cv_gw := (cv_mT 1397 (by decide +kernel) rfl)
theorem ln_X9_244 : Cond.methodLink RX9 244 yX9_passedAt ∈ cv_gw := (cv_mT 1406 (by decide +kernel) rfl)
theorem ln_X9_247 : Cond.methodLink RX9 247 yX9_calleesOf ∈ cv_gw := (cv_mT 1414 (by decide +kernel) rfl)
theorem ln_X9_250 : Cond.methodLink RX9 250 yX9_isSite ∈ cv_gw := (cv_mT 1434 (by decide +kernel) rfl)
theorem ln_X9_255 : Cond.methodLink RX9 255 yX9_missingAt ∈ cv_gw := (cv_mT 1447 (by decide +kernel) rfl)
theorem ln_X9_258 : Cond.methodLink RX9 258 yX9_lostAt ∈ cv_gw := (cv_mT 1455 (by decide +kernel) rfl)
theorem ln_X9_261 : Cond.methodLink RX9 261 yX9_isProblem ∈ cv_gw := (cv_mT 1471 (by decide +kernel) rfl)
theorem ln_X9_264 : Cond.methodLink RX9 264 yX9_problemMany ∈ cv_gw := (cv_mT 1467 (by decide +kernel) rfl)
theorem ln_X9_267 : Cond.methodLink RX9 267 yX9_isRegister ∈ cv_gw := (cv_mT 1483 (by decide +kernel) rfl)
theorem ln_X9_272 : Cond.methodLink RX9 272 yX9_countVotes ∈ cv_gw := (cv_mT 1487 (by decide +kernel) rfl)
theorem ln_X9_275 : Cond.methodLink RX9 275 yX9_bodyMany ∈ cv_gw := (cv_mT 1495 (by decide +kernel) rfl)
theorem ln_X9_284 : Cond.methodLink RX9 284 yX9_cuts ∈ cv_gw := (cv_mT 1507 (by decide +kernel) rfl)
theorem ln_X9_294 : Cond.methodLink RX9 294 yX9_step ∈ cv_gw := (cv_mT 1511 (by decide +kernel) rfl)
theorem ln_X9_300 : Cond.methodLink RX9 300 yX9_execute ∈ cv_gw := (cv_mT 1503 (by decide +kernel) rfl)
theorem sw_max : Cond.static Lib.Math.max.name ∈ cv_gw ∧ Cond.initialized "java/lang/Math" ∈ cv_gw ∧ Cond.code Lib.Math.max.name Lib.Math.max.code 2 (some .int) ∈ cv_gw := ⟨(cv_mT 499 (by decide +kernel) rfl), (cv_mT 19 (by decide +kernel) rfl), (cv_mT 500 (by decide +kernel) rfl)⟩
theorem sw_min : Cond.static Lib.Math.min.name ∈ cv_gw ∧ Cond.initialized "java/lang/Math" ∈ cv_gw ∧ Cond.code Lib.Math.min.name Lib.Math.min.code 2 (some .int) ∈ cv_gw := ⟨(cv_mT 708 (by decide +kernel) rfl), (cv_mT 19 (by decide +kernel) rfl), (cv_mT 709 (by decide +kernel) rfl)⟩
theorem sw_arraycopy : Cond.native arraycopyName ∈ cv_gw ∧ Cond.static arraycopyName ∈ cv_gw ∧ Cond.initialized "java/lang/System" ∈ cv_gw := ⟨(cv_mT 400 (by decide +kernel) rfl), (cv_mT 399 (by decide +kernel) rfl), (cv_mT 21 (by decide +kernel) rfl)⟩
theorem vm_J7_fill_53178 : cv_SM yJ7_fill_53178 cJ7_fill_53178 4 none 2 := ⟨(cv_mT 419 (by decide +kernel) rfl), (cv_mT 22 (by decide +kernel) rfl), (cv_mT 420 (by decide +kernel) rfl), by decide +kernel, by decide +kernel, by decide +kernel⟩
theorem vm_X0_copyFrom : cv_VM yX0_copyFrom cX0_copyFrom 2 none 1 := ⟨(cv_mT 534 (by decide +kernel) rfl), (cv_mT 535 (by decide +kernel) rfl), (cv_mT 3 (by decide +kernel) rfl), (cv_mT 536 (by decide +kernel) rfl), by decide +kernel, by decide +kernel, by decide +kernel⟩
theorem vm_X0_countFilled : cv_VM yX0_countFilled cX0_countFilled 3 (some .int) 0 := ⟨(cv_mT 964 (by decide +kernel) rfl), (cv_mT 965 (by decide +kernel) rfl), (cv_mT 3 (by decide +kernel) rfl), (cv_mT 966 (by decide +kernel) rfl), by decide +kernel, by decide +kernel, by decide +kernel⟩
theorem vm_X0_drop : cv_VM yX0_drop cX0_drop 5 none 2 := ⟨(cv_mT 767 (by decide +kernel) rfl), (cv_mT 768 (by decide +kernel) rfl), (cv_mT 3 (by decide +kernel) rfl), (cv_mT 769 (by decide +kernel) rfl), by decide +kernel, by decide +kernel, by decide +kernel⟩
theorem vm_X0_entry : cv_VM yX0_entry cX0_entry 2 (some .int) 1 := ⟨(cv_mT 336 (by decide +kernel) rfl), (cv_mT 337 (by decide +kernel) rfl), (cv_mT 3 (by decide +kernel) rfl), (cv_mT 338 (by decide +kernel) rfl), by decide +kernel, by decide +kernel, by decide +kernel⟩
theorem vm_X0_isCall : cv_VM yX0_isCall cX0_isCall 3 (some .boolean) 2 := ⟨(cv_mT 355 (by decide +kernel) rfl), (cv_mT 356 (by decide +kernel) rfl), (cv_mT 3 (by decide +kernel) rfl), (cv_mT 357 (by decide +kernel) rfl), by decide +kernel, by decide +kernel, by decide +kernel⟩
theorem vm_X0_kindAt : cv_VM yX0_kindAt cX0_kindAt 3 (some .char) 2 := ⟨(cv_mT 359 (by decide +kernel) rfl), (cv_mT 360 (by decide +kernel) rfl), (cv_mT 3 (by decide +kernel) rfl), (cv_mT 361 (by decide +kernel) rfl), by decide +kernel, by decide +kernel, by decide +kernel⟩
theorem vm_X0_next : cv_VM yX0_next cX0_next 3 (some .int) 2 := ⟨(cv_mT 343 (by decide +kernel) rfl), (cv_mT 344 (by decide +kernel) rfl), (cv_mT 3 (by decide +kernel) rfl), (cv_mT 345 (by decide +kernel) rfl), by decide +kernel, by decide +kernel, by decide +kernel⟩
theorem vm_X0_nodeBehind : cv_VM yX0_nodeBehind cX0_nodeBehind 6 (some .int) 3 := ⟨(cv_mT 348 (by decide +kernel) rfl), (cv_mS 2 (by decide +kernel) rfl), (cv_mT 3 (by decide +kernel) rfl), (cv_mT 349 (by decide +kernel) rfl), by decide +kernel, by decide +kernel, by decide +kernel⟩
theorem vm_X0_numberAt : cv_VM yX0_numberAt cX0_numberAt 3 (some .int) 2 := ⟨(cv_mT 363 (by decide +kernel) rfl), (cv_mT 364 (by decide +kernel) rfl), (cv_mT 3 (by decide +kernel) rfl), (cv_mT 365 (by decide +kernel) rfl), by decide +kernel, by decide +kernel, by decide +kernel⟩
theorem vm_X0_other : cv_VM yX0_other cX0_other 4 (some .int) 2 := ⟨(cv_mT 351 (by decide +kernel) rfl), (cv_mT 352 (by decide +kernel) rfl), (cv_mT 3 (by decide +kernel) rfl), (cv_mT 353 (by decide +kernel) rfl), by decide +kernel, by decide +kernel, by decide +kernel⟩
theorem vm_X0_readBy : cv_VM yX0_readBy cX0_readBy 5 (some .int) 2 := ⟨(cv_mT 472 (by decide +kernel) rfl), (cv_mT 473 (by decide +kernel) rfl), (cv_mT 3 (by decide +kernel) rfl), (cv_mT 474 (by decide +kernel) rfl), by decide +kernel, by decide +kernel, by decide +kernel⟩
theorem vm_X0_take : cv_VM yX0_take cX0_take 6 none 2 := ⟨(cv_mT 704 (by decide +kernel) rfl), (cv_mT 705 (by decide +kernel) rfl), (cv_mT 3 (by decide +kernel) rfl), (cv_mT 706 (by decide +kernel) rfl), by decide +kernel, by decide +kernel, by decide +kernel⟩
theorem vm_X0_writtenBy : cv_VM yX0_writtenBy cX0_writtenBy 5 (some .int) 2 := ⟨(cv_mT 434 (by decide +kernel) rfl), (cv_mT 435 (by decide +kernel) rfl), (cv_mT 3 (by decide +kernel) rfl), (cv_mT 436 (by decide +kernel) rfl), by decide +kernel, by decide +kernel, by decide +kernel⟩
theorem vm_X1_definedAt : cv_VM yX1_definedAt cX1_definedAt 3 (some .int) 2 := ⟨(cv_mT 429 (by decide +kernel) rfl), (cv_mS 10 (by decide +kernel) rfl), (cv_mT 6 (by decide +kernel) rfl), (cv_mT 430 (by decide +kernel) rfl), by decide +kernel, by decide +kernel, by decide +kernel⟩
theorem vm_X1_definedBy : cv_VM yX1_definedBy cX1_definedBy 4 (some .int) 1 := ⟨(cv_mT 423 (by decide +kernel) rfl), (cv_mS 9 (by decide +kernel) rfl), (cv_mT 6 (by decide +kernel) rfl), (cv_mT 424 (by decide +kernel) rfl), by decide +kernel, by decide +kernel, by decide +kernel⟩
theorem vm_X1_infer : cv_VM yX1_infer cX1_infer 5 none 0 := ⟨(cv_mT 415 (by decide +kernel) rfl), (cv_mT 416 (by decide +kernel) rfl), (cv_mT 6 (by decide +kernel) rfl), (cv_mT 417 (by decide +kernel) rfl), by decide +kernel, by decide +kernel, by decide +kernel⟩
theorem vm_X2_calledInAll : cv_VM yX2_calledInAll cX2_calledInAll 6 (some .int) 1 := ⟨(cv_mT 866 (by decide +kernel) rfl), (cv_mT 867 (by decide +kernel) rfl), (cv_mT 4 (by decide +kernel) rfl), (cv_mT 868 (by decide +kernel) rfl), by decide +kernel, by decide +kernel, by decide +kernel⟩
theorem vm_X2_callers : cv_VM yX2_callers cX2_callers 4 (some .int) 1 := ⟨(cv_mT 855 (by decide +kernel) rfl), (cv_mT 856 (by decide +kernel) rfl), (cv_mT 4 (by decide +kernel) rfl), (cv_mT 857 (by decide +kernel) rfl), by decide +kernel, by decide +kernel, by decide +kernel⟩
theorem vm_X2_follow : cv_VM yX2_follow cX2_follow 5 none 1 := ⟨(cv_mT 333 (by decide +kernel) rfl), (cv_mS 1 (by decide +kernel) rfl), (cv_mT 4 (by decide +kernel) rfl), (cv_mT 334 (by decide +kernel) rfl), by decide +kernel, by decide +kernel, by decide +kernel⟩
theorem vm_X2_infer : cv_VM yX2_infer cX2_infer 2 none 0 := ⟨(cv_mT 328 (by decide +kernel) rfl), (cv_mT 329 (by decide +kernel) rfl), (cv_mT 4 (by decide +kernel) rfl), (cv_mT 330 (by decide +kernel) rfl), by decide +kernel, by decide +kernel, by decide +kernel⟩
theorem vm_X2_reaches : cv_VM yX2_reaches cX2_reaches 3 (some .boolean) 2 := ⟨(cv_mT 395 (by decide +kernel) rfl), (cv_mT 396 (by decide +kernel) rfl), (cv_mT 4 (by decide +kernel) rfl), (cv_mT 397 (by decide +kernel) rfl), by decide +kernel, by decide +kernel, by decide +kernel⟩
theorem vm_X3_ask : cv_VM yX3_ask cX3_ask 5 (some .boolean) 2 := ⟨(cv_mT 464 (by decide +kernel) rfl), (cv_mS 12 (by decide +kernel) rfl), (cv_mT 7 (by decide +kernel) rfl), (cv_mT 465 (by decide +kernel) rfl), by decide +kernel, by decide +kernel, by decide +kernel⟩
theorem vm_X3_before : cv_VM yX3_before cX3_before 3 (some .int) 2 := ⟨(cv_mT 456 (by decide +kernel) rfl), (cv_mT 457 (by decide +kernel) rfl), (cv_mT 7 (by decide +kernel) rfl), (cv_mT 458 (by decide +kernel) rfl), by decide +kernel, by decide +kernel, by decide +kernel⟩
theorem vm_X3_behind : cv_VM yX3_behind cX3_behind 3 (some .int) 2 := ⟨(cv_mT 451 (by decide +kernel) rfl), (cv_mT 452 (by decide +kernel) rfl), (cv_mT 7 (by decide +kernel) rfl), (cv_mT 453 (by decide +kernel) rfl), by decide +kernel, by decide +kernel, by decide +kernel⟩
theorem vm_X3_infer : cv_VM yX3_infer cX3_infer 4 none 0 := ⟨(cv_mT 441 (by decide +kernel) rfl), (cv_mT 442 (by decide +kernel) rfl), (cv_mT 7 (by decide +kernel) rfl), (cv_mT 443 (by decide +kernel) rfl), by decide +kernel, by decide +kernel, by decide +kernel⟩
theorem vm_X3_readAt : cv_VM yX3_readAt cX3_readAt 3 (some .int) 2 := ⟨(cv_mT 469 (by decide +kernel) rfl), (cv_mS 13 (by decide +kernel) rfl), (cv_mT 7 (by decide +kernel) rfl), (cv_mT 470 (by decide +kernel) rfl), by decide +kernel, by decide +kernel, by decide +kernel⟩
theorem vm_X3_trace : cv_VM yX3_trace cX3_trace 5 (some .boolean) 1 := ⟨(cv_mT 447 (by decide +kernel) rfl), (cv_mS 11 (by decide +kernel) rfl), (cv_mT 7 (by decide +kernel) rfl), (cv_mT 448 (by decide +kernel) rfl), by decide +kernel, by decide +kernel, by decide +kernel⟩
theorem vm_X3_writtenAt : cv_VM yX3_writtenAt cX3_writtenAt 3 (some .int) 2 := ⟨(cv_mT 477 (by decide +kernel) rfl), (cv_mS 14 (by decide +kernel) rfl), (cv_mT 7 (by decide +kernel) rfl), (cv_mT 478 (by decide +kernel) rfl), by decide +kernel, by decide +kernel, by decide +kernel⟩
theorem vm_X4_advance : cv_VM yX4_advance cX4_advance 5 none 1 := ⟨(cv_mT 985 (by decide +kernel) rfl), (cv_mS 32 (by decide +kernel) rfl), (cv_mT 9 (by decide +kernel) rfl), (cv_mT 986 (by decide +kernel) rfl), by decide +kernel, by decide +kernel, by decide +kernel⟩
theorem vm_X4_enter : cv_VM yX4_enter cX4_enter 2 none 1 := ⟨(cv_mT 981 (by decide +kernel) rfl), (cv_mS 31 (by decide +kernel) rfl), (cv_mT 9 (by decide +kernel) rfl), (cv_mT 982 (by decide +kernel) rfl), by decide +kernel, by decide +kernel, by decide +kernel⟩
theorem vm_X4_execute : cv_VM yX4_execute cX4_execute 4 none 2 := ⟨(cv_mT 976 (by decide +kernel) rfl), (cv_mT 977 (by decide +kernel) rfl), (cv_mT 9 (by decide +kernel) rfl), (cv_mT 978 (by decide +kernel) rfl), by decide +kernel, by decide +kernel, by decide +kernel⟩
theorem vm_X4_isBlocked : cv_VM yX4_isBlocked cX4_isBlocked 3 (some .boolean) 2 := ⟨(cv_mT 990 (by decide +kernel) rfl), (cv_mS 33 (by decide +kernel) rfl), (cv_mT 9 (by decide +kernel) rfl), (cv_mT 991 (by decide +kernel) rfl), by decide +kernel, by decide +kernel, by decide +kernel⟩
theorem vm_X4_isTaken : cv_VM yX4_isTaken cX4_isTaken 2 (some .boolean) 0 := ⟨(cv_mT 999 (by decide +kernel) rfl), (cv_mS 35 (by decide +kernel) rfl), (cv_mT 9 (by decide +kernel) rfl), (cv_mT 1000 (by decide +kernel) rfl), by decide +kernel, by decide +kernel, by decide +kernel⟩
theorem vm_X4_perform : cv_VM yX4_perform cX4_perform 4 none 3 := ⟨(cv_mT 995 (by decide +kernel) rfl), (cv_mS 34 (by decide +kernel) rfl), (cv_mT 9 (by decide +kernel) rfl), (cv_mT 996 (by decide +kernel) rfl), by decide +kernel, by decide +kernel, by decide +kernel⟩
theorem vm_X5_collect : cv_VM yX5_collect cX5_collect 4 none 1 := ⟨(cv_mT 487 (by decide +kernel) rfl), (cv_mS 15 (by decide +kernel) rfl), (cv_mT 8 (by decide +kernel) rfl), (cv_mT 488 (by decide +kernel) rfl), by decide +kernel, by decide +kernel, by decide +kernel⟩
theorem vm_X5_differFor : cv_VM yX5_differFor cX5_differFor 4 (some .boolean) 1 := ⟨(cv_mT 837 (by decide +kernel) rfl), (cv_mT 838 (by decide +kernel) rfl), (cv_mT 8 (by decide +kernel) rfl), (cv_mT 839 (by decide +kernel) rfl), by decide +kernel, by decide +kernel, by decide +kernel⟩
theorem vm_X5_infer : cv_VM yX5_infer cX5_infer 2 none 0 := ⟨(cv_mT 482 (by decide +kernel) rfl), (cv_mT 483 (by decide +kernel) rfl), (cv_mT 8 (by decide +kernel) rfl), (cv_mT 484 (by decide +kernel) rfl), by decide +kernel, by decide +kernel, by decide +kernel⟩
theorem vm_X5_missing : cv_VM yX5_missing cX5_missing 3 (some .int) 1 := ⟨(cv_mT 520 (by decide +kernel) rfl), (cv_mT 521 (by decide +kernel) rfl), (cv_mT 8 (by decide +kernel) rfl), (cv_mT 522 (by decide +kernel) rfl), by decide +kernel, by decide +kernel, by decide +kernel⟩
theorem vm_X5_storedBehind : cv_VM yX5_storedBehind cX5_storedBehind 5 (some .int) 2 := ⟨(cv_mT 503 (by decide +kernel) rfl), (cv_mS 17 (by decide +kernel) rfl), (cv_mT 8 (by decide +kernel) rfl), (cv_mT 504 (by decide +kernel) rfl), by decide +kernel, by decide +kernel, by decide +kernel⟩
theorem vm_X5_visit : cv_VM yX5_visit cX5_visit 5 none 2 := ⟨(cv_mT 494 (by decide +kernel) rfl), (cv_mS 16 (by decide +kernel) rfl), (cv_mT 8 (by decide +kernel) rfl), (cv_mT 495 (by decide +kernel) rfl), by decide +kernel, by decide +kernel, by decide +kernel⟩
theorem vm_X6_digitsBehind : cv_SM yX6_digitsBehind cX6_digitsBehind 2 (some .int) 1 := ⟨(cv_mT 692 (by decide +kernel) rfl), (cv_mT 2 (by decide +kernel) rfl), (cv_mT 693 (by decide +kernel) rfl), by decide +kernel, by decide +kernel, by decide +kernel⟩
theorem vm_X6_findFault : cv_VM yX6_findFault cX6_findFault 7 (some .int) 0 := ⟨(cv_mT 689 (by decide +kernel) rfl), (cv_mS 23 (by decide +kernel) rfl), (cv_mT 2 (by decide +kernel) rfl), (cv_mT 690 (by decide +kernel) rfl), by decide +kernel, by decide +kernel, by decide +kernel⟩
theorem vm_X6_fits : cv_SM yX6_fits cX6_fits 2 (some .boolean) 2 := ⟨(cv_mT 695 (by decide +kernel) rfl), (cv_mT 2 (by decide +kernel) rfl), (cv_mT 696 (by decide +kernel) rfl), by decide +kernel, by decide +kernel, by decide +kernel⟩
theorem vm_X6_keep : cv_VM yX6_keep cX6_keep 3 none 2 := ⟨(cv_mT 699 (by decide +kernel) rfl), (cv_mS 24 (by decide +kernel) rfl), (cv_mT 2 (by decide +kernel) rfl), (cv_mT 700 (by decide +kernel) rfl), by decide +kernel, by decide +kernel, by decide +kernel⟩
theorem vm_X6_read : cv_VM yX6_read cX6_read 1 none 0 := ⟨(cv_mT 684 (by decide +kernel) rfl), (cv_mT 685 (by decide +kernel) rfl), (cv_mT 2 (by decide +kernel) rfl), (cv_mT 686 (by decide +kernel) rfl), by decide +kernel, by decide +kernel, by decide +kernel⟩
theorem vm_X7_agrees : cv_VM yX7_agrees cX7_agrees 3 (some .boolean) 2 := ⟨(cv_mT 382 (by decide +kernel) rfl), (cv_mS 4 (by decide +kernel) rfl), (cv_mT 5 (by decide +kernel) rfl), (cv_mT 383 (by decide +kernel) rfl), by decide +kernel, by decide +kernel, by decide +kernel⟩
theorem vm_X7_clobbered : cv_VM yX7_clobbered cX7_clobbered 2 (some .int) 1 := ⟨(cv_mT 407 (by decide +kernel) rfl), (cv_mT 408 (by decide +kernel) rfl), (cv_mT 5 (by decide +kernel) rfl), (cv_mT 409 (by decide +kernel) rfl), by decide +kernel, by decide +kernel, by decide +kernel⟩
theorem vm_X7_forget : cv_VM yX7_forget cX7_forget 3 none 1 := ⟨(cv_mT 412 (by decide +kernel) rfl), (cv_mS 8 (by decide +kernel) rfl), (cv_mT 5 (by decide +kernel) rfl), (cv_mT 413 (by decide +kernel) rfl), by decide +kernel, by decide +kernel, by decide +kernel⟩
theorem vm_X7_growth : cv_SM yX7_growth cX7_growth 1 (some .int) 1 := ⟨(cv_mT 377 (by decide +kernel) rfl), (cv_mT 5 (by decide +kernel) rfl), (cv_mT 378 (by decide +kernel) rfl), by decide +kernel, by decide +kernel, by decide +kernel⟩
theorem vm_X7_infer : cv_VM yX7_infer cX7_infer 5 none 0 := ⟨(cv_mT 367 (by decide +kernel) rfl), (cv_mT 368 (by decide +kernel) rfl), (cv_mT 5 (by decide +kernel) rfl), (cv_mT 369 (by decide +kernel) rfl), by decide +kernel, by decide +kernel, by decide +kernel⟩
theorem vm_X7_keptBy : cv_VM yX7_keptBy cX7_keptBy 5 (some .int) 1 := ⟨(cv_mT 387 (by decide +kernel) rfl), (cv_mS 5 (by decide +kernel) rfl), (cv_mT 5 (by decide +kernel) rfl), (cv_mT 388 (by decide +kernel) rfl), by decide +kernel, by decide +kernel, by decide +kernel⟩
theorem vm_X7_measure : cv_VM yX7_measure cX7_measure 5 (some .boolean) 1 := ⟨(cv_mT 372 (by decide +kernel) rfl), (cv_mS 3 (by decide +kernel) rfl), (cv_mT 5 (by decide +kernel) rfl), (cv_mT 373 (by decide +kernel) rfl), by decide +kernel, by decide +kernel, by decide +kernel⟩
theorem vm_X7_merge : cv_VM yX7_merge cX7_merge 5 none 1 := ⟨(cv_mT 391 (by decide +kernel) rfl), (cv_mS 6 (by decide +kernel) rfl), (cv_mT 5 (by decide +kernel) rfl), (cv_mT 392 (by decide +kernel) rfl), by decide +kernel, by decide +kernel, by decide +kernel⟩
theorem vm_X7_step : cv_VM yX7_step cX7_step 6 none 2 := ⟨(cv_mT 403 (by decide +kernel) rfl), (cv_mS 7 (by decide +kernel) rfl), (cv_mT 5 (by decide +kernel) rfl), (cv_mT 404 (by decide +kernel) rfl), by decide +kernel, by decide +kernel, by decide +kernel⟩
theorem vm_X8_checkFunction : cv_VM yX8_checkFunction cX8_checkFunction 2 none 1 := ⟨(cv_mT 668 (by decide +kernel) rfl), (cv_mS 22 (by decide +kernel) rfl), (cv_mT 1 (by decide +kernel) rfl), (cv_mT 669 (by decide +kernel) rfl), by decide +kernel, by decide +kernel, by decide +kernel⟩
theorem vm_X8_checkInstruction : cv_VM yX8_checkInstruction cX8_checkInstruction 3 none 2 := ⟨(cv_mT 730 (by decide +kernel) rfl), (cv_mS 26 (by decide +kernel) rfl), (cv_mT 1 (by decide +kernel) rfl), (cv_mT 731 (by decide +kernel) rfl), by decide +kernel, by decide +kernel, by decide +kernel⟩
theorem vm_X8_checkNotCut : cv_VM yX8_checkNotCut cX8_checkNotCut 1 none 0 := ⟨(cv_mT 1023 (by decide +kernel) rfl), (cv_mS 37 (by decide +kernel) rfl), (cv_mT 1 (by decide +kernel) rfl), (cv_mT 1024 (by decide +kernel) rfl), by decide +kernel, by decide +kernel, by decide +kernel⟩
theorem vm_X8_checkRegister : cv_VM yX8_checkRegister cX8_checkRegister 2 none 1 := ⟨(cv_mT 944 (by decide +kernel) rfl), (cv_mS 28 (by decide +kernel) rfl), (cv_mT 1 (by decide +kernel) rfl), (cv_mT 945 (by decide +kernel) rfl), by decide +kernel, by decide +kernel, by decide +kernel⟩
theorem vm_X8_checkRun : cv_VM yX8_checkRun cX8_checkRun 1 none 0 := ⟨(cv_mT 1011 (by decide +kernel) rfl), (cv_mS 36 (by decide +kernel) rfl), (cv_mT 1 (by decide +kernel) rfl), (cv_mT 1012 (by decide +kernel) rfl), by decide +kernel, by decide +kernel, by decide +kernel⟩
theorem vm_X8_checkSite : cv_VM yX8_checkSite cX8_checkSite 2 none 1 := ⟨(cv_mT 879 (by decide +kernel) rfl), (cv_mS 27 (by decide +kernel) rfl), (cv_mT 1 (by decide +kernel) rfl), (cv_mT 880 (by decide +kernel) rfl), by decide +kernel, by decide +kernel, by decide +kernel⟩
theorem vm_X8_contains : cv_SM yX8_contains cX8_contains 2 (some .boolean) 2 := ⟨(cv_mT 340 (by decide +kernel) rfl), (cv_mT 1 (by decide +kernel) rfl), (cv_mT 341 (by decide +kernel) rfl), by decide +kernel, by decide +kernel, by decide +kernel⟩
theorem vm_X8_countProblems : cv_VM yX8_countProblems cX8_countProblems 3 (some .int) 0 := ⟨(cv_mT 513 (by decide +kernel) rfl), (cv_mS 18 (by decide +kernel) rfl), (cv_mT 1 (by decide +kernel) rfl), (cv_mT 514 (by decide +kernel) rfl), by decide +kernel, by decide +kernel, by decide +kernel⟩
theorem vm_X8_countVotes : cv_VM yX8_countVotes cX8_countVotes 5 (some .int) 2 := ⟨(cv_mT 950 (by decide +kernel) rfl), (cv_mS 29 (by decide +kernel) rfl), (cv_mT 1 (by decide +kernel) rfl), (cv_mT 951 (by decide +kernel) rfl), by decide +kernel, by decide +kernel, by decide +kernel⟩
theorem vm_X8_forgetFacts : cv_VM yX8_forgetFacts cX8_forgetFacts 1 none 0 := ⟨(cv_mT 712 (by decide +kernel) rfl), (cv_mS 25 (by decide +kernel) rfl), (cv_mT 1 (by decide +kernel) rfl), (cv_mT 713 (by decide +kernel) rfl), by decide +kernel, by decide +kernel, by decide +kernel⟩
theorem vm_X8_hasProblem : cv_VM yX8_hasProblem cX8_hasProblem 2 (some .boolean) 1 := ⟨(cv_mT 517 (by decide +kernel) rfl), (cv_mS 19 (by decide +kernel) rfl), (cv_mT 1 (by decide +kernel) rfl), (cv_mT 518 (by decide +kernel) rfl), by decide +kernel, by decide +kernel, by decide +kernel⟩
theorem vm_X8_inferFacts : cv_VM yX8_inferFacts cX8_inferFacts 1 none 0 := ⟨(cv_mT 325 (by decide +kernel) rfl), (cv_mS 0 (by decide +kernel) rfl), (cv_mT 1 (by decide +kernel) rfl), (cv_mT 326 (by decide +kernel) rfl), by decide +kernel, by decide +kernel, by decide +kernel⟩
theorem vm_X8_lostAt : cv_VM yX8_lostAt cX8_lostAt 4 (some .int) 1 := ⟨(cv_mT 525 (by decide +kernel) rfl), (cv_mS 20 (by decide +kernel) rfl), (cv_mT 1 (by decide +kernel) rfl), (cv_mT 526 (by decide +kernel) rfl), by decide +kernel, by decide +kernel, by decide +kernel⟩
theorem vm_X8_votedFor : cv_VM yX8_votedFor cX8_votedFor 3 (some .int) 2 := ⟨(cv_mT 954 (by decide +kernel) rfl), (cv_mS 30 (by decide +kernel) rfl), (cv_mT 1 (by decide +kernel) rfl), (cv_mT 955 (by decide +kernel) rfl), by decide +kernel, by decide +kernel, by decide +kernel⟩
theorem vm_X9_beginSets : cv_VM yX9_beginSets cX9_beginSets 3 none 1 := ⟨(cv_mT 1294 (by decide +kernel) rfl), (cv_mS 51 (by decide +kernel) rfl), (cv_mT 10 (by decide +kernel) rfl), (cv_mT 1295 (by decide +kernel) rfl), by decide +kernel, by decide +kernel, by decide +kernel⟩
theorem vm_X9_bodyMany : cv_VM yX9_bodyMany cX9_bodyMany 3 (some .int) 0 := ⟨(cv_mT 1497 (by decide +kernel) rfl), (cv_mS 79 (by decide +kernel) rfl), (cv_mT 10 (by decide +kernel) rfl), (cv_mT 1498 (by decide +kernel) rfl), by decide +kernel, by decide +kernel, by decide +kernel⟩
theorem vm_X9_bringSet : cv_VM yX9_bringSet cX9_bringSet 5 none 3 := ⟨(cv_mT 1298 (by decide +kernel) rfl), (cv_mS 52 (by decide +kernel) rfl), (cv_mT 10 (by decide +kernel) rfl), (cv_mT 1299 (by decide +kernel) rfl), by decide +kernel, by decide +kernel, by decide +kernel⟩
theorem vm_X9_calleeOf : cv_VM yX9_calleeOf cX9_calleeOf 2 (some .int) 1 := ⟨(cv_mT 1363 (by decide +kernel) rfl), (cv_mS 68 (by decide +kernel) rfl), (cv_mT 10 (by decide +kernel) rfl), (cv_mT 1364 (by decide +kernel) rfl), by decide +kernel, by decide +kernel, by decide +kernel⟩
theorem vm_X9_calleesOf : cv_VM yX9_calleesOf cX9_calleesOf 4 (some .int) 1 := ⟨(cv_mT 1416 (by decide +kernel) rfl), (cv_mS 72 (by decide +kernel) rfl), (cv_mT 10 (by decide +kernel) rfl), (cv_mT 1417 (by decide +kernel) rfl), by decide +kernel, by decide +kernel, by decide +kernel⟩
theorem vm_X9_changed : cv_VM yX9_changed cX9_changed 1 none 0 := ⟨(cv_mT 1229 (by decide +kernel) rfl), (cv_mS 41 (by decide +kernel) rfl), (cv_mT 10 (by decide +kernel) rfl), (cv_mT 1230 (by decide +kernel) rfl), by decide +kernel, by decide +kernel, by decide +kernel⟩
theorem vm_X9_clobbered : cv_VM yX9_clobbered cX9_clobbered 2 (some .int) 1 := ⟨(cv_mT 1355 (by decide +kernel) rfl), (cv_mS 66 (by decide +kernel) rfl), (cv_mT 10 (by decide +kernel) rfl), (cv_mT 1356 (by decide +kernel) rfl), by decide +kernel, by decide +kernel, by decide +kernel⟩
theorem vm_X9_comes : cv_VM yX9_comes cX9_comes 5 (some .boolean) 2 := ⟨(cv_mT 1314 (by decide +kernel) rfl), (cv_mS 56 (by decide +kernel) rfl), (cv_mT 10 (by decide +kernel) rfl), (cv_mT 1315 (by decide +kernel) rfl), by decide +kernel, by decide +kernel, by decide +kernel⟩
theorem vm_X9_countVotes : cv_VM yX9_countVotes cX9_countVotes 6 (some .int) 2 := ⟨(cv_mT 1489 (by decide +kernel) rfl), (cv_mS 78 (by decide +kernel) rfl), (cv_mT 10 (by decide +kernel) rfl), (cv_mT 1490 (by decide +kernel) rfl), by decide +kernel, by decide +kernel, by decide +kernel⟩
theorem vm_X9_cuts : cv_VM yX9_cuts cX9_cuts 5 (some .boolean) 3 := ⟨(cv_mT 1509 (by decide +kernel) rfl), (cv_mS 81 (by decide +kernel) rfl), (cv_mT 10 (by decide +kernel) rfl), (cv_mT 1510 (by decide +kernel) rfl), by decide +kernel, by decide +kernel, by decide +kernel⟩
theorem vm_X9_definedBy : cv_VM yX9_definedBy cX9_definedBy 5 (some .int) 1 := ⟨(cv_mT 1331 (by decide +kernel) rfl), (cv_mS 60 (by decide +kernel) rfl), (cv_mT 10 (by decide +kernel) rfl), (cv_mT 1332 (by decide +kernel) rfl), by decide +kernel, by decide +kernel, by decide +kernel⟩
theorem vm_X9_digit : cv_VM yX9_digit cX9_digit 3 (some .int) 2 := ⟨(cv_mT 1225 (by decide +kernel) rfl), (cv_mS 40 (by decide +kernel) rfl), (cv_mT 10 (by decide +kernel) rfl), (cv_mT 1226 (by decide +kernel) rfl), by decide +kernel, by decide +kernel, by decide +kernel⟩
theorem vm_X9_does : cv_VM yX9_does cX9_does 6 (some .int) 3 := ⟨(cv_mT 1319 (by decide +kernel) rfl), (cv_mS 57 (by decide +kernel) rfl), (cv_mT 10 (by decide +kernel) rfl), (cv_mT 1320 (by decide +kernel) rfl), by decide +kernel, by decide +kernel, by decide +kernel⟩
theorem vm_X9_execute : cv_VM yX9_execute cX9_execute 5 none 2 := ⟨(cv_mT 1505 (by decide +kernel) rfl), (cv_mS 80 (by decide +kernel) rfl), (cv_mT 10 (by decide +kernel) rfl), (cv_mT 1506 (by decide +kernel) rfl), by decide +kernel, by decide +kernel, by decide +kernel⟩
theorem vm_X9_findArguments : cv_VM yX9_findArguments cX9_findArguments 4 none 0 := ⟨(cv_mT 1335 (by decide +kernel) rfl), (cv_mS 61 (by decide +kernel) rfl), (cv_mT 10 (by decide +kernel) rfl), (cv_mT 1336 (by decide +kernel) rfl), by decide +kernel, by decide +kernel, by decide +kernel⟩
theorem vm_X9_findDefined : cv_VM yX9_findDefined cX9_findDefined 4 none 0 := ⟨(cv_mT 1327 (by decide +kernel) rfl), (cv_mS 59 (by decide +kernel) rfl), (cv_mT 10 (by decide +kernel) rfl), (cv_mT 1328 (by decide +kernel) rfl), by decide +kernel, by decide +kernel, by decide +kernel⟩
theorem vm_X9_findLive : cv_VM yX9_findLive cX9_findLive 3 none 1 := ⟨(cv_mT 1339 (by decide +kernel) rfl), (cv_mS 62 (by decide +kernel) rfl), (cv_mT 10 (by decide +kernel) rfl), (cv_mT 1340 (by decide +kernel) rfl), by decide +kernel, by decide +kernel, by decide +kernel⟩
theorem vm_X9_findPassed : cv_VM yX9_findPassed cX9_findPassed 4 none 1 := ⟨(cv_mT 1290 (by decide +kernel) rfl), (cv_mS 50 (by decide +kernel) rfl), (cv_mT 10 (by decide +kernel) rfl), (cv_mT 1291 (by decide +kernel) rfl), by decide +kernel, by decide +kernel, by decide +kernel⟩
theorem vm_X9_findPreserved : cv_VM yX9_findPreserved cX9_findPreserved 4 none 0 := ⟨(cv_mT 1306 (by decide +kernel) rfl), (cv_mS 54 (by decide +kernel) rfl), (cv_mT 10 (by decide +kernel) rfl), (cv_mT 1307 (by decide +kernel) rfl), by decide +kernel, by decide +kernel, by decide +kernel⟩
theorem vm_X9_findReached : cv_VM yX9_findReached cX9_findReached 4 none 1 := ⟨(cv_mT 1277 (by decide +kernel) rfl), (cv_mS 47 (by decide +kernel) rfl), (cv_mT 10 (by decide +kernel) rfl), (cv_mT 1278 (by decide +kernel) rfl), by decide +kernel, by decide +kernel, by decide +kernel⟩
theorem vm_X9_findSites : cv_VM yX9_findSites cX9_findSites 3 none 0 := ⟨(cv_mT 1302 (by decide +kernel) rfl), (cv_mS 53 (by decide +kernel) rfl), (cv_mT 10 (by decide +kernel) rfl), (cv_mT 1303 (by decide +kernel) rfl), by decide +kernel, by decide +kernel, by decide +kernel⟩
theorem vm_X9_first : cv_VM yX9_first cX9_first 3 (some .int) 2 := ⟨(cv_mT 1257 (by decide +kernel) rfl), (cv_mS 44 (by decide +kernel) rfl), (cv_mT 10 (by decide +kernel) rfl), (cv_mT 1258 (by decide +kernel) rfl), by decide +kernel, by decide +kernel, by decide +kernel⟩
theorem vm_X9_follows : cv_VM yX9_follows cX9_follows 6 (some .boolean) 1 := ⟨(cv_mT 1310 (by decide +kernel) rfl), (cv_mS 55 (by decide +kernel) rfl), (cv_mT 10 (by decide +kernel) rfl), (cv_mT 1311 (by decide +kernel) rfl), by decide +kernel, by decide +kernel, by decide +kernel⟩
theorem vm_X9_here : cv_VM yX9_here cX9_here 1 (some .int) 0 := ⟨(cv_mT 1221 (by decide +kernel) rfl), (cv_mS 39 (by decide +kernel) rfl), (cv_mT 10 (by decide +kernel) rfl), (cv_mT 1222 (by decide +kernel) rfl), by decide +kernel, by decide +kernel, by decide +kernel⟩
theorem vm_X9_in : cv_SM yX9_in cX9_in 6 (some .boolean) 3 := ⟨(cv_mT 1205 (by decide +kernel) rfl), (cv_mT 10 (by decide +kernel) rfl), (cv_mT 1206 (by decide +kernel) rfl), by decide +kernel, by decide +kernel, by decide +kernel⟩
theorem vm_X9_infer : cv_VM yX9_infer cX9_infer 2 none 0 := ⟨(cv_mT 1273 (by decide +kernel) rfl), (cv_mS 46 (by decide +kernel) rfl), (cv_mT 10 (by decide +kernel) rfl), (cv_mT 1274 (by decide +kernel) rfl), by decide +kernel, by decide +kernel, by decide +kernel⟩
theorem vm_X9_isFunction : cv_SM yX9_isFunction cX9_isFunction 1 (some .boolean) 1 := ⟨(cv_mT 1212 (by decide +kernel) rfl), (cv_mT 10 (by decide +kernel) rfl), (cv_mT 1213 (by decide +kernel) rfl), by decide +kernel, by decide +kernel, by decide +kernel⟩
theorem vm_X9_isInstruction : cv_VM yX9_isInstruction cX9_isInstruction 3 (some .boolean) 2 := ⟨(cv_mT 1245 (by decide +kernel) rfl), (cv_mS 42 (by decide +kernel) rfl), (cv_mT 10 (by decide +kernel) rfl), (cv_mT 1246 (by decide +kernel) rfl), by decide +kernel, by decide +kernel, by decide +kernel⟩
theorem vm_X9_isProblem : cv_VM yX9_isProblem cX9_isProblem 2 (some .boolean) 1 := ⟨(cv_mT 1473 (by decide +kernel) rfl), (cv_mS 77 (by decide +kernel) rfl), (cv_mT 10 (by decide +kernel) rfl), (cv_mT 1474 (by decide +kernel) rfl), by decide +kernel, by decide +kernel, by decide +kernel⟩
theorem vm_X9_isRegister : cv_SM yX9_isRegister cX9_isRegister 1 (some .boolean) 1 := ⟨(cv_mT 1484 (by decide +kernel) rfl), (cv_mT 10 (by decide +kernel) rfl), (cv_mT 1485 (by decide +kernel) rfl), by decide +kernel, by decide +kernel, by decide +kernel⟩
theorem vm_X9_isSite : cv_VM yX9_isSite cX9_isSite 2 (some .boolean) 1 := ⟨(cv_mT 1436 (by decide +kernel) rfl), (cv_mS 73 (by decide +kernel) rfl), (cv_mT 10 (by decide +kernel) rfl), (cv_mT 1437 (by decide +kernel) rfl), by decide +kernel, by decide +kernel, by decide +kernel⟩
theorem vm_X9_kind : cv_VM yX9_kind cX9_kind 3 (some .int) 2 := ⟨(cv_mT 1249 (by decide +kernel) rfl), (cv_mS 43 (by decide +kernel) rfl), (cv_mT 10 (by decide +kernel) rfl), (cv_mT 1250 (by decide +kernel) rfl), by decide +kernel, by decide +kernel, by decide +kernel⟩
theorem vm_X9_liveBehind : cv_VM yX9_liveBehind cX9_liveBehind 3 (some .int) 2 := ⟨(cv_mT 1347 (by decide +kernel) rfl), (cv_mS 64 (by decide +kernel) rfl), (cv_mT 10 (by decide +kernel) rfl), (cv_mT 1348 (by decide +kernel) rfl), by decide +kernel, by decide +kernel, by decide +kernel⟩
theorem vm_X9_liveBehindCalls : cv_VM yX9_liveBehindCalls cX9_liveBehindCalls 4 (some .int) 1 := ⟨(cv_mT 1359 (by decide +kernel) rfl), (cv_mS 67 (by decide +kernel) rfl), (cv_mT 10 (by decide +kernel) rfl), (cv_mT 1360 (by decide +kernel) rfl), by decide +kernel, by decide +kernel, by decide +kernel⟩
theorem vm_X9_lostAt : cv_VM yX9_lostAt cX9_lostAt 3 (some .int) 1 := ⟨(cv_mT 1457 (by decide +kernel) rfl), (cv_mS 75 (by decide +kernel) rfl), (cv_mT 10 (by decide +kernel) rfl), (cv_mT 1458 (by decide +kernel) rfl), by decide +kernel, by decide +kernel, by decide +kernel⟩
theorem vm_X9_missingAt : cv_VM yX9_missingAt cX9_missingAt 2 (some .int) 1 := ⟨(cv_mT 1449 (by decide +kernel) rfl), (cv_mS 74 (by decide +kernel) rfl), (cv_mT 10 (by decide +kernel) rfl), (cv_mT 1450 (by decide +kernel) rfl), by decide +kernel, by decide +kernel, by decide +kernel⟩
theorem vm_X9_neededBy : cv_VM yX9_neededBy cX9_neededBy 4 (some .int) 1 := ⟨(cv_mT 1399 (by decide +kernel) rfl), (cv_mS 70 (by decide +kernel) rfl), (cv_mT 10 (by decide +kernel) rfl), (cv_mT 1400 (by decide +kernel) rfl), by decide +kernel, by decide +kernel, by decide +kernel⟩
theorem vm_X9_next : cv_VM yX9_next cX9_next 5 (some .int) 3 := ⟨(cv_mT 1285 (by decide +kernel) rfl), (cv_mS 49 (by decide +kernel) rfl), (cv_mT 10 (by decide +kernel) rfl), (cv_mT 1286 (by decide +kernel) rfl), by decide +kernel, by decide +kernel, by decide +kernel⟩
theorem vm_X9_ofFunction : cv_VM yX9_ofFunction cX9_ofFunction 3 (some .int) 2 := ⟨(cv_mT 1375 (by decide +kernel) rfl), (cv_mS 69 (by decide +kernel) rfl), (cv_mT 10 (by decide +kernel) rfl), (cv_mT 1376 (by decide +kernel) rfl), by decide +kernel, by decide +kernel, by decide +kernel⟩
theorem vm_X9_passedAt : cv_VM yX9_passedAt cX9_passedAt 2 (some .int) 1 := ⟨(cv_mT 1408 (by decide +kernel) rfl), (cv_mS 71 (by decide +kernel) rfl), (cv_mT 10 (by decide +kernel) rfl), (cv_mT 1409 (by decide +kernel) rfl), by decide +kernel, by decide +kernel, by decide +kernel⟩
theorem vm_X9_preservedBy : cv_VM yX9_preservedBy cX9_preservedBy 4 (some .int) 1 := ⟨(cv_mT 1323 (by decide +kernel) rfl), (cv_mS 58 (by decide +kernel) rfl), (cv_mT 10 (by decide +kernel) rfl), (cv_mT 1324 (by decide +kernel) rfl), by decide +kernel, by decide +kernel, by decide +kernel⟩
theorem vm_X9_problemMany : cv_VM yX9_problemMany cX9_problemMany 3 (some .int) 0 := ⟨(cv_mT 1469 (by decide +kernel) rfl), (cv_mS 76 (by decide +kernel) rfl), (cv_mT 10 (by decide +kernel) rfl), (cv_mT 1470 (by decide +kernel) rfl), by decide +kernel, by decide +kernel, by decide +kernel⟩
theorem vm_X9_reached : cv_VM yX9_reached cX9_reached 3 (some .boolean) 2 := ⟨(cv_mT 1281 (by decide +kernel) rfl), (cv_mS 48 (by decide +kernel) rfl), (cv_mT 10 (by decide +kernel) rfl), (cv_mT 1282 (by decide +kernel) rfl), by decide +kernel, by decide +kernel, by decide +kernel⟩
theorem vm_X9_readInstruction : cv_VM yX9_readInstruction cX9_readInstruction 3 none 0 := ⟨(cv_mT 1217 (by decide +kernel) rfl), (cv_mS 38 (by decide +kernel) rfl), (cv_mT 10 (by decide +kernel) rfl), (cv_mT 1218 (by decide +kernel) rfl), by decide +kernel, by decide +kernel, by decide +kernel⟩
theorem vm_X9_reads : cv_VM yX9_reads cX9_reads 4 (some .int) 2 := ⟨(cv_mT 1343 (by decide +kernel) rfl), (cv_mS 63 (by decide +kernel) rfl), (cv_mT 10 (by decide +kernel) rfl), (cv_mT 1344 (by decide +kernel) rfl), by decide +kernel, by decide +kernel, by decide +kernel⟩
theorem vm_X9_second : cv_VM yX9_second cX9_second 3 (some .int) 2 := ⟨(cv_mT 1261 (by decide +kernel) rfl), (cv_mS 45 (by decide +kernel) rfl), (cv_mT 10 (by decide +kernel) rfl), (cv_mT 1262 (by decide +kernel) rfl), by decide +kernel, by decide +kernel, by decide +kernel⟩
theorem vm_X9_step : cv_VM yX9_step cX9_step 6 none 3 := ⟨(cv_mT 1513 (by decide +kernel) rfl), (cv_mS 82 (by decide +kernel) rfl), (cv_mT 10 (by decide +kernel) rfl), (cv_mT 1514 (by decide +kernel) rfl), by decide +kernel, by decide +kernel, by decide +kernel⟩
theorem vm_X9_writes : cv_VM yX9_writes cX9_writes 4 (some .int) 2 := ⟨(cv_mT 1351 (by decide +kernel) rfl), (cv_mS 65 (by decide +kernel) rfl), (cv_mT 10 (by decide +kernel) rfl), (cv_mT 1352 (by decide +kernel) rfl), by decide +kernel, by decide +kernel, by decide +kernel⟩
