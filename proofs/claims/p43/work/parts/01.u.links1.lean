theorem xk_b_10 : (Int8.ofInt (10)).toInt32 = 10 := by decide
theorem xk_b_100 : (Int8.ofInt (100)).toInt32 = 100 := by decide
theorem xk_b_101 : (Int8.ofInt (101)).toInt32 = 101 := by decide
theorem xk_b_102 : (Int8.ofInt (102)).toInt32 = 102 := by decide
theorem xk_b_103 : (Int8.ofInt (103)).toInt32 = 103 := by decide
theorem xk_b_104 : (Int8.ofInt (104)).toInt32 = 104 := by decide
theorem xk_b_105 : (Int8.ofInt (105)).toInt32 = 105 := by decide
theorem xk_b_106 : (Int8.ofInt (106)).toInt32 = 106 := by decide
theorem xk_b_107 : (Int8.ofInt (107)).toInt32 = 107 := by decide
theorem xk_b_108 : (Int8.ofInt (108)).toInt32 = 108 := by decide
theorem xk_b_116 : (Int8.ofInt (116)).toInt32 = 116 := by decide
theorem xk_b_117 : (Int8.ofInt (117)).toInt32 = 117 := by decide
theorem xk_b_118 : (Int8.ofInt (118)).toInt32 = 118 := by decide
theorem xk_b_119 : (Int8.ofInt (119)).toInt32 = 119 := by decide
theorem xk_b_12 : (Int8.ofInt (12)).toInt32 = 12 := by decide
theorem xk_b_120 : (Int8.ofInt (120)).toInt32 = 120 := by decide
theorem xk_b_121 : (Int8.ofInt (121)).toInt32 = 121 := by decide
theorem xk_b_122 : (Int8.ofInt (122)).toInt32 = 122 := by decide
theorem xk_b_14 : (Int8.ofInt (14)).toInt32 = 14 := by decide
theorem xk_b_16 : (Int8.ofInt (16)).toInt32 = 16 := by decide
theorem xk_b_20 : (Int8.ofInt (20)).toInt32 = 20 := by decide
theorem xk_b_24 : (Int8.ofInt (24)).toInt32 = 24 := by decide
theorem xk_b_32 : (Int8.ofInt (32)).toInt32 = 32 := by decide
theorem xk_b_40 : (Int8.ofInt (40)).toInt32 = 40 := by decide
theorem xk_b_41 : (Int8.ofInt (41)).toInt32 = 41 := by decide
theorem xk_b_42 : (Int8.ofInt (42)).toInt32 = 42 := by decide
theorem xk_b_43 : (Int8.ofInt (43)).toInt32 = 43 := by decide
theorem xk_b_45 : (Int8.ofInt (45)).toInt32 = 45 := by decide
theorem xk_b_47 : (Int8.ofInt (47)).toInt32 = 47 := by decide
theorem xk_b_48 : (Int8.ofInt (48)).toInt32 = 48 := by decide
theorem xk_b_50 : (Int8.ofInt (50)).toInt32 = 50 := by decide
theorem xk_b_57 : (Int8.ofInt (57)).toInt32 = 57 := by decide
theorem xk_b_59 : (Int8.ofInt (59)).toInt32 = 59 := by decide
theorem xk_b_6 : (Int8.ofInt (6)).toInt32 = 6 := by decide
theorem xk_b_60 : (Int8.ofInt (60)).toInt32 = 60 := by decide
theorem xk_b_61 : (Int8.ofInt (61)).toInt32 = 61 := by decide
theorem xk_b_62 : (Int8.ofInt (62)).toInt32 = 62 := by decide
theorem xk_b_63 : (Int8.ofInt (63)).toInt32 = 63 := by decide
theorem xk_b_65 : (Int8.ofInt (65)).toInt32 = 65 := by decide
theorem xk_b_7 : (Int8.ofInt (7)).toInt32 = 7 := by decide
theorem xk_b_8 : (Int8.ofInt (8)).toInt32 = 8 := by decide
theorem xk_b_9 : (Int8.ofInt (9)).toInt32 = 9 := by decide
theorem xk_b_90 : (Int8.ofInt (90)).toInt32 = 90 := by decide
theorem xk_b_97 : (Int8.ofInt (97)).toInt32 = 97 := by decide
theorem xk_b_99 : (Int8.ofInt (99)).toInt32 = 99 := by decide
theorem xk_b_m2 : (Int8.ofInt (-2)).toInt32 = -2 := by decide
theorem xk_c_0 : Int32.ofInt (0) = 0 := by decide
theorem xk_c_1 : Int32.ofInt (1) = 1 := by decide
theorem xk_c_2 : Int32.ofInt (2) = 2 := by decide
theorem xk_c_3 : Int32.ofInt (3) = 3 := by decide
theorem xk_c_4 : Int32.ofInt (4) = 4 := by decide
theorem xk_c_5 : Int32.ofInt (5) = 5 := by decide
theorem xk_c_m1 : Int32.ofInt (-1) = -1 := by decide
theorem xk_c_m8 : Int32.ofInt (-8) = -8 := by decide
theorem xk_s_1000 : (Int16.ofInt (1000)).toInt32 = 1000 := by decide
theorem xk_s_10000 : (Int16.ofInt (10000)).toInt32 = 10000 := by decide
theorem xk_s_20000 : (Int16.ofInt (20000)).toInt32 = 20000 := by decide
theorem xk_s_20101 : (Int16.ofInt (20101)).toInt32 = 20101 := by decide
theorem xk_s_20102 : (Int16.ofInt (20102)).toInt32 = 20102 := by decide
theorem xk_s_20103 : (Int16.ofInt (20103)).toInt32 = 20103 := by decide
theorem xk_s_255 : (Int16.ofInt (255)).toInt32 = 255 := by decide
theorem xk_s_365 : (Int16.ofInt (365)).toInt32 = 365 := by decide
theorem xk_s_400 : (Int16.ofInt (400)).toInt32 = 400 := by decide
theorem xk_s_999 : (Int16.ofInt (999)).toInt32 = 999 := by decide
theorem xk_s_9999 : (Int16.ofInt (9999)).toInt32 = 9999 := by decide
theorem kt_J6_265 : Jvm.Cond.constant RJ6 265 (1431655765) ∈ xc_T := xc_in2 xt_2 154 rfl rfl
theorem kt_J6_266 : Jvm.Cond.constant RJ6 266 (858993459) ∈ xc_T := xc_in2 xt_2 155 rfl rfl
theorem kt_J6_267 : Jvm.Cond.constant RJ6 267 (252645135) ∈ xc_T := xc_in2 xt_2 156 rfl rfl
theorem kt_X8_216 : Jvm.Cond.constant RX8 216 (1664525) ∈ xc_T := xc_in2 xt_3 22 rfl rfl
theorem kt_X8_217 : Jvm.Cond.constant RX8 217 (1013904223) ∈ xc_T := xc_in2 xt_3 23 rfl rfl
theorem lc_X0_37 : xc_Lc RX0 37 := ⟨xc_in2 xt_2 184 rfl rfl, xc_in2 xt_2 186 rfl rfl, xc_in2 xt_2 185 rfl rfl, xc_in2 xt_1 18 rfl rfl⟩
theorem lc_X1_37 : xc_Lc RX1 37 := ⟨xc_in2 xt_5 214 rfl rfl, xc_in2 xt_2 186 rfl rfl, xc_in2 xt_2 185 rfl rfl, xc_in2 xt_1 18 rfl rfl⟩
theorem lc_X2_25 : xc_Lc RX2 25 := ⟨xc_in2 xt_5 209 rfl rfl, xc_in2 xt_2 186 rfl rfl, xc_in2 xt_2 185 rfl rfl, xc_in2 xt_1 18 rfl rfl⟩
theorem lc_X4_28 : xc_Lc RX4 28 := ⟨xc_in2 xt_5 220 rfl rfl, xc_in2 xt_2 186 rfl rfl, xc_in2 xt_2 185 rfl rfl, xc_in2 xt_1 18 rfl rfl⟩
theorem fl_X0_15 : Cond.fieldLink RX0 15 RX0 (TX0 4).2.1 (TX0 4).2.2.1 ∈ xc_T := xc_in2 xt_1 55 rfl rfl
theorem fl_X0_18 : Cond.fieldLink RX0 18 RX0 (TX0 5).2.1 (TX0 5).2.2.1 ∈ xc_T := xc_in2 xt_1 58 rfl rfl
theorem fl_X0_21 : Cond.fieldLink RX0 21 RX0 (TX0 6).2.1 (TX0 6).2.2.1 ∈ xc_T := xc_in2 xt_1 61 rfl rfl
theorem fl_X0_24 : Cond.fieldLink RX0 24 RX0 (TX0 7).2.1 (TX0 7).2.2.1 ∈ xc_T := xc_in2 xt_1 64 rfl rfl
theorem fl_X0_27 : Cond.fieldLink RX0 27 RX0 (TX0 0).2.1 (TX0 0).2.2.1 ∈ xc_T := xc_in2 xt_1 43 rfl rfl
theorem fl_X0_31 : Cond.fieldLink RX0 31 RX0 (TX0 1).2.1 (TX0 1).2.2.1 ∈ xc_T := xc_in2 xt_1 46 rfl rfl
theorem fl_X0_34 : Cond.fieldLink RX0 34 RX0 (TX0 2).2.1 (TX0 2).2.2.1 ∈ xc_T := xc_in2 xt_1 49 rfl rfl
theorem fl_X0_9 : Cond.fieldLink RX0 9 RX0 (TX0 3).2.1 (TX0 3).2.2.1 ∈ xc_T := xc_in2 xt_1 52 rfl rfl
theorem fl_X1_15 : Cond.fieldLink RX1 15 RX1 (TX1 3).2.1 (TX1 3).2.2.1 ∈ xc_T := xc_in2 xt_1 137 rfl rfl
theorem fl_X1_18 : Cond.fieldLink RX1 18 RX1 (TX1 4).2.1 (TX1 4).2.2.1 ∈ xc_T := xc_in2 xt_1 138 rfl rfl
theorem fl_X1_21 : Cond.fieldLink RX1 21 RX1 (TX1 5).2.1 (TX1 5).2.2.1 ∈ xc_T := xc_in2 xt_1 139 rfl rfl
theorem fl_X1_24 : Cond.fieldLink RX1 24 RX1 (TX1 6).2.1 (TX1 6).2.2.1 ∈ xc_T := xc_in2 xt_1 140 rfl rfl
theorem fl_X1_27 : Cond.fieldLink RX1 27 RX1 (TX1 7).2.1 (TX1 7).2.2.1 ∈ xc_T := xc_in2 xt_1 141 rfl rfl
theorem fl_X1_30 : Cond.fieldLink RX1 30 RX1 (TX1 0).2.1 (TX1 0).2.2.1 ∈ xc_T := xc_in2 xt_1 132 rfl rfl
theorem fl_X1_34 : Cond.fieldLink RX1 34 RX1 (TX1 1).2.1 (TX1 1).2.2.1 ∈ xc_T := xc_in2 xt_1 135 rfl rfl
theorem fl_X1_9 : Cond.fieldLink RX1 9 RX1 (TX1 2).2.1 (TX1 2).2.2.1 ∈ xc_T := xc_in2 xt_1 136 rfl rfl
theorem fl_X2_15 : Cond.fieldLink RX2 15 RX2 (TX2 2).2.1 (TX2 2).2.2.1 ∈ xc_T := xc_in2 xt_1 115 rfl rfl
theorem fl_X2_18 : Cond.fieldLink RX2 18 RX2 (TX2 3).2.1 (TX2 3).2.2.1 ∈ xc_T := xc_in2 xt_1 116 rfl rfl
theorem fl_X2_21 : Cond.fieldLink RX2 21 RX2 (TX2 0).2.1 (TX2 0).2.2.1 ∈ xc_T := xc_in2 xt_1 111 rfl rfl
theorem fl_X2_9 : Cond.fieldLink RX2 9 RX2 (TX2 1).2.1 (TX2 1).2.2.1 ∈ xc_T := xc_in2 xt_1 114 rfl rfl
theorem fl_X3_11 : Cond.fieldLink RX3 11 RX3 (TX3 2).2.1 (TX3 2).2.2.1 ∈ xc_T := xc_in2 xt_1 236 rfl rfl
theorem fl_X3_17 : Cond.fieldLink RX3 17 RX3 (TX3 3).2.1 (TX3 3).2.2.1 ∈ xc_T := xc_in2 xt_1 237 rfl rfl
theorem fl_X3_22 : Cond.fieldLink RX3 22 RX3 (TX3 1).2.1 (TX3 1).2.2.1 ∈ xc_T := xc_in2 xt_1 235 rfl rfl
theorem fl_X3_26 : Cond.fieldLink RX3 26 RX8 (TX8 6).2.1 (TX8 6).2.2.1 ∈ xc_T := xc_in2 xt_1 176 rfl rfl
theorem fl_X3_36 : Cond.fieldLink RX3 36 RX8 (TX8 7).2.1 (TX8 7).2.2.1 ∈ xc_T := xc_in2 xt_1 178 rfl rfl
theorem fl_X3_40 : Cond.fieldLink RX3 40 RX4 (TX4 0).2.1 (TX4 0).2.2.1 ∈ xc_T := xc_in2 xt_1 95 rfl rfl
theorem fl_X3_45 : Cond.fieldLink RX3 45 RX3 (TX3 0).2.1 (TX3 0).2.2.1 ∈ xc_T := xc_in2 xt_1 233 rfl rfl
theorem fl_X4_17 : Cond.fieldLink RX4 17 RX4 (TX4 1).2.1 (TX4 1).2.2.1 ∈ xc_T := xc_in2 xt_1 99 rfl rfl
theorem fl_X4_21 : Cond.fieldLink RX4 21 RX4 (TX4 0).2.1 (TX4 0).2.2.1 ∈ xc_T := xc_in2 xt_1 94 rfl rfl
theorem fl_X5_15 : Cond.fieldLink RX5 15 RX5 (TX5 0).2.1 (TX5 0).2.2.1 ∈ xc_T := xc_in2 xt_2 13 rfl rfl
theorem fl_X5_9 : Cond.fieldLink RX5 9 RX5 (TX5 1).2.1 (TX5 1).2.2.1 ∈ xc_T := xc_in2 xt_2 16 rfl rfl
theorem fl_X6_148 : Cond.fieldLink RX6 148 RX6 (TX6 7).2.1 (TX6 7).2.2.1 ∈ xc_T := xc_in2 xt_2 36 rfl rfl
theorem fl_X6_15 : Cond.fieldLink RX6 15 RX6 (TX6 4).2.1 (TX6 4).2.2.1 ∈ xc_T := xc_in2 xt_2 33 rfl rfl
theorem fl_X6_168 : Cond.fieldLink RX6 168 RX8 (TX8 0).2.1 (TX8 0).2.2.1 ∈ xc_T := xc_in2 xt_1 161 rfl rfl
theorem fl_X6_175 : Cond.fieldLink RX6 175 RX8 (TX8 3).2.1 (TX8 3).2.2.1 ∈ xc_T := xc_in2 xt_1 169 rfl rfl
theorem fl_X6_181 : Cond.fieldLink RX6 181 RX8 (TX8 1).2.1 (TX8 1).2.2.1 ∈ xc_T := xc_in2 xt_1 164 rfl rfl
theorem fl_X6_188 : Cond.fieldLink RX6 188 RX1 (TX1 0).2.1 (TX1 0).2.2.1 ∈ xc_T := xc_in2 xt_1 133 rfl rfl
theorem fl_X6_19 : Cond.fieldLink RX6 19 RX6 (TX6 5).2.1 (TX6 5).2.2.1 ∈ xc_T := xc_in2 xt_2 34 rfl rfl
theorem fl_X6_22 : Cond.fieldLink RX6 22 RX6 (TX6 6).2.1 (TX6 6).2.2.1 ∈ xc_T := xc_in2 xt_2 35 rfl rfl
theorem fl_X6_25 : Cond.fieldLink RX6 25 RX6 (TX6 0).2.1 (TX6 0).2.2.1 ∈ xc_T := xc_in2 xt_2 29 rfl rfl
theorem fl_X6_32 : Cond.fieldLink RX6 32 RX8 (TX8 11).2.1 (TX8 11).2.2.1 ∈ xc_T := xc_in2 xt_1 189 rfl rfl
theorem fl_X6_38 : Cond.fieldLink RX6 38 RX2 (TX2 0).2.1 (TX2 0).2.2.1 ∈ xc_T := xc_in2 xt_1 112 rfl rfl
theorem fl_X6_43 : Cond.fieldLink RX6 43 RX8 (TX8 12).2.1 (TX8 12).2.2.1 ∈ xc_T := xc_in2 xt_1 192 rfl rfl
theorem fl_X6_52 : Cond.fieldLink RX6 52 RX8 (TX8 8).2.1 (TX8 8).2.2.1 ∈ xc_T := xc_in2 xt_1 181 rfl rfl
theorem fl_X6_56 : Cond.fieldLink RX6 56 RX4 (TX4 0).2.1 (TX4 0).2.2.1 ∈ xc_T := xc_in2 xt_1 96 rfl rfl
theorem fl_X6_59 : Cond.fieldLink RX6 59 RX8 (TX8 9).2.1 (TX8 9).2.2.1 ∈ xc_T := xc_in2 xt_1 184 rfl rfl
theorem fl_X6_81 : Cond.fieldLink RX6 81 RX6 (TX6 2).2.1 (TX6 2).2.2.1 ∈ xc_T := xc_in2 xt_2 31 rfl rfl
theorem fl_X6_82 : Cond.fieldLink RX6 82 RX6 (TX6 3).2.1 (TX6 3).2.2.1 ∈ xc_T := xc_in2 xt_2 32 rfl rfl
theorem fl_X6_85 : Cond.fieldLink RX6 85 RX5 (TX5 0).2.1 (TX5 0).2.2.1 ∈ xc_T := xc_in2 xt_2 14 rfl rfl
theorem fl_X6_9 : Cond.fieldLink RX6 9 RX6 (TX6 1).2.1 (TX6 1).2.2.1 ∈ xc_T := xc_in2 xt_2 30 rfl rfl
theorem fl_X8_103 : Cond.fieldLink RX8 103 RX0 (TX0 6).2.1 (TX0 6).2.2.1 ∈ xc_T := xc_in2 xt_1 62 rfl rfl
theorem fl_X8_114 : Cond.fieldLink RX8 114 RX0 (TX0 3).2.1 (TX0 3).2.2.1 ∈ xc_T := xc_in2 xt_1 54 rfl rfl
theorem fl_X8_117 : Cond.fieldLink RX8 117 RX0 (TX0 4).2.1 (TX0 4).2.2.1 ∈ xc_T := xc_in2 xt_1 56 rfl rfl
theorem fl_X8_120 : Cond.fieldLink RX8 120 RX0 (TX0 5).2.1 (TX0 5).2.2.1 ∈ xc_T := xc_in2 xt_1 60 rfl rfl
theorem fl_X8_123 : Cond.fieldLink RX8 123 RX0 (TX0 7).2.1 (TX0 7).2.2.1 ∈ xc_T := xc_in2 xt_1 66 rfl rfl
theorem fl_X8_140 : Cond.fieldLink RX8 140 RX0 (TX0 1).2.1 (TX0 1).2.2.1 ∈ xc_T := xc_in2 xt_1 48 rfl rfl
theorem fl_X8_15 : Cond.fieldLink RX8 15 RX8 (TX8 4).2.1 (TX8 4).2.2.1 ∈ xc_T := xc_in2 xt_1 170 rfl rfl
theorem fl_X8_192 : Cond.fieldLink RX8 192 RX4 (TX4 0).2.1 (TX4 0).2.2.1 ∈ xc_T := xc_in2 xt_1 98 rfl rfl
theorem fl_X8_213 : Cond.fieldLink RX8 213 RX0 (TX0 0).2.1 (TX0 0).2.2.1 ∈ xc_T := xc_in2 xt_1 45 rfl rfl
theorem fl_X8_24 : Cond.fieldLink RX8 24 RX8 (TX8 6).2.1 (TX8 6).2.2.1 ∈ xc_T := xc_in2 xt_1 174 rfl rfl
theorem fl_X8_33 : Cond.fieldLink RX8 33 RX8 (TX8 7).2.1 (TX8 7).2.2.1 ∈ xc_T := xc_in2 xt_1 177 rfl rfl
theorem fl_X8_37 : Cond.fieldLink RX8 37 RX8 (TX8 8).2.1 (TX8 8).2.2.1 ∈ xc_T := xc_in2 xt_1 180 rfl rfl
theorem fl_X8_49 : Cond.fieldLink RX8 49 RX8 (TX8 11).2.1 (TX8 11).2.2.1 ∈ xc_T := xc_in2 xt_1 188 rfl rfl
theorem fl_X8_56 : Cond.fieldLink RX8 56 RX8 (TX8 12).2.1 (TX8 12).2.2.1 ∈ xc_T := xc_in2 xt_1 191 rfl rfl
theorem fl_X8_60 : Cond.fieldLink RX8 60 RX8 (TX8 13).2.1 (TX8 13).2.2.1 ∈ xc_T := xc_in2 xt_1 194 rfl rfl
theorem fl_X8_63 : Cond.fieldLink RX8 63 RX8 (TX8 0).2.1 (TX8 0).2.2.1 ∈ xc_T := xc_in2 xt_1 160 rfl rfl
theorem fl_X8_67 : Cond.fieldLink RX8 67 RX8 (TX8 1).2.1 (TX8 1).2.2.1 ∈ xc_T := xc_in2 xt_1 163 rfl rfl
theorem fl_X8_70 : Cond.fieldLink RX8 70 RX8 (TX8 2).2.1 (TX8 2).2.2.1 ∈ xc_T := xc_in2 xt_1 166 rfl rfl
theorem fl_X8_9 : Cond.fieldLink RX8 9 RX8 (TX8 3).2.1 (TX8 3).2.2.1 ∈ xc_T := xc_in2 xt_1 167 rfl rfl
theorem fl_X8_92 : Cond.fieldLink RX8 92 RX0 (TX0 2).2.1 (TX0 2).2.2.1 ∈ xc_T := xc_in2 xt_1 50 rfl rfl
theorem fl_X9_100 : Cond.fieldLink RX9 100 RX8 (TX8 5).2.1 (TX8 5).2.2.1 ∈ xc_T := xc_in2 xt_1 173 rfl rfl
theorem fl_X9_113 : Cond.fieldLink RX9 113 RX0 (TX0 5).2.1 (TX0 5).2.2.1 ∈ xc_T := xc_in2 xt_1 59 rfl rfl
theorem fl_X9_12 : Cond.fieldLink RX9 12 RX9 (TX9 0).2.1 (TX9 0).2.2.1 ∈ xc_T := xc_in2 xt_2 54 rfl rfl
theorem fl_X9_133 : Cond.fieldLink RX9 133 RX0 (TX0 1).2.1 (TX0 1).2.2.1 ∈ xc_T := xc_in2 xt_1 47 rfl rfl
theorem fl_X9_136 : Cond.fieldLink RX9 136 RX0 (TX0 2).2.1 (TX0 2).2.2.1 ∈ xc_T := xc_in2 xt_1 51 rfl rfl
theorem fl_X9_147 : Cond.fieldLink RX9 147 RX5 (TX5 0).2.1 (TX5 0).2.2.1 ∈ xc_T := xc_in2 xt_2 15 rfl rfl
theorem fl_X9_157 : Cond.fieldLink RX9 157 RX8 (TX8 11).2.1 (TX8 11).2.2.1 ∈ xc_T := xc_in2 xt_1 190 rfl rfl
theorem fl_X9_167 : Cond.fieldLink RX9 167 RX8 (TX8 9).2.1 (TX8 9).2.2.1 ∈ xc_T := xc_in2 xt_1 185 rfl rfl
theorem fl_X9_171 : Cond.fieldLink RX9 171 RX4 (TX4 0).2.1 (TX4 0).2.2.1 ∈ xc_T := xc_in2 xt_1 97 rfl rfl
theorem fl_X9_176 : Cond.fieldLink RX9 176 RX8 (TX8 12).2.1 (TX8 12).2.2.1 ∈ xc_T := xc_in2 xt_1 193 rfl rfl
theorem fl_X9_185 : Cond.fieldLink RX9 185 RX8 (TX8 8).2.1 (TX8 8).2.2.1 ∈ xc_T := xc_in2 xt_1 182 rfl rfl
theorem fl_X9_19 : Cond.fieldLink RX9 19 RX9 (TX9 2).2.1 (TX9 2).2.2.1 ∈ xc_T := xc_in2 xt_2 56 rfl rfl
theorem fl_X9_197 : Cond.fieldLink RX9 197 RX8 (TX8 3).2.1 (TX8 3).2.2.1 ∈ xc_T := xc_in2 xt_1 168 rfl rfl
theorem fl_X9_200 : Cond.fieldLink RX9 200 RX0 (TX0 4).2.1 (TX0 4).2.2.1 ∈ xc_T := xc_in2 xt_1 57 rfl rfl
theorem fl_X9_210 : Cond.fieldLink RX9 210 RX0 (TX0 6).2.1 (TX0 6).2.2.1 ∈ xc_T := xc_in2 xt_1 63 rfl rfl
theorem fl_X9_213 : Cond.fieldLink RX9 213 RX8 (TX8 7).2.1 (TX8 7).2.2.1 ∈ xc_T := xc_in2 xt_1 179 rfl rfl
theorem fl_X9_240 : Cond.fieldLink RX9 240 RX2 (TX2 0).2.1 (TX2 0).2.2.1 ∈ xc_T := xc_in2 xt_1 113 rfl rfl
theorem fl_X9_25 : Cond.fieldLink RX9 25 RX9 (TX9 3).2.1 (TX9 3).2.2.1 ∈ xc_T := xc_in2 xt_2 57 rfl rfl
theorem fl_X9_283 : Cond.fieldLink RX9 283 RX8 (TX8 10).2.1 (TX8 10).2.2.1 ∈ xc_T := xc_in2 xt_1 187 rfl rfl
theorem fl_X9_32 : Cond.fieldLink RX9 32 RX9 (TX9 4).2.1 (TX9 4).2.2.1 ∈ xc_T := xc_in2 xt_2 58 rfl rfl
theorem fl_X9_340 : Cond.fieldLink RX9 340 RX1 (TX1 0).2.1 (TX1 0).2.2.1 ∈ xc_T := xc_in2 xt_1 134 rfl rfl
theorem fl_X9_341 : Cond.fieldLink RX9 341 RX3 (TX3 0).2.1 (TX3 0).2.2.1 ∈ xc_T := xc_in2 xt_1 234 rfl rfl
theorem fl_X9_39 : Cond.fieldLink RX9 39 RX9 (TX9 5).2.1 (TX9 5).2.2.1 ∈ xc_T := xc_in2 xt_2 59 rfl rfl
theorem fl_X9_47 : Cond.fieldLink RX9 47 RX8 (TX8 6).2.1 (TX8 6).2.2.1 ∈ xc_T := xc_in2 xt_1 175 rfl rfl
theorem fl_X9_51 : Cond.fieldLink RX9 51 RX0 (TX0 0).2.1 (TX0 0).2.2.1 ∈ xc_T := xc_in2 xt_1 44 rfl rfl
theorem fl_X9_60 : Cond.fieldLink RX9 60 RX8 (TX8 0).2.1 (TX8 0).2.2.1 ∈ xc_T := xc_in2 xt_1 159 rfl rfl
theorem fl_X9_71 : Cond.fieldLink RX9 71 RX8 (TX8 1).2.1 (TX8 1).2.2.1 ∈ xc_T := xc_in2 xt_1 162 rfl rfl
theorem fl_X9_81 : Cond.fieldLink RX9 81 RX8 (TX8 2).2.1 (TX8 2).2.2.1 ∈ xc_T := xc_in2 xt_1 165 rfl rfl
theorem fl_X9_87 : Cond.fieldLink RX9 87 RX0 (TX0 7).2.1 (TX0 7).2.2.1 ∈ xc_T := xc_in2 xt_1 65 rfl rfl
theorem fl_X9_94 : Cond.fieldLink RX9 94 RX0 (TX0 3).2.1 (TX0 3).2.2.1 ∈ xc_T := xc_in2 xt_1 53 rfl rfl
theorem fl_X9_97 : Cond.fieldLink RX9 97 RX8 (TX8 4).2.1 (TX8 4).2.2.1 ∈ xc_T := xc_in2 xt_1 171 rfl rfl
theorem lm_J1_38 : xc_Lm RJ1 38 Lib.Math.min.name Lib.Math.min.code := ⟨xc_in2 xt_5 86 rfl rfl, xc_in2 xt_2 173 rfl rfl, xc_in2 xt_1 5 rfl rfl, xc_in2 xt_2 174 rfl rfl⟩
theorem lm_J1_92 : xc_Lm RJ1 92 Lib.Math.max.name Lib.Math.max.code := ⟨xc_in2 xt_5 85 rfl rfl, xc_in2 xt_1 92 rfl rfl, xc_in2 xt_1 5 rfl rfl, xc_in2 xt_1 93 rfl rfl⟩
theorem lm_X3_46 : xc_Lm RX3 46 Lib.Math.min.name Lib.Math.min.code := ⟨xc_in2 xt_2 187 rfl rfl, xc_in2 xt_2 173 rfl rfl, xc_in2 xt_1 5 rfl rfl, xc_in2 xt_2 174 rfl rfl⟩
theorem lm_X4_25 : xc_Lm RX4 25 Lib.Math.min.name Lib.Math.min.code := ⟨xc_in2 xt_5 219 rfl rfl, xc_in2 xt_2 173 rfl rfl, xc_in2 xt_1 5 rfl rfl, xc_in2 xt_2 174 rfl rfl⟩
theorem lm_X8_151 : xc_Lm RX8 151 Lib.Math.min.name Lib.Math.min.code := ⟨xc_in2 xt_2 172 rfl rfl, xc_in2 xt_2 173 rfl rfl, xc_in2 xt_1 5 rfl rfl, xc_in2 xt_2 174 rfl rfl⟩
theorem lm_X8_157 : xc_Lm RX8 157 Lib.Math.max.name Lib.Math.max.code := ⟨xc_in2 xt_2 175 rfl rfl, xc_in2 xt_1 92 rfl rfl, xc_in2 xt_1 5 rfl rfl, xc_in2 xt_1 93 rfl rfl⟩
theorem lk_J0_1059 : Cond.methodLink RJ0 1059 yJ3_checkIndex_8e157 ∈ xc_T := xc_in2 xt_5 0 rfl rfl
theorem lk_J0_335 : Cond.methodLink RJ0 335 yJ0_coder_7d493 ∈ xc_T := xc_in2 xt_4 95 rfl rfl
theorem lk_J0_492 : Cond.methodLink RJ0 492 yJ0_isLatin1_aae02 ∈ xc_T := xc_in2 xt_4 230 rfl rfl
theorem lk_J0_495 : Cond.methodLink RJ0 495 yJ1_charAt_3b067 ∈ xc_T := xc_in2 xt_4 234 rfl rfl
theorem lk_J0_505 : Cond.methodLink RJ0 505 yJ0_length_8abf5 ∈ xc_T := xc_in2 xt_5 78 rfl rfl
theorem lk_J0_633 : Cond.methodLink RJ0 633 yJ0_indexOf_7cf53 ∈ xc_T := xc_in2 xt_5 74 rfl rfl
theorem lk_J0_637 : Cond.methodLink RJ0 637 yJ1_indexOf_4cfef ∈ xc_T := xc_in2 xt_5 79 rfl rfl
theorem lk_J1_88 : Cond.methodLink RJ1 88 yJ1_canEncode_9a6ad ∈ xc_T := xc_in2 xt_5 82 rfl rfl
theorem lk_J1_9 : Cond.methodLink RJ1 9 yJ0_checkIndex_df160 ∈ xc_T := xc_in2 xt_4 237 rfl rfl
theorem lk_J1_95 : Cond.methodLink RJ1 95 yJ1_indexOfChar_4cfef ∈ xc_T := xc_in2 xt_5 87 rfl rfl
theorem lk_X1_43 : Cond.methodLink RX1 43 yX1_value ∈ xc_T := xc_in2 xt_2 165 rfl rfl
theorem lk_X3_32 : Cond.methodLink RX3 32 yX0_become ∈ xc_T := xc_in2 xt_2 180 rfl rfl
theorem lk_X6_101 : Cond.methodLink RX6 101 yX6_endOfLetters ∈ xc_T := xc_in2 xt_5 44 rfl rfl
theorem lk_X6_105 : Cond.methodLink RX6 105 yX6_keyword ∈ xc_T := xc_in2 xt_5 47 rfl rfl
theorem lk_X6_109 : Cond.methodLink RX6 109 yX6_addToken ∈ xc_T := xc_in2 xt_5 56 rfl rfl
theorem lk_X6_113 : Cond.methodLink RX6 113 yX6_endOfDigits ∈ xc_T := xc_in2 xt_5 60 rfl rfl
theorem lk_X6_116 : Cond.methodLink RX6 116 yX6_number ∈ xc_T := xc_in2 xt_5 63 rfl rfl
theorem lk_X6_119 : Cond.methodLink RX6 119 yX6_isSign ∈ xc_T := xc_in2 xt_5 66 rfl rfl
theorem lk_X6_124 : Cond.methodLink RX6 124 yJ0_indexOf_0f7a4 ∈ xc_T := xc_in2 xt_5 70 rfl rfl
theorem lk_X6_131 : Cond.methodLink RX6 131 yJ0_length_8abf5 ∈ xc_T := xc_in2 xt_5 51 rfl rfl
theorem lk_X6_133 : Cond.methodLink RX6 133 yJ0_charAt_5068e ∈ xc_T := xc_in2 xt_5 52 rfl rfl
theorem lk_X6_137 : Cond.methodLink RX6 137 yX6_isKeyword ∈ xc_T := xc_in2 xt_5 53 rfl rfl
theorem lk_X6_141 : Cond.methodLink RX6 141 yX6_ofNext ∈ xc_T := xc_in2 xt_5 136 rfl rfl
theorem lk_X6_145 : Cond.methodLink RX6 145 yX6_refuse ∈ xc_T := xc_in2 xt_5 132 rfl rfl
theorem lk_X6_151 : Cond.methodLink RX6 151 yX6_takeHead ∈ xc_T := xc_in2 xt_5 128 rfl rfl
theorem lk_X6_155 : Cond.methodLink RX6 155 yX2_open ∈ xc_T := xc_in2 xt_5 140 rfl rfl
theorem lk_X6_158 : Cond.methodLink RX6 158 yX6_readWording ∈ xc_T := xc_in2 xt_5 144 rfl rfl
theorem lk_X6_161 : Cond.methodLink RX6 161 yX6_take ∈ xc_T := xc_in2 xt_5 156 rfl rfl
theorem lk_X6_164 : Cond.methodLink RX6 164 yX2_isLatestFull ∈ xc_T := xc_in2 xt_5 160 rfl rfl
theorem lk_X6_171 : Cond.methodLink RX6 171 yX6_takeNumber ∈ xc_T := xc_in2 xt_5 148 rfl rfl
theorem lk_X6_178 : Cond.methodLink RX6 178 yX2_addWording ∈ xc_T := xc_in2 xt_5 152 rfl rfl
theorem lk_X6_184 : Cond.methodLink RX6 184 yX4_add ∈ xc_T := xc_in2 xt_5 200 rfl rfl
theorem lk_X6_189 : Cond.methodLink RX6 189 yX1_open ∈ xc_T := xc_in2 xt_5 168 rfl rfl
theorem lk_X6_192 : Cond.methodLink RX6 192 yX6_readSum ∈ xc_T := xc_in2 xt_5 172 rfl rfl
theorem lk_X6_195 : Cond.methodLink RX6 195 yX1_openCondition ∈ xc_T := xc_in2 xt_5 180 rfl rfl
theorem lk_X6_198 : Cond.methodLink RX6 198 yX6_readEither ∈ xc_T := xc_in2 xt_5 184 rfl rfl
theorem lk_X6_202 : Cond.methodLink RX6 202 yX1_close ∈ xc_T := xc_in2 xt_5 192 rfl rfl
theorem lk_X6_205 : Cond.methodLink RX6 205 yX6_readCondition ∈ xc_T := xc_in2 xt_5 188 rfl rfl
theorem lk_X6_208 : Cond.methodLink RX6 208 yX1_emit ∈ xc_T := xc_in2 xt_5 176 rfl rfl
theorem lk_X6_28 : Cond.methodLink RX6 28 yX6_cut ∈ xc_T := xc_in2 xt_5 30 rfl rfl
theorem lk_X6_47 : Cond.methodLink RX6 47 yX1_clear ∈ xc_T := xc_in2 xt_5 116 rfl rfl
theorem lk_X6_62 : Cond.methodLink RX6 62 yX6_kind ∈ xc_T := xc_in2 xt_5 120 rfl rfl
theorem lk_X6_66 : Cond.methodLink RX6 66 yX6_readMeaning ∈ xc_T := xc_in2 xt_5 124 rfl rfl
theorem lk_X6_70 : Cond.methodLink RX6 70 yX6_readLaw ∈ xc_T := xc_in2 xt_5 164 rfl rfl
theorem lk_X6_74 : Cond.methodLink RX6 74 yX6_readWalk ∈ xc_T := xc_in2 xt_5 196 rfl rfl
theorem lk_X6_78 : Cond.methodLink RX6 78 yX6_readNeed ∈ xc_T := xc_in2 xt_5 201 rfl rfl
theorem lk_X6_90 : Cond.methodLink RX6 90 yX5_at ∈ xc_T := xc_in2 xt_5 34 rfl rfl
theorem lk_X6_94 : Cond.methodLink RX6 94 yX6_isLetter ∈ xc_T := xc_in2 xt_5 38 rfl rfl
theorem lk_X6_98 : Cond.methodLink RX6 98 yX6_isDigit ∈ xc_T := xc_in2 xt_5 41 rfl rfl
theorem lk_X8_106 : Cond.methodLink RX8 106 yX8_living ∈ xc_T := xc_in2 xt_2 147 rfl rfl
theorem lk_X8_110 : Cond.methodLink RX8 110 yX2_sayableWith ∈ xc_T := xc_in2 xt_3 62 rfl rfl
theorem lk_X8_129 : Cond.methodLink RX8 129 yX8_hasWord ∈ xc_T := xc_in2 xt_2 131 rfl rfl
theorem lk_X8_132 : Cond.methodLink RX8 132 yJ6_bitCount_0f7a4 ∈ xc_T := xc_in2 xt_2 151 rfl rfl
theorem lk_X8_137 : Cond.methodLink RX8 137 yX8_knowers ∈ xc_T := xc_in2 xt_2 157 rfl rfl
theorem lk_X8_143 : Cond.methodLink RX8 143 yX1_tells ∈ xc_T := xc_in2 xt_2 161 rfl rfl
theorem lk_X8_147 : Cond.methodLink RX8 147 yX8_held ∈ xc_T := xc_in2 xt_2 169 rfl rfl
theorem lk_X8_160 : Cond.methodLink RX8 160 yX8_hasInTongue ∈ xc_T := xc_in2 xt_2 132 rfl rfl
theorem lk_X8_163 : Cond.methodLink RX8 163 yX8_hasLapsed ∈ xc_T := xc_in2 xt_2 139 rfl rfl
theorem lk_X8_166 : Cond.methodLink RX8 166 yX8_lawFor ∈ xc_T := xc_in2 xt_2 143 rfl rfl
theorem lk_X8_169 : Cond.methodLink RX8 169 yX8_peopleAt ∈ xc_T := xc_in2 xt_2 192 rfl rfl
theorem lk_X8_172 : Cond.methodLink RX8 172 yX8_spread ∈ xc_T := xc_in2 xt_2 196 rfl rfl
theorem lk_X8_176 : Cond.methodLink RX8 176 yX4_add ∈ xc_T := xc_in2 xt_2 200 rfl rfl
theorem lk_X8_180 : Cond.methodLink RX8 180 yX8_walk ∈ xc_T := xc_in2 xt_2 239 rfl rfl
theorem lk_X8_183 : Cond.methodLink RX8 183 yX8_chatter ∈ xc_T := xc_in2 xt_3 14 rfl rfl
theorem lk_X8_186 : Cond.methodLink RX8 186 yX8_age ∈ xc_T := xc_in2 xt_3 28 rfl rfl
theorem lk_X8_189 : Cond.methodLink RX8 189 yX8_breathe ∈ xc_T := xc_in2 xt_3 7 rfl rfl
theorem lk_X8_195 : Cond.methodLink RX8 195 yX4_cell ∈ xc_T := xc_in2 xt_3 3 rfl rfl
theorem lk_X8_198 : Cond.methodLink RX8 198 yX8_canSpeak ∈ xc_T := xc_in2 xt_3 11 rfl rfl
theorem lk_X8_201 : Cond.methodLink RX8 201 yX8_speak ∈ xc_T := xc_in2 xt_3 12 rfl rfl
theorem lk_X8_204 : Cond.methodLink RX8 204 yX8_moveTo ∈ xc_T := xc_in2 xt_3 13 rfl rfl
theorem lk_X8_207 : Cond.methodLink RX8 207 yX8_draw ∈ xc_T := xc_in2 xt_3 18 rfl rfl
theorem lk_X8_210 : Cond.methodLink RX8 210 yX8_longestUnsaid ∈ xc_T := xc_in2 xt_3 24 rfl rfl
theorem lk_X8_218 : Cond.methodLink RX8 218 yX8_lapse ∈ xc_T := xc_in2 xt_3 32 rfl rfl
theorem lk_X8_95 : Cond.methodLink RX8 95 yX8_isIn ∈ xc_T := xc_in2 xt_2 136 rfl rfl
theorem lk_X8_99 : Cond.methodLink RX8 99 yX8_hasPerson ∈ xc_T := xc_in2 xt_2 130 rfl rfl
theorem lk_X9_103 : Cond.methodLink RX9 103 yX8_canSpeak ∈ xc_T := xc_in2 xt_2 126 rfl rfl
theorem lk_X9_106 : Cond.methodLink RX9 106 yX3_keep ∈ xc_T := xc_in2 xt_2 176 rfl rfl
theorem lk_X9_110 : Cond.methodLink RX9 110 yX8_speak ∈ xc_T := xc_in2 xt_2 188 rfl rfl
theorem lk_X9_116 : Cond.methodLink RX9 116 yX8_moveTo ∈ xc_T := xc_in2 xt_2 208 rfl rfl
theorem lk_X9_120 : Cond.methodLink RX9 120 yX8_hasLapsed ∈ xc_T := xc_in2 xt_2 216 rfl rfl
theorem lk_X9_123 : Cond.methodLink RX9 123 yX8_hasInTongue ∈ xc_T := xc_in2 xt_2 217 rfl rfl
theorem lk_X9_126 : Cond.methodLink RX9 126 yX8_learn ∈ xc_T := xc_in2 xt_2 218 rfl rfl
theorem lk_X9_129 : Cond.methodLink RX9 129 yX8_revive ∈ xc_T := xc_in2 xt_2 226 rfl rfl
theorem lk_X9_139 : Cond.methodLink RX9 139 yJ6_bitCount_0f7a4 ∈ xc_T := xc_in2 xt_2 234 rfl rfl
theorem lk_X9_144 : Cond.methodLink RX9 144 yX8_passDay ∈ xc_T := xc_in2 xt_2 235 rfl rfl
theorem lk_X9_150 : Cond.methodLink RX9 150 yX5_put ∈ xc_T := xc_in2 xt_5 14 rfl rfl
theorem lk_X9_153 : Cond.methodLink RX9 153 yX6_read ∈ xc_T := xc_in2 xt_5 26 rfl rfl
theorem lk_X9_161 : Cond.methodLink RX9 161 yX2_become ∈ xc_T := xc_in2 xt_5 205 rfl rfl
theorem lk_X9_180 : Cond.methodLink RX9 180 yX1_become ∈ xc_T := xc_in2 xt_5 210 rfl rfl
theorem lk_X9_188 : Cond.methodLink RX9 188 yX4_become ∈ xc_T := xc_in2 xt_5 215 rfl rfl
theorem lk_X9_203 : Cond.methodLink RX9 203 yX8_lawFor ∈ xc_T := xc_in2 xt_3 40 rfl rfl
theorem lk_X9_207 : Cond.methodLink RX9 207 yX8_knowers ∈ xc_T := xc_in2 xt_3 199 rfl rfl
theorem lk_X9_216 : Cond.methodLink RX9 216 yX4_cell ∈ xc_T := xc_in2 xt_3 45 rfl rfl
theorem lk_X9_233 : Cond.methodLink RX9 233 yX8_sayable ∈ xc_T := xc_in2 xt_3 58 rfl rfl
theorem lk_X9_336 : Cond.methodLink RX9 336 yX3_bringBack ∈ xc_T := xc_in2 xt_3 50 rfl rfl
theorem lk_X9_57 : Cond.methodLink RX9 57 yX3_forget ∈ xc_T := xc_in2 xt_2 80 rfl rfl
theorem lk_X9_63 : Cond.methodLink RX9 63 yX8_addWord ∈ xc_T := xc_in2 xt_2 84 rfl rfl
theorem lk_X9_67 : Cond.methodLink RX9 67 yX8_isPlace ∈ xc_T := xc_in2 xt_2 92 rfl rfl
theorem lk_X9_74 : Cond.methodLink RX9 74 yX8_addPerson ∈ xc_T := xc_in2 xt_2 95 rfl rfl
theorem lk_X9_77 : Cond.methodLink RX9 77 yX9_isUpTo ∈ xc_T := xc_in2 xt_2 103 rfl rfl
theorem lk_X9_84 : Cond.methodLink RX9 84 yX8_hasPerson ∈ xc_T := xc_in2 xt_2 106 rfl rfl
theorem lk_X9_91 : Cond.methodLink RX9 91 yX8_hasWord ∈ xc_T := xc_in2 xt_2 110 rfl rfl
theorem fs_J0_1053 : Cond.fieldLink RJ0 1053 "jdk/internal/util/Preconditions" "SIOOBE_FORMATTER" "Ljava/util/function/BiFunction;" ∈ xc_T := xc_in2 xt_4 77 rfl rfl
theorem fs_J0_15 : Cond.fieldLink RJ0 15 "java/lang/String" "coder" "B" ∈ xc_T := xc_in2 xt_4 211 rfl rfl
theorem fs_J0_38 : Cond.fieldLink RJ0 38 "java/lang/String" "COMPACT_STRINGS" "Z" ∈ xc_T := xc_in2 xt_4 99 rfl rfl
theorem fs_J0_9 : Cond.fieldLink RJ0 9 "java/lang/String" "value" "[B" ∈ xc_T := xc_in2 xt_4 210 rfl rfl
theorem md_J0_charAt_5068e : xc_Md yJ0_charAt_5068e cJ0_charAt_5068e 2 (some .char) 1 := ⟨xc_in2 xt_4 229 rfl rfl, xc_in2 xt_1 14 rfl rfl, by decide +kernel, by decide⟩
theorem mi_J0_charAt_5068e : Cond.instanceMethod yJ0_charAt_5068e ∈ xc_T := xc_in2 xt_4 227 rfl rfl
theorem ms_J0_charAt_5068e : Cond.selects yJ0_charAt_5068e.cls yJ0_charAt_5068e yJ0_charAt_5068e ∈ xc_T := xc_in2 xt_4 228 rfl rfl
theorem md_J0_checkIndex_df160 : xc_Md yJ0_checkIndex_df160 cJ0_checkIndex_df160 2 none 2 := ⟨xc_in2 xt_4 239 rfl rfl, xc_in2 xt_1 14 rfl rfl, by decide +kernel, by decide⟩
theorem mt_J0_checkIndex_df160 : Cond.static yJ0_checkIndex_df160 ∈ xc_T := xc_in2 xt_4 238 rfl rfl
theorem md_J0_coder_7d493 : xc_Md yJ0_coder_7d493 cJ0_coder_7d493 1 (some .byte) 0 := ⟨xc_in2 xt_4 98 rfl rfl, xc_in2 xt_1 14 rfl rfl, by decide +kernel, by decide⟩
theorem mi_J0_coder_7d493 : Cond.instanceMethod yJ0_coder_7d493 ∈ xc_T := xc_in2 xt_4 96 rfl rfl
theorem ms_J0_coder_7d493 : Cond.selects yJ0_coder_7d493.cls yJ0_coder_7d493 yJ0_coder_7d493 ∈ xc_T := xc_in2 xt_4 97 rfl rfl
theorem md_J0_indexOf_0f7a4 : xc_Md yJ0_indexOf_0f7a4 cJ0_indexOf_0f7a4 2 (some .int) 1 := ⟨xc_in2 xt_5 73 rfl rfl, xc_in2 xt_1 14 rfl rfl, by decide +kernel, by decide⟩
theorem mi_J0_indexOf_0f7a4 : Cond.instanceMethod yJ0_indexOf_0f7a4 ∈ xc_T := xc_in2 xt_5 71 rfl rfl
