theorem xk_b_10 : (Int8.ofInt (10)).toInt32 = 10 := by decide
theorem xk_b_100 : (Int8.ofInt (100)).toInt32 = 100 := by decide
theorem xk_b_101 : (Int8.ofInt (101)).toInt32 = 101 := by decide
theorem xk_b_102 : (Int8.ofInt (102)).toInt32 = 102 := by decide
theorem xk_b_103 : (Int8.ofInt (103)).toInt32 = 103 := by decide
theorem xk_b_104 : (Int8.ofInt (104)).toInt32 = 104 := by decide
theorem xk_b_105 : (Int8.ofInt (105)).toInt32 = 105 := by decide
theorem xk_b_106 : (Int8.ofInt (106)).toInt32 = 106 := by decide
theorem xk_b_107 : (Int8.ofInt (107)).toInt32 = 107 := by decide
theorem xk_b_108 : (Int8.ofInt (108)).toInt32 = 108 := by decide
theorem xk_b_11 : (Int8.ofInt (11)).toInt32 = 11 := by decide
theorem xk_b_116 : (Int8.ofInt (116)).toInt32 = 116 := by decide
theorem xk_b_117 : (Int8.ofInt (117)).toInt32 = 117 := by decide
theorem xk_b_118 : (Int8.ofInt (118)).toInt32 = 118 := by decide
theorem xk_b_119 : (Int8.ofInt (119)).toInt32 = 119 := by decide
theorem xk_b_12 : (Int8.ofInt (12)).toInt32 = 12 := by decide
theorem xk_b_120 : (Int8.ofInt (120)).toInt32 = 120 := by decide
theorem xk_b_121 : (Int8.ofInt (121)).toInt32 = 121 := by decide
theorem xk_b_122 : (Int8.ofInt (122)).toInt32 = 122 := by decide
theorem xk_b_13 : (Int8.ofInt (13)).toInt32 = 13 := by decide
theorem xk_b_14 : (Int8.ofInt (14)).toInt32 = 14 := by decide
theorem xk_b_16 : (Int8.ofInt (16)).toInt32 = 16 := by decide
theorem xk_b_18 : (Int8.ofInt (18)).toInt32 = 18 := by decide
theorem xk_b_20 : (Int8.ofInt (20)).toInt32 = 20 := by decide
theorem xk_b_21 : (Int8.ofInt (21)).toInt32 = 21 := by decide
theorem xk_b_22 : (Int8.ofInt (22)).toInt32 = 22 := by decide
theorem xk_b_23 : (Int8.ofInt (23)).toInt32 = 23 := by decide
theorem xk_b_24 : (Int8.ofInt (24)).toInt32 = 24 := by decide
theorem xk_b_25 : (Int8.ofInt (25)).toInt32 = 25 := by decide
theorem xk_b_26 : (Int8.ofInt (26)).toInt32 = 26 := by decide
theorem xk_b_27 : (Int8.ofInt (27)).toInt32 = 27 := by decide
theorem xk_b_28 : (Int8.ofInt (28)).toInt32 = 28 := by decide
theorem xk_b_29 : (Int8.ofInt (29)).toInt32 = 29 := by decide
theorem xk_b_30 : (Int8.ofInt (30)).toInt32 = 30 := by decide
theorem xk_b_31 : (Int8.ofInt (31)).toInt32 = 31 := by decide
theorem xk_b_32 : (Int8.ofInt (32)).toInt32 = 32 := by decide
theorem xk_b_40 : (Int8.ofInt (40)).toInt32 = 40 := by decide
theorem xk_b_41 : (Int8.ofInt (41)).toInt32 = 41 := by decide
theorem xk_b_42 : (Int8.ofInt (42)).toInt32 = 42 := by decide
theorem xk_b_43 : (Int8.ofInt (43)).toInt32 = 43 := by decide
theorem xk_b_44 : (Int8.ofInt (44)).toInt32 = 44 := by decide
theorem xk_b_45 : (Int8.ofInt (45)).toInt32 = 45 := by decide
theorem xk_b_46 : (Int8.ofInt (46)).toInt32 = 46 := by decide
theorem xk_b_47 : (Int8.ofInt (47)).toInt32 = 47 := by decide
theorem xk_b_48 : (Int8.ofInt (48)).toInt32 = 48 := by decide
theorem xk_b_50 : (Int8.ofInt (50)).toInt32 = 50 := by decide
theorem xk_b_52 : (Int8.ofInt (52)).toInt32 = 52 := by decide
theorem xk_b_57 : (Int8.ofInt (57)).toInt32 = 57 := by decide
theorem xk_b_59 : (Int8.ofInt (59)).toInt32 = 59 := by decide
theorem xk_b_6 : (Int8.ofInt (6)).toInt32 = 6 := by decide
theorem xk_b_60 : (Int8.ofInt (60)).toInt32 = 60 := by decide
theorem xk_b_61 : (Int8.ofInt (61)).toInt32 = 61 := by decide
theorem xk_b_62 : (Int8.ofInt (62)).toInt32 = 62 := by decide
theorem xk_b_63 : (Int8.ofInt (63)).toInt32 = 63 := by decide
theorem xk_b_64 : (Int8.ofInt (64)).toInt32 = 64 := by decide
theorem xk_b_65 : (Int8.ofInt (65)).toInt32 = 65 := by decide
theorem xk_b_66 : (Int8.ofInt (66)).toInt32 = 66 := by decide
theorem xk_b_67 : (Int8.ofInt (67)).toInt32 = 67 := by decide
theorem xk_b_68 : (Int8.ofInt (68)).toInt32 = 68 := by decide
theorem xk_b_69 : (Int8.ofInt (69)).toInt32 = 69 := by decide
theorem xk_b_7 : (Int8.ofInt (7)).toInt32 = 7 := by decide
theorem xk_b_70 : (Int8.ofInt (70)).toInt32 = 70 := by decide
theorem xk_b_8 : (Int8.ofInt (8)).toInt32 = 8 := by decide
theorem xk_b_84 : (Int8.ofInt (84)).toInt32 = 84 := by decide
theorem xk_b_9 : (Int8.ofInt (9)).toInt32 = 9 := by decide
theorem xk_b_90 : (Int8.ofInt (90)).toInt32 = 90 := by decide
theorem xk_b_97 : (Int8.ofInt (97)).toInt32 = 97 := by decide
theorem xk_b_98 : (Int8.ofInt (98)).toInt32 = 98 := by decide
theorem xk_b_99 : (Int8.ofInt (99)).toInt32 = 99 := by decide
theorem xk_b_m2 : (Int8.ofInt (-2)).toInt32 = -2 := by decide
theorem xk_c_0 : Int32.ofInt (0) = 0 := by decide
theorem xk_c_1 : Int32.ofInt (1) = 1 := by decide
theorem xk_c_16 : Int32.ofInt (16) = 16 := by decide
theorem xk_c_2 : Int32.ofInt (2) = 2 := by decide
theorem xk_c_3 : Int32.ofInt (3) = 3 := by decide
theorem xk_c_4 : Int32.ofInt (4) = 4 := by decide
theorem xk_c_5 : Int32.ofInt (5) = 5 := by decide
theorem xk_c_8 : Int32.ofInt (8) = 8 := by decide
theorem xk_c_m1 : Int32.ofInt (-1) = -1 := by decide
theorem xk_c_m8 : Int32.ofInt (-8) = -8 := by decide
theorem xk_s_1000 : (Int16.ofInt (1000)).toInt32 = 1000 := by decide
theorem xk_s_10000 : (Int16.ofInt (10000)).toInt32 = 10000 := by decide
theorem xk_s_1023 : (Int16.ofInt (1023)).toInt32 = 1023 := by decide
theorem xk_s_1024 : (Int16.ofInt (1024)).toInt32 = 1024 := by decide
theorem xk_s_1348 : (Int16.ofInt (1348)).toInt32 = 1348 := by decide
theorem xk_s_1364 : (Int16.ofInt (1364)).toInt32 = 1364 := by decide
theorem xk_s_1380 : (Int16.ofInt (1380)).toInt32 = 1380 := by decide
theorem xk_s_1396 : (Int16.ofInt (1396)).toInt32 = 1396 := by decide
theorem xk_s_140 : (Int16.ofInt (140)).toInt32 = 140 := by decide
theorem xk_s_141 : (Int16.ofInt (141)).toInt32 = 141 := by decide
theorem xk_s_1412 : (Int16.ofInt (1412)).toInt32 = 1412 := by decide
theorem xk_s_142 : (Int16.ofInt (142)).toInt32 = 142 := by decide
theorem xk_s_143 : (Int16.ofInt (143)).toInt32 = 143 := by decide
theorem xk_s_145 : (Int16.ofInt (145)).toInt32 = 145 := by decide
theorem xk_s_147 : (Int16.ofInt (147)).toInt32 = 147 := by decide
theorem xk_s_150 : (Int16.ofInt (150)).toInt32 = 150 := by decide
theorem xk_s_159 : (Int16.ofInt (159)).toInt32 = 159 := by decide
theorem xk_s_160 : (Int16.ofInt (160)).toInt32 = 160 := by decide
theorem xk_s_161 : (Int16.ofInt (161)).toInt32 = 161 := by decide
theorem xk_s_162 : (Int16.ofInt (162)).toInt32 = 162 := by decide
theorem xk_s_16383 : (Int16.ofInt (16383)).toInt32 = 16383 := by decide
theorem xk_s_198 : (Int16.ofInt (198)).toInt32 = 198 := by decide
theorem xk_s_20000 : (Int16.ofInt (20000)).toInt32 = 20000 := by decide
theorem xk_s_20101 : (Int16.ofInt (20101)).toInt32 = 20101 := by decide
theorem xk_s_20102 : (Int16.ofInt (20102)).toInt32 = 20102 := by decide
theorem xk_s_20103 : (Int16.ofInt (20103)).toInt32 = 20103 := by decide
theorem xk_s_208 : (Int16.ofInt (208)).toInt32 = 208 := by decide
theorem xk_s_2232 : (Int16.ofInt (2232)).toInt32 = 2232 := by decide
theorem xk_s_255 : (Int16.ofInt (255)).toInt32 = 255 := by decide
theorem xk_s_256 : (Int16.ofInt (256)).toInt32 = 256 := by decide
theorem xk_s_310 : (Int16.ofInt (310)).toInt32 = 310 := by decide
theorem xk_s_365 : (Int16.ofInt (365)).toInt32 = 365 := by decide
theorem xk_s_400 : (Int16.ofInt (400)).toInt32 = 400 := by decide
theorem xk_s_628 : (Int16.ofInt (628)).toInt32 = 628 := by decide
theorem xk_s_692 : (Int16.ofInt (692)).toInt32 = 692 := by decide
theorem xk_s_728 : (Int16.ofInt (728)).toInt32 = 728 := by decide
theorem xk_s_748 : (Int16.ofInt (748)).toInt32 = 748 := by decide
theorem xk_s_820 : (Int16.ofInt (820)).toInt32 = 820 := by decide
theorem xk_s_999 : (Int16.ofInt (999)).toInt32 = 999 := by decide
theorem xk_s_9999 : (Int16.ofInt (9999)).toInt32 = 9999 := by decide
theorem kt_J6_264 : Jvm.Cond.constant RJ6 264 (65536) ∈ xc_T := xc_in2 xt_4 120 rfl rfl
theorem kt_J6_265 : Jvm.Cond.constant RJ6 265 (1431655765) ∈ xc_T := xc_in2 xt_2 169 rfl rfl
theorem kt_J6_266 : Jvm.Cond.constant RJ6 266 (858993459) ∈ xc_T := xc_in2 xt_2 170 rfl rfl
theorem kt_J6_267 : Jvm.Cond.constant RJ6 267 (252645135) ∈ xc_T := xc_in2 xt_2 171 rfl rfl
theorem kt_X10_425 : Jvm.Cond.constant RX10 425 (1000000) ∈ xc_T := xc_in2 xt_7 183 rfl rfl
theorem kt_X10_69 : Jvm.Cond.constant RX10 69 (1664525) ∈ xc_T := xc_in2 xt_7 57 rfl rfl
theorem kt_X10_70 : Jvm.Cond.constant RX10 70 (1013904223) ∈ xc_T := xc_in2 xt_7 58 rfl rfl
theorem kt_X8_216 : Jvm.Cond.constant RX8 216 (1664525) ∈ xc_T := xc_in2 xt_3 37 rfl rfl
theorem kt_X8_217 : Jvm.Cond.constant RX8 217 (1013904223) ∈ xc_T := xc_in2 xt_3 38 rfl rfl
theorem kt_X9_302 : Jvm.Cond.constant RX9 302 (1000000) ∈ xc_T := xc_in2 xt_5 22 rfl rfl
theorem lc_X0_37 : xc_Lc RX0 37 := ⟨xc_in2 xt_2 199 rfl rfl, xc_in2 xt_2 201 rfl rfl, xc_in2 xt_2 200 rfl rfl, xc_in2 xt_1 13 rfl rfl⟩
theorem lc_X1_37 : xc_Lc RX1 37 := ⟨xc_in2 xt_4 70 rfl rfl, xc_in2 xt_2 201 rfl rfl, xc_in2 xt_2 200 rfl rfl, xc_in2 xt_1 13 rfl rfl⟩
theorem lc_X2_25 : xc_Lc RX2 25 := ⟨xc_in2 xt_4 65 rfl rfl, xc_in2 xt_2 201 rfl rfl, xc_in2 xt_2 200 rfl rfl, xc_in2 xt_1 13 rfl rfl⟩
theorem lc_X4_28 : xc_Lc RX4 28 := ⟨xc_in2 xt_4 76 rfl rfl, xc_in2 xt_2 201 rfl rfl, xc_in2 xt_2 200 rfl rfl, xc_in2 xt_1 13 rfl rfl⟩
theorem lc_X8_73 : xc_Lc RX8 73 := ⟨xc_in2 xt_4 112 rfl rfl, xc_in2 xt_2 201 rfl rfl, xc_in2 xt_2 200 rfl rfl, xc_in2 xt_1 13 rfl rfl⟩
theorem fl_X0_15 : Cond.fieldLink RX0 15 RX0 (TX0 4).2.1 (TX0 4).2.2.1 ∈ xc_T := xc_in2 xt_1 54 rfl rfl
theorem fl_X0_18 : Cond.fieldLink RX0 18 RX0 (TX0 5).2.1 (TX0 5).2.2.1 ∈ xc_T := xc_in2 xt_1 57 rfl rfl
theorem fl_X0_21 : Cond.fieldLink RX0 21 RX0 (TX0 6).2.1 (TX0 6).2.2.1 ∈ xc_T := xc_in2 xt_1 60 rfl rfl
theorem fl_X0_24 : Cond.fieldLink RX0 24 RX0 (TX0 7).2.1 (TX0 7).2.2.1 ∈ xc_T := xc_in2 xt_1 64 rfl rfl
theorem fl_X0_27 : Cond.fieldLink RX0 27 RX0 (TX0 0).2.1 (TX0 0).2.2.1 ∈ xc_T := xc_in2 xt_1 40 rfl rfl
theorem fl_X0_31 : Cond.fieldLink RX0 31 RX0 (TX0 1).2.1 (TX0 1).2.2.1 ∈ xc_T := xc_in2 xt_1 43 rfl rfl
theorem fl_X0_34 : Cond.fieldLink RX0 34 RX0 (TX0 2).2.1 (TX0 2).2.2.1 ∈ xc_T := xc_in2 xt_1 46 rfl rfl
theorem fl_X0_9 : Cond.fieldLink RX0 9 RX0 (TX0 3).2.1 (TX0 3).2.2.1 ∈ xc_T := xc_in2 xt_1 50 rfl rfl
theorem fl_X1_15 : Cond.fieldLink RX1 15 RX1 (TX1 3).2.1 (TX1 3).2.2.1 ∈ xc_T := xc_in2 xt_1 139 rfl rfl
theorem fl_X1_18 : Cond.fieldLink RX1 18 RX1 (TX1 4).2.1 (TX1 4).2.2.1 ∈ xc_T := xc_in2 xt_1 140 rfl rfl
theorem fl_X1_21 : Cond.fieldLink RX1 21 RX1 (TX1 5).2.1 (TX1 5).2.2.1 ∈ xc_T := xc_in2 xt_1 141 rfl rfl
theorem fl_X1_24 : Cond.fieldLink RX1 24 RX1 (TX1 6).2.1 (TX1 6).2.2.1 ∈ xc_T := xc_in2 xt_1 142 rfl rfl
theorem fl_X1_27 : Cond.fieldLink RX1 27 RX1 (TX1 7).2.1 (TX1 7).2.2.1 ∈ xc_T := xc_in2 xt_1 143 rfl rfl
theorem fl_X1_30 : Cond.fieldLink RX1 30 RX1 (TX1 0).2.1 (TX1 0).2.2.1 ∈ xc_T := xc_in2 xt_1 134 rfl rfl
theorem fl_X1_34 : Cond.fieldLink RX1 34 RX1 (TX1 1).2.1 (TX1 1).2.2.1 ∈ xc_T := xc_in2 xt_1 137 rfl rfl
theorem fl_X1_9 : Cond.fieldLink RX1 9 RX1 (TX1 2).2.1 (TX1 2).2.2.1 ∈ xc_T := xc_in2 xt_1 138 rfl rfl
theorem fl_X10_13 : Cond.fieldLink RX10 13 RX10 (TX10 1).2.1 (TX10 1).2.2.1 ∈ xc_T := xc_in2 xt_5 108 rfl rfl
theorem fl_X10_150 : Cond.fieldLink RX10 150 RX10 (TX10 14).2.1 (TX10 14).2.2.1 ∈ xc_T := xc_in2 xt_5 121 rfl rfl
theorem fl_X10_16 : Cond.fieldLink RX10 16 RX10 (TX10 2).2.1 (TX10 2).2.2.1 ∈ xc_T := xc_in2 xt_5 109 rfl rfl
theorem fl_X10_168 : Cond.fieldLink RX10 168 RX10 (TX10 20).2.1 (TX10 20).2.2.1 ∈ xc_T := xc_in2 xt_5 127 rfl rfl
theorem fl_X10_180 : Cond.fieldLink RX10 180 RX10 (TX10 22).2.1 (TX10 22).2.2.1 ∈ xc_T := xc_in2 xt_5 129 rfl rfl
theorem fl_X10_183 : Cond.fieldLink RX10 183 RX10 (TX10 23).2.1 (TX10 23).2.2.1 ∈ xc_T := xc_in2 xt_5 130 rfl rfl
theorem fl_X10_186 : Cond.fieldLink RX10 186 RX10 (TX10 24).2.1 (TX10 24).2.2.1 ∈ xc_T := xc_in2 xt_5 131 rfl rfl
theorem fl_X10_19 : Cond.fieldLink RX10 19 RX10 (TX10 3).2.1 (TX10 3).2.2.1 ∈ xc_T := xc_in2 xt_5 110 rfl rfl
theorem fl_X10_195 : Cond.fieldLink RX10 195 RX10 (TX10 16).2.1 (TX10 16).2.2.1 ∈ xc_T := xc_in2 xt_5 123 rfl rfl
theorem fl_X10_198 : Cond.fieldLink RX10 198 RX10 (TX10 26).2.1 (TX10 26).2.2.1 ∈ xc_T := xc_in2 xt_5 133 rfl rfl
theorem fl_X10_22 : Cond.fieldLink RX10 22 RX10 (TX10 6).2.1 (TX10 6).2.2.1 ∈ xc_T := xc_in2 xt_5 113 rfl rfl
theorem fl_X10_229 : Cond.fieldLink RX10 229 RX10 (TX10 15).2.1 (TX10 15).2.2.1 ∈ xc_T := xc_in2 xt_5 122 rfl rfl
theorem fl_X10_235 : Cond.fieldLink RX10 235 RX10 (TX10 28).2.1 (TX10 28).2.2.1 ∈ xc_T := xc_in2 xt_5 135 rfl rfl
theorem fl_X10_242 : Cond.fieldLink RX10 242 RX10 (TX10 17).2.1 (TX10 17).2.2.1 ∈ xc_T := xc_in2 xt_5 124 rfl rfl
theorem fl_X10_25 : Cond.fieldLink RX10 25 RX10 (TX10 7).2.1 (TX10 7).2.2.1 ∈ xc_T := xc_in2 xt_5 114 rfl rfl
theorem fl_X10_270 : Cond.fieldLink RX10 270 RX10 (TX10 25).2.1 (TX10 25).2.2.1 ∈ xc_T := xc_in2 xt_5 132 rfl rfl
theorem fl_X10_28 : Cond.fieldLink RX10 28 RX10 (TX10 8).2.1 (TX10 8).2.2.1 ∈ xc_T := xc_in2 xt_5 115 rfl rfl
theorem fl_X10_31 : Cond.fieldLink RX10 31 RX10 (TX10 9).2.1 (TX10 9).2.2.1 ∈ xc_T := xc_in2 xt_5 116 rfl rfl
theorem fl_X10_310 : Cond.fieldLink RX10 310 RX10 (TX10 29).2.1 (TX10 29).2.2.1 ∈ xc_T := xc_in2 xt_5 136 rfl rfl
theorem fl_X10_34 : Cond.fieldLink RX10 34 RX10 (TX10 10).2.1 (TX10 10).2.2.1 ∈ xc_T := xc_in2 xt_5 117 rfl rfl
theorem fl_X10_348 : Cond.fieldLink RX10 348 RX10 (TX10 30).2.1 (TX10 30).2.2.1 ∈ xc_T := xc_in2 xt_5 137 rfl rfl
theorem fl_X10_351 : Cond.fieldLink RX10 351 RX10 (TX10 31).2.1 (TX10 31).2.2.1 ∈ xc_T := xc_in2 xt_5 138 rfl rfl
theorem fl_X10_37 : Cond.fieldLink RX10 37 RX10 (TX10 11).2.1 (TX10 11).2.2.1 ∈ xc_T := xc_in2 xt_5 118 rfl rfl
theorem fl_X10_40 : Cond.fieldLink RX10 40 RX10 (TX10 12).2.1 (TX10 12).2.2.1 ∈ xc_T := xc_in2 xt_5 119 rfl rfl
theorem fl_X10_415 : Cond.fieldLink RX10 415 RX10 (TX10 35).2.1 (TX10 35).2.2.1 ∈ xc_T := xc_in2 xt_5 142 rfl rfl
theorem fl_X10_43 : Cond.fieldLink RX10 43 RX10 (TX10 13).2.1 (TX10 13).2.2.1 ∈ xc_T := xc_in2 xt_5 120 rfl rfl
theorem fl_X10_450 : Cond.fieldLink RX10 450 RX10 (TX10 5).2.1 (TX10 5).2.2.1 ∈ xc_T := xc_in2 xt_5 112 rfl rfl
theorem fl_X10_46 : Cond.fieldLink RX10 46 RX10 (TX10 27).2.1 (TX10 27).2.2.1 ∈ xc_T := xc_in2 xt_5 134 rfl rfl
theorem fl_X10_50 : Cond.fieldLink RX10 50 RX10 (TX10 32).2.1 (TX10 32).2.2.1 ∈ xc_T := xc_in2 xt_5 139 rfl rfl
theorem fl_X10_53 : Cond.fieldLink RX10 53 RX10 (TX10 33).2.1 (TX10 33).2.2.1 ∈ xc_T := xc_in2 xt_5 140 rfl rfl
theorem fl_X10_56 : Cond.fieldLink RX10 56 RX10 (TX10 34).2.1 (TX10 34).2.2.1 ∈ xc_T := xc_in2 xt_5 141 rfl rfl
theorem fl_X10_63 : Cond.fieldLink RX10 63 RX10 (TX10 4).2.1 (TX10 4).2.2.1 ∈ xc_T := xc_in2 xt_5 111 rfl rfl
theorem fl_X10_7 : Cond.fieldLink RX10 7 RX10 (TX10 0).2.1 (TX10 0).2.2.1 ∈ xc_T := xc_in2 xt_5 107 rfl rfl
theorem fl_X10_81 : Cond.fieldLink RX10 81 RX10 (TX10 18).2.1 (TX10 18).2.2.1 ∈ xc_T := xc_in2 xt_5 125 rfl rfl
theorem fl_X10_84 : Cond.fieldLink RX10 84 RX10 (TX10 19).2.1 (TX10 19).2.2.1 ∈ xc_T := xc_in2 xt_5 126 rfl rfl
theorem fl_X10_87 : Cond.fieldLink RX10 87 RX10 (TX10 21).2.1 (TX10 21).2.2.1 ∈ xc_T := xc_in2 xt_5 128 rfl rfl
theorem fl_X2_15 : Cond.fieldLink RX2 15 RX2 (TX2 2).2.1 (TX2 2).2.2.1 ∈ xc_T := xc_in2 xt_1 117 rfl rfl
theorem fl_X2_18 : Cond.fieldLink RX2 18 RX2 (TX2 3).2.1 (TX2 3).2.2.1 ∈ xc_T := xc_in2 xt_1 118 rfl rfl
theorem fl_X2_21 : Cond.fieldLink RX2 21 RX2 (TX2 0).2.1 (TX2 0).2.2.1 ∈ xc_T := xc_in2 xt_1 112 rfl rfl
theorem fl_X2_9 : Cond.fieldLink RX2 9 RX2 (TX2 1).2.1 (TX2 1).2.2.1 ∈ xc_T := xc_in2 xt_1 116 rfl rfl
theorem fl_X3_11 : Cond.fieldLink RX3 11 RX3 (TX3 2).2.1 (TX3 2).2.2.1 ∈ xc_T := xc_in2 xt_2 5 rfl rfl
theorem fl_X3_17 : Cond.fieldLink RX3 17 RX3 (TX3 3).2.1 (TX3 3).2.2.1 ∈ xc_T := xc_in2 xt_2 6 rfl rfl
theorem fl_X3_22 : Cond.fieldLink RX3 22 RX3 (TX3 1).2.1 (TX3 1).2.2.1 ∈ xc_T := xc_in2 xt_2 4 rfl rfl
theorem fl_X3_26 : Cond.fieldLink RX3 26 RX8 (TX8 6).2.1 (TX8 6).2.2.1 ∈ xc_T := xc_in2 xt_1 182 rfl rfl
theorem fl_X3_36 : Cond.fieldLink RX3 36 RX8 (TX8 7).2.1 (TX8 7).2.2.1 ∈ xc_T := xc_in2 xt_1 185 rfl rfl
theorem fl_X3_40 : Cond.fieldLink RX3 40 RX4 (TX4 0).2.1 (TX4 0).2.2.1 ∈ xc_T := xc_in2 xt_1 95 rfl rfl
theorem fl_X3_45 : Cond.fieldLink RX3 45 RX3 (TX3 0).2.1 (TX3 0).2.2.1 ∈ xc_T := xc_in2 xt_2 2 rfl rfl
theorem fl_X4_17 : Cond.fieldLink RX4 17 RX4 (TX4 1).2.1 (TX4 1).2.2.1 ∈ xc_T := xc_in2 xt_1 100 rfl rfl
theorem fl_X4_21 : Cond.fieldLink RX4 21 RX4 (TX4 0).2.1 (TX4 0).2.2.1 ∈ xc_T := xc_in2 xt_1 94 rfl rfl
theorem fl_X5_15 : Cond.fieldLink RX5 15 RX5 (TX5 0).2.1 (TX5 0).2.2.1 ∈ xc_T := xc_in2 xt_2 22 rfl rfl
theorem fl_X5_9 : Cond.fieldLink RX5 9 RX5 (TX5 1).2.1 (TX5 1).2.2.1 ∈ xc_T := xc_in2 xt_2 25 rfl rfl
theorem fl_X6_148 : Cond.fieldLink RX6 148 RX6 (TX6 7).2.1 (TX6 7).2.2.1 ∈ xc_T := xc_in2 xt_2 47 rfl rfl
theorem fl_X6_15 : Cond.fieldLink RX6 15 RX6 (TX6 4).2.1 (TX6 4).2.2.1 ∈ xc_T := xc_in2 xt_2 44 rfl rfl
theorem fl_X6_168 : Cond.fieldLink RX6 168 RX8 (TX8 0).2.1 (TX8 0).2.2.1 ∈ xc_T := xc_in2 xt_1 164 rfl rfl
theorem fl_X6_175 : Cond.fieldLink RX6 175 RX8 (TX8 3).2.1 (TX8 3).2.2.1 ∈ xc_T := xc_in2 xt_1 174 rfl rfl
theorem fl_X6_181 : Cond.fieldLink RX6 181 RX8 (TX8 1).2.1 (TX8 1).2.2.1 ∈ xc_T := xc_in2 xt_1 168 rfl rfl
theorem fl_X6_188 : Cond.fieldLink RX6 188 RX1 (TX1 0).2.1 (TX1 0).2.2.1 ∈ xc_T := xc_in2 xt_1 135 rfl rfl
theorem fl_X6_19 : Cond.fieldLink RX6 19 RX6 (TX6 5).2.1 (TX6 5).2.2.1 ∈ xc_T := xc_in2 xt_2 45 rfl rfl
theorem fl_X6_22 : Cond.fieldLink RX6 22 RX6 (TX6 6).2.1 (TX6 6).2.2.1 ∈ xc_T := xc_in2 xt_2 46 rfl rfl
theorem fl_X6_25 : Cond.fieldLink RX6 25 RX6 (TX6 0).2.1 (TX6 0).2.2.1 ∈ xc_T := xc_in2 xt_2 38 rfl rfl
theorem fl_X6_32 : Cond.fieldLink RX6 32 RX8 (TX8 11).2.1 (TX8 11).2.2.1 ∈ xc_T := xc_in2 xt_1 197 rfl rfl
theorem fl_X6_38 : Cond.fieldLink RX6 38 RX2 (TX2 0).2.1 (TX2 0).2.2.1 ∈ xc_T := xc_in2 xt_1 113 rfl rfl
theorem fl_X6_43 : Cond.fieldLink RX6 43 RX8 (TX8 12).2.1 (TX8 12).2.2.1 ∈ xc_T := xc_in2 xt_1 201 rfl rfl
theorem fl_X6_52 : Cond.fieldLink RX6 52 RX8 (TX8 8).2.1 (TX8 8).2.2.1 ∈ xc_T := xc_in2 xt_1 188 rfl rfl
theorem fl_X6_56 : Cond.fieldLink RX6 56 RX4 (TX4 0).2.1 (TX4 0).2.2.1 ∈ xc_T := xc_in2 xt_1 96 rfl rfl
theorem fl_X6_59 : Cond.fieldLink RX6 59 RX8 (TX8 9).2.1 (TX8 9).2.2.1 ∈ xc_T := xc_in2 xt_1 191 rfl rfl
theorem fl_X6_81 : Cond.fieldLink RX6 81 RX6 (TX6 2).2.1 (TX6 2).2.2.1 ∈ xc_T := xc_in2 xt_2 42 rfl rfl
theorem fl_X6_82 : Cond.fieldLink RX6 82 RX6 (TX6 3).2.1 (TX6 3).2.2.1 ∈ xc_T := xc_in2 xt_2 43 rfl rfl
theorem fl_X6_85 : Cond.fieldLink RX6 85 RX5 (TX5 0).2.1 (TX5 0).2.2.1 ∈ xc_T := xc_in2 xt_2 23 rfl rfl
theorem fl_X6_9 : Cond.fieldLink RX6 9 RX6 (TX6 1).2.1 (TX6 1).2.2.1 ∈ xc_T := xc_in2 xt_2 40 rfl rfl
theorem fl_X7_102 : Cond.fieldLink RX7 102 RX8 (TX8 10).2.1 (TX8 10).2.2.1 ∈ xc_T := xc_in2 xt_1 194 rfl rfl
theorem fl_X7_106 : Cond.fieldLink RX7 106 RX4 (TX4 0).2.1 (TX4 0).2.2.1 ∈ xc_T := xc_in2 xt_1 98 rfl rfl
theorem fl_X7_134 : Cond.fieldLink RX7 134 RX8 (TX8 4).2.1 (TX8 4).2.2.1 ∈ xc_T := xc_in2 xt_1 177 rfl rfl
theorem fl_X7_24 : Cond.fieldLink RX7 24 RX8 (TX8 11).2.1 (TX8 11).2.2.1 ∈ xc_T := xc_in2 xt_1 198 rfl rfl
theorem fl_X7_33 : Cond.fieldLink RX7 33 RX2 (TX2 0).2.1 (TX2 0).2.2.1 ∈ xc_T := xc_in2 xt_1 114 rfl rfl
theorem fl_X7_37 : Cond.fieldLink RX7 37 RX8 (TX8 6).2.1 (TX8 6).2.2.1 ∈ xc_T := xc_in2 xt_1 183 rfl rfl
theorem fl_X7_41 : Cond.fieldLink RX7 41 RX0 (TX0 2).2.1 (TX0 2).2.2.1 ∈ xc_T := xc_in2 xt_1 47 rfl rfl
theorem fl_X7_56 : Cond.fieldLink RX7 56 RX0 (TX0 6).2.1 (TX0 6).2.2.1 ∈ xc_T := xc_in2 xt_1 61 rfl rfl
theorem fl_X7_60 : Cond.fieldLink RX7 60 RX8 (TX8 1).2.1 (TX8 1).2.2.1 ∈ xc_T := xc_in2 xt_1 167 rfl rfl
theorem fl_X7_93 : Cond.fieldLink RX7 93 RX8 (TX8 0).2.1 (TX8 0).2.2.1 ∈ xc_T := xc_in2 xt_1 163 rfl rfl
theorem fl_X7_96 : Cond.fieldLink RX7 96 RX0 (TX0 3).2.1 (TX0 3).2.2.1 ∈ xc_T := xc_in2 xt_1 53 rfl rfl
theorem fl_X7_99 : Cond.fieldLink RX7 99 RX8 (TX8 3).2.1 (TX8 3).2.2.1 ∈ xc_T := xc_in2 xt_1 172 rfl rfl
theorem fl_X8_103 : Cond.fieldLink RX8 103 RX0 (TX0 6).2.1 (TX0 6).2.2.1 ∈ xc_T := xc_in2 xt_1 62 rfl rfl
theorem fl_X8_114 : Cond.fieldLink RX8 114 RX0 (TX0 3).2.1 (TX0 3).2.2.1 ∈ xc_T := xc_in2 xt_1 52 rfl rfl
theorem fl_X8_117 : Cond.fieldLink RX8 117 RX0 (TX0 4).2.1 (TX0 4).2.2.1 ∈ xc_T := xc_in2 xt_1 55 rfl rfl
theorem fl_X8_120 : Cond.fieldLink RX8 120 RX0 (TX0 5).2.1 (TX0 5).2.2.1 ∈ xc_T := xc_in2 xt_1 59 rfl rfl
theorem fl_X8_123 : Cond.fieldLink RX8 123 RX0 (TX0 7).2.1 (TX0 7).2.2.1 ∈ xc_T := xc_in2 xt_1 66 rfl rfl
theorem fl_X8_140 : Cond.fieldLink RX8 140 RX0 (TX0 1).2.1 (TX0 1).2.2.1 ∈ xc_T := xc_in2 xt_1 45 rfl rfl
theorem fl_X8_15 : Cond.fieldLink RX8 15 RX8 (TX8 4).2.1 (TX8 4).2.2.1 ∈ xc_T := xc_in2 xt_1 175 rfl rfl
theorem fl_X8_18 : Cond.fieldLink RX8 18 RX8 (TX8 5).2.1 (TX8 5).2.2.1 ∈ xc_T := xc_in2 xt_1 178 rfl rfl
theorem fl_X8_192 : Cond.fieldLink RX8 192 RX4 (TX4 0).2.1 (TX4 0).2.2.1 ∈ xc_T := xc_in2 xt_1 99 rfl rfl
theorem fl_X8_213 : Cond.fieldLink RX8 213 RX0 (TX0 0).2.1 (TX0 0).2.2.1 ∈ xc_T := xc_in2 xt_1 42 rfl rfl
theorem fl_X8_24 : Cond.fieldLink RX8 24 RX8 (TX8 6).2.1 (TX8 6).2.2.1 ∈ xc_T := xc_in2 xt_1 180 rfl rfl
theorem fl_X8_33 : Cond.fieldLink RX8 33 RX8 (TX8 7).2.1 (TX8 7).2.2.1 ∈ xc_T := xc_in2 xt_1 184 rfl rfl
theorem fl_X8_37 : Cond.fieldLink RX8 37 RX8 (TX8 8).2.1 (TX8 8).2.2.1 ∈ xc_T := xc_in2 xt_1 187 rfl rfl
theorem fl_X8_40 : Cond.fieldLink RX8 40 RX8 (TX8 9).2.1 (TX8 9).2.2.1 ∈ xc_T := xc_in2 xt_1 190 rfl rfl
theorem fl_X8_43 : Cond.fieldLink RX8 43 RX8 (TX8 10).2.1 (TX8 10).2.2.1 ∈ xc_T := xc_in2 xt_1 193 rfl rfl
theorem fl_X8_49 : Cond.fieldLink RX8 49 RX8 (TX8 11).2.1 (TX8 11).2.2.1 ∈ xc_T := xc_in2 xt_1 196 rfl rfl
theorem fl_X8_56 : Cond.fieldLink RX8 56 RX8 (TX8 12).2.1 (TX8 12).2.2.1 ∈ xc_T := xc_in2 xt_1 200 rfl rfl
theorem fl_X8_60 : Cond.fieldLink RX8 60 RX8 (TX8 13).2.1 (TX8 13).2.2.1 ∈ xc_T := xc_in2 xt_1 203 rfl rfl
theorem fl_X8_63 : Cond.fieldLink RX8 63 RX8 (TX8 0).2.1 (TX8 0).2.2.1 ∈ xc_T := xc_in2 xt_1 161 rfl rfl
theorem fl_X8_67 : Cond.fieldLink RX8 67 RX8 (TX8 1).2.1 (TX8 1).2.2.1 ∈ xc_T := xc_in2 xt_1 165 rfl rfl
theorem fl_X8_70 : Cond.fieldLink RX8 70 RX8 (TX8 2).2.1 (TX8 2).2.2.1 ∈ xc_T := xc_in2 xt_1 169 rfl rfl
theorem fl_X8_9 : Cond.fieldLink RX8 9 RX8 (TX8 3).2.1 (TX8 3).2.2.1 ∈ xc_T := xc_in2 xt_1 171 rfl rfl
theorem fl_X8_92 : Cond.fieldLink RX8 92 RX0 (TX0 2).2.1 (TX0 2).2.2.1 ∈ xc_T := xc_in2 xt_1 48 rfl rfl
theorem fl_X9_100 : Cond.fieldLink RX9 100 RX8 (TX8 5).2.1 (TX8 5).2.2.1 ∈ xc_T := xc_in2 xt_1 179 rfl rfl
theorem fl_X9_113 : Cond.fieldLink RX9 113 RX0 (TX0 5).2.1 (TX0 5).2.2.1 ∈ xc_T := xc_in2 xt_1 58 rfl rfl
theorem fl_X9_12 : Cond.fieldLink RX9 12 RX9 (TX9 0).2.1 (TX9 0).2.2.1 ∈ xc_T := xc_in2 xt_2 65 rfl rfl
theorem fl_X9_133 : Cond.fieldLink RX9 133 RX0 (TX0 1).2.1 (TX0 1).2.2.1 ∈ xc_T := xc_in2 xt_1 44 rfl rfl
theorem fl_X9_136 : Cond.fieldLink RX9 136 RX0 (TX0 2).2.1 (TX0 2).2.2.1 ∈ xc_T := xc_in2 xt_1 49 rfl rfl
theorem fl_X9_147 : Cond.fieldLink RX9 147 RX5 (TX5 0).2.1 (TX5 0).2.2.1 ∈ xc_T := xc_in2 xt_2 24 rfl rfl
theorem fl_X9_157 : Cond.fieldLink RX9 157 RX8 (TX8 11).2.1 (TX8 11).2.2.1 ∈ xc_T := xc_in2 xt_1 199 rfl rfl
theorem fl_X9_16 : Cond.fieldLink RX9 16 RX9 (TX9 1).2.1 (TX9 1).2.2.1 ∈ xc_T := xc_in2 xt_2 66 rfl rfl
theorem fl_X9_167 : Cond.fieldLink RX9 167 RX8 (TX8 9).2.1 (TX8 9).2.2.1 ∈ xc_T := xc_in2 xt_1 192 rfl rfl
theorem fl_X9_171 : Cond.fieldLink RX9 171 RX4 (TX4 0).2.1 (TX4 0).2.2.1 ∈ xc_T := xc_in2 xt_1 97 rfl rfl
theorem fl_X9_176 : Cond.fieldLink RX9 176 RX8 (TX8 12).2.1 (TX8 12).2.2.1 ∈ xc_T := xc_in2 xt_1 202 rfl rfl
theorem fl_X9_185 : Cond.fieldLink RX9 185 RX8 (TX8 8).2.1 (TX8 8).2.2.1 ∈ xc_T := xc_in2 xt_1 189 rfl rfl
theorem fl_X9_19 : Cond.fieldLink RX9 19 RX9 (TX9 2).2.1 (TX9 2).2.2.1 ∈ xc_T := xc_in2 xt_2 67 rfl rfl
theorem fl_X9_191 : Cond.fieldLink RX9 191 RX6 (TX6 0).2.1 (TX6 0).2.2.1 ∈ xc_T := xc_in2 xt_2 39 rfl rfl
theorem fl_X9_194 : Cond.fieldLink RX9 194 RX6 (TX6 1).2.1 (TX6 1).2.2.1 ∈ xc_T := xc_in2 xt_2 41 rfl rfl
theorem fl_X9_197 : Cond.fieldLink RX9 197 RX8 (TX8 3).2.1 (TX8 3).2.2.1 ∈ xc_T := xc_in2 xt_1 173 rfl rfl
theorem fl_X9_200 : Cond.fieldLink RX9 200 RX0 (TX0 4).2.1 (TX0 4).2.2.1 ∈ xc_T := xc_in2 xt_1 56 rfl rfl
theorem fl_X9_210 : Cond.fieldLink RX9 210 RX0 (TX0 6).2.1 (TX0 6).2.2.1 ∈ xc_T := xc_in2 xt_1 63 rfl rfl
theorem fl_X9_213 : Cond.fieldLink RX9 213 RX8 (TX8 7).2.1 (TX8 7).2.2.1 ∈ xc_T := xc_in2 xt_1 186 rfl rfl
theorem fl_X9_240 : Cond.fieldLink RX9 240 RX2 (TX2 0).2.1 (TX2 0).2.2.1 ∈ xc_T := xc_in2 xt_1 115 rfl rfl
theorem fl_X9_25 : Cond.fieldLink RX9 25 RX9 (TX9 3).2.1 (TX9 3).2.2.1 ∈ xc_T := xc_in2 xt_2 68 rfl rfl
theorem fl_X9_283 : Cond.fieldLink RX9 283 RX8 (TX8 10).2.1 (TX8 10).2.2.1 ∈ xc_T := xc_in2 xt_1 195 rfl rfl
theorem fl_X9_32 : Cond.fieldLink RX9 32 RX9 (TX9 4).2.1 (TX9 4).2.2.1 ∈ xc_T := xc_in2 xt_2 69 rfl rfl
theorem fl_X9_340 : Cond.fieldLink RX9 340 RX1 (TX1 0).2.1 (TX1 0).2.2.1 ∈ xc_T := xc_in2 xt_1 136 rfl rfl
theorem fl_X9_341 : Cond.fieldLink RX9 341 RX3 (TX3 0).2.1 (TX3 0).2.2.1 ∈ xc_T := xc_in2 xt_2 3 rfl rfl
theorem fl_X9_39 : Cond.fieldLink RX9 39 RX9 (TX9 5).2.1 (TX9 5).2.2.1 ∈ xc_T := xc_in2 xt_2 70 rfl rfl
theorem fl_X9_43 : Cond.fieldLink RX9 43 RX9 (TX9 6).2.1 (TX9 6).2.2.1 ∈ xc_T := xc_in2 xt_2 71 rfl rfl
theorem fl_X9_47 : Cond.fieldLink RX9 47 RX8 (TX8 6).2.1 (TX8 6).2.2.1 ∈ xc_T := xc_in2 xt_1 181 rfl rfl
theorem fl_X9_51 : Cond.fieldLink RX9 51 RX0 (TX0 0).2.1 (TX0 0).2.2.1 ∈ xc_T := xc_in2 xt_1 41 rfl rfl
theorem fl_X9_60 : Cond.fieldLink RX9 60 RX8 (TX8 0).2.1 (TX8 0).2.2.1 ∈ xc_T := xc_in2 xt_1 162 rfl rfl
theorem fl_X9_71 : Cond.fieldLink RX9 71 RX8 (TX8 1).2.1 (TX8 1).2.2.1 ∈ xc_T := xc_in2 xt_1 166 rfl rfl
theorem fl_X9_81 : Cond.fieldLink RX9 81 RX8 (TX8 2).2.1 (TX8 2).2.2.1 ∈ xc_T := xc_in2 xt_1 170 rfl rfl
theorem fl_X9_87 : Cond.fieldLink RX9 87 RX0 (TX0 7).2.1 (TX0 7).2.2.1 ∈ xc_T := xc_in2 xt_1 65 rfl rfl
theorem fl_X9_94 : Cond.fieldLink RX9 94 RX0 (TX0 3).2.1 (TX0 3).2.2.1 ∈ xc_T := xc_in2 xt_1 51 rfl rfl
theorem fl_X9_97 : Cond.fieldLink RX9 97 RX8 (TX8 4).2.1 (TX8 4).2.2.1 ∈ xc_T := xc_in2 xt_1 176 rfl rfl
theorem lm_J1_38 : xc_Lm RJ1 38 Lib.Math.min.name Lib.Math.min.code := ⟨xc_in2 xt_3 173 rfl rfl, xc_in2 xt_2 188 rfl rfl, xc_in2 xt_1 5 rfl rfl, xc_in2 xt_2 189 rfl rfl⟩
theorem lm_J1_92 : xc_Lm RJ1 92 Lib.Math.max.name Lib.Math.max.code := ⟨xc_in2 xt_3 172 rfl rfl, xc_in2 xt_1 92 rfl rfl, xc_in2 xt_1 5 rfl rfl, xc_in2 xt_1 93 rfl rfl⟩
theorem lm_X2_31 : xc_Lm RX2 31 Lib.Math.max.name Lib.Math.max.code := ⟨xc_in2 xt_5 56 rfl rfl, xc_in2 xt_1 92 rfl rfl, xc_in2 xt_1 5 rfl rfl, xc_in2 xt_1 93 rfl rfl⟩
theorem lm_X3_46 : xc_Lm RX3 46 Lib.Math.min.name Lib.Math.min.code := ⟨xc_in2 xt_2 202 rfl rfl, xc_in2 xt_2 188 rfl rfl, xc_in2 xt_1 5 rfl rfl, xc_in2 xt_2 189 rfl rfl⟩
theorem lm_X4_25 : xc_Lm RX4 25 Lib.Math.min.name Lib.Math.min.code := ⟨xc_in2 xt_4 75 rfl rfl, xc_in2 xt_2 188 rfl rfl, xc_in2 xt_1 5 rfl rfl, xc_in2 xt_2 189 rfl rfl⟩
theorem lm_X7_118 : xc_Lm RX7 118 Lib.Math.max.name Lib.Math.max.code := ⟨xc_in2 xt_4 239 rfl rfl, xc_in2 xt_1 92 rfl rfl, xc_in2 xt_1 5 rfl rfl, xc_in2 xt_1 93 rfl rfl⟩
theorem lm_X7_81 : xc_Lm RX7 81 Lib.Math.min.name Lib.Math.min.code := ⟨xc_in2 xt_4 203 rfl rfl, xc_in2 xt_2 188 rfl rfl, xc_in2 xt_1 5 rfl rfl, xc_in2 xt_2 189 rfl rfl⟩
theorem lm_X8_151 : xc_Lm RX8 151 Lib.Math.min.name Lib.Math.min.code := ⟨xc_in2 xt_2 187 rfl rfl, xc_in2 xt_2 188 rfl rfl, xc_in2 xt_1 5 rfl rfl, xc_in2 xt_2 189 rfl rfl⟩
theorem lm_X8_157 : xc_Lm RX8 157 Lib.Math.max.name Lib.Math.max.code := ⟨xc_in2 xt_2 190 rfl rfl, xc_in2 xt_1 92 rfl rfl, xc_in2 xt_1 5 rfl rfl, xc_in2 xt_1 93 rfl rfl⟩
theorem lm_X9_228 : xc_Lm RX9 228 Lib.Math.max.name Lib.Math.max.code := ⟨xc_in2 xt_4 125 rfl rfl, xc_in2 xt_1 92 rfl rfl, xc_in2 xt_1 5 rfl rfl, xc_in2 xt_1 93 rfl rfl⟩
theorem lk_J0_1059 : Cond.methodLink RJ0 1059 yJ3_checkIndex_8e157 ∈ xc_T := xc_in2 xt_3 118 rfl rfl
theorem lk_J0_335 : Cond.methodLink RJ0 335 yJ0_coder_7d493 ∈ xc_T := xc_in2 xt_3 96 rfl rfl
theorem lk_J0_492 : Cond.methodLink RJ0 492 yJ0_isLatin1_aae02 ∈ xc_T := xc_in2 xt_3 106 rfl rfl
theorem lk_J0_495 : Cond.methodLink RJ0 495 yJ1_charAt_3b067 ∈ xc_T := xc_in2 xt_3 110 rfl rfl
theorem lk_J0_505 : Cond.methodLink RJ0 505 yJ0_length_8abf5 ∈ xc_T := xc_in2 xt_3 165 rfl rfl
theorem lk_J0_633 : Cond.methodLink RJ0 633 yJ0_indexOf_7cf53 ∈ xc_T := xc_in2 xt_3 161 rfl rfl
theorem lk_J0_637 : Cond.methodLink RJ0 637 yJ1_indexOf_4cfef ∈ xc_T := xc_in2 xt_3 166 rfl rfl
theorem lk_J1_88 : Cond.methodLink RJ1 88 yJ1_canEncode_9a6ad ∈ xc_T := xc_in2 xt_3 169 rfl rfl
theorem lk_J1_9 : Cond.methodLink RJ1 9 yJ0_checkIndex_df160 ∈ xc_T := xc_in2 xt_3 113 rfl rfl
theorem lk_J1_95 : Cond.methodLink RJ1 95 yJ1_indexOfChar_4cfef ∈ xc_T := xc_in2 xt_3 174 rfl rfl
theorem lk_X1_43 : Cond.methodLink RX1 43 yX1_value ∈ xc_T := xc_in2 xt_2 180 rfl rfl
theorem lk_X10_102 : Cond.methodLink RX10 102 yX10_is ∈ xc_T := xc_in2 xt_6 46 rfl rfl
theorem lk_X10_133 : Cond.methodLink RX10 133 yX10_asked ∈ xc_T := xc_in2 xt_6 63 rfl rfl
theorem lk_X10_155 : Cond.methodLink RX10 155 yX10_lawWord ∈ xc_T := xc_in2 xt_6 53 rfl rfl
theorem lk_X10_158 : Cond.methodLink RX10 158 yX10_walkWord ∈ xc_T := xc_in2 xt_6 75 rfl rfl
theorem lk_X10_161 : Cond.methodLink RX10 161 yX10_needWord ∈ xc_T := xc_in2 xt_6 83 rfl rfl
theorem lk_X10_164 : Cond.methodLink RX10 164 yX10_see ∈ xc_T := xc_in2 xt_6 34 rfl rfl
theorem lk_X10_171 : Cond.methodLink RX10 171 yX10_isLetter ∈ xc_T := xc_in2 xt_6 38 rfl rfl
theorem lk_X10_174 : Cond.methodLink RX10 174 yX10_word0 ∈ xc_T := xc_in2 xt_6 41 rfl rfl
theorem lk_X10_177 : Cond.methodLink RX10 177 yX10_isDigit ∈ xc_T := xc_in2 xt_6 90 rfl rfl
theorem lk_X10_189 : Cond.methodLink RX10 189 yX10_bad ∈ xc_T := xc_in2 xt_6 101 rfl rfl
theorem lk_X10_192 : Cond.methodLink RX10 192 yX10_next0 ∈ xc_T := xc_in2 xt_6 30 rfl rfl
theorem lk_X10_201 : Cond.methodLink RX10 201 yX10_product ∈ xc_T := xc_in2 xt_6 109 rfl rfl
theorem lk_X10_205 : Cond.methodLink RX10 205 yX10_lay ∈ xc_T := xc_in2 xt_6 117 rfl rfl
theorem lk_X10_209 : Cond.methodLink RX10 209 yX10_unit ∈ xc_T := xc_in2 xt_6 113 rfl rfl
theorem lk_X10_212 : Cond.methodLink RX10 212 yX10_every ∈ xc_T := xc_in2 xt_6 125 rfl rfl
theorem lk_X10_215 : Cond.methodLink RX10 215 yX10_oneTest ∈ xc_T := xc_in2 xt_6 129 rfl rfl
theorem lk_X10_218 : Cond.methodLink RX10 218 yX10_opens ∈ xc_T := xc_in2 xt_6 133 rfl rfl
theorem lk_X10_221 : Cond.methodLink RX10 221 yX10_any ∈ xc_T := xc_in2 xt_6 121 rfl rfl
theorem lk_X10_224 : Cond.methodLink RX10 224 yX10_need ∈ xc_T := xc_in2 xt_6 137 rfl rfl
theorem lk_X10_226 : Cond.methodLink RX10 226 yX10_sumUp ∈ xc_T := xc_in2 xt_6 105 rfl rfl
theorem lk_X10_232 : Cond.methodLink RX10 232 yX10_aLine ∈ xc_T := xc_in2 xt_6 97 rfl rfl
theorem lk_X10_238 : Cond.methodLink RX10 238 yX10_number ∈ xc_T := xc_in2 xt_6 153 rfl rfl
theorem lk_X10_245 : Cond.methodLink RX10 245 yX10_aWording ∈ xc_T := xc_in2 xt_6 149 rfl rfl
theorem lk_X10_248 : Cond.methodLink RX10 248 yX10_told ∈ xc_T := xc_in2 xt_6 161 rfl rfl
theorem lk_X10_251 : Cond.methodLink RX10 251 yX10_aMeaning ∈ xc_T := xc_in2 xt_6 145 rfl rfl
theorem lk_X10_254 : Cond.methodLink RX10 254 yX10_aWalk ∈ xc_T := xc_in2 xt_6 157 rfl rfl
theorem lk_X10_257 : Cond.methodLink RX10 257 yX10_aNeed ∈ xc_T := xc_in2 xt_6 165 rfl rfl
theorem lk_X10_260 : Cond.methodLink RX10 260 yX10_putsMeanings ∈ xc_T := xc_in2 xt_6 173 rfl rfl
theorem lk_X10_263 : Cond.methodLink RX10 263 yX10_putsLaw ∈ xc_T := xc_in2 xt_6 177 rfl rfl
theorem lk_X10_266 : Cond.methodLink RX10 266 yX10_puts ∈ xc_T := xc_in2 xt_6 181 rfl rfl
theorem lk_X10_273 : Cond.methodLink RX10 273 yX10_readsLaw ∈ xc_T := xc_in2 xt_6 93 rfl rfl
theorem lk_X10_276 : Cond.methodLink RX10 276 yX10_readsRows ∈ xc_T := xc_in2 xt_6 141 rfl rfl
theorem lk_X10_279 : Cond.methodLink RX10 279 yX10_putsText ∈ xc_T := xc_in2 xt_6 169 rfl rfl
theorem lk_X10_282 : Cond.methodLink RX10 282 yX10_both ∈ xc_T := xc_in2 xt_6 232 rfl rfl
theorem lk_X10_285 : Cond.methodLink RX10 285 yX10_comesTo ∈ xc_T := xc_in2 xt_6 228 rfl rfl
theorem lk_X10_288 : Cond.methodLink RX10 288 yX10_has ∈ xc_T := xc_in2 xt_6 201 rfl rfl
theorem lk_X10_291 : Cond.methodLink RX10 291 yX10_count ∈ xc_T := xc_in2 xt_6 217 rfl rfl
theorem lk_X10_294 : Cond.methodLink RX10 294 yX10_knowers ∈ xc_T := xc_in2 xt_6 220 rfl rfl
theorem lk_X10_297 : Cond.methodLink RX10 297 yX10_isSo ∈ xc_T := xc_in2 xt_6 224 rfl rfl
theorem lk_X10_300 : Cond.methodLink RX10 300 yX10_lesser ∈ xc_T := xc_in2 xt_6 235 rfl rfl
theorem lk_X10_304 : Cond.methodLink RX10 304 yX10_greater ∈ xc_T := xc_in2 xt_6 238 rfl rfl
theorem lk_X10_307 : Cond.methodLink RX10 307 yX10_says ∈ xc_T := xc_in2 xt_6 213 rfl rfl
theorem lk_X10_314 : Cond.methodLink RX10 314 yX10_hasLapsed ∈ xc_T := xc_in2 xt_6 205 rfl rfl
theorem lk_X10_317 : Cond.methodLink RX10 317 yX10_tireOf ∈ xc_T := xc_in2 xt_6 209 rfl rfl
theorem lk_X10_320 : Cond.methodLink RX10 320 yX10_notes ∈ xc_T := xc_in2 xt_7 17 rfl rfl
theorem lk_X10_324 : Cond.methodLink RX10 324 yX10_hearOf ∈ xc_T := xc_in2 xt_7 9 rfl rfl
theorem lk_X10_327 : Cond.methodLink RX10 327 yX10_isHeard ∈ xc_T := xc_in2 xt_7 13 rfl rfl
theorem lk_X10_330 : Cond.methodLink RX10 330 yX10_canSay ∈ xc_T := xc_in2 xt_6 197 rfl rfl
theorem lk_X10_333 : Cond.methodLink RX10 333 yX10_keeps ∈ xc_T := xc_in2 xt_7 1 rfl rfl
theorem lk_X10_336 : Cond.methodLink RX10 336 yX10_says0 ∈ xc_T := xc_in2 xt_7 5 rfl rfl
theorem lk_X10_339 : Cond.methodLink RX10 339 yX10_movesTo ∈ xc_T := xc_in2 xt_7 25 rfl rfl
theorem lk_X10_342 : Cond.methodLink RX10 342 yX10_draw ∈ xc_T := xc_in2 xt_7 53 rfl rfl
theorem lk_X10_345 : Cond.methodLink RX10 345 yX10_stalest ∈ xc_T := xc_in2 xt_7 59 rfl rfl
theorem lk_X10_354 : Cond.methodLink RX10 354 yX10_keepOf ∈ xc_T := xc_in2 xt_7 67 rfl rfl
theorem lk_X10_357 : Cond.methodLink RX10 357 yX10_lapses ∈ xc_T := xc_in2 xt_7 71 rfl rfl
theorem lk_X10_361 : Cond.methodLink RX10 361 yX10_walks ∈ xc_T := xc_in2 xt_7 45 rfl rfl
theorem lk_X10_364 : Cond.methodLink RX10 364 yX10_chats ∈ xc_T := xc_in2 xt_7 49 rfl rfl
theorem lk_X10_367 : Cond.methodLink RX10 367 yX10_ages ∈ xc_T := xc_in2 xt_7 63 rfl rfl
theorem lk_X10_370 : Cond.methodLink RX10 370 yX10_works ∈ xc_T := xc_in2 xt_7 41 rfl rfl
theorem lk_X10_373 : Cond.methodLink RX10 373 yX10_ends ∈ xc_T := xc_in2 xt_7 75 rfl rfl
theorem lk_X10_376 : Cond.methodLink RX10 376 yX10_wordsOf ∈ xc_T := xc_in2 xt_7 99 rfl rfl
theorem lk_X10_379 : Cond.methodLink RX10 379 yX10_canBeSaid ∈ xc_T := xc_in2 xt_7 127 rfl rfl
theorem lk_X10_382 : Cond.methodLink RX10 382 yX10_longOf ∈ xc_T := xc_in2 xt_7 103 rfl rfl
theorem lk_X10_385 : Cond.methodLink RX10 385 yX10_living ∈ xc_T := xc_in2 xt_7 119 rfl rfl
theorem lk_X10_388 : Cond.methodLink RX10 388 yX10_saidBy ∈ xc_T := xc_in2 xt_7 123 rfl rfl
theorem lk_X10_391 : Cond.methodLink RX10 391 yX10_saysAll ∈ xc_T := xc_in2 xt_7 131 rfl rfl
theorem lk_X10_394 : Cond.methodLink RX10 394 yX10_laysMeanings ∈ xc_T := xc_in2 xt_7 111 rfl rfl
theorem lk_X10_397 : Cond.methodLink RX10 397 yX10_mostToGo ∈ xc_T := xc_in2 xt_7 115 rfl rfl
theorem lk_X10_400 : Cond.methodLink RX10 400 yX10_fewestToAdd ∈ xc_T := xc_in2 xt_7 135 rfl rfl
theorem lk_X10_403 : Cond.methodLink RX10 403 yX10_lays ∈ xc_T := xc_in2 xt_7 151 rfl rfl
theorem lk_X10_406 : Cond.methodLink RX10 406 yX10_putsBack ∈ xc_T := xc_in2 xt_7 155 rfl rfl
theorem lk_X10_409 : Cond.methodLink RX10 409 yX10_tonguesOf ∈ xc_T := xc_in2 xt_7 171 rfl rfl
theorem lk_X10_412 : Cond.methodLink RX10 412 yX10_aloneIn ∈ xc_T := xc_in2 xt_7 167 rfl rfl
theorem lk_X10_418 : Cond.methodLink RX10 418 yX10_milesOf ∈ xc_T := xc_in2 xt_7 188 rfl rfl
theorem lk_X10_421 : Cond.methodLink RX10 421 yX10_goesRound ∈ xc_T := xc_in2 xt_7 184 rfl rfl
theorem lk_X10_426 : Cond.methodLink RX10 426 yX10_unsaidOf ∈ xc_T := xc_in2 xt_7 196 rfl rfl
theorem lk_X10_429 : Cond.methodLink RX10 429 yX10_spokeSet ∈ xc_T := xc_in2 xt_7 208 rfl rfl
theorem lk_X10_432 : Cond.methodLink RX10 432 yX10_greaterBy ∈ xc_T := xc_in2 xt_7 212 rfl rfl
theorem lk_X10_435 : Cond.methodLink RX10 435 yX10_graspsOf ∈ xc_T := xc_in2 xt_7 220 rfl rfl
theorem lk_X10_438 : Cond.methodLink RX10 438 yX10_peopleAt ∈ xc_T := xc_in2 xt_7 232 rfl rfl
theorem lk_X10_441 : Cond.methodLink RX10 441 yX10_sharedBy ∈ xc_T := xc_in2 xt_7 236 rfl rfl
theorem lk_X10_444 : Cond.methodLink RX10 444 yX10_longOfSet ∈ xc_T := xc_in2 xt_8 8 rfl rfl
theorem lk_X10_447 : Cond.methodLink RX10 447 yX10_heapOf ∈ xc_T := xc_in2 xt_8 16 rfl rfl
theorem lk_X10_59 : Cond.methodLink RX10 59 yX10_isIn ∈ xc_T := xc_in2 xt_5 228 rfl rfl
theorem lk_X10_66 : Cond.methodLink RX10 66 yX10_forgets ∈ xc_T := xc_in2 xt_5 220 rfl rfl
theorem lk_X10_71 : Cond.methodLink RX10 71 yX10_isPlace ∈ xc_T := xc_in2 xt_5 235 rfl rfl
theorem lk_X10_75 : Cond.methodLink RX10 75 yX10_isPerson ∈ xc_T := xc_in2 xt_6 2 rfl rfl
theorem lk_X10_78 : Cond.methodLink RX10 78 yX10_isWord ∈ xc_T := xc_in2 xt_6 6 rfl rfl
theorem lk_X10_90 : Cond.methodLink RX10 90 yJ0_length_8abf5 ∈ xc_T := xc_in2 xt_6 50 rfl rfl
theorem lk_X10_96 : Cond.methodLink RX10 96 yJ0_charAt_5068e ∈ xc_T := xc_in2 xt_6 51 rfl rfl
theorem lk_X2_37 : Cond.methodLink RX2 37 yX2_longest ∈ xc_T := xc_in2 xt_5 52 rfl rfl
theorem lk_X3_32 : Cond.methodLink RX3 32 yX0_become ∈ xc_T := xc_in2 xt_2 195 rfl rfl
theorem lk_X6_101 : Cond.methodLink RX6 101 yX6_endOfLetters ∈ xc_T := xc_in2 xt_3 85 rfl rfl
theorem lk_X6_105 : Cond.methodLink RX6 105 yX6_keyword ∈ xc_T := xc_in2 xt_3 88 rfl rfl
theorem lk_X6_109 : Cond.methodLink RX6 109 yX6_addToken ∈ xc_T := xc_in2 xt_3 143 rfl rfl
theorem lk_X6_113 : Cond.methodLink RX6 113 yX6_endOfDigits ∈ xc_T := xc_in2 xt_3 147 rfl rfl
theorem lk_X6_116 : Cond.methodLink RX6 116 yX6_number ∈ xc_T := xc_in2 xt_3 150 rfl rfl
theorem lk_X6_119 : Cond.methodLink RX6 119 yX6_isSign ∈ xc_T := xc_in2 xt_3 153 rfl rfl
theorem lk_X6_124 : Cond.methodLink RX6 124 yJ0_indexOf_0f7a4 ∈ xc_T := xc_in2 xt_3 157 rfl rfl
theorem lk_X6_131 : Cond.methodLink RX6 131 yJ0_length_8abf5 ∈ xc_T := xc_in2 xt_3 92 rfl rfl
theorem lk_X6_133 : Cond.methodLink RX6 133 yJ0_charAt_5068e ∈ xc_T := xc_in2 xt_3 102 rfl rfl
theorem lk_X6_137 : Cond.methodLink RX6 137 yX6_isKeyword ∈ xc_T := xc_in2 xt_3 140 rfl rfl
theorem lk_X6_141 : Cond.methodLink RX6 141 yX6_ofNext ∈ xc_T := xc_in2 xt_3 232 rfl rfl
theorem lk_X6_145 : Cond.methodLink RX6 145 yX6_refuse ∈ xc_T := xc_in2 xt_3 228 rfl rfl
theorem lk_X6_151 : Cond.methodLink RX6 151 yX6_takeHead ∈ xc_T := xc_in2 xt_3 224 rfl rfl
theorem lk_X6_155 : Cond.methodLink RX6 155 yX2_open ∈ xc_T := xc_in2 xt_3 236 rfl rfl
theorem lk_X6_158 : Cond.methodLink RX6 158 yX6_readWording ∈ xc_T := xc_in2 xt_4 0 rfl rfl
theorem lk_X6_161 : Cond.methodLink RX6 161 yX6_take ∈ xc_T := xc_in2 xt_4 12 rfl rfl
theorem lk_X6_164 : Cond.methodLink RX6 164 yX2_isLatestFull ∈ xc_T := xc_in2 xt_4 16 rfl rfl
theorem lk_X6_171 : Cond.methodLink RX6 171 yX6_takeNumber ∈ xc_T := xc_in2 xt_4 4 rfl rfl
theorem lk_X6_178 : Cond.methodLink RX6 178 yX2_addWording ∈ xc_T := xc_in2 xt_4 8 rfl rfl
theorem lk_X6_184 : Cond.methodLink RX6 184 yX4_add ∈ xc_T := xc_in2 xt_4 56 rfl rfl
theorem lk_X6_189 : Cond.methodLink RX6 189 yX1_open ∈ xc_T := xc_in2 xt_4 24 rfl rfl
theorem lk_X6_192 : Cond.methodLink RX6 192 yX6_readSum ∈ xc_T := xc_in2 xt_4 28 rfl rfl
theorem lk_X6_195 : Cond.methodLink RX6 195 yX1_openCondition ∈ xc_T := xc_in2 xt_4 36 rfl rfl
theorem lk_X6_198 : Cond.methodLink RX6 198 yX6_readEither ∈ xc_T := xc_in2 xt_4 40 rfl rfl
theorem lk_X6_202 : Cond.methodLink RX6 202 yX1_close ∈ xc_T := xc_in2 xt_4 48 rfl rfl
theorem lk_X6_205 : Cond.methodLink RX6 205 yX6_readCondition ∈ xc_T := xc_in2 xt_4 44 rfl rfl
theorem lk_X6_208 : Cond.methodLink RX6 208 yX1_emit ∈ xc_T := xc_in2 xt_4 32 rfl rfl
theorem lk_X6_28 : Cond.methodLink RX6 28 yX6_cut ∈ xc_T := xc_in2 xt_3 71 rfl rfl
theorem lk_X6_47 : Cond.methodLink RX6 47 yX1_clear ∈ xc_T := xc_in2 xt_3 212 rfl rfl
theorem lk_X6_62 : Cond.methodLink RX6 62 yX6_kind ∈ xc_T := xc_in2 xt_3 216 rfl rfl
theorem lk_X6_66 : Cond.methodLink RX6 66 yX6_readMeaning ∈ xc_T := xc_in2 xt_3 220 rfl rfl
theorem lk_X6_70 : Cond.methodLink RX6 70 yX6_readLaw ∈ xc_T := xc_in2 xt_4 20 rfl rfl
theorem lk_X6_74 : Cond.methodLink RX6 74 yX6_readWalk ∈ xc_T := xc_in2 xt_4 52 rfl rfl
theorem lk_X6_78 : Cond.methodLink RX6 78 yX6_readNeed ∈ xc_T := xc_in2 xt_4 57 rfl rfl
theorem lk_X6_90 : Cond.methodLink RX6 90 yX5_at ∈ xc_T := xc_in2 xt_3 75 rfl rfl
theorem lk_X6_94 : Cond.methodLink RX6 94 yX6_isLetter ∈ xc_T := xc_in2 xt_3 79 rfl rfl
theorem lk_X6_98 : Cond.methodLink RX6 98 yX6_isDigit ∈ xc_T := xc_in2 xt_3 82 rfl rfl
theorem lk_X7_109 : Cond.methodLink RX7 109 yX4_cell ∈ xc_T := xc_in2 xt_4 233 rfl rfl
theorem lk_X7_112 : Cond.methodLink RX7 112 yX8_knowers ∈ xc_T := xc_in2 xt_4 234 rfl rfl
theorem lk_X7_115 : Cond.methodLink RX7 115 yX8_peopleAt ∈ xc_T := xc_in2 xt_4 235 rfl rfl
theorem lk_X7_121 : Cond.methodLink RX7 121 yX7_widened ∈ xc_T := xc_in2 xt_5 14 rfl rfl
theorem lk_X7_124 : Cond.methodLink RX7 124 yX7_understood ∈ xc_T := xc_in2 xt_5 17 rfl rfl
theorem lk_X7_127 : Cond.methodLink RX7 127 yX7_longTogether ∈ xc_T := xc_in2 xt_5 37 rfl rfl
theorem lk_X7_130 : Cond.methodLink RX7 130 yX7_isWithoutKin ∈ xc_T := xc_in2 xt_5 40 rfl rfl
theorem lk_X7_137 : Cond.methodLink RX7 137 yX8_hasLapsed ∈ xc_T := xc_in2 xt_5 76 rfl rfl
theorem lk_X7_140 : Cond.methodLink RX7 140 yX8_heap ∈ xc_T := xc_in2 xt_5 77 rfl rfl
theorem lk_X7_15 : Cond.methodLink RX7 15 yX8_sayable ∈ xc_T := xc_in2 xt_4 156 rfl rfl
theorem lk_X7_18 : Cond.methodLink RX7 18 yJ6_bitCount_0f7a4 ∈ xc_T := xc_in2 xt_4 157 rfl rfl
theorem lk_X7_28 : Cond.methodLink RX7 28 yX2_sayableWith ∈ xc_T := xc_in2 xt_4 158 rfl rfl
theorem lk_X7_46 : Cond.methodLink RX7 46 yX7_fewestToAdd ∈ xc_T := xc_in2 xt_4 162 rfl rfl
theorem lk_X7_52 : Cond.methodLink RX7 52 yX8_hasPerson ∈ xc_T := xc_in2 xt_4 182 rfl rfl
theorem lk_X7_63 : Cond.methodLink RX7 63 yX7_tonguesTogether ∈ xc_T := xc_in2 xt_4 172 rfl rfl
theorem lk_X7_67 : Cond.methodLink RX7 67 yX8_isIn ∈ xc_T := xc_in2 xt_4 175 rfl rfl
theorem lk_X7_71 : Cond.methodLink RX7 71 yX7_cost ∈ xc_T := xc_in2 xt_4 179 rfl rfl
theorem lk_X7_74 : Cond.methodLink RX7 74 yX7_milesThrough ∈ xc_T := xc_in2 xt_4 195 rfl rfl
theorem lk_X7_77 : Cond.methodLink RX7 77 yX8_milesBetween ∈ xc_T := xc_in2 xt_4 198 rfl rfl
theorem lk_X7_86 : Cond.methodLink RX7 86 yX7_firstOnRound ∈ xc_T := xc_in2 xt_4 207 rfl rfl
theorem lk_X7_9 : Cond.methodLink RX7 9 yX8_living ∈ xc_T := xc_in2 xt_4 155 rfl rfl
theorem lk_X8_106 : Cond.methodLink RX8 106 yX8_living ∈ xc_T := xc_in2 xt_2 162 rfl rfl
theorem lk_X8_110 : Cond.methodLink RX8 110 yX2_sayableWith ∈ xc_T := xc_in2 xt_4 130 rfl rfl
theorem lk_X8_126 : Cond.methodLink RX8 126 yX8_isPlace ∈ xc_T := xc_in2 xt_4 202 rfl rfl
theorem lk_X8_129 : Cond.methodLink RX8 129 yX8_hasWord ∈ xc_T := xc_in2 xt_2 146 rfl rfl
theorem lk_X8_132 : Cond.methodLink RX8 132 yJ6_bitCount_0f7a4 ∈ xc_T := xc_in2 xt_2 166 rfl rfl
theorem lk_X8_137 : Cond.methodLink RX8 137 yX8_knowers ∈ xc_T := xc_in2 xt_2 172 rfl rfl
theorem lk_X8_143 : Cond.methodLink RX8 143 yX1_tells ∈ xc_T := xc_in2 xt_2 176 rfl rfl
theorem lk_X8_147 : Cond.methodLink RX8 147 yX8_held ∈ xc_T := xc_in2 xt_2 184 rfl rfl
theorem lk_X8_160 : Cond.methodLink RX8 160 yX8_hasInTongue ∈ xc_T := xc_in2 xt_2 147 rfl rfl
theorem lk_X8_163 : Cond.methodLink RX8 163 yX8_hasLapsed ∈ xc_T := xc_in2 xt_2 154 rfl rfl
theorem lk_X8_166 : Cond.methodLink RX8 166 yX8_lawFor ∈ xc_T := xc_in2 xt_2 158 rfl rfl
theorem lk_X8_169 : Cond.methodLink RX8 169 yX8_peopleAt ∈ xc_T := xc_in2 xt_2 207 rfl rfl
theorem lk_X8_172 : Cond.methodLink RX8 172 yX8_spread ∈ xc_T := xc_in2 xt_2 211 rfl rfl
theorem lk_X8_176 : Cond.methodLink RX8 176 yX4_add ∈ xc_T := xc_in2 xt_2 215 rfl rfl
theorem lk_X8_180 : Cond.methodLink RX8 180 yX8_walk ∈ xc_T := xc_in2 xt_3 14 rfl rfl
theorem lk_X8_183 : Cond.methodLink RX8 183 yX8_chatter ∈ xc_T := xc_in2 xt_3 29 rfl rfl
theorem lk_X8_186 : Cond.methodLink RX8 186 yX8_age ∈ xc_T := xc_in2 xt_3 43 rfl rfl
theorem lk_X8_189 : Cond.methodLink RX8 189 yX8_breathe ∈ xc_T := xc_in2 xt_3 22 rfl rfl
theorem lk_X8_195 : Cond.methodLink RX8 195 yX4_cell ∈ xc_T := xc_in2 xt_3 18 rfl rfl
theorem lk_X8_198 : Cond.methodLink RX8 198 yX8_canSpeak ∈ xc_T := xc_in2 xt_3 26 rfl rfl
theorem lk_X8_201 : Cond.methodLink RX8 201 yX8_speak ∈ xc_T := xc_in2 xt_3 27 rfl rfl
theorem lk_X8_204 : Cond.methodLink RX8 204 yX8_moveTo ∈ xc_T := xc_in2 xt_3 28 rfl rfl
theorem lk_X8_207 : Cond.methodLink RX8 207 yX8_draw ∈ xc_T := xc_in2 xt_3 33 rfl rfl
theorem lk_X8_210 : Cond.methodLink RX8 210 yX8_longestUnsaid ∈ xc_T := xc_in2 xt_3 39 rfl rfl
theorem lk_X8_218 : Cond.methodLink RX8 218 yX8_lapse ∈ xc_T := xc_in2 xt_3 47 rfl rfl
theorem lk_X8_79 : Cond.methodLink RX8 79 yX0_become ∈ xc_T := xc_in2 xt_4 113 rfl rfl
theorem lk_X8_83 : Cond.methodLink RX8 83 yX4_become ∈ xc_T := xc_in2 xt_4 114 rfl rfl
theorem lk_X8_86 : Cond.methodLink RX8 86 yX2_become ∈ xc_T := xc_in2 xt_4 115 rfl rfl
theorem lk_X8_89 : Cond.methodLink RX8 89 yX1_become ∈ xc_T := xc_in2 xt_4 116 rfl rfl
theorem lk_X8_95 : Cond.methodLink RX8 95 yX8_isIn ∈ xc_T := xc_in2 xt_2 151 rfl rfl
theorem lk_X8_99 : Cond.methodLink RX8 99 yX8_hasPerson ∈ xc_T := xc_in2 xt_2 145 rfl rfl
theorem lk_X9_103 : Cond.methodLink RX9 103 yX8_canSpeak ∈ xc_T := xc_in2 xt_2 141 rfl rfl
theorem lk_X9_106 : Cond.methodLink RX9 106 yX3_keep ∈ xc_T := xc_in2 xt_2 191 rfl rfl
theorem lk_X9_110 : Cond.methodLink RX9 110 yX8_speak ∈ xc_T := xc_in2 xt_2 203 rfl rfl
theorem lk_X9_116 : Cond.methodLink RX9 116 yX8_moveTo ∈ xc_T := xc_in2 xt_2 223 rfl rfl
theorem lk_X9_120 : Cond.methodLink RX9 120 yX8_hasLapsed ∈ xc_T := xc_in2 xt_2 231 rfl rfl
theorem lk_X9_123 : Cond.methodLink RX9 123 yX8_hasInTongue ∈ xc_T := xc_in2 xt_2 232 rfl rfl
theorem lk_X9_126 : Cond.methodLink RX9 126 yX8_learn ∈ xc_T := xc_in2 xt_2 233 rfl rfl
theorem lk_X9_129 : Cond.methodLink RX9 129 yX8_revive ∈ xc_T := xc_in2 xt_3 1 rfl rfl
theorem lk_X9_139 : Cond.methodLink RX9 139 yJ6_bitCount_0f7a4 ∈ xc_T := xc_in2 xt_3 9 rfl rfl
theorem lk_X9_144 : Cond.methodLink RX9 144 yX8_passDay ∈ xc_T := xc_in2 xt_3 10 rfl rfl
theorem lk_X9_150 : Cond.methodLink RX9 150 yX5_put ∈ xc_T := xc_in2 xt_3 55 rfl rfl
theorem lk_X9_153 : Cond.methodLink RX9 153 yX6_read ∈ xc_T := xc_in2 xt_3 67 rfl rfl
theorem lk_X9_161 : Cond.methodLink RX9 161 yX2_become ∈ xc_T := xc_in2 xt_4 61 rfl rfl
theorem lk_X9_180 : Cond.methodLink RX9 180 yX1_become ∈ xc_T := xc_in2 xt_4 66 rfl rfl
theorem lk_X9_188 : Cond.methodLink RX9 188 yX4_become ∈ xc_T := xc_in2 xt_4 71 rfl rfl
theorem lk_X9_203 : Cond.methodLink RX9 203 yX8_lawFor ∈ xc_T := xc_in2 xt_4 85 rfl rfl
theorem lk_X9_207 : Cond.methodLink RX9 207 yX8_knowers ∈ xc_T := xc_in2 xt_4 86 rfl rfl
theorem lk_X9_216 : Cond.methodLink RX9 216 yX4_cell ∈ xc_T := xc_in2 xt_4 99 rfl rfl
theorem lk_X9_220 : Cond.methodLink RX9 220 yX9_beginThought ∈ xc_T := xc_in2 xt_4 104 rfl rfl
theorem lk_X9_223 : Cond.methodLink RX9 223 yJ6_numberOfTrailingZeros_0f7a4 ∈ xc_T := xc_in2 xt_4 117 rfl rfl
theorem lk_X9_226 : Cond.methodLink RX9 226 yX8_become ∈ xc_T := xc_in2 xt_4 108 rfl rfl
theorem lk_X9_233 : Cond.methodLink RX9 233 yX8_sayable ∈ xc_T := xc_in2 xt_4 126 rfl rfl
theorem lk_X9_237 : Cond.methodLink RX9 237 yX8_isIn ∈ xc_T := xc_in2 xt_4 134 rfl rfl
theorem lk_X9_241 : Cond.methodLink RX9 241 yX8_living ∈ xc_T := xc_in2 xt_4 139 rfl rfl
theorem lk_X9_244 : Cond.methodLink RX9 244 yX2_shortest ∈ xc_T := xc_in2 xt_4 140 rfl rfl
theorem lk_X9_247 : Cond.methodLink RX9 247 yX2_longOf ∈ xc_T := xc_in2 xt_4 144 rfl rfl
theorem lk_X9_250 : Cond.methodLink RX9 250 yX7_mostToGo ∈ xc_T := xc_in2 xt_4 152 rfl rfl
theorem lk_X9_256 : Cond.methodLink RX9 256 yX7_fewestToCarve ∈ xc_T := xc_in2 xt_4 159 rfl rfl
theorem lk_X9_259 : Cond.methodLink RX9 259 yX7_fewestKeepers ∈ xc_T := xc_in2 xt_4 169 rfl rfl
theorem lk_X9_262 : Cond.methodLink RX9 262 yX7_dearest ∈ xc_T := xc_in2 xt_4 176 rfl rfl
theorem lk_X9_265 : Cond.methodLink RX9 265 yX7_cost ∈ xc_T := xc_in2 xt_4 187 rfl rfl
theorem lk_X9_269 : Cond.methodLink RX9 269 yX7_fewestMiles ∈ xc_T := xc_in2 xt_4 192 rfl rfl
theorem lk_X9_273 : Cond.methodLink RX9 273 yX7_placeOnRound ∈ xc_T := xc_in2 xt_4 204 rfl rfl
theorem lk_X9_277 : Cond.methodLink RX9 277 yX7_longestUnsaid ∈ xc_T := xc_in2 xt_4 214 rfl rfl
theorem lk_X9_280 : Cond.methodLink RX9 280 yX7_unsaidTogether ∈ xc_T := xc_in2 xt_4 218 rfl rfl
theorem lk_X9_286 : Cond.methodLink RX9 286 yX4_add ∈ xc_T := xc_in2 xt_4 225 rfl rfl
theorem lk_X9_290 : Cond.methodLink RX9 290 yX7_speakers ∈ xc_T := xc_in2 xt_4 230 rfl rfl
theorem lk_X9_293 : Cond.methodLink RX9 293 yX7_wordToHear ∈ xc_T := xc_in2 xt_4 236 rfl rfl
theorem lk_X9_296 : Cond.methodLink RX9 296 yX7_understood ∈ xc_T := xc_in2 xt_5 4 rfl rfl
theorem lk_X9_299 : Cond.methodLink RX9 299 yX7_circleAround ∈ xc_T := xc_in2 xt_5 11 rfl rfl
theorem lk_X9_303 : Cond.methodLink RX9 303 yX7_fewestToTeach ∈ xc_T := xc_in2 xt_5 27 rfl rfl
theorem lk_X9_306 : Cond.methodLink RX9 306 yX7_longestVerse ∈ xc_T := xc_in2 xt_5 34 rfl rfl
theorem lk_X9_309 : Cond.methodLink RX9 309 yX7_longTogether ∈ xc_T := xc_in2 xt_5 43 rfl rfl
theorem lk_X9_312 : Cond.methodLink RX9 312 yX2_proudest ∈ xc_T := xc_in2 xt_5 48 rfl rfl
theorem lk_X9_315 : Cond.methodLink RX9 315 yX2_longest ∈ xc_T := xc_in2 xt_5 57 rfl rfl
theorem lk_X9_318 : Cond.methodLink RX9 318 yX7_fullestPlace ∈ xc_T := xc_in2 xt_5 62 rfl rfl
theorem lk_X9_321 : Cond.methodLink RX9 321 yX8_peopleAt ∈ xc_T := xc_in2 xt_5 65 rfl rfl
theorem lk_X9_324 : Cond.methodLink RX9 324 yX7_wordsInAllTongues ∈ xc_T := xc_in2 xt_5 66 rfl rfl
theorem lk_X9_327 : Cond.methodLink RX9 327 yX7_heapSum ∈ xc_T := xc_in2 xt_5 73 rfl rfl
theorem lk_X9_330 : Cond.methodLink RX9 330 yX7_wordToSilence ∈ xc_T := xc_in2 xt_5 81 rfl rfl
theorem lk_X9_333 : Cond.methodLink RX9 333 yX8_heap ∈ xc_T := xc_in2 xt_5 84 rfl rfl
theorem lk_X9_336 : Cond.methodLink RX9 336 yX3_bringBack ∈ xc_T := xc_in2 xt_5 89 rfl rfl
theorem lk_X9_57 : Cond.methodLink RX9 57 yX3_forget ∈ xc_T := xc_in2 xt_2 91 rfl rfl
theorem lk_X9_63 : Cond.methodLink RX9 63 yX8_addWord ∈ xc_T := xc_in2 xt_2 99 rfl rfl
theorem lk_X9_67 : Cond.methodLink RX9 67 yX8_isPlace ∈ xc_T := xc_in2 xt_2 107 rfl rfl
theorem lk_X9_74 : Cond.methodLink RX9 74 yX8_addPerson ∈ xc_T := xc_in2 xt_2 110 rfl rfl
theorem lk_X9_77 : Cond.methodLink RX9 77 yX9_isUpTo ∈ xc_T := xc_in2 xt_2 118 rfl rfl
theorem lk_X9_84 : Cond.methodLink RX9 84 yX8_hasPerson ∈ xc_T := xc_in2 xt_2 121 rfl rfl
theorem lk_X9_91 : Cond.methodLink RX9 91 yX8_hasWord ∈ xc_T := xc_in2 xt_2 125 rfl rfl
theorem fs_J0_1053 : Cond.fieldLink RJ0 1053 "jdk/internal/util/Preconditions" "SIOOBE_FORMATTER" "Ljava/util/function/BiFunction;" ∈ xc_T := xc_in2 xt_3 116 rfl rfl
theorem fs_J0_15 : Cond.fieldLink RJ0 15 "java/lang/String" "coder" "B" ∈ xc_T := xc_in2 xt_8 29 rfl rfl
theorem fs_J0_38 : Cond.fieldLink RJ0 38 "java/lang/String" "COMPACT_STRINGS" "Z" ∈ xc_T := xc_in2 xt_3 100 rfl rfl
theorem fs_J0_9 : Cond.fieldLink RJ0 9 "java/lang/String" "value" "[B" ∈ xc_T := xc_in2 xt_8 28 rfl rfl
theorem md_J0_charAt_5068e : xc_Md yJ0_charAt_5068e cJ0_charAt_5068e 2 (some .char) 1 := ⟨xc_in2 xt_3 105 rfl rfl, xc_in2 xt_1 14 rfl rfl, by decide +kernel, by decide⟩
theorem mi_J0_charAt_5068e : Cond.instanceMethod yJ0_charAt_5068e ∈ xc_T := xc_in2 xt_3 103 rfl rfl
theorem ms_J0_charAt_5068e : Cond.selects yJ0_charAt_5068e.cls yJ0_charAt_5068e yJ0_charAt_5068e ∈ xc_T := xc_in2 xt_3 104 rfl rfl
theorem md_J0_checkIndex_df160 : xc_Md yJ0_checkIndex_df160 cJ0_checkIndex_df160 2 none 2 := ⟨xc_in2 xt_3 115 rfl rfl, xc_in2 xt_1 14 rfl rfl, by decide +kernel, by decide⟩
theorem mt_J0_checkIndex_df160 : Cond.static yJ0_checkIndex_df160 ∈ xc_T := xc_in2 xt_3 114 rfl rfl
theorem md_J0_coder_7d493 : xc_Md yJ0_coder_7d493 cJ0_coder_7d493 1 (some .byte) 0 := ⟨xc_in2 xt_3 99 rfl rfl, xc_in2 xt_1 14 rfl rfl, by decide +kernel, by decide⟩
theorem mi_J0_coder_7d493 : Cond.instanceMethod yJ0_coder_7d493 ∈ xc_T := xc_in2 xt_3 97 rfl rfl
theorem ms_J0_coder_7d493 : Cond.selects yJ0_coder_7d493.cls yJ0_coder_7d493 yJ0_coder_7d493 ∈ xc_T := xc_in2 xt_3 98 rfl rfl
theorem md_J0_indexOf_0f7a4 : xc_Md yJ0_indexOf_0f7a4 cJ0_indexOf_0f7a4 2 (some .int) 1 := ⟨xc_in2 xt_3 160 rfl rfl, xc_in2 xt_1 14 rfl rfl, by decide +kernel, by decide⟩
theorem mi_J0_indexOf_0f7a4 : Cond.instanceMethod yJ0_indexOf_0f7a4 ∈ xc_T := xc_in2 xt_3 158 rfl rfl
theorem ms_J0_indexOf_0f7a4 : Cond.selects yJ0_indexOf_0f7a4.cls yJ0_indexOf_0f7a4 yJ0_indexOf_0f7a4 ∈ xc_T := xc_in2 xt_3 159 rfl rfl
theorem md_J0_indexOf_7cf53 : xc_Md yJ0_indexOf_7cf53 cJ0_indexOf_7cf53 3 (some .int) 2 := ⟨xc_in2 xt_3 164 rfl rfl, xc_in2 xt_1 14 rfl rfl, by decide +kernel, by decide⟩
theorem mi_J0_indexOf_7cf53 : Cond.instanceMethod yJ0_indexOf_7cf53 ∈ xc_T := xc_in2 xt_3 162 rfl rfl
theorem ms_J0_indexOf_7cf53 : Cond.selects yJ0_indexOf_7cf53.cls yJ0_indexOf_7cf53 yJ0_indexOf_7cf53 ∈ xc_T := xc_in2 xt_3 163 rfl rfl
theorem md_J0_isLatin1_aae02 : xc_Md yJ0_isLatin1_aae02 cJ0_isLatin1_aae02 1 (some .boolean) 0 := ⟨xc_in2 xt_3 109 rfl rfl, xc_in2 xt_1 14 rfl rfl, by decide +kernel, by decide⟩
theorem mi_J0_isLatin1_aae02 : Cond.instanceMethod yJ0_isLatin1_aae02 ∈ xc_T := xc_in2 xt_3 107 rfl rfl
theorem ms_J0_isLatin1_aae02 : Cond.selects yJ0_isLatin1_aae02.cls yJ0_isLatin1_aae02 yJ0_isLatin1_aae02 ∈ xc_T := xc_in2 xt_3 108 rfl rfl
theorem md_J0_length_8abf5 : xc_Md yJ0_length_8abf5 cJ0_length_8abf5 1 (some .int) 0 := ⟨xc_in2 xt_3 95 rfl rfl, xc_in2 xt_1 14 rfl rfl, by decide +kernel, by decide⟩
theorem mi_J0_length_8abf5 : Cond.instanceMethod yJ0_length_8abf5 ∈ xc_T := xc_in2 xt_3 93 rfl rfl
theorem ms_J0_length_8abf5 : Cond.selects yJ0_length_8abf5.cls yJ0_length_8abf5 yJ0_length_8abf5 ∈ xc_T := xc_in2 xt_3 94 rfl rfl
theorem md_J1_canEncode_9a6ad : xc_Md yJ1_canEncode_9a6ad cJ1_canEncode_9a6ad 1 (some .boolean) 1 := ⟨xc_in2 xt_3 171 rfl rfl, xc_in2 xt_1 15 rfl rfl, by decide +kernel, by decide⟩
theorem mt_J1_canEncode_9a6ad : Cond.static yJ1_canEncode_9a6ad ∈ xc_T := xc_in2 xt_3 170 rfl rfl
theorem md_J1_charAt_3b067 : xc_Md yJ1_charAt_3b067 cJ1_charAt_3b067 2 (some .char) 2 := ⟨xc_in2 xt_3 112 rfl rfl, xc_in2 xt_1 15 rfl rfl, by decide +kernel, by decide⟩
theorem mt_J1_charAt_3b067 : Cond.static yJ1_charAt_3b067 ∈ xc_T := xc_in2 xt_3 111 rfl rfl
theorem md_J1_indexOfChar_4cfef : xc_Md yJ1_indexOfChar_4cfef cJ1_indexOfChar_4cfef 6 (some .int) 4 := ⟨xc_in2 xt_3 176 rfl rfl, xc_in2 xt_1 15 rfl rfl, by decide +kernel, by decide⟩
theorem mt_J1_indexOfChar_4cfef : Cond.static yJ1_indexOfChar_4cfef ∈ xc_T := xc_in2 xt_3 175 rfl rfl
theorem md_J1_indexOf_4cfef : xc_Md yJ1_indexOf_4cfef cJ1_indexOf_4cfef 4 (some .int) 4 := ⟨xc_in2 xt_3 168 rfl rfl, xc_in2 xt_1 15 rfl rfl, by decide +kernel, by decide⟩
theorem mt_J1_indexOf_4cfef : Cond.static yJ1_indexOf_4cfef ∈ xc_T := xc_in2 xt_3 167 rfl rfl
theorem md_J3_checkIndex_8e157 : xc_Md yJ3_checkIndex_8e157 cJ3_checkIndex_8e157 3 (some .int) 3 := ⟨xc_in2 xt_3 120 rfl rfl, xc_in2 xt_1 16 rfl rfl, by decide +kernel, by decide⟩
theorem mt_J3_checkIndex_8e157 : Cond.static yJ3_checkIndex_8e157 ∈ xc_T := xc_in2 xt_3 119 rfl rfl
theorem md_J6_bitCount_0f7a4 : xc_Md yJ6_bitCount_0f7a4 cJ6_bitCount_0f7a4 1 (some .int) 1 := ⟨xc_in2 xt_2 168 rfl rfl, xc_in2 xt_1 12 rfl rfl, by decide +kernel, by decide⟩
theorem mt_J6_bitCount_0f7a4 : Cond.static yJ6_bitCount_0f7a4 ∈ xc_T := xc_in2 xt_2 167 rfl rfl
theorem md_J6_numberOfTrailingZeros_0f7a4 : xc_Md yJ6_numberOfTrailingZeros_0f7a4 cJ6_numberOfTrailingZeros_0f7a4 2 (some .int) 1 := ⟨xc_in2 xt_4 119 rfl rfl, xc_in2 xt_1 12 rfl rfl, by decide +kernel, by decide⟩
theorem mt_J6_numberOfTrailingZeros_0f7a4 : Cond.static yJ6_numberOfTrailingZeros_0f7a4 ∈ xc_T := xc_in2 xt_4 118 rfl rfl
theorem md_X0_become : xc_Md yX0_become cX0_become 2 none 1 := ⟨xc_in2 xt_2 198 rfl rfl, xc_in2 xt_1 3 rfl rfl, by decide +kernel, by decide⟩
theorem mi_X0_become : Cond.instanceMethod yX0_become ∈ xc_T := xc_in2 xt_2 196 rfl rfl
theorem ms_X0_become : Cond.selects yX0_become.cls yX0_become yX0_become ∈ xc_T := xc_in2 xt_2 197 rfl rfl
theorem md_X10_aLine : xc_Md yX10_aLine cX10_aLine 1 (some .boolean) 0 := ⟨xc_in2 xt_6 100 rfl rfl, xc_in2 xt_1 11 rfl rfl, by decide +kernel, by decide⟩
theorem mi_X10_aLine : Cond.instanceMethod yX10_aLine ∈ xc_T := xc_in2 xt_6 99 rfl rfl
theorem ms_X10_aLine : Cond.selects yX10_aLine.cls yX10_aLine yX10_aLine ∈ xc_T := xc_in2 xt_s3 6 rfl rfl
theorem md_X10_aMeaning : xc_Md yX10_aMeaning cX10_aMeaning 3 (some .boolean) 0 := ⟨xc_in2 xt_6 148 rfl rfl, xc_in2 xt_1 11 rfl rfl, by decide +kernel, by decide⟩
theorem mi_X10_aMeaning : Cond.instanceMethod yX10_aMeaning ∈ xc_T := xc_in2 xt_6 147 rfl rfl
theorem ms_X10_aMeaning : Cond.selects yX10_aMeaning.cls yX10_aMeaning yX10_aMeaning ∈ xc_T := xc_in2 xt_s4 2 rfl rfl
theorem md_X10_aNeed : xc_Md yX10_aNeed cX10_aNeed 2 (some .boolean) 0 := ⟨xc_in2 xt_6 168 rfl rfl, xc_in2 xt_1 11 rfl rfl, by decide +kernel, by decide⟩
theorem mi_X10_aNeed : Cond.instanceMethod yX10_aNeed ∈ xc_T := xc_in2 xt_6 167 rfl rfl
theorem ms_X10_aNeed : Cond.selects yX10_aNeed.cls yX10_aNeed yX10_aNeed ∈ xc_T := xc_in2 xt_s4 7 rfl rfl
theorem md_X10_aWalk : xc_Md yX10_aWalk cX10_aWalk 2 (some .boolean) 0 := ⟨xc_in2 xt_6 160 rfl rfl, xc_in2 xt_1 11 rfl rfl, by decide +kernel, by decide⟩
theorem mi_X10_aWalk : Cond.instanceMethod yX10_aWalk ∈ xc_T := xc_in2 xt_6 159 rfl rfl
theorem ms_X10_aWalk : Cond.selects yX10_aWalk.cls yX10_aWalk yX10_aWalk ∈ xc_T := xc_in2 xt_s4 5 rfl rfl
theorem md_X10_aWording : xc_Md yX10_aWording cX10_aWording 4 (some .boolean) 1 := ⟨xc_in2 xt_6 152 rfl rfl, xc_in2 xt_1 11 rfl rfl, by decide +kernel, by decide⟩
theorem mi_X10_aWording : Cond.instanceMethod yX10_aWording ∈ xc_T := xc_in2 xt_6 151 rfl rfl
theorem ms_X10_aWording : Cond.selects yX10_aWording.cls yX10_aWording yX10_aWording ∈ xc_T := xc_in2 xt_s4 3 rfl rfl
theorem md_X10_ages : xc_Md yX10_ages cX10_ages 3 (some .int) 0 := ⟨xc_in2 xt_7 66 rfl rfl, xc_in2 xt_1 11 rfl rfl, by decide +kernel, by decide⟩
theorem mi_X10_ages : Cond.instanceMethod yX10_ages ∈ xc_T := xc_in2 xt_7 65 rfl rfl
theorem ms_X10_ages : Cond.selects yX10_ages.cls yX10_ages yX10_ages ∈ xc_T := xc_in2 xt_s5 15 rfl rfl
theorem md_X10_aloneIn : xc_Md yX10_aloneIn cX10_aloneIn 2 (some .int) 1 := ⟨xc_in2 xt_7 170 rfl rfl, xc_in2 xt_1 11 rfl rfl, by decide +kernel, by decide⟩
theorem mi_X10_aloneIn : Cond.instanceMethod yX10_aloneIn ∈ xc_T := xc_in2 xt_7 169 rfl rfl
theorem ms_X10_aloneIn : Cond.selects yX10_aloneIn.cls yX10_aloneIn yX10_aloneIn ∈ xc_T := xc_in2 xt_s6 14 rfl rfl
theorem md_X10_any : xc_Md yX10_any cX10_any 1 (some .boolean) 0 := ⟨xc_in2 xt_6 124 rfl rfl, xc_in2 xt_1 11 rfl rfl, by decide +kernel, by decide⟩
theorem mi_X10_any : Cond.instanceMethod yX10_any ∈ xc_T := xc_in2 xt_6 123 rfl rfl
theorem ms_X10_any : Cond.selects yX10_any.cls yX10_any yX10_any ∈ xc_T := xc_in2 xt_s3 12 rfl rfl
theorem md_X10_asked : xc_Md yX10_asked cX10_asked 1 (some .int) 0 := ⟨xc_in2 xt_6 66 rfl rfl, xc_in2 xt_1 11 rfl rfl, by decide +kernel, by decide⟩
theorem mi_X10_asked : Cond.instanceMethod yX10_asked ∈ xc_T := xc_in2 xt_6 65 rfl rfl
theorem ms_X10_asked : Cond.selects yX10_asked.cls yX10_asked yX10_asked ∈ xc_T := xc_in2 xt_s3 2 rfl rfl
theorem md_X10_asks : xc_Md yX10_asks cX10_asks 4 (some .int) 3 := ⟨xc_in2 xt_7 90 rfl rfl, xc_in2 xt_1 11 rfl rfl, by decide +kernel, by decide⟩
theorem mi_X10_asks : Cond.instanceMethod yX10_asks ∈ xc_T := xc_in2 xt_7 88 rfl rfl
theorem ms_X10_asks : Cond.selects yX10_asks.cls yX10_asks yX10_asks ∈ xc_T := xc_in2 xt_7 89 rfl rfl
theorem md_X10_bad : xc_Md yX10_bad cX10_bad 2 (some .boolean) 1 := ⟨xc_in2 xt_6 104 rfl rfl, xc_in2 xt_1 11 rfl rfl, by decide +kernel, by decide⟩
theorem mi_X10_bad : Cond.instanceMethod yX10_bad ∈ xc_T := xc_in2 xt_6 103 rfl rfl
theorem ms_X10_bad : Cond.selects yX10_bad.cls yX10_bad yX10_bad ∈ xc_T := xc_in2 xt_s3 7 rfl rfl
theorem md_X10_boast : xc_Md yX10_boast cX10_boast 7 (some .int) 2 := ⟨xc_in2 xt_7 146 rfl rfl, xc_in2 xt_1 11 rfl rfl, by decide +kernel, by decide⟩
theorem mi_X10_boast : Cond.instanceMethod yX10_boast ∈ xc_T := xc_in2 xt_7 144 rfl rfl
theorem ms_X10_boast : Cond.selects yX10_boast.cls yX10_boast yX10_boast ∈ xc_T := xc_in2 xt_7 145 rfl rfl
theorem md_X10_book : xc_Md yX10_book cX10_book 3 (some .int) 2 := ⟨xc_in2 xt_7 94 rfl rfl, xc_in2 xt_1 11 rfl rfl, by decide +kernel, by decide⟩
theorem mi_X10_book : Cond.instanceMethod yX10_book ∈ xc_T := xc_in2 xt_7 92 rfl rfl
theorem ms_X10_book : Cond.selects yX10_book.cls yX10_book yX10_book ∈ xc_T := xc_in2 xt_7 93 rfl rfl
theorem md_X10_both : xc_Md yX10_both cX10_both 3 (some .int) 3 := ⟨xc_in2 xt_6 234 rfl rfl, xc_in2 xt_1 11 rfl rfl, by decide +kernel, by decide⟩
theorem mt_X10_both : Cond.static yX10_both ∈ xc_T := xc_in2 xt_6 233 rfl rfl
theorem md_X10_canBeSaid : xc_Md yX10_canBeSaid cX10_canBeSaid 4 (some .boolean) 2 := ⟨xc_in2 xt_7 130 rfl rfl, xc_in2 xt_1 11 rfl rfl, by decide +kernel, by decide⟩
theorem mi_X10_canBeSaid : Cond.instanceMethod yX10_canBeSaid ∈ xc_T := xc_in2 xt_7 129 rfl rfl
theorem ms_X10_canBeSaid : Cond.selects yX10_canBeSaid.cls yX10_canBeSaid yX10_canBeSaid ∈ xc_T := xc_in2 xt_s6 9 rfl rfl
theorem md_X10_canSay : xc_Md yX10_canSay cX10_canSay 3 (some .boolean) 2 := ⟨xc_in2 xt_6 200 rfl rfl, xc_in2 xt_1 11 rfl rfl, by decide +kernel, by decide⟩
theorem mi_X10_canSay : Cond.instanceMethod yX10_canSay ∈ xc_T := xc_in2 xt_6 199 rfl rfl
theorem ms_X10_canSay : Cond.selects yX10_canSay.cls yX10_canSay yX10_canSay ∈ xc_T := xc_in2 xt_s4 12 rfl rfl
theorem md_X10_carve : xc_Md yX10_carve cX10_carve 2 (some .boolean) 1 := ⟨xc_in2 xt_7 36 rfl rfl, xc_in2 xt_1 11 rfl rfl, by decide +kernel, by decide⟩
theorem mi_X10_carve : Cond.instanceMethod yX10_carve ∈ xc_T := xc_in2 xt_7 34 rfl rfl
theorem ms_X10_carve : Cond.selects yX10_carve.cls yX10_carve yX10_carve ∈ xc_T := xc_in2 xt_7 35 rfl rfl
theorem md_X10_chats : xc_Md yX10_chats cX10_chats 3 none 0 := ⟨xc_in2 xt_7 52 rfl rfl, xc_in2 xt_1 11 rfl rfl, by decide +kernel, by decide⟩
theorem mi_X10_chats : Cond.instanceMethod yX10_chats ∈ xc_T := xc_in2 xt_7 51 rfl rfl
theorem ms_X10_chats : Cond.selects yX10_chats.cls yX10_chats yX10_chats ∈ xc_T := xc_in2 xt_s5 12 rfl rfl
theorem md_X10_circle : xc_Md yX10_circle cX10_circle 6 (some .int) 1 := ⟨xc_in2 xt_7 227 rfl rfl, xc_in2 xt_1 11 rfl rfl, by decide +kernel, by decide⟩
theorem mi_X10_circle : Cond.instanceMethod yX10_circle ∈ xc_T := xc_in2 xt_7 225 rfl rfl
theorem ms_X10_circle : Cond.selects yX10_circle.cls yX10_circle yX10_circle ∈ xc_T := xc_in2 xt_7 226 rfl rfl
theorem md_X10_comesTo : xc_Md yX10_comesTo cX10_comesTo 8 (some .int) 3 := ⟨xc_in2 xt_6 231 rfl rfl, xc_in2 xt_1 11 rfl rfl, by decide +kernel, by decide⟩
theorem mi_X10_comesTo : Cond.instanceMethod yX10_comesTo ∈ xc_T := xc_in2 xt_6 230 rfl rfl
theorem ms_X10_comesTo : Cond.selects yX10_comesTo.cls yX10_comesTo yX10_comesTo ∈ xc_T := xc_in2 xt_s5 3 rfl rfl
theorem md_X10_costs : xc_Md yX10_costs cX10_costs 2 (some .int) 1 := ⟨xc_in2 xt_7 166 rfl rfl, xc_in2 xt_1 11 rfl rfl, by decide +kernel, by decide⟩
theorem mi_X10_costs : Cond.instanceMethod yX10_costs ∈ xc_T := xc_in2 xt_7 164 rfl rfl
theorem ms_X10_costs : Cond.selects yX10_costs.cls yX10_costs yX10_costs ∈ xc_T := xc_in2 xt_7 165 rfl rfl
theorem md_X10_count : xc_Md yX10_count cX10_count 3 (some .int) 1 := ⟨xc_in2 xt_6 219 rfl rfl, xc_in2 xt_1 11 rfl rfl, by decide +kernel, by decide⟩
theorem mt_X10_count : Cond.static yX10_count ∈ xc_T := xc_in2 xt_6 218 rfl rfl
theorem md_X10_crowd : xc_Md yX10_crowd cX10_crowd 4 (some .int) 1 := ⟨xc_in2 xt_7 231 rfl rfl, xc_in2 xt_1 11 rfl rfl, by decide +kernel, by decide⟩
theorem mi_X10_crowd : Cond.instanceMethod yX10_crowd ∈ xc_T := xc_in2 xt_7 229 rfl rfl
theorem ms_X10_crowd : Cond.selects yX10_crowd.cls yX10_crowd yX10_crowd ∈ xc_T := xc_in2 xt_7 230 rfl rfl
theorem md_X10_days : xc_Md yX10_days cX10_days 4 (some .int) 1 := ⟨xc_in2 xt_7 40 rfl rfl, xc_in2 xt_1 11 rfl rfl, by decide +kernel, by decide⟩
theorem mi_X10_days : Cond.instanceMethod yX10_days ∈ xc_T := xc_in2 xt_7 38 rfl rfl
theorem ms_X10_days : Cond.selects yX10_days.cls yX10_days yX10_days ∈ xc_T := xc_in2 xt_7 39 rfl rfl
theorem md_X10_draw : xc_Md yX10_draw cX10_draw 2 (some .int) 1 := ⟨xc_in2 xt_7 56 rfl rfl, xc_in2 xt_1 11 rfl rfl, by decide +kernel, by decide⟩
theorem mi_X10_draw : Cond.instanceMethod yX10_draw ∈ xc_T := xc_in2 xt_7 55 rfl rfl
theorem ms_X10_draw : Cond.selects yX10_draw.cls yX10_draw yX10_draw ∈ xc_T := xc_in2 xt_s5 13 rfl rfl
theorem md_X10_end : xc_Md yX10_end cX10_end 2 (some .boolean) 1 := ⟨xc_in2 xt_6 25 rfl rfl, xc_in2 xt_1 11 rfl rfl, by decide +kernel, by decide⟩
theorem mi_X10_end : Cond.instanceMethod yX10_end ∈ xc_T := xc_in2 xt_6 23 rfl rfl
theorem ms_X10_end : Cond.selects yX10_end.cls yX10_end yX10_end ∈ xc_T := xc_in2 xt_6 24 rfl rfl
theorem md_X10_ends : xc_Md yX10_ends cX10_ends 2 none 0 := ⟨xc_in2 xt_7 78 rfl rfl, xc_in2 xt_1 11 rfl rfl, by decide +kernel, by decide⟩
theorem mi_X10_ends : Cond.instanceMethod yX10_ends ∈ xc_T := xc_in2 xt_7 77 rfl rfl
theorem ms_X10_ends : Cond.selects yX10_ends.cls yX10_ends yX10_ends ∈ xc_T := xc_in2 xt_s6 2 rfl rfl
theorem md_X10_every : xc_Md yX10_every cX10_every 1 (some .boolean) 0 := ⟨xc_in2 xt_6 128 rfl rfl, xc_in2 xt_1 11 rfl rfl, by decide +kernel, by decide⟩
theorem mi_X10_every : Cond.instanceMethod yX10_every ∈ xc_T := xc_in2 xt_6 127 rfl rfl
theorem ms_X10_every : Cond.selects yX10_every.cls yX10_every yX10_every ∈ xc_T := xc_in2 xt_s3 13 rfl rfl
theorem md_X10_fault : xc_Md yX10_fault cX10_fault 2 (some .int) 1 := ⟨xc_in2 xt_6 188 rfl rfl, xc_in2 xt_1 11 rfl rfl, by decide +kernel, by decide⟩
theorem mi_X10_fault : Cond.instanceMethod yX10_fault ∈ xc_T := xc_in2 xt_6 186 rfl rfl
theorem ms_X10_fault : Cond.selects yX10_fault.cls yX10_fault yX10_fault ∈ xc_T := xc_in2 xt_6 187 rfl rfl
theorem md_X10_feed : xc_Md yX10_feed cX10_feed 8 (some .int) 5 := ⟨xc_in2 xt_6 21 rfl rfl, xc_in2 xt_1 11 rfl rfl, by decide +kernel, by decide⟩
theorem mi_X10_feed : Cond.instanceMethod yX10_feed ∈ xc_T := xc_in2 xt_6 19 rfl rfl
theorem ms_X10_feed : Cond.selects yX10_feed.cls yX10_feed yX10_feed ∈ xc_T := xc_in2 xt_6 20 rfl rfl
theorem md_X10_fewestToAdd : xc_Md yX10_fewestToAdd cX10_fewestToAdd 6 (some .int) 3 := ⟨xc_in2 xt_7 138 rfl rfl, xc_in2 xt_1 11 rfl rfl, by decide +kernel, by decide⟩
theorem mi_X10_fewestToAdd : Cond.instanceMethod yX10_fewestToAdd ∈ xc_T := xc_in2 xt_7 137 rfl rfl
theorem ms_X10_fewestToAdd : Cond.selects yX10_fewestToAdd.cls yX10_fewestToAdd yX10_fewestToAdd ∈ xc_T := xc_in2 xt_s6 11 rfl rfl
theorem md_X10_forgets : xc_Md yX10_forgets cX10_forgets 1 none 0 := ⟨xc_in2 xt_5 223 rfl rfl, xc_in2 xt_1 11 rfl rfl, by decide +kernel, by decide⟩
theorem mi_X10_forgets : Cond.instanceMethod yX10_forgets ∈ xc_T := xc_in2 xt_5 222 rfl rfl
theorem ms_X10_forgets : Cond.selects yX10_forgets.cls yX10_forgets yX10_forgets ∈ xc_T := xc_in2 xt_s2 10 rfl rfl
theorem md_X10_go : xc_Md yX10_go cX10_go 3 (some .int) 1 := ⟨xc_in2 xt_7 110 rfl rfl, xc_in2 xt_1 11 rfl rfl, by decide +kernel, by decide⟩
theorem mi_X10_go : Cond.instanceMethod yX10_go ∈ xc_T := xc_in2 xt_7 108 rfl rfl
