theorem xk_b_11 : (Int8.ofInt (11)).toInt32 = 11 := by decide
theorem xk_b_13 : (Int8.ofInt (13)).toInt32 = 13 := by decide
theorem xk_b_15 : (Int8.ofInt (15)).toInt32 = 15 := by decide
theorem xk_b_21 : (Int8.ofInt (21)).toInt32 = 21 := by decide
theorem xk_b_30 : (Int8.ofInt (30)).toInt32 = 30 := by decide
theorem xk_b_m10 : (Int8.ofInt (-10)).toInt32 = -10 := by decide
theorem xk_b_m100 : (Int8.ofInt (-100)).toInt32 = -100 := by decide
theorem xk_b_m9 : (Int8.ofInt (-9)).toInt32 = -9 := by decide
theorem xk_c_20 : Int32.ofInt (20) = 20 := by decide
theorem xk_s_1001 : (Int16.ofInt (1001)).toInt32 = 1001 := by decide
theorem xk_s_150 : (Int16.ofInt (150)).toInt32 = 150 := by decide
theorem xk_s_181 : (Int16.ofInt (181)).toInt32 = 181 := by decide
theorem xk_s_277 : (Int16.ofInt (277)).toInt32 = 277 := by decide
theorem xk_s_281 : (Int16.ofInt (281)).toInt32 = 281 := by decide
theorem xk_s_283 : (Int16.ofInt (283)).toInt32 = 283 := by decide
theorem xk_s_293 : (Int16.ofInt (293)).toInt32 = 293 := by decide
theorem xk_s_307 : (Int16.ofInt (307)).toInt32 = 307 := by decide
theorem xk_s_311 : (Int16.ofInt (311)).toInt32 = 311 := by decide
theorem xk_s_313 : (Int16.ofInt (313)).toInt32 = 313 := by decide
theorem xk_s_317 : (Int16.ofInt (317)).toInt32 = 317 := by decide
theorem xk_s_617 : (Int16.ofInt (617)).toInt32 = 617 := by decide
theorem xk_s_619 : (Int16.ofInt (619)).toInt32 = 619 := by decide
theorem xk_s_700 : (Int16.ofInt (700)).toInt32 = 700 := by decide
theorem ac_0 : Cond.arrayClass .int ∈ xc_T := xc_in2 xt_1 84 rfl rfl
theorem ac_1 : Cond.arrayClass .byte ∈ xc_T := xc_in2 xt_2 22 rfl rfl
theorem cl_J4_18 : Cond.classLink RJ4 18 "java/lang/String" ∈ xc_T := xc_in2 xt_4 165 rfl rfl
theorem cl_J7_311 : Cond.classLink RJ7 311 "[B" ∈ xc_T := xc_in2 xt_4 57 rfl rfl
theorem cl_L_38 : Cond.classLink RL 38 "UnsaidWordsLaw$Talk" ∈ xc_T := xc_in2 xt_5 234 rfl rfl
theorem cl_L_49 : Cond.classLink RL 49 "java/lang/StringBuilder" ∈ xc_T := xc_in2 xt_3 228 rfl rfl
theorem cl_L_52 : Cond.classLink RL 52 "[[I" ∈ xc_T := xc_in2 xt_4 19 rfl rfl
theorem cl_L_58 : Cond.classLink RL 58 "[I" ∈ xc_T := xc_in2 xt_4 20 rfl rfl
theorem cl_X10_16 : Cond.classLink RX10 16 "[I" ∈ xc_T := xc_in2 xt_3 76 rfl rfl
theorem cl_X10_34 : Cond.classLink RX10 34 "[[I" ∈ xc_T := xc_in2 xt_3 78 rfl rfl
theorem cl_X10_8 : Cond.classLink RX10 8 "UnsaidWordsLaw$Talk" ∈ xc_T := xc_in2 xt_3 70 rfl rfl
theorem lq_J7_310 : xd_LkB RJ7 310 := ⟨xc_in2 xt_4 53 rfl rfl, xc_in2 xt_4 54 rfl rfl, xc_in2 xt_3 143 rfl rfl, xc_in2 xt_3 144 rfl rfl, xc_in2 xt_4 55 rfl rfl⟩
theorem lq_X10_64 : xd_Lk RX10 64 := ⟨xc_in2 xt_3 141 rfl rfl, xc_in2 xt_3 142 rfl rfl, xc_in2 xt_3 143 rfl rfl, xc_in2 xt_3 144 rfl rfl, xc_in2 xt_3 145 rfl rfl⟩
theorem kt_J5_39 : Jvm.Cond.constant RJ5 39 (2147483647) ∈ xc_T := xc_in2 xt_4 49 rfl rfl
theorem kt_J8_200 : Jvm.Cond.constant RJ8 200 (2147483639) ∈ xc_T := xc_in2 xt_4 45 rfl rfl
theorem kt_L_7 : Jvm.Cond.constant RL 7 (1048575) ∈ xc_T := xc_in2 xt_3 224 rfl rfl
theorem kt_X10_68 : Jvm.Cond.constant RX10 68 (1664525) ∈ xc_T := xc_in2 xt_3 189 rfl rfl
theorem kt_X10_69 : Jvm.Cond.constant RX10 69 (1013904223) ∈ xc_T := xc_in2 xt_3 190 rfl rfl
theorem lc_J0_212 : xc_Lc RJ0 212 := ⟨xc_in2 xt_4 132 rfl rfl, xc_in2 xt_2 186 rfl rfl, xc_in2 xt_2 185 rfl rfl, xc_in2 xt_1 18 rfl rfl⟩
theorem lc_J7_150 : xc_Lc RJ7 150 := ⟨xc_in2 xt_4 59 rfl rfl, xc_in2 xt_2 186 rfl rfl, xc_in2 xt_2 185 rfl rfl, xc_in2 xt_1 18 rfl rfl⟩
theorem fl_J0_1048 : Cond.fieldLink RJ0 1048 RJ5 (TJ4 2).2.1 (TJ4 2).2.2.1 ∈ xc_T := xc_in2 xt_4 8 rfl rfl
theorem fl_J0_15 : Cond.fieldLink RJ0 15 RJ0 (TJ0 1).2.1 (TJ0 1).2.2.1 ∈ xc_T := xc_in2 xt_4 211 rfl rfl
theorem fl_J0_9 : Cond.fieldLink RJ0 9 RJ0 (TJ0 0).2.1 (TJ0 0).2.2.1 ∈ xc_T := xc_in2 xt_4 210 rfl rfl
theorem fl_J5_15 : Cond.fieldLink RJ5 15 RJ5 (TJ4 0).2.1 (TJ4 0).2.2.1 ∈ xc_T := xc_in2 xt_4 6 rfl rfl
theorem fl_J5_22 : Cond.fieldLink RJ5 22 RJ5 (TJ4 1).2.1 (TJ4 1).2.2.1 ∈ xc_T := xc_in2 xt_4 7 rfl rfl
theorem fl_J5_79 : Cond.fieldLink RJ5 79 RJ5 (TJ4 3).2.1 (TJ4 3).2.2.1 ∈ xc_T := xc_in2 xt_4 9 rfl rfl
theorem fl_X10_13 : Cond.fieldLink RX10 13 RX10 (TX10 7).2.1 (TX10 7).2.2.1 ∈ xc_T := xc_in2 xt_3 92 rfl rfl
theorem fl_X10_18 : Cond.fieldLink RX10 18 RX10 (TX10 8).2.1 (TX10 8).2.2.1 ∈ xc_T := xc_in2 xt_3 93 rfl rfl
theorem fl_X10_22 : Cond.fieldLink RX10 22 RX10 (TX10 9).2.1 (TX10 9).2.2.1 ∈ xc_T := xc_in2 xt_3 95 rfl rfl
theorem fl_X10_25 : Cond.fieldLink RX10 25 RX10 (TX10 10).2.1 (TX10 10).2.2.1 ∈ xc_T := xc_in2 xt_3 97 rfl rfl
theorem fl_X10_28 : Cond.fieldLink RX10 28 RX10 (TX10 11).2.1 (TX10 11).2.2.1 ∈ xc_T := xc_in2 xt_3 99 rfl rfl
theorem fl_X10_31 : Cond.fieldLink RX10 31 RX10 (TX10 12).2.1 (TX10 12).2.2.1 ∈ xc_T := xc_in2 xt_3 101 rfl rfl
theorem fl_X10_35 : Cond.fieldLink RX10 35 RX10 (TX10 13).2.1 (TX10 13).2.2.1 ∈ xc_T := xc_in2 xt_3 102 rfl rfl
theorem fl_X10_38 : Cond.fieldLink RX10 38 RX10 (TX10 14).2.1 (TX10 14).2.2.1 ∈ xc_T := xc_in2 xt_3 104 rfl rfl
theorem fl_X10_43 : Cond.fieldLink RX10 43 RX10 (TX10 0).2.1 (TX10 0).2.2.1 ∈ xc_T := xc_in2 xt_3 80 rfl rfl
theorem fl_X10_46 : Cond.fieldLink RX10 46 RX10 (TX10 1).2.1 (TX10 1).2.2.1 ∈ xc_T := xc_in2 xt_3 82 rfl rfl
theorem fl_X10_49 : Cond.fieldLink RX10 49 RX10 (TX10 2).2.1 (TX10 2).2.2.1 ∈ xc_T := xc_in2 xt_3 84 rfl rfl
theorem fl_X10_52 : Cond.fieldLink RX10 52 RX10 (TX10 3).2.1 (TX10 3).2.2.1 ∈ xc_T := xc_in2 xt_3 86 rfl rfl
theorem fl_X10_55 : Cond.fieldLink RX10 55 RX10 (TX10 4).2.1 (TX10 4).2.2.1 ∈ xc_T := xc_in2 xt_3 88 rfl rfl
theorem fl_X10_58 : Cond.fieldLink RX10 58 RX10 (TX10 5).2.1 (TX10 5).2.2.1 ∈ xc_T := xc_in2 xt_3 90 rfl rfl
theorem fl_X10_61 : Cond.fieldLink RX10 61 RX10 (TX10 15).2.1 (TX10 15).2.2.1 ∈ xc_T := xc_in2 xt_3 106 rfl rfl
theorem fl_X10_7 : Cond.fieldLink RX10 7 RX10 (TX10 6).2.1 (TX10 6).2.2.1 ∈ xc_T := xc_in2 xt_3 91 rfl rfl
theorem lm_J7_304 : xc_Lm RJ7 304 Lib.Math.min.name Lib.Math.min.code := ⟨xc_in2 xt_4 58 rfl rfl, xc_in2 xt_2 173 rfl rfl, xc_in2 xt_1 5 rfl rfl, xc_in2 xt_2 174 rfl rfl⟩
theorem lm_J8_194 : xc_Lm RJ8 194 Lib.Math.max.name Lib.Math.max.code := ⟨xc_in2 xt_4 44 rfl rfl, xc_in2 xt_1 92 rfl rfl, xc_in2 xt_1 5 rfl rfl, xc_in2 xt_1 93 rfl rfl⟩
theorem lm_L_14 : xc_Lm RL 14 Lib.Math.max.name Lib.Math.max.code := ⟨xc_in2 xt_3 172 rfl rfl, xc_in2 xt_1 92 rfl rfl, xc_in2 xt_1 5 rfl rfl, xc_in2 xt_1 93 rfl rfl⟩
theorem lm_L_8 : xc_Lm RL 8 Lib.Math.min.name Lib.Math.min.code := ⟨xc_in2 xt_3 171 rfl rfl, xc_in2 xt_2 173 rfl rfl, xc_in2 xt_1 5 rfl rfl, xc_in2 xt_2 174 rfl rfl⟩
theorem lm_X10_103 : xc_Lm RX10 103 Lib.Math.min.name Lib.Math.min.code := ⟨xc_in2 xt_3 184 rfl rfl, xc_in2 xt_2 173 rfl rfl, xc_in2 xt_1 5 rfl rfl, xc_in2 xt_2 174 rfl rfl⟩
theorem lk_J0_1047 : Cond.methodLink RJ0 1047 yJ5_isLatin1_aae02 ∈ xc_T := xc_in2 xt_4 187 rfl rfl
theorem lk_J0_489 : Cond.methodLink RJ0 489 yJ0_init_db425 ∈ xc_T := xc_in2 xt_4 170 rfl rfl
theorem lk_J0_54 : Cond.methodLink RJ0 54 yJ7_copyOfRange_39247 ∈ xc_T := xc_in2 xt_4 188 rfl rfl
theorem lk_J0_549 : Cond.methodLink RJ0 549 yJ5_length_8abf5 ∈ xc_T := xc_in2 xt_4 179 rfl rfl
theorem lk_J0_552 : Cond.methodLink RJ0 552 yJ5_getValue_6d5f1 ∈ xc_T := xc_in2 xt_4 174 rfl rfl
theorem lk_J4_1 : Cond.methodLink RJ4 1 yJ5_init_d00df ∈ xc_T := xc_in2 xt_3 233 rfl rfl
theorem lk_J4_137 : Cond.methodLink RJ4 137 yJ0_init_81219 ∈ xc_T := xc_in2 xt_4 167 rfl rfl
theorem lk_J4_29 : Cond.methodLink RJ4 29 yJ5_append_cf1ce ∈ xc_T := xc_in2 xt_4 26 rfl rfl
theorem lk_J4_343 : Cond.methodLink RJ4 343 yJ5_length_8abf5 ∈ xc_T := xc_in2 xt_4 185 rfl rfl
theorem lk_J4_53 : Cond.methodLink RJ4 53 yJ5_append_c97b9 ∈ xc_T := xc_in2 xt_4 140 rfl rfl
theorem lk_J5_100 : Cond.methodLink RJ5 100 yJ5_ensureCapacityInternal_d00df ∈ xc_T := xc_in2 xt_4 33 rfl rfl
theorem lk_J5_104 : Cond.methodLink RJ5 104 yJ5_newCapacity_0f7a4 ∈ xc_T := xc_in2 xt_4 37 rfl rfl
theorem lk_J5_108 : Cond.methodLink RJ5 108 yJ7_copyOf_9075b ∈ xc_T := xc_in2 xt_4 50 rfl rfl
theorem lk_J5_114 : Cond.methodLink RJ5 114 yJ8_newLength_cabcc ∈ xc_T := xc_in2 xt_4 41 rfl rfl
theorem lk_J5_208 : Cond.methodLink RJ5 208 yJ5_putStringAt_47b60 ∈ xc_T := xc_in2 xt_4 100 rfl rfl
theorem lk_J5_245 : Cond.methodLink RJ5 245 yJ6_stringSize_0f7a4 ∈ xc_T := xc_in2 xt_4 143 rfl rfl
theorem lk_J5_248 : Cond.methodLink RJ5 248 yJ6_getChars_ba4f3 ∈ xc_T := xc_in2 xt_4 146 rfl rfl
theorem lk_J5_32 : Cond.methodLink RJ5 32 yJ0_length_8abf5 ∈ xc_T := xc_in2 xt_4 91 rfl rfl
theorem lk_J5_397 : Cond.methodLink RJ5 397 yJ5_inflateIfNeededFor_a7421 ∈ xc_T := xc_in2 xt_4 104 rfl rfl
theorem lk_J5_399 : Cond.methodLink RJ5 399 yJ0_getBytes_840e7 ∈ xc_T := xc_in2 xt_4 128 rfl rfl
theorem lk_J5_40 : Cond.methodLink RJ5 40 yJ0_coder_7d493 ∈ xc_T := xc_in2 xt_4 108 rfl rfl
theorem lk_J5_83 : Cond.methodLink RJ5 83 yJ5_isLatin1_aae02 ∈ xc_T := xc_in2 xt_4 60 rfl rfl
theorem lk_J7_339 : Cond.methodLink RJ7 339 yJ7_copyOfRangeByte_39247 ∈ xc_T := xc_in2 xt_4 191 rfl rfl
theorem lk_J7_343 : Cond.methodLink RJ7 343 yJ7_checkLength_df160 ∈ xc_T := xc_in2 xt_4 194 rfl rfl
theorem lk_L_112 : Cond.methodLink RL 112 yX10_init ∈ xc_T := xc_in2 xt_5 235 rfl rfl
theorem lk_L_113 : Cond.methodLink RL 113 yL_cell ∈ xc_T := xc_in2 xt_3 218 rfl rfl
theorem lk_L_139 : Cond.methodLink RL 139 yX9_word ∈ xc_T := xc_in2 xt_2 76 rfl rfl
theorem lk_L_141 : Cond.methodLink RL 141 yX9_set ∈ xc_T := xc_in2 xt_2 99 rfl rfl
theorem lk_L_145 : Cond.methodLink RL 145 yX9_kin ∈ xc_T := xc_in2 xt_2 114 rfl rfl
theorem lk_L_152 : Cond.methodLink RL 152 yX9_person ∈ xc_T := xc_in2 xt_2 88 rfl rfl
theorem lk_L_155 : Cond.methodLink RL 155 yX9_who ∈ xc_T := xc_in2 xt_6 4 rfl rfl
theorem lk_L_158 : Cond.methodLink RL 158 yX10_notes ∈ xc_T := xc_in2 xt_3 147 rfl rfl
theorem lk_L_162 : Cond.methodLink RL 162 yX9_teach ∈ xc_T := xc_in2 xt_2 212 rfl rfl
theorem lk_L_169 : Cond.methodLink RL 169 yX9_miles ∈ xc_T := xc_in2 xt_2 118 rfl rfl
theorem lk_L_17 : Cond.methodLink RL 17 yJ0_length_8abf5 ∈ xc_T := xc_in2 xt_4 225 rfl rfl
theorem lk_L_174 : Cond.methodLink RL 174 yL_meanings ∈ xc_T := xc_in2 xt_3 225 rfl rfl
theorem lk_L_178 : Cond.methodLink RL 178 yL_walks ∈ xc_T := xc_in2 xt_5 224 rfl rfl
theorem lk_L_184 : Cond.methodLink RL 184 yX9_state ∈ xc_T := xc_in2 xt_6 5 rfl rfl
theorem lk_L_187 : Cond.methodLink RL 187 yL_talk ∈ xc_T := xc_in2 xt_5 231 rfl rfl
theorem lk_L_191 : Cond.methodLink RL 191 yX10_isSame ∈ xc_T := xc_in2 xt_3 191 rfl rfl
theorem lk_L_195 : Cond.methodLink RL 195 yX10_copy ∈ xc_T := xc_in2 xt_3 66 rfl rfl
theorem lk_L_199 : Cond.methodLink RL 199 yX10_passes ∈ xc_T := xc_in2 xt_3 178 rfl rfl
theorem lk_L_203 : Cond.methodLink RL 203 yX9_days ∈ xc_T := xc_in2 xt_2 230 rfl rfl
theorem lk_L_206 : Cond.methodLink RL 206 yX10_can ∈ xc_T := xc_in2 xt_3 151 rfl rfl
theorem lk_L_209 : Cond.methodLink RL 209 yX10_says_ ∈ xc_T := xc_in2 xt_3 173 rfl rfl
theorem lk_L_212 : Cond.methodLink RL 212 yX9_say ∈ xc_T := xc_in2 xt_2 122 rfl rfl
theorem lk_L_214 : Cond.methodLink RL 214 yX9_move ∈ xc_T := xc_in2 xt_2 204 rfl rfl
theorem lk_L_217 : Cond.methodLink RL 217 yX9_carve ∈ xc_T := xc_in2 xt_2 222 rfl rfl
theorem lk_L_220 : Cond.methodLink RL 220 yX9_undo ∈ xc_T := xc_in2 xt_3 46 rfl rfl
theorem lk_L_224 : Cond.methodLink RL 224 yX9_look ∈ xc_T := xc_in2 xt_3 54 rfl rfl
theorem lk_L_227 : Cond.methodLink RL 227 yX9_asks ∈ xc_T := xc_in2 xt_3 36 rfl rfl
theorem lk_L_23 : Cond.methodLink RL 23 yJ0_charAt_5068e ∈ xc_T := xc_in2 xt_4 226 rfl rfl
theorem lk_L_231 : Cond.methodLink RL 231 yX9_book ∈ xc_T := xc_in2 xt_3 41 rfl rfl
theorem lk_L_27 : Cond.methodLink RL 27 yX9_feed ∈ xc_T := xc_in2 xt_5 10 rfl rfl
theorem lk_L_33 : Cond.methodLink RL 33 yX9_end ∈ xc_T := xc_in2 xt_5 18 rfl rfl
theorem lk_L_43 : Cond.methodLink RL 43 yL_between ∈ xc_T := xc_in2 xt_3 221 rfl rfl
theorem lk_L_51 : Cond.methodLink RL 51 yJ4_init_da8c8 ∈ xc_T := xc_in2 xt_3 230 rfl rfl
theorem lk_L_61 : Cond.methodLink RL 61 yJ4_append_15ec4 ∈ xc_T := xc_in2 xt_4 22 rfl rfl
theorem lk_L_69 : Cond.methodLink RL 69 yJ4_append_bf812 ∈ xc_T := xc_in2 xt_4 136 rfl rfl
theorem lk_L_72 : Cond.methodLink RL 72 yJ4_toString_0e30d ∈ xc_T := xc_in2 xt_4 161 rfl rfl
theorem lk_L_78 : Cond.methodLink RL 78 yL_say ∈ xc_T := xc_in2 xt_4 222 rfl rfl
theorem lk_L_82 : Cond.methodLink RL 82 yX9_text ∈ xc_T := xc_in2 xt_5 22 rfl rfl
theorem lk_X10_100 : Cond.methodLink RX10 100 yX10_says_ ∈ xc_T := xc_in2 xt_3 183 rfl rfl
theorem lk_X10_109 : Cond.methodLink RX10 109 yX10_draw ∈ xc_T := xc_in2 xt_3 185 rfl rfl
theorem lk_X10_112 : Cond.methodLink RX10 112 yX10_set ∈ xc_T := xc_in2 xt_3 215 rfl rfl
theorem lk_X10_116 : Cond.methodLink RX10 116 yX9_of ∈ xc_T := xc_in2 xt_3 195 rfl rfl
theorem lk_X10_121 : Cond.methodLink RX10 121 yX9_asks ∈ xc_T := xc_in2 xt_3 200 rfl rfl
theorem lk_X10_125 : Cond.methodLink RX10 125 yX9_who ∈ xc_T := xc_in2 xt_3 201 rfl rfl
theorem lk_X10_128 : Cond.methodLink RX10 128 yX9_book ∈ xc_T := xc_in2 xt_3 205 rfl rfl
theorem lk_X10_131 : Cond.methodLink RX10 131 yX9_look ∈ xc_T := xc_in2 xt_3 206 rfl rfl
theorem lk_X10_134 : Cond.methodLink RX10 134 yX10_living ∈ xc_T := xc_in2 xt_3 207 rfl rfl
theorem lk_X10_137 : Cond.methodLink RX10 137 yX10_said ∈ xc_T := xc_in2 xt_3 211 rfl rfl
theorem lk_X10_42 : Cond.methodLink RX10 42 yX10_init ∈ xc_T := xc_in2 xt_3 72 rfl rfl
theorem lk_X10_70 : Cond.methodLink RX10 70 yX10_lapsed ∈ xc_T := xc_in2 xt_3 159 rfl rfl
theorem lk_X10_74 : Cond.methodLink RX10 74 yJ6_bitCount_0f7a4 ∈ xc_T := xc_in2 xt_3 163 rfl rfl
theorem lk_X10_80 : Cond.methodLink RX10 80 yX10_knows ∈ xc_T := xc_in2 xt_3 164 rfl rfl
theorem lk_X10_89 : Cond.methodLink RX10 89 yX10_says ∈ xc_T := xc_in2 xt_3 155 rfl rfl
theorem lk_X10_92 : Cond.methodLink RX10 92 yX10_notes ∈ xc_T := xc_in2 xt_3 177 rfl rfl
theorem lk_X10_96 : Cond.methodLink RX10 96 yX10_can ∈ xc_T := xc_in2 xt_3 182 rfl rfl
theorem ol_J0_1 : Cond.methodLink RJ0 1 Lib.objectInit ∈ xc_T := xc_in2 xt_4 173 rfl rfl
theorem ol_J5_3 : Cond.methodLink RJ5 3 Lib.objectInit ∈ xc_T := xc_in2 xt_3 236 rfl rfl
theorem ol_X10_1 : Cond.methodLink RX10 1 Lib.objectInit ∈ xc_T := xc_in2 xt_3 75 rfl rfl
theorem sm_J5_append_c97b9 : Cond.sameMethod yJ5_append_c97b9.cls yJ5_append_c97b9.cls yJ5_append_c97b9.name yJ5_append_c97b9.desc ∈ xc_T := xc_in2 xt_6 17 rfl rfl
theorem sm_J5_append_cf1ce : Cond.sameMethod yJ5_append_cf1ce.cls yJ5_append_cf1ce.cls yJ5_append_cf1ce.name yJ5_append_cf1ce.desc ∈ xc_T := xc_in2 xt_6 10 rfl rfl
theorem sm_J5_length_8abf5 : Cond.sameMethod yJ5_length_8abf5.cls yJ5_length_8abf5.cls yJ5_length_8abf5.name yJ5_length_8abf5.desc ∈ xc_T := xc_in2 xt_4 181 rfl rfl
theorem fs_J5_18 : Cond.fieldLink RJ5 18 "java/lang/String" "COMPACT_STRINGS" "Z" ∈ xc_T := xc_in2 xt_3 237 rfl rfl
theorem fs_J6_83 : Cond.fieldLink RJ6 83 "java/lang/Integer" "DigitOnes" "[B" ∈ xc_T := xc_in2 xt_4 149 rfl rfl
theorem fs_J6_87 : Cond.fieldLink RJ6 87 "java/lang/Integer" "DigitTens" "[B" ∈ xc_T := xc_in2 xt_4 151 rfl rfl
theorem sp_J4_J5 : Cond.superclass RJ4 RJ5 ∈ xc_T := xc_in2 xt_4 18 rfl rfl
theorem md_J0_getBytes_840e7 : xc_Md yJ0_getBytes_840e7 cJ0_getBytes_840e7 4 none 3 := ⟨xc_in2 xt_4 131 rfl rfl, xc_in2 xt_1 14 rfl rfl, by decide +kernel, by decide⟩
theorem mi_J0_getBytes_840e7 : Cond.instanceMethod yJ0_getBytes_840e7 ∈ xc_T := xc_in2 xt_4 129 rfl rfl
theorem ms_J0_getBytes_840e7 : Cond.selects RJ0 yJ0_getBytes_840e7 yJ0_getBytes_840e7 ∈ xc_T := xc_in2 xt_4 130 rfl rfl
theorem md_J0_init_81219 : xc_Md yJ0_init_81219 cJ0_init_81219 2 none 1 := ⟨xc_in2 xt_4 169 rfl rfl, xc_in2 xt_1 14 rfl rfl, by decide +kernel, by decide⟩
theorem mi_J0_init_81219 : Cond.instanceMethod yJ0_init_81219 ∈ xc_T := xc_in2 xt_4 168 rfl rfl
theorem md_J0_init_db425 : xc_Md yJ0_init_db425 cJ0_init_db425 5 none 2 := ⟨xc_in2 xt_4 172 rfl rfl, xc_in2 xt_1 14 rfl rfl, by decide +kernel, by decide⟩
theorem mi_J0_init_db425 : Cond.instanceMethod yJ0_init_db425 ∈ xc_T := xc_in2 xt_4 171 rfl rfl
theorem md_J4_append_15ec4 : xc_Md yJ4_append_15ec4 cJ4_append_15ec4 2 (some (.object "java/lang/StringBuilder")) 1 := ⟨xc_in2 xt_4 25 rfl rfl, xc_in2 xt_1 13 rfl rfl, by decide +kernel, by decide⟩
theorem mi_J4_append_15ec4 : Cond.instanceMethod yJ4_append_15ec4 ∈ xc_T := xc_in2 xt_4 23 rfl rfl
theorem ms_J4_append_15ec4 : Cond.selects RJ4 yJ4_append_15ec4 yJ4_append_15ec4 ∈ xc_T := xc_in2 xt_4 24 rfl rfl
theorem md_J4_append_bf812 : xc_Md yJ4_append_bf812 cJ4_append_bf812 2 (some (.object "java/lang/StringBuilder")) 1 := ⟨xc_in2 xt_4 139 rfl rfl, xc_in2 xt_1 13 rfl rfl, by decide +kernel, by decide⟩
theorem mi_J4_append_bf812 : Cond.instanceMethod yJ4_append_bf812 ∈ xc_T := xc_in2 xt_4 137 rfl rfl
theorem ms_J4_append_bf812 : Cond.selects RJ4 yJ4_append_bf812 yJ4_append_bf812 ∈ xc_T := xc_in2 xt_4 138 rfl rfl
theorem md_J4_init_da8c8 : xc_Md yJ4_init_da8c8 cJ4_init_da8c8 1 none 0 := ⟨xc_in2 xt_3 232 rfl rfl, xc_in2 xt_1 13 rfl rfl, by decide +kernel, by decide⟩
theorem mi_J4_init_da8c8 : Cond.instanceMethod yJ4_init_da8c8 ∈ xc_T := xc_in2 xt_3 231 rfl rfl
theorem md_J4_length_8abf5 : xc_Md yJ4_length_8abf5 cJ4_length_8abf5 1 (some .int) 0 := ⟨xc_in2 xt_4 184 rfl rfl, xc_in2 xt_1 13 rfl rfl, by decide +kernel, by decide⟩
theorem mi_J4_length_8abf5 : Cond.instanceMethod yJ4_length_8abf5 ∈ xc_T := xc_in2 xt_4 183 rfl rfl
theorem md_J4_toString_0e30d : xc_Md yJ4_toString_0e30d cJ4_toString_0e30d 1 (some (.object "java/lang/String")) 0 := ⟨xc_in2 xt_4 164 rfl rfl, xc_in2 xt_1 13 rfl rfl, by decide +kernel, by decide⟩
theorem mi_J4_toString_0e30d : Cond.instanceMethod yJ4_toString_0e30d ∈ xc_T := xc_in2 xt_4 162 rfl rfl
theorem ms_J4_toString_0e30d : Cond.selects RJ4 yJ4_toString_0e30d yJ4_toString_0e30d ∈ xc_T := xc_in2 xt_4 163 rfl rfl
theorem md_J5_append_c97b9 : xc_Md yJ5_append_c97b9 cJ5_append_c97b9 4 (some (.object "java/lang/AbstractStringBuilder")) 1 := ⟨xc_in2 xt_4 142 rfl rfl, xc_in2 xt_1 12 rfl rfl, by decide +kernel, by decide⟩
theorem mi_J5_append_c97b9 : Cond.instanceMethod yJ5_append_c97b9 ∈ xc_T := xc_in2 xt_4 141 rfl rfl
theorem md_J5_append_cf1ce : xc_Md yJ5_append_cf1ce cJ5_append_cf1ce 3 (some (.object "java/lang/AbstractStringBuilder")) 1 := ⟨xc_in2 xt_4 28 rfl rfl, xc_in2 xt_1 12 rfl rfl, by decide +kernel, by decide⟩
theorem mi_J5_append_cf1ce : Cond.instanceMethod yJ5_append_cf1ce ∈ xc_T := xc_in2 xt_4 27 rfl rfl
theorem md_J5_ensureCapacityInternal_d00df : xc_Md yJ5_ensureCapacityInternal_d00df cJ5_ensureCapacityInternal_d00df 3 none 1 := ⟨xc_in2 xt_4 36 rfl rfl, xc_in2 xt_1 12 rfl rfl, by decide +kernel, by decide⟩
theorem mi_J5_ensureCapacityInternal_d00df : Cond.instanceMethod yJ5_ensureCapacityInternal_d00df ∈ xc_T := xc_in2 xt_4 35 rfl rfl
theorem md_J5_getValue_6d5f1 : xc_Md yJ5_getValue_6d5f1 cJ5_getValue_6d5f1 1 (some (.array .byte)) 0 := ⟨xc_in2 xt_4 178 rfl rfl, xc_in2 xt_1 12 rfl rfl, by decide +kernel, by decide⟩
theorem mi_J5_getValue_6d5f1 : Cond.instanceMethod yJ5_getValue_6d5f1 ∈ xc_T := xc_in2 xt_4 175 rfl rfl
theorem ms_J5_getValue_6d5f1 : Cond.selects RJ4 yJ5_getValue_6d5f1 yJ5_getValue_6d5f1 ∈ xc_T := xc_in2 xt_4 177 rfl rfl
theorem md_J5_inflateIfNeededFor_a7421 : xc_Md yJ5_inflateIfNeededFor_a7421 cJ5_inflateIfNeededFor_a7421 2 none 1 := ⟨xc_in2 xt_4 107 rfl rfl, xc_in2 xt_1 12 rfl rfl, by decide +kernel, by decide⟩
theorem mi_J5_inflateIfNeededFor_a7421 : Cond.instanceMethod yJ5_inflateIfNeededFor_a7421 ∈ xc_T := xc_in2 xt_4 106 rfl rfl
theorem md_J5_init_d00df : xc_Md yJ5_init_d00df cJ5_init_d00df 2 none 1 := ⟨xc_in2 xt_3 235 rfl rfl, xc_in2 xt_1 12 rfl rfl, by decide +kernel, by decide⟩
theorem mi_J5_init_d00df : Cond.instanceMethod yJ5_init_d00df ∈ xc_T := xc_in2 xt_3 234 rfl rfl
theorem md_J5_isLatin1_aae02 : xc_Md yJ5_isLatin1_aae02 cJ5_isLatin1_aae02 1 (some .boolean) 0 := ⟨xc_in2 xt_4 64 rfl rfl, xc_in2 xt_1 12 rfl rfl, by decide +kernel, by decide⟩
theorem mi_J5_isLatin1_aae02 : Cond.instanceMethod yJ5_isLatin1_aae02 ∈ xc_T := xc_in2 xt_4 61 rfl rfl
theorem ms_J5_isLatin1_aae02 : Cond.selects RJ4 yJ5_isLatin1_aae02 yJ5_isLatin1_aae02 ∈ xc_T := xc_in2 xt_4 63 rfl rfl
theorem md_J5_length_8abf5 : xc_Md yJ5_length_8abf5 cJ5_length_8abf5 1 (some .int) 0 := ⟨xc_in2 xt_4 186 rfl rfl, xc_in2 xt_1 12 rfl rfl, by decide +kernel, by decide⟩
theorem mi_J5_length_8abf5 : Cond.instanceMethod yJ5_length_8abf5 ∈ xc_T := xc_in2 xt_4 180 rfl rfl
theorem md_J5_newCapacity_0f7a4 : xc_Md yJ5_newCapacity_0f7a4 cJ5_newCapacity_0f7a4 6 (some .int) 1 := ⟨xc_in2 xt_4 40 rfl rfl, xc_in2 xt_1 12 rfl rfl, by decide +kernel, by decide⟩
theorem mi_J5_newCapacity_0f7a4 : Cond.instanceMethod yJ5_newCapacity_0f7a4 ∈ xc_T := xc_in2 xt_4 39 rfl rfl
theorem md_J5_putStringAt_47b60 : xc_Md yJ5_putStringAt_47b60 cJ5_putStringAt_47b60 3 none 2 := ⟨xc_in2 xt_4 103 rfl rfl, xc_in2 xt_1 12 rfl rfl, by decide +kernel, by decide⟩
theorem mi_J5_putStringAt_47b60 : Cond.instanceMethod yJ5_putStringAt_47b60 ∈ xc_T := xc_in2 xt_4 102 rfl rfl
theorem md_J6_getChars_ba4f3 : xc_Md yJ6_getChars_ba4f3 cJ6_getChars_ba4f3 7 (some .int) 3 := ⟨xc_in2 xt_4 148 rfl rfl, xc_in2 xt_1 21 rfl rfl, by decide +kernel, by decide⟩
theorem mt_J6_getChars_ba4f3 : Cond.static yJ6_getChars_ba4f3 ∈ xc_T := xc_in2 xt_4 147 rfl rfl
theorem md_J6_stringSize_0f7a4 : xc_Md yJ6_stringSize_0f7a4 cJ6_stringSize_0f7a4 4 (some .int) 1 := ⟨xc_in2 xt_4 145 rfl rfl, xc_in2 xt_1 21 rfl rfl, by decide +kernel, by decide⟩
theorem mt_J6_stringSize_0f7a4 : Cond.static yJ6_stringSize_0f7a4 ∈ xc_T := xc_in2 xt_4 144 rfl rfl
theorem md_J7_checkLength_df160 : xc_Md yJ7_checkLength_df160 cJ7_checkLength_df160 2 none 2 := ⟨xc_in2 xt_4 196 rfl rfl, xc_in2 xt_1 17 rfl rfl, by decide +kernel, by decide⟩
theorem mt_J7_checkLength_df160 : Cond.static yJ7_checkLength_df160 ∈ xc_T := xc_in2 xt_4 195 rfl rfl
theorem md_J7_copyOfRangeByte_39247 : xc_Md yJ7_copyOfRangeByte_39247 cJ7_copyOfRangeByte_39247 5 (some (.array .byte)) 3 := ⟨xc_in2 xt_4 193 rfl rfl, xc_in2 xt_1 17 rfl rfl, by decide +kernel, by decide⟩
theorem mt_J7_copyOfRangeByte_39247 : Cond.static yJ7_copyOfRangeByte_39247 ∈ xc_T := xc_in2 xt_4 192 rfl rfl
theorem md_J7_copyOfRange_39247 : xc_Md yJ7_copyOfRange_39247 cJ7_copyOfRange_39247 3 (some (.array .byte)) 3 := ⟨xc_in2 xt_4 190 rfl rfl, xc_in2 xt_1 17 rfl rfl, by decide +kernel, by decide⟩
theorem mt_J7_copyOfRange_39247 : Cond.static yJ7_copyOfRange_39247 ∈ xc_T := xc_in2 xt_4 189 rfl rfl
theorem md_J7_copyOf_9075b : xc_Md yJ7_copyOf_9075b cJ7_copyOf_9075b 3 (some (.array .byte)) 2 := ⟨xc_in2 xt_4 52 rfl rfl, xc_in2 xt_1 17 rfl rfl, by decide +kernel, by decide⟩
theorem mt_J7_copyOf_9075b : Cond.static yJ7_copyOf_9075b ∈ xc_T := xc_in2 xt_4 51 rfl rfl
theorem md_J8_newLength_cabcc : xc_Md yJ8_newLength_cabcc cJ8_newLength_cabcc 4 (some .int) 3 := ⟨xc_in2 xt_4 43 rfl rfl, xc_in2 xt_1 16 rfl rfl, by decide +kernel, by decide⟩
theorem mt_J8_newLength_cabcc : Cond.static yJ8_newLength_cabcc ∈ xc_T := xc_in2 xt_4 42 rfl rfl
theorem md_L_between : xc_Md yL_between cL_between 3 (some .int) 3 := ⟨xc_in2 xt_3 223 rfl rfl, xc_in2 xt_1 0 rfl rfl, by decide +kernel, by decide⟩
theorem mt_L_between : Cond.static yL_between ∈ xc_T := xc_in2 xt_3 222 rfl rfl
theorem md_L_cell : xc_Md yL_cell cL_cell 2 (some .int) 2 := ⟨xc_in2 xt_3 220 rfl rfl, xc_in2 xt_1 0 rfl rfl, by decide +kernel, by decide⟩
theorem mt_L_cell : Cond.static yL_cell ∈ xc_T := xc_in2 xt_3 219 rfl rfl
theorem md_L_held : xc_Md yL_held cL_held 3 (some .int) 3 := ⟨xc_in2 xt_3 170 rfl rfl, xc_in2 xt_1 0 rfl rfl, by decide +kernel, by decide⟩
theorem mt_L_held : Cond.static yL_held ∈ xc_T := xc_in2 xt_3 169 rfl rfl
theorem md_L_meanings : xc_Md yL_meanings cL_meanings 11 (some .boolean) 3 := ⟨xc_in2 xt_3 227 rfl rfl, xc_in2 xt_1 0 rfl rfl, by decide +kernel, by decide⟩
theorem mt_L_meanings : Cond.static yL_meanings ∈ xc_T := xc_in2 xt_3 226 rfl rfl
theorem md_L_say : xc_Md yL_say cL_say 5 none 2 := ⟨xc_in2 xt_4 224 rfl rfl, xc_in2 xt_1 0 rfl rfl, by decide +kernel, by decide⟩
theorem mt_L_say : Cond.static yL_say ∈ xc_T := xc_in2 xt_4 223 rfl rfl
theorem md_L_talk : xc_Md yL_talk cL_talk 13 (some (.object "UnsaidWordsLaw$Talk")) 3 := ⟨xc_in2 xt_5 233 rfl rfl, xc_in2 xt_1 0 rfl rfl, by decide +kernel, by decide⟩
theorem mt_L_talk : Cond.static yL_talk ∈ xc_T := xc_in2 xt_5 232 rfl rfl
theorem md_L_walks : xc_Md yL_walks cL_walks 9 (some .boolean) 3 := ⟨xc_in2 xt_5 226 rfl rfl, xc_in2 xt_1 0 rfl rfl, by decide +kernel, by decide⟩
theorem mt_L_walks : Cond.static yL_walks ∈ xc_T := xc_in2 xt_5 225 rfl rfl
theorem md_X10_can : xc_Md yX10_can cX10_can 3 (some .boolean) 2 := ⟨xc_in2 xt_3 154 rfl rfl, xc_in2 xt_1 11 rfl rfl, by decide +kernel, by decide⟩
theorem mi_X10_can : Cond.instanceMethod yX10_can ∈ xc_T := xc_in2 xt_3 152 rfl rfl
theorem ms_X10_can : Cond.selects RX10 yX10_can yX10_can ∈ xc_T := xc_in2 xt_3 153 rfl rfl
theorem md_X10_copy : xc_Md yX10_copy cX10_copy 3 (some (.object "UnsaidWordsLaw$Talk")) 0 := ⟨xc_in2 xt_3 69 rfl rfl, xc_in2 xt_1 11 rfl rfl, by decide +kernel, by decide⟩
theorem mi_X10_copy : Cond.instanceMethod yX10_copy ∈ xc_T := xc_in2 xt_3 67 rfl rfl
theorem ms_X10_copy : Cond.selects RX10 yX10_copy yX10_copy ∈ xc_T := xc_in2 xt_3 68 rfl rfl
theorem md_X10_draw : xc_Md yX10_draw cX10_draw 2 (some .int) 1 := ⟨xc_in2 xt_3 188 rfl rfl, xc_in2 xt_1 11 rfl rfl, by decide +kernel, by decide⟩
theorem mi_X10_draw : Cond.instanceMethod yX10_draw ∈ xc_T := xc_in2 xt_3 186 rfl rfl
theorem ms_X10_draw : Cond.selects RX10 yX10_draw yX10_draw ∈ xc_T := xc_in2 xt_3 187 rfl rfl
theorem md_X10_init : xc_Md yX10_init cX10_init 3 none 0 := ⟨xc_in2 xt_3 74 rfl rfl, xc_in2 xt_1 11 rfl rfl, by decide +kernel, by decide⟩
theorem mi_X10_init : Cond.instanceMethod yX10_init ∈ xc_T := xc_in2 xt_3 73 rfl rfl
theorem md_X10_isSame : xc_Md yX10_isSame cX10_isSame 4 (some .boolean) 1 := ⟨xc_in2 xt_3 194 rfl rfl, xc_in2 xt_1 11 rfl rfl, by decide +kernel, by decide⟩
theorem mi_X10_isSame : Cond.instanceMethod yX10_isSame ∈ xc_T := xc_in2 xt_3 192 rfl rfl
theorem ms_X10_isSame : Cond.selects RX10 yX10_isSame yX10_isSame ∈ xc_T := xc_in2 xt_3 193 rfl rfl
theorem md_X10_knows : xc_Md yX10_knows cX10_knows 4 (some .int) 1 := ⟨xc_in2 xt_3 167 rfl rfl, xc_in2 xt_1 11 rfl rfl, by decide +kernel, by decide⟩
theorem mi_X10_knows : Cond.instanceMethod yX10_knows ∈ xc_T := xc_in2 xt_3 165 rfl rfl
theorem ms_X10_knows : Cond.selects RX10 yX10_knows yX10_knows ∈ xc_T := xc_in2 xt_3 166 rfl rfl
theorem md_X10_lapsed : xc_Md yX10_lapsed cX10_lapsed 3 (some .int) 0 := ⟨xc_in2 xt_3 162 rfl rfl, xc_in2 xt_1 11 rfl rfl, by decide +kernel, by decide⟩
theorem mi_X10_lapsed : Cond.instanceMethod yX10_lapsed ∈ xc_T := xc_in2 xt_3 160 rfl rfl
theorem ms_X10_lapsed : Cond.selects RX10 yX10_lapsed yX10_lapsed ∈ xc_T := xc_in2 xt_3 161 rfl rfl
theorem md_X10_living : xc_Md yX10_living cX10_living 1 (some .int) 0 := ⟨xc_in2 xt_3 210 rfl rfl, xc_in2 xt_1 11 rfl rfl, by decide +kernel, by decide⟩
theorem mi_X10_living : Cond.instanceMethod yX10_living ∈ xc_T := xc_in2 xt_3 208 rfl rfl
theorem ms_X10_living : Cond.selects RX10 yX10_living yX10_living ∈ xc_T := xc_in2 xt_3 209 rfl rfl
theorem md_X10_notes : xc_Md yX10_notes cX10_notes 5 none 4 := ⟨xc_in2 xt_3 150 rfl rfl, xc_in2 xt_1 11 rfl rfl, by decide +kernel, by decide⟩
theorem mi_X10_notes : Cond.instanceMethod yX10_notes ∈ xc_T := xc_in2 xt_3 148 rfl rfl
theorem ms_X10_notes : Cond.selects RX10 yX10_notes yX10_notes ∈ xc_T := xc_in2 xt_3 149 rfl rfl
theorem md_X10_passes : xc_Md yX10_passes cX10_passes 8 (some .int) 1 := ⟨xc_in2 xt_3 181 rfl rfl, xc_in2 xt_1 11 rfl rfl, by decide +kernel, by decide⟩
theorem mi_X10_passes : Cond.instanceMethod yX10_passes ∈ xc_T := xc_in2 xt_3 179 rfl rfl
theorem ms_X10_passes : Cond.selects RX10 yX10_passes yX10_passes ∈ xc_T := xc_in2 xt_3 180 rfl rfl
theorem md_X10_said : xc_Md yX10_said cX10_said 8 (some .int) 1 := ⟨xc_in2 xt_3 214 rfl rfl, xc_in2 xt_1 11 rfl rfl, by decide +kernel, by decide⟩
theorem mi_X10_said : Cond.instanceMethod yX10_said ∈ xc_T := xc_in2 xt_3 212 rfl rfl
theorem ms_X10_said : Cond.selects RX10 yX10_said yX10_said ∈ xc_T := xc_in2 xt_3 213 rfl rfl
theorem md_X10_says : xc_Md yX10_says cX10_says 8 (some .int) 3 := ⟨xc_in2 xt_3 158 rfl rfl, xc_in2 xt_1 11 rfl rfl, by decide +kernel, by decide⟩
theorem mi_X10_says : Cond.instanceMethod yX10_says ∈ xc_T := xc_in2 xt_3 156 rfl rfl
theorem ms_X10_says : Cond.selects RX10 yX10_says yX10_says ∈ xc_T := xc_in2 xt_3 157 rfl rfl
theorem md_X10_says_ : xc_Md yX10_says_ cX10_says_ 8 (some .boolean) 3 := ⟨xc_in2 xt_3 176 rfl rfl, xc_in2 xt_1 11 rfl rfl, by decide +kernel, by decide⟩
theorem mi_X10_says_ : Cond.instanceMethod yX10_says_ ∈ xc_T := xc_in2 xt_3 174 rfl rfl
theorem ms_X10_says_ : Cond.selects RX10 yX10_says_ yX10_says_ ∈ xc_T := xc_in2 xt_3 175 rfl rfl
theorem md_X10_set : xc_Md yX10_set cX10_set 6 (some .int) 1 := ⟨xc_in2 xt_3 217 rfl rfl, xc_in2 xt_1 11 rfl rfl, by decide +kernel, by decide⟩
theorem mt_X10_set : Cond.static yX10_set ∈ xc_T := xc_in2 xt_3 216 rfl rfl
theorem ms_over : Cond.selects RJ4 yJ5_length_8abf5 yJ4_length_8abf5 ∈ xc_T := xc_in2 xt_4 182 rfl rfl
theorem ms_sb : Cond.selects RJ4 yJ5_isLatin1_aae02 yJ5_isLatin1_aae02 ∈ xc_T := ms_J5_isLatin1_aae02
theorem kd_X10 : xd_Kl 9 RX10 TX10 16 tyX10 := ⟨kl_X10.1, kl_X10.2.1, kl_X10.2.2.1, kl_X10.2.2.2.1, kl_X10.2.2.2.2.1⟩
theorem in_X10 : Cond.instantiable RX10 16 ∈ xc_T := xc_in2 xt_3 71 rfl rfl
theorem iz_X10 : Cond.initialized RX10 ∈ xc_T := xc_in2 xt_1 11 rfl rfl
theorem df_X10 : ∀ j, j < 16 → defaultValue (tyX10 j) = vp_V (xd_fs 9 (14, 0, fun _ => 0, fun _ => none)) j := by
  intro j hj
  match j, hj with
  | 0, _ => rfl
  | 1, _ => rfl
  | 2, _ => rfl
  | 3, _ => rfl
  | 4, _ => rfl
  | 5, _ => rfl
  | 6, _ => rfl
  | 7, _ => rfl
  | 8, _ => rfl
  | 9, _ => rfl
  | 10, _ => rfl
  | 11, _ => rfl
  | 12, _ => rfl
  | 13, _ => rfl
  | 14, _ => rfl
  | 15, _ => rfl
  | j + 16, hj => omega
theorem kd_J4 : xd_Kl 10 RJ4 TJ4 4 tyJ4 := ⟨rfl, by
  have h : ∀ k, k < 4 → u_lay RJ4 TJ4 k ∈ xc_T := by
    intro k hk
    match k, hk with
    | 0, _ => exact xc_in2 xt_4 10 rfl rfl
    | 1, _ => exact xc_in2 xt_4 12 rfl rfl
    | 2, _ => exact xc_in2 xt_4 14 rfl rfl
    | 3, _ => exact xc_in2 xt_4 16 rfl rfl
    | k + 4, hk => omega
  intro w hw
  obtain ⟨k, hk, rfl⟩ := List.mem_map.mp hw
  exact h k (List.mem_range.mp hk), tyJ4_ok, nmJ4, rfl⟩
theorem in_J4 : Cond.instantiable RJ4 4 ∈ xc_T := xc_in2 xt_3 229 rfl rfl
theorem iz_J4 : Cond.initialized RJ4 ∈ xc_T := xc_in2 xt_1 13 rfl rfl
theorem df_J4 : ∀ j, j < 4 → defaultValue (tyJ4 j) = vp_V (xd_fs 10 (15, 0, fun _ => 0, fun _ => none)) j := by
  intro j hj
  match j, hj with
  | 0, _ => rfl
  | 1, _ => rfl
  | 2, _ => rfl
  | 3, _ => rfl
  | j + 4, hj => omega
theorem kd_J0 : xd_Kl 11 RJ0 TJ0 4 tyJ0 := ⟨rfl, by
  have h : ∀ k, k < 4 → u_lay RJ0 TJ0 k ∈ xc_T := by
    intro k hk
    match k, hk with
    | 0, _ => exact xc_in2 xt_4 212 rfl rfl
    | 1, _ => exact xc_in2 xt_4 214 rfl rfl
    | 2, _ => exact xc_in2 xt_4 216 rfl rfl
    | 3, _ => exact xc_in2 xt_4 218 rfl rfl
    | k + 4, hk => omega
  intro w hw
  obtain ⟨k, hk, rfl⟩ := List.mem_map.mp hw
  exact h k (List.mem_range.mp hk), tyJ0_ok, nmJ0, rfl⟩
theorem in_J0 : Cond.instantiable RJ0 4 ∈ xc_T := xc_in2 xt_4 166 rfl rfl
theorem iz_J0 : Cond.initialized RJ0 ∈ xc_T := xc_in2 xt_1 14 rfl rfl
theorem df_J0 : ∀ j, j < 4 → defaultValue (tyJ0 j) = vp_V (xd_fs 11 (16, 0, fun _ => 0, fun _ => none)) j := by
  intro j hj
  match j, hj with
  | 0, _ => rfl
  | 1, _ => rfl
  | 2, _ => rfl
  | 3, _ => rfl
  | j + 4, hj => omega
