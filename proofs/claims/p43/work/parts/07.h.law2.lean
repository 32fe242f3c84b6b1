-- ===== the two stack machines: their steps =====
theorem lff {P : Prop} (h : false = true) : P := nomatch h
section
variable {N g i e n s : Nat} {v x y z : Int32} {J : xc_M}
theorem rs_end (he : e < 2 ^ 30) (hx : J 11 0 = x) : lX10_comesTo_6 N (g + 1) (nI 0) (nI e) (nI n) (nI e) J = some (x, J) := by
  simp (implicitDefEqProofs := false) (disch := omega) only [lX10_comesTo_6, bX10_comesTo_6, ↓xl_m1, ↓xl_m2, xl_0, xl_1, xl_2, xl_3, xl_4, xl_5, xl_6, xl_7, xl_8, xl_9, xl_10, xl_11, xl_12, xl_13, xl_14, xl_15, xl_16, xl_17, xl_18, xl_19, xl_20, xl_21, xl_22, xl_23, xl_24, xl_25, xl_26, xl_27, xl_28, xl_29, xl_30, xl_32, xl_33, xl_34, xl_35, xl_36, xl_37, xl_38, xl_39, xl_40, xl_41, xl_42, xl_43, xl_44, xl_45, xl_46, xl_47, xl_48, xl_50, xl_52, xl_57, xl_59, xl_60, xl_61, xl_62, xl_63, xl_64, xl_65, xl_66, xl_67, xl_68, xl_69, xl_70, xl_73, xl_75, xl_79, xl_83, xl_84, xl_90, xl_91, xl_93, xl_94, xl_97, xl_98, xl_99, xl_100, xl_101, xl_102, xl_103, xl_104, xl_105, xl_106, xl_107, xl_108, xl_109, xl_110, xl_111, xl_112, xl_113, xl_114, xl_115, xl_116, xl_117, xl_118, xl_119, xl_120, xl_121, xl_122, xl_130, xl_131, xl_132, xl_133, xl_134, xl_135, xl_140, xl_141, xl_142, xl_143, xl_145, xl_147, xl_150, xl_159, xl_160, xl_161, xl_162, xl_198, xl_208, xl_255, xl_256, xl_310, xl_365, xl_372, xl_400, xl_401, xl_420, xl_600, xl_628, xl_692, xl_728, xl_748, xl_820, xl_999, xl_1000, xl_1023, xl_1024, xl_1348, xl_1364, xl_1380, xl_1396, xl_1412, xl_2232, xl_9999, xl_10000, xl_16383, xl_20000, xl_20101, xl_20102, xl_20103, xl_65536, xl_1000000, xp_lt, xp_mw, xp_cl, xp_cr, xp_cv, xp_ro, xp_rb0, xp_rb1, xp_mz0, xp_mz1, xp_rd, xp_st, xp_rdR, if_pos, if_neg, ite_not, ne_eq, not_true_eq_false, not_false_eq_true, if_true, if_false, ite_true, ite_false, xp_and, xp_or, xp_dfm, xp_k31, xp_shl, xp_shr, xp_tb1, xp_bz, xp_bo, xp_eq, xp_le, xp_ltI, xp_nm1, xp_nm2, xp_nm3, xp_nm4, xp_nm5, nI_add, pk_mul, pk_sub, xp_dv, xp_rem, Nat.zero_add, Nat.add_zero, Nat.not_lt_zero, Nat.zero_le, ne_eq, not_true_eq_false, not_false_eq_true, Nat.add_sub_cancel, Nat.mul_zero, hx]
theorem rs_num (hi : i < e) (he : e ≤ 410) (hn : n < 24) (hs : J 1 (1412 + 2 * i) = nI 0) (hv : J 1 (1412 + 2 * i + 1) = v) : lX10_comesTo_6 N (g + 1) (nI 0) (nI e) (nI n) (nI i) J = lX10_comesTo_6 N g (nI 0) (nI e) (nI (n + 1)) (nI (i + 1)) (xc_wr J 11 n v) := by
  simp (implicitDefEqProofs := false) (disch := omega) only [lX10_comesTo_6, bX10_comesTo_6, bX10_comesTo_86, bX10_comesTo_180, ↓xl_m1, ↓xl_m2, xl_0, xl_1, xl_2, xl_3, xl_4, xl_5, xl_6, xl_7, xl_8, xl_9, xl_10, xl_11, xl_12, xl_13, xl_14, xl_15, xl_16, xl_17, xl_18, xl_19, xl_20, xl_21, xl_22, xl_23, xl_24, xl_25, xl_26, xl_27, xl_28, xl_29, xl_30, xl_32, xl_33, xl_34, xl_35, xl_36, xl_37, xl_38, xl_39, xl_40, xl_41, xl_42, xl_43, xl_44, xl_45, xl_46, xl_47, xl_48, xl_50, xl_52, xl_57, xl_59, xl_60, xl_61, xl_62, xl_63, xl_64, xl_65, xl_66, xl_67, xl_68, xl_69, xl_70, xl_73, xl_75, xl_79, xl_83, xl_84, xl_90, xl_91, xl_93, xl_94, xl_97, xl_98, xl_99, xl_100, xl_101, xl_102, xl_103, xl_104, xl_105, xl_106, xl_107, xl_108, xl_109, xl_110, xl_111, xl_112, xl_113, xl_114, xl_115, xl_116, xl_117, xl_118, xl_119, xl_120, xl_121, xl_122, xl_130, xl_131, xl_132, xl_133, xl_134, xl_135, xl_140, xl_141, xl_142, xl_143, xl_145, xl_147, xl_150, xl_159, xl_160, xl_161, xl_162, xl_198, xl_208, xl_255, xl_256, xl_310, xl_365, xl_372, xl_400, xl_401, xl_420, xl_600, xl_628, xl_692, xl_728, xl_748, xl_820, xl_999, xl_1000, xl_1023, xl_1024, xl_1348, xl_1364, xl_1380, xl_1396, xl_1412, xl_2232, xl_9999, xl_10000, xl_16383, xl_20000, xl_20101, xl_20102, xl_20103, xl_65536, xl_1000000, xp_lt, xp_mw, xp_cl, xp_cr, xp_cv, xp_ro, xp_rb0, xp_rb1, xp_mz0, xp_mz1, xp_rd, xp_st, xp_rdR, if_pos, if_neg, ite_not, ne_eq, not_true_eq_false, not_false_eq_true, if_true, if_false, ite_true, ite_false, xp_and, xp_or, xp_dfm, xp_k31, xp_shl, xp_shr, xp_tb1, xp_bz, xp_bo, xp_eq, xp_le, xp_ltI, xp_nm1, xp_nm2, xp_nm3, xp_nm4, xp_nm5, nI_add, pk_mul, pk_sub, xp_dv, xp_rem, Nat.zero_add, Nat.add_zero, Nat.not_lt_zero, Nat.zero_le, ne_eq, not_true_eq_false, not_false_eq_true, Nat.add_sub_cancel, Nat.mul_zero, Nat.mul_zero, hs, hv]
theorem rs_fact (hi : i < e) (he : e ≤ 410) (hn : n < 24) (h1 : 1 ≤ s) (h8 : s ≤ 8) (hs : J 1 (1412 + 2 * i) = nI s) (hv : J 1 (1412 + 2 * i + 1) = v) (hf : J 12 s = x) : lX10_comesTo_6 N (g + 1) (nI 0) (nI e) (nI n) (nI i) J = lX10_comesTo_6 N g (nI 0) (nI e) (nI (n + 1)) (nI (i + 1)) (xc_wr J 11 n x) := by
  simp (implicitDefEqProofs := false) (disch := omega) only [lX10_comesTo_6, bX10_comesTo_6, bX10_comesTo_86, bX10_comesTo_180, ↓xl_m1, ↓xl_m2, xl_0, xl_1, xl_2, xl_3, xl_4, xl_5, xl_6, xl_7, xl_8, xl_9, xl_10, xl_11, xl_12, xl_13, xl_14, xl_15, xl_16, xl_17, xl_18, xl_19, xl_20, xl_21, xl_22, xl_23, xl_24, xl_25, xl_26, xl_27, xl_28, xl_29, xl_30, xl_32, xl_33, xl_34, xl_35, xl_36, xl_37, xl_38, xl_39, xl_40, xl_41, xl_42, xl_43, xl_44, xl_45, xl_46, xl_47, xl_48, xl_50, xl_52, xl_57, xl_59, xl_60, xl_61, xl_62, xl_63, xl_64, xl_65, xl_66, xl_67, xl_68, xl_69, xl_70, xl_73, xl_75, xl_79, xl_83, xl_84, xl_90, xl_91, xl_93, xl_94, xl_97, xl_98, xl_99, xl_100, xl_101, xl_102, xl_103, xl_104, xl_105, xl_106, xl_107, xl_108, xl_109, xl_110, xl_111, xl_112, xl_113, xl_114, xl_115, xl_116, xl_117, xl_118, xl_119, xl_120, xl_121, xl_122, xl_130, xl_131, xl_132, xl_133, xl_134, xl_135, xl_140, xl_141, xl_142, xl_143, xl_145, xl_147, xl_150, xl_159, xl_160, xl_161, xl_162, xl_198, xl_208, xl_255, xl_256, xl_310, xl_365, xl_372, xl_400, xl_401, xl_420, xl_600, xl_628, xl_692, xl_728, xl_748, xl_820, xl_999, xl_1000, xl_1023, xl_1024, xl_1348, xl_1364, xl_1380, xl_1396, xl_1412, xl_2232, xl_9999, xl_10000, xl_16383, xl_20000, xl_20101, xl_20102, xl_20103, xl_65536, xl_1000000, xp_lt, xp_mw, xp_cl, xp_cr, xp_cv, xp_ro, xp_rb0, xp_rb1, xp_mz0, xp_mz1, xp_rd, xp_st, xp_rdR, if_pos, if_neg, ite_not, ne_eq, not_true_eq_false, not_false_eq_true, if_true, if_false, ite_true, ite_false, xp_and, xp_or, xp_dfm, xp_k31, xp_shl, xp_shr, xp_tb1, xp_bz, xp_bo, xp_eq, xp_le, xp_ltI, xp_nm1, xp_nm2, xp_nm3, xp_nm4, xp_nm5, nI_add, pk_mul, pk_sub, xp_dv, xp_rem, Nat.zero_add, Nat.add_zero, Nat.not_lt_zero, Nat.zero_le, ne_eq, not_true_eq_false, not_false_eq_true, Nat.add_sub_cancel, Nat.mul_zero, Nat.mul_zero, hs, hv, hf]
theorem rs_part (hi : i < e) (he : e ≤ 410) (hn : n < 24) (hs : J 1 (1412 + 2 * i) = nI 26) (hv : J 1 (1412 + 2 * i + 1) = v) (hv0 : v ≠ 0) (hy : J 11 n = y) : lX10_comesTo_6 N (g + 1) (nI 0) (nI e) (nI (n + 1)) (nI i) J = lX10_comesTo_6 N g (nI 0) (nI e) (nI (n + 1)) (nI (i + 1)) (xc_wr J 11 n (y / v)) := by
  have hdv : ∀ (F : Int32 → Option (Int32 × xc_M)), xc_dv y v F = F (y / v) := by
    intro F
    unfold xc_dv
    rw [if_neg hv0]
  simp (implicitDefEqProofs := false) (disch := omega) only [lX10_comesTo_6, bX10_comesTo_6, bX10_comesTo_86, bX10_comesTo_180, ↓xl_m1, ↓xl_m2, xl_0, xl_1, xl_2, xl_3, xl_4, xl_5, xl_6, xl_7, xl_8, xl_9, xl_10, xl_11, xl_12, xl_13, xl_14, xl_15, xl_16, xl_17, xl_18, xl_19, xl_20, xl_21, xl_22, xl_23, xl_24, xl_25, xl_26, xl_27, xl_28, xl_29, xl_30, xl_32, xl_33, xl_34, xl_35, xl_36, xl_37, xl_38, xl_39, xl_40, xl_41, xl_42, xl_43, xl_44, xl_45, xl_46, xl_47, xl_48, xl_50, xl_52, xl_57, xl_59, xl_60, xl_61, xl_62, xl_63, xl_64, xl_65, xl_66, xl_67, xl_68, xl_69, xl_70, xl_73, xl_75, xl_79, xl_83, xl_84, xl_90, xl_91, xl_93, xl_94, xl_97, xl_98, xl_99, xl_100, xl_101, xl_102, xl_103, xl_104, xl_105, xl_106, xl_107, xl_108, xl_109, xl_110, xl_111, xl_112, xl_113, xl_114, xl_115, xl_116, xl_117, xl_118, xl_119, xl_120, xl_121, xl_122, xl_130, xl_131, xl_132, xl_133, xl_134, xl_135, xl_140, xl_141, xl_142, xl_143, xl_145, xl_147, xl_150, xl_159, xl_160, xl_161, xl_162, xl_198, xl_208, xl_255, xl_256, xl_310, xl_365, xl_372, xl_400, xl_401, xl_420, xl_600, xl_628, xl_692, xl_728, xl_748, xl_820, xl_999, xl_1000, xl_1023, xl_1024, xl_1348, xl_1364, xl_1380, xl_1396, xl_1412, xl_2232, xl_9999, xl_10000, xl_16383, xl_20000, xl_20101, xl_20102, xl_20103, xl_65536, xl_1000000, xp_lt, xp_mw, xp_cl, xp_cr, xp_cv, xp_ro, xp_rb0, xp_rb1, xp_mz0, xp_mz1, xp_rd, xp_st, xp_rdR, if_pos, if_neg, ite_not, ne_eq, not_true_eq_false, not_false_eq_true, if_true, if_false, ite_true, ite_false, xp_and, xp_or, xp_dfm, xp_k31, xp_shl, xp_shr, xp_tb1, xp_bz, xp_bo, xp_eq, xp_le, xp_ltI, xp_nm1, xp_nm2, xp_nm3, xp_nm4, xp_nm5, nI_add, pk_mul, pk_sub, xp_dv, xp_rem, Nat.zero_add, Nat.add_zero, Nat.not_lt_zero, Nat.zero_le, ne_eq, not_true_eq_false, not_false_eq_true, Nat.add_sub_cancel, Nat.mul_zero, Nat.mul_zero, hs, hv, Nat.add_sub_cancel, hy, hdv]
theorem rs_not (hi : i < e) (he : e ≤ 410) (hn : n < 24) (hs : J 1 (1412 + 2 * i) = nI 30) (hv : J 1 (1412 + 2 * i + 1) = v) (hy : J 11 n = y) : lX10_comesTo_6 N (g + 1) (nI 0) (nI e) (nI (n + 1)) (nI i) J = lX10_comesTo_6 N g (nI 0) (nI e) (nI (n + 1)) (nI (i + 1)) (xc_wr J 11 n (nI 1 - y)) := by
  simp (implicitDefEqProofs := false) (disch := omega) only [lX10_comesTo_6, bX10_comesTo_6, bX10_comesTo_86, bX10_comesTo_180, ↓xl_m1, ↓xl_m2, xl_0, xl_1, xl_2, xl_3, xl_4, xl_5, xl_6, xl_7, xl_8, xl_9, xl_10, xl_11, xl_12, xl_13, xl_14, xl_15, xl_16, xl_17, xl_18, xl_19, xl_20, xl_21, xl_22, xl_23, xl_24, xl_25, xl_26, xl_27, xl_28, xl_29, xl_30, xl_32, xl_33, xl_34, xl_35, xl_36, xl_37, xl_38, xl_39, xl_40, xl_41, xl_42, xl_43, xl_44, xl_45, xl_46, xl_47, xl_48, xl_50, xl_52, xl_57, xl_59, xl_60, xl_61, xl_62, xl_63, xl_64, xl_65, xl_66, xl_67, xl_68, xl_69, xl_70, xl_73, xl_75, xl_79, xl_83, xl_84, xl_90, xl_91, xl_93, xl_94, xl_97, xl_98, xl_99, xl_100, xl_101, xl_102, xl_103, xl_104, xl_105, xl_106, xl_107, xl_108, xl_109, xl_110, xl_111, xl_112, xl_113, xl_114, xl_115, xl_116, xl_117, xl_118, xl_119, xl_120, xl_121, xl_122, xl_130, xl_131, xl_132, xl_133, xl_134, xl_135, xl_140, xl_141, xl_142, xl_143, xl_145, xl_147, xl_150, xl_159, xl_160, xl_161, xl_162, xl_198, xl_208, xl_255, xl_256, xl_310, xl_365, xl_372, xl_400, xl_401, xl_420, xl_600, xl_628, xl_692, xl_728, xl_748, xl_820, xl_999, xl_1000, xl_1023, xl_1024, xl_1348, xl_1364, xl_1380, xl_1396, xl_1412, xl_2232, xl_9999, xl_10000, xl_16383, xl_20000, xl_20101, xl_20102, xl_20103, xl_65536, xl_1000000, xp_lt, xp_mw, xp_cl, xp_cr, xp_cv, xp_ro, xp_rb0, xp_rb1, xp_mz0, xp_mz1, xp_rd, xp_st, xp_rdR, if_pos, if_neg, ite_not, ne_eq, not_true_eq_false, not_false_eq_true, if_true, if_false, ite_true, ite_false, xp_and, xp_or, xp_dfm, xp_k31, xp_shl, xp_shr, xp_tb1, xp_bz, xp_bo, xp_eq, xp_le, xp_ltI, xp_nm1, xp_nm2, xp_nm3, xp_nm4, xp_nm5, nI_add, pk_mul, pk_sub, xp_dv, xp_rem, Nat.zero_add, Nat.add_zero, Nat.not_lt_zero, Nat.zero_le, ne_eq, not_true_eq_false, not_false_eq_true, Nat.add_sub_cancel, Nat.mul_zero, Nat.mul_zero, hs, hv, Nat.add_sub_cancel, hy]
theorem rs_bin (hi : i < e) (he : e ≤ 410) (hn : n < 24) (h : s = 23 ∨ s = 24 ∨ s = 25 ∨ s = 27 ∨ s = 28 ∨ s = 29 ∨ s = 31 ∨ s = 32) (hs : J 1 (1412 + 2 * i) = nI s) (hv : J 1 (1412 + 2 * i + 1) = v) (hy : J 11 (n + 1) = y) (hz : J 11 n = z) : lX10_comesTo_6 N (g + 1) (nI 0) (nI e) (nI (n + 1 + 1)) (nI i) J = lX10_comesTo_6 N g (nI 0) (nI e) (nI (n + 1)) (nI (i + 1)) (xc_wr J 11 n (lop s z y)) := by
  have hb := rv_both (s := s) h z y
  have h1 : 23 ≤ s := by omega
  have h2 : ¬ s = 26 := by omega
  have h3 : ¬ s = 30 := by omega
  have h4 : s < 40 := by omega
  clear h
  have em : nI (n + 1 + 1) + mI = nI (n + 1) := pk_m1 _
  simp (implicitDefEqProofs := false) (disch := omega) only [lX10_comesTo_6, bX10_comesTo_6, bX10_comesTo_86, bX10_comesTo_180, ↓xl_m1, ↓xl_m2, xl_0, xl_1, xl_2, xl_3, xl_4, xl_5, xl_6, xl_7, xl_8, xl_9, xl_10, xl_11, xl_12, xl_13, xl_14, xl_15, xl_16, xl_17, xl_18, xl_19, xl_20, xl_21, xl_22, xl_23, xl_24, xl_25, xl_26, xl_27, xl_28, xl_29, xl_30, xl_32, xl_33, xl_34, xl_35, xl_36, xl_37, xl_38, xl_39, xl_40, xl_41, xl_42, xl_43, xl_44, xl_45, xl_46, xl_47, xl_48, xl_50, xl_52, xl_57, xl_59, xl_60, xl_61, xl_62, xl_63, xl_64, xl_65, xl_66, xl_67, xl_68, xl_69, xl_70, xl_73, xl_75, xl_79, xl_83, xl_84, xl_90, xl_91, xl_93, xl_94, xl_97, xl_98, xl_99, xl_100, xl_101, xl_102, xl_103, xl_104, xl_105, xl_106, xl_107, xl_108, xl_109, xl_110, xl_111, xl_112, xl_113, xl_114, xl_115, xl_116, xl_117, xl_118, xl_119, xl_120, xl_121, xl_122, xl_130, xl_131, xl_132, xl_133, xl_134, xl_135, xl_140, xl_141, xl_142, xl_143, xl_145, xl_147, xl_150, xl_159, xl_160, xl_161, xl_162, xl_198, xl_208, xl_255, xl_256, xl_310, xl_365, xl_372, xl_400, xl_401, xl_420, xl_600, xl_628, xl_692, xl_728, xl_748, xl_820, xl_999, xl_1000, xl_1023, xl_1024, xl_1348, xl_1364, xl_1380, xl_1396, xl_1412, xl_2232, xl_9999, xl_10000, xl_16383, xl_20000, xl_20101, xl_20102, xl_20103, xl_65536, xl_1000000, xp_lt, xp_mw, xp_cl, xp_cr, xp_cv, xp_ro, xp_rb0, xp_rb1, xp_mz0, xp_mz1, xp_rd, xp_st, xp_rdR, if_pos, if_neg, ite_not, ne_eq, not_true_eq_false, not_false_eq_true, if_true, if_false, ite_true, ite_false, xp_and, xp_or, xp_dfm, xp_k31, xp_shl, xp_shr, xp_tb1, xp_bz, xp_bo, xp_eq, xp_le, xp_ltI, xp_nm1, xp_nm2, xp_nm3, xp_nm4, xp_nm5, nI_add, pk_mul, pk_sub, xp_dv, xp_rem, Nat.zero_add, Nat.add_zero, Nat.not_lt_zero, Nat.zero_le, ne_eq, not_true_eq_false, not_false_eq_true, Nat.add_sub_cancel, Nat.mul_zero, Nat.mul_zero, hs, hv, em, Nat.add_sub_cancel, hy, hz, hb, h2, h3]
end
theorem rv_comes_loop {N : Nat} {w : Nat → Int32} (f : Nat → Int32) (e : Nat) (he : e ≤ 410) (hs : ∀ j, j < e → vN w (1412 + 2 * j) 33) : ∀ (d i fu : Nat) (st : List Int32) (ty ty' : List Bool) (J : xc_M), i + d = e → d < fu → J 1 = w → (∀ s, 1 ≤ s → s ≤ 8 → J 12 s = f s) → stk (J 11) st → lok st ty → ltyp (lseg w i e) ty = some ty' → ty'.length = 1 → ∃ (x : Int32) (J' : xc_M), lX10_comesTo_6 N fu (nI 0) (nI e) (nI st.length) (nI i) J = some (x, J') ∧ lrun f (lseg w i e) st = [x] ∧ lok [x] ty' ∧ ∀ a, a ≠ 11 → J' a = J a := by
  intro d
  induction d with
  | zero =>
    intro i fu st ty ty' J hi hf hw hfa hst hok hty hl
    obtain ⟨g, rfl⟩ : ∃ g, fu = g + 1 := ⟨fu - 1, by omega⟩
    have hie : i = e := by omega
    subst hie
    rw [lseg_nil (Nat.le_refl _)] at hty ⊢
    have hty2 : ty = ty' := by
      unfold ltyp at hty
      exact Option.some.inj hty
    subst hty2
    have hlen := lok_len hok
    match st, hst, hok, hlen with
    | [x], hst, hok, _ =>
      have h0 : J 11 0 = x := hst.1
      exact ⟨x, J, rs_end (by omega) h0, rfl, hok, fun _ _ => rfl⟩
    | [], _, _, hlen => simp at hlen; omega
    | _ :: _ :: _, _, _, hlen => simp at hlen; omega
  | succ d ih =>
    intro i fu st ty ty' J hi hf hw hfa hst hok hty hl
    obtain ⟨g, rfl⟩ : ∃ g, fu = g + 1 := ⟨fu - 1, by omega⟩
    have hie : i < e := by omega
    have hv := hs i hie
    rw [lseg_cons hie] at hty ⊢
    obtain ⟨hlen, hc⟩ := ltyp_inv hty
    have hsl := lok_len hok
    have hsn : J 1 (1412 + 2 * i) = nI (xr w (1412 + 2 * i)) := by rw [hw]; exact hv.1
    have hsv : J 1 (1412 + 2 * i + 1) = w (1412 + 2 * i + 1) := by rw [hw]
    clear hv
    generalize xr w (1412 + 2 * i) = s at hsn hc hty ⊢
    generalize w (1412 + 2 * i + 1) = v at hsv hc hty ⊢
    have go : ∀ (n : Nat) (u : Int32) (st2 : List Int32) (t2 : List Bool), n = st2.length → stk (J 11) st2 → lok (u :: st2) t2 → ltyp (lseg w (i + 1) e) t2 = some ty' → ∃ (x : Int32) (J' : xc_M), lX10_comesTo_6 N g (nI 0) (nI e) (nI (n + 1)) (nI (i + 1)) (xc_wr J 11 n u) = some (x, J') ∧ lrun f (lseg w (i + 1) e) (u :: st2) = [x] ∧ lok [x] ty' ∧ ∀ a, a ≠ 11 → J' a = J a := by
      intro n u st2 t2 hn hst2 hok2 hty2
      subst hn
      obtain ⟨x, J', h1, h2, h3, h4⟩ := ih (i + 1) g (u :: st2) t2 ty' (xc_wr J 11 st2.length u) (by omega) (by omega) (by rw [xp_wr_cell (by decide)]; exact hw) (fun s a b => by rw [xp_wr_cell (by decide)]; exact hfa s a b) (stk_push rfl hst2) hok2 hty2 hl
      exact ⟨x, J', h1, h2, h3, fun a ha => (h4 a ha).trans (by rw [xp_wr_cell ha])⟩
    rcases hc with ⟨h0, hv1, hv2, hr⟩ | ⟨h0, h8, hr⟩ | ⟨h0, hv1, hv2, q, hq, hr⟩ | ⟨h0, q, hq, hr⟩ | ⟨h0, q, hq, hr⟩ | ⟨h0, q, hq, hr⟩ | ⟨h0, q, hq, hr⟩
    · subst h0
      obtain ⟨x, J', h1, h2, h3, h4⟩ := go st.length v st (false :: ty) rfl hst ⟨lff, hok⟩ hr
      exact ⟨x, J', (rs_num hie he (by omega) hsn hsv).trans h1, by rw [← h2]; simp [lrun], h3, h4⟩
    · obtain ⟨x, J', h1, h2, h3, h4⟩ := go st.length (f s) st (false :: ty) rfl hst ⟨lff, hok⟩ hr
      refine ⟨x, J', (rs_fact hie he (by omega) h0 h8 hsn hsv (hfa s h0 h8)).trans h1, ?_, h3, h4⟩
      have hs0 : s ≠ 0 := by omega
      rw [← h2]
      simp [lrun, hs0, h8]
    · subst h0
      subst hq
      obtain ⟨y, r, rfl, hy, hr2⟩ := lok_cons hok
      have hv0 : v ≠ 0 := by
        intro e0
        rw [e0] at hv1
        exact absurd hv1 (by decide)
      obtain ⟨x, J', h1, h2, h3, h4⟩ := go r.length (y / v) r (false :: q) rfl hst.2 ⟨lff, hr2⟩ hr
      simp only [List.length_cons] at hlen hsl
      exact ⟨x, J', (rs_part hie he (by omega) hsn hsv hv0 hst.1).trans h1, by rw [← h2]; simp [lrun], h3, h4⟩
    · subst h0
      subst hq
      obtain ⟨y, r, rfl, hy, hr2⟩ := lok_cons hok
      obtain ⟨x, J', h1, h2, h3, h4⟩ := go r.length (1 - y) r (true :: q) rfl hst.2 ⟨fun _ => lno (hy rfl), hr2⟩ hr
      simp only [List.length_cons] at hlen hsl
      exact ⟨x, J', (rs_not hie he (by omega) hsn hsv hst.1).trans h1, by rw [← h2]; simp [lrun], h3, h4⟩
    all_goals
      subst hq
      obtain ⟨y, r1, rfl, hy, hr1⟩ := lok_cons hok
      obtain ⟨z, r, rfl, hz, hr2⟩ := lok_cons hr1
      simp only [List.length_cons] at hlen hsl
      have e1 : ¬ s = 0 := by omega
      have e2 : ¬ s ≤ 8 := by omega
      have e3 : ¬ s = 26 := by omega
      have e4 : ¬ s = 30 := by omega
      have hstep := rs_bin (N := N) (g := g) hie he (show r.length < 24 by omega) (by omega) hsn hsv hst.1 hst.2.1
    · obtain ⟨x, J', h1, h2, h3, h4⟩ := go r.length (lop s z y) r (false :: q) rfl hst.2.2 ⟨lff, hr2⟩ hr
      exact ⟨x, J', hstep.trans h1, by rw [← h2]; simp [lrun, e1, e2, e3, e4], h3, h4⟩
    · obtain ⟨x, J', h1, h2, h3, h4⟩ := go r.length (lop s z y) r (true :: q) rfl hst.2.2 ⟨fun _ => lop_cmp h0 _ _, hr2⟩ hr
      exact ⟨x, J', hstep.trans h1, by rw [← h2]; simp [lrun, e1, e2, e3, e4], h3, h4⟩
    · obtain ⟨x, J', h1, h2, h3, h4⟩ := go r.length (lop s z y) r (true :: q) rfl hst.2.2 ⟨fun _ => lop_log h0 (hz rfl) (hy rfl), hr2⟩ hr
      exact ⟨x, J', hstep.trans h1, by rw [← h2]; simp [lrun, e1, e2, e3, e4], h3, h4⟩
