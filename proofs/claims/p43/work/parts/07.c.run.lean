-- ===== running: shifts, tests =====
theorem xp_k31 {k : Nat} (h : k < 32) : nI k &&& (31 : Int32) = nI k := by
  have : ∀ k, k < 32 → nI k &&& (31 : Int32) = nI k := by decide
  exact this k h
theorem xp_smod {k : Nat} (h : k < 32) : ((nI k).toBitVec.smod 32).toNat = k := by
  have : ∀ k, k < 32 → ((nI k).toBitVec.smod 32).toNat = k := by decide
  exact this k h
theorem xp_shl {k : Nat} (h : k < 31) : nI 1 <<< nI k = nI (2 ^ k) := by
  have h2 : (2 : Nat) ^ k < 2 ^ 31 := Nat.pow_lt_pow_right (by decide) h
  rw [pk_shlN (nI k) k (xp_smod (by omega)) (by omega), Nat.one_mul]
theorem xp_shr {a k : Nat} (ha : a < 2 ^ 31) (h : k < 32) : nI a >>> nI k = nI (a / 2 ^ k) := pk_shrN ha _ k (xp_smod h)
theorem xp_bz (b : Bool) : (nI b.toNat = nI 0) = (b = false) := by cases b <;> simp <;> decide
theorem xp_bo (b : Bool) : (nI b.toNat = nI 1) = (b = true) := by cases b <;> simp <;> decide
theorem xp_mT : mI.toInt = -1 := by decide
theorem xp_nm1 {k : Nat} (h : k < 2 ^ 31) : (nI k = mI) = False := by
  apply eq_false
  intro e
  have h1 := congrArg Int32.toInt e
  rw [nI_toInt h, xp_mT] at h1
  omega
theorem xp_nm2 {k : Nat} (h : k < 2 ^ 31) : (mI = nI k) = False := by
  rw [show (mI = nI k) = (nI k = mI) from propext ⟨Eq.symm, Eq.symm⟩, xp_nm1 h]
theorem xp_nm3 {k : Nat} (h : k < 2 ^ 31) : (nI k < mI) = False := by
  apply eq_false
  rw [Int32.lt_iff_toInt_lt, nI_toInt h, xp_mT]
  omega
theorem xp_nm4 {k : Nat} (h : k < 2 ^ 31) : (nI k ≤ mI) = False := by
  apply eq_false
  rw [Int32.le_iff_toInt_le, nI_toInt h, xp_mT]
  omega
theorem xp_nm5 {k : Nat} (h : k < 2 ^ 31) : (mI < nI k) = True := by
  apply eq_true
  rw [Int32.lt_iff_toInt_lt, nI_toInt h, xp_mT]
  omega
theorem xp_dfm (a b : Nat) : nI a &&& (nI b ^^^ mI) = nI (xdf a b) := xp_df a b
-- counting the numbers of a set
def sct (n : Nat) : Nat := itr (fun k acc => acc + (n.testBit k).toNat) 0 16
theorem rv_count {N n : Nat} (hN : 20 ≤ N) (hn : n < 2 ^ 31) : fX10_count N (nI n) = some (nI (sct n)) := by
  unfold fX10_count
  simp only [↓xl_m1, ↓xl_m2, xl_0, xl_1, xl_2, xl_3, xl_4, xl_5, xl_6, xl_7, xl_8, xl_9, xl_10, xl_11, xl_12, xl_13, xl_14, xl_15, xl_16, xl_17, xl_18, xl_19, xl_20, xl_21, xl_22, xl_23, xl_24, xl_25, xl_26, xl_27, xl_28, xl_29, xl_30, xl_32, xl_33, xl_34, xl_35, xl_36, xl_37, xl_38, xl_39, xl_40, xl_41, xl_42, xl_43, xl_44, xl_45, xl_46, xl_47, xl_48, xl_50, xl_52, xl_57, xl_59, xl_60, xl_61, xl_62, xl_63, xl_64, xl_65, xl_66, xl_67, xl_68, xl_69, xl_70, xl_73, xl_75, xl_79, xl_83, xl_84, xl_90, xl_91, xl_93, xl_94, xl_97, xl_98, xl_99, xl_100, xl_101, xl_102, xl_103, xl_104, xl_105, xl_106, xl_107, xl_108, xl_109, xl_110, xl_111, xl_112, xl_113, xl_114, xl_115, xl_116, xl_117, xl_118, xl_119, xl_120, xl_121, xl_122, xl_130, xl_131, xl_132, xl_133, xl_134, xl_135, xl_140, xl_141, xl_142, xl_143, xl_145, xl_147, xl_150, xl_159, xl_160, xl_161, xl_162, xl_198, xl_208, xl_255, xl_256, xl_310, xl_365, xl_372, xl_400, xl_401, xl_420, xl_600, xl_628, xl_692, xl_728, xl_748, xl_820, xl_999, xl_1000, xl_1023, xl_1024, xl_1348, xl_1364, xl_1380, xl_1396, xl_1412, xl_2232, xl_9999, xl_10000, xl_16383, xl_20000, xl_20101, xl_20102, xl_20103, xl_65536, xl_1000000, xp_lt, xp_mw, xp_cl, xp_cr, xp_cv, xp_ro, xp_rb0, xp_rb1, xp_mz0, xp_mz1, xp_rd, xp_st, xp_rdR, if_pos, if_neg, ite_not, ne_eq, not_true_eq_false, not_false_eq_true, if_true, if_false, ite_true, ite_false]
  refine xp_loop (fun fu i acc => lX10_count_4 N fu (nI n) (nI acc) (nI i)) 16 (fun k acc => acc + (n.testBit k).toNat) (fun acc => some (nI acc)) 0 ?_ ?_ N (by omega)
  · intro fu
    simp (disch := omega) only [lX10_count_4, bX10_count_4, ↓xl_m1, ↓xl_m2, xl_0, xl_1, xl_2, xl_3, xl_4, xl_5, xl_6, xl_7, xl_8, xl_9, xl_10, xl_11, xl_12, xl_13, xl_14, xl_15, xl_16, xl_17, xl_18, xl_19, xl_20, xl_21, xl_22, xl_23, xl_24, xl_25, xl_26, xl_27, xl_28, xl_29, xl_30, xl_32, xl_33, xl_34, xl_35, xl_36, xl_37, xl_38, xl_39, xl_40, xl_41, xl_42, xl_43, xl_44, xl_45, xl_46, xl_47, xl_48, xl_50, xl_52, xl_57, xl_59, xl_60, xl_61, xl_62, xl_63, xl_64, xl_65, xl_66, xl_67, xl_68, xl_69, xl_70, xl_73, xl_75, xl_79, xl_83, xl_84, xl_90, xl_91, xl_93, xl_94, xl_97, xl_98, xl_99, xl_100, xl_101, xl_102, xl_103, xl_104, xl_105, xl_106, xl_107, xl_108, xl_109, xl_110, xl_111, xl_112, xl_113, xl_114, xl_115, xl_116, xl_117, xl_118, xl_119, xl_120, xl_121, xl_122, xl_130, xl_131, xl_132, xl_133, xl_134, xl_135, xl_140, xl_141, xl_142, xl_143, xl_145, xl_147, xl_150, xl_159, xl_160, xl_161, xl_162, xl_198, xl_208, xl_255, xl_256, xl_310, xl_365, xl_372, xl_400, xl_401, xl_420, xl_600, xl_628, xl_692, xl_728, xl_748, xl_820, xl_999, xl_1000, xl_1023, xl_1024, xl_1348, xl_1364, xl_1380, xl_1396, xl_1412, xl_2232, xl_9999, xl_10000, xl_16383, xl_20000, xl_20101, xl_20102, xl_20103, xl_65536, xl_1000000, xp_lt, xp_mw, xp_cl, xp_cr, xp_cv, xp_ro, xp_rb0, xp_rb1, xp_mz0, xp_mz1, xp_rd, xp_st, xp_rdR, if_pos, if_neg, ite_not, ne_eq, not_true_eq_false, not_false_eq_true, if_true, if_false, ite_true, ite_false, xp_and, xp_or, xp_dfm, xp_k31, xp_shl, xp_shr, xp_tb1, xp_bz, xp_bo, xp_eq, xp_le, xp_ltI, xp_nm1, xp_nm2, xp_nm3, xp_nm4, xp_nm5, nI_add, pk_mul, pk_sub, xp_dv, xp_rem, Nat.zero_add, Nat.add_zero, Nat.not_lt_zero, Nat.zero_le, ne_eq, not_true_eq_false, not_false_eq_true, Nat.add_sub_cancel, Nat.mul_zero]
  · intro fu i hi
    simp (disch := omega) only [lX10_count_4, bX10_count_4, ↓xl_m1, ↓xl_m2, xl_0, xl_1, xl_2, xl_3, xl_4, xl_5, xl_6, xl_7, xl_8, xl_9, xl_10, xl_11, xl_12, xl_13, xl_14, xl_15, xl_16, xl_17, xl_18, xl_19, xl_20, xl_21, xl_22, xl_23, xl_24, xl_25, xl_26, xl_27, xl_28, xl_29, xl_30, xl_32, xl_33, xl_34, xl_35, xl_36, xl_37, xl_38, xl_39, xl_40, xl_41, xl_42, xl_43, xl_44, xl_45, xl_46, xl_47, xl_48, xl_50, xl_52, xl_57, xl_59, xl_60, xl_61, xl_62, xl_63, xl_64, xl_65, xl_66, xl_67, xl_68, xl_69, xl_70, xl_73, xl_75, xl_79, xl_83, xl_84, xl_90, xl_91, xl_93, xl_94, xl_97, xl_98, xl_99, xl_100, xl_101, xl_102, xl_103, xl_104, xl_105, xl_106, xl_107, xl_108, xl_109, xl_110, xl_111, xl_112, xl_113, xl_114, xl_115, xl_116, xl_117, xl_118, xl_119, xl_120, xl_121, xl_122, xl_130, xl_131, xl_132, xl_133, xl_134, xl_135, xl_140, xl_141, xl_142, xl_143, xl_145, xl_147, xl_150, xl_159, xl_160, xl_161, xl_162, xl_198, xl_208, xl_255, xl_256, xl_310, xl_365, xl_372, xl_400, xl_401, xl_420, xl_600, xl_628, xl_692, xl_728, xl_748, xl_820, xl_999, xl_1000, xl_1023, xl_1024, xl_1348, xl_1364, xl_1380, xl_1396, xl_1412, xl_2232, xl_9999, xl_10000, xl_16383, xl_20000, xl_20101, xl_20102, xl_20103, xl_65536, xl_1000000, xp_lt, xp_mw, xp_cl, xp_cr, xp_cv, xp_ro, xp_rb0, xp_rb1, xp_mz0, xp_mz1, xp_rd, xp_st, xp_rdR, if_pos, if_neg, ite_not, ne_eq, not_true_eq_false, not_false_eq_true, if_true, if_false, ite_true, ite_false, xp_and, xp_or, xp_dfm, xp_k31, xp_shl, xp_shr, xp_tb1, xp_bz, xp_bo, xp_eq, xp_le, xp_ltI, xp_nm1, xp_nm2, xp_nm3, xp_nm4, xp_nm5, nI_add, pk_mul, pk_sub, xp_dv, xp_rem, Nat.zero_add, Nat.add_zero, Nat.not_lt_zero, Nat.zero_le, ne_eq, not_true_eq_false, not_false_eq_true, Nat.add_sub_cancel, Nat.mul_zero]
