-- ===== round: the least way, and the first of the least =====
theorem i_nn {v : Int32} (h : ¬ v < 0) : ∃ k, k < 2 ^ 31 ∧ v = nI k := by
  have h0 : (0 : Int32).toInt = 0 := by decide
  rw [Int32.lt_iff_toInt_lt, h0] at h
  have h1 := Int32.toInt_lt v
  refine ⟨v.toInt.toNat, by omega, ?_⟩
  apply Int32.toInt_inj.mp
  rw [nI_toInt (by omega)]
  omega
theorem upN_cong {ct ct' : Nat → Nat} {P : Nat → Bool} {n : Nat} (h : ∀ i, i < n → P i = true → ct i = ct' i) : upN ct P n = upN ct' P n := by
  have h1 := upN_spec ct P n
  have h2 := upN_spec ct' P n
  cases e1 : upN ct P n with
  | none =>
    rw [e1] at h1
    cases e2 : upN ct' P n with
    | none => rfl
    | some r =>
      rw [e2] at h2
      have h3 := h2.2.1
      rw [h1 r h2.1] at h3
      cases h3
  | some q =>
    rw [e1] at h1
    obtain ⟨a1, a2, a3⟩ := h1
    cases e2 : upN ct' P n with
    | none =>
      rw [e2] at h2
      rw [h2 q a1] at a2
      cases a2
    | some r =>
      rw [e2] at h2
      obtain ⟨b1, b2, b3⟩ := h2
      have c1 := a3 r b1 b2
      have c2 := b3 q a1 a2
      have d1 := h q a1 a2
      have d2 := h r b1 b2
      congr 1
      omega
theorem sct_pos {s : Nat} (hs : s < 2 ^ 16) (h : s ≠ 0) : 0 < sct s := by
  have := sct_sub (xdf_zero s) (fun z => h z.symm) hs
  omega
theorem xdf_in {s p : Nat} (h : s.testBit p = true) : xdf s (2 ^ p) ||| 2 ^ p = s := by
  apply Nat.eq_of_testBit_eq
  intro i
  rw [Nat.testBit_or, xdf_tb]
  by_cases e : i = p
  · rw [e, Nat.testBit_two_pow_self, h]
    rfl
  · rw [Nat.testBit_two_pow_of_ne (by omega)]
    cases s.testBit i <;> rfl
theorem sct_xdf {s p : Nat} (hp : p < 16) (h : s.testBit p = true) : sct (xdf s (2 ^ p)) + 1 = sct s := by
  have h1 : (xdf s (2 ^ p)).testBit p = false := by
    rw [xdf_tb, Nat.testBit_two_pow_self, Bool.not_true, Bool.and_false]
  have h2 := sct_or hp h1
  rw [xdf_in h] at h2
  omega
section
variable {fl : Bool} {b N : Nat} {I J : xc_M} {w : Nat → Int32}
def mD (w : Nat → Int32) (a p : Nat) : Nat := xr w (98 + (a * 10 + p))
theorem mD_lt (h : iW w) {a p : Nat} (ha : a < 10) (hp : p < 10) : mD w a p < 100 := h.milesB (j := a * 10 + p) (by omega)
/-- the least miles from a through s, k places at most -/
def mt (w : Nat → Int32) : Nat → Nat → Nat → Nat
  | 0 => fun _ _ => 0
  | k + 1 => fun a s => match upN (fun p => mD w a p + mt w k p (xdf s (2 ^ p))) s.testBit 10 with
    | none => 0
    | some f => mD w a f + mt w k f (xdf s (2 ^ f))
theorem up_none {ct : Nat → Nat} {s : Nat} (hs : s < 1024) : upN ct s.testBit 10 = none ↔ s = 0 := by
  have h1 := upN_spec ct s.testBit 10
  constructor
  · intro e
    rw [e] at h1
    apply Nat.eq_of_testBit_eq
    intro i
    rw [Nat.zero_testBit]
    by_cases hi : i < 10
    · exact h1 i hi
    · exact tb_off (n := 10) (by omega) (by omega)
  · intro e
    subst e
    cases e1 : upN ct (Nat.testBit 0) 10 with
    | none => rfl
    | some r =>
      rw [e1] at h1
      have := h1.2.1
      rw [Nat.zero_testBit] at this
      cases this
theorem mt_zero (w : Nat → Int32) (k a : Nat) : mt w k a 0 = 0 := by
  cases k with
  | zero => rfl
  | succ k =>
    show (match upN (fun p => mD w a p + mt w k p (xdf 0 (2 ^ p))) (Nat.testBit 0) 10 with
    | none => 0
    | some f => mD w a f + mt w k f (xdf 0 (2 ^ f))) = 0
    rw [(up_none (by omega)).mpr rfl]
theorem mt_le (h : iW w) : ∀ k a s, a < 10 → mt w k a s ≤ 99 * k := by
  intro k
  induction k with
  | zero => exact fun _ _ _ => Nat.le_refl _
  | succ k ih =>
    intro a s ha
    show (match upN (fun p => mD w a p + mt w k p (xdf s (2 ^ p))) s.testBit 10 with
    | none => 0
    | some f => mD w a f + mt w k f (xdf s (2 ^ f))) ≤ _
    have h1 := upN_spec (fun p => mD w a p + mt w k p (xdf s (2 ^ p))) s.testBit 10
    cases e1 : upN (fun p => mD w a p + mt w k p (xdf s (2 ^ p))) s.testBit 10 with
    | none => exact Nat.zero_le _
    | some f =>
      rw [e1] at h1
      have h2 := ih f (xdf s (2 ^ f)) h1.1
      have h3 := mD_lt h ha h1.1
      show mD w a f + mt w k f (xdf s (2 ^ f)) ≤ _
      omega
theorem mt_k (w : Nat → Int32) : ∀ k k' a s, s < 1024 → sct s ≤ k → sct s ≤ k' → mt w k a s = mt w k' a s := by
  intro k
  induction k with
  | zero =>
    intro k' a s hs h1 h2
    by_cases h0 : s = 0
    · rw [h0, mt_zero, mt_zero]
    · have := sct_pos (by omega) h0
      omega
  | succ k ih =>
    intro k' a s hs h1 h2
    by_cases h0 : s = 0
    · rw [h0, mt_zero, mt_zero]
    · have hp := sct_pos (by omega) h0
      obtain ⟨m, rfl⟩ : ∃ m, k' = m + 1 := ⟨k' - 1, by omega⟩
      have hv : ∀ p, p < 10 → s.testBit p = true → mt w k p (xdf s (2 ^ p)) = mt w m p (xdf s (2 ^ p)) := by
        intro p hp2 hb
        have h3 := sct_xdf (by omega) hb
        have h4 := xdf_le s (2 ^ p)
        exact ih m p _ (by omega) (by omega) (by omega)
      have hc : upN (fun p => mD w a p + mt w k p (xdf s (2 ^ p))) s.testBit 10 = upN (fun p => mD w a p + mt w m p (xdf s (2 ^ p))) s.testBit 10 := upN_cong (fun i hi hb => by rw [hv i hi hb])
      show (match upN (fun p => mD w a p + mt w k p (xdf s (2 ^ p))) s.testBit 10 with
      | none => 0
      | some f => mD w a f + mt w k f (xdf s (2 ^ f))) = (match upN (fun p => mD w a p + mt w m p (xdf s (2 ^ p))) s.testBit 10 with
      | none => 0
      | some f => mD w a f + mt w m f (xdf s (2 ^ f)))
      rw [hc]
      have h5 := upN_spec (fun p => mD w a p + mt w m p (xdf s (2 ^ p))) s.testBit 10
      cases e1 : upN (fun p => mD w a p + mt w m p (xdf s (2 ^ p))) s.testBit 10 with
      | none => rfl
      | some f =>
        rw [e1] at h5
        show mD w a f + mt w k f (xdf s (2 ^ f)) = mD w a f + mt w m f (xdf s (2 ^ f))
        rw [hv f h5.1 h5.2.1]
/-- by way of p first -/
def vV (w : Nat → Int32) (a s p : Nat) : Nat := mD w a p + mt w 6 p (xdf s (2 ^ p))
def fo (w : Nat → Int32) (a s : Nat) : Option Nat := upN (vV w a s) s.testBit 10
theorem mt_fo (w : Nat → Int32) {a s : Nat} (hs : s < 1024) (hc : sct s ≤ 6) : mt w 6 a s = match fo w a s with
  | none => 0
  | some f => vV w a s f := by
  have hv : ∀ p, p < 10 → s.testBit p = true → mt w 5 p (xdf s (2 ^ p)) = mt w 6 p (xdf s (2 ^ p)) := by
    intro p hp2 hb
    have h3 := sct_xdf (by omega) hb
    have h4 := xdf_le s (2 ^ p)
    exact mt_k w 5 6 p _ (by omega) (by omega) (by omega)
  have he : upN (fun p => mD w a p + mt w 5 p (xdf s (2 ^ p))) s.testBit 10 = fo w a s := upN_cong (fun i hi hb => by rw [hv i hi hb]; rfl)
  show (match upN (fun p => mD w a p + mt w 5 p (xdf s (2 ^ p))) s.testBit 10 with
    | none => 0
    | some f => mD w a f + mt w 5 f (xdf s (2 ^ f))) = _
  rw [he]
  have h5 := upN_spec (vV w a s) s.testBit 10
  have h6 : fo w a s = upN (vV w a s) s.testBit 10 := rfl
  rw [h6]
  cases e1 : upN (vV w a s) s.testBit 10 with
  | none => rfl
  | some f =>
    rw [e1] at h5
    show mD w a f + mt w 5 f (xdf s (2 ^ f)) = vV w a s f
    rw [hv f h5.1 h5.2.1]
    rfl
theorem fo_some (w : Nat → Int32) {a s : Nat} (hs : s < 1024) (h0 : s ≠ 0) : ∃ f, fo w a s = some f ∧ f < 10 ∧ s.testBit f = true ∧ ∀ p, p < 10 → s.testBit p = true → vV w a s f < vV w a s p ∨ (vV w a s f = vV w a s p ∧ f ≤ p) := by
  have h5 := upN_spec (vV w a s) s.testBit 10
  have h6 : fo w a s = upN (vV w a s) s.testBit 10 := rfl
  cases e1 : upN (vV w a s) s.testBit 10 with
  | none => exact absurd ((up_none hs).mp e1) h0
  | some f =>
    rw [e1] at h5
    exact ⟨f, h6.trans e1, h5.1, h5.2.1, h5.2.2⟩
def stp (w : Nat → Int32) (x : Nat × Nat) : Nat × Nat := match fo w x.1 x.2 with
  | none => x
  | some f => (f, xdf x.2 (2 ^ f))
/-- where one is after n steps, and what is left -/
def psS (w : Nat → Int32) (a s n : Nat) : Nat × Nat := itr (fun _ x => stp w x) (a, s) n
theorem psS_1 (w : Nat → Int32) {a s f : Nat} (hf : fo w a s = some f) (n : Nat) : psS w a s (n + 1) = psS w f (xdf s (2 ^ f)) n := by
  unfold psS
  rw [show n + 1 = 1 + n by omega, itr_first]
  have e : stp w (a, s) = (f, xdf s (2 ^ f)) := by
    unfold stp
    show (match fo w a s with
    | none => (a, s)
    | some f => (f, xdf s (2 ^ f))) = _
    rw [hf]
  rw [e]
-- the class
theorem cv_milesBetween (h : xW fl b I w) {a p : Nat} (ha : a < 10) (hp : p < 10) : fX8_milesBetween b I (nI a) (nI p) = some (nI (mD w a p)) := by
  have e : I (b + 3) (a * 10 + p) = nI (mD w a p) := h.miles (j := a * 10 + p) (by omega)
  unfold fX8_milesBetween
  repeat (first | ((with_reducible apply e_lt); (focus (first | ((simp (implicitDefEqProofs := false) (disch := omega) only [↓xl_m1, ↓xl_m2, xl_0, xl_1, xl_2, xl_3, xl_4, xl_5, xl_6, xl_7, xl_8, xl_9, xl_10, xl_11, xl_12, xl_13, xl_14, xl_15, xl_16, xl_17, xl_18, xl_19, xl_20, xl_21, xl_22, xl_23, xl_24, xl_25, xl_26, xl_27, xl_28, xl_29, xl_30, xl_32, xl_33, xl_34, xl_35, xl_36, xl_37, xl_38, xl_39, xl_40, xl_41, xl_42, xl_43, xl_44, xl_45, xl_46, xl_47, xl_48, xl_50, xl_52, xl_57, xl_59, xl_60, xl_61, xl_62, xl_63, xl_64, xl_65, xl_66, xl_67, xl_68, xl_69, xl_70, xl_73, xl_75, xl_79, xl_83, xl_84, xl_90, xl_91, xl_93, xl_94, xl_97, xl_98, xl_99, xl_100, xl_101, xl_102, xl_103, xl_104, xl_105, xl_106, xl_107, xl_108, xl_109, xl_110, xl_111, xl_112, xl_113, xl_114, xl_115, xl_116, xl_117, xl_118, xl_119, xl_120, xl_121, xl_122, xl_130, xl_131, xl_132, xl_133, xl_134, xl_135, xl_140, xl_141, xl_142, xl_143, xl_145, xl_147, xl_150, xl_159, xl_160, xl_161, xl_162, xl_198, xl_208, xl_255, xl_256, xl_310, xl_365, xl_372, xl_400, xl_401, xl_420, xl_600, xl_628, xl_692, xl_728, xl_748, xl_820, xl_999, xl_1000, xl_1023, xl_1024, xl_1348, xl_1364, xl_1380, xl_1396, xl_1412, xl_2232, xl_9999, xl_10000, xl_16383, xl_20000, xl_20101, xl_20102, xl_20103, xl_65536, xl_1000000, xp_and, xp_or, xp_dfm, xp_k31, xp_shl, xp_shr, xp_tb1, xp_bz, xp_bo, xp_eq, xp_le, xp_ltI, xp_nm1, xp_nm2, xp_nm3, xp_nm4, xp_nm5, nI_add, pk_mul, pk_sub, xp_dv, xp_rem, Nat.zero_add, Nat.add_zero, Nat.not_lt_zero, Nat.zero_le, ne_eq, not_true_eq_false, not_false_eq_true, Nat.add_sub_cancel, Nat.mul_zero, cv_isPlace ha, cv_isPlace hp, e]); with_reducible rfl) | with_reducible rfl))) | ((with_reducible apply e_rd); (focus (first | ((simp (implicitDefEqProofs := false) (disch := omega) only [↓xl_m1, ↓xl_m2, xl_0, xl_1, xl_2, xl_3, xl_4, xl_5, xl_6, xl_7, xl_8, xl_9, xl_10, xl_11, xl_12, xl_13, xl_14, xl_15, xl_16, xl_17, xl_18, xl_19, xl_20, xl_21, xl_22, xl_23, xl_24, xl_25, xl_26, xl_27, xl_28, xl_29, xl_30, xl_32, xl_33, xl_34, xl_35, xl_36, xl_37, xl_38, xl_39, xl_40, xl_41, xl_42, xl_43, xl_44, xl_45, xl_46, xl_47, xl_48, xl_50, xl_52, xl_57, xl_59, xl_60, xl_61, xl_62, xl_63, xl_64, xl_65, xl_66, xl_67, xl_68, xl_69, xl_70, xl_73, xl_75, xl_79, xl_83, xl_84, xl_90, xl_91, xl_93, xl_94, xl_97, xl_98, xl_99, xl_100, xl_101, xl_102, xl_103, xl_104, xl_105, xl_106, xl_107, xl_108, xl_109, xl_110, xl_111, xl_112, xl_113, xl_114, xl_115, xl_116, xl_117, xl_118, xl_119, xl_120, xl_121, xl_122, xl_130, xl_131, xl_132, xl_133, xl_134, xl_135, xl_140, xl_141, xl_142, xl_143, xl_145, xl_147, xl_150, xl_159, xl_160, xl_161, xl_162, xl_198, xl_208, xl_255, xl_256, xl_310, xl_365, xl_372, xl_400, xl_401, xl_420, xl_600, xl_628, xl_692, xl_728, xl_748, xl_820, xl_999, xl_1000, xl_1023, xl_1024, xl_1348, xl_1364, xl_1380, xl_1396, xl_1412, xl_2232, xl_9999, xl_10000, xl_16383, xl_20000, xl_20101, xl_20102, xl_20103, xl_65536, xl_1000000, xp_and, xp_or, xp_dfm, xp_k31, xp_shl, xp_shr, xp_tb1, xp_bz, xp_bo, xp_eq, xp_le, xp_ltI, xp_nm1, xp_nm2, xp_nm3, xp_nm4, xp_nm5, nI_add, pk_mul, pk_sub, xp_dv, xp_rem, Nat.zero_add, Nat.add_zero, Nat.not_lt_zero, Nat.zero_le, ne_eq, not_true_eq_false, not_false_eq_true, Nat.add_sub_cancel, Nat.mul_zero, cv_isPlace ha, cv_isPlace hp, e]); with_reducible rfl) | with_reducible rfl)); (focus (omega)); (focus (first | ((simp (implicitDefEqProofs := false) (disch := omega) only [↓xl_m1, ↓xl_m2, xl_0, xl_1, xl_2, xl_3, xl_4, xl_5, xl_6, xl_7, xl_8, xl_9, xl_10, xl_11, xl_12, xl_13, xl_14, xl_15, xl_16, xl_17, xl_18, xl_19, xl_20, xl_21, xl_22, xl_23, xl_24, xl_25, xl_26, xl_27, xl_28, xl_29, xl_30, xl_32, xl_33, xl_34, xl_35, xl_36, xl_37, xl_38, xl_39, xl_40, xl_41, xl_42, xl_43, xl_44, xl_45, xl_46, xl_47, xl_48, xl_50, xl_52, xl_57, xl_59, xl_60, xl_61, xl_62, xl_63, xl_64, xl_65, xl_66, xl_67, xl_68, xl_69, xl_70, xl_73, xl_75, xl_79, xl_83, xl_84, xl_90, xl_91, xl_93, xl_94, xl_97, xl_98, xl_99, xl_100, xl_101, xl_102, xl_103, xl_104, xl_105, xl_106, xl_107, xl_108, xl_109, xl_110, xl_111, xl_112, xl_113, xl_114, xl_115, xl_116, xl_117, xl_118, xl_119, xl_120, xl_121, xl_122, xl_130, xl_131, xl_132, xl_133, xl_134, xl_135, xl_140, xl_141, xl_142, xl_143, xl_145, xl_147, xl_150, xl_159, xl_160, xl_161, xl_162, xl_198, xl_208, xl_255, xl_256, xl_310, xl_365, xl_372, xl_400, xl_401, xl_420, xl_600, xl_628, xl_692, xl_728, xl_748, xl_820, xl_999, xl_1000, xl_1023, xl_1024, xl_1348, xl_1364, xl_1380, xl_1396, xl_1412, xl_2232, xl_9999, xl_10000, xl_16383, xl_20000, xl_20101, xl_20102, xl_20103, xl_65536, xl_1000000, xp_and, xp_or, xp_dfm, xp_k31, xp_shl, xp_shr, xp_tb1, xp_bz, xp_bo, xp_eq, xp_le, xp_ltI, xp_nm1, xp_nm2, xp_nm3, xp_nm4, xp_nm5, nI_add, pk_mul, pk_sub, xp_dv, xp_rem, Nat.zero_add, Nat.add_zero, Nat.not_lt_zero, Nat.zero_le, ne_eq, not_true_eq_false, not_false_eq_true, Nat.add_sub_cancel, Nat.mul_zero, cv_isPlace ha, cv_isPlace hp, e]); with_reducible rfl) | with_reducible rfl))) | ((with_reducible apply e_st); (focus (first | ((simp (implicitDefEqProofs := false) (disch := omega) only [↓xl_m1, ↓xl_m2, xl_0, xl_1, xl_2, xl_3, xl_4, xl_5, xl_6, xl_7, xl_8, xl_9, xl_10, xl_11, xl_12, xl_13, xl_14, xl_15, xl_16, xl_17, xl_18, xl_19, xl_20, xl_21, xl_22, xl_23, xl_24, xl_25, xl_26, xl_27, xl_28, xl_29, xl_30, xl_32, xl_33, xl_34, xl_35, xl_36, xl_37, xl_38, xl_39, xl_40, xl_41, xl_42, xl_43, xl_44, xl_45, xl_46, xl_47, xl_48, xl_50, xl_52, xl_57, xl_59, xl_60, xl_61, xl_62, xl_63, xl_64, xl_65, xl_66, xl_67, xl_68, xl_69, xl_70, xl_73, xl_75, xl_79, xl_83, xl_84, xl_90, xl_91, xl_93, xl_94, xl_97, xl_98, xl_99, xl_100, xl_101, xl_102, xl_103, xl_104, xl_105, xl_106, xl_107, xl_108, xl_109, xl_110, xl_111, xl_112, xl_113, xl_114, xl_115, xl_116, xl_117, xl_118, xl_119, xl_120, xl_121, xl_122, xl_130, xl_131, xl_132, xl_133, xl_134, xl_135, xl_140, xl_141, xl_142, xl_143, xl_145, xl_147, xl_150, xl_159, xl_160, xl_161, xl_162, xl_198, xl_208, xl_255, xl_256, xl_310, xl_365, xl_372, xl_400, xl_401, xl_420, xl_600, xl_628, xl_692, xl_728, xl_748, xl_820, xl_999, xl_1000, xl_1023, xl_1024, xl_1348, xl_1364, xl_1380, xl_1396, xl_1412, xl_2232, xl_9999, xl_10000, xl_16383, xl_20000, xl_20101, xl_20102, xl_20103, xl_65536, xl_1000000, xp_and, xp_or, xp_dfm, xp_k31, xp_shl, xp_shr, xp_tb1, xp_bz, xp_bo, xp_eq, xp_le, xp_ltI, xp_nm1, xp_nm2, xp_nm3, xp_nm4, xp_nm5, nI_add, pk_mul, pk_sub, xp_dv, xp_rem, Nat.zero_add, Nat.add_zero, Nat.not_lt_zero, Nat.zero_le, ne_eq, not_true_eq_false, not_false_eq_true, Nat.add_sub_cancel, Nat.mul_zero, cv_isPlace ha, cv_isPlace hp, e]); with_reducible rfl) | with_reducible rfl)); (focus (omega)); (focus (first | ((simp (implicitDefEqProofs := false) (disch := omega) only [↓xl_m1, ↓xl_m2, xl_0, xl_1, xl_2, xl_3, xl_4, xl_5, xl_6, xl_7, xl_8, xl_9, xl_10, xl_11, xl_12, xl_13, xl_14, xl_15, xl_16, xl_17, xl_18, xl_19, xl_20, xl_21, xl_22, xl_23, xl_24, xl_25, xl_26, xl_27, xl_28, xl_29, xl_30, xl_32, xl_33, xl_34, xl_35, xl_36, xl_37, xl_38, xl_39, xl_40, xl_41, xl_42, xl_43, xl_44, xl_45, xl_46, xl_47, xl_48, xl_50, xl_52, xl_57, xl_59, xl_60, xl_61, xl_62, xl_63, xl_64, xl_65, xl_66, xl_67, xl_68, xl_69, xl_70, xl_73, xl_75, xl_79, xl_83, xl_84, xl_90, xl_91, xl_93, xl_94, xl_97, xl_98, xl_99, xl_100, xl_101, xl_102, xl_103, xl_104, xl_105, xl_106, xl_107, xl_108, xl_109, xl_110, xl_111, xl_112, xl_113, xl_114, xl_115, xl_116, xl_117, xl_118, xl_119, xl_120, xl_121, xl_122, xl_130, xl_131, xl_132, xl_133, xl_134, xl_135, xl_140, xl_141, xl_142, xl_143, xl_145, xl_147, xl_150, xl_159, xl_160, xl_161, xl_162, xl_198, xl_208, xl_255, xl_256, xl_310, xl_365, xl_372, xl_400, xl_401, xl_420, xl_600, xl_628, xl_692, xl_728, xl_748, xl_820, xl_999, xl_1000, xl_1023, xl_1024, xl_1348, xl_1364, xl_1380, xl_1396, xl_1412, xl_2232, xl_9999, xl_10000, xl_16383, xl_20000, xl_20101, xl_20102, xl_20103, xl_65536, xl_1000000, xp_and, xp_or, xp_dfm, xp_k31, xp_shl, xp_shr, xp_tb1, xp_bz, xp_bo, xp_eq, xp_le, xp_ltI, xp_nm1, xp_nm2, xp_nm3, xp_nm4, xp_nm5, nI_add, pk_mul, pk_sub, xp_dv, xp_rem, Nat.zero_add, Nat.add_zero, Nat.not_lt_zero, Nat.zero_le, ne_eq, not_true_eq_false, not_false_eq_true, Nat.add_sub_cancel, Nat.mul_zero, cv_isPlace ha, cv_isPlace hp, e]); with_reducible rfl) | with_reducible rfl))) | ((with_reducible apply e_mw); (focus (first | ((simp (implicitDefEqProofs := false) (disch := omega) only [↓xl_m1, ↓xl_m2, xl_0, xl_1, xl_2, xl_3, xl_4, xl_5, xl_6, xl_7, xl_8, xl_9, xl_10, xl_11, xl_12, xl_13, xl_14, xl_15, xl_16, xl_17, xl_18, xl_19, xl_20, xl_21, xl_22, xl_23, xl_24, xl_25, xl_26, xl_27, xl_28, xl_29, xl_30, xl_32, xl_33, xl_34, xl_35, xl_36, xl_37, xl_38, xl_39, xl_40, xl_41, xl_42, xl_43, xl_44, xl_45, xl_46, xl_47, xl_48, xl_50, xl_52, xl_57, xl_59, xl_60, xl_61, xl_62, xl_63, xl_64, xl_65, xl_66, xl_67, xl_68, xl_69, xl_70, xl_73, xl_75, xl_79, xl_83, xl_84, xl_90, xl_91, xl_93, xl_94, xl_97, xl_98, xl_99, xl_100, xl_101, xl_102, xl_103, xl_104, xl_105, xl_106, xl_107, xl_108, xl_109, xl_110, xl_111, xl_112, xl_113, xl_114, xl_115, xl_116, xl_117, xl_118, xl_119, xl_120, xl_121, xl_122, xl_130, xl_131, xl_132, xl_133, xl_134, xl_135, xl_140, xl_141, xl_142, xl_143, xl_145, xl_147, xl_150, xl_159, xl_160, xl_161, xl_162, xl_198, xl_208, xl_255, xl_256, xl_310, xl_365, xl_372, xl_400, xl_401, xl_420, xl_600, xl_628, xl_692, xl_728, xl_748, xl_820, xl_999, xl_1000, xl_1023, xl_1024, xl_1348, xl_1364, xl_1380, xl_1396, xl_1412, xl_2232, xl_9999, xl_10000, xl_16383, xl_20000, xl_20101, xl_20102, xl_20103, xl_65536, xl_1000000, xp_and, xp_or, xp_dfm, xp_k31, xp_shl, xp_shr, xp_tb1, xp_bz, xp_bo, xp_eq, xp_le, xp_ltI, xp_nm1, xp_nm2, xp_nm3, xp_nm4, xp_nm5, nI_add, pk_mul, pk_sub, xp_dv, xp_rem, Nat.zero_add, Nat.add_zero, Nat.not_lt_zero, Nat.zero_le, ne_eq, not_true_eq_false, not_false_eq_true, Nat.add_sub_cancel, Nat.mul_zero, cv_isPlace ha, cv_isPlace hp, e]); with_reducible rfl) | with_reducible rfl))) | ((with_reducible apply e_cr); (focus (first | ((simp (implicitDefEqProofs := false) (disch := omega) only [↓xl_m1, ↓xl_m2, xl_0, xl_1, xl_2, xl_3, xl_4, xl_5, xl_6, xl_7, xl_8, xl_9, xl_10, xl_11, xl_12, xl_13, xl_14, xl_15, xl_16, xl_17, xl_18, xl_19, xl_20, xl_21, xl_22, xl_23, xl_24, xl_25, xl_26, xl_27, xl_28, xl_29, xl_30, xl_32, xl_33, xl_34, xl_35, xl_36, xl_37, xl_38, xl_39, xl_40, xl_41, xl_42, xl_43, xl_44, xl_45, xl_46, xl_47, xl_48, xl_50, xl_52, xl_57, xl_59, xl_60, xl_61, xl_62, xl_63, xl_64, xl_65, xl_66, xl_67, xl_68, xl_69, xl_70, xl_73, xl_75, xl_79, xl_83, xl_84, xl_90, xl_91, xl_93, xl_94, xl_97, xl_98, xl_99, xl_100, xl_101, xl_102, xl_103, xl_104, xl_105, xl_106, xl_107, xl_108, xl_109, xl_110, xl_111, xl_112, xl_113, xl_114, xl_115, xl_116, xl_117, xl_118, xl_119, xl_120, xl_121, xl_122, xl_130, xl_131, xl_132, xl_133, xl_134, xl_135, xl_140, xl_141, xl_142, xl_143, xl_145, xl_147, xl_150, xl_159, xl_160, xl_161, xl_162, xl_198, xl_208, xl_255, xl_256, xl_310, xl_365, xl_372, xl_400, xl_401, xl_420, xl_600, xl_628, xl_692, xl_728, xl_748, xl_820, xl_999, xl_1000, xl_1023, xl_1024, xl_1348, xl_1364, xl_1380, xl_1396, xl_1412, xl_2232, xl_9999, xl_10000, xl_16383, xl_20000, xl_20101, xl_20102, xl_20103, xl_65536, xl_1000000, xp_and, xp_or, xp_dfm, xp_k31, xp_shl, xp_shr, xp_tb1, xp_bz, xp_bo, xp_eq, xp_le, xp_ltI, xp_nm1, xp_nm2, xp_nm3, xp_nm4, xp_nm5, nI_add, pk_mul, pk_sub, xp_dv, xp_rem, Nat.zero_add, Nat.add_zero, Nat.not_lt_zero, Nat.zero_le, ne_eq, not_true_eq_false, not_false_eq_true, Nat.add_sub_cancel, Nat.mul_zero, cv_isPlace ha, cv_isPlace hp, e]); with_reducible rfl) | with_reducible rfl))) | ((with_reducible apply e_cl); (focus (first | ((simp (implicitDefEqProofs := false) (disch := omega) only [↓xl_m1, ↓xl_m2, xl_0, xl_1, xl_2, xl_3, xl_4, xl_5, xl_6, xl_7, xl_8, xl_9, xl_10, xl_11, xl_12, xl_13, xl_14, xl_15, xl_16, xl_17, xl_18, xl_19, xl_20, xl_21, xl_22, xl_23, xl_24, xl_25, xl_26, xl_27, xl_28, xl_29, xl_30, xl_32, xl_33, xl_34, xl_35, xl_36, xl_37, xl_38, xl_39, xl_40, xl_41, xl_42, xl_43, xl_44, xl_45, xl_46, xl_47, xl_48, xl_50, xl_52, xl_57, xl_59, xl_60, xl_61, xl_62, xl_63, xl_64, xl_65, xl_66, xl_67, xl_68, xl_69, xl_70, xl_73, xl_75, xl_79, xl_83, xl_84, xl_90, xl_91, xl_93, xl_94, xl_97, xl_98, xl_99, xl_100, xl_101, xl_102, xl_103, xl_104, xl_105, xl_106, xl_107, xl_108, xl_109, xl_110, xl_111, xl_112, xl_113, xl_114, xl_115, xl_116, xl_117, xl_118, xl_119, xl_120, xl_121, xl_122, xl_130, xl_131, xl_132, xl_133, xl_134, xl_135, xl_140, xl_141, xl_142, xl_143, xl_145, xl_147, xl_150, xl_159, xl_160, xl_161, xl_162, xl_198, xl_208, xl_255, xl_256, xl_310, xl_365, xl_372, xl_400, xl_401, xl_420, xl_600, xl_628, xl_692, xl_728, xl_748, xl_820, xl_999, xl_1000, xl_1023, xl_1024, xl_1348, xl_1364, xl_1380, xl_1396, xl_1412, xl_2232, xl_9999, xl_10000, xl_16383, xl_20000, xl_20101, xl_20102, xl_20103, xl_65536, xl_1000000, xp_and, xp_or, xp_dfm, xp_k31, xp_shl, xp_shr, xp_tb1, xp_bz, xp_bo, xp_eq, xp_le, xp_ltI, xp_nm1, xp_nm2, xp_nm3, xp_nm4, xp_nm5, nI_add, pk_mul, pk_sub, xp_dv, xp_rem, Nat.zero_add, Nat.add_zero, Nat.not_lt_zero, Nat.zero_le, ne_eq, not_true_eq_false, not_false_eq_true, Nat.add_sub_cancel, Nat.mul_zero, cv_isPlace ha, cv_isPlace hp, e]); with_reducible rfl) | with_reducible rfl))) | ((with_reducible apply e_cv); (focus (first | ((simp (implicitDefEqProofs := false) (disch := omega) only [↓xl_m1, ↓xl_m2, xl_0, xl_1, xl_2, xl_3, xl_4, xl_5, xl_6, xl_7, xl_8, xl_9, xl_10, xl_11, xl_12, xl_13, xl_14, xl_15, xl_16, xl_17, xl_18, xl_19, xl_20, xl_21, xl_22, xl_23, xl_24, xl_25, xl_26, xl_27, xl_28, xl_29, xl_30, xl_32, xl_33, xl_34, xl_35, xl_36, xl_37, xl_38, xl_39, xl_40, xl_41, xl_42, xl_43, xl_44, xl_45, xl_46, xl_47, xl_48, xl_50, xl_52, xl_57, xl_59, xl_60, xl_61, xl_62, xl_63, xl_64, xl_65, xl_66, xl_67, xl_68, xl_69, xl_70, xl_73, xl_75, xl_79, xl_83, xl_84, xl_90, xl_91, xl_93, xl_94, xl_97, xl_98, xl_99, xl_100, xl_101, xl_102, xl_103, xl_104, xl_105, xl_106, xl_107, xl_108, xl_109, xl_110, xl_111, xl_112, xl_113, xl_114, xl_115, xl_116, xl_117, xl_118, xl_119, xl_120, xl_121, xl_122, xl_130, xl_131, xl_132, xl_133, xl_134, xl_135, xl_140, xl_141, xl_142, xl_143, xl_145, xl_147, xl_150, xl_159, xl_160, xl_161, xl_162, xl_198, xl_208, xl_255, xl_256, xl_310, xl_365, xl_372, xl_400, xl_401, xl_420, xl_600, xl_628, xl_692, xl_728, xl_748, xl_820, xl_999, xl_1000, xl_1023, xl_1024, xl_1348, xl_1364, xl_1380, xl_1396, xl_1412, xl_2232, xl_9999, xl_10000, xl_16383, xl_20000, xl_20101, xl_20102, xl_20103, xl_65536, xl_1000000, xp_and, xp_or, xp_dfm, xp_k31, xp_shl, xp_shr, xp_tb1, xp_bz, xp_bo, xp_eq, xp_le, xp_ltI, xp_nm1, xp_nm2, xp_nm3, xp_nm4, xp_nm5, nI_add, pk_mul, pk_sub, xp_dv, xp_rem, Nat.zero_add, Nat.add_zero, Nat.not_lt_zero, Nat.zero_le, ne_eq, not_true_eq_false, not_false_eq_true, Nat.add_sub_cancel, Nat.mul_zero, cv_isPlace ha, cv_isPlace hp, e]); with_reducible rfl) | with_reducible rfl))) | ((with_reducible apply e_t); (focus (first | omega | (simp (implicitDefEqProofs := false) (disch := omega) only [↓xl_m1, ↓xl_m2, xl_0, xl_1, xl_2, xl_3, xl_4, xl_5, xl_6, xl_7, xl_8, xl_9, xl_10, xl_11, xl_12, xl_13, xl_14, xl_15, xl_16, xl_17, xl_18, xl_19, xl_20, xl_21, xl_22, xl_23, xl_24, xl_25, xl_26, xl_27, xl_28, xl_29, xl_30, xl_32, xl_33, xl_34, xl_35, xl_36, xl_37, xl_38, xl_39, xl_40, xl_41, xl_42, xl_43, xl_44, xl_45, xl_46, xl_47, xl_48, xl_50, xl_52, xl_57, xl_59, xl_60, xl_61, xl_62, xl_63, xl_64, xl_65, xl_66, xl_67, xl_68, xl_69, xl_70, xl_73, xl_75, xl_79, xl_83, xl_84, xl_90, xl_91, xl_93, xl_94, xl_97, xl_98, xl_99, xl_100, xl_101, xl_102, xl_103, xl_104, xl_105, xl_106, xl_107, xl_108, xl_109, xl_110, xl_111, xl_112, xl_113, xl_114, xl_115, xl_116, xl_117, xl_118, xl_119, xl_120, xl_121, xl_122, xl_130, xl_131, xl_132, xl_133, xl_134, xl_135, xl_140, xl_141, xl_142, xl_143, xl_145, xl_147, xl_150, xl_159, xl_160, xl_161, xl_162, xl_198, xl_208, xl_255, xl_256, xl_310, xl_365, xl_372, xl_400, xl_401, xl_420, xl_600, xl_628, xl_692, xl_728, xl_748, xl_820, xl_999, xl_1000, xl_1023, xl_1024, xl_1348, xl_1364, xl_1380, xl_1396, xl_1412, xl_2232, xl_9999, xl_10000, xl_16383, xl_20000, xl_20101, xl_20102, xl_20103, xl_65536, xl_1000000, xp_and, xp_or, xp_dfm, xp_k31, xp_shl, xp_shr, xp_tb1, xp_bz, xp_bo, xp_eq, xp_le, xp_ltI, xp_nm1, xp_nm2, xp_nm3, xp_nm4, xp_nm5, nI_add, pk_mul, pk_sub, xp_dv, xp_rem, Nat.zero_add, Nat.add_zero, Nat.not_lt_zero, Nat.zero_le, ne_eq, not_true_eq_false, not_false_eq_true, Nat.add_sub_cancel, Nat.mul_zero, cv_isPlace ha, cv_isPlace hp, e]; done) | (simp (implicitDefEqProofs := false) (disch := omega) only [↓xl_m1, ↓xl_m2, xl_0, xl_1, xl_2, xl_3, xl_4, xl_5, xl_6, xl_7, xl_8, xl_9, xl_10, xl_11, xl_12, xl_13, xl_14, xl_15, xl_16, xl_17, xl_18, xl_19, xl_20, xl_21, xl_22, xl_23, xl_24, xl_25, xl_26, xl_27, xl_28, xl_29, xl_30, xl_32, xl_33, xl_34, xl_35, xl_36, xl_37, xl_38, xl_39, xl_40, xl_41, xl_42, xl_43, xl_44, xl_45, xl_46, xl_47, xl_48, xl_50, xl_52, xl_57, xl_59, xl_60, xl_61, xl_62, xl_63, xl_64, xl_65, xl_66, xl_67, xl_68, xl_69, xl_70, xl_73, xl_75, xl_79, xl_83, xl_84, xl_90, xl_91, xl_93, xl_94, xl_97, xl_98, xl_99, xl_100, xl_101, xl_102, xl_103, xl_104, xl_105, xl_106, xl_107, xl_108, xl_109, xl_110, xl_111, xl_112, xl_113, xl_114, xl_115, xl_116, xl_117, xl_118, xl_119, xl_120, xl_121, xl_122, xl_130, xl_131, xl_132, xl_133, xl_134, xl_135, xl_140, xl_141, xl_142, xl_143, xl_145, xl_147, xl_150, xl_159, xl_160, xl_161, xl_162, xl_198, xl_208, xl_255, xl_256, xl_310, xl_365, xl_372, xl_400, xl_401, xl_420, xl_600, xl_628, xl_692, xl_728, xl_748, xl_820, xl_999, xl_1000, xl_1023, xl_1024, xl_1348, xl_1364, xl_1380, xl_1396, xl_1412, xl_2232, xl_9999, xl_10000, xl_16383, xl_20000, xl_20101, xl_20102, xl_20103, xl_65536, xl_1000000, xp_and, xp_or, xp_dfm, xp_k31, xp_shl, xp_shr, xp_tb1, xp_bz, xp_bo, xp_eq, xp_le, xp_ltI, xp_nm1, xp_nm2, xp_nm3, xp_nm4, xp_nm5, nI_add, pk_mul, pk_sub, xp_dv, xp_rem, Nat.zero_add, Nat.add_zero, Nat.not_lt_zero, Nat.zero_le, ne_eq, not_true_eq_false, not_false_eq_true, Nat.add_sub_cancel, Nat.mul_zero, cv_isPlace ha, cv_isPlace hp, e]; omega)))) | ((with_reducible apply e_f); (focus (first | omega | (simp (implicitDefEqProofs := false) (disch := omega) only [↓xl_m1, ↓xl_m2, xl_0, xl_1, xl_2, xl_3, xl_4, xl_5, xl_6, xl_7, xl_8, xl_9, xl_10, xl_11, xl_12, xl_13, xl_14, xl_15, xl_16, xl_17, xl_18, xl_19, xl_20, xl_21, xl_22, xl_23, xl_24, xl_25, xl_26, xl_27, xl_28, xl_29, xl_30, xl_32, xl_33, xl_34, xl_35, xl_36, xl_37, xl_38, xl_39, xl_40, xl_41, xl_42, xl_43, xl_44, xl_45, xl_46, xl_47, xl_48, xl_50, xl_52, xl_57, xl_59, xl_60, xl_61, xl_62, xl_63, xl_64, xl_65, xl_66, xl_67, xl_68, xl_69, xl_70, xl_73, xl_75, xl_79, xl_83, xl_84, xl_90, xl_91, xl_93, xl_94, xl_97, xl_98, xl_99, xl_100, xl_101, xl_102, xl_103, xl_104, xl_105, xl_106, xl_107, xl_108, xl_109, xl_110, xl_111, xl_112, xl_113, xl_114, xl_115, xl_116, xl_117, xl_118, xl_119, xl_120, xl_121, xl_122, xl_130, xl_131, xl_132, xl_133, xl_134, xl_135, xl_140, xl_141, xl_142, xl_143, xl_145, xl_147, xl_150, xl_159, xl_160, xl_161, xl_162, xl_198, xl_208, xl_255, xl_256, xl_310, xl_365, xl_372, xl_400, xl_401, xl_420, xl_600, xl_628, xl_692, xl_728, xl_748, xl_820, xl_999, xl_1000, xl_1023, xl_1024, xl_1348, xl_1364, xl_1380, xl_1396, xl_1412, xl_2232, xl_9999, xl_10000, xl_16383, xl_20000, xl_20101, xl_20102, xl_20103, xl_65536, xl_1000000, xp_and, xp_or, xp_dfm, xp_k31, xp_shl, xp_shr, xp_tb1, xp_bz, xp_bo, xp_eq, xp_le, xp_ltI, xp_nm1, xp_nm2, xp_nm3, xp_nm4, xp_nm5, nI_add, pk_mul, pk_sub, xp_dv, xp_rem, Nat.zero_add, Nat.add_zero, Nat.not_lt_zero, Nat.zero_le, ne_eq, not_true_eq_false, not_false_eq_true, Nat.add_sub_cancel, Nat.mul_zero, cv_isPlace ha, cv_isPlace hp, e]; done) | (simp (implicitDefEqProofs := false) (disch := omega) only [↓xl_m1, ↓xl_m2, xl_0, xl_1, xl_2, xl_3, xl_4, xl_5, xl_6, xl_7, xl_8, xl_9, xl_10, xl_11, xl_12, xl_13, xl_14, xl_15, xl_16, xl_17, xl_18, xl_19, xl_20, xl_21, xl_22, xl_23, xl_24, xl_25, xl_26, xl_27, xl_28, xl_29, xl_30, xl_32, xl_33, xl_34, xl_35, xl_36, xl_37, xl_38, xl_39, xl_40, xl_41, xl_42, xl_43, xl_44, xl_45, xl_46, xl_47, xl_48, xl_50, xl_52, xl_57, xl_59, xl_60, xl_61, xl_62, xl_63, xl_64, xl_65, xl_66, xl_67, xl_68, xl_69, xl_70, xl_73, xl_75, xl_79, xl_83, xl_84, xl_90, xl_91, xl_93, xl_94, xl_97, xl_98, xl_99, xl_100, xl_101, xl_102, xl_103, xl_104, xl_105, xl_106, xl_107, xl_108, xl_109, xl_110, xl_111, xl_112, xl_113, xl_114, xl_115, xl_116, xl_117, xl_118, xl_119, xl_120, xl_121, xl_122, xl_130, xl_131, xl_132, xl_133, xl_134, xl_135, xl_140, xl_141, xl_142, xl_143, xl_145, xl_147, xl_150, xl_159, xl_160, xl_161, xl_162, xl_198, xl_208, xl_255, xl_256, xl_310, xl_365, xl_372, xl_400, xl_401, xl_420, xl_600, xl_628, xl_692, xl_728, xl_748, xl_820, xl_999, xl_1000, xl_1023, xl_1024, xl_1348, xl_1364, xl_1380, xl_1396, xl_1412, xl_2232, xl_9999, xl_10000, xl_16383, xl_20000, xl_20101, xl_20102, xl_20103, xl_65536, xl_1000000, xp_and, xp_or, xp_dfm, xp_k31, xp_shl, xp_shr, xp_tb1, xp_bz, xp_bo, xp_eq, xp_le, xp_ltI, xp_nm1, xp_nm2, xp_nm3, xp_nm4, xp_nm5, nI_add, pk_mul, pk_sub, xp_dv, xp_rem, Nat.zero_add, Nat.add_zero, Nat.not_lt_zero, Nat.zero_le, ne_eq, not_true_eq_false, not_false_eq_true, Nat.add_sub_cancel, Nat.mul_zero, cv_isPlace ha, cv_isPlace hp, e]; omega)))) | ((with_reducible apply e_rb); (focus (first | exact b_n0 | exact b_n1 | exact b_01 _ | (simp only [↓xl_m1, ↓xl_m2, xl_0, xl_1, xl_2, xl_3, xl_4, xl_5, xl_6, xl_7, xl_8, xl_9, xl_10, xl_11, xl_12, xl_13, xl_14, xl_15, xl_16, xl_17, xl_18, xl_19, xl_20, xl_21, xl_22, xl_23, xl_24, xl_25, xl_26, xl_27, xl_28, xl_29, xl_30, xl_32, xl_33, xl_34, xl_35, xl_36, xl_37, xl_38, xl_39, xl_40, xl_41, xl_42, xl_43, xl_44, xl_45, xl_46, xl_47, xl_48, xl_50, xl_52, xl_57, xl_59, xl_60, xl_61, xl_62, xl_63, xl_64, xl_65, xl_66, xl_67, xl_68, xl_69, xl_70, xl_73, xl_75, xl_79, xl_83, xl_84, xl_90, xl_91, xl_93, xl_94, xl_97, xl_98, xl_99, xl_100, xl_101, xl_102, xl_103, xl_104, xl_105, xl_106, xl_107, xl_108, xl_109, xl_110, xl_111, xl_112, xl_113, xl_114, xl_115, xl_116, xl_117, xl_118, xl_119, xl_120, xl_121, xl_122, xl_130, xl_131, xl_132, xl_133, xl_134, xl_135, xl_140, xl_141, xl_142, xl_143, xl_145, xl_147, xl_150, xl_159, xl_160, xl_161, xl_162, xl_198, xl_208, xl_255, xl_256, xl_310, xl_365, xl_372, xl_400, xl_401, xl_420, xl_600, xl_628, xl_692, xl_728, xl_748, xl_820, xl_999, xl_1000, xl_1023, xl_1024, xl_1348, xl_1364, xl_1380, xl_1396, xl_1412, xl_2232, xl_9999, xl_10000, xl_16383, xl_20000, xl_20101, xl_20102, xl_20103, xl_65536, xl_1000000]; first | exact b_n0 | exact b_n1)))) | ((with_reducible apply e_dv); (focus (first | omega | (simp (implicitDefEqProofs := false) (disch := omega) only [↓xl_m1, ↓xl_m2, xl_0, xl_1, xl_2, xl_3, xl_4, xl_5, xl_6, xl_7, xl_8, xl_9, xl_10, xl_11, xl_12, xl_13, xl_14, xl_15, xl_16, xl_17, xl_18, xl_19, xl_20, xl_21, xl_22, xl_23, xl_24, xl_25, xl_26, xl_27, xl_28, xl_29, xl_30, xl_32, xl_33, xl_34, xl_35, xl_36, xl_37, xl_38, xl_39, xl_40, xl_41, xl_42, xl_43, xl_44, xl_45, xl_46, xl_47, xl_48, xl_50, xl_52, xl_57, xl_59, xl_60, xl_61, xl_62, xl_63, xl_64, xl_65, xl_66, xl_67, xl_68, xl_69, xl_70, xl_73, xl_75, xl_79, xl_83, xl_84, xl_90, xl_91, xl_93, xl_94, xl_97, xl_98, xl_99, xl_100, xl_101, xl_102, xl_103, xl_104, xl_105, xl_106, xl_107, xl_108, xl_109, xl_110, xl_111, xl_112, xl_113, xl_114, xl_115, xl_116, xl_117, xl_118, xl_119, xl_120, xl_121, xl_122, xl_130, xl_131, xl_132, xl_133, xl_134, xl_135, xl_140, xl_141, xl_142, xl_143, xl_145, xl_147, xl_150, xl_159, xl_160, xl_161, xl_162, xl_198, xl_208, xl_255, xl_256, xl_310, xl_365, xl_372, xl_400, xl_401, xl_420, xl_600, xl_628, xl_692, xl_728, xl_748, xl_820, xl_999, xl_1000, xl_1023, xl_1024, xl_1348, xl_1364, xl_1380, xl_1396, xl_1412, xl_2232, xl_9999, xl_10000, xl_16383, xl_20000, xl_20101, xl_20102, xl_20103, xl_65536, xl_1000000, xp_and, xp_or, xp_dfm, xp_k31, xp_shl, xp_shr, xp_tb1, xp_bz, xp_bo, xp_eq, xp_le, xp_ltI, xp_nm1, xp_nm2, xp_nm3, xp_nm4, xp_nm5, nI_add, pk_mul, pk_sub, xp_dv, xp_rem, Nat.zero_add, Nat.add_zero, Nat.not_lt_zero, Nat.zero_le, ne_eq, not_true_eq_false, not_false_eq_true, Nat.add_sub_cancel, Nat.mul_zero, cv_isPlace ha, cv_isPlace hp, e]; done) | (simp (implicitDefEqProofs := false) (disch := omega) only [↓xl_m1, ↓xl_m2, xl_0, xl_1, xl_2, xl_3, xl_4, xl_5, xl_6, xl_7, xl_8, xl_9, xl_10, xl_11, xl_12, xl_13, xl_14, xl_15, xl_16, xl_17, xl_18, xl_19, xl_20, xl_21, xl_22, xl_23, xl_24, xl_25, xl_26, xl_27, xl_28, xl_29, xl_30, xl_32, xl_33, xl_34, xl_35, xl_36, xl_37, xl_38, xl_39, xl_40, xl_41, xl_42, xl_43, xl_44, xl_45, xl_46, xl_47, xl_48, xl_50, xl_52, xl_57, xl_59, xl_60, xl_61, xl_62, xl_63, xl_64, xl_65, xl_66, xl_67, xl_68, xl_69, xl_70, xl_73, xl_75, xl_79, xl_83, xl_84, xl_90, xl_91, xl_93, xl_94, xl_97, xl_98, xl_99, xl_100, xl_101, xl_102, xl_103, xl_104, xl_105, xl_106, xl_107, xl_108, xl_109, xl_110, xl_111, xl_112, xl_113, xl_114, xl_115, xl_116, xl_117, xl_118, xl_119, xl_120, xl_121, xl_122, xl_130, xl_131, xl_132, xl_133, xl_134, xl_135, xl_140, xl_141, xl_142, xl_143, xl_145, xl_147, xl_150, xl_159, xl_160, xl_161, xl_162, xl_198, xl_208, xl_255, xl_256, xl_310, xl_365, xl_372, xl_400, xl_401, xl_420, xl_600, xl_628, xl_692, xl_728, xl_748, xl_820, xl_999, xl_1000, xl_1023, xl_1024, xl_1348, xl_1364, xl_1380, xl_1396, xl_1412, xl_2232, xl_9999, xl_10000, xl_16383, xl_20000, xl_20101, xl_20102, xl_20103, xl_65536, xl_1000000, xp_and, xp_or, xp_dfm, xp_k31, xp_shl, xp_shr, xp_tb1, xp_bz, xp_bo, xp_eq, xp_le, xp_ltI, xp_nm1, xp_nm2, xp_nm3, xp_nm4, xp_nm5, nI_add, pk_mul, pk_sub, xp_dv, xp_rem, Nat.zero_add, Nat.add_zero, Nat.not_lt_zero, Nat.zero_le, ne_eq, not_true_eq_false, not_false_eq_true, Nat.add_sub_cancel, Nat.mul_zero, cv_isPlace ha, cv_isPlace hp, e]; omega))); (focus (first | ((simp (implicitDefEqProofs := false) (disch := omega) only [↓xl_m1, ↓xl_m2, xl_0, xl_1, xl_2, xl_3, xl_4, xl_5, xl_6, xl_7, xl_8, xl_9, xl_10, xl_11, xl_12, xl_13, xl_14, xl_15, xl_16, xl_17, xl_18, xl_19, xl_20, xl_21, xl_22, xl_23, xl_24, xl_25, xl_26, xl_27, xl_28, xl_29, xl_30, xl_32, xl_33, xl_34, xl_35, xl_36, xl_37, xl_38, xl_39, xl_40, xl_41, xl_42, xl_43, xl_44, xl_45, xl_46, xl_47, xl_48, xl_50, xl_52, xl_57, xl_59, xl_60, xl_61, xl_62, xl_63, xl_64, xl_65, xl_66, xl_67, xl_68, xl_69, xl_70, xl_73, xl_75, xl_79, xl_83, xl_84, xl_90, xl_91, xl_93, xl_94, xl_97, xl_98, xl_99, xl_100, xl_101, xl_102, xl_103, xl_104, xl_105, xl_106, xl_107, xl_108, xl_109, xl_110, xl_111, xl_112, xl_113, xl_114, xl_115, xl_116, xl_117, xl_118, xl_119, xl_120, xl_121, xl_122, xl_130, xl_131, xl_132, xl_133, xl_134, xl_135, xl_140, xl_141, xl_142, xl_143, xl_145, xl_147, xl_150, xl_159, xl_160, xl_161, xl_162, xl_198, xl_208, xl_255, xl_256, xl_310, xl_365, xl_372, xl_400, xl_401, xl_420, xl_600, xl_628, xl_692, xl_728, xl_748, xl_820, xl_999, xl_1000, xl_1023, xl_1024, xl_1348, xl_1364, xl_1380, xl_1396, xl_1412, xl_2232, xl_9999, xl_10000, xl_16383, xl_20000, xl_20101, xl_20102, xl_20103, xl_65536, xl_1000000, xp_and, xp_or, xp_dfm, xp_k31, xp_shl, xp_shr, xp_tb1, xp_bz, xp_bo, xp_eq, xp_le, xp_ltI, xp_nm1, xp_nm2, xp_nm3, xp_nm4, xp_nm5, nI_add, pk_mul, pk_sub, xp_dv, xp_rem, Nat.zero_add, Nat.add_zero, Nat.not_lt_zero, Nat.zero_le, ne_eq, not_true_eq_false, not_false_eq_true, Nat.add_sub_cancel, Nat.mul_zero, cv_isPlace ha, cv_isPlace hp, e]); with_reducible rfl) | with_reducible rfl))) | ((with_reducible apply e_rem); (focus (first | omega | (simp (implicitDefEqProofs := false) (disch := omega) only [↓xl_m1, ↓xl_m2, xl_0, xl_1, xl_2, xl_3, xl_4, xl_5, xl_6, xl_7, xl_8, xl_9, xl_10, xl_11, xl_12, xl_13, xl_14, xl_15, xl_16, xl_17, xl_18, xl_19, xl_20, xl_21, xl_22, xl_23, xl_24, xl_25, xl_26, xl_27, xl_28, xl_29, xl_30, xl_32, xl_33, xl_34, xl_35, xl_36, xl_37, xl_38, xl_39, xl_40, xl_41, xl_42, xl_43, xl_44, xl_45, xl_46, xl_47, xl_48, xl_50, xl_52, xl_57, xl_59, xl_60, xl_61, xl_62, xl_63, xl_64, xl_65, xl_66, xl_67, xl_68, xl_69, xl_70, xl_73, xl_75, xl_79, xl_83, xl_84, xl_90, xl_91, xl_93, xl_94, xl_97, xl_98, xl_99, xl_100, xl_101, xl_102, xl_103, xl_104, xl_105, xl_106, xl_107, xl_108, xl_109, xl_110, xl_111, xl_112, xl_113, xl_114, xl_115, xl_116, xl_117, xl_118, xl_119, xl_120, xl_121, xl_122, xl_130, xl_131, xl_132, xl_133, xl_134, xl_135, xl_140, xl_141, xl_142, xl_143, xl_145, xl_147, xl_150, xl_159, xl_160, xl_161, xl_162, xl_198, xl_208, xl_255, xl_256, xl_310, xl_365, xl_372, xl_400, xl_401, xl_420, xl_600, xl_628, xl_692, xl_728, xl_748, xl_820, xl_999, xl_1000, xl_1023, xl_1024, xl_1348, xl_1364, xl_1380, xl_1396, xl_1412, xl_2232, xl_9999, xl_10000, xl_16383, xl_20000, xl_20101, xl_20102, xl_20103, xl_65536, xl_1000000, xp_and, xp_or, xp_dfm, xp_k31, xp_shl, xp_shr, xp_tb1, xp_bz, xp_bo, xp_eq, xp_le, xp_ltI, xp_nm1, xp_nm2, xp_nm3, xp_nm4, xp_nm5, nI_add, pk_mul, pk_sub, xp_dv, xp_rem, Nat.zero_add, Nat.add_zero, Nat.not_lt_zero, Nat.zero_le, ne_eq, not_true_eq_false, not_false_eq_true, Nat.add_sub_cancel, Nat.mul_zero, cv_isPlace ha, cv_isPlace hp, e]; done) | (simp (implicitDefEqProofs := false) (disch := omega) only [↓xl_m1, ↓xl_m2, xl_0, xl_1, xl_2, xl_3, xl_4, xl_5, xl_6, xl_7, xl_8, xl_9, xl_10, xl_11, xl_12, xl_13, xl_14, xl_15, xl_16, xl_17, xl_18, xl_19, xl_20, xl_21, xl_22, xl_23, xl_24, xl_25, xl_26, xl_27, xl_28, xl_29, xl_30, xl_32, xl_33, xl_34, xl_35, xl_36, xl_37, xl_38, xl_39, xl_40, xl_41, xl_42, xl_43, xl_44, xl_45, xl_46, xl_47, xl_48, xl_50, xl_52, xl_57, xl_59, xl_60, xl_61, xl_62, xl_63, xl_64, xl_65, xl_66, xl_67, xl_68, xl_69, xl_70, xl_73, xl_75, xl_79, xl_83, xl_84, xl_90, xl_91, xl_93, xl_94, xl_97, xl_98, xl_99, xl_100, xl_101, xl_102, xl_103, xl_104, xl_105, xl_106, xl_107, xl_108, xl_109, xl_110, xl_111, xl_112, xl_113, xl_114, xl_115, xl_116, xl_117, xl_118, xl_119, xl_120, xl_121, xl_122, xl_130, xl_131, xl_132, xl_133, xl_134, xl_135, xl_140, xl_141, xl_142, xl_143, xl_145, xl_147, xl_150, xl_159, xl_160, xl_161, xl_162, xl_198, xl_208, xl_255, xl_256, xl_310, xl_365, xl_372, xl_400, xl_401, xl_420, xl_600, xl_628, xl_692, xl_728, xl_748, xl_820, xl_999, xl_1000, xl_1023, xl_1024, xl_1348, xl_1364, xl_1380, xl_1396, xl_1412, xl_2232, xl_9999, xl_10000, xl_16383, xl_20000, xl_20101, xl_20102, xl_20103, xl_65536, xl_1000000, xp_and, xp_or, xp_dfm, xp_k31, xp_shl, xp_shr, xp_tb1, xp_bz, xp_bo, xp_eq, xp_le, xp_ltI, xp_nm1, xp_nm2, xp_nm3, xp_nm4, xp_nm5, nI_add, pk_mul, pk_sub, xp_dv, xp_rem, Nat.zero_add, Nat.add_zero, Nat.not_lt_zero, Nat.zero_le, ne_eq, not_true_eq_false, not_false_eq_true, Nat.add_sub_cancel, Nat.mul_zero, cv_isPlace ha, cv_isPlace hp, e]; omega))); (focus (first | ((simp (implicitDefEqProofs := false) (disch := omega) only [↓xl_m1, ↓xl_m2, xl_0, xl_1, xl_2, xl_3, xl_4, xl_5, xl_6, xl_7, xl_8, xl_9, xl_10, xl_11, xl_12, xl_13, xl_14, xl_15, xl_16, xl_17, xl_18, xl_19, xl_20, xl_21, xl_22, xl_23, xl_24, xl_25, xl_26, xl_27, xl_28, xl_29, xl_30, xl_32, xl_33, xl_34, xl_35, xl_36, xl_37, xl_38, xl_39, xl_40, xl_41, xl_42, xl_43, xl_44, xl_45, xl_46, xl_47, xl_48, xl_50, xl_52, xl_57, xl_59, xl_60, xl_61, xl_62, xl_63, xl_64, xl_65, xl_66, xl_67, xl_68, xl_69, xl_70, xl_73, xl_75, xl_79, xl_83, xl_84, xl_90, xl_91, xl_93, xl_94, xl_97, xl_98, xl_99, xl_100, xl_101, xl_102, xl_103, xl_104, xl_105, xl_106, xl_107, xl_108, xl_109, xl_110, xl_111, xl_112, xl_113, xl_114, xl_115, xl_116, xl_117, xl_118, xl_119, xl_120, xl_121, xl_122, xl_130, xl_131, xl_132, xl_133, xl_134, xl_135, xl_140, xl_141, xl_142, xl_143, xl_145, xl_147, xl_150, xl_159, xl_160, xl_161, xl_162, xl_198, xl_208, xl_255, xl_256, xl_310, xl_365, xl_372, xl_400, xl_401, xl_420, xl_600, xl_628, xl_692, xl_728, xl_748, xl_820, xl_999, xl_1000, xl_1023, xl_1024, xl_1348, xl_1364, xl_1380, xl_1396, xl_1412, xl_2232, xl_9999, xl_10000, xl_16383, xl_20000, xl_20101, xl_20102, xl_20103, xl_65536, xl_1000000, xp_and, xp_or, xp_dfm, xp_k31, xp_shl, xp_shr, xp_tb1, xp_bz, xp_bo, xp_eq, xp_le, xp_ltI, xp_nm1, xp_nm2, xp_nm3, xp_nm4, xp_nm5, nI_add, pk_mul, pk_sub, xp_dv, xp_rem, Nat.zero_add, Nat.add_zero, Nat.not_lt_zero, Nat.zero_le, ne_eq, not_true_eq_false, not_false_eq_true, Nat.add_sub_cancel, Nat.mul_zero, cv_isPlace ha, cv_isPlace hp, e]); with_reducible rfl) | with_reducible rfl))) | ((with_reducible apply e_mz); (focus (first | ((simp (implicitDefEqProofs := false) (disch := omega) only [↓xl_m1, ↓xl_m2, xl_0, xl_1, xl_2, xl_3, xl_4, xl_5, xl_6, xl_7, xl_8, xl_9, xl_10, xl_11, xl_12, xl_13, xl_14, xl_15, xl_16, xl_17, xl_18, xl_19, xl_20, xl_21, xl_22, xl_23, xl_24, xl_25, xl_26, xl_27, xl_28, xl_29, xl_30, xl_32, xl_33, xl_34, xl_35, xl_36, xl_37, xl_38, xl_39, xl_40, xl_41, xl_42, xl_43, xl_44, xl_45, xl_46, xl_47, xl_48, xl_50, xl_52, xl_57, xl_59, xl_60, xl_61, xl_62, xl_63, xl_64, xl_65, xl_66, xl_67, xl_68, xl_69, xl_70, xl_73, xl_75, xl_79, xl_83, xl_84, xl_90, xl_91, xl_93, xl_94, xl_97, xl_98, xl_99, xl_100, xl_101, xl_102, xl_103, xl_104, xl_105, xl_106, xl_107, xl_108, xl_109, xl_110, xl_111, xl_112, xl_113, xl_114, xl_115, xl_116, xl_117, xl_118, xl_119, xl_120, xl_121, xl_122, xl_130, xl_131, xl_132, xl_133, xl_134, xl_135, xl_140, xl_141, xl_142, xl_143, xl_145, xl_147, xl_150, xl_159, xl_160, xl_161, xl_162, xl_198, xl_208, xl_255, xl_256, xl_310, xl_365, xl_372, xl_400, xl_401, xl_420, xl_600, xl_628, xl_692, xl_728, xl_748, xl_820, xl_999, xl_1000, xl_1023, xl_1024, xl_1348, xl_1364, xl_1380, xl_1396, xl_1412, xl_2232, xl_9999, xl_10000, xl_16383, xl_20000, xl_20101, xl_20102, xl_20103, xl_65536, xl_1000000, xp_and, xp_or, xp_dfm, xp_k31, xp_shl, xp_shr, xp_tb1, xp_bz, xp_bo, xp_eq, xp_le, xp_ltI, xp_nm1, xp_nm2, xp_nm3, xp_nm4, xp_nm5, nI_add, pk_mul, pk_sub, xp_dv, xp_rem, Nat.zero_add, Nat.add_zero, Nat.not_lt_zero, Nat.zero_le, ne_eq, not_true_eq_false, not_false_eq_true, Nat.add_sub_cancel, Nat.mul_zero, cv_isPlace ha, cv_isPlace hp, e]); with_reducible rfl) | with_reducible rfl)); (focus (first | exact b_n0 | exact b_n1 | exact b_01 _))) | ((with_reducible apply e_ro); (focus (first | ((simp (implicitDefEqProofs := false) (disch := omega) only [↓xl_m1, ↓xl_m2, xl_0, xl_1, xl_2, xl_3, xl_4, xl_5, xl_6, xl_7, xl_8, xl_9, xl_10, xl_11, xl_12, xl_13, xl_14, xl_15, xl_16, xl_17, xl_18, xl_19, xl_20, xl_21, xl_22, xl_23, xl_24, xl_25, xl_26, xl_27, xl_28, xl_29, xl_30, xl_32, xl_33, xl_34, xl_35, xl_36, xl_37, xl_38, xl_39, xl_40, xl_41, xl_42, xl_43, xl_44, xl_45, xl_46, xl_47, xl_48, xl_50, xl_52, xl_57, xl_59, xl_60, xl_61, xl_62, xl_63, xl_64, xl_65, xl_66, xl_67, xl_68, xl_69, xl_70, xl_73, xl_75, xl_79, xl_83, xl_84, xl_90, xl_91, xl_93, xl_94, xl_97, xl_98, xl_99, xl_100, xl_101, xl_102, xl_103, xl_104, xl_105, xl_106, xl_107, xl_108, xl_109, xl_110, xl_111, xl_112, xl_113, xl_114, xl_115, xl_116, xl_117, xl_118, xl_119, xl_120, xl_121, xl_122, xl_130, xl_131, xl_132, xl_133, xl_134, xl_135, xl_140, xl_141, xl_142, xl_143, xl_145, xl_147, xl_150, xl_159, xl_160, xl_161, xl_162, xl_198, xl_208, xl_255, xl_256, xl_310, xl_365, xl_372, xl_400, xl_401, xl_420, xl_600, xl_628, xl_692, xl_728, xl_748, xl_820, xl_999, xl_1000, xl_1023, xl_1024, xl_1348, xl_1364, xl_1380, xl_1396, xl_1412, xl_2232, xl_9999, xl_10000, xl_16383, xl_20000, xl_20101, xl_20102, xl_20103, xl_65536, xl_1000000, xp_and, xp_or, xp_dfm, xp_k31, xp_shl, xp_shr, xp_tb1, xp_bz, xp_bo, xp_eq, xp_le, xp_ltI, xp_nm1, xp_nm2, xp_nm3, xp_nm4, xp_nm5, nI_add, pk_mul, pk_sub, xp_dv, xp_rem, Nat.zero_add, Nat.add_zero, Nat.not_lt_zero, Nat.zero_le, ne_eq, not_true_eq_false, not_false_eq_true, Nat.add_sub_cancel, Nat.mul_zero, cv_isPlace ha, cv_isPlace hp, e]); with_reducible rfl) | with_reducible rfl))))
  rfl
def vI (v : Nat → Nat) : Option Nat → Int32
  | none => mI
  | some j => nI (v j)
theorem cv_mt (h : xW fl b I w) (hN : 1000 ≤ N) : ∀ k M t a s d, sct s ≤ k → k + d ≤ 6 → k < M → a < 10 → s < 1024 → zX7_milesThrough N M t b (nI a) (nI s) (nI d) I = some (nI (mt w k a s)) := by
  intro k
  induction k with
  | zero =>
    intro M t a s d hc hd hM ha hs
    obtain ⟨M, rfl⟩ : ∃ m, M = m + 1 := ⟨M - 1, by omega⟩
    have h0 : s = 0 := by
      by_cases h0 : s = 0
      · exact h0
      · have := sct_pos (by omega) h0
        omega
    rw [h0]
    show gX7_milesThrough N (zX7_milesThrough N M 0) b I (nI a) (nI 0) (nI d) = some (nI 0)
    exact e_t rfl rfl
  | succ k ih =>
    intro M t a s d hc hd hM ha hs
    obtain ⟨M, rfl⟩ : ∃ m, M = m + 1 := ⟨M - 1, by omega⟩
    show gX7_milesThrough N (zX7_milesThrough N M 0) b I (nI a) (nI s) (nI d) = some (nI (mt w (k + 1) a s))
    by_cases h0 : s = 0
    · rw [h0, mt_zero]
      exact e_t rfl rfl
    · have hz : (nI s = (0 : Int32)) = (s = 0) := xp_eq (b := 0) (by omega) (by omega)
      refine e_f (by rw [hz]; exact h0) (e_t ?_ (e_lt rfl (e_lt rfl ?_)))
      · rw [show (6 : Int32) = nI 6 from rfl, xp_ltI (by omega) (by omega)]
        omega
      have key := xp_loop (fun fu i best => lX7_milesThrough_18 N (zX7_milesThrough N M 0) b I fu (nI a) (nI s) (nI d) (vI (fun p => mD w a p + mt w k p (xdf s (2 ^ p))) best) (nI i)) 10 (fun i best => if s.testBit i = true then (match best with
        | none => some i
        | some j => if (fun p => mD w a p + mt w k p (xdf s (2 ^ p))) i < (fun p => mD w a p + mt w k p (xdf s (2 ^ p))) j then some i else some j) else best) (fun best => some (vI (fun p => mD w a p + mt w k p (xdf s (2 ^ p))) best)) none (by
        intro fu
        show lX7_milesThrough_18 N (zX7_milesThrough N M 0) b I (fu + 1) _ _ _ _ _ = _
        rw [lX7_milesThrough_18, bX7_milesThrough_18]
        exact e_t (by decide) rfl) (by
        intro fu i hi
        have hsp := upN_spec (fun p => mD w a p + mt w k p (xdf s (2 ^ p))) s.testBit i
        show lX7_milesThrough_18 N (zX7_milesThrough N M 0) b I (fu + 1) _ _ _ (vI (fun p => mD w a p + mt w k p (xdf s (2 ^ p))) (upN (fun p => mD w a p + mt w k p (xdf s (2 ^ p))) s.testBit i)) _ = lX7_milesThrough_18 N (zX7_milesThrough N M 0) b I fu _ _ _ (vI (fun p => mD w a p + mt w k p (xdf s (2 ^ p))) (if s.testBit i = true then (match upN (fun p => mD w a p + mt w k p (xdf s (2 ^ p))) s.testBit i with
        | none => some i
        | some j => if (fun p => mD w a p + mt w k p (xdf s (2 ^ p))) i < (fun p => mD w a p + mt w k p (xdf s (2 ^ p))) j then some i else some j) else upN (fun p => mD w a p + mt w k p (xdf s (2 ^ p))) s.testBit i)) _
        have hii := cv_isIn (a := s) (k := i) (by omega) (by omega)
        have hmb := cv_milesBetween h ha hi
        have b1 := mD_lt h.i ha hi
        have b2 := mt_le h.i k i (xdf s (2 ^ i)) hi
        rw [lX7_milesThrough_18, bX7_milesThrough_18]
        refine e_f (by rw [show (10 : Int32) = nI 10 from rfl, xp_le (by omega) (by omega)]; omega) (e_cr hii ?_)
        cases hb : s.testBit i with
        | false =>
          rw [if_neg (show ¬ false = true from fun z => by cases z)]
          refine e_t rfl ?_
          rw [bX7_milesThrough_81]
          exact e_lt (nI_add i 1) rfl
        | true =>
          have hx1 := xdf_le s (2 ^ i)
          have hx2 := sct_xdf (p := i) (by omega) hb
          have hr := ih M 0 i (xdf s (2 ^ i)) (d + 1) (by omega) (by omega) (by omega) hi (by omega)
          rw [if_pos (show true = true from rfl)]
          refine e_f (by decide) (e_cr hmb (e_cr (v := nI (mt w k i (xdf s (2 ^ i)))) ?_ (e_lt (nI_add _ _) ?_)))
          · rw [show (-1 : Int32) = mI from rfl, show (31 : Int32) = nI 31 from rfl, show (1 : Int32) = nI 1 from rfl, xp_bs (by omega), xp_dfm, nI_add]
            exact hr
          · cases hq : upN (fun p => mD w a p + mt w k p (xdf s (2 ^ p))) s.testBit i with
            | none => exact e_f (fun z => z rfl) (e_lt rfl (e_lt (nI_add i 1) rfl))
            | some j =>
              rw [hq] at hsp
              have hj := hsp.1
              have c1 := mD_lt h.i ha (p := j) (by omega)
              have c2 := mt_le h.i k j (xdf s (2 ^ j)) (by omega)
              refine e_t ?_ (e_lt (v := vI (fun p => mD w a p + mt w k p (xdf s (2 ^ p))) (if mD w a i + mt w k i (xdf s (2 ^ i)) < mD w a j + mt w k j (xdf s (2 ^ j)) then some i else some j)) ?_ (e_lt rfl (e_lt (nI_add i 1) rfl)))
              · show nI (mD w a j + mt w k j (xdf s (2 ^ j))) ≠ mI
                rw [ne_eq, xp_nm1 (by omega)]
                exact fun z => z
              · have e : (nI (mD w a i + mt w k i (xdf s (2 ^ i))) < nI (mD w a j + mt w k j (xdf s (2 ^ j)))) = (mD w a i + mt w k i (xdf s (2 ^ i)) < mD w a j + mt w k j (xdf s (2 ^ j))) := xp_ltI (by omega) (by omega)
                show (if nI (mD w a i + mt w k i (xdf s (2 ^ i))) < nI (mD w a j + mt w k j (xdf s (2 ^ j))) then nI (mD w a i + mt w k i (xdf s (2 ^ i))) else nI (mD w a j + mt w k j (xdf s (2 ^ j)))) = _
                by_cases hlt : mD w a i + mt w k i (xdf s (2 ^ i)) < mD w a j + mt w k j (xdf s (2 ^ j))
                · rw [if_pos (by rw [e]; exact hlt), show (if mD w a i + mt w k i (xdf s (2 ^ i)) < mD w a j + mt w k j (xdf s (2 ^ j)) then some i else some j) = some i from if_pos hlt]
                  rfl
                · rw [if_neg (by rw [e]; exact hlt), show (if mD w a i + mt w k i (xdf s (2 ^ i)) < mD w a j + mt w k j (xdf s (2 ^ j)) then some i else some j) = some j from if_neg hlt]
                  rfl) N (by omega)
      refine key.trans ?_
      show some (vI (fun p => mD w a p + mt w k p (xdf s (2 ^ p))) (upN (fun p => mD w a p + mt w k p (xdf s (2 ^ p))) s.testBit 10)) = some (nI (match upN (fun p => mD w a p + mt w k p (xdf s (2 ^ p))) s.testBit 10 with
        | none => 0
        | some f => mD w a f + mt w k f (xdf s (2 ^ f))))
      cases hq : upN (fun p => mD w a p + mt w k p (xdf s (2 ^ p))) s.testBit 10 with
      | none => exact absurd ((up_none hs).mp hq) h0
      | some f => rfl
theorem cv_mt0 (h : xW fl b I w) (hN : 1000 ≤ N) {M a s : Nat} (hM : 6 < M) (hc : sct s ≤ 6) (ha : a < 10) (hs : s < 1024) : fX7_milesThrough N M b I (nI a) (nI s) 0 = some (nI (mt w 6 a s)) := cv_mt h hN 6 M 0 a s 0 hc (by omega) hM ha hs
theorem cv_firstOn (h : xW fl b I w) (hN : 1000 ≤ N) {M a s f : Nat} (hM : 6 < M) (hc : sct s ≤ 6) (ha : a < 10) (hs : s < 1024) (hf : fo w a s = some f) : fX7_firstOnRound N M b I (nI a) (nI s) = some (nI f) := by
  have h0 : s ≠ 0 := by
    intro z
    have := (up_none (ct := vV w a s) hs).mpr z
    rw [show fo w a s = upN (vV w a s) s.testBit 10 from rfl, this] at hf
    cases hf
  have hmf := mt_fo w (a := a) hs hc
  rw [hf] at hmf
  replace hmf : mt w 6 a s = vV w a s f := hmf
  obtain ⟨f', g1, g2, g3, g4⟩ := fo_some w (a := a) hs h0
  rw [hf] at g1
  cases g1
  unfold fX7_firstOnRound
  refine e_cr (cv_mt0 h hN hM hc ha hs) (e_lt rfl (e_lt rfl ?_))
  have key := xp_find (fun fu i => lX7_firstOnRound_11 N M b I fu (nI a) (nI s) (nI (mt w 6 a s)) (nI i)) (fun i => s.testBit i && decide (vV w a s i = mt w 6 a s)) 10 (fun i => some (nI i)) (some mI) (by
    intro fu
    show lX7_firstOnRound_11 N M b I (fu + 1) _ _ _ _ = _
    rw [lX7_firstOnRound_11, bX7_firstOnRound_11]
    exact e_t (by decide) rfl) (by
    intro fu i hi hp
    have hii := cv_isIn (a := s) (k := i) (by omega) (by omega)
    have hmb := cv_milesBetween h ha hi
    have b1 := mD_lt h.i ha hi
    have b2 := mt_le h.i 6 i (xdf s (2 ^ i)) hi
    have b3 := mt_le h.i 6 a s ha
    show lX7_firstOnRound_11 N M b I (fu + 1) _ _ _ _ = _
    rw [lX7_firstOnRound_11, bX7_firstOnRound_11]
    refine e_f (by rw [show (10 : Int32) = nI 10 from rfl, xp_le (by omega) (by omega)]; omega) (e_cr hii ?_)
    cases hb : s.testBit i with
    | false =>
      refine e_t rfl ?_
      rw [bX7_firstOnRound_57]
      exact e_lt (nI_add i 1) rfl
    | true =>
      rw [hb, Bool.true_and] at hp
      have hne := of_decide_eq_false hp
      have hx1 := xdf_le s (2 ^ i)
      have hx2 := sct_xdf (p := i) (by omega) hb
      have hr := cv_mt0 (N := N) h hN (M := M) (a := i) (s := xdf s (2 ^ i)) hM (by omega) hi (by omega)
      refine e_f (by decide) (e_cr hmb (e_cr (v := nI (mt w 6 i (xdf s (2 ^ i)))) ?_ (e_t ?_ ?_)))
      · rw [show (-1 : Int32) = mI from rfl, show (31 : Int32) = nI 31 from rfl, show (1 : Int32) = nI 1 from rfl, xp_bs (by omega), xp_dfm]
        exact hr
      · rw [nI_add, ne_eq, xp_eq (by omega) (by omega)]
        exact hne
      · rw [bX7_firstOnRound_57]
        exact e_lt (nI_add i 1) rfl) (by
    intro fu i hi hp
    have hii := cv_isIn (a := s) (k := i) (by omega) (by omega)
    have hmb := cv_milesBetween h ha hi
    rw [Bool.and_eq_true] at hp
    have hb := hp.1
    have he := of_decide_eq_true hp.2
    have hx1 := xdf_le s (2 ^ i)
    have hx2 := sct_xdf (p := i) (by omega) hb
    have hr := cv_mt0 (N := N) h hN (M := M) (a := i) (s := xdf s (2 ^ i)) hM (by omega) hi (by omega)
    rw [hb] at hii
    show lX7_firstOnRound_11 N M b I (fu + 1) _ _ _ _ = _
    rw [lX7_firstOnRound_11, bX7_firstOnRound_11]
    refine e_f (by rw [show (10 : Int32) = nI 10 from rfl, xp_le (by omega) (by omega)]; omega) (e_cr hii (e_f (by decide) (e_cr hmb (e_cr (v := nI (mt w 6 i (xdf s (2 ^ i)))) ?_ (e_f ?_ rfl)))))
    · rw [show (-1 : Int32) = mI from rfl, show (31 : Int32) = nI 31 from rfl, show (1 : Int32) = nI 1 from rfl, xp_bs (by omega), xp_dfm]
      exact hr
    · rw [nI_add]
      intro z
      exact z (congrArg nI he)) N (by omega)
  refine key.trans ?_
  have hsp := fstP_spec (fun i => s.testBit i && decide (vV w a s i = mt w 6 a s)) 10
  have hPf : (s.testBit f && decide (vV w a s f = mt w 6 a s)) = true := by
    rw [g3, decide_eq_true hmf.symm]
    rfl
  cases hq : fstP (fun i => s.testBit i && decide (vV w a s i = mt w 6 a s)) 10 with
  | none =>
    rw [hq] at hsp
    have := hsp f g2
    rw [hPf] at this
    cases this
  | some j =>
    rw [hq] at hsp
    obtain ⟨j1, j2, j3⟩ := hsp
    rw [Bool.and_eq_true] at j2
    have e2 := of_decide_eq_true j2.2
    have e3 := g4 j j1 j2.1
    have e4 : ¬ f < j := fun z => by have := j3 f z; rw [hPf] at this; cases this
    have e5 : j = f := by omega
    rw [e5]
def psQ (w : Nat → Int32) (s n : Nat) (x : Nat × Nat) : Prop := x.1 < 10 ∧ x.2 ≤ s ∧ sct x.2 + n = sct s
theorem ps_q (w : Nat → Int32) {a s : Nat} (ha : a < 10) (hs : s < 1024) : ∀ n, n ≤ sct s → psQ w s n (psS w a s n) := by
  intro n
  induction n with
  | zero => exact fun _ => ⟨ha, Nat.le_refl _, rfl⟩
  | succ n ih =>
    intro hn
    obtain ⟨q1, q2, q3⟩ := ih (by omega)
    show psQ w s (n + 1) (stp w (psS w a s n))
    generalize psS w a s n = x at q1 q2 q3
    have hx0 : x.2 ≠ 0 := by
      intro z
      rw [z, show sct 0 = 0 by decide] at q3
      omega
    obtain ⟨f, f1, f2, f3, f4⟩ := fo_some w (a := x.1) (s := x.2) (by omega) hx0
    unfold stp
    rw [f1]
    have h1 := xdf_le x.2 (2 ^ f)
    have h2 := sct_xdf (by omega) f3
    refine ⟨f2, ?_, ?_⟩
    · show xdf x.2 (2 ^ f) ≤ s
      omega
    · show sct (xdf x.2 (2 ^ f)) + (n + 1) = sct s
      omega
theorem cv_placeOn (h : xW fl b I w) (hN : 1000 ≤ N) {M a s i : Nat} (hM : 6 < M) (hc : sct s ≤ 6) (ha : a < 10) (hs : s < 1024) (hi : i < sct s) : fX7_placeOnRound N M b I (nI a) (nI s) (nI i) = some (nI (psS w a s (i + 1)).1) := by
  unfold fX7_placeOnRound
  refine e_lt rfl (e_lt rfl (e_lt rfl ?_))
  refine xp_loop (fun fu j x => lX7_placeOnRound_9 N M b I fu (nI i) (nI x.1) (nI x.2) (nI j)) (i + 1) (fun _ x => stp w x) (fun x => some (nI x.1)) (a, s) ?_ ?_ N (by omega)
  · intro fu
    show lX7_placeOnRound_9 N M b I (fu + 1) _ _ _ _ = _
    rw [lX7_placeOnRound_9, bX7_placeOnRound_9]
    exact e_t (by rw [xp_ltI (by omega) (by omega)]; omega) rfl
  · intro fu j hj
    obtain ⟨q1, q2, q3⟩ := ps_q w ha hs j (by omega)
    show lX7_placeOnRound_9 N M b I (fu + 1) _ (nI (psS w a s j).1) (nI (psS w a s j).2) _ = lX7_placeOnRound_9 N M b I fu _ (nI (stp w (psS w a s j)).1) (nI (stp w (psS w a s j)).2) _
    generalize psS w a s j = x at q1 q2 q3
    have hx0 : x.2 ≠ 0 := by
      intro z
      rw [z, show sct 0 = 0 by decide] at q3
      omega
    obtain ⟨f, f1, f2, f3, f4⟩ := fo_some w (a := x.1) (s := x.2) (by omega) hx0
    have hst : stp w x = (f, xdf x.2 (2 ^ f)) := by
      unfold stp
      rw [f1]
    rw [hst]
    have hfi := cv_firstOn (N := N) h hN (M := M) hM (show sct x.2 ≤ 6 by omega) q1 (by omega) f1
    rw [lX7_placeOnRound_9, bX7_placeOnRound_9]
    refine e_f (by rw [xp_ltI (by omega) (by omega)]; omega) (e_f (by rw [show (6 : Int32) = nI 6 from rfl, xp_le (by omega) (by omega)]; omega) (e_f ?_ (e_cr hfi (e_lt rfl (e_t ?_ (e_lt rfl (e_lt (v := nI (xdf x.2 (2 ^ f))) ?_ (e_lt (nI_add j 1) rfl))))))))
    · rw [show (0 : Int32) = nI 0 from rfl, xp_eq (by omega) (by omega)]
      exact hx0
    · show nI f ≠ mI
      rw [ne_eq, xp_nm1 (by omega)]
      exact fun z => z
    · rw [show (-1 : Int32) = mI from rfl, show (31 : Int32) = nI 31 from rfl, show (1 : Int32) = nI 1 from rfl, xp_bs (by omega), xp_dfm]
end
