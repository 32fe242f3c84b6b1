-- ===== what is told: by the row =====
section
variable {I J : xc_M} {k p a b m N n : Nat} {R : Nat → Nat → Int32}
theorem RR_pa (h : RR I J) : ∃ n, PA J n (bRow J) := by
  obtain ⟨n, l, p1, p2, p3, p4, p5, p6⟩ := h.2.2.1
  exact ⟨n, p1, p4, fun _ _ _ _ => rfl⟩
theorem PA.zero (h : J 0 4 = nI 0) (R : Nat → Nat → Int32) : PA J 0 R := ⟨by omega, h, fun t ht => absurd ht (by omega)⟩
theorem c_set0 (h : RR I J) (v1 v2 v3 : Int32) (q : fX10_set v1 v2 v3 J = some (0, J)) : ∃ I2, fX9_set v1 v2 v3 I = some (0, I2) ∧ RR I2 J := by
  obtain ⟨v, I2, J2, g1, g2, g3⟩ := set_both h v1 v2 v3
  obtain ⟨r1, r2⟩ := some_det2 g2 q
  subst r1 r2
  exact ⟨I2, g1, g3⟩
theorem c_setR (h : RR I J) (v1 v2 v3 : Int32) {j : Nat} {v : Int32} (hj : j ≠ 0 ∨ j = 0) (q : fX10_set v1 v2 v3 J = some (1, xc_wr (xc_wr J 1 j v) 0 4 (nI 0))) : ∃ I2 J2, fX9_set v1 v2 v3 I = some (1, I2) ∧ RR I2 J2 ∧ J2 1 = upd (J 1) j v ∧ J2 0 4 = nI 0 ∧ J2 0 18 = J 0 18 := by
  obtain ⟨v', I2, J2, g1, g2, g3⟩ := set_both h v1 v2 v3
  obtain ⟨r1, r2⟩ := some_det2 g2 q
  subst r1
  refine ⟨I2, J2, g1, g3, ?_, ?_, ?_⟩
  · rw [r2, xp_wr_cell (by omega), wr_updJ]
  · rw [r2, xp_wr_s]
  · rw [r2, xp_wr_k (by omega)]
    simp only [xp_wr_cell (show (0 : Nat) ≠ 1 by omega)]
theorem c_set_c (h : RR I J) (v2 : Int32) (hm : m < 1001) : ∃ I2 J2, fX9_set 0 v2 (nI m) I = some (1, I2) ∧ RR I2 J2 ∧ J2 1 = upd (J 1) 64 (nI m) ∧ J2 0 4 = nI 0 ∧ J2 0 18 = J 0 18 := by
  refine c_setR h _ _ _ (by omega) ?_
  unfold fX10_set
  refine e_t rfl (e_cr (rv_isIn_t (k := m) (n := 1000) (by omega) (by omega)) (e_t (by decide) ?_))
  exact e_st (k := 64) rfl (by omega) rfl rfl
theorem c_set_c0 (h : RR I J) (v2 : Int32) (hm : 1001 ≤ m) (hm2 : m < 2 ^ 30) : ∃ I2, fX9_set 0 v2 (nI m) I = some (0, I2) ∧ RR I2 J := by
  refine c_set0 h _ _ _ ?_
  unfold fX10_set
  exact e_t rfl (e_cr (rv_isIn_o (n := 1000) (Or.inr (by rw [nI_leI (by omega) (by omega)]; omega)) (by omega)) (e_f (fun z => z rfl) rfl))
theorem c_set_p (h : RR I J) (hp : p < xr (J 1) 63) (hm : m < 100) : ∃ I2 J2, fX9_set 1 (nI p) (nI m) I = some (1, I2) ∧ RR I2 J2 ∧ J2 1 = upd (J 1) (52 + p) (nI m) ∧ J2 0 4 = nI 0 ∧ J2 0 18 = J 0 18 := by
  have hw := h.1.i
  have hP := hw.nPB
  refine c_setR h _ _ _ (by omega) ?_
  unfold fX10_set
  exact e_f (by decide) (e_t rfl (e_cr (rv_isPerson_t hw hp) (e_f (by decide) (e_cr (rv_isIn_t (k := m) (n := 99) (by omega) (by omega)) (e_t (by decide) (e_st (k := 52 + p) (nI_add 52 p) (by omega) rfl rfl))))))
theorem c_set_p0 (h : RR I J) (hp : p < 2 ^ 30) (hm : m < 2 ^ 30) (hc : ¬ (p < xr (J 1) 63 ∧ m < 100)) : ∃ I2, fX9_set 1 (nI p) (nI m) I = some (0, I2) ∧ RR I2 J := by
  have hw := h.1.i
  have hP := hw.nPB
  refine c_set0 h _ _ _ ?_
  unfold fX10_set
  refine e_f (by decide) (e_t rfl ?_)
  by_cases c1 : p < xr (J 1) 63
  · exact e_cr (rv_isPerson_t hw c1) (e_f (by decide) (e_cr (rv_isIn_o (n := 99) (Or.inr (by rw [nI_leI (by omega) (by omega)]; omega)) (by omega)) (e_f (fun z => z rfl) rfl)))
  · exact e_cr (rv_isPerson_o hw (oN_of c1 (by omega) (by omega))) (e_t rfl rfl)
theorem c_set_w (h : RR I J) (hk : k < xr (J 1) 62) (hm : m < 10000) : ∃ I2 J2, fX9_set 2 (nI k) (nI m) I = some (1, I2) ∧ RR I2 J2 ∧ J2 1 = upd (J 1) (4 + k) (nI m) ∧ J2 0 4 = nI 0 ∧ J2 0 18 = J 0 18 := by
  have hw := h.1.i
  have hW := hw.nWB
  refine c_setR h _ _ _ (by omega) ?_
  unfold fX10_set
  exact e_f (by decide) (e_f (by decide) (e_t rfl (e_cr (rv_isWord_t hw hk) (e_f (by decide) (e_cr (rv_isIn_t (k := m) (n := 9999) (by omega) (by omega)) (e_t (by decide) (e_st (k := 4 + k) (nI_add 4 k) (by omega) rfl rfl)))))))
theorem c_set_w0 (h : RR I J) (v3 : Int32) (hk : k < 2 ^ 30) (hc : ¬ k < xr (J 1) 62) : ∃ I2, fX9_set 2 (nI k) v3 I = some (0, I2) ∧ RR I2 J := by
  have hw := h.1.i
  have hW := hw.nWB
  refine c_set0 h _ _ _ ?_
  unfold fX10_set
  exact e_f (by decide) (e_f (by decide) (e_t rfl (e_cr (rv_isWord_o hw (oN_of hc (by omega) (by omega))) (e_t rfl rfl))))
theorem c_set_n (h : RR I J) (v2 v3 : Int32) (hm : 3 ≤ m) (hm2 : m < 100) : ∃ I2, fX9_set (nI m) v2 v3 I = some (0, I2) ∧ RR I2 J := by
  refine c_set0 h _ _ _ ?_
  have ne : ∀ q, q < 3 → ¬ nI m = nI q := fun q hq z => by
    have := (nI_eq (by omega) (by omega)).mp z
    omega
  unfold fX10_set
  exact e_f (ne 0 (by omega)) (e_f (ne 1 (by omega)) (e_f (ne 2 (by omega)) rfl))
-- word, person, kin, miles, state
def wdW (w : Nat → Int32) (k m : Nat) : Nat → Int32 := upd (upd (upd (upd (upd w (70 + k) (nI m)) (4 + k) (nI 0)) (18 + k) (nI 0)) (84 + k) (nI 0)) 62 (nI (k + 1))
def peW (w : Nat → Int32) (k m : Nat) : Nat → Int32 := upd (upd (upd (upd w (32 + k) (nI m)) (42 + k) (nI 0)) (52 + k) (nI 50)) 63 (nI (k + 1))
theorem c_word (h : RR I J) (h14 : xr (J 1) 62 < 14) (h1 : 1 ≤ m) (h20 : m ≤ 20) : ∃ I2 J2, fX9_word (nI m) I = some (nI (xr (J 1) 62), I2) ∧ RR I2 J2 ∧ J2 1 = wdW (J 1) (xr (J 1) 62) m ∧ J2 0 4 = nI 0 ∧ J2 0 18 = J 0 18 := by
  have n2 := h.1.i.nW
  have hin : fX10_isIn (nI m) (nI 1) (nI 20) = some (nI 1) := by
    have := rv_isIn (v := m) (a := 1) (c := 20) (by omega) (by omega) (by omega)
    rw [decide_eq_true (show 1 ≤ m ∧ m ≤ 20 by omega)] at this
    exact this
  obtain ⟨v, I2, J2, g1, g2, g3⟩ := word_both h (nI m)
  generalize hk : xr (J 1) 62 = k at n2 h14
  have q : fX10_word (nI m) J = some (nI k, xc_wr (xc_wr (xc_wr (xc_wr (xc_wr (xc_wr J 1 (70 + k) (nI m)) 1 (4 + k) (nI 0)) 1 (18 + k) (nI 0)) 1 (84 + k) (nI 0)) 1 62 (nI (k + 1))) 0 4 (nI 0)) := by
    unfold fX10_word
    refine e_cr hin (e_f (by decide) (e_rd (k := 62) rfl (by omega) n2 (e_t ?_ (e_rd (k := 62) rfl (by omega) n2 (e_lt rfl (e_st (k := 70 + k) (nI_add 70 k) (by omega) rfl (e_st (k := 4 + k) (nI_add 4 k) (by omega) (v := nI 0) rfl (e_st (k := 18 + k) (nI_add 18 k) (by omega) (v := nI 0) rfl (e_st (k := 84 + k) (nI_add 84 k) (by omega) (v := nI 0) rfl (e_rd (k := 62) rfl (by omega) (v := nI k) ?_ (e_st (k := 62) rfl (by omega) (v := nI (k + 1)) (nI_add k 1) rfl)))))))))))
    · rw [show (14 : Int32) = nI 14 from rfl, ne_eq, xp_eq (by omega) (by omega)]
      omega
    · rw [xp_wr_k (by omega), xp_wr_k (by omega), xp_wr_k (by omega), xp_wr_k (by omega)]
      exact n2
  obtain ⟨r1, r2⟩ := some_det2 g2 q
  subst r1
  refine ⟨I2, J2, g1, g3, ?_, ?_, ?_⟩
  · rw [r2, xp_wr_cell (by omega), wr_updJ, wr_updJ, wr_updJ, wr_updJ, wr_updJ]
    rfl
  · rw [r2, xp_wr_s]
  · rw [r2, xp_wr_k (by omega)]
    simp only [xp_wr_cell (show (0 : Nat) ≠ 1 by omega)]
theorem c_word0 (h : RR I J) (v : Int32) (hv : v < 1 ∨ 20 < v) : ∃ I2, fX9_word v I = some (-1, I2) ∧ RR I2 J := by
  obtain ⟨v', I2, J2, g1, g2, g3⟩ := word_both h v
  have hin : fX10_isIn v 1 20 = some (nI 0) := by
    unfold fX10_isIn
    by_cases h1 : v < 1
    · exact e_t h1 rfl
    · exact e_f h1 (e_t (hv.resolve_left h1) rfl)
  have q : fX10_word v J = some (-1, J) := by
    unfold fX10_word
    exact e_cr hin (e_t rfl rfl)
  obtain ⟨r1, r2⟩ := some_det2 g2 q
  subst r1 r2
  exact ⟨I2, g1, g3⟩
theorem c_person (h : RR I J) (h10 : xr (J 1) 63 < 10) (hm : m < 10) : ∃ I2 J2, fX9_person (nI m) I = some (nI (xr (J 1) 63), I2) ∧ RR I2 J2 ∧ J2 1 = peW (J 1) (xr (J 1) 63) m ∧ J2 0 4 = nI 0 ∧ J2 0 18 = J 0 18 := by
  have n2 := h.1.i.nP
  obtain ⟨v, I2, J2, g1, g2, g3⟩ := person_both h (nI m)
  generalize hk : xr (J 1) 63 = k at n2 h10
  have q : fX10_person (nI m) J = some (nI k, xc_wr (xc_wr (xc_wr (xc_wr (xc_wr J 1 (32 + k) (nI m)) 1 (42 + k) (nI 0)) 1 (52 + k) (nI 50)) 1 63 (nI (k + 1))) 0 4 (nI 0)) := by
    unfold fX10_person
    refine e_cr (rv_isPlace_t hm) (e_f (by decide) (e_rd (k := 63) rfl (by omega) n2 (e_t ?_ (e_rd (k := 63) rfl (by omega) n2 (e_lt rfl (e_st (k := 32 + k) (nI_add 32 k) (by omega) rfl (e_st (k := 42 + k) (nI_add 42 k) (by omega) (v := nI 0) rfl (e_st (k := 52 + k) (nI_add 52 k) (by omega) (v := nI 50) rfl (e_rd (k := 63) rfl (by omega) (v := nI k) ?_ (e_st (k := 63) rfl (by omega) (v := nI (k + 1)) (nI_add k 1) rfl))))))))))
    · rw [show (10 : Int32) = nI 10 from rfl, ne_eq, xp_eq (by omega) (by omega)]
      omega
    · rw [xp_wr_k (by omega), xp_wr_k (by omega), xp_wr_k (by omega)]
      exact n2
  obtain ⟨r1, r2⟩ := some_det2 g2 q
  subst r1
  refine ⟨I2, J2, g1, g3, ?_, ?_, ?_⟩
  · rw [r2, xp_wr_cell (by omega), wr_updJ, wr_updJ, wr_updJ, wr_updJ]
    rfl
  · rw [r2, xp_wr_s]
  · rw [r2, xp_wr_k (by omega)]
    simp only [xp_wr_cell (show (0 : Nat) ≠ 1 by omega)]
theorem c_person0 (h : RR I J) (v : Int32) (hv : oN v 10) : ∃ I2, fX9_person v I = some (-1, I2) ∧ RR I2 J := by
  obtain ⟨v', I2, J2, g1, g2, g3⟩ := person_both h v
  have q : fX10_person v J = some (-1, J) := by
    unfold fX10_person
    exact e_cr (rv_isPlace_o hv) (e_t rfl rfl)
  obtain ⟨r1, r2⟩ := some_det2 g2 q
  subst r1 r2
  exact ⟨I2, g1, g3⟩
def kiW (w : Nat → Int32) (a b : Nat) : Nat → Int32 := upd (upd w (84 + a) (nI (xr w (84 + a) ||| 2 ^ b))) (84 + b) (nI (xr w (84 + b) ||| 2 ^ a))
theorem c_kin0 (h : RR I J) (v1 v2 v3 : Int32) (hc : v1 = v2 ∨ oN v1 (xr (J 1) 62)) : ∃ I2, fX9_kin v1 v2 v3 I = some (0, I2) ∧ RR I2 J := by
  have hw := h.1.i
  have hW := hw.nWB
  obtain ⟨v', I2, J2, g1, g2, g3⟩ := kin_both h v1 v2 v3
  have q : fX10_kin v1 v2 v3 J = some (0, J) := by
    unfold fX10_kin
    rcases oN_or v1 (n := xr (J 1) 62) (by omega) with ho | ⟨a, ha, rfl⟩
    · exact e_cr (rv_isWord_o hw ho) (e_t rfl rfl)
    · refine e_cr (rv_isWord_t hw ha) (e_f (by decide) ?_)
      have e : nI a = v2 := by
        rcases hc with hc | hc | hc
        · exact hc
        · exact absurd hc (nI_pos (by omega))
        · exact absurd hc (by rw [nI_leI (by omega) (by omega)]; omega)
      subst e
      exact e_cr (rv_isWord_t hw ha) (e_f (by decide) (e_f (fun z => z rfl) rfl))
  obtain ⟨r1, r2⟩ := some_det2 g2 q
  subst r1 r2
  exact ⟨I2, g1, g3⟩
theorem c_kin (h : RR I J) (ha : a < xr (J 1) 62) (hb : b < xr (J 1) 62) (hne : a ≠ b) : ∃ I2 J2, fX9_kin (nI a) (nI b) 1 I = some (1, I2) ∧ RR I2 J2 ∧ J2 1 = kiW (J 1) a b ∧ J2 0 4 = nI 0 ∧ J2 0 18 = J 0 18 := by
  have hw := h.1.i
  have hW := hw.nWB
  obtain ⟨v', I2, J2, g1, g2, g3⟩ := kin_both h (nI a) (nI b) 1
  have ja := hw.kin (k := a) (by omega)
  have jc := hw.kin (k := b) (by omega)
  have h0' : ((1 : Int32) = nI 0) = False := eq_false (by decide)
  have hne' : nI a ≠ nI b := fun z => hne ((nI_eq (by omega) (by omega)).mp z)
  have q : fX10_kin (nI a) (nI b) 1 J = some (1, xc_wr (xc_wr (xc_wr J 1 (84 + a) (nI (xr (J 1) (84 + a) ||| 2 ^ b))) 1 (84 + b) (nI (xr (J 1) (84 + b) ||| 2 ^ a))) 0 4 (nI 0)) := by
    unfold fX10_kin
    refine e_cr (rv_isWord_t hw ha) (e_f (by decide) (e_cr (rv_isWord_t hw hb) (e_f (by decide) (e_t hne' ?_))))
    repeat (first | ((with_reducible apply e_lt); (focus (first | ((simp (implicitDefEqProofs := false) (disch := omega) only [↓xl_m1, ↓xl_m2, xl_0, xl_1, xl_2, xl_3, xl_4, xl_5, xl_6, xl_7, xl_8, xl_9, xl_10, xl_11, xl_12, xl_13, xl_14, xl_15, xl_16, xl_17, xl_18, xl_19, xl_20, xl_21, xl_22, xl_23, xl_24, xl_25, xl_26, xl_27, xl_28, xl_29, xl_30, xl_32, xl_33, xl_34, xl_35, xl_36, xl_37, xl_38, xl_39, xl_40, xl_41, xl_42, xl_43, xl_44, xl_45, xl_46, xl_47, xl_48, xl_50, xl_52, xl_57, xl_59, xl_60, xl_61, xl_62, xl_63, xl_64, xl_65, xl_66, xl_67, xl_68, xl_69, xl_70, xl_73, xl_75, xl_79, xl_83, xl_84, xl_90, xl_91, xl_93, xl_94, xl_97, xl_98, xl_99, xl_100, xl_101, xl_102, xl_103, xl_104, xl_105, xl_106, xl_107, xl_108, xl_109, xl_110, xl_111, xl_112, xl_113, xl_114, xl_115, xl_116, xl_117, xl_118, xl_119, xl_120, xl_121, xl_122, xl_130, xl_131, xl_132, xl_133, xl_134, xl_135, xl_140, xl_141, xl_142, xl_143, xl_145, xl_147, xl_150, xl_159, xl_160, xl_161, xl_162, xl_198, xl_208, xl_255, xl_256, xl_310, xl_365, xl_372, xl_400, xl_401, xl_420, xl_600, xl_628, xl_692, xl_728, xl_748, xl_820, xl_999, xl_1000, xl_1023, xl_1024, xl_1348, xl_1364, xl_1380, xl_1396, xl_1412, xl_2232, xl_9999, xl_10000, xl_16383, xl_20000, xl_20101, xl_20102, xl_20103, xl_65536, xl_1000000, xp_and, xp_or, xp_dfm, xp_k31, xp_shl, xp_shr, xp_tb1, xp_bz, xp_bo, xp_eq, xp_le, xp_ltI, xp_nm1, xp_nm2, xp_nm3, xp_nm4, xp_nm5, nI_add, pk_mul, pk_sub, xp_dv, xp_rem, Nat.zero_add, Nat.add_zero, Nat.not_lt_zero, Nat.zero_le, ne_eq, not_true_eq_false, not_false_eq_true, Nat.add_sub_cancel, Nat.mul_zero, h0', ja, jc, xp_wr_k, rv_forgets]); with_reducible rfl) | with_reducible rfl))) | ((with_reducible apply e_rd); (focus (first | ((simp (implicitDefEqProofs := false) (disch := omega) only [↓xl_m1, ↓xl_m2, xl_0, xl_1, xl_2, xl_3, xl_4, xl_5, xl_6, xl_7, xl_8, xl_9, xl_10, xl_11, xl_12, xl_13, xl_14, xl_15, xl_16, xl_17, xl_18, xl_19, xl_20, xl_21, xl_22, xl_23, xl_24, xl_25, xl_26, xl_27, xl_28, xl_29, xl_30, xl_32, xl_33, xl_34, xl_35, xl_36, xl_37, xl_38, xl_39, xl_40, xl_41, xl_42, xl_43, xl_44, xl_45, xl_46, xl_47, xl_48, xl_50, xl_52, xl_57, xl_59, xl_60, xl_61, xl_62, xl_63, xl_64, xl_65, xl_66, xl_67, xl_68, xl_69, xl_70, xl_73, xl_75, xl_79, xl_83, xl_84, xl_90, xl_91, xl_93, xl_94, xl_97, xl_98, xl_99, xl_100, xl_101, xl_102, xl_103, xl_104, xl_105, xl_106, xl_107, xl_108, xl_109, xl_110, xl_111, xl_112, xl_113, xl_114, xl_115, xl_116, xl_117, xl_118, xl_119, xl_120, xl_121, xl_122, xl_130, xl_131, xl_132, xl_133, xl_134, xl_135, xl_140, xl_141, xl_142, xl_143, xl_145, xl_147, xl_150, xl_159, xl_160, xl_161, xl_162, xl_198, xl_208, xl_255, xl_256, xl_310, xl_365, xl_372, xl_400, xl_401, xl_420, xl_600, xl_628, xl_692, xl_728, xl_748, xl_820, xl_999, xl_1000, xl_1023, xl_1024, xl_1348, xl_1364, xl_1380, xl_1396, xl_1412, xl_2232, xl_9999, xl_10000, xl_16383, xl_20000, xl_20101, xl_20102, xl_20103, xl_65536, xl_1000000, xp_and, xp_or, xp_dfm, xp_k31, xp_shl, xp_shr, xp_tb1, xp_bz, xp_bo, xp_eq, xp_le, xp_ltI, xp_nm1, xp_nm2, xp_nm3, xp_nm4, xp_nm5, nI_add, pk_mul, pk_sub, xp_dv, xp_rem, Nat.zero_add, Nat.add_zero, Nat.not_lt_zero, Nat.zero_le, ne_eq, not_true_eq_false, not_false_eq_true, Nat.add_sub_cancel, Nat.mul_zero, h0', ja, jc, xp_wr_k, rv_forgets]); with_reducible rfl) | with_reducible rfl)); (focus (omega)); (focus (first | ((simp (implicitDefEqProofs := false) (disch := omega) only [↓xl_m1, ↓xl_m2, xl_0, xl_1, xl_2, xl_3, xl_4, xl_5, xl_6, xl_7, xl_8, xl_9, xl_10, xl_11, xl_12, xl_13, xl_14, xl_15, xl_16, xl_17, xl_18, xl_19, xl_20, xl_21, xl_22, xl_23, xl_24, xl_25, xl_26, xl_27, xl_28, xl_29, xl_30, xl_32, xl_33, xl_34, xl_35, xl_36, xl_37, xl_38, xl_39, xl_40, xl_41, xl_42, xl_43, xl_44, xl_45, xl_46, xl_47, xl_48, xl_50, xl_52, xl_57, xl_59, xl_60, xl_61, xl_62, xl_63, xl_64, xl_65, xl_66, xl_67, xl_68, xl_69, xl_70, xl_73, xl_75, xl_79, xl_83, xl_84, xl_90, xl_91, xl_93, xl_94, xl_97, xl_98, xl_99, xl_100, xl_101, xl_102, xl_103, xl_104, xl_105, xl_106, xl_107, xl_108, xl_109, xl_110, xl_111, xl_112, xl_113, xl_114, xl_115, xl_116, xl_117, xl_118, xl_119, xl_120, xl_121, xl_122, xl_130, xl_131, xl_132, xl_133, xl_134, xl_135, xl_140, xl_141, xl_142, xl_143, xl_145, xl_147, xl_150, xl_159, xl_160, xl_161, xl_162, xl_198, xl_208, xl_255, xl_256, xl_310, xl_365, xl_372, xl_400, xl_401, xl_420, xl_600, xl_628, xl_692, xl_728, xl_748, xl_820, xl_999, xl_1000, xl_1023, xl_1024, xl_1348, xl_1364, xl_1380, xl_1396, xl_1412, xl_2232, xl_9999, xl_10000, xl_16383, xl_20000, xl_20101, xl_20102, xl_20103, xl_65536, xl_1000000, xp_and, xp_or, xp_dfm, xp_k31, xp_shl, xp_shr, xp_tb1, xp_bz, xp_bo, xp_eq, xp_le, xp_ltI, xp_nm1, xp_nm2, xp_nm3, xp_nm4, xp_nm5, nI_add, pk_mul, pk_sub, xp_dv, xp_rem, Nat.zero_add, Nat.add_zero, Nat.not_lt_zero, Nat.zero_le, ne_eq, not_true_eq_false, not_false_eq_true, Nat.add_sub_cancel, Nat.mul_zero, h0', ja, jc, xp_wr_k, rv_forgets]); with_reducible rfl) | with_reducible rfl))) | ((with_reducible apply e_st); (focus (first | ((simp (implicitDefEqProofs := false) (disch := omega) only [↓xl_m1, ↓xl_m2, xl_0, xl_1, xl_2, xl_3, xl_4, xl_5, xl_6, xl_7, xl_8, xl_9, xl_10, xl_11, xl_12, xl_13, xl_14, xl_15, xl_16, xl_17, xl_18, xl_19, xl_20, xl_21, xl_22, xl_23, xl_24, xl_25, xl_26, xl_27, xl_28, xl_29, xl_30, xl_32, xl_33, xl_34, xl_35, xl_36, xl_37, xl_38, xl_39, xl_40, xl_41, xl_42, xl_43, xl_44, xl_45, xl_46, xl_47, xl_48, xl_50, xl_52, xl_57, xl_59, xl_60, xl_61, xl_62, xl_63, xl_64, xl_65, xl_66, xl_67, xl_68, xl_69, xl_70, xl_73, xl_75, xl_79, xl_83, xl_84, xl_90, xl_91, xl_93, xl_94, xl_97, xl_98, xl_99, xl_100, xl_101, xl_102, xl_103, xl_104, xl_105, xl_106, xl_107, xl_108, xl_109, xl_110, xl_111, xl_112, xl_113, xl_114, xl_115, xl_116, xl_117, xl_118, xl_119, xl_120, xl_121, xl_122, xl_130, xl_131, xl_132, xl_133, xl_134, xl_135, xl_140, xl_141, xl_142, xl_143, xl_145, xl_147, xl_150, xl_159, xl_160, xl_161, xl_162, xl_198, xl_208, xl_255, xl_256, xl_310, xl_365, xl_372, xl_400, xl_401, xl_420, xl_600, xl_628, xl_692, xl_728, xl_748, xl_820, xl_999, xl_1000, xl_1023, xl_1024, xl_1348, xl_1364, xl_1380, xl_1396, xl_1412, xl_2232, xl_9999, xl_10000, xl_16383, xl_20000, xl_20101, xl_20102, xl_20103, xl_65536, xl_1000000, xp_and, xp_or, xp_dfm, xp_k31, xp_shl, xp_shr, xp_tb1, xp_bz, xp_bo, xp_eq, xp_le, xp_ltI, xp_nm1, xp_nm2, xp_nm3, xp_nm4, xp_nm5, nI_add, pk_mul, pk_sub, xp_dv, xp_rem, Nat.zero_add, Nat.add_zero, Nat.not_lt_zero, Nat.zero_le, ne_eq, not_true_eq_false, not_false_eq_true, Nat.add_sub_cancel, Nat.mul_zero, h0', ja, jc, xp_wr_k, rv_forgets]); with_reducible rfl) | with_reducible rfl)); (focus (omega)); (focus (first | ((simp (implicitDefEqProofs := false) (disch := omega) only [↓xl_m1, ↓xl_m2, xl_0, xl_1, xl_2, xl_3, xl_4, xl_5, xl_6, xl_7, xl_8, xl_9, xl_10, xl_11, xl_12, xl_13, xl_14, xl_15, xl_16, xl_17, xl_18, xl_19, xl_20, xl_21, xl_22, xl_23, xl_24, xl_25, xl_26, xl_27, xl_28, xl_29, xl_30, xl_32, xl_33, xl_34, xl_35, xl_36, xl_37, xl_38, xl_39, xl_40, xl_41, xl_42, xl_43, xl_44, xl_45, xl_46, xl_47, xl_48, xl_50, xl_52, xl_57, xl_59, xl_60, xl_61, xl_62, xl_63, xl_64, xl_65, xl_66, xl_67, xl_68, xl_69, xl_70, xl_73, xl_75, xl_79, xl_83, xl_84, xl_90, xl_91, xl_93, xl_94, xl_97, xl_98, xl_99, xl_100, xl_101, xl_102, xl_103, xl_104, xl_105, xl_106, xl_107, xl_108, xl_109, xl_110, xl_111, xl_112, xl_113, xl_114, xl_115, xl_116, xl_117, xl_118, xl_119, xl_120, xl_121, xl_122, xl_130, xl_131, xl_132, xl_133, xl_134, xl_135, xl_140, xl_141, xl_142, xl_143, xl_145, xl_147, xl_150, xl_159, xl_160, xl_161, xl_162, xl_198, xl_208, xl_255, xl_256, xl_310, xl_365, xl_372, xl_400, xl_401, xl_420, xl_600, xl_628, xl_692, xl_728, xl_748, xl_820, xl_999, xl_1000, xl_1023, xl_1024, xl_1348, xl_1364, xl_1380, xl_1396, xl_1412, xl_2232, xl_9999, xl_10000, xl_16383, xl_20000, xl_20101, xl_20102, xl_20103, xl_65536, xl_1000000, xp_and, xp_or, xp_dfm, xp_k31, xp_shl, xp_shr, xp_tb1, xp_bz, xp_bo, xp_eq, xp_le, xp_ltI, xp_nm1, xp_nm2, xp_nm3, xp_nm4, xp_nm5, nI_add, pk_mul, pk_sub, xp_dv, xp_rem, Nat.zero_add, Nat.add_zero, Nat.not_lt_zero, Nat.zero_le, ne_eq, not_true_eq_false, not_false_eq_true, Nat.add_sub_cancel, Nat.mul_zero, h0', ja, jc, xp_wr_k, rv_forgets]); with_reducible rfl) | with_reducible rfl))) | ((with_reducible apply e_mw); (focus (first | ((simp (implicitDefEqProofs := false) (disch := omega) only [↓xl_m1, ↓xl_m2, xl_0, xl_1, xl_2, xl_3, xl_4, xl_5, xl_6, xl_7, xl_8, xl_9, xl_10, xl_11, xl_12, xl_13, xl_14, xl_15, xl_16, xl_17, xl_18, xl_19, xl_20, xl_21, xl_22, xl_23, xl_24, xl_25, xl_26, xl_27, xl_28, xl_29, xl_30, xl_32, xl_33, xl_34, xl_35, xl_36, xl_37, xl_38, xl_39, xl_40, xl_41, xl_42, xl_43, xl_44, xl_45, xl_46, xl_47, xl_48, xl_50, xl_52, xl_57, xl_59, xl_60, xl_61, xl_62, xl_63, xl_64, xl_65, xl_66, xl_67, xl_68, xl_69, xl_70, xl_73, xl_75, xl_79, xl_83, xl_84, xl_90, xl_91, xl_93, xl_94, xl_97, xl_98, xl_99, xl_100, xl_101, xl_102, xl_103, xl_104, xl_105, xl_106, xl_107, xl_108, xl_109, xl_110, xl_111, xl_112, xl_113, xl_114, xl_115, xl_116, xl_117, xl_118, xl_119, xl_120, xl_121, xl_122, xl_130, xl_131, xl_132, xl_133, xl_134, xl_135, xl_140, xl_141, xl_142, xl_143, xl_145, xl_147, xl_150, xl_159, xl_160, xl_161, xl_162, xl_198, xl_208, xl_255, xl_256, xl_310, xl_365, xl_372, xl_400, xl_401, xl_420, xl_600, xl_628, xl_692, xl_728, xl_748, xl_820, xl_999, xl_1000, xl_1023, xl_1024, xl_1348, xl_1364, xl_1380, xl_1396, xl_1412, xl_2232, xl_9999, xl_10000, xl_16383, xl_20000, xl_20101, xl_20102, xl_20103, xl_65536, xl_1000000, xp_and, xp_or, xp_dfm, xp_k31, xp_shl, xp_shr, xp_tb1, xp_bz, xp_bo, xp_eq, xp_le, xp_ltI, xp_nm1, xp_nm2, xp_nm3, xp_nm4, xp_nm5, nI_add, pk_mul, pk_sub, xp_dv, xp_rem, Nat.zero_add, Nat.add_zero, Nat.not_lt_zero, Nat.zero_le, ne_eq, not_true_eq_false, not_false_eq_true, Nat.add_sub_cancel, Nat.mul_zero, h0', ja, jc, xp_wr_k, rv_forgets]); with_reducible rfl) | with_reducible rfl))) | ((with_reducible apply e_cr); (focus (first | ((simp (implicitDefEqProofs := false) (disch := omega) only [↓xl_m1, ↓xl_m2, xl_0, xl_1, xl_2, xl_3, xl_4, xl_5, xl_6, xl_7, xl_8, xl_9, xl_10, xl_11, xl_12, xl_13, xl_14, xl_15, xl_16, xl_17, xl_18, xl_19, xl_20, xl_21, xl_22, xl_23, xl_24, xl_25, xl_26, xl_27, xl_28, xl_29, xl_30, xl_32, xl_33, xl_34, xl_35, xl_36, xl_37, xl_38, xl_39, xl_40, xl_41, xl_42, xl_43, xl_44, xl_45, xl_46, xl_47, xl_48, xl_50, xl_52, xl_57, xl_59, xl_60, xl_61, xl_62, xl_63, xl_64, xl_65, xl_66, xl_67, xl_68, xl_69, xl_70, xl_73, xl_75, xl_79, xl_83, xl_84, xl_90, xl_91, xl_93, xl_94, xl_97, xl_98, xl_99, xl_100, xl_101, xl_102, xl_103, xl_104, xl_105, xl_106, xl_107, xl_108, xl_109, xl_110, xl_111, xl_112, xl_113, xl_114, xl_115, xl_116, xl_117, xl_118, xl_119, xl_120, xl_121, xl_122, xl_130, xl_131, xl_132, xl_133, xl_134, xl_135, xl_140, xl_141, xl_142, xl_143, xl_145, xl_147, xl_150, xl_159, xl_160, xl_161, xl_162, xl_198, xl_208, xl_255, xl_256, xl_310, xl_365, xl_372, xl_400, xl_401, xl_420, xl_600, xl_628, xl_692, xl_728, xl_748, xl_820, xl_999, xl_1000, xl_1023, xl_1024, xl_1348, xl_1364, xl_1380, xl_1396, xl_1412, xl_2232, xl_9999, xl_10000, xl_16383, xl_20000, xl_20101, xl_20102, xl_20103, xl_65536, xl_1000000, xp_and, xp_or, xp_dfm, xp_k31, xp_shl, xp_shr, xp_tb1, xp_bz, xp_bo, xp_eq, xp_le, xp_ltI, xp_nm1, xp_nm2, xp_nm3, xp_nm4, xp_nm5, nI_add, pk_mul, pk_sub, xp_dv, xp_rem, Nat.zero_add, Nat.add_zero, Nat.not_lt_zero, Nat.zero_le, ne_eq, not_true_eq_false, not_false_eq_true, Nat.add_sub_cancel, Nat.mul_zero, h0', ja, jc, xp_wr_k, rv_forgets]); with_reducible rfl) | with_reducible rfl))) | ((with_reducible apply e_cl); (focus (first | ((simp (implicitDefEqProofs := false) (disch := omega) only [↓xl_m1, ↓xl_m2, xl_0, xl_1, xl_2, xl_3, xl_4, xl_5, xl_6, xl_7, xl_8, xl_9, xl_10, xl_11, xl_12, xl_13, xl_14, xl_15, xl_16, xl_17, xl_18, xl_19, xl_20, xl_21, xl_22, xl_23, xl_24, xl_25, xl_26, xl_27, xl_28, xl_29, xl_30, xl_32, xl_33, xl_34, xl_35, xl_36, xl_37, xl_38, xl_39, xl_40, xl_41, xl_42, xl_43, xl_44, xl_45, xl_46, xl_47, xl_48, xl_50, xl_52, xl_57, xl_59, xl_60, xl_61, xl_62, xl_63, xl_64, xl_65, xl_66, xl_67, xl_68, xl_69, xl_70, xl_73, xl_75, xl_79, xl_83, xl_84, xl_90, xl_91, xl_93, xl_94, xl_97, xl_98, xl_99, xl_100, xl_101, xl_102, xl_103, xl_104, xl_105, xl_106, xl_107, xl_108, xl_109, xl_110, xl_111, xl_112, xl_113, xl_114, xl_115, xl_116, xl_117, xl_118, xl_119, xl_120, xl_121, xl_122, xl_130, xl_131, xl_132, xl_133, xl_134, xl_135, xl_140, xl_141, xl_142, xl_143, xl_145, xl_147, xl_150, xl_159, xl_160, xl_161, xl_162, xl_198, xl_208, xl_255, xl_256, xl_310, xl_365, xl_372, xl_400, xl_401, xl_420, xl_600, xl_628, xl_692, xl_728, xl_748, xl_820, xl_999, xl_1000, xl_1023, xl_1024, xl_1348, xl_1364, xl_1380, xl_1396, xl_1412, xl_2232, xl_9999, xl_10000, xl_16383, xl_20000, xl_20101, xl_20102, xl_20103, xl_65536, xl_1000000, xp_and, xp_or, xp_dfm, xp_k31, xp_shl, xp_shr, xp_tb1, xp_bz, xp_bo, xp_eq, xp_le, xp_ltI, xp_nm1, xp_nm2, xp_nm3, xp_nm4, xp_nm5, nI_add, pk_mul, pk_sub, xp_dv, xp_rem, Nat.zero_add, Nat.add_zero, Nat.not_lt_zero, Nat.zero_le, ne_eq, not_true_eq_false, not_false_eq_true, Nat.add_sub_cancel, Nat.mul_zero, h0', ja, jc, xp_wr_k, rv_forgets]); with_reducible rfl) | with_reducible rfl))) | ((with_reducible apply e_cv); (focus (first | ((simp (implicitDefEqProofs := false) (disch := omega) only [↓xl_m1, ↓xl_m2, xl_0, xl_1, xl_2, xl_3, xl_4, xl_5, xl_6, xl_7, xl_8, xl_9, xl_10, xl_11, xl_12, xl_13, xl_14, xl_15, xl_16, xl_17, xl_18, xl_19, xl_20, xl_21, xl_22, xl_23, xl_24, xl_25, xl_26, xl_27, xl_28, xl_29, xl_30, xl_32, xl_33, xl_34, xl_35, xl_36, xl_37, xl_38, xl_39, xl_40, xl_41, xl_42, xl_43, xl_44, xl_45, xl_46, xl_47, xl_48, xl_50, xl_52, xl_57, xl_59, xl_60, xl_61, xl_62, xl_63, xl_64, xl_65, xl_66, xl_67, xl_68, xl_69, xl_70, xl_73, xl_75, xl_79, xl_83, xl_84, xl_90, xl_91, xl_93, xl_94, xl_97, xl_98, xl_99, xl_100, xl_101, xl_102, xl_103, xl_104, xl_105, xl_106, xl_107, xl_108, xl_109, xl_110, xl_111, xl_112, xl_113, xl_114, xl_115, xl_116, xl_117, xl_118, xl_119, xl_120, xl_121, xl_122, xl_130, xl_131, xl_132, xl_133, xl_134, xl_135, xl_140, xl_141, xl_142, xl_143, xl_145, xl_147, xl_150, xl_159, xl_160, xl_161, xl_162, xl_198, xl_208, xl_255, xl_256, xl_310, xl_365, xl_372, xl_400, xl_401, xl_420, xl_600, xl_628, xl_692, xl_728, xl_748, xl_820, xl_999, xl_1000, xl_1023, xl_1024, xl_1348, xl_1364, xl_1380, xl_1396, xl_1412, xl_2232, xl_9999, xl_10000, xl_16383, xl_20000, xl_20101, xl_20102, xl_20103, xl_65536, xl_1000000, xp_and, xp_or, xp_dfm, xp_k31, xp_shl, xp_shr, xp_tb1, xp_bz, xp_bo, xp_eq, xp_le, xp_ltI, xp_nm1, xp_nm2, xp_nm3, xp_nm4, xp_nm5, nI_add, pk_mul, pk_sub, xp_dv, xp_rem, Nat.zero_add, Nat.add_zero, Nat.not_lt_zero, Nat.zero_le, ne_eq, not_true_eq_false, not_false_eq_true, Nat.add_sub_cancel, Nat.mul_zero, h0', ja, jc, xp_wr_k, rv_forgets]); with_reducible rfl) | with_reducible rfl))) | ((with_reducible apply e_t); (focus (first | omega | (simp (implicitDefEqProofs := false) (disch := omega) only [↓xl_m1, ↓xl_m2, xl_0, xl_1, xl_2, xl_3, xl_4, xl_5, xl_6, xl_7, xl_8, xl_9, xl_10, xl_11, xl_12, xl_13, xl_14, xl_15, xl_16, xl_17, xl_18, xl_19, xl_20, xl_21, xl_22, xl_23, xl_24, xl_25, xl_26, xl_27, xl_28, xl_29, xl_30, xl_32, xl_33, xl_34, xl_35, xl_36, xl_37, xl_38, xl_39, xl_40, xl_41, xl_42, xl_43, xl_44, xl_45, xl_46, xl_47, xl_48, xl_50, xl_52, xl_57, xl_59, xl_60, xl_61, xl_62, xl_63, xl_64, xl_65, xl_66, xl_67, xl_68, xl_69, xl_70, xl_73, xl_75, xl_79, xl_83, xl_84, xl_90, xl_91, xl_93, xl_94, xl_97, xl_98, xl_99, xl_100, xl_101, xl_102, xl_103, xl_104, xl_105, xl_106, xl_107, xl_108, xl_109, xl_110, xl_111, xl_112, xl_113, xl_114, xl_115, xl_116, xl_117, xl_118, xl_119, xl_120, xl_121, xl_122, xl_130, xl_131, xl_132, xl_133, xl_134, xl_135, xl_140, xl_141, xl_142, xl_143, xl_145, xl_147, xl_150, xl_159, xl_160, xl_161, xl_162, xl_198, xl_208, xl_255, xl_256, xl_310, xl_365, xl_372, xl_400, xl_401, xl_420, xl_600, xl_628, xl_692, xl_728, xl_748, xl_820, xl_999, xl_1000, xl_1023, xl_1024, xl_1348, xl_1364, xl_1380, xl_1396, xl_1412, xl_2232, xl_9999, xl_10000, xl_16383, xl_20000, xl_20101, xl_20102, xl_20103, xl_65536, xl_1000000, xp_and, xp_or, xp_dfm, xp_k31, xp_shl, xp_shr, xp_tb1, xp_bz, xp_bo, xp_eq, xp_le, xp_ltI, xp_nm1, xp_nm2, xp_nm3, xp_nm4, xp_nm5, nI_add, pk_mul, pk_sub, xp_dv, xp_rem, Nat.zero_add, Nat.add_zero, Nat.not_lt_zero, Nat.zero_le, ne_eq, not_true_eq_false, not_false_eq_true, Nat.add_sub_cancel, Nat.mul_zero, h0', ja, jc, xp_wr_k, rv_forgets]; done) | (simp (implicitDefEqProofs := false) (disch := omega) only [↓xl_m1, ↓xl_m2, xl_0, xl_1, xl_2, xl_3, xl_4, xl_5, xl_6, xl_7, xl_8, xl_9, xl_10, xl_11, xl_12, xl_13, xl_14, xl_15, xl_16, xl_17, xl_18, xl_19, xl_20, xl_21, xl_22, xl_23, xl_24, xl_25, xl_26, xl_27, xl_28, xl_29, xl_30, xl_32, xl_33, xl_34, xl_35, xl_36, xl_37, xl_38, xl_39, xl_40, xl_41, xl_42, xl_43, xl_44, xl_45, xl_46, xl_47, xl_48, xl_50, xl_52, xl_57, xl_59, xl_60, xl_61, xl_62, xl_63, xl_64, xl_65, xl_66, xl_67, xl_68, xl_69, xl_70, xl_73, xl_75, xl_79, xl_83, xl_84, xl_90, xl_91, xl_93, xl_94, xl_97, xl_98, xl_99, xl_100, xl_101, xl_102, xl_103, xl_104, xl_105, xl_106, xl_107, xl_108, xl_109, xl_110, xl_111, xl_112, xl_113, xl_114, xl_115, xl_116, xl_117, xl_118, xl_119, xl_120, xl_121, xl_122, xl_130, xl_131, xl_132, xl_133, xl_134, xl_135, xl_140, xl_141, xl_142, xl_143, xl_145, xl_147, xl_150, xl_159, xl_160, xl_161, xl_162, xl_198, xl_208, xl_255, xl_256, xl_310, xl_365, xl_372, xl_400, xl_401, xl_420, xl_600, xl_628, xl_692, xl_728, xl_748, xl_820, xl_999, xl_1000, xl_1023, xl_1024, xl_1348, xl_1364, xl_1380, xl_1396, xl_1412, xl_2232, xl_9999, xl_10000, xl_16383, xl_20000, xl_20101, xl_20102, xl_20103, xl_65536, xl_1000000, xp_and, xp_or, xp_dfm, xp_k31, xp_shl, xp_shr, xp_tb1, xp_bz, xp_bo, xp_eq, xp_le, xp_ltI, xp_nm1, xp_nm2, xp_nm3, xp_nm4, xp_nm5, nI_add, pk_mul, pk_sub, xp_dv, xp_rem, Nat.zero_add, Nat.add_zero, Nat.not_lt_zero, Nat.zero_le, ne_eq, not_true_eq_false, not_false_eq_true, Nat.add_sub_cancel, Nat.mul_zero, h0', ja, jc, xp_wr_k, rv_forgets]; omega)))) | ((with_reducible apply e_f); (focus (first | omega | (simp (implicitDefEqProofs := false) (disch := omega) only [↓xl_m1, ↓xl_m2, xl_0, xl_1, xl_2, xl_3, xl_4, xl_5, xl_6, xl_7, xl_8, xl_9, xl_10, xl_11, xl_12, xl_13, xl_14, xl_15, xl_16, xl_17, xl_18, xl_19, xl_20, xl_21, xl_22, xl_23, xl_24, xl_25, xl_26, xl_27, xl_28, xl_29, xl_30, xl_32, xl_33, xl_34, xl_35, xl_36, xl_37, xl_38, xl_39, xl_40, xl_41, xl_42, xl_43, xl_44, xl_45, xl_46, xl_47, xl_48, xl_50, xl_52, xl_57, xl_59, xl_60, xl_61, xl_62, xl_63, xl_64, xl_65, xl_66, xl_67, xl_68, xl_69, xl_70, xl_73, xl_75, xl_79, xl_83, xl_84, xl_90, xl_91, xl_93, xl_94, xl_97, xl_98, xl_99, xl_100, xl_101, xl_102, xl_103, xl_104, xl_105, xl_106, xl_107, xl_108, xl_109, xl_110, xl_111, xl_112, xl_113, xl_114, xl_115, xl_116, xl_117, xl_118, xl_119, xl_120, xl_121, xl_122, xl_130, xl_131, xl_132, xl_133, xl_134, xl_135, xl_140, xl_141, xl_142, xl_143, xl_145, xl_147, xl_150, xl_159, xl_160, xl_161, xl_162, xl_198, xl_208, xl_255, xl_256, xl_310, xl_365, xl_372, xl_400, xl_401, xl_420, xl_600, xl_628, xl_692, xl_728, xl_748, xl_820, xl_999, xl_1000, xl_1023, xl_1024, xl_1348, xl_1364, xl_1380, xl_1396, xl_1412, xl_2232, xl_9999, xl_10000, xl_16383, xl_20000, xl_20101, xl_20102, xl_20103, xl_65536, xl_1000000, xp_and, xp_or, xp_dfm, xp_k31, xp_shl, xp_shr, xp_tb1, xp_bz, xp_bo, xp_eq, xp_le, xp_ltI, xp_nm1, xp_nm2, xp_nm3, xp_nm4, xp_nm5, nI_add, pk_mul, pk_sub, xp_dv, xp_rem, Nat.zero_add, Nat.add_zero, Nat.not_lt_zero, Nat.zero_le, ne_eq, not_true_eq_false, not_false_eq_true, Nat.add_sub_cancel, Nat.mul_zero, h0', ja, jc, xp_wr_k, rv_forgets]; done) | (simp (implicitDefEqProofs := false) (disch := omega) only [↓xl_m1, ↓xl_m2, xl_0, xl_1, xl_2, xl_3, xl_4, xl_5, xl_6, xl_7, xl_8, xl_9, xl_10, xl_11, xl_12, xl_13, xl_14, xl_15, xl_16, xl_17, xl_18, xl_19, xl_20, xl_21, xl_22, xl_23, xl_24, xl_25, xl_26, xl_27, xl_28, xl_29, xl_30, xl_32, xl_33, xl_34, xl_35, xl_36, xl_37, xl_38, xl_39, xl_40, xl_41, xl_42, xl_43, xl_44, xl_45, xl_46, xl_47, xl_48, xl_50, xl_52, xl_57, xl_59, xl_60, xl_61, xl_62, xl_63, xl_64, xl_65, xl_66, xl_67, xl_68, xl_69, xl_70, xl_73, xl_75, xl_79, xl_83, xl_84, xl_90, xl_91, xl_93, xl_94, xl_97, xl_98, xl_99, xl_100, xl_101, xl_102, xl_103, xl_104, xl_105, xl_106, xl_107, xl_108, xl_109, xl_110, xl_111, xl_112, xl_113, xl_114, xl_115, xl_116, xl_117, xl_118, xl_119, xl_120, xl_121, xl_122, xl_130, xl_131, xl_132, xl_133, xl_134, xl_135, xl_140, xl_141, xl_142, xl_143, xl_145, xl_147, xl_150, xl_159, xl_160, xl_161, xl_162, xl_198, xl_208, xl_255, xl_256, xl_310, xl_365, xl_372, xl_400, xl_401, xl_420, xl_600, xl_628, xl_692, xl_728, xl_748, xl_820, xl_999, xl_1000, xl_1023, xl_1024, xl_1348, xl_1364, xl_1380, xl_1396, xl_1412, xl_2232, xl_9999, xl_10000, xl_16383, xl_20000, xl_20101, xl_20102, xl_20103, xl_65536, xl_1000000, xp_and, xp_or, xp_dfm, xp_k31, xp_shl, xp_shr, xp_tb1, xp_bz, xp_bo, xp_eq, xp_le, xp_ltI, xp_nm1, xp_nm2, xp_nm3, xp_nm4, xp_nm5, nI_add, pk_mul, pk_sub, xp_dv, xp_rem, Nat.zero_add, Nat.add_zero, Nat.not_lt_zero, Nat.zero_le, ne_eq, not_true_eq_false, not_false_eq_true, Nat.add_sub_cancel, Nat.mul_zero, h0', ja, jc, xp_wr_k, rv_forgets]; omega)))) | ((with_reducible apply e_rb); (focus (first | exact b_n0 | exact b_n1 | exact b_01 _ | (simp only [↓xl_m1, ↓xl_m2, xl_0, xl_1, xl_2, xl_3, xl_4, xl_5, xl_6, xl_7, xl_8, xl_9, xl_10, xl_11, xl_12, xl_13, xl_14, xl_15, xl_16, xl_17, xl_18, xl_19, xl_20, xl_21, xl_22, xl_23, xl_24, xl_25, xl_26, xl_27, xl_28, xl_29, xl_30, xl_32, xl_33, xl_34, xl_35, xl_36, xl_37, xl_38, xl_39, xl_40, xl_41, xl_42, xl_43, xl_44, xl_45, xl_46, xl_47, xl_48, xl_50, xl_52, xl_57, xl_59, xl_60, xl_61, xl_62, xl_63, xl_64, xl_65, xl_66, xl_67, xl_68, xl_69, xl_70, xl_73, xl_75, xl_79, xl_83, xl_84, xl_90, xl_91, xl_93, xl_94, xl_97, xl_98, xl_99, xl_100, xl_101, xl_102, xl_103, xl_104, xl_105, xl_106, xl_107, xl_108, xl_109, xl_110, xl_111, xl_112, xl_113, xl_114, xl_115, xl_116, xl_117, xl_118, xl_119, xl_120, xl_121, xl_122, xl_130, xl_131, xl_132, xl_133, xl_134, xl_135, xl_140, xl_141, xl_142, xl_143, xl_145, xl_147, xl_150, xl_159, xl_160, xl_161, xl_162, xl_198, xl_208, xl_255, xl_256, xl_310, xl_365, xl_372, xl_400, xl_401, xl_420, xl_600, xl_628, xl_692, xl_728, xl_748, xl_820, xl_999, xl_1000, xl_1023, xl_1024, xl_1348, xl_1364, xl_1380, xl_1396, xl_1412, xl_2232, xl_9999, xl_10000, xl_16383, xl_20000, xl_20101, xl_20102, xl_20103, xl_65536, xl_1000000]; first | exact b_n0 | exact b_n1)))) | ((with_reducible apply e_dv); (focus (first | omega | (simp (implicitDefEqProofs := false) (disch := omega) only [↓xl_m1, ↓xl_m2, xl_0, xl_1, xl_2, xl_3, xl_4, xl_5, xl_6, xl_7, xl_8, xl_9, xl_10, xl_11, xl_12, xl_13, xl_14, xl_15, xl_16, xl_17, xl_18, xl_19, xl_20, xl_21, xl_22, xl_23, xl_24, xl_25, xl_26, xl_27, xl_28, xl_29, xl_30, xl_32, xl_33, xl_34, xl_35, xl_36, xl_37, xl_38, xl_39, xl_40, xl_41, xl_42, xl_43, xl_44, xl_45, xl_46, xl_47, xl_48, xl_50, xl_52, xl_57, xl_59, xl_60, xl_61, xl_62, xl_63, xl_64, xl_65, xl_66, xl_67, xl_68, xl_69, xl_70, xl_73, xl_75, xl_79, xl_83, xl_84, xl_90, xl_91, xl_93, xl_94, xl_97, xl_98, xl_99, xl_100, xl_101, xl_102, xl_103, xl_104, xl_105, xl_106, xl_107, xl_108, xl_109, xl_110, xl_111, xl_112, xl_113, xl_114, xl_115, xl_116, xl_117, xl_118, xl_119, xl_120, xl_121, xl_122, xl_130, xl_131, xl_132, xl_133, xl_134, xl_135, xl_140, xl_141, xl_142, xl_143, xl_145, xl_147, xl_150, xl_159, xl_160, xl_161, xl_162, xl_198, xl_208, xl_255, xl_256, xl_310, xl_365, xl_372, xl_400, xl_401, xl_420, xl_600, xl_628, xl_692, xl_728, xl_748, xl_820, xl_999, xl_1000, xl_1023, xl_1024, xl_1348, xl_1364, xl_1380, xl_1396, xl_1412, xl_2232, xl_9999, xl_10000, xl_16383, xl_20000, xl_20101, xl_20102, xl_20103, xl_65536, xl_1000000, xp_and, xp_or, xp_dfm, xp_k31, xp_shl, xp_shr, xp_tb1, xp_bz, xp_bo, xp_eq, xp_le, xp_ltI, xp_nm1, xp_nm2, xp_nm3, xp_nm4, xp_nm5, nI_add, pk_mul, pk_sub, xp_dv, xp_rem, Nat.zero_add, Nat.add_zero, Nat.not_lt_zero, Nat.zero_le, ne_eq, not_true_eq_false, not_false_eq_true, Nat.add_sub_cancel, Nat.mul_zero, h0', ja, jc, xp_wr_k, rv_forgets]; done) | (simp (implicitDefEqProofs := false) (disch := omega) only [↓xl_m1, ↓xl_m2, xl_0, xl_1, xl_2, xl_3, xl_4, xl_5, xl_6, xl_7, xl_8, xl_9, xl_10, xl_11, xl_12, xl_13, xl_14, xl_15, xl_16, xl_17, xl_18, xl_19, xl_20, xl_21, xl_22, xl_23, xl_24, xl_25, xl_26, xl_27, xl_28, xl_29, xl_30, xl_32, xl_33, xl_34, xl_35, xl_36, xl_37, xl_38, xl_39, xl_40, xl_41, xl_42, xl_43, xl_44, xl_45, xl_46, xl_47, xl_48, xl_50, xl_52, xl_57, xl_59, xl_60, xl_61, xl_62, xl_63, xl_64, xl_65, xl_66, xl_67, xl_68, xl_69, xl_70, xl_73, xl_75, xl_79, xl_83, xl_84, xl_90, xl_91, xl_93, xl_94, xl_97, xl_98, xl_99, xl_100, xl_101, xl_102, xl_103, xl_104, xl_105, xl_106, xl_107, xl_108, xl_109, xl_110, xl_111, xl_112, xl_113, xl_114, xl_115, xl_116, xl_117, xl_118, xl_119, xl_120, xl_121, xl_122, xl_130, xl_131, xl_132, xl_133, xl_134, xl_135, xl_140, xl_141, xl_142, xl_143, xl_145, xl_147, xl_150, xl_159, xl_160, xl_161, xl_162, xl_198, xl_208, xl_255, xl_256, xl_310, xl_365, xl_372, xl_400, xl_401, xl_420, xl_600, xl_628, xl_692, xl_728, xl_748, xl_820, xl_999, xl_1000, xl_1023, xl_1024, xl_1348, xl_1364, xl_1380, xl_1396, xl_1412, xl_2232, xl_9999, xl_10000, xl_16383, xl_20000, xl_20101, xl_20102, xl_20103, xl_65536, xl_1000000, xp_and, xp_or, xp_dfm, xp_k31, xp_shl, xp_shr, xp_tb1, xp_bz, xp_bo, xp_eq, xp_le, xp_ltI, xp_nm1, xp_nm2, xp_nm3, xp_nm4, xp_nm5, nI_add, pk_mul, pk_sub, xp_dv, xp_rem, Nat.zero_add, Nat.add_zero, Nat.not_lt_zero, Nat.zero_le, ne_eq, not_true_eq_false, not_false_eq_true, Nat.add_sub_cancel, Nat.mul_zero, h0', ja, jc, xp_wr_k, rv_forgets]; omega))); (focus (first | ((simp (implicitDefEqProofs := false) (disch := omega) only [↓xl_m1, ↓xl_m2, xl_0, xl_1, xl_2, xl_3, xl_4, xl_5, xl_6, xl_7, xl_8, xl_9, xl_10, xl_11, xl_12, xl_13, xl_14, xl_15, xl_16, xl_17, xl_18, xl_19, xl_20, xl_21, xl_22, xl_23, xl_24, xl_25, xl_26, xl_27, xl_28, xl_29, xl_30, xl_32, xl_33, xl_34, xl_35, xl_36, xl_37, xl_38, xl_39, xl_40, xl_41, xl_42, xl_43, xl_44, xl_45, xl_46, xl_47, xl_48, xl_50, xl_52, xl_57, xl_59, xl_60, xl_61, xl_62, xl_63, xl_64, xl_65, xl_66, xl_67, xl_68, xl_69, xl_70, xl_73, xl_75, xl_79, xl_83, xl_84, xl_90, xl_91, xl_93, xl_94, xl_97, xl_98, xl_99, xl_100, xl_101, xl_102, xl_103, xl_104, xl_105, xl_106, xl_107, xl_108, xl_109, xl_110, xl_111, xl_112, xl_113, xl_114, xl_115, xl_116, xl_117, xl_118, xl_119, xl_120, xl_121, xl_122, xl_130, xl_131, xl_132, xl_133, xl_134, xl_135, xl_140, xl_141, xl_142, xl_143, xl_145, xl_147, xl_150, xl_159, xl_160, xl_161, xl_162, xl_198, xl_208, xl_255, xl_256, xl_310, xl_365, xl_372, xl_400, xl_401, xl_420, xl_600, xl_628, xl_692, xl_728, xl_748, xl_820, xl_999, xl_1000, xl_1023, xl_1024, xl_1348, xl_1364, xl_1380, xl_1396, xl_1412, xl_2232, xl_9999, xl_10000, xl_16383, xl_20000, xl_20101, xl_20102, xl_20103, xl_65536, xl_1000000, xp_and, xp_or, xp_dfm, xp_k31, xp_shl, xp_shr, xp_tb1, xp_bz, xp_bo, xp_eq, xp_le, xp_ltI, xp_nm1, xp_nm2, xp_nm3, xp_nm4, xp_nm5, nI_add, pk_mul, pk_sub, xp_dv, xp_rem, Nat.zero_add, Nat.add_zero, Nat.not_lt_zero, Nat.zero_le, ne_eq, not_true_eq_false, not_false_eq_true, Nat.add_sub_cancel, Nat.mul_zero, h0', ja, jc, xp_wr_k, rv_forgets]); with_reducible rfl) | with_reducible rfl))) | ((with_reducible apply e_rem); (focus (first | omega | (simp (implicitDefEqProofs := false) (disch := omega) only [↓xl_m1, ↓xl_m2, xl_0, xl_1, xl_2, xl_3, xl_4, xl_5, xl_6, xl_7, xl_8, xl_9, xl_10, xl_11, xl_12, xl_13, xl_14, xl_15, xl_16, xl_17, xl_18, xl_19, xl_20, xl_21, xl_22, xl_23, xl_24, xl_25, xl_26, xl_27, xl_28, xl_29, xl_30, xl_32, xl_33, xl_34, xl_35, xl_36, xl_37, xl_38, xl_39, xl_40, xl_41, xl_42, xl_43, xl_44, xl_45, xl_46, xl_47, xl_48, xl_50, xl_52, xl_57, xl_59, xl_60, xl_61, xl_62, xl_63, xl_64, xl_65, xl_66, xl_67, xl_68, xl_69, xl_70, xl_73, xl_75, xl_79, xl_83, xl_84, xl_90, xl_91, xl_93, xl_94, xl_97, xl_98, xl_99, xl_100, xl_101, xl_102, xl_103, xl_104, xl_105, xl_106, xl_107, xl_108, xl_109, xl_110, xl_111, xl_112, xl_113, xl_114, xl_115, xl_116, xl_117, xl_118, xl_119, xl_120, xl_121, xl_122, xl_130, xl_131, xl_132, xl_133, xl_134, xl_135, xl_140, xl_141, xl_142, xl_143, xl_145, xl_147, xl_150, xl_159, xl_160, xl_161, xl_162, xl_198, xl_208, xl_255, xl_256, xl_310, xl_365, xl_372, xl_400, xl_401, xl_420, xl_600, xl_628, xl_692, xl_728, xl_748, xl_820, xl_999, xl_1000, xl_1023, xl_1024, xl_1348, xl_1364, xl_1380, xl_1396, xl_1412, xl_2232, xl_9999, xl_10000, xl_16383, xl_20000, xl_20101, xl_20102, xl_20103, xl_65536, xl_1000000, xp_and, xp_or, xp_dfm, xp_k31, xp_shl, xp_shr, xp_tb1, xp_bz, xp_bo, xp_eq, xp_le, xp_ltI, xp_nm1, xp_nm2, xp_nm3, xp_nm4, xp_nm5, nI_add, pk_mul, pk_sub, xp_dv, xp_rem, Nat.zero_add, Nat.add_zero, Nat.not_lt_zero, Nat.zero_le, ne_eq, not_true_eq_false, not_false_eq_true, Nat.add_sub_cancel, Nat.mul_zero, h0', ja, jc, xp_wr_k, rv_forgets]; done) | (simp (implicitDefEqProofs := false) (disch := omega) only [↓xl_m1, ↓xl_m2, xl_0, xl_1, xl_2, xl_3, xl_4, xl_5, xl_6, xl_7, xl_8, xl_9, xl_10, xl_11, xl_12, xl_13, xl_14, xl_15, xl_16, xl_17, xl_18, xl_19, xl_20, xl_21, xl_22, xl_23, xl_24, xl_25, xl_26, xl_27, xl_28, xl_29, xl_30, xl_32, xl_33, xl_34, xl_35, xl_36, xl_37, xl_38, xl_39, xl_40, xl_41, xl_42, xl_43, xl_44, xl_45, xl_46, xl_47, xl_48, xl_50, xl_52, xl_57, xl_59, xl_60, xl_61, xl_62, xl_63, xl_64, xl_65, xl_66, xl_67, xl_68, xl_69, xl_70, xl_73, xl_75, xl_79, xl_83, xl_84, xl_90, xl_91, xl_93, xl_94, xl_97, xl_98, xl_99, xl_100, xl_101, xl_102, xl_103, xl_104, xl_105, xl_106, xl_107, xl_108, xl_109, xl_110, xl_111, xl_112, xl_113, xl_114, xl_115, xl_116, xl_117, xl_118, xl_119, xl_120, xl_121, xl_122, xl_130, xl_131, xl_132, xl_133, xl_134, xl_135, xl_140, xl_141, xl_142, xl_143, xl_145, xl_147, xl_150, xl_159, xl_160, xl_161, xl_162, xl_198, xl_208, xl_255, xl_256, xl_310, xl_365, xl_372, xl_400, xl_401, xl_420, xl_600, xl_628, xl_692, xl_728, xl_748, xl_820, xl_999, xl_1000, xl_1023, xl_1024, xl_1348, xl_1364, xl_1380, xl_1396, xl_1412, xl_2232, xl_9999, xl_10000, xl_16383, xl_20000, xl_20101, xl_20102, xl_20103, xl_65536, xl_1000000, xp_and, xp_or, xp_dfm, xp_k31, xp_shl, xp_shr, xp_tb1, xp_bz, xp_bo, xp_eq, xp_le, xp_ltI, xp_nm1, xp_nm2, xp_nm3, xp_nm4, xp_nm5, nI_add, pk_mul, pk_sub, xp_dv, xp_rem, Nat.zero_add, Nat.add_zero, Nat.not_lt_zero, Nat.zero_le, ne_eq, not_true_eq_false, not_false_eq_true, Nat.add_sub_cancel, Nat.mul_zero, h0', ja, jc, xp_wr_k, rv_forgets]; omega))); (focus (first | ((simp (implicitDefEqProofs := false) (disch := omega) only [↓xl_m1, ↓xl_m2, xl_0, xl_1, xl_2, xl_3, xl_4, xl_5, xl_6, xl_7, xl_8, xl_9, xl_10, xl_11, xl_12, xl_13, xl_14, xl_15, xl_16, xl_17, xl_18, xl_19, xl_20, xl_21, xl_22, xl_23, xl_24, xl_25, xl_26, xl_27, xl_28, xl_29, xl_30, xl_32, xl_33, xl_34, xl_35, xl_36, xl_37, xl_38, xl_39, xl_40, xl_41, xl_42, xl_43, xl_44, xl_45, xl_46, xl_47, xl_48, xl_50, xl_52, xl_57, xl_59, xl_60, xl_61, xl_62, xl_63, xl_64, xl_65, xl_66, xl_67, xl_68, xl_69, xl_70, xl_73, xl_75, xl_79, xl_83, xl_84, xl_90, xl_91, xl_93, xl_94, xl_97, xl_98, xl_99, xl_100, xl_101, xl_102, xl_103, xl_104, xl_105, xl_106, xl_107, xl_108, xl_109, xl_110, xl_111, xl_112, xl_113, xl_114, xl_115, xl_116, xl_117, xl_118, xl_119, xl_120, xl_121, xl_122, xl_130, xl_131, xl_132, xl_133, xl_134, xl_135, xl_140, xl_141, xl_142, xl_143, xl_145, xl_147, xl_150, xl_159, xl_160, xl_161, xl_162, xl_198, xl_208, xl_255, xl_256, xl_310, xl_365, xl_372, xl_400, xl_401, xl_420, xl_600, xl_628, xl_692, xl_728, xl_748, xl_820, xl_999, xl_1000, xl_1023, xl_1024, xl_1348, xl_1364, xl_1380, xl_1396, xl_1412, xl_2232, xl_9999, xl_10000, xl_16383, xl_20000, xl_20101, xl_20102, xl_20103, xl_65536, xl_1000000, xp_and, xp_or, xp_dfm, xp_k31, xp_shl, xp_shr, xp_tb1, xp_bz, xp_bo, xp_eq, xp_le, xp_ltI, xp_nm1, xp_nm2, xp_nm3, xp_nm4, xp_nm5, nI_add, pk_mul, pk_sub, xp_dv, xp_rem, Nat.zero_add, Nat.add_zero, Nat.not_lt_zero, Nat.zero_le, ne_eq, not_true_eq_false, not_false_eq_true, Nat.add_sub_cancel, Nat.mul_zero, h0', ja, jc, xp_wr_k, rv_forgets]); with_reducible rfl) | with_reducible rfl))) | ((with_reducible apply e_mz); (focus (first | ((simp (implicitDefEqProofs := false) (disch := omega) only [↓xl_m1, ↓xl_m2, xl_0, xl_1, xl_2, xl_3, xl_4, xl_5, xl_6, xl_7, xl_8, xl_9, xl_10, xl_11, xl_12, xl_13, xl_14, xl_15, xl_16, xl_17, xl_18, xl_19, xl_20, xl_21, xl_22, xl_23, xl_24, xl_25, xl_26, xl_27, xl_28, xl_29, xl_30, xl_32, xl_33, xl_34, xl_35, xl_36, xl_37, xl_38, xl_39, xl_40, xl_41, xl_42, xl_43, xl_44, xl_45, xl_46, xl_47, xl_48, xl_50, xl_52, xl_57, xl_59, xl_60, xl_61, xl_62, xl_63, xl_64, xl_65, xl_66, xl_67, xl_68, xl_69, xl_70, xl_73, xl_75, xl_79, xl_83, xl_84, xl_90, xl_91, xl_93, xl_94, xl_97, xl_98, xl_99, xl_100, xl_101, xl_102, xl_103, xl_104, xl_105, xl_106, xl_107, xl_108, xl_109, xl_110, xl_111, xl_112, xl_113, xl_114, xl_115, xl_116, xl_117, xl_118, xl_119, xl_120, xl_121, xl_122, xl_130, xl_131, xl_132, xl_133, xl_134, xl_135, xl_140, xl_141, xl_142, xl_143, xl_145, xl_147, xl_150, xl_159, xl_160, xl_161, xl_162, xl_198, xl_208, xl_255, xl_256, xl_310, xl_365, xl_372, xl_400, xl_401, xl_420, xl_600, xl_628, xl_692, xl_728, xl_748, xl_820, xl_999, xl_1000, xl_1023, xl_1024, xl_1348, xl_1364, xl_1380, xl_1396, xl_1412, xl_2232, xl_9999, xl_10000, xl_16383, xl_20000, xl_20101, xl_20102, xl_20103, xl_65536, xl_1000000, xp_and, xp_or, xp_dfm, xp_k31, xp_shl, xp_shr, xp_tb1, xp_bz, xp_bo, xp_eq, xp_le, xp_ltI, xp_nm1, xp_nm2, xp_nm3, xp_nm4, xp_nm5, nI_add, pk_mul, pk_sub, xp_dv, xp_rem, Nat.zero_add, Nat.add_zero, Nat.not_lt_zero, Nat.zero_le, ne_eq, not_true_eq_false, not_false_eq_true, Nat.add_sub_cancel, Nat.mul_zero, h0', ja, jc, xp_wr_k, rv_forgets]); with_reducible rfl) | with_reducible rfl)); (focus (first | exact b_n0 | exact b_n1 | exact b_01 _))) | ((with_reducible apply e_ro); (focus (first | ((simp (implicitDefEqProofs := false) (disch := omega) only [↓xl_m1, ↓xl_m2, xl_0, xl_1, xl_2, xl_3, xl_4, xl_5, xl_6, xl_7, xl_8, xl_9, xl_10, xl_11, xl_12, xl_13, xl_14, xl_15, xl_16, xl_17, xl_18, xl_19, xl_20, xl_21, xl_22, xl_23, xl_24, xl_25, xl_26, xl_27, xl_28, xl_29, xl_30, xl_32, xl_33, xl_34, xl_35, xl_36, xl_37, xl_38, xl_39, xl_40, xl_41, xl_42, xl_43, xl_44, xl_45, xl_46, xl_47, xl_48, xl_50, xl_52, xl_57, xl_59, xl_60, xl_61, xl_62, xl_63, xl_64, xl_65, xl_66, xl_67, xl_68, xl_69, xl_70, xl_73, xl_75, xl_79, xl_83, xl_84, xl_90, xl_91, xl_93, xl_94, xl_97, xl_98, xl_99, xl_100, xl_101, xl_102, xl_103, xl_104, xl_105, xl_106, xl_107, xl_108, xl_109, xl_110, xl_111, xl_112, xl_113, xl_114, xl_115, xl_116, xl_117, xl_118, xl_119, xl_120, xl_121, xl_122, xl_130, xl_131, xl_132, xl_133, xl_134, xl_135, xl_140, xl_141, xl_142, xl_143, xl_145, xl_147, xl_150, xl_159, xl_160, xl_161, xl_162, xl_198, xl_208, xl_255, xl_256, xl_310, xl_365, xl_372, xl_400, xl_401, xl_420, xl_600, xl_628, xl_692, xl_728, xl_748, xl_820, xl_999, xl_1000, xl_1023, xl_1024, xl_1348, xl_1364, xl_1380, xl_1396, xl_1412, xl_2232, xl_9999, xl_10000, xl_16383, xl_20000, xl_20101, xl_20102, xl_20103, xl_65536, xl_1000000, xp_and, xp_or, xp_dfm, xp_k31, xp_shl, xp_shr, xp_tb1, xp_bz, xp_bo, xp_eq, xp_le, xp_ltI, xp_nm1, xp_nm2, xp_nm3, xp_nm4, xp_nm5, nI_add, pk_mul, pk_sub, xp_dv, xp_rem, Nat.zero_add, Nat.add_zero, Nat.not_lt_zero, Nat.zero_le, ne_eq, not_true_eq_false, not_false_eq_true, Nat.add_sub_cancel, Nat.mul_zero, h0', ja, jc, xp_wr_k, rv_forgets]); with_reducible rfl) | with_reducible rfl))) | rw [bX10_kin_66] | rw [bX10_kin_110])
    rfl
  obtain ⟨r1, r2⟩ := some_det2 g2 q
  subst r1
  refine ⟨I2, J2, g1, g3, ?_, ?_, ?_⟩
  · rw [r2, xp_wr_cell (by omega), wr_updJ, wr_updJ]
    rfl
  · rw [r2, xp_wr_s]
  · rw [r2, xp_wr_k (by omega)]
    simp only [xp_wr_cell (show (0 : Nat) ≠ 1 by omega)]
theorem c_miles0 (h : RR I J) (v1 v2 v3 : Int32) (hc : v1 = v2 ∨ oN v2 10 ∨ oN v3 100) : ∃ I2, fX9_miles v1 v2 v3 I = some (0, I2) ∧ RR I2 J := by
  obtain ⟨v', I2, J2, g1, g2, g3⟩ := miles_both h v1 v2 v3
  have q : fX10_miles v1 v2 v3 J = some (0, J) := by
    unfold fX10_miles
    rcases oN_or v1 (n := 10) (by omega) with ho | ⟨a, ha, rfl⟩
    · exact e_cr (rv_isPlace_o ho) (e_t rfl rfl)
    · refine e_cr (rv_isPlace_t ha) (e_f (by decide) ?_)
      rcases oN_or v2 (n := 10) (by omega) with ho | ⟨c, hcc, rfl⟩
      · exact e_cr (rv_isPlace_o ho) (e_t rfl rfl)
      · refine e_cr (rv_isPlace_t hcc) (e_f (by decide) ?_)
        by_cases e : nI a = nI c
        · exact e_t e rfl
        · refine e_f e ?_
          rcases hc with hc | (hc | hc) | hc
          · exact absurd hc e
          · exact absurd hc (nI_pos (by omega))
          · exact absurd hc (by rw [nI_leI (by omega) (by omega)]; omega)
          · exact e_cr (rv_isIn_o (n := 99) hc (by omega)) (e_f (fun z => z rfl) rfl)
  obtain ⟨r1, r2⟩ := some_det2 g2 q
  subst r1 r2
  exact ⟨I2, g1, g3⟩
theorem c_miles (h : RR I J) (ha : a < 10) (hb : b < 10) (hm : m < 100) (hne : a ≠ b) : ∃ I2 J2, fX9_miles (nI a) (nI b) (nI m) I = some (1, I2) ∧ RR I2 J2 ∧ (∀ j, j < 98 ∨ 198 ≤ j → J2 1 j = J 1 j) ∧ J2 0 4 = nI 0 ∧ J2 0 18 = J 0 18 := by
  obtain ⟨v', I2, J2, g1, g2, g3⟩ := miles_both h (nI a) (nI b) (nI m)
  have y1 : (98 : Int32) + (10 : Int32) * nI a + nI b = nI (98 + (a * 10 + b)) := by
    rw [show ((10 : Int32) * nI a : Int32) = nI (10 * a) from pk_mul 10 a, show ((98 : Int32) + nI (10 * a)) = nI (98 + 10 * a) from nI_add 98 _, nI_add]
    congr 1
    omega
  have y2 : (98 : Int32) + (10 : Int32) * nI b + nI a = nI (98 + (b * 10 + a)) := by
    rw [show ((10 : Int32) * nI b : Int32) = nI (10 * b) from pk_mul 10 b, show ((98 : Int32) + nI (10 * b)) = nI (98 + 10 * b) from nI_add 98 _, nI_add]
    congr 1
    omega
  have hne' : ¬ nI a = nI b := fun z => hne ((nI_eq (by omega) (by omega)).mp z)
  have q : fX10_miles (nI a) (nI b) (nI m) J = some (1, xc_wr (xc_wr (xc_wr J 1 (98 + (a * 10 + b)) (nI m)) 1 (98 + (b * 10 + a)) (nI m)) 0 4 (nI 0)) := by
    unfold fX10_miles
    exact e_cr (rv_isPlace_t ha) (e_f (by decide) (e_cr (rv_isPlace_t hb) (e_f (by decide) (e_f hne' (e_cr (rv_isIn_t (k := m) (n := 99) (by omega) (by omega)) (e_t (by decide) (e_st (k := 98 + (a * 10 + b)) y1 (by omega) rfl (e_st (k := 98 + (b * 10 + a)) y2 (by omega) rfl rfl))))))))
  obtain ⟨r1, r2⟩ := some_det2 g2 q
  subst r1
  refine ⟨I2, J2, g1, g3, fun j hj => ?_, ?_, ?_⟩
  · rw [r2, xp_wr_cell (by omega), xp_wr_k (by omega), xp_wr_k (by omega)]
  · rw [r2, xp_wr_s]
  · rw [r2, xp_wr_k (by omega)]
    simp only [xp_wr_cell (show (0 : Nat) ≠ 1 by omega)]
theorem c_state (h : RR I J) (v : Int32) : ∃ x I2 J2, fX9_state v I = some (x, I2) ∧ RR I2 J2 ∧ J2 1 = upd (J 1) 1 v ∧ J2 0 4 = nI 0 ∧ J2 0 18 = J 0 18 := by
  obtain ⟨v', I2, J2, g1, g2, g3⟩ := state_both h v
  have q : fX10_state v J = some (J 1 1, xc_wr (xc_wr J 1 1 v) 0 4 (nI 0)) := by
    unfold fX10_state
    exact e_rd (k := 1) rfl (by omega) rfl (e_lt rfl (e_st (k := 1) rfl (by omega) rfl rfl))
  obtain ⟨r1, r2⟩ := some_det2 g2 q
  subst r1
  refine ⟨_, I2, J2, g1, g3, ?_, ?_, ?_⟩
  · rw [r2, xp_wr_cell (by omega), wr_updJ]
  · rw [r2, xp_wr_s]
  · rw [r2, xp_wr_k (by omega)]
    simp only [xp_wr_cell (show (0 : Nat) ≠ 1 by omega)]
-- the last refusals
theorem c_days0 (h : RR I J) (hN : 1000 ≤ N) (v : Int32) (hv : v < 1 ∨ 60 < v) : ∃ I2, fX9_days N v I = some (-1, I2) ∧ RR I2 J := by
  obtain ⟨v', I2, J2, g1, g2, g3⟩ := days_both hN h v
  have hin : fX10_isIn v 1 60 = some (nI 0) := by
    unfold fX10_isIn
    by_cases h1 : v < 1
    · exact e_t h1 rfl
    · exact e_f h1 (e_t (hv.resolve_left h1) rfl)
  have q : fX10_days N v J = some (-1, J) := by
    unfold fX10_days
    exact e_cr hin (e_t rfl rfl)
  obtain ⟨r1, r2⟩ := some_det2 g2 q
  subst r1 r2
  exact ⟨I2, g1, g3⟩
theorem c_sayN (h : RR I J) (hN : 1000 ≤ N) (v1 v2 : Int32) (hv : v1 < 0) : ∃ I2, fX9_say N v1 v2 I = some (-1, I2) ∧ RR I2 J := by
  have hw := h.1.i
  obtain ⟨v', I2, J2, g1, g2, g3⟩ := say_both hN h v1 v2
  have q : fX10_say N v1 v2 J = some (-1, J) := by
    unfold fX10_say
    exact e_cr (rv_isPerson_o hw (Or.inl hv)) (e_t rfl rfl)
  obtain ⟨r1, r2⟩ := some_det2 g2 q
  subst r1 r2
  exact ⟨I2, g1, g3⟩
theorem c_moveN (h : RR I J) (hN : 1000 ≤ N) (v1 v2 : Int32) (hv : v1 < 0) : ∃ I2, fX9_move v1 v2 I = some (0, I2) ∧ RR I2 J := by
  have hw := h.1.i
  obtain ⟨v', I2, J2, g1, g2, g3⟩ := move_both hN h v1 v2
  have q : fX10_move N v1 v2 J = some (0, J) := by
    unfold fX10_move
    exact e_cr (rv_isPerson_o hw (Or.inl hv)) (e_t rfl rfl)
  obtain ⟨r1, r2⟩ := some_det2 g2 q
  subst r1 r2
  exact ⟨I2, g1, g3⟩
theorem c_teachN (h : RR I J) (hN : 1000 ≤ N) (v1 v2 : Int32) (hv : v2 < 0) : ∃ I2, fX9_teach v1 v2 I = some (0, I2) ∧ RR I2 J := by
  have hw := h.1.i
  have hP := hw.nPB
  obtain ⟨v', I2, J2, g1, g2, g3⟩ := teach_both hN h v1 v2
  have q : fX10_teach N v1 v2 J = some (0, J) := by
    unfold fX10_teach
    rcases oN_or v1 (n := xr (J 1) 63) (by omega) with ho | ⟨p, hp, rfl⟩
    · exact e_cr (rv_isPerson_o hw ho) (e_t rfl rfl)
    · exact e_cr (rv_isPerson_t hw hp) (e_f (by decide) (e_cr (rv_isWord_o hw (Or.inl hv)) (e_t rfl rfl)))
  obtain ⟨r1, r2⟩ := some_det2 g2 q
  subst r1 r2
  exact ⟨I2, g1, g3⟩
theorem c_carveN (h : RR I J) (hN : 1000 ≤ N) (v : Int32) (hv : v < 0) : ∃ I2, fX9_carve v I = some (0, I2) ∧ RR I2 J := by
  have hw := h.1.i
  obtain ⟨v', I2, J2, g1, g2, g3⟩ := carve_both hN h v
  have q : fX10_carve N v J = some (0, J) := by
    unfold fX10_carve
    exact e_cr (rv_isWord_o hw (Or.inl hv)) (e_t rfl rfl)
  obtain ⟨r1, r2⟩ := some_det2 g2 q
  subst r1 r2
  exact ⟨I2, g1, g3⟩
theorem c_asksN (h : RR I J) (hN : 1000 ≤ N) (v1 v3 : Int32) : ∃ I2, fX9_asks N v1 10 v3 I = some (-1, I2) ∧ RR I2 J := by
  have hw := h.1.i
  have hW := hw.nWB
  obtain ⟨v', I2, J2, g1, g2, g3⟩ := asks_both hN h v1 10 v3
  have q : fX10_asks N v1 10 v3 J = some (-1, J) := by
    unfold fX10_asks
    rcases oN_or v1 (n := xr (J 1) 62) (by omega) with ho | ⟨p, hp, rfl⟩
    · exact e_cr (rv_isWord_o hw ho) (e_t rfl rfl)
    · exact e_cr (rv_isWord_t hw hp) (e_f (by decide) (e_cr (rv_isPlace_o (Or.inr (Int32.le_refl _))) (e_f (fun z => z rfl) rfl)))
  obtain ⟨r1, r2⟩ := some_det2 g2 q
  subst r1 r2
  exact ⟨I2, g1, g3⟩
theorem c_book4 (h : RR I J) (v : Int32) : fX9_book I v 4 = some (-2) := by
  have hw := h.1.i
  have hB := hw.bookB
  obtain ⟨x, g1, g2⟩ := book_both h v 4
  rw [g1, ← g2]
  unfold fX10_book
  refine e_rd (k := 2) rfl (by omega) hw.book ?_
  rcases oN_or v (n := xr (J 1) 2) (by omega) with ho | ⟨i, hi, rfl⟩
  · exact e_cr (rv_isN_o (by omega) ho) (e_t rfl rfl)
  · exact e_cr (rv_isN_t (by omega) hi) (e_f (by decide) (e_cr (rv_isIn_o (n := 3) (Or.inr (Int32.le_refl _)) (by omega)) (e_t rfl rfl)))
end
