-- ===== World.become =====
def cpR (b b' lo hi : Nat) (I I' : xc_M) : Prop := (∀ a k, lo ≤ a → a < hi → k < cLen a → I' (b' + a) k = I (b + a) k) ∧ (∀ x, x < b' + lo ∨ b' + hi ≤ x → I' x = I x)
theorem cpR_comp {b b' lo mid hi : Nat} {I I1 I2 : xc_M} (hd : b' + 30 ≤ b ∨ b + 30 ≤ b') (h1 : cpR b b' lo mid I I1) (h2 : cpR b b' mid hi I1 I2) (hlm : lo ≤ mid) (hmh : mid ≤ hi) (hh : hi ≤ 30) : cpR b b' lo hi I I2 := by
  obtain ⟨a1, a2⟩ := h1
  obtain ⟨c1, c2⟩ := h2
  refine ⟨fun a k h0 h3 hk => ?_, fun x hx => (c2 x (by omega)).trans (a2 x (by omega))⟩
  by_cases hm : a < mid
  · rw [c2 (b' + a) (by omega)]
    exact a1 a k h0 hm hk
  · rw [c1 a k (by omega) h3 hk, a2 (b + a) (by omega)]
theorem cp_arr {b b' a n : Nat} {I : xc_M} (hn : cLen a = n) : cpR b b' a (a + 1) I (xc_cpy I (b + a) 0 (b' + a) 0 n) := by
  refine ⟨fun x k h0 h1 hk => ?_, fun x hx => cpy_out (by omega)⟩
  have e : x = a := by omega
  subst e
  rw [hn] at hk
  exact cpy_in hk
theorem cp_rows {b b' a n : Nat} (ha : a = 10 ∨ a = 12 ∨ a = 14 ∨ a = 16) (hx : xl_X4 (b + a) = n) (hx' : xl_X4 (b' + a) = n) (hn : n < 1000) (hl : cLen (a + 1) = n) (hd : b' + 30 ≤ b ∨ b + 30 ≤ b') (I : xc_M) : ∃ I', fX4_become (b' + a) (b + a) I = some (nI 0, I') ∧ cpR b b' a (a + 2) I I' := by
  refine ⟨xc_wr (xc_cpy I (b + a + 1) 0 (b' + a + 1) 0 n) (b' + a) 0 (I (b + a) 0), ?_, ?_, ?_⟩
  · unfold fX4_become
    rw [hx, hx']
    refine e_lt (v := nI n) (by rw [if_neg (nI_nlt (Nat.le_refl _) (by omega))]) ?_
    refine e_cp rfl rfl (m := n) rfl (by omega) ?_
    refine e_mw ?_ rfl
    rw [cpy_out (by omega)]
  · intro x k h0 h1 hk
    by_cases e : x = a
    · subst e
      have hk0 : k = 0 := by
        rcases ha with q | q | q | q <;> subst q <;> (have : k < 1 := hk) <;> omega
      subst hk0
      rw [xp_wr_s]
    · have e2 : x = a + 1 := by omega
      subst e2
      rw [hl] at hk
      rw [xp_wr_c (by omega)]
      exact cpy_in hk
  · intro x hx
    rw [xp_wr_cell (by omega), cpy_out (by omega)]
theorem cp_being {b b' : Nat} (hd : b' + 30 ≤ b ∨ b + 30 ≤ b') (I : xc_M) : ∃ I', fX0_become (b' + 4) (b + 4) I = some (nI 0, I') ∧ cpR b b' 4 10 I I' := by
  obtain ⟨I', h1, h2, h3⟩ := become0 (c := b' + 4) (c2 := b + 4) (by omega) I
  refine ⟨I', h1, fun a k h0 h4 hk => ?_, fun x hx => h3 x (by omega)⟩
  have hb := h2 (fun j => if j = 1 then I (b + 4) 0 else if j = 0 then I (b + 4) 1 else if j = 3 then I (b + 4) 2 else if j < 18 then I (b + 5) (j - 4) else if j < 32 then I (b + 6) (j - 18) else if j < 42 then I (b + 7) (j - 32) else if j < 52 then I (b + 8) (j - 42) else I (b + 9) (j - 52)) (by
    refine ⟨rfl, rfl, rfl, fun k hk => ?_, fun k hk => ?_, fun k hk => ?_, fun k hk => ?_, fun k hk => ?_⟩
    · simp only []
      rw [if_neg (by omega), if_neg (by omega), if_neg (by omega), if_pos (by omega), show 4 + k - 4 = k by omega]
    · simp only []
      rw [if_neg (by omega), if_neg (by omega), if_neg (by omega), if_neg (by omega), if_pos (by omega), show 18 + k - 18 = k by omega]
    · simp only []
      rw [if_neg (by omega), if_neg (by omega), if_neg (by omega), if_neg (by omega), if_neg (by omega), if_pos (by omega), show 32 + k - 32 = k by omega]
    · simp only []
      rw [if_neg (by omega), if_neg (by omega), if_neg (by omega), if_neg (by omega), if_neg (by omega), if_neg (by omega), if_pos (by omega), show 42 + k - 42 = k by omega]
    · simp only []
      rw [if_neg (by omega), if_neg (by omega), if_neg (by omega), if_neg (by omega), if_neg (by omega), if_neg (by omega), if_neg (by omega), show 52 + k - 52 = k by omega])
  obtain ⟨g1, g2, g3, g4, g5, g6, g7, g8⟩ := hb
  have hc : a = 4 ∨ a = 5 ∨ a = 6 ∨ a = 7 ∨ a = 8 ∨ a = 9 := by omega
  rcases hc with q | q | q | q | q | q <;> subst q
  · have hk3 : k < 3 := hk
    have : k = 0 ∨ k = 1 ∨ k = 2 := by omega
    rcases this with q | q | q <;> subst q
    · exact g1
    · exact g2
    · exact g3
  · have hk' : k < 14 := hk
    have := g4 k hk'
    simp only [] at this
    rw [if_neg (by omega), if_neg (by omega), if_neg (by omega), if_pos (by omega), show 4 + k - 4 = k by omega] at this
    exact this
  · have hk' : k < 14 := hk
    have := g5 k hk'
    simp only [] at this
    rw [if_neg (by omega), if_neg (by omega), if_neg (by omega), if_neg (by omega), if_pos (by omega), show 18 + k - 18 = k by omega] at this
    exact this
  · have hk' : k < 10 := hk
    have := g6 k hk'
    simp only [] at this
    rw [if_neg (by omega), if_neg (by omega), if_neg (by omega), if_neg (by omega), if_neg (by omega), if_pos (by omega), show 32 + k - 32 = k by omega] at this
    exact this
  · have hk' : k < 10 := hk
    have := g7 k hk'
    simp only [] at this
    rw [if_neg (by omega), if_neg (by omega), if_neg (by omega), if_neg (by omega), if_neg (by omega), if_neg (by omega), if_pos (by omega), show 42 + k - 42 = k by omega] at this
    exact this
  · have hk' : k < 10 := hk
    have := g8 k hk'
    simp only [] at this
    rw [if_neg (by omega), if_neg (by omega), if_neg (by omega), if_neg (by omega), if_neg (by omega), if_neg (by omega), if_neg (by omega), show 52 + k - 52 = k by omega] at this
    exact this
theorem cp_means {b b' : Nat} (hd : b' + 30 ≤ b ∨ b + 30 ≤ b') (I : xc_M) : ∃ I', fX2_become (b' + 18) (b + 18) I = some (nI 0, I') ∧ cpR b b' 18 22 I I' := by
  refine ⟨xc_cpy (xc_cpy (xc_cpy (xc_wr I (b' + 18) 0 (I (b + 18) 0)) (b + 18 + 1) 0 (b' + 18 + 1) 0 10) (b + 18 + 2) 0 (b' + 18 + 2) 0 60) (b + 18 + 3) 0 (b' + 18 + 3) 0 60, ?_, fun a k h0 h1 hk => ?_, fun x hx => ?_⟩
  · unfold fX2_become
    refine e_mw rfl ?_
    refine e_cp rfl rfl (m := 10) rfl (by omega) ?_
    refine e_cp rfl rfl (m := 60) rfl (by omega) ?_
    refine e_cp rfl rfl (m := 60) rfl (by omega) ?_
    rfl
  · have hc : a = 18 ∨ a = 19 ∨ a = 20 ∨ a = 21 := by omega
    rcases hc with q | q | q | q <;> subst q
    · have hk' : k < 1 := hk
      have e : k = 0 := by omega
      subst e
      rw [cpy_out (by omega), cpy_out (by omega), cpy_out (by omega), xp_wr_s]
    · have hk' : k < 10 := hk
      rw [cpy_out (by omega), cpy_out (by omega)]
      exact (cpy_in hk').trans (xp_wr_c (by omega))
    · have hk' : k < 60 := hk
      rw [cpy_out (by omega)]
      exact (cpy_in hk').trans (by rw [cpy_out (by omega), xp_wr_c (by omega)])
    · have hk' : k < 60 := hk
      exact (cpy_in hk').trans (by rw [cpy_out (by omega), cpy_out (by omega), xp_wr_c (by omega)])
  · rw [cpy_out (by omega), cpy_out (by omega), cpy_out (by omega), xp_wr_cell (by omega)]
theorem cp_law {b b' : Nat} (hd : b' + 30 ≤ b ∨ b + 30 ≤ b') (I : xc_M) : ∃ I', fX1_become (b' + 22) (b + 22) I = some (nI 0, I') ∧ cpR b b' 22 28 I I' := by
  refine ⟨xc_cpy (xc_cpy (xc_cpy (xc_cpy (xc_cpy (xc_wr (xc_wr I (b' + 22) 0 (I (b + 22) 0)) (b' + 22) 1 (I (b + 22) 1)) (b + 22 + 1) 0 (b' + 22 + 1) 0 16) (b + 22 + 2) 0 (b' + 22 + 2) 0 16) (b + 22 + 3) 0 (b' + 22 + 3) 0 16) (b + 22 + 4) 0 (b' + 22 + 4) 0 16) (b + 22 + 5) 0 (b' + 22 + 5) 0 400, ?_, fun a k h0 h1 hk => ?_, fun x hx => ?_⟩
  · unfold fX1_become
    refine e_mw rfl ?_
    refine e_mw (xp_wr_c (by omega)) ?_
    refine e_cp rfl rfl (m := 16) rfl (by omega) ?_
    refine e_cp rfl rfl (m := 16) rfl (by omega) ?_
    refine e_cp rfl rfl (m := 16) rfl (by omega) ?_
    refine e_cp rfl rfl (m := 16) rfl (by omega) ?_
    refine e_cp rfl rfl (m := 400) rfl (by omega) ?_
    rfl
  · have hc : a = 22 ∨ a = 23 ∨ a = 24 ∨ a = 25 ∨ a = 26 ∨ a = 27 := by omega
    rcases hc with q | q | q | q | q | q <;> subst q
    · have hk' : k < 1 := hk
      have e : k = 0 := by omega
      subst e
      rw [cpy_out (by omega), cpy_out (by omega), cpy_out (by omega), cpy_out (by omega), cpy_out (by omega), xp_wr_k (by omega), xp_wr_s]
    · have hk' : k < 16 := hk
      rw [cpy_out (by omega), cpy_out (by omega), cpy_out (by omega), cpy_out (by omega)]
      exact (cpy_in hk').trans (by rw [xp_wr_c (by omega), xp_wr_c (by omega)])
    · have hk' : k < 16 := hk
      rw [cpy_out (by omega), cpy_out (by omega), cpy_out (by omega)]
      exact (cpy_in hk').trans (by rw [cpy_out (by omega), xp_wr_c (by omega), xp_wr_c (by omega)])
    · have hk' : k < 16 := hk
      rw [cpy_out (by omega), cpy_out (by omega)]
      exact (cpy_in hk').trans (by rw [cpy_out (by omega), cpy_out (by omega), xp_wr_c (by omega), xp_wr_c (by omega)])
    · have hk' : k < 16 := hk
      rw [cpy_out (by omega)]
      exact (cpy_in hk').trans (by rw [cpy_out (by omega), cpy_out (by omega), cpy_out (by omega), xp_wr_c (by omega), xp_wr_c (by omega)])
    · have hk' : k < 400 := hk
      exact (cpy_in hk').trans (by rw [cpy_out (by omega), cpy_out (by omega), cpy_out (by omega), cpy_out (by omega), xp_wr_c (by omega), xp_wr_c (by omega)])
  · rw [cpy_out (by omega), cpy_out (by omega), cpy_out (by omega), cpy_out (by omega), cpy_out (by omega), xp_wr_cell (by omega), xp_wr_cell (by omega)]
theorem xl10 {b : Nat} (hb : b % 30 = 1) : xl_X4 (b + 10) = 600 := by
  unfold xl_X4
  rw [if_pos (by omega)]
theorem cv_become {b b' : Nat} (hb : b % 30 = 1) (hb' : b' % 30 = 1) (hd : b' + 30 ≤ b ∨ b + 30 ≤ b') (I : xc_M) : ∃ I', fX8_become b' b I = some (nI 0, I') ∧ cpR b b' 0 28 I I' := by
  have s0 : cpR b b' 0 1 I (xc_wr (xc_wr (xc_wr I b' 0 (I b 0)) b' 1 (I b 1)) b' 2 (I b 2)) := by
    refine ⟨fun a k h0 h1 hk => ?_, fun x hx => ?_⟩
    · have e : a = 0 := by omega
      subst e
      have hk' : k < 3 := hk
      have : k = 0 ∨ k = 1 ∨ k = 2 := by omega
      rcases this with q | q | q <;> subst q
      · rw [Nat.add_zero, Nat.add_zero, xp_wr_k (by omega), xp_wr_k (by omega), xp_wr_s]
      · rw [Nat.add_zero, Nat.add_zero, xp_wr_k (by omega), xp_wr_s]
      · rw [Nat.add_zero, Nat.add_zero, xp_wr_s]
    · rw [xp_wr_cell (by omega), xp_wr_cell (by omega), xp_wr_cell (by omega)]
  obtain ⟨I3, e3⟩ : ∃ I3, xc_wr (xc_wr (xc_wr I b' 0 (I b 0)) b' 1 (I b 1)) b' 2 (I b 2) = I3 := ⟨_, rfl⟩
  rw [e3] at s0
  have s1 := cpR_comp hd s0 (cp_arr (b := b) (b' := b') (a := 1) (n := 14) (I := I3) rfl) (by omega) (by omega) (by omega)
  obtain ⟨I4, e4⟩ : ∃ I4, xc_cpy I3 (b + 1) 0 (b' + 1) 0 14 = I4 := ⟨_, rfl⟩
  rw [e4] at s1
  have s2 := cpR_comp hd s1 (cp_arr (b := b) (b' := b') (a := 2) (n := 14) (I := I4) rfl) (by omega) (by omega) (by omega)
  obtain ⟨I5, e5⟩ : ∃ I5, xc_cpy I4 (b + 2) 0 (b' + 2) 0 14 = I5 := ⟨_, rfl⟩
  rw [e5] at s2
  have s3 := cpR_comp hd s2 (cp_arr (b := b) (b' := b') (a := 3) (n := 100) (I := I5) rfl) (by omega) (by omega) (by omega)
  obtain ⟨I6, e6⟩ : ∃ I6, xc_cpy I5 (b + 3) 0 (b' + 3) 0 100 = I6 := ⟨_, rfl⟩
  rw [e6] at s3
  obtain ⟨I7, f7, t7⟩ := cp_being hd I6
  have s7 := cpR_comp hd s3 t7 (by omega) (by omega) (by omega)
  obtain ⟨I8, f8, t8⟩ := cp_rows (a := 10) (n := 600) (by omega) (xl10 hb) (xl10 hb') (by omega) rfl hd I7
  have s8 := cpR_comp hd s7 t8 (by omega) (by omega) (by omega)
  obtain ⟨I9, f9, t9⟩ := cp_rows (a := 12) (n := 64) (by omega) (xl12 hb) (xl12 hb') (by omega) rfl hd I8
  have s9 := cpR_comp hd s8 t9 (by omega) (by omega) (by omega)
  obtain ⟨I10, f10, t10⟩ := cp_rows (a := 14) (n := 48) (by omega) (xl14 hb) (xl14 hb') (by omega) rfl hd I9
  have s10 := cpR_comp hd s9 t10 (by omega) (by omega) (by omega)
  obtain ⟨I11, f11, t11⟩ := cp_rows (a := 16) (n := 40) (by omega) (xl16 hb) (xl16 hb') (by omega) rfl hd I10
  have s11 := cpR_comp hd s10 t11 (by omega) (by omega) (by omega)
  obtain ⟨I12, f12, t12⟩ := cp_means hd I11
  have s12 := cpR_comp hd s11 t12 (by omega) (by omega) (by omega)
  obtain ⟨I13, f13, t13⟩ := cp_law hd I12
  have s13 := cpR_comp hd s12 t13 (by omega) (by omega) (by omega)
  refine ⟨I13, ?_, s13⟩
  unfold fX8_become
  refine e_mw rfl ?_
  refine e_mw (xp_wr_c (by omega)) ?_
  refine e_mw ((xp_wr_c (by omega)).trans (xp_wr_c (by omega))) ?_
  rw [e3]
  refine e_cp rfl rfl (m := 14) rfl (by omega) ?_
  rw [e4]
  refine e_cp rfl rfl (m := 14) rfl (by omega) ?_
  rw [e5]
  refine e_cp rfl rfl (m := 100) rfl (by omega) ?_
  rw [e6]
  exact e_cv f7 (e_cv f8 (e_cv f9 (e_cv f10 (e_cv f11 (e_cv f12 (e_cv f13 rfl))))))
