-- ===== Integer.bitCount on sets of at most 14 numbers =====
def swar (n : Nat) : Nat := (fun a => (fun b => (fun c => (fun d => (fun e => e &&& 63) (d + d / 2 ^ 16)) (c + c / 2 ^ 8)) ((b + b / 2 ^ 4) &&& 252645135)) ((a &&& 858993459) + (a / 2 ^ 2 &&& 858993459))) (n - (n / 2 ^ 1 &&& 1431655765))
theorem swar_all : (List.range 16384).all (fun i => swar i == sct i) = true := by decide +kernel
theorem swar_ct {n : Nat} (h : n < 16384) : swar n = sct n := by
  have h1 := List.all_eq_true.mp swar_all n (List.mem_range.mpr h)
  exact eq_of_beq h1
theorem xp_ush1 {n : Nat} (h : n < 2 ^ 32) : ((nI n).toUInt32 >>> ((1 : Int32).toUInt32 &&& Int32.toUInt32 31)).toInt32 = nI (n / 2 ^ 1) := pk_ushrN h 1 1 (by decide)
theorem xp_ush2 {n : Nat} (h : n < 2 ^ 32) : ((nI n).toUInt32 >>> ((2 : Int32).toUInt32 &&& Int32.toUInt32 31)).toInt32 = nI (n / 2 ^ 2) := pk_ushrN h 2 2 (by decide)
theorem xp_ush4 {n : Nat} (h : n < 2 ^ 32) : ((nI n).toUInt32 >>> ((4 : Int32).toUInt32 &&& Int32.toUInt32 31)).toInt32 = nI (n / 2 ^ 4) := pk_ushrN h 4 4 (by decide)
theorem xp_ush8 {n : Nat} (h : n < 2 ^ 32) : ((nI n).toUInt32 >>> ((8 : Int32).toUInt32 &&& Int32.toUInt32 31)).toInt32 = nI (n / 2 ^ 8) := pk_ushrN h 8 8 (by decide)
theorem xp_ush16 {n : Nat} (h : n < 2 ^ 32) : ((nI n).toUInt32 >>> ((16 : Int32).toUInt32 &&& Int32.toUInt32 31)).toInt32 = nI (n / 2 ^ 16) := pk_ushrN h 16 16 (by decide)
theorem cv_bitCount {n : Nat} (h : n < 16384) : fJ6_bitCount_0f7a4 (nI n) = some (nI (sct n)) := by
  have e1 : (n / 2 ^ 1 &&& 1431655765) ≤ n := Nat.le_trans Nat.and_le_left (Nat.div_le_self _ _)
  have l1 : (1431655765 : Int32) = nI 1431655765 := rfl
  have l2 : (858993459 : Int32) = nI 858993459 := rfl
  have l3 : (252645135 : Int32) = nI 252645135 := rfl
  have l4 : (63 : Int32) = nI 63 := rfl
  rw [← swar_ct h]
  unfold fJ6_bitCount_0f7a4 swar
  simp only [xp_lt]
  rw [xp_ush1 (by omega), l1, xp_and, pk_sub e1]
  have ha : n - (n / 2 ^ 1 &&& 1431655765) < 2 ^ 14 := by omega
  generalize n - (n / 2 ^ 1 &&& 1431655765) = a at ha ⊢
  rw [xp_ush2 (by omega), l2, xp_and, xp_and, nI_add]
  have hb : (a &&& 858993459) + (a / 2 ^ 2 &&& 858993459) < 2 ^ 15 := by
    have h1 : (a &&& 858993459) ≤ a := Nat.and_le_left
    have h2 : (a / 2 ^ 2 &&& 858993459) ≤ a / 2 ^ 2 := Nat.and_le_left
    omega
  generalize (a &&& 858993459) + (a / 2 ^ 2 &&& 858993459) = b at hb ⊢
  rw [xp_ush4 (by omega), nI_add, l3, xp_and]
  have hc : (b + b / 2 ^ 4) &&& 252645135 < 2 ^ 17 := by
    have h1 : ((b + b / 2 ^ 4) &&& 252645135) ≤ b + b / 2 ^ 4 := Nat.and_le_left
    omega
  generalize (b + b / 2 ^ 4) &&& 252645135 = c at hc ⊢
  rw [xp_ush8 (by omega), nI_add, xp_ush16 (by omega), nI_add, l4, xp_and]
theorem sct_le (n : Nat) : sct n ≤ 16 := by
  have : ∀ k, itr (fun k acc => acc + (n.testBit k).toNat) 0 k ≤ k := by
    intro k
    induction k with
    | zero => exact Nat.le_refl 0
    | succ k ih =>
      show itr (fun k acc => acc + (n.testBit k).toNat) 0 k + (n.testBit k).toNat ≤ k + 1
      have : (n.testBit k).toNat ≤ 1 := Bool.toNat_le _
      omega
  exact this 16
