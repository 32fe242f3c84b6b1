-- ===== Integer.numberOfTrailingZeros on sets of at most 14 numbers =====
def ntA (v c : Nat) : Nat := c + v / 2
def ntB (v c : Nat) : Nat := if v ≤ 4 then ntA v c else ntA (v / 4) (c + 2)
def ntC (v c : Nat) : Nat := if v ≤ 16 then ntB v c else ntB (v / 16) (c + 4)
def ntD (v c : Nat) : Nat := if v ≤ 256 then ntC v c else ntC (v / 256) (c + 8)
def ntN (n : Nat) : Nat := if 0 < xdf (n - 1) n then ntD (xdf (n - 1) n) 1 else 0
theorem nt_all : (List.range 16384).all (fun n => n == 0 || (decide (ntN n < 14) && (n.testBit (ntN n) && (List.range (ntN n)).all (fun j => !n.testBit j)))) = true := by decide +kernel
theorem nt_spec {n : Nat} (h : n < 16384) (h0 : n ≠ 0) : ntN n < 14 ∧ n.testBit (ntN n) = true ∧ ∀ j, j < ntN n → n.testBit j = false := by
  have h1 := List.all_eq_true.mp nt_all n (List.mem_range.mpr h)
  rw [Bool.or_eq_true, beq_iff_eq] at h1
  have h2 := h1.resolve_left h0
  rw [Bool.and_eq_true, Bool.and_eq_true, decide_eq_true_eq] at h2
  refine ⟨h2.1, h2.2.1, fun j hj => ?_⟩
  have h3 := List.all_eq_true.mp h2.2.2 j (List.mem_range.mpr hj)
  simpa using h3
theorem nA {v c : Nat} (hv : v < 2 ^ 20) : bJ6_numberOfTrailingZeros_0f7a4_74 (nI v) (nI c) = some (nI (ntA v c)) := by
  unfold bJ6_numberOfTrailingZeros_0f7a4_74
  rw [xp_ush1 (by omega), nI_add]
  rfl
theorem nB {v c : Nat} (hv : v < 2 ^ 20) (hc : c < 100) : bJ6_numberOfTrailingZeros_0f7a4_62 (nI v) (nI c) = some (nI (ntB v c)) := by
  unfold bJ6_numberOfTrailingZeros_0f7a4_62 ntB
  by_cases h : v ≤ 4
  · rw [if_pos h]
    exact e_t (nI_le h (by omega) : nI v ≤ nI 4) (nA hv)
  · rw [if_neg h]
    refine e_f (nI_ge (by omega) (by omega) : ¬ nI v ≤ nI 4) (e_lt (nI_add c 2) (e_lt (xp_ush2 (by omega)) ?_))
    exact nA (v := v / 2 ^ 2) (c := c + 2) (by omega)
theorem nC {v c : Nat} (hv : v < 2 ^ 20) (hc : c < 90) : bJ6_numberOfTrailingZeros_0f7a4_49 (nI v) (nI c) = some (nI (ntC v c)) := by
  unfold bJ6_numberOfTrailingZeros_0f7a4_49 ntC
  by_cases h : v ≤ 16
  · rw [if_pos h]
    exact e_t (nI_le h (by omega) : nI v ≤ nI 16) (nB hv (by omega))
  · rw [if_neg h]
    refine e_f (nI_ge (by omega) (by omega) : ¬ nI v ≤ nI 16) (e_lt (nI_add c 4) (e_lt (xp_ush4 (by omega)) ?_))
    exact nB (v := v / 2 ^ 4) (c := c + 4) (by omega) (by omega)
theorem nD {v c : Nat} (hv : v < 2 ^ 20) (hc : c < 80) : bJ6_numberOfTrailingZeros_0f7a4_34 (nI v) (nI c) = some (nI (ntD v c)) := by
  unfold bJ6_numberOfTrailingZeros_0f7a4_34 ntD
  by_cases h : v ≤ 256
  · rw [if_pos h]
    exact e_t (nI_le h (by omega) : nI v ≤ nI 256) (nC hv (by omega))
  · rw [if_neg h]
    refine e_f (nI_ge (by omega) (by omega) : ¬ nI v ≤ nI 256) (e_lt (nI_add c 8) (e_lt (xp_ush8 (by omega)) ?_))
    exact nC (v := v / 2 ^ 8) (c := c + 8) (by omega) (by omega)
theorem cv_ntz {n : Nat} (h : n < 16384) (h0 : n ≠ 0) : fJ6_numberOfTrailingZeros_0f7a4 (nI n) = some (nI (ntN n)) := by
  have hx := xdf_le (n - 1) n
  have e : (nI n ^^^ (-1)) &&& (nI n - 1) = nI (xdf (n - 1) n) := by
    rw [Int32.and_comm, show (nI n - 1 : Int32) = nI (n - 1) from pk_sub (a := n) (b := 1) (by omega)]
    exact xp_df _ _
  unfold fJ6_numberOfTrailingZeros_0f7a4 ntN
  refine e_lt e ?_
  by_cases hp : 0 < xdf (n - 1) n
  · rw [if_pos hp]
    refine e_t (nI_lt hp (by omega) : nI 0 < nI (xdf (n - 1) n)) (e_lt rfl (e_t (nI_le (by omega) (by omega) : nI (xdf (n - 1) n) ≤ nI 65536) ?_))
    exact nD (v := xdf (n - 1) n) (c := 1) (by omega) (by omega)
  · rw [if_neg hp]
    have hz : xdf (n - 1) n = 0 := by omega
    rw [hz]
    exact e_f (by decide) rfl
theorem nt_uniq {n k : Nat} (h : n < 16384) (hk : n.testBit k = true) (hl : ∀ j, j < k → n.testBit j = false) : ntN n = k := by
  have h0 : n ≠ 0 := by
    intro z
    rw [z] at hk
    simp at hk
  obtain ⟨a1, a2, a3⟩ := nt_spec h h0
  have b1 : ¬ ntN n < k := fun z => by rw [hl _ z] at a2; cases a2
  have b2 : ¬ k < ntN n := fun z => by rw [a3 _ z] at hk; cases hk
  omega
