-- ===== circle: the least closed set =====
def clG (G : Nat → Nat → Bool) (n C : Nat) : Prop := ∀ p q, p < n → q < n → C.testBit p = true → G p q = true → C.testBit q = true
def lstC (G : Nat → Nat → Bool) (n p0 S : Nat) : Prop := S.testBit p0 = true ∧ clG G n S ∧ ∀ C, clG G n C → C.testBit p0 = true → ∀ i, S.testBit i = true → C.testBit i = true
theorem lst_uniq {G : Nat → Nat → Bool} {n p0 S T : Nat} (h : lstC G n p0 S) (k : lstC G n p0 T) : S = T := by
  apply Nat.eq_of_testBit_eq
  intro i
  have a := h.2.2 T k.2.1 k.1 i
  have b := k.2.2 S h.2.1 h.1 i
  cases hs : S.testBit i with
  | true => exact (a hs).symm
  | false =>
    cases ht : T.testBit i with
    | false => rfl
    | true =>
      have := b ht
      rw [hs] at this
      cases this
theorem sct_full {n s : Nat} (hn : n ≤ 16) (hs : s < 2 ^ n) : sct s ≤ n := by
  by_cases h : s = 2 ^ n - 1
  · rw [h, sct_two hn]
    exact Nat.le_refl _
  · exact Nat.le_of_lt (sct_below hn (by omega))
theorem close_it {G : Nat → Nat → Bool} {n p0 : Nat} {R : Nat → Nat} (hn : n ≤ 16) (hp : p0 < n)
    (h1 : ∀ S, S < 2 ^ n → R S < 2 ^ n) (h2 : ∀ S, S < 2 ^ n → ∀ i, S.testBit i = true → (R S).testBit i = true)
    (h3 : ∀ S, S < 2 ^ n → R S = S → clG G n S)
    (h4 : ∀ S, S < 2 ^ n → ∀ C, clG G n C → (∀ i, S.testBit i = true → C.testBit i = true) → ∀ i, (R S).testBit i = true → C.testBit i = true)
    {k : Nat} (hk : n ≤ k) : lstC G n p0 (itr (fun _ S => R S) (2 ^ p0) k) := by
  have hp16 : 2 ^ n ≤ 2 ^ 16 := Nat.pow_le_pow_right (by decide) hn
  have key : ∀ k, itr (fun _ S => R S) (2 ^ p0) k < 2 ^ n ∧ (itr (fun _ S => R S) (2 ^ p0) k).testBit p0 = true ∧ (∀ C, clG G n C → C.testBit p0 = true → ∀ i, (itr (fun _ S => R S) (2 ^ p0) k).testBit i = true → C.testBit i = true) ∧ (R (itr (fun _ S => R S) (2 ^ p0) k) = itr (fun _ S => R S) (2 ^ p0) k ∨ k ≤ sct (itr (fun _ S => R S) (2 ^ p0) k)) := by
    intro k
    induction k with
    | zero =>
      refine ⟨p2_lt hp, ?_, fun C _ hC i hi => ?_, Or.inr (Nat.zero_le _)⟩
      · show (2 ^ p0).testBit p0 = true
        simp
      · have : (2 ^ p0).testBit i = true := hi
        rw [Nat.testBit_two_pow] at this
        have e : p0 = i := by simpa using this
        rw [← e]
        exact hC
    | succ k ih =>
      obtain ⟨a1, a2, a3, a4⟩ := ih
      show R (itr (fun _ S => R S) (2 ^ p0) k) < 2 ^ n ∧ (R (itr (fun _ S => R S) (2 ^ p0) k)).testBit p0 = true ∧ (∀ C, clG G n C → C.testBit p0 = true → ∀ i, (R (itr (fun _ S => R S) (2 ^ p0) k)).testBit i = true → C.testBit i = true) ∧ (R (R (itr (fun _ S => R S) (2 ^ p0) k)) = R (itr (fun _ S => R S) (2 ^ p0) k) ∨ k + 1 ≤ sct (R (itr (fun _ S => R S) (2 ^ p0) k)))
      generalize itr (fun _ S => R S) (2 ^ p0) k = S at a1 a2 a3 a4
      refine ⟨h1 S a1, h2 S a1 _ a2, fun C hC hC0 => h4 S a1 C hC (a3 C hC hC0), ?_⟩
      by_cases hz : R S = S
      · left
        rw [hz, hz]
      · right
        have h5 : sct S < sct (R S) := sct_sub (sub_xdf (h2 S a1)) (fun z => hz z.symm) (Nat.lt_of_lt_of_le (h1 S a1) hp16)
        rcases a4 with q | q
        · exact absurd q hz
        · omega
  obtain ⟨a1, a2, a3, a4⟩ := key k
  have fin : ∀ k, n ≤ k → R (itr (fun _ S => R S) (2 ^ p0) k) = itr (fun _ S => R S) (2 ^ p0) k := by
    intro k hk
    obtain ⟨b1, b2, b3, b4⟩ := key k
    rcases b4 with q | q
    · exact q
    · by_cases hz : R (itr (fun _ S => R S) (2 ^ p0) k) = itr (fun _ S => R S) (2 ^ p0) k
      · exact hz
      · exfalso
        have h5 : sct (itr (fun _ S => R S) (2 ^ p0) k) < sct (R (itr (fun _ S => R S) (2 ^ p0) k)) := sct_sub (sub_xdf (h2 _ b1)) (fun z => hz z.symm) (Nat.lt_of_lt_of_le (h1 _ b1) hp16)
        have h6 := sct_full hn (h1 _ b1)
        omega
  exact ⟨a2, h3 _ a1 (fin k hk), a3⟩
