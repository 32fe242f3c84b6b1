-- ===== round: depth first =====
theorem ex_loop {α : Type} (L : Nat → Nat → xc_M → Option α) (Q : Nat → xc_M → Prop) (n : Nat) (R : xc_M → Option α) (hx : ∀ fu K, Q n K → L (fu + 1) n K = R K) (hs : ∀ fu i K, i < n → Q i K → ∃ K', Q (i + 1) K' ∧ L (fu + 1) i K = L fu (i + 1) K') : ∀ fu K, n < fu → Q 0 K → ∃ K', Q n K' ∧ L fu 0 K = R K' := by
  have key : ∀ d i fu K, i + d = n → d < fu → Q i K → ∃ K', Q n K' ∧ L fu i K = R K' := by
    intro d
    induction d with
    | zero =>
      intro i fu K hi hf hq
      obtain ⟨g, rfl⟩ : ∃ g, fu = g + 1 := ⟨fu - 1, by omega⟩
      have e : i = n := by omega
      subst e
      exact ⟨K, hq, hx g K hq⟩
    | succ d ih =>
      intro i fu K hi hf hq
      obtain ⟨g, rfl⟩ : ∃ g, fu = g + 1 := ⟨fu - 1, by omega⟩
      obtain ⟨K1, k1, k2⟩ := hs g i K (by omega) hq
      obtain ⟨K2, k3, k4⟩ := ih (i + 1) g K1 (by omega) (by omega) k1
      exact ⟨K2, k3, k2.trans k4⟩
  intro fu K hf hq
  exact key n 0 fu K (by omega) hf hq
