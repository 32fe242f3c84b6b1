section
variable {σ τ ρ : xd_S} {fr fr2 : xd_M} {tg tg2 : lTg} {i t b6 : Nat} {d : lD} {ta ta2 : Nat → Option Nat} {X X2 : lX} {N M : Nat} {K : xd_K} {m n k j r B B2 I2 T2 : Nat} {J J2 : xc_M} {w w2 : Nat → Int32} {R : Nat → Nat → Int32} {Sc : Nat × Nat × (Nat → Int32)} {V0 : Nat → Option Nat} {g0 : Nat → Int32}
/-- behind a step: as many kept, and the same -/
theorem law_1100 {k41 : Nat → Nat → Int32 → Int32 → xd_S → Prop} (hN : 1000 ≤ N) (h : SAM σ fr tg i t d ta X J) (h4 : J 0 4 = nI n) (hC : 1 ≤ σ.2.2.1) (hS : 8 ≤ σ.2.2.2) (hK : ∀ τ' J', SAM τ' fr tg i t d ta X J' → smJ J J' → (∀ x, σ.1 x ≠ none → τ'.1 x = σ.1 x) → τ'.2.2.1 + 1 = σ.2.2.1 → τ'.2.2.2 + 8 = σ.2.2.2 → k41 t b6 (nI n) (nI (r + 1)) τ') : hbL_law_1100 N M Sc K k41 t b6 (nI n) (nI r) σ := by
  obtain ⟨hG, hw, hRR, h18, hl, hm, hd, hk⟩ := h
  have a1 : fX9_look N σ.2.1 12 = some (J 0 4) := c_look hRR hN (m := 12) (by omega)
  rw [h4] at a1
  unfold hbL_law_1100
  refine w_xr a1 (w_f (fun z => z (Eq.refl _)) (t_is hG.T (w_cc 1 8 hC hS (w_same (σ := (σ.1, σ.2.1, 1, 8)) (J := J) hG.st hw hRR hl hk hd hm hN (Nat.le_refl _) (Nat.le_refl _) (fun ρ J2 g1 g2 g3 g4 => ?_)))))
  obtain ⟨s1, s2, s3⟩ := id g4
  refine w_t (by decide) (w_lt (nI_add r 1) (hK _ J2 ⟨g2.st, by rw [s1]; exact hw, g3, by rw [s3]; exact h18, by rw [s1]; exact hl, by rw [s1]; exact hm, by rw [s1]; exact hd, by rw [s1]; exact hk⟩ g4 g1 ?_ ?_))
  · show σ.2.2.1 - 1 + 1 = σ.2.2.1
    omega
  · show σ.2.2.2 - 8 + 8 = σ.2.2.2
    omega
/-- the places of six kept talks, moved by one, up to the place j -/
def shV (V0 : Nat → Option Nat) (j : Nat) : Nat → Option Nat := fun s => if s + 1 < j then V0 (s + 1) else V0 s
theorem shV_s (V0 : Nat → Option Nat) {j : Nat} (h : 1 ≤ j) : va_up (shV V0 j) (j - 1) (V0 j) = shV V0 (j + 1) := by
  funext s
  by_cases z : s = j - 1
  · rw [z, vup_s]
    unfold shV
    rw [if_pos (by omega), show j - 1 + 1 = j by omega]
  · rw [vup_n _ _ z]
    unfold shV
    by_cases q : s + 1 < j
    · rw [if_pos q, if_pos (by omega)]
    · rw [if_neg q, if_neg (by omega)]
end
