section
variable {σ τ ρ : xd_S} {t b6 a10 : Nat} {N M : Nat} {K : xd_K} {m n k j r : Nat} {Sc : Nat × Nat × (Nat → Int32)} {V0 : Nat → Option Nat} {g0 : Nat → Int32}
theorem xu_id {Mm : xd_M} {b : Nat} {c : xd_C} (h : Mm b = some c) : xd_up Mm b c = Mm := by
  funext x
  by_cases z : x = b
  · rw [z, xu_s, h]
  · rw [xu_n _ _ z]
theorem shV_1 (V0 : Nat → Option Nat) : shV V0 1 = V0 := by
  funext s
  unfold shV
  rw [if_neg (by omega)]
/-- six kept talks are moved by one -/
theorem law_1065 {k41 : Nat → Nat → Int32 → Int32 → xd_S → Prop} (hN : 100 ≤ N) (hcell : σ.1 b6 = some (4, 6, g0, V0)) (hV : ∀ s, s < 6 → ∃ T c, V0 s = some T ∧ σ.1 T = some c ∧ c.1 = 14) (hK : ∀ τ, τ.1 = xd_up σ.1 b6 (4, 6, g0, shV V0 6) → τ.2 = σ.2 → hbL_law_1091 N M Sc K k41 t b6 (nI 5) (nI r) a10 τ) : hlL_law_1065 N M Sc K k41 N t b6 (nI 6) (nI r) a10 1 σ := by
  refine w_loop (S := xd_S) (fun fu j τ => hlL_law_1065 N M Sc K k41 fu t b6 (nI 6) (nI r) a10 (nI j) τ) 6 (fun j τ => 1 ≤ j ∧ τ.1 = xd_up σ.1 b6 (4, 6, g0, shV V0 j) ∧ τ.2 = σ.2) (fun fu τ hI => ?_) (fun fu j τ hj hI ih => ?_) N 1 σ (by omega) (by omega) ⟨Nat.le_refl _, by rw [shV_1, xu_id hcell], Eq.refl _⟩
  · show hbL_law_1065 N M Sc K k41 _ t b6 (nI 6) (nI r) a10 (nI 6) τ
    unfold hbL_law_1065
    exact w_t (by decide) (w_lt (v := nI 5) (by decide) (hK τ hI.2.1 hI.2.2))
  · obtain ⟨i1, i2, i3⟩ := hI
    obtain ⟨T, c, v1, v2, v3⟩ := hV j hj
    have nT : T ≠ b6 := fun z => by
      rw [z, hcell] at v2
      rw [← Option.some.inj v2] at v3
      exact absurd v3 (by show ¬ (4 : Nat) = 14; decide)
    have e6 : τ.1 b6 = some (4, 6, g0, shV V0 j) := by rw [i2]; exact xu_s _ _ _
    have eT : τ.1 T = some c := by rw [i2, xu_n _ _ nT]; exact v2
    have ej : shV V0 j j = some T := by
      unfold shV
      rw [if_neg (by omega)]
      exact v1
    show hbL_law_1065 N M Sc K k41 _ t b6 (nI 6) (nI r) a10 (nI j) τ
    unfold hbL_law_1065
    refine w_f (by rw [show (6 : Int32) = nI 6 from rfl, xp_le (by omega) (by omega)]; omega) (w_aR (n := j) e6 (Eq.refl _) (Eq.refl _) ⟨hj, by show 6 < 2 ^ 31; decide⟩ ej ?_)
    refine w_sRg (n := j - 1) (c := (4, 6, g0, shV V0 j)) e6 (Eq.refl _) eT v3 (by rw [show (1 : Int32) = nI 1 from rfl, pk_sub i1]) ⟨by show j - 1 < 6; omega, by show 6 < 2 ^ 31; decide⟩ (fun σb fa fb => ?_)
    refine w_lt (nI_add j 1) (ih σb ⟨by omega, ?_, fb.trans i3⟩)
    rw [fa, i2, xu_u, ← v1]
    show xd_up σ.1 b6 (4, 6, g0, va_up (shV V0 j) (j - 1) (V0 j)) = _
    rw [shV_s V0 i1]
end
