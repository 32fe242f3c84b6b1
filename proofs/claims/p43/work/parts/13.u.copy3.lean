-- ===== a talk's copy, whole =====
section
variable {σ0 σ τ ρ : xd_S} {M M2 fr : xd_M} {tg0 tg tg2 tg3 : lTg} {i B t b1 : Nat} {d : lD} {d1 : Nat × Nat × Nat} {ta : Nat → Option Nat} {X : lX} {c : xd_C} {j n k p l : Nat} {v : Int32} {N : Nat} {K : xd_K}
theorem w_copy (h : tG σ fr tg i t d ta X) (hX : cnX X) (hB : B ≠ 0) (hBn : ∀ a, (tg a).1 ≠ B) {e10 e11 e13 e14 : Nat} (h10 : ta 10 = some e10) (h11 : ta 11 = some e11) (h13 : ta 13 = some e13) (h14 : ta 14 = some e14) (hN : 200 ≤ N) (hC : 42 ≤ σ.2.2.1) (hS : 400 ≤ σ.2.2.2) (hK : ∀ τ tg2 t2 d2, ext σ tg τ tg2 → gI τ.1 fr tg2 → tT τ.1 fr tg2 B t2 d2 ta X → (∀ a, σ.1 a = none → (tg2 a).1 = 0 ∨ (tg2 a).1 = B) → K 0 (some t2) τ) : hX10_copy N t σ K := by
  obtain ⟨hi, hg, hT⟩ := id h
  unfold hX10_copy
  refine ⟨by omega, by omega, fun b1 hb1 => ?_⟩
  have hn1 : ∀ a, σ.1 a ≠ none → a ≠ b1 := fun a ha e => ha (by rw [e]; exact hb1)
  obtain ⟨σ1, hσ1⟩ : ∃ σ1 : xd_S, σ1 = (xd_up σ.1 b1 (14, 0, fun _ => 0, fun _ => none), σ.2.1, σ.2.2.1 - 1, σ.2.2.2 - 16) := ⟨_, rfl⟩
  rw [← hσ1]
  have s1 : σ1.1 b1 = some (14, 0, fun _ => 0, fun _ => none) := by rw [hσ1]; exact xu_s _ _ _
  have s2 : ∀ a, a ≠ b1 → σ1.1 a = σ.1 a := fun a ha => by rw [hσ1]; exact xu_n _ _ ha
  have s3 : σ1.2.1 = σ.2.1 := by rw [hσ1]
  have s4 : σ1.2.2.1 = σ.2.2.1 - 1 := by rw [hσ1]
  have s5 : σ1.2.2.2 = σ.2.2.2 - 16 := by rw [hσ1]
  refine w_cc 17 284 (by omega) (by omega) (w_init (σ := (σ1.1, σ1.2.1, 17, 284)) (t := b1) (by omega) s1 rfl (Nat.le_refl _) (Nat.le_refl _) (fun τ b8 b9 b10 b11 b12 b13 b14 g1 g2 => ?_))
  obtain ⟨cc, f1, f2, f3, f8, f9, f10, f11, f12, f13, f14, f15, m8, m9, m10, m11, m12, m14, ⟨n8, n9, n10, n11, n12, n14⟩, z1, z2, z3⟩ := g2
  obtain ⟨ρ0, hρ0⟩ : ∃ ρ0 : xd_S, ρ0 = (τ.1, τ.2.1, σ1.2.2.1 - 17, σ1.2.2.2 - 284) := ⟨_, rfl⟩
  rw [← hρ0]
  have E0 : exO b1 σ1 ρ0 := by rw [hρ0]; exact g1
  have r1 : ρ0.1 b1 = some cc := by rw [hρ0]; exact f1
  have rM : ρ0.1 = τ.1 := by rw [hρ0]
  have rB : ρ0.2.2 = (σ.2.2.1 - 18, σ.2.2.2 - 300) := by
    rw [hρ0]
    exact Prod.ext (by show σ1.2.2.1 - 17 = σ.2.2.1 - 18; omega) (by show σ1.2.2.2 - 284 = σ.2.2.2 - 300; omega)
  have hold : ∀ ρ : xd_S, exO b1 σ1 ρ → tT ρ.1 fr tg i t d ta X := fun ρ hE => hT.keep (fun a ha => by
    have h1 : σ.1 a ≠ none := hg.2 a (by rw [ha]; exact hi)
    have h2 := hn1 a h1
    exact (hE.1 a h2 (by rw [s2 a h2]; exact h1)).trans (s2 a h2)) (fun _ _ q => q)
  refine t_gI (hold ρ0 E0) (j := 0) (by omega) (l_pI r1 f2 (fun ρ1 c1 x1 y1 => ?_))
  have E1 := E0.trans x1
  refine t_gI (hold ρ1 E1) (j := 1) (by omega) (l_pI c1 rfl (fun ρ2 c2 x2 y2 => ?_))
  have E2 := E1.trans x2
  refine t_gI (hold ρ2 E2) (j := 2) (by omega) (l_pI c2 rfl (fun ρ3 c3 x3 y3 => ?_))
  have E3 := E2.trans x3
  refine t_gI (hold ρ3 E3) (j := 3) (by omega) (l_pI c3 rfl (fun ρ4 c4 x4 y4 => ?_))
  have E4 := E3.trans x4
  refine t_gI (hold ρ4 E4) (j := 4) (by omega) (l_pI c4 rfl (fun ρ5 c5 x5 y5 => ?_))
  have E5 := E4.trans x5
  refine t_gI (hold ρ5 E5) (j := 5) (by omega) (l_pI c5 rfl (fun ρ6 c6 x6 y6 => ?_))
  have E6 := E5.trans x6
  obtain ⟨F, hF⟩ : ∃ F, F = upd (upd (upd (upd (upd (upd cc.2.2.1 0 (X.1 0)) 1 (X.1 1)) 2 (X.1 2)) 3 (X.1 3)) 4 (X.1 4)) 5 (X.1 5) := ⟨_, rfl⟩
  have c6' : ρ6.1 b1 = some (14, cc.2.1, F, cc.2.2.2) := by rw [hF]; exact c6
  have q6 : ρ6.2.2 = (σ.2.2.1 - 18, σ.2.2.2 - 300) := by rw [y6, y5, y4, y3, y2, y1, rB]
  have E06 : exO b1 ρ0 ρ6 := x1.trans (x2.trans (x3.trans (x4.trans (x5.trans x6))))
  clear c1 c2 c3 c4 c5 c6
  refine t_gT (hold ρ6 E6) (by omega) h10 (l_pR c6' rfl (fun ρ7 c7 x7 y7 => ?_))
  have E7 := E6.trans x7
  refine t_gT (hold ρ7 E7) (by omega) h11 (l_pR c7 rfl (fun ρ8 c8 x8 y8 => ?_))
  have E8 := E7.trans x8
  refine t_gT (hold ρ8 E8) (by omega) h14 (l_pR c8 rfl (fun ρ9 c9 x9 y9 => ?_))
  have E9 := E8.trans x9
  refine t_gT (hold ρ9 E9) (by omega) h13 (l_pR c9 rfl (fun ρ10 c10 x10 y10 => ?_))
  have E10 := E9.trans x10
  refine t_gO (hold ρ10 E10) (l_pR c10 rfl (fun ρ11 c11 x11 y11 => ?_))
  have E11 := E10.trans x11
  obtain ⟨V, hV⟩ : ∃ V, V = va_up (va_up (va_up (va_up (va_up cc.2.2.2 10 (some e10)) 11 (some e11)) 14 (some e14)) 13 (some e13)) 15 (ta 15) := ⟨_, rfl⟩
  have c11' : ρ11.1 b1 = some (14, cc.2.1, F, V) := by rw [hV]; exact c11
  have q11 : ρ11.2.2 = (σ.2.2.1 - 18, σ.2.2.2 - 300) := by rw [y11, y10, y9, y8, y7, q6]
  have E011 : exO b1 ρ0 ρ11 := E06.trans (x7.trans (x8.trans (x9.trans (x10.trans x11))))
  clear c7 c8 c9 c10 c11
  unfold xd_lt
  have w8 : ρ11.1 b8 = some (2, 14, fun _ => 0, fun _ => none) := E011.at (fun e => by rw [e] at n8; exact nomatch (s1.symm.trans n8)) (by rw [rM]; exact m8)
  have w9 : ρ11.1 b9 = some (2, 10, fun _ => 0, fun _ => none) := E011.at (fun e => by rw [e] at n9; exact nomatch (s1.symm.trans n9)) (by rw [rM]; exact m9)
  have w12 : ρ11.1 b12 = some (2, 150, fun _ => 0, fun _ => none) := E011.at (fun e => by rw [e] at n12; exact nomatch (s1.symm.trans n12)) (by rw [rM]; exact m12)
  have k8 : b8 ≠ b1 := fun e => by rw [e] at n8; exact nomatch (s1.symm.trans n8)
  have k9 : b9 ≠ b1 := fun e => by rw [e] at n9; exact nomatch (s1.symm.trans n9)
  have k12 : b12 ≠ b1 := fun e => by rw [e] at n12; exact nomatch (s1.symm.trans n12)
  have v8 : σ.1 b8 = none := (s2 b8 k8).symm.trans n8
  have v9 : σ.1 b9 = none := (s2 b9 k9).symm.trans n9
  have v12 : σ.1 b12 = none := (s2 b12 k12).symm.trans n12
  obtain ⟨tgn, htg⟩ : ∃ tgn, tgn = tgu (tgu (tgu (tgu tg b1 (B, 0, 0)) b8 (B, 1, 0)) b9 (B, 2, 0)) b12 (B, 3, 0) := ⟨_, rfl⟩
  have tn : ∀ a, a ≠ b1 → a ≠ b8 → a ≠ b9 → a ≠ b12 → tgn a = tg a := fun a h1 h2 h3 h4 => by rw [htg, tgu_n _ _ h4, tgu_n _ _ h3, tgu_n _ _ h2, tgu_n _ _ h1]
  have t1 : tgn b1 = (B, 0, 0) := by rw [htg, tgu_n _ _ k12.symm, tgu_n _ _ k9.symm, tgu_n _ _ k8.symm, tgu_s]
  have t8 : tgn b8 = (B, 1, 0) := by rw [htg, tgu_n _ _ z2, tgu_n _ _ z1, tgu_s]
  have t9 : tgn b9 = (B, 2, 0) := by rw [htg, tgu_n _ _ z3, tgu_s]
  have t12 : tgn b12 = (B, 3, 0) := by rw [htg, tgu_s]
  have four : ∀ a, σ.1 a ≠ none → a ≠ b1 ∧ a ≠ b8 ∧ a ≠ b9 ∧ a ≠ b12 := fun a ha => ⟨fun e => ha (by rw [e]; exact hb1), fun e => ha (by rw [e]; exact v8), fun e => ha (by rw [e]; exact v9), fun e => ha (by rw [e]; exact v12)⟩
  have hsame : ∀ a, σ.1 a ≠ none → ρ11.1 a = σ.1 a ∧ tgn a = tg a := fun a ha => by
    obtain ⟨a1, a2, a3, a4⟩ := four a ha
    exact ⟨(E11.1 a a1 (by rw [s2 a a1]; exact ha)).trans (s2 a a1), tn a a1 a2 a3 a4⟩
  refine cp_98 (σ0 := σ) (tg0 := tg) (d1 := (b8, b9, b12)) (ta := ta) (X := X) hi hB hBn hT hg hX hN (by rw [q11]; show 24 ≤ σ.2.2.1 - 18; omega) (by rw [q11]; show 100 ≤ σ.2.2.2 - 300; omega) ⟨tgn, fun _ => 0, fun _ => 0, ⟨hsame, E11.2.2.trans s3⟩, ⟨fun a ca ha => ?_, fun a ha => ?_⟩, ⟨⟨_, c11', rfl, fun j hj => ?_, ?_, ?_, ?_, fun j hj => ?_, t1⟩, ⟨_, w8, rfl, rfl, fun q hq => absurd hq (Nat.not_lt_zero q), t8⟩, ⟨_, w9, rfl, rfl, fun q hq => absurd hq (Nat.not_lt_zero q), t9⟩, ⟨_, w12, rfl, rfl, fun q hq => absurd hq (Nat.not_lt_zero q), t12⟩, fun q hq => absurd hq (Nat.not_lt_zero q), fun q hq => absurd hq (Nat.not_lt_zero q)⟩, fun a ha => ?_⟩ (fun ρ hρ => ?_)
  · obtain ⟨a1, a2⟩ := hg.1 a ca ha
    obtain ⟨b1', b2'⟩ := hsame a (by rw [a1]; simp)
    exact ⟨b1'.trans a1, by rw [b2']; exact a2⟩
  · by_cases y1 : a = b1
    · rw [y1, c11']
      simp
    · by_cases y8 : a = b8
      · rw [y8, w8]
        simp
      · by_cases y9 : a = b9
        · rw [y9, w9]
          simp
        · by_cases y12 : a = b12
          · rw [y12, w12]
            simp
          · rw [tn a y1 y8 y9 y12] at ha
            have h1 := hg.2 a ha
            rw [(hsame a h1).1]
            exact h1
  · show F j = X.1 j
    rw [hF]
    have : j = 0 ∨ j = 1 ∨ j = 2 ∨ j = 3 ∨ j = 4 ∨ j = 5 := by omega
    rcases this with rfl | rfl | rfl | rfl | rfl | rfl <;> simp [upd]
  · show V 8 = some b8
    rw [hV, vup_n _ _ (by omega), vup_n _ _ (by omega), vup_n _ _ (by omega), vup_n _ _ (by omega), vup_n _ _ (by omega)]
    exact f8
  · show V 9 = some b9
    rw [hV, vup_n _ _ (by omega), vup_n _ _ (by omega), vup_n _ _ (by omega), vup_n _ _ (by omega), vup_n _ _ (by omega)]
    exact f9
  · show V 12 = some b12
    rw [hV, vup_n _ _ (by omega), vup_n _ _ (by omega), vup_n _ _ (by omega), vup_n _ _ (by omega), vup_n _ _ (by omega)]
    exact f12
  · show V j = ta j
    rw [hV]
    rcases hj with rfl | rfl | rfl | rfl | rfl
    · rw [h10, vup_n _ _ (by omega), vup_n _ _ (by omega), vup_n _ _ (by omega), vup_n _ _ (by omega), vup_s]
    · rw [h11, vup_n _ _ (by omega), vup_n _ _ (by omega), vup_n _ _ (by omega), vup_s]
    · rw [h13, vup_n _ _ (by omega), vup_s]
    · rw [h14, vup_n _ _ (by omega), vup_n _ _ (by omega), vup_s]
    · rw [vup_s]
  · by_cases y1 : a = b1
    · rw [y1, t1]
      exact Or.inr rfl
    · by_cases y8 : a = b8
      · rw [y8, t8]
        exact Or.inr rfl
      · by_cases y9 : a = b9
        · rw [y9, t9]
          exact Or.inr rfl
        · by_cases y12 : a = b12
          · rw [y12, t12]
            exact Or.inr rfl
          · rw [tn a y1 y8 y9 y12]
            exact Or.inl (hg.tag0 ha)
  · obtain ⟨tg2, rw', rm, e1, e2, e3, e4⟩ := hρ
    exact hK ρ tg2 b1 _ e1 e2 e3 e4
end
