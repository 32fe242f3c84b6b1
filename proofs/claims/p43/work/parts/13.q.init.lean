-- ===== a talk is made =====
def exO (t : Nat) (σ τ : xd_S) : Prop := (∀ a, a ≠ t → σ.1 a ≠ none → τ.1 a = σ.1 a) ∧ (∀ a, σ.1 a ≠ none → τ.1 a ≠ none) ∧ τ.2.1 = σ.2.1
section
variable {σ τ ρ : xd_S} {t : Nat} {c : xd_C} {j n k : Nat} {v : Int32} {N : Nat} {K : xd_K}
theorem exO.rfl : exO t σ σ := ⟨fun _ _ _ => Eq.refl _, fun _ h => h, Eq.refl _⟩
theorem exO.trans (h : exO t σ τ) (g : exO t τ ρ) : exO t σ ρ := ⟨fun a h1 h2 => (g.1 a h1 (h.2.1 a h2)).trans (h.1 a h1 h2), fun a h1 => g.2.1 a (h.2.1 a h1), g.2.2.trans h.2.2⟩
theorem exO.at (h : exO t σ τ) {a : Nat} (ha : a ≠ t) (hc : σ.1 a = some c) : τ.1 a = some c := (h.1 a ha (by rw [hc]; simp)).trans hc
theorem exO.b (h : exO t σ τ) {x y : Nat} : exO t σ (τ.1, τ.2.1, x, y) := h
theorem exO.up {M : xd_M} {s : xc_M × Nat × Nat} {c2 : xd_C} (hc : M t = some c) : exO t (M, s) (xd_up M t c2, s) := ⟨fun a ha _ => xu_n _ _ ha, fun a ha => by
  by_cases e : a = t
  · rw [e]
    simp [xd_up]
  · show xd_up _ _ _ a ≠ none
    rw [xu_n _ _ e]
    exact ha, Eq.refl _⟩
theorem l_pI {f : xd_S → Prop} (hc : σ.1 t = some c) (hk : c.1 = 14) (hf : ∀ τ, τ.1 t = some (14, c.2.1, upd c.2.2.1 j v, c.2.2.2) → exO t σ τ → τ.2.2 = σ.2.2 → f τ) : xd_pI 14 t j v σ f :=
  w_pI hc hk rfl (hf _ (xu_s _ _ _) (exO.up (s := σ.2) hc) rfl)
theorem l_pR {f : xd_S → Prop} {u : Option Nat} (hc : σ.1 t = some c) (hk : c.1 = 14) (hf : ∀ τ, τ.1 t = some (14, c.2.1, c.2.2.1, va_up c.2.2.2 j u) → exO t σ τ → τ.2.2 = σ.2.2 → f τ) : xd_pR 14 t j u σ f :=
  w_pR hc hk (hf _ (xu_s _ _ _) (exO.up (s := σ.2) hc) rfl)
theorem l_nw {f : Nat → xd_S → Prop} {s : Nat} {cn : xd_C} (ht : σ.1 t = some c) (h1 : 1 ≤ σ.2.2.1) (h2 : s ≤ σ.2.2.2) (hf : ∀ b τ, σ.1 b = none → τ.1 b = some cn → (∀ a, a ≠ b → τ.1 a = σ.1 a) → exO t σ τ → τ.1 t = some c → b ≠ t → τ.2.2 = (σ.2.2.1 - 1, σ.2.2.2 - s) → f b τ) : xd_nw cn s σ f := by
  refine ⟨h1, h2, fun b hb => ?_⟩
  have hbt : b ≠ t := fun e => by rw [e, ht] at hb; exact nomatch hb
  refine hf b _ hb (xu_s _ _ _) (fun a ha => xu_n _ _ ha) ⟨fun a h3 h4 => xu_n _ _ (fun e => h4 (by rw [e]; exact hb)), fun a h4 => ?_, rfl⟩ ((xu_n _ _ hbt.symm).trans ht) hbt rfl
  show xd_up _ _ _ a ≠ none
  rw [xu_n _ _ (fun e => h4 (by rw [e]; exact hb))]
  exact h4
theorem l_na {f : Nat → xd_S → Prop} (ht : σ.1 t = some c) (hm : v = nI n) (hn : n ≤ 1000) (h1 : 1 ≤ σ.2.2.1) (h2 : n ≤ σ.2.2.2) (hf : ∀ b τ, σ.1 b = none → τ.1 b = some (k, n, fun _ => 0, fun _ => none) → (∀ a, a ≠ b → τ.1 a = σ.1 a) → exO t σ τ → τ.1 t = some c → b ≠ t → τ.2.2 = (σ.2.2.1 - 1, σ.2.2.2 - n) → f b τ) : xd_na k v σ f := by
  subst hm
  have e : (nI n).toNatClampNeg = n := nI_clamp (by omega)
  refine ⟨nn_f (by omega), by rw [e]; omega, ?_⟩
  rw [e]
  exact l_nw ht h1 h2 hf
theorem nsome {M : xd_M} {a : Nat} (h : M a = some c) : M a ≠ none := by rw [h]; simp
/-- the miles of a fresh talk -/
theorem w_init88 {b18 : Nat} {c : xd_C} (hN : 100 ≤ N) (R : Nat → Prop) (hR : ∀ q, q < 10 → R (b18 + 1 + q)) (σ0 : xd_S) (h13 : c.1 = 14 ∧ c.2.2.2 13 = some b18) (ht : ¬ R t) (hb : ¬ R b18) {cm : xd_C} (hcm : cm.1 = 2 ∧ cm.2.1 = 10 ∧ ∀ q, q < 10 → cm.2.2.2 q = some (b18 + 1 + q)) (h0 : σ0.1 t = some c ∧ σ0.1 b18 = some cm ∧ ∀ q, q < 10 → ∃ e, σ0.1 (b18 + 1 + q) = some e ∧ e.1 = 0 ∧ e.2.1 = 10) (hK : ∀ τ : xd_S, (∀ a, ¬ R a → τ.1 a = σ0.1 a) → (∀ a, σ0.1 a ≠ none → τ.1 a ≠ none) → τ.2 = σ0.2 → K 0 none τ) : hlX10_init_80 N K N t (nI 0) σ0 := by
  have Inv : xd_S → Prop := fun τ => (∀ a, ¬ R a → τ.1 a = σ0.1 a) ∧ (∀ a, σ0.1 a ≠ none → τ.1 a ≠ none) ∧ τ.2 = σ0.2 ∧ ∀ q, q < 10 → ∃ e, τ.1 (b18 + 1 + q) = some e ∧ e.1 = 0 ∧ e.2.1 = 10
  refine w_loop (fun fu j (τ : xd_S) => hlX10_init_80 N K fu t (nI j) τ) 10 (fun _ τ => (∀ a, ¬ R a → τ.1 a = σ0.1 a) ∧ (∀ a, σ0.1 a ≠ none → τ.1 a ≠ none) ∧ τ.2 = σ0.2 ∧ ∀ q, q < 10 → ∃ e, τ.1 (b18 + 1 + q) = some e ∧ e.1 = 0 ∧ e.2.1 = 10) (fun fu τ hh => ?_) (fun fu j τ hj hh hn => ?_) N 0 σ0 (by omega) (by omega) ⟨fun _ _ => rfl, fun _ h => h, rfl, h0.2.2⟩
  · obtain ⟨a1, a2, a3, a4⟩ := hh
    show hbX10_init_80 N K (hlX10_init_80 N K fu) t (nI 10) τ
    exact w_t (by decide) (hK τ a1 a2 a3)
  · show hbX10_init_80 N K (hlX10_init_80 N K fu) t (nI j) τ
    refine w_f (by show ¬ nI 10 ≤ nI j; rw [xp_le (by omega) (by omega)]; omega) ?_
    unfold xd_lt
    refine w_loop (fun f2 q (τ : xd_S) => hlX10_init_88 N K (hlX10_init_80 N K fu) f2 t (nI j) (nI q) τ) 10 (fun _ τ => (∀ a, ¬ R a → τ.1 a = σ0.1 a) ∧ (∀ a, σ0.1 a ≠ none → τ.1 a ≠ none) ∧ τ.2 = σ0.2 ∧ ∀ q, q < 10 → ∃ e, τ.1 (b18 + 1 + q) = some e ∧ e.1 = 0 ∧ e.2.1 = 10) (fun f2 τ2 hh2 => ?_) (fun f2 q τ2 hq hh2 hn2 => ?_) N 0 τ (by omega) (by omega) hh
    · show hbX10_init_88 N K (hlX10_init_80 N K fu) (hlX10_init_88 N K (hlX10_init_80 N K fu) f2) t (nI j) (nI 10) τ2
      refine w_t (by decide) ?_
      unfold xd_lt
      rw [show (nI j + 1) = nI (j + 1) from (nI_succ j).symm]
      exact hn τ2 hh2
    · obtain ⟨a1, a2, a3, a4⟩ := hh2
      show hbX10_init_88 N K (hlX10_init_80 N K fu) (hlX10_init_88 N K (hlX10_init_80 N K fu) f2) t (nI j) (nI q) τ2
      obtain ⟨e, e1, e2, e3⟩ := a4 j hj
      refine w_f (by show ¬ nI 10 ≤ nI q; rw [xp_le (by omega) (by omega)]; omega) (w_gR ((a1 t ht).trans h0.1) h13.1 h13.2 (w_aR ((a1 b18 hb).trans h0.2.1) hcm.1 rfl ⟨by omega, by omega⟩ (hcm.2.2 j hj) ?_))
      have fin : ∀ u : Int32, hbX10_init_112 N K (hlX10_init_80 N K fu) (hlX10_init_88 N K (hlX10_init_80 N K fu) f2) t (nI j) (nI q) u (nI q) (b18 + 1 + j) τ2 := by
        intro u
        unfold hbX10_init_112 xd_lt
        refine w_sI e1 e2 rfl ⟨by omega, by omega⟩ rfl ?_
        rw [show (nI q + 1) = nI (q + 1) from (nI_succ q).symm]
        refine hn2 _ ⟨fun a ha => ?_, fun a ha => ?_, a3, fun q2 hq2 => ?_⟩
        · show xd_up _ _ _ a = _
          rw [xu_n _ _ (fun z => ha (by rw [z]; exact hR j hj))]
          exact a1 a ha
        · show xd_up _ _ _ a ≠ none
          by_cases z : a = b18 + 1 + j
          · rw [z]
            simp [xd_up]
          · rw [xu_n _ _ z]
            exact a2 a ha
        · by_cases z : q2 = j
          · subst z
            exact ⟨_, xu_s _ _ _, rfl, e3⟩
          · obtain ⟨x, x1, x2⟩ := a4 q2 hq2
            refine ⟨x, ?_, x2⟩
            show xd_up _ _ _ _ = _
            rw [xu_n _ _ (by omega)]
            exact x1
      by_cases z : nI j = nI q
      · exact w_f (fun y => y z) (fin 0)
      · exact w_t z (fin 10)
end
