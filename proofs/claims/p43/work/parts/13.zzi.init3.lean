-- ===== a talk is made, whole, with its miles =====
/-- a fresh talk's miles: ten rows of ten -/
def mlT0 (σ : xd_S) (M : xd_M) (b13 : Nat) : Prop := ∃ cm : xd_C, M b13 = some cm ∧ cm.1 = 2 ∧ cm.2.1 = 10 ∧ σ.1 b13 = none ∧ ∀ q, q < 10 → ∃ (e : Nat) (ce : xd_C), cm.2.2.2 q = some e ∧ σ.1 e = none ∧ M e = some ce ∧ ce.1 = 0 ∧ ce.2.1 = 10
section
variable {σ τ ρ : xd_S} {t : Nat} {c : xd_C} {j n k : Nat} {v : Int32} {N : Nat} {K : xd_K}
/-- the miles of a fresh talk -/
theorem w_init88m {b18 : Nat} {c : xd_C} (hN : 100 ≤ N) (R : Nat → Prop) (hR : ∀ q, q < 10 → R (b18 + 1 + q)) (σ0 : xd_S) (h13 : c.1 = 14 ∧ c.2.2.2 13 = some b18) (ht : ¬ R t) (hb : ¬ R b18) {cm : xd_C} (hcm : cm.1 = 2 ∧ cm.2.1 = 10 ∧ ∀ q, q < 10 → cm.2.2.2 q = some (b18 + 1 + q)) (h0 : σ0.1 t = some c ∧ σ0.1 b18 = some cm ∧ ∀ q, q < 10 → ∃ e, σ0.1 (b18 + 1 + q) = some e ∧ e.1 = 0 ∧ e.2.1 = 10) (hK : ∀ τ : xd_S, (∀ a, ¬ R a → τ.1 a = σ0.1 a) → (∀ a, σ0.1 a ≠ none → τ.1 a ≠ none) → τ.2 = σ0.2 → (∀ q, q < 10 → ∃ e, τ.1 (b18 + 1 + q) = some e ∧ e.1 = 0 ∧ e.2.1 = 10) → K 0 none τ) : hlX10_init_80 N K N t (nI 0) σ0 := by
  refine w_loop (fun fu j (τ : xd_S) => hlX10_init_80 N K fu t (nI j) τ) 10 (fun _ τ => (∀ a, ¬ R a → τ.1 a = σ0.1 a) ∧ (∀ a, σ0.1 a ≠ none → τ.1 a ≠ none) ∧ τ.2 = σ0.2 ∧ ∀ q, q < 10 → ∃ e, τ.1 (b18 + 1 + q) = some e ∧ e.1 = 0 ∧ e.2.1 = 10) (fun fu τ hh => ?_) (fun fu j τ hj hh hn => ?_) N 0 σ0 (by omega) (by omega) ⟨fun _ _ => rfl, fun _ h => h, rfl, h0.2.2⟩
  · obtain ⟨a1, a2, a3, a4⟩ := hh
    show hbX10_init_80 N K (hlX10_init_80 N K fu) t (nI 10) τ
    exact w_t (by decide) (hK τ a1 a2 a3 a4)
  · show hbX10_init_80 N K (hlX10_init_80 N K fu) t (nI j) τ
    refine w_f (by show ¬ nI 10 ≤ nI j; rw [xp_le (by omega) (by omega)]; omega) ?_
    unfold xd_lt
    refine w_loop (fun f2 q (τ : xd_S) => hlX10_init_88 N K (hlX10_init_80 N K fu) f2 t (nI j) (nI q) τ) 10 (fun _ τ => (∀ a, ¬ R a → τ.1 a = σ0.1 a) ∧ (∀ a, σ0.1 a ≠ none → τ.1 a ≠ none) ∧ τ.2 = σ0.2 ∧ ∀ q, q < 10 → ∃ e, τ.1 (b18 + 1 + q) = some e ∧ e.1 = 0 ∧ e.2.1 = 10) (fun f2 τ2 hh2 => ?_) (fun f2 q τ2 hq hh2 hn2 => ?_) N 0 τ (by omega) (by omega) hh
    · show hbX10_init_88 N K (hlX10_init_80 N K fu) (hlX10_init_88 N K (hlX10_init_80 N K fu) f2) t (nI j) (nI 10) τ2
      refine w_t (by decide) ?_
      unfold xd_lt
      rw [show (nI j + 1) = nI (j + 1) from (nI_succ j).symm]
      exact hn τ2 hh2
    · obtain ⟨a1, a2, a3, a4⟩ := hh2
      show hbX10_init_88 N K (hlX10_init_80 N K fu) (hlX10_init_88 N K (hlX10_init_80 N K fu) f2) t (nI j) (nI q) τ2
      obtain ⟨e, e1, e2, e3⟩ := a4 j hj
      refine w_f (by show ¬ nI 10 ≤ nI q; rw [xp_le (by omega) (by omega)]; omega) (w_gR ((a1 t ht).trans h0.1) h13.1 h13.2 (w_aR ((a1 b18 hb).trans h0.2.1) hcm.1 rfl ⟨by omega, by omega⟩ (hcm.2.2 j hj) ?_))
      have fin : ∀ u : Int32, hbX10_init_112 N K (hlX10_init_80 N K fu) (hlX10_init_88 N K (hlX10_init_80 N K fu) f2) t (nI j) (nI q) u (nI q) (b18 + 1 + j) τ2 := by
        intro u
        unfold hbX10_init_112 xd_lt
        refine w_sI e1 e2 rfl ⟨by omega, by omega⟩ rfl ?_
        rw [show (nI q + 1) = nI (q + 1) from (nI_succ q).symm]
        refine hn2 _ ⟨fun a ha => ?_, fun a ha => ?_, a3, fun q2 hq2 => ?_⟩
        · show xd_up _ _ _ a = _
          rw [xu_n _ _ (fun z => ha (by rw [z]; exact hR j hj))]
          exact a1 a ha
        · show xd_up _ _ _ a ≠ none
          by_cases z : a = b18 + 1 + j
          · rw [z]
            simp [xd_up]
          · rw [xu_n _ _ z]
            exact a2 a ha
        · by_cases z : q2 = j
          · subst z
            exact ⟨_, xu_s _ _ _, rfl, e3⟩
          · obtain ⟨x, x1, x2⟩ := a4 q2 hq2
            refine ⟨x, ?_, x2⟩
            show xd_up _ _ _ _ = _
            rw [xu_n _ _ (by omega)]
            exact x1
      by_cases z : nI j = nI q
      · exact w_f (fun y => y z) (fin 0)
      · exact w_t z (fin 10)
theorem w_initm (hN : 100 ≤ N) (ht : σ.1 t = some c) (hk : c.1 = 14) (h1 : 17 ≤ σ.2.2.1) (h2 : 284 ≤ σ.2.2.2) (hK : ∀ τ b8 b9 b10 b11 b12 b13 b14, exO t σ τ → frT σ τ t c b8 b9 b10 b11 b12 b13 b14 → mlT0 σ τ.1 b13 → K 0 none τ) : hX10_init N t σ K := by
  unfold hX10_init
  refine l_pI ht hk (fun τ1 g1 x1 y1 => l_pI g1 rfl (fun τ2 g2 x2 y2 => ?_))
  have q2 : τ2.2.2 = σ.2.2 := y2.trans y1
  refine l_na (n := 14) g2 rfl (by omega) (by rw [q2]; omega) (by rw [q2]; omega) (fun b8 τ3 n8 m8 o8 x3 g3 z8 q3 => l_pR g3 rfl (fun τ4 g4 x4 y4 => ?_))
  have q4 : τ4.2.2 = (σ.2.2.1 - 1, σ.2.2.2 - 14) := by rw [y4, q3, q2]
  refine l_na (n := 10) g4 rfl (by omega) (by rw [q4]; show 1 ≤ σ.2.2.1 - 1; omega) (by rw [q4]; show 10 ≤ σ.2.2.2 - 14; omega) (fun b9 τ5 n9 m9 o9 x5 g5 z9 q5 => l_pR g5 rfl (fun τ6 g6 x6 y6 => ?_))
  have q6 : τ6.2.2 = (σ.2.2.1 - 2, σ.2.2.2 - 24) := by rw [y6, q5, q4]; rfl
  refine l_na (n := 0) g6 rfl (by omega) (by rw [q6]; show 1 ≤ σ.2.2.1 - 2; omega) (by omega) (fun b10 τ7 n10 m10 o10 x7 g7 z10 q7 => l_pR g7 rfl (fun τ8 g8 x8 y8 => ?_))
  have q8 : τ8.2.2 = (σ.2.2.1 - 3, σ.2.2.2 - 24) := by rw [y8, q7, q6]; rfl
  refine l_na (n := 0) g8 rfl (by omega) (by rw [q8]; show 1 ≤ σ.2.2.1 - 3; omega) (by omega) (fun b11 τ9 n11 m11 o11 x9 g9 z11 q9 => l_pR g9 rfl (fun τ10 g10 x10 y10 => ?_))
  have q10 : τ10.2.2 = (σ.2.2.1 - 4, σ.2.2.2 - 24) := by rw [y10, q9, q8]; rfl
  refine l_na (n := 150) g10 rfl (by omega) (by rw [q10]; show 1 ≤ σ.2.2.1 - 4; omega) (by rw [q10]; show 150 ≤ σ.2.2.2 - 24; omega) (fun b12 τ11 n12 m12 o12 x11 g11 z12 q11 => l_pR g11 rfl (fun τ12 g12 x12 y12 => ?_))
  have q12 : τ12.2.2 = (σ.2.2.1 - 5, σ.2.2.2 - 174) := by rw [y12, q11, q10]; rfl
  refine l_mu g12 (by rw [q12]; show 11 ≤ σ.2.2.1 - 5; omega) (by rw [q12]; show 110 ≤ σ.2.2.2 - 174; omega) (fun b13 τ13 n13 m13 r13 x13 g13 q13 => l_pR g13 rfl (fun τ14 g14 x14 y14 => ?_))
  have q14 : τ14.2.2 = (σ.2.2.1 - 16, σ.2.2.2 - 284) := by
    rw [y14, q13, q12]
    exact Prod.ext (by show σ.2.2.1 - 5 - 11 = σ.2.2.1 - 16; omega) (by show σ.2.2.2 - 174 - 110 = σ.2.2.2 - 284; omega)
  refine l_na (n := 0) g14 rfl (by omega) (by rw [q14]; show 1 ≤ σ.2.2.1 - 16; omega) (by omega) (fun b14 τ15 n14 m14 o14 x15 g15 z14 q15 => l_pR g15 rfl (fun τ16 g16 x16 y16 => ?_))
  unfold xd_lt
  -- what stood when
  have s12 : exO t σ τ2 := x1.trans x2
  have s4 : exO t σ τ4 := s12.trans (x3.trans x4)
  have s6 : exO t σ τ6 := s4.trans (x5.trans x6)
  have s8 : exO t σ τ8 := s6.trans (x7.trans x8)
  have s10 : exO t σ τ10 := s8.trans (x9.trans x10)
  have s12b : exO t σ τ12 := s10.trans (x11.trans x12)
  have s14 : exO t σ τ14 := s12b.trans (x13.trans x14)
  have s16 : exO t σ τ16 := s14.trans (x15.trans x16)
  have e14 : exO t τ15 τ16 := x16
  have e13 : exO t τ13 τ16 := x14.trans (x15.trans x16)
  have e12 : exO t τ11 τ16 := x12.trans (x13.trans e13)
  have e11 : exO t τ9 τ16 := x10.trans (x11.trans e12)
  have e10 : exO t τ7 τ16 := x8.trans (x9.trans e11)
  have e9 : exO t τ5 τ16 := x6.trans (x7.trans e10)
  have e8 : exO t τ3 τ16 := x4.trans (x5.trans e9)
  have nn : ∀ {ρ : xd_S} {b : Nat}, exO t σ ρ → ρ.1 b = none → σ.1 b = none := fun {ρ b} h hb => Classical.byContradiction fun z => h.2.1 b z hb
  have hb13t : b13 ≠ t := fun e => by have := n13 0 (by omega); rw [Nat.add_zero, e, g12] at this; exact nomatch this
  have hRt : ¬ (b13 + 1 ≤ t ∧ t ≤ b13 + 10) := fun hz => by
    have := n13 (t - b13) (by omega)
    rw [show b13 + (t - b13) = t by omega, g12] at this
    exact nomatch this
  have hRb : ∀ {b : Nat}, τ12.1 b ≠ none → ¬ (b13 + 1 ≤ b ∧ b ≤ b13 + 10) := fun {b} hb hz => by
    have := n13 (b - b13) (by omega)
    rw [show b13 + (b - b13) = b by omega] at this
    exact hb this
  have c12 : ∀ {ρ : xd_S} {b : Nat}, exO t ρ τ12 → ρ.1 b ≠ none → τ12.1 b ≠ none := fun {ρ b} h hb => h.2.1 b hb
  have k8 : τ12.1 b8 ≠ none := c12 (x4.trans (x5.trans (x6.trans (x7.trans (x8.trans (x9.trans (x10.trans (x11.trans x12)))))))) (nsome m8)
  have k9 : τ12.1 b9 ≠ none := c12 (x6.trans (x7.trans (x8.trans (x9.trans (x10.trans (x11.trans x12)))))) (nsome m9)
  have k10 : τ12.1 b10 ≠ none := c12 (x8.trans (x9.trans (x10.trans (x11.trans x12)))) (nsome m10)
  have k11 : τ12.1 b11 ≠ none := c12 (x10.trans (x11.trans x12)) (nsome m11)
  have k12 : τ12.1 b12 ≠ none := c12 x12 (nsome m12)
  have h14R : ¬ (b13 + 1 ≤ b14 ∧ b14 ≤ b13 + 10) := fun hz => by
    have := r13 (b14 - (b13 + 1)) (by omega)
    rw [show b13 + 1 + (b14 - (b13 + 1)) = b14 by omega] at this
    exact x14.2.1 b14 (nsome this) n14
  obtain ⟨V, hV⟩ : ∃ V, V = va_up (va_up (va_up (va_up (va_up (va_up (va_up c.2.2.2 8 (some b8)) 9 (some b9)) 10 (some b10)) 11 (some b11)) 12 (some b12)) 13 (some b13)) 14 (some b14) := ⟨_, rfl⟩
  have g16' : τ16.1 t = some (14, c.2.1, upd (upd c.2.2.1 6 (-1)) 7 (-1), V) := by
    rw [hV]
    exact g16
  have f13 : V 13 = some b13 := by rw [hV, vup_n _ _ (by omega), vup_s]
  refine w_init88m hN (fun a => b13 + 1 ≤ a ∧ a ≤ b13 + 10) (fun q hq => ⟨by omega, by omega⟩) τ16 (c := (14, c.2.1, upd (upd c.2.2.1 6 (-1)) 7 (-1), V)) ⟨rfl, f13⟩ hRt (by omega) (cm := (2, 10, fun _ => 0, fun j => if j < 10 then some (b13 + 1 + j) else none)) ⟨rfl, rfl, fun q hq => if_pos hq⟩ ⟨g16', e13.at hb13t m13, fun q hq => ⟨_, e13.at (fun e => hRt ⟨by omega, by omega⟩) (r13 q hq), rfl, rfl⟩⟩ (fun τ a1 a2 a3 a4 => ?_)
  have fin : exO t τ16 τ ∨ True := Or.inr trivial
  refine hK τ b8 b9 b10 b11 b12 b13 b14 ⟨fun a ha hs => ?_, fun a hs => a2 a (s16.2.1 a hs), ?_⟩ ⟨(14, c.2.1, upd (upd c.2.2.1 6 (-1)) 7 (-1), V), (a1 t hRt).trans g16', rfl, fun j hj => ?_, ?_, ?_, ?_, ?_, ?_, f13, ?_, ?_, (a1 b8 (hRb k8)).trans (e8.at z8 m8), (a1 b9 (hRb k9)).trans (e9.at z9 m9), (a1 b10 (hRb k10)).trans (e10.at z10 m10), (a1 b11 (hRb k11)).trans (e11.at z11 m11), (a1 b12 (hRb k12)).trans (e12.at z12 m12), (a1 b14 h14R).trans (e14.at z14 m14), ⟨nn s12 n8, nn s4 n9, nn s6 n10, nn s8 n11, nn s10 n12, nn s14 n14⟩, ?_, ?_, ?_⟩ ⟨_, (a1 b13 (by omega)).trans (e13.at hb13t m13), rfl, rfl, nn s12b (n13 0 (by omega)), fun q hq => ⟨b13 + 1 + q, _, if_pos hq, nn s12b (by have := n13 (1 + q) (by omega); rw [← Nat.add_assoc] at this; exact this), (a4 q hq).choose_spec⟩⟩
  · exact (a1 a (hRb (s12b.2.1 a hs))).trans (s16.1 a ha hs)
  · rw [a3]
    exact s16.2.2
  · show upd (upd c.2.2.1 6 (-1)) 7 (-1) j = _
    rw [upd_n _ _ (by omega), upd_n _ _ (by omega)]
  · show V 8 = _
    rw [hV, vup_n _ _ (by omega), vup_n _ _ (by omega), vup_n _ _ (by omega), vup_n _ _ (by omega), vup_n _ _ (by omega), vup_n _ _ (by omega), vup_s]
  · show V 9 = _
    rw [hV, vup_n _ _ (by omega), vup_n _ _ (by omega), vup_n _ _ (by omega), vup_n _ _ (by omega), vup_n _ _ (by omega), vup_s]
  · show V 10 = _
    rw [hV, vup_n _ _ (by omega), vup_n _ _ (by omega), vup_n _ _ (by omega), vup_n _ _ (by omega), vup_s]
  · show V 11 = _
    rw [hV, vup_n _ _ (by omega), vup_n _ _ (by omega), vup_n _ _ (by omega), vup_s]
  · show V 12 = _
    rw [hV, vup_n _ _ (by omega), vup_n _ _ (by omega), vup_s]
  · show V 14 = _
    rw [hV, vup_s]
  · show V 15 = _
    rw [hV, vup_n _ _ (by omega), vup_n _ _ (by omega), vup_n _ _ (by omega), vup_n _ _ (by omega), vup_n _ _ (by omega), vup_n _ _ (by omega), vup_n _ _ (by omega)]
  · intro e
    rw [e] at m8
    exact (x4.2.1 b9 (nsome m8)) n9
  · intro e
    rw [e] at m8
    exact ((x4.trans (x5.trans (x6.trans (x7.trans (x8.trans (x9.trans x10)))))).2.1 b12 (nsome m8)) n12
  · intro e
    rw [e] at m9
    exact ((x6.trans (x7.trans (x8.trans (x9.trans x10)))).2.1 b12 (nsome m9)) n12
end
