abbrev W1 : Type := Nat × (Nat → W2)
def mnG (H : Nat → W1) (m : Nat) : List Pc := mnPc (H m).1 (fun i => ((H m).2 i).1) (fun i => ((H m).2 i).2)
def mnBB (J : xc_M) (x : W1) : Prop := 1 ≤ x.1 ∧ x.1 ≤ 3 ∧ ∀ i, i < x.1 → wyB J (x.2 i)
def mnCC (σ : xd_S) (M : xd_M) (e : Nat) (x : W1) : Prop := ∃ ce : xd_C, M e = some ce ∧ ce.1 = 2 ∧ ce.2.1 = x.1 ∧ ∀ i, i < x.1 → ∃ g, ce.2.2.2 i = some g ∧ σ.1 g = none ∧ wyC M g (x.2 i)
section
variable {σ τ ρ σ0 τ0 : xd_S} {fr fr2 fr3 : xd_M} {tg : lTg} {i t : Nat} {d : lD} {ta : Nat → Option Nat} {X X2 : lX} {N M : Nat} {K : xd_K} {a v b8 e g m n k j c1 c2 nM nw many : Nat} {s : List Nat} {J : xc_M} {R0 : Nat → Option Nat}
/-- k meanings are drawn -/
def MI (J : xc_M) (σ : xd_S) (fr : xd_M) (tg : lTg) (i t : Nat) (d : lD) (ta : Nat → Option Nat) (X : lX) (a b8 n : Nat) (C S : Nat) (k : Nat) (τ : xd_S) : Prop := ∃ (v : Nat) (H : Nat → W1) (cb : xd_C), env σ fr tg i t d ta X τ ∧ sbT τ.1 a v (rnd (remT (mnG H) 0 k)) (rnd (remT (mnG H) 0 k)).length ∧ (rnd (remT (mnG H) 0 k)).length ≤ 51 * k ∧ σ.1 v = none ∧ τ.1 b8 = some cb ∧ cb.1 = 3 ∧ cb.2.1 = n ∧ (∀ l, l < k → mnBB J (H l) ∧ ∃ e, cb.2.2.2 l = some e ∧ σ.1 e = none ∧ mnCC σ τ.1 e (H l)) ∧ τ.2.1 = σ.2.1 ∧ C ≤ τ.2.2.1 + 125 * k ∧ S ≤ τ.2.2.2 + 16900 * k
theorem mn_snoc (H : Nat → W1) (k : Nat) (x : W1) : rnd (remT (mnG (fun l => if l = k then x else H l)) 0 (k + 1)) = rnd (remT (mnG H) 0 k) ++ ykb 0 ++ rnd (remT (wyG x.2) 0 x.1) ++ ykb 3 := by
  rw [remT_s, rnd_a, remT_cong (n := k) (g := mnG H) (fun l hl => ?_) k 0 (by omega)]
  · have e : (if 0 + k = k then x else H (0 + k)) = x := if_pos (by omega)
    unfold mnG mnPc
    dsimp only
    rw [e, rnd_a, rnd_a, pc0_r, pc3_r]
    show _ ++ (_ ++ (rnd (remT (wyG x.2) 0 x.1) ++ _)) = _
    simp only [List.append_assoc]
  · have e : (if l = k then x else H l) = H l := if_neg (by omega)
    unfold mnG
    dsimp only
    rw [e]
theorem mn_step {C S : Nat} {v2 : Int32} {k41 : Nat → Int32 → Int32 → Nat → Int32 → xd_S → Prop} (hN : 100 ≤ N) (hw : XW X (J 1)) (hi : iW (J 1)) (h62 : 0 < xr (J 1) 62) (h : MI J σ fr tg i t d ta X a b8 n C S k τ) (hta : ta 14 = some b8) (ha : σ.1 a = none) (h8 : σ.1 b8 = none) (hk : k < n ∧ n ≤ 7) (hC : C ≥ 125 * n + 10) (hS : S ≥ 16900 * n + 10) (hK : ∀ τ', MI J σ fr tg i t d ta X a b8 n C S (k + 1) τ' → k41 t v2 (nI n) a (nI (k + 1)) τ') : hbL_meanings_41 N M K k41 t v2 (nI n) a (nI k) τ := by
  obtain ⟨v, H, cb, he, hsb, hsl, hv, hcb, cb1, cb2, hrow, hI, hCk, hSk⟩ := h
  have hkn : k + 1 ≤ n := by omega
  have hm1 : 125 * (k + 1) ≤ 125 * n := Nat.mul_le_mul_left _ hkn
  have hm2 : 16900 * (k + 1) ≤ 16900 * n := Nat.mul_le_mul_left _ hkn
  have h51 : 51 * (k + 1) ≤ 357 := by omega
  unfold hbL_meanings_41
  refine w_f (by rw [xp_le (by omega) (by omega)]; omega) (w_lt (Eq.refl _) (t_gT he.1.T (Or.inr (Or.inr (Or.inr (Or.inl (Eq.refl _))))) hta ?_))
  refine w_c0 (w_between _ (lo := 1) (hi := 3) (by omega) (by omega) (by decide) (by decide) (fun nw h1w h3w => ?_))
  refine w_na (n := nw) (Eq.refl _) (by omega) (by show 1 ≤ τ.2.2.1; omega) (by show nw ≤ τ.2.2.2; omega) (fun e hen => ?_)
  have he0 : τ.1 e = none := hen
  have heS := he.nn he0
  have neb : b8 ≠ e := fun z => by rw [z, he0] at hcb; exact nomatch hcb
  refine w_sRg (n := k) (c := cb) ((xu_n _ _ neb).trans hcb) cb1 (xu_s _ _ _) (Eq.refl _) (Eq.refl _) ⟨by omega, by omega⟩ (fun σb fa fb => ?_)
  have f2 : σb.2.1 = τ.2.1 := by rw [fb]
  have f3 : σb.2.2.1 = τ.2.2.1 - 1 := by rw [fb]
  have f4 : σb.2.2.2 = τ.2.2.2 - nw := by rw [fb]
  have f8 : σb.1 b8 = some (3, n, cb.2.2.1, va_up cb.2.2.2 k (some e)) := by rw [fa, ← cb2]; exact xu_s _ _ _
  have fe : σb.1 e = some (2, nw, fun _ => 0, fun _ => none) := by rw [fa]; exact (xu_n _ _ neb.symm).trans (xu_s _ _ _)
  have fo : ∀ y, y ≠ b8 → y ≠ e → σb.1 y = τ.1 y := fun y y1 y2 => by rw [fa]; exact (xu_n _ _ y1).trans (xu_n _ _ y2)
  have heb : env σ fr tg i t d ta X σb := he.new (fun y hy => fo y (fun z => hy (by rw [z]; exact h8)) (fun z => hy (by rw [z]; exact heS)))
  have hgne : ∀ y cy, τ.1 y = some cy → y ≠ e := fun y cy hy z => by rw [z, he0] at hy; exact nomatch hy
  have hsbb : sbT σb.1 a v (rnd (remT (mnG H) 0 k)) (rnd (remT (mnG H) 0 k)).length := by
    obtain ⟨ca, cv, ⟨q1, q2, q3⟩, u1, u2, u3⟩ := id hsb
    have n1 : a ≠ b8 := fun z => by
      rw [z, hcb] at q1
      have := Option.some.inj q1
      rw [← this] at q2
      omega
    have n2 : v ≠ b8 := fun z => by
      rw [z, hcb] at u1
      have := Option.some.inj u1
      rw [← this] at u2
      omega
    exact ⟨ca, cv, ⟨(fo a n1 (hgne _ _ q1)).trans q1, q2, q3⟩, (fo v n2 (hgne _ _ u1)).trans u1, u2, u3⟩
  have ly0 : (ykb 0).length = 5 := by decide
  have ly3 : (ykb 3).length = 1 := by decide
  refine x_appk 900 (by omega) hsbb (by omega) (by omega) (by omega) (by omega) (fun τ0 v0 h2 x2 y2 => ?_)
  obtain ⟨y2a, y2b⟩ := y2
  obtain ⟨he2, hv2⟩ := heb.ex ha hv x2
  have a8 : τ0.1 b8 = some (3, n, cb.2.2.1, va_up cb.2.2.2 k (some e)) := x2.at hsbb f8 (by show (3 : Nat) ≠ 15; decide) (by show (3 : Nat) ≠ 1; decide)
  have ae : τ0.1 e = some (2, nw, fun _ => 0, fun _ => none) := x2.at hsbb fe (by show (2 : Nat) ≠ 15; decide) (by show (2 : Nat) ≠ 1; decide)
  have hto0 : ∀ y cy, τ.1 y = some cy → y ≠ b8 → cy.1 ≠ 15 → cy.1 ≠ 1 → τ0.1 y = some cy := fun y cy q1 q2 q3 q4 => x2.at hsbb ((fo y q2 (hgne _ _ q1)).trans q1) q3 q4
  refine w_lt (v := nI 0) (Eq.refl _) ?_
  generalize v2 * (nI k + 3) + 277 * nI k = v6
  refine w_loop (S := xd_S) (fun fu q τ => hlL_meanings_92 N M K k41 fu t v2 (nI n) a (nI k) v6 (nI q) τ) nw (fun q τ => WYI J σ fr tg i t d ta X a e nw (rnd (remT (mnG H) 0 k) ++ ykb 0) τ0 q τ) (fun fu τ1 hW => ?_) (fun fu q τ1 hq hW ih => ?_) N 0 τ0 (by omega) (Nat.zero_le _) ⟨v0, fun _ => (0, fun _ => 0), _, he2, ?_, Nat.zero_le _, hv2, ae, Eq.refl _, Eq.refl _, fun q hq => absurd hq (Nat.not_lt_zero q), kpE.rfl, Eq.refl _, Nat.le_add_right _ _, Nat.le_add_right _ _⟩
  · show hbL_meanings_92 N M K k41 _ t v2 (nI n) a (nI k) v6 (nI nw) τ1
    obtain ⟨v1, G, ce, g1, g2, g3, g4, g5, g6, g7, g8, g9, g10, g11, g12⟩ := hW
    have a81 := g9 b8 _ a8 neb (by show (3 : Nat) ≠ 15; decide) (by show (3 : Nat) ≠ 1; decide)
    unfold hbL_meanings_92
    refine t_gT g1.1.T (Or.inr (Or.inr (Or.inr (Or.inl (Eq.refl _))))) hta (w_aR (n := k) a81 (Eq.refl _) (Eq.refl _) ⟨hk.1, by show n < 2 ^ 31; omega⟩ (vup_s _ _ _) (w_al g5 g6 g7 (w_t (Int32.le_refl _) ?_)))
    have hw40 : 40 * nw ≤ 120 := by omega
    have hw50 : 5000 * nw ≤ 15000 := by omega
    have hw15 : 15 * nw ≤ 45 := by omega
    refine x_appk 900 (by omega) g2 (by rw [List.length_append, List.length_append]; omega) (by omega) (by omega) (by rw [List.length_append, List.length_append]; omega) (fun τ3 v3 h3 x3 y3 => ?_)
    obtain ⟨y3a, y3b⟩ := y3
    obtain ⟨he3, hv3⟩ := g1.ex ha g4 x3
    have hto : ∀ y cy, τ1.1 y = some cy → cy.1 ≠ 15 → cy.1 ≠ 1 → τ3.1 y = some cy := fun y cy q1 q2 q3 => x3.at g2 q1 q2 q3
    refine w_lt (nI_add k 1) (hK τ3 ⟨v3, fun l => if l = k then (nw, G) else H l, _, he3, ?_, ?_, hv3, hto b8 _ a81 (by show (3 : Nat) ≠ 15; decide) (by show (3 : Nat) ≠ 1; decide), Eq.refl _, Eq.refl _, fun l hl => ?_, ?_, by omega, by omega⟩)
    · rw [mn_snoc]
      exact h3
    · rw [mn_snoc, List.length_append, List.length_append, List.length_append]
      show _ + _ + (rnd (remT (wyG G) 0 nw)).length + _ ≤ _
      omega
    · dsimp only
      by_cases q : l = k
      · rw [if_pos q]
        refine ⟨⟨h1w, h3w, fun o ho => (g8 o ho).1⟩, e, ?_, heS, ce, hto e ce g5 (by omega) (by omega), g6, g7, fun o ho => ?_⟩
        · rw [q]
          exact vup_s _ _ _
        · obtain ⟨-, g, u2, u3, c', w1, w2, w3⟩ := g8 o ho
          exact ⟨g, u2, u3, c', hto g c' w1 (by omega) (by omega), w2, w3⟩
      · rw [if_neg q]
        obtain ⟨u1, e', u2, u3, ce', w1, w2, w3, w4⟩ := hrow l (by omega)
        have ne8 : e' ≠ b8 := fun z => by
          rw [z, hcb] at w1
          have := Option.some.inj w1
          rw [← this] at w2
          omega
        have hto2 : ∀ y cy, τ.1 y = some cy → y ≠ b8 → cy.1 ≠ 15 → cy.1 ≠ 1 → τ3.1 y = some cy := fun y cy q1 q2 q3 q4 => hto y cy (g9 y cy (hto0 y cy q1 q2 q3 q4) (hgne y cy q1) q3 q4) q3 q4
        refine ⟨u1, e', (vup_n _ _ q).trans u2, u3, ce', hto2 e' ce' w1 ne8 (by omega) (by omega), w2, w3, fun o ho => ?_⟩
        obtain ⟨g, z2, z3, c', p1, p2, p3⟩ := w4 o ho
        have ng8 : g ≠ b8 := fun z => by
          rw [z, hcb] at p1
          have := Option.some.inj p1
          rw [← this] at p2
          omega
        exact ⟨g, z2, z3, c', hto2 g c' p1 ng8 (by omega) (by omega), p2, p3⟩
    · rw [x3.2.2.1, g10, x2.2.2.1, f2]
      exact hI
  · refine wy_step (nM := n) (cb := (3, n, cb.2.2.1, va_up cb.2.2.2 k (some e))) hN hw hi h62 hta ha heS a8 (Eq.refl _) (Eq.refl _) (vup_s _ _ _) ⟨hk.1, by omega⟩ ⟨_, ae, Eq.refl _⟩ hW ⟨hq, by omega⟩ (by rw [List.length_append]; omega) (by omega) (by omega) ih
  · have e0 : rnd (remT (mnG H) 0 k) ++ ykb 0 ++ rnd (remT (wyG fun _ => (0, fun _ => 0)) 0 0) = rnd (remT (mnG H) 0 k) ++ ykb 0 := List.append_nil _
    rw [e0]
    exact h2
end
