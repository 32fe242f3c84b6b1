abbrev W2 : Type := Nat × (Nat → Nat)
def wyG (G : Nat → W2) (i : Nat) : List Pc := wyPc (fun i => (G i).1) (fun i => (G i).2) i
def wyB (J : xc_M) (x : W2) : Prop := 1 ≤ x.1 ∧ x.1 ≤ 4 ∧ ∀ q, q < x.1 → x.2 q < xr (J 1) 62
def wyC (M : xd_M) (g : Nat) (x : W2) : Prop := ∃ c : xd_C, M g = some c ∧ c.1 = 0 ∧ c.2.1 = x.1 ∧ ∀ q, q < x.1 → c.2.2.1 q = nI (x.2 q)
section
variable {σ τ ρ σ0 τ0 : xd_S} {fr fr2 fr3 : xd_M} {tg : lTg} {i t : Nat} {d : lD} {ta : Nat → Option Nat} {X X2 : lX} {N M : Nat} {K : xd_K} {a v b8 e g m n k j c1 c2 nM nw many : Nat} {s : List Nat} {J : xc_M} {R0 : Nat → Option Nat}
theorem wq_all {V0 : Nat → Int32} {v2 v3 v6 v8 : Int32} {k41 : Nat → Int32 → Int32 → Nat → Int32 → xd_S → Prop} {k92 : Nat → Int32 → Int32 → Nat → Int32 → Int32 → Int32 → xd_S → Prop} (hN : 100 ≤ N) (hw : XW X (J 1)) (hi : iW (J 1)) (h62 : 0 < xr (J 1) 62) (hta : ta 14 = some b8) (ha : σ.1 a = none) (hg : σ.1 g = none) (hv : σ.1 v = none) (he : env σ fr tg i t d ta X τ0) (hsb : sbT τ0.1 a v s s.length) (hT3 : tab3 τ0.1 b8 e g nM nw m j) (hm : m < nM ∧ nM < 8) (hj : j < nw ∧ nw < 4) (hg0 : τ0.1 g = some (0, many, V0, R0)) (hm4 : many ≤ 4) (hs : s.length ≤ 380) (hC : 32 ≤ τ0.2.2.1) (hS : 4000 ≤ τ0.2.2.2) (hK : ∀ τ', QI J σ fr tg i t d ta X a g many R0 s τ0 many τ' → k92 t v2 v3 a (nI m) v6 (nI (j + 1)) τ') : hbL_meanings_159 N M K k41 k92 t v2 v3 a (nI m) v6 (nI j) v8 (nI many) τ0 := by
  unfold hbL_meanings_159
  refine w_lt (v := nI 0) (Eq.refl _) ?_
  refine w_loop (S := xd_S) (fun fu k τ => hlL_meanings_162 N M K k41 k92 fu t v2 v3 a (nI m) v6 (nI j) v8 (nI many) (nI k) τ) many (fun k τ => QI J σ fr tg i t d ta X a g many R0 s τ0 k τ) (fun fu τ hI => ?_) (fun fu k τ hk hI ih => ?_) N 0 τ0 (by omega) (Nat.zero_le _) ⟨v, fun _ => 0, V0, he, ?_, Nat.zero_le _, hv, hg0, fun q hq => absurd hq (Nat.not_lt_zero q), kpE.rfl, Eq.refl _, Nat.le_add_right _ _, Nat.le_add_right _ _⟩
  · show hbL_meanings_162 N M K k41 k92 _ t v2 v3 a (nI m) v6 (nI j) v8 (nI many) (nI many) τ
    unfold hbL_meanings_162
    exact w_t (Int32.le_refl _) (w_lt (nI_add j 1) (hK τ hI))
  · exact wq_step hN hw hi h62 hta ha hg hT3 hm hj ⟨_, hg0, Eq.refl _⟩ hI ⟨hk, hm4⟩ hs hC hS ih
  · have e0 : s ++ rnd (remT (wqPc fun _ => 0) 0 0) = s := List.append_nil s
    rw [e0]
    exact hsb
/-- k wordings of a meaning are drawn -/
def WYI (J : xc_M) (σ : xd_S) (fr : xd_M) (tg : lTg) (i t : Nat) (d : lD) (ta : Nat → Option Nat) (X : lX) (a e nw : Nat) (s : List Nat) (τ0 : xd_S) (k : Nat) (τ : xd_S) : Prop := ∃ (v : Nat) (G : Nat → W2) (ce : xd_C), env σ fr tg i t d ta X τ ∧ sbT τ.1 a v (s ++ rnd (remT (wyG G) 0 k)) (s ++ rnd (remT (wyG G) 0 k)).length ∧ (rnd (remT (wyG G) 0 k)).length ≤ 15 * k ∧ σ.1 v = none ∧ τ.1 e = some ce ∧ ce.1 = 2 ∧ ce.2.1 = nw ∧ (∀ l, l < k → wyB J (G l) ∧ ∃ g, ce.2.2.2 l = some g ∧ σ.1 g = none ∧ wyC τ.1 g (G l)) ∧ kpE e τ0 τ ∧ τ.2.1 = τ0.2.1 ∧ τ0.2.2.1 ≤ τ.2.2.1 + 40 * k ∧ τ0.2.2.2 ≤ τ.2.2.2 + 5000 * k
theorem wy_snoc (G : Nat → W2) (k : Nat) (x : W2) : rnd (remT (wyG (fun l => if l = k then x else G l)) 0 (k + 1)) = rnd (remT (wyG G) 0 k) ++ ((if k = 0 then [] else ykb 1) ++ rnd (remT (wqPc x.2) 0 x.1)) := by
  rw [remT_s, rnd_a, remT_cong (n := k) (g := wyG G) (fun l hl => ?_) k 0 (by omega)]
  · congr 1
    have e : (if 0 + k = k then x else G (0 + k)) = x := if_pos (by omega)
    have e2 : 0 + k = k := by omega
    unfold wyG wyPc
    dsimp only
    rw [e, rnd_a, e2]
    congr 1
    by_cases h : k = 0
    · rw [if_pos h, if_pos h]
      rfl
    · rw [if_neg h, if_neg h, pc1_r]
  · have e : (if l = k then x else G l) = G l := if_neg (by omega)
    unfold wyG wyPc
    dsimp only
    rw [e]
theorem wy_step {v2 v3 v6 : Int32} {k41 : Nat → Int32 → Int32 → Nat → Int32 → xd_S → Prop} {k92 : Nat → Int32 → Int32 → Nat → Int32 → Int32 → Int32 → xd_S → Prop} {cb : xd_C} (hN : 100 ≤ N) (hw : XW X (J 1)) (hi : iW (J 1)) (h62 : 0 < xr (J 1) 62) (hta : ta 14 = some b8) (ha : σ.1 a = none) (heS : σ.1 e = none) (hcb : τ0.1 b8 = some cb) (cb1 : cb.1 = 3) (cb2 : cb.2.1 = nM) (cb3 : cb.2.2.2 m = some e) (hm : m < nM ∧ nM < 8) (he0 : ∃ c : xd_C, τ0.1 e = some c ∧ c.1 = 2) (h : WYI J σ fr tg i t d ta X a e nw s τ0 k τ) (hk : k < nw ∧ nw < 4) (hs : s.length ≤ 330) (hC : 120 ≤ τ0.2.2.1) (hS : 15000 ≤ τ0.2.2.2) (hK : ∀ τ', WYI J σ fr tg i t d ta X a e nw s τ0 (k + 1) τ' → k92 t v2 v3 a (nI m) v6 (nI (k + 1)) τ') : hbL_meanings_92 N M K k41 k92 t v2 v3 a (nI m) v6 (nI k) τ := by
  obtain ⟨v, G, ce, he, hsb, hsl, hv, hce, ce1, ce2, hrow, hkp, hI, hCk, hSk⟩ := h
  obtain ⟨c0, z1, z2⟩ := he0
  have nb : b8 ≠ e := fun z => by
    rw [z, z1] at hcb
    have := Option.some.inj hcb
    rw [← this] at cb1
    omega
  have hcbτ := hkp b8 cb hcb nb (by omega) (by omega)
  unfold hbL_meanings_92
  refine t_gT he.1.T (Or.inr (Or.inr (Or.inr (Or.inl (Eq.refl _))))) hta (w_aR (n := m) hcbτ cb1 (Eq.refl _) ⟨by omega, by omega⟩ cb3 (w_al hce ce1 ce2 ?_))
  refine w_f (by rw [xp_le (by omega) (by omega)]; omega) (w_lt (Eq.refl _) (w_c0 (w_between _ (lo := 1) (hi := 4) (by omega) (by omega) (by decide) (by decide) (fun many hm1 hm4 => ?_))))
  refine w_lt (Eq.refl _) (t_gT he.b.1.T (Or.inr (Or.inr (Or.inr (Or.inl (Eq.refl _))))) hta (w_aR (n := m) hcbτ cb1 (Eq.refl _) ⟨by omega, by omega⟩ cb3 ?_))
  refine w_na (n := many) (Eq.refl _) (by omega) (by show 1 ≤ τ.2.2.1; omega) (by show many ≤ τ.2.2.2; omega) (fun g hgn => ?_)
  have hg : τ.1 g = none := hgn
  have hgS := he.nn hg
  have neg : e ≠ g := fun z => by rw [z, hg] at hce; exact nomatch hce
  refine w_sRg (n := k) (c := ce) ((xu_n _ _ neg).trans hce) ce1 (xu_s _ _ _) (Eq.refl _) (Eq.refl _) ⟨by omega, by omega⟩ (fun σb fa fb => ?_)
  have f2 : σb.2.1 = τ.2.1 := by rw [fb]
  have f3 : σb.2.2.1 = τ.2.2.1 - 1 := by rw [fb]
  have f4 : σb.2.2.2 = τ.2.2.2 - many := by rw [fb]
  have fe : σb.1 e = some (2, nw, ce.2.2.1, va_up ce.2.2.2 k (some g)) := by rw [fa, ← ce2]; exact xu_s _ _ _
  have fg : σb.1 g = some (0, many, fun _ => 0, fun _ => none) := by rw [fa]; exact (xu_n _ _ neg.symm).trans (xu_s _ _ _)
  have fo : ∀ y, y ≠ e → y ≠ g → σb.1 y = τ.1 y := fun y y1 y2 => by rw [fa]; exact (xu_n _ _ y1).trans (xu_n _ _ y2)
  have heb : env σ fr tg i t d ta X σb := he.new (fun y hy => fo y (fun z => hy (by rw [z]; exact heS)) (fun z => hy (by rw [z]; exact hgS)))
  have hgne : ∀ y cy, τ.1 y = some cy → y ≠ g := fun y cy hy z => by rw [z, hg] at hy; exact nomatch hy
  have hsbb : sbT σb.1 a v (s ++ rnd (remT (wyG G) 0 k)) (s ++ rnd (remT (wyG G) 0 k)).length := by
    obtain ⟨ca, cv, ⟨q1, q2, q3⟩, u1, u2, u3⟩ := id hsb
    have n1 : a ≠ e := fun z => by
      rw [z, hce] at q1
      have := Option.some.inj q1
      rw [← this] at q2
      omega
    have n2 : v ≠ e := fun z => by
      rw [z, hce] at u1
      have := Option.some.inj u1
      rw [← this] at u2
      omega
    exact ⟨ca, cv, ⟨(fo a n1 (hgne _ _ q1)).trans q1, q2, q3⟩, (fo v n2 (hgne _ _ u1)).trans u1, u2, u3⟩
  have hkb : kpE e τ0 σb := fun y cy q1 q2 q3 q4 => by
    have := hkp y cy q1 q2 q3 q4
    exact (fo y q2 (hgne _ _ this)).trans this
  have h15 : 15 * (k + 1) ≤ 45 := by omega
  -- behind the word that parts the wordings
  have key : ∀ (v' : Nat) (τ1 : xd_S) (p : List Nat), p = (if k = 0 then [] else ykb 1) → env σ fr tg i t d ta X τ1 → σ.1 v' = none → sbT τ1.1 a v' (s ++ rnd (remT (wyG G) 0 k) ++ p) (s ++ rnd (remT (wyG G) 0 k) ++ p).length → (∀ y cy, σb.1 y = some cy → cy.1 ≠ 15 → cy.1 ≠ 1 → τ1.1 y = some cy) → τ1.2.1 = σb.2.1 → σb.2.2.1 ≤ τ1.2.2.1 + 1 → σb.2.2.2 ≤ τ1.2.2.2 + 800 → hbL_meanings_159 N M K k41 k92 t v2 v3 a (nI m) v6 (nI k) (v6 * (nI k + 5) + 281 * nI k) (nI many) τ1 := by
    intro v' τ1 p hp he1 hv1 hsb1 hkp1 hI1 hC1 hS1
    have lp : p.length ≤ 3 := by
      rw [hp]
      by_cases h : k = 0
      · rw [if_pos h]
        exact Nat.zero_le _
      · rw [if_neg h]
        decide
    have hT3 : tab3 τ1.1 b8 e g nM nw m k := ⟨cb, _, hkp1 b8 cb ((fo b8 nb (hgne _ _ hcbτ)).trans hcbτ) (by omega) (by omega), cb1, cb2, cb3, hkp1 e _ fe (by show (2 : Nat) ≠ 15; decide) (by show (2 : Nat) ≠ 1; decide), Eq.refl _, Eq.refl _, vup_s _ _ _⟩
    refine wq_all (τ0 := τ1) (s := s ++ rnd (remT (wyG G) 0 k) ++ p) hN hw hi h62 hta ha hgS hv1 he1 hsb1 hT3 hm hk (hkp1 g _ fg (by show (0 : Nat) ≠ 15; decide) (by show (0 : Nat) ≠ 1; decide)) hm4 (by rw [List.length_append, List.length_append]; omega) (by omega) (by omega) (fun τ' hQ => ?_)
    obtain ⟨v3', w, V, he', hsb', hsl', hv', hg', hV, hkp', hI', hC', hS'⟩ := hQ
    have hto : ∀ y cy, τ.1 y = some cy → y ≠ e → cy.1 ≠ 15 → cy.1 ≠ 1 → τ'.1 y = some cy := fun y cy q1 q2 q3 q4 => hkp' y cy (hkp1 y cy ((fo y q2 (hgne _ _ q1)).trans q1) q3 q4) (hgne _ _ q1) q3 q4
    refine hK τ' ⟨v3', fun l => if l = k then (many, w) else G l, _, he', ?_, ?_, hv', hkp' e _ (hkp1 e _ fe (by show (2 : Nat) ≠ 15; decide) (by show (2 : Nat) ≠ 1; decide)) neg (by show (2 : Nat) ≠ 15; decide) (by show (2 : Nat) ≠ 1; decide), Eq.refl _, Eq.refl _, fun l hl => ?_, fun y cy q1 q2 q3 q4 => hto y cy (hkp y cy q1 q2 q3 q4) q2 q3 q4, ?_, by omega, by omega⟩
    · rw [wy_snoc, ← hp, ← List.append_assoc, ← List.append_assoc]
      exact hsb'
    · rw [wy_snoc, ← hp, List.length_append, List.length_append]
      have hsl2 : (rnd (remT (wqPc w) 0 many)).length ≤ 3 * many := hsl'
      show _ + (_ + (rnd (remT (wqPc w) 0 many)).length) ≤ _
      omega
    · dsimp only
      by_cases q : l = k
      · rw [if_pos q]
        refine ⟨⟨hm1, hm4, fun q hq => (hV q hq).1⟩, g, ?_, hgS, _, hg', Eq.refl _, Eq.refl _, fun q hq => (hV q hq).2⟩
        rw [q]
        exact vup_s _ _ _
      · rw [if_neg q]
        obtain ⟨u1, g', u2, u3, c', w1, w2, w3⟩ := hrow l (by omega)
        have nge : g' ≠ e := fun z => by
          rw [z, hce] at w1
          have := Option.some.inj w1
          rw [← this] at w2
          omega
        exact ⟨u1, g', (vup_n _ _ q).trans u2, u3, c', hto g' c' w1 nge (by omega) (by omega), w2, w3⟩
    · rw [hI', hI1, f2]
      exact hI
  by_cases h0 : k = 0
  · refine w_t (by rw [h0]; decide) ?_
    exact key v σb [] (by rw [if_pos h0]) heb hv (by rw [List.append_nil]; exact hsbb) (fun _ _ q _ _ => q) (Eq.refl _) (Nat.le_add_right _ _) (Nat.le_add_right _ _)
  · have ly1 : (ykb 1).length = 3 := by decide
    refine w_f (by rw [show (0 : Int32) = nI 0 from Eq.refl _, xp_le (by omega) (by omega)]; omega) ?_
    refine x_appk (f := fun _ τ2 => hbL_meanings_159 N M K k41 k92 t v2 v3 a (nI m) v6 (nI k) (v6 * (nI k + 5) + 281 * nI k) (nI many) τ2) 800 (by omega) hsbb (by rw [List.length_append]; omega) (by omega) (by omega) (by rw [List.length_append]; omega) (fun τ2 v2' h2 x2 y2 => ?_)
    obtain ⟨y2a, y2b⟩ := y2
    obtain ⟨e9, hv9⟩ := heb.ex ha hv x2
    exact key v2' τ2 (ykb 1) (by rw [if_neg h0]) e9 hv9 h2 (fun y cy q1 q2 q3 => x2.at hsbb q1 q2 q3) x2.2.2.1 (by omega) (by omega)
end
