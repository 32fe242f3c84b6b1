/-- a talk's miles: ten rows of ten, neither frozen nor among the talk's cells -/
def mlT (tg : lTg) (i : Nat) (M : xd_M) (b13 : Nat) : Prop := ∃ cm : xd_C, M b13 = some cm ∧ cm.1 = 2 ∧ cm.2.1 = 10 ∧ ((tg b13).1 ≠ 0 ∧ (tg b13).1 ≠ i) ∧ ∀ q, q < 10 → ∃ (e : Nat) (ce : xd_C), cm.2.2.2 q = some e ∧ ((tg e).1 ≠ 0 ∧ (tg e).1 ≠ i) ∧ M e = some ce ∧ ce.1 = 0 ∧ ce.2.1 = 10
section
variable {σ τ ρ σ0 τ0 : xd_S} {fr fr2 fr3 : xd_M} {tg tg2 : lTg} {i t : Nat} {d : lD} {ta ta2 : Nat → Option Nat} {X X2 : lX} {N M : Nat} {K : xd_K} {n k j e a b b13 C S : Nat} {J : xc_M} {w w2 : Nat → Int32} {Sc : Nat × Nat × (Nat → Int32)} {ce : xd_C}
/-- a cell that is not the talk's changes -/
theorem tG.row {s : xc_M × Nat × Nat} (h : tG σ fr tg i t d ta X) (he : (tg e).1 ≠ 0) (hf : (tg e).1 ≠ i) : tG (xd_up σ.1 e ce, s) fr tg i t d ta X := by
  obtain ⟨hi, hg, hT⟩ := h
  refine ⟨hi, ⟨fun x c hc => ?_, fun x hx => ?_⟩, hT.keep (fun x hx => xu_n _ _ (fun z => hf (by rw [← z, hx]))) (fun _ _ q => q)⟩
  · have : x ≠ e := fun z => he (by rw [← z]; exact (hg.1 x c hc).2)
    exact ⟨(xu_n _ _ this).trans (hg.1 x c hc).1, (hg.1 x c hc).2⟩
  · show xd_up σ.1 e ce x ≠ none
    by_cases z : x = e
    · rw [z, xu_s]
      simp
    · rw [xu_n _ _ z]
      exact hg.2 x hx
theorem mlT.row {M : xd_M} {c0 : xd_C} (h : mlT tg i M b13) (h0 : M e = some c0) (h1 : c0.1 = 0) (h2 : ce.1 = 0) (h3 : ce.2.1 = 10) : mlT tg i (xd_up M e ce) b13 := by
  obtain ⟨cm, m1, m2, m3, m5, m4⟩ := h
  have ne : b13 ≠ e := fun z => by
    rw [z, h0] at m1
    have := Option.some.inj m1
    rw [← this] at m2
    omega
  refine ⟨cm, (xu_n _ _ ne).trans m1, m2, m3, m5, fun q hq => ?_⟩
  obtain ⟨e', c', q1, q2, q4, q5, q6⟩ := m4 q hq
  by_cases z : e' = e
  · exact ⟨e', ce, q1, q2, by rw [z]; exact xu_s _ _ _, h2, h3⟩
  · exact ⟨e', c', q1, q2, (xu_n _ _ z).trans q4, q5, q6⟩
theorem mlT.of (h : mlT tg i σ.1 b13) (hf : ∀ x, (tg x).1 ≠ i → σ.1 x ≠ none → τ.1 x = σ.1 x ∧ tg2 x = tg x) : mlT tg2 i τ.1 b13 := by
  obtain ⟨cm, m1, m2, m3, m5, m4⟩ := h
  have e1 := hf b13 m5.2 (nsome m1)
  refine ⟨cm, e1.1.trans m1, m2, m3, by rw [e1.2]; exact m5, fun q hq => ?_⟩
  obtain ⟨e', c', q1, q2, q4, q5, q6⟩ := m4 q hq
  have e2 := hf e' q2.2 (nsome q4)
  exact ⟨e', c', q1, by rw [e2.2]; exact q2, e2.1.trans q4, q5, q6⟩
/-- while miles are told -/
def MLI (fr : xd_M) (tg : lTg) (i t : Nat) (d : lD) (ta : Nat → Option Nat) (X : lX) (b13 C S : Nat) (τ : xd_S) : Prop := ∃ J, TS τ fr tg i t d ta X J ∧ mlT tg i τ.1 b13 ∧ τ.2.2.1 = C ∧ τ.2.2.2 = S
theorem ml_step {v4 : Int32} {k766 : Int32 → Nat → Int32 → Int32 → xd_S → Prop} (hSc : Sc.2.1 < 2 ^ 31) (h13 : ta 13 = some b13) (hk : k < 8) (h : MLI fr tg i t d ta X b13 C S τ) (hK : ∀ τ', MLI fr tg i t d ta X b13 C S τ' → k766 0 t v4 (nI (k + 1)) τ') : hbL_talk_766 N M Sc K k766 0 t v4 (nI k) τ := by
  obtain ⟨J, ⟨hG, hw, hRR, h18, hl, h0, e13, hbt⟩, hml, hC, hS⟩ := h
  have hi := hRR.1.i
  unfold hbL_talk_766
  refine w_f (by rw [show (8 : Int32) = nI 8 from Eq.refl _, xp_le (by omega) (by omega)]; omega) (w_c0 (w_cell (k := 5) (by decide) (by omega) hSc (fun y => ?_)))
  refine w_lt (Eq.refl _) (w_c0 (w_between _ (lo := 0) (hi := 9) (by omega) (by omega) (by decide) (by decide) (fun a _ ha => ?_)))
  refine w_lt (Eq.refl _) (w_c0 (w_between _ (lo := 0) (hi := 9) (by omega) (by omega) (by decide) (by decide) (fun b _ hb => ?_)))
  refine w_lt (Eq.refl _) ?_
  by_cases hab : a = b
  · refine w_f (by rw [hab]; exact fun z => z (Eq.refl _)) ?_
    exact w_lt (nI_add k 1) (hK _ ⟨J, ⟨hG.st, hw, hRR, h18, hl, h0, e13, hbt⟩, hml, hC, hS⟩)
  · have hne : nI a ≠ nI b := fun z => hab (by
      have := congrArg Int32.toNatClampNeg z
      rw [nI_clamp (by omega), nI_clamp (by omega)] at this
      exact this)
    obtain ⟨cm, m1, m2, m3, m5, m4⟩ := id hml
    obtain ⟨ea, ca, p1, p2, p4, p5, p6⟩ := m4 a (by omega)
    obtain ⟨eb, cb, q1, q2, q4, q5, q6⟩ := m4 b (by omega)
    have hj : (13 : Nat) = 10 ∨ (13 : Nat) = 11 ∨ (13 : Nat) = 13 ∨ (13 : Nat) = 14 ∨ (13 : Nat) = 15 := Or.inr (Or.inr (Or.inl (Eq.refl _)))
    refine w_t hne (t_gT hG.st.T hj h13 (w_aR (n := a) m1 m2 (Eq.refl _) ⟨by omega, by omega⟩ p1 ?_))
    refine w_c0 (w_between _ (lo := 0) (hi := 99) (by omega) (by omega) (by decide) (by decide) (fun m _ hm => ?_))
    refine w_sIg (n := b) p4 p5 (Eq.refl _) ⟨by omega, by omega⟩ (Eq.refl _) (fun σ1 f1 f2 => ?_)
    have hG1 : tG σ1 fr tg i t d ta X := by
      have := hG.row (e := ea) (ce := (0, ca.2.1, upd ca.2.2.1 b (nI m), ca.2.2.2)) (s := σ1.2) p2.1 p2.2
      rw [← f1] at this
      exact this
    have hm1 : mlT tg i σ1.1 b13 := by rw [f1]; exact hml.row p4 p5 (Eq.refl _) p6
    have g1 : σ1.1 ea = some (0, ca.2.1, upd ca.2.2.1 b (nI m), ca.2.2.2) := by rw [f1]; exact xu_s _ _ _
    obtain ⟨cm1, n1, n2, n3, n5, n4⟩ := id hm1
    have ecm : cm1 = cm := by
      have : b13 ≠ ea := fun z => by
        rw [z, p4] at m1
        have := Option.some.inj m1
        rw [← this] at m2
        omega
      rw [f1, xu_n _ _ this, m1] at n1
      exact (Option.some.inj n1).symm
    subst ecm
    obtain ⟨eb', cb1, r1, r2, r4, r5, r6⟩ := n4 b (by omega)
    have eeb : eb' = eb := Option.some.inj (r1.symm.trans q1)
    subst eeb
    refine t_gT hG1.T hj h13 (w_aR (n := b) n1 n2 (Eq.refl _) ⟨by omega, by omega⟩ r1 (t_gT hG1.T hj h13 (w_aR (n := a) n1 n2 (Eq.refl _) ⟨by omega, by omega⟩ p1 ?_)))
    refine w_aI (n := b) g1 (Eq.refl _) (Eq.refl _) ⟨by show b < ca.2.1; omega, by show ca.2.1 < 2 ^ 31; omega⟩ (show upd ca.2.2.1 b (nI m) b = nI m from upd_s _ _ _) ?_
    refine w_sIg (n := a) r4 r5 (Eq.refl _) ⟨by omega, by omega⟩ (Eq.refl _) (fun σ2 o1 o2 => ?_)
    have hG2 : tG σ2 fr tg i t d ta X := by
      have := hG1.row (e := eb') (ce := (0, cb1.2.1, upd cb1.2.2.1 a (nI m), cb1.2.2.2)) (s := σ2.2) r2.1 r2.2
      rw [← o1] at this
      exact this
    have hm2 : mlT tg i σ2.1 b13 := by rw [o1]; exact hm1.row r4 r5 (Eq.refl _) r6
    have n1' : σ2.1 b13 = some cm1 := by
      have : b13 ≠ eb' := fun z => by
        rw [z, r4] at n1
        have := Option.some.inj n1
        rw [← this] at n2
        omega
      rw [o1, xu_n _ _ this]
      exact n1
    have g2 : ∃ c2 : xd_C, σ2.1 ea = some c2 ∧ c2.1 = 0 ∧ c2.2.1 = 10 ∧ c2.2.2.1 b = nI m := by
      by_cases z : ea = eb'
      · refine ⟨(0, cb1.2.1, upd cb1.2.2.1 a (nI m), cb1.2.2.2), by rw [o1, z]; exact xu_s _ _ _, Eq.refl _, r6, ?_⟩
        show upd cb1.2.2.1 a (nI m) b = nI m
        rw [upd_n _ _ (Ne.symm hab)]
        rw [← z, g1] at r4
        rw [← Option.some.inj r4]
        exact upd_s _ _ _
      · exact ⟨(0, ca.2.1, upd ca.2.2.1 b (nI m), ca.2.2.2), by rw [o1, xu_n _ _ z]; exact g1, Eq.refl _, p6, show upd ca.2.2.1 b (nI m) b = nI m from upd_s _ _ _⟩
    obtain ⟨c2, y1, y2, y3, y4⟩ := g2
    refine t_gT hG2.T hj h13 (w_aR (n := a) n1' n2 (Eq.refl _) ⟨by omega, by omega⟩ p1 (w_aI (n := b) y1 y2 (Eq.refl _) ⟨by omega, by omega⟩ y4 ?_))
    have I2 : σ2.2.1 = τ.2.1 := by rw [o2, f2]
    have C2 : σ2.2.2 = τ.2.2 := by rw [o2, f2]
    obtain ⟨I3, J3, w1, w2, w3, w4, w5⟩ := c_miles hRR (a := a) (b := b) (m := m) (by omega) (by omega) (by omega) hab
    refine w_xc (v := 1) (J := I3) (by rw [I2]; exact w1) (w_t (by decide) ?_)
    unfold hbL_talk_890
    refine w_lt (nI_add k 1) (hK _ ⟨J3, ⟨hG2.st, hw.eqv hi (fun j hj => w3 j (by omega)), w2, w5.trans h18, hl.c (fun _ _ q => q) (w3 65 (by omega)) (fun j hj => w3 j (by omega)), ?_, e13, hbt⟩, hm2, ?_, ?_⟩)
    · rw [xr_eq (w3 0 (by omega))]
      exact h0
    · show σ2.2.2.1 = C
      rw [C2]
      exact hC
    · show σ2.2.2.2 = S
      rw [C2]
      exact hS
theorem ml_all {v4 : Int32} (hN : 1000 ≤ N) (hM : 60 ≤ M) (hSc : Sc.2.1 < 2 ^ 31) (h13 : ta 13 = some b13) (h : MLI fr tg i t d ta X b13 C S σ) (hC : 2000 ≤ C) (hS : 250000 ≤ S) (hK : ∀ τ fr2 ta2 X2 J2, TS τ fr2 tg i t d ta2 X2 J2 → mnT fr2 (ta2 14) (J2 1) → ndT fr2 (ta2 11) (J2 1) → wkT fr2 (ta2 10) (J2 1) → J2 0 4 = nI 0 → K 0 (some t) τ) : hlL_talk_766 N M Sc K N 0 t v4 0 σ := by
  refine w_loop (S := xd_S) (fun fu k τ => hlL_talk_766 N M Sc K fu 0 t v4 (nI k) τ) 8 (fun k τ => MLI fr tg i t d ta X b13 C S τ) (fun fu τ hI => ?_) (fun fu k τ hk hI ih => ?_) N 0 σ (by omega) (Nat.zero_le _) h
  · obtain ⟨J, h1, -, h2, h3⟩ := hI
    exact t_end hN hM hSc h1 (by omega) (by omega) hK
  · exact ml_step hSc h13 hk hI ih
end
