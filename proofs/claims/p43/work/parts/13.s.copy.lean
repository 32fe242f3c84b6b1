-- ===== a talk's copy: its cells' marks =====
def tgu (tg : lTg) (b : Nat) (v : Nat × Nat × Nat) : lTg := fun a => if a = b then v else tg a
theorem tgu_s (tg : lTg) (b : Nat) (v : Nat × Nat × Nat) : tgu tg b v b = v := by simp [tgu]
theorem tgu_n (tg : lTg) {a b : Nat} (v : Nat × Nat × Nat) (h : a ≠ b) : tgu tg b v a = tg a := by simp [tgu, h]
/-- from σ to τ: what stood stands, marked alike -/
def ext (σ : xd_S) (tg : lTg) (τ : xd_S) (tg2 : lTg) : Prop := (∀ a, σ.1 a ≠ none → τ.1 a = σ.1 a ∧ tg2 a = tg a) ∧ τ.2.1 = σ.2.1
section
variable {σ τ ρ : xd_S} {M M2 fr : xd_M} {tg tg2 tg3 : lTg} {i B t b : Nat} {d : lD} {ta : Nat → Option Nat} {X : lX} {c : xd_C} {j n k : Nat} {v : Int32} {N : Nat} {K : xd_K}
theorem ext.rfl : ext σ tg σ tg := ⟨fun _ _ => ⟨Eq.refl _, Eq.refl _⟩, Eq.refl _⟩
theorem ext.trans (h : ext σ tg τ tg2) (g : ext τ tg2 ρ tg3) : ext σ tg ρ tg3 := ⟨fun a ha => by
  obtain ⟨h1, h2⟩ := h.1 a ha
  obtain ⟨g1, g2⟩ := g.1 a (by rw [h1]; exact ha)
  exact ⟨g1.trans h1, g2.trans h2⟩, g.2.trans h.2⟩
theorem ext.nn (h : ext σ tg τ tg2) {a : Nat} (ha : σ.1 a ≠ none) : τ.1 a ≠ none := by rw [(h.1 a ha).1]; exact ha
theorem gI.tag0 (h : gI M fr tg) (hb : M b = none) : (tg b).1 = 0 := Classical.byContradiction fun z => h.2 b z hb
theorem gI.new (h : gI M fr tg) (hb : M b = none) (v : Nat × Nat × Nat) : gI (xd_up M b c) fr (tgu tg b v) := by
  refine ⟨fun a ca ha => ?_, fun a ha => ?_⟩
  · obtain ⟨h1, h2⟩ := h.1 a ca ha
    have hne : a ≠ b := fun e => by rw [e, hb] at h1; exact nomatch h1
    exact ⟨(xu_n _ _ hne).trans h1, by rw [tgu_n _ _ hne]; exact h2⟩
  · by_cases e : a = b
    · rw [e]
      simp [xd_up]
    · rw [tgu_n _ _ e] at ha
      rw [xu_n _ _ e]
      exact h.2 a ha
theorem tT.fresh (h : tT M fr tg i t d ta X) (hi : i ≠ 0) (hg : gI M fr tg) (hb : M b = none) (v : Nat × Nat × Nat) : tT (xd_up M b c) fr (tgu tg b v) i t d ta X := by
  have hne : ∀ a, (tg a).1 = i → a ≠ b := fun a ha e => hg.2 a (by rw [ha]; exact hi) (by rw [e]; exact hb)
  exact (h.keep (fun a ha => xu_n _ _ (hne a ha)) (fun _ _ q => q)).mark (fun a ha => tgu_n _ _ (hne a ha))
/-- a talk seen over memories that keep what stood -/
theorem tT.ext (h : tT σ.1 fr tg i t d ta X) (hi : i ≠ 0) (hg : gI σ.1 fr tg) (he : ext σ tg τ tg2) : tT τ.1 fr tg2 i t d ta X :=
  (h.keep (fun a ha => (he.1 a (hg.2 a (by rw [ha]; exact hi))).1) (fun _ _ q => q)).mark (fun a ha => (he.1 a (hg.2 a (by rw [ha]; exact hi))).2)
/-- a row of words more -/
theorem tT.addW {r : Nat} {cr : xd_C} (h : tT M fr tg B t d ta X) (hn : X.2.2.2.2.1 < 14) (hr : M r = some cr) (hr1 : cr.1 = 0) (hr2 : cr.2.1 = 5) (hr3 : ∀ j, j < 5 → cr.2.2.1 j = X.2.1 X.2.2.2.2.1 j) (hr4 : tg r = (B, 4, X.2.2.2.2.1)) {c8 : xd_C} (h8 : M d.1.1 = some c8) : tT (xd_up M d.1.1 (2, c8.2.1, c8.2.2.1, va_up c8.2.2.2 X.2.2.2.2.1 (some r))) fr tg B t (d.1, fun q => if q = X.2.2.2.2.1 then r else d.2.1 q, d.2.2) ta (X.1, X.2.1, X.2.2.1, X.2.2.2.1, X.2.2.2.2.1 + 1, X.2.2.2.2.2.1, X.2.2.2.2.2.2) := by
  have hA := h.tgA
  have ne : ∀ b, tg b ≠ (B, 1, 0) → b ≠ d.1.1 := fun b hb e => hb (by rw [e]; exact hA)
  refine ⟨h.1.keep (xu_n _ _ (ne _ (by rw [h.tgO]; simp))), ?_, h.2.2.1.keep (xu_n _ _ (ne _ (by rw [h.tgB]; simp))), h.2.2.2.1.keep (xu_n _ _ (ne _ (by rw [h.tgL]; simp))) (fun _ _ q => q), fun q hq => ?_, h.2.2.2.2.2.keep (fun k2 hk2 => xu_n _ _ (ne _ (by rw [h.tgM hk2]; simp)))⟩
  · obtain ⟨c, a1, a2, a3, a4, a5⟩ := h.2.1
    rw [h8, Option.some.injEq] at a1
    subst a1
    refine ⟨_, xu_s _ _ _, rfl, a3, fun q hq => ?_, a5⟩
    have hq' : q < X.2.2.2.2.1 + 1 := hq
    show va_up c8.2.2.2 X.2.2.2.2.1 (some r) q = some (if q = X.2.2.2.2.1 then r else d.2.1 q)
    by_cases e : q = X.2.2.2.2.1
    · rw [if_pos e, e, vup_s]
    · rw [if_neg e, vup_n _ _ e]
      exact a4 q (by omega)
  · have hq' : q < X.2.2.2.2.1 + 1 := hq
    show ∃ c : xd_C, xd_up M d.1.1 _ (if q = X.2.2.2.2.1 then r else d.2.1 q) = some c ∧ c.1 = 0 ∧ c.2.1 = 5 ∧ (∀ j, j < 5 → c.2.2.1 j = X.2.1 q j) ∧ tg (if q = X.2.2.2.2.1 then r else d.2.1 q) = (B, 4, q)
    by_cases e : q = X.2.2.2.2.1
    · rw [if_pos e, xu_n _ _ (ne r (by rw [hr4]; simp)), e]
      exact ⟨cr, hr, hr1, hr2, hr3, hr4⟩
    · rw [if_neg e, xu_n _ _ (ne _ (by rw [h.tgW (show q < X.2.2.2.2.1 by omega)]; simp))]
      exact h.2.2.2.2.1 q (by omega)
theorem tT.addM {r : Nat} {cr : xd_C} (h : tT M fr tg B t d ta X) (hn : X.2.2.2.2.2.1 < 10) (hr : M r = some cr) (hr1 : cr.1 = 0) (hr2 : cr.2.1 = 3) (hr3 : ∀ j, j < 3 → cr.2.2.1 j = X.2.2.1 X.2.2.2.2.2.1 j) (hr4 : tg r = (B, 5, X.2.2.2.2.2.1)) {c9 : xd_C} (h9 : M d.1.2.1 = some c9) : tT (xd_up M d.1.2.1 (2, c9.2.1, c9.2.2.1, va_up c9.2.2.2 X.2.2.2.2.2.1 (some r))) fr tg B t (d.1, d.2.1, fun q => if q = X.2.2.2.2.2.1 then r else d.2.2 q) ta (X.1, X.2.1, X.2.2.1, X.2.2.2.1, X.2.2.2.2.1, X.2.2.2.2.2.1 + 1, X.2.2.2.2.2.2) := by
  have hA := h.tgB
  have ne : ∀ b, tg b ≠ (B, 2, 0) → b ≠ d.1.2.1 := fun b hb e => hb (by rw [e]; exact hA)
  refine ⟨h.1.keep (xu_n _ _ (ne _ (by rw [h.tgO]; simp))), h.2.1.keep (xu_n _ _ (ne _ (by rw [h.tgA]; simp))), ?_, h.2.2.2.1.keep (xu_n _ _ (ne _ (by rw [h.tgL]; simp))) (fun _ _ q => q), h.2.2.2.2.1.keep (fun k2 hk2 => xu_n _ _ (ne _ (by rw [h.tgW hk2]; simp))), fun q hq => ?_⟩
  · obtain ⟨c, a1, a2, a3, a4, a5⟩ := h.2.2.1
    rw [h9, Option.some.injEq] at a1
    subst a1
    refine ⟨_, xu_s _ _ _, rfl, a3, fun q hq => ?_, a5⟩
    have hq' : q < X.2.2.2.2.2.1 + 1 := hq
    show va_up c9.2.2.2 X.2.2.2.2.2.1 (some r) q = some (if q = X.2.2.2.2.2.1 then r else d.2.2 q)
    by_cases e : q = X.2.2.2.2.2.1
    · rw [if_pos e, e, vup_s]
    · rw [if_neg e, vup_n _ _ e]
      exact a4 q (by omega)
  · have hq' : q < X.2.2.2.2.2.1 + 1 := hq
    show ∃ c : xd_C, xd_up M d.1.2.1 _ (if q = X.2.2.2.2.2.1 then r else d.2.2 q) = some c ∧ c.1 = 0 ∧ c.2.1 = 3 ∧ (∀ j, j < 3 → c.2.2.1 j = X.2.2.1 q j) ∧ tg (if q = X.2.2.2.2.2.1 then r else d.2.2 q) = (B, 5, q)
    by_cases e : q = X.2.2.2.2.2.1
    · rw [if_pos e, xu_n _ _ (ne r (by rw [hr4]; simp)), e]
      exact ⟨cr, hr, hr1, hr2, hr3, hr4⟩
    · rw [if_neg e, xu_n _ _ (ne _ (by rw [h.tgM (show q < X.2.2.2.2.2.1 by omega)]; simp))]
      exact h.2.2.2.2.2 q (by omega)
/-- a line more -/
theorem tT.addL {r : Nat} (h : tT M fr tg B t d ta X) (hr : frow fr r 4 (X.2.2.2.1 X.2.2.2.2.2.2)) {cl : xd_C} (hl : M d.1.2.2 = some cl) : tT (xd_up M d.1.2.2 (2, cl.2.1, cl.2.2.1, va_up cl.2.2.2 X.2.2.2.2.2.2 (some r))) fr tg B t d ta (X.1, X.2.1, X.2.2.1, X.2.2.2.1, X.2.2.2.2.1, X.2.2.2.2.2.1, X.2.2.2.2.2.2 + 1) := by
  have hA := h.tgL
  have ne : ∀ b, tg b ≠ (B, 3, 0) → b ≠ d.1.2.2 := fun b hb e => hb (by rw [e]; exact hA)
  refine ⟨h.1.keep (xu_n _ _ (ne _ (by rw [h.tgO]; simp))), h.2.1.keep (xu_n _ _ (ne _ (by rw [h.tgA]; simp))), h.2.2.1.keep (xu_n _ _ (ne _ (by rw [h.tgB]; simp))), ?_, h.2.2.2.2.1.keep (fun k2 hk2 => xu_n _ _ (ne _ (by rw [h.tgW hk2]; simp))), h.2.2.2.2.2.keep (fun k2 hk2 => xu_n _ _ (ne _ (by rw [h.tgM hk2]; simp)))⟩
  obtain ⟨c, a1, a2, a3, a4, a5⟩ := h.2.2.2.1
  rw [hl, Option.some.injEq] at a1
  subst a1
  refine ⟨_, xu_s _ _ _, rfl, a3, fun q hq => ?_, a5⟩
  have hq' : q < X.2.2.2.2.2.2 + 1 := hq
  by_cases e : q = X.2.2.2.2.2.2
  · exact ⟨r, by show va_up _ _ _ q = _; rw [e, vup_s], by rw [e]; exact hr⟩
  · obtain ⟨b, b1, b2⟩ := a4 q (by omega)
    exact ⟨b, by show va_up _ _ _ q = _; rw [vup_n _ _ e]; exact b1, b2⟩
end
