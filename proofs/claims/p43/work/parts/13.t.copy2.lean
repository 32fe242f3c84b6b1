-- ===== a talk's copy: its loops =====
def cpI (σ0 : xd_S) (tg0 : lTg) (fr : xd_M) (B b1 : Nat) (d1 : Nat × Nat × Nat) (ta : Nat → Option Nat) (X : lX) (k p l : Nat) (τ : xd_S) : Prop := ∃ tg2 rw rm, ext σ0 tg0 τ tg2 ∧ gI τ.1 fr tg2 ∧ tT τ.1 fr tg2 B b1 (d1, rw, rm) ta (X.1, X.2.1, X.2.2.1, X.2.2.2.1, k, p, l) ∧ ∀ a, σ0.1 a = none → (tg2 a).1 = 0 ∨ (tg2 a).1 = B
def cnX (X : lX) : Prop := X.1 3 = nI X.2.2.2.2.1 ∧ X.1 4 = nI X.2.2.2.2.2.1 ∧ X.1 5 = nI X.2.2.2.2.2.2 ∧ X.2.2.2.2.1 ≤ 14 ∧ X.2.2.2.2.2.1 ≤ 10 ∧ X.2.2.2.2.2.2 ≤ 150
section
variable {σ0 σ τ ρ : xd_S} {M M2 fr : xd_M} {tg0 tg tg2 tg3 : lTg} {i B t b1 : Nat} {d : lD} {d1 : Nat × Nat × Nat} {ta : Nat → Option Nat} {X : lX} {c : xd_C} {j n k p l : Nat} {v : Int32} {N : Nat} {K : xd_K}
theorem cp_up (hB : B ≠ 0) (hBn : ∀ a, (tg0 a).1 ≠ B) (e1 : ext σ0 tg0 (M, τ.2) tg2) (e2 : gI M fr tg2) {x : Nat} (hx : (tg2 x).1 = B) : ext σ0 tg0 (xd_up M x c, τ.2) tg2 ∧ gI (xd_up M x c) fr tg2 := by
  have hmm : ∀ a, (tg2 a).1 ≠ B → xd_up M x c a = M a := fun a ha => xu_n _ _ (fun e => ha (by rw [e]; exact hx))
  refine ⟨⟨fun a ha => ?_, e1.2⟩, e2.mv hB hmm (fun a ha => ?_)⟩
  · have h2 := e1.1 a ha
    exact ⟨(hmm a (by rw [h2.2]; exact hBn a)).trans h2.1, h2.2⟩
  · by_cases e : a = x
    · rw [e]
      simp [xd_up]
    · rw [xu_n _ _ e]
      exact e2.2 a (by rw [ha]; exact hB)
theorem ext.s {τ' : xd_S} (h : ext σ0 tg0 τ tg2) (h1 : τ'.1 = τ.1) (h2 : τ'.2.1 = τ.2.1) : ext σ0 tg0 τ' tg2 := ⟨fun a ha => by rw [h1]; exact h.1 a ha, h2.trans h.2⟩
theorem cp_166 (hi : i ≠ 0) (hB : B ≠ 0) (hBn : ∀ a, (tg0 a).1 ≠ B) (h0 : tT σ0.1 fr tg0 i t d ta X) (hg0 : gI σ0.1 fr tg0) (hX : cnX X) (hN : 200 ≤ N) (h : cpI σ0 tg0 fr B b1 d1 ta X X.2.2.2.2.1 X.2.2.2.2.2.1 0 σ) (hK : ∀ τ, cpI σ0 tg0 fr B b1 d1 ta X X.2.2.2.2.1 X.2.2.2.2.2.1 X.2.2.2.2.2.2 τ → K 0 (some b1) τ) : hlX10_copy_166 N K N t b1 (nI 0) σ := by
  obtain ⟨x3, x4, x5, y3, y4, y5⟩ := hX
  refine w_loop (fun fu j (τ : xd_S) => hlX10_copy_166 N K fu t b1 (nI j) τ) X.2.2.2.2.2.2 (fun j τ => cpI σ0 tg0 fr B b1 d1 ta X X.2.2.2.2.1 X.2.2.2.2.2.1 j τ) (fun fu τ hh => ?_) (fun fu j τ hj hh hn => ?_) N 0 σ (by omega) (by omega) h
  · obtain ⟨tg2, rw', rm, e1, e2, e3, e4⟩ := id hh
    have hT := h0.ext hi hg0 e1
    show hbX10_copy_166 N K (hlX10_copy_166 N K fu) t b1 _ τ
    refine t_gI hT (by omega) ?_
    rw [x5]
    exact w_t (by rw [xp_le (by omega) (by omega)]; omega) (hK τ hh)
  · obtain ⟨tg2, rw', rm, e1, e2, e3, e4⟩ := hh
    have hT := h0.ext hi hg0 e1
    show hbX10_copy_166 N K (hlX10_copy_166 N K fu) t b1 (nI j) τ
    refine t_gI hT (by omega) ?_
    rw [x5]
    refine w_f (by rw [xp_le (by omega) (by omega)]; omega) (t_g12 e3 (t_g12 hT ?_))
    obtain ⟨cl, l1, l2, l3, l4, l5⟩ := hT.2.2.2.1
    obtain ⟨r, r1, r2⟩ := l4 j hj
    obtain ⟨c2, m1, m2, m3, m4, m5⟩ := e3.2.2.2.1
    obtain ⟨cf, f1, f2, f3, f4⟩ := id r2
    refine w_aR l1 l2 rfl ⟨by omega, by omega⟩ r1 (w_sR m1 m2 (e2.1 r cf f1).1 f2 rfl ⟨by omega, by omega⟩ ?_)
    unfold xd_lt
    rw [show (nI j + 1) = nI (j + 1) from (nI_succ j).symm]
    obtain ⟨u1, u2⟩ := cp_up (τ := τ) (c := (2, c2.2.1, c2.2.2.1, va_up c2.2.2.2 j (some r))) hB hBn (e1.s rfl rfl) e2 (x := d1.2.2) (congrArg Prod.fst m5)
    exact hn _ ⟨tg2, rw', rm, u1, u2, e3.addL r2 m1, e4⟩
theorem cp_132 {C S : Nat} (hi : i ≠ 0) (hB : B ≠ 0) (hBn : ∀ a, (tg0 a).1 ≠ B) (h0 : tT σ0.1 fr tg0 i t d ta X) (hg0 : gI σ0.1 fr tg0) (hX : cnX X) (hN : 200 ≤ N) (hC : 10 ≤ σ.2.2.1) (hS : 30 ≤ σ.2.2.2) (h : cpI σ0 tg0 fr B b1 d1 ta X X.2.2.2.2.1 0 0 σ) (hK : ∀ τ, cpI σ0 tg0 fr B b1 d1 ta X X.2.2.2.2.1 X.2.2.2.2.2.1 X.2.2.2.2.2.2 τ → K 0 (some b1) τ) : hlX10_copy_132 N K N t b1 (nI 0) σ := by
  obtain ⟨x3, x4, x5, y3, y4, y5⟩ := id hX
  refine w_loop (fun fu j (τ : xd_S) => hlX10_copy_132 N K fu t b1 (nI j) τ) X.2.2.2.2.2.1 (fun j τ => cpI σ0 tg0 fr B b1 d1 ta X X.2.2.2.2.1 j 0 τ ∧ 10 - j ≤ τ.2.2.1 ∧ 3 * (10 - j) ≤ τ.2.2.2) (fun fu τ hh => ?_) (fun fu j τ hj hh hn => ?_) N 0 σ (by omega) (by omega) ⟨h, by omega, by omega⟩
  · obtain ⟨hh, -, -⟩ := hh
    obtain ⟨tg2, rw', rm, e1, e2, e3, e4⟩ := id hh
    have hT := h0.ext hi hg0 e1
    show hbX10_copy_132 N K (hlX10_copy_132 N K fu) t b1 _ τ
    refine t_gI hT (by omega) ?_
    rw [x4]
    refine w_t (by rw [xp_le (by omega) (by omega)]; omega) ?_
    unfold xd_lt
    exact cp_166 hi hB hBn h0 hg0 hX hN hh hK
  · obtain ⟨⟨tg2, rw', rm, e1, e2, e3, e4⟩, q1, q2⟩ := hh
    have hT := h0.ext hi hg0 e1
    show hbX10_copy_132 N K (hlX10_copy_132 N K fu) t b1 (nI j) τ
    refine t_gI hT (by omega) ?_
    rw [x4]
    refine w_f (by rw [xp_le (by omega) (by omega)]; omega) (t_g9 e3 (t_g9 hT (t_aM hT rfl ⟨hj, y4⟩ ?_)))
    obtain ⟨cr, c1, c2, c3, c4, c5⟩ := hT.2.2.2.2.2 j hj
    refine ⟨cr, c1, c2, by omega, by rw [c3]; omega, fun r hr => ?_⟩
    have n1 := e2.new (c := (0, cr.2.1, cr.2.2.1, fun _ => none)) hr (B, 5, j)
    have n2 := e3.fresh (c := (0, cr.2.1, cr.2.2.1, fun _ => none)) hB e2 hr (B, 5, j)
    have hr0 : σ0.1 r = none := Classical.byContradiction fun z => e1.nn z hr
    have n3 : ext σ0 tg0 (xd_up τ.1 r (0, cr.2.1, cr.2.2.1, fun _ => none), τ.2) (tgu tg2 r (B, 5, j)) := ⟨fun a ha => by
      have hne : a ≠ r := fun e => ha (by rw [e]; exact hr0)
      exact ⟨(xu_n _ _ hne).trans (e1.1 a ha).1, (tgu_n _ _ hne).trans (e1.1 a ha).2⟩, e1.2⟩
    obtain ⟨c9, m1, m2, m3, m4, m5⟩ := n2.2.2.1
    refine w_is (xu_s _ _ _) rfl (w_sR m1 m2 (xu_s _ _ _) rfl rfl ⟨by omega, by omega⟩ ?_)
    unfold xd_lt
    rw [show (nI j + 1) = nI (j + 1) from (nI_succ j).symm]
    obtain ⟨u1, u2⟩ := cp_up (τ := τ) (c := (2, c9.2.1, c9.2.2.1, va_up c9.2.2.2 j (some r))) hB hBn n3 n1 (x := d1.2.1) (congrArg Prod.fst m5)
    refine hn _ ⟨⟨tgu tg2 r (B, 5, j), rw', _, u1.s rfl rfl, u2, n2.addM (show j < 10 by omega) (xu_s _ _ _) rfl c3 c4 (tgu_s _ _ _) m1, fun a ha => ?_⟩, by show 10 - (j + 1) ≤ τ.2.2.1 - 1; omega, by show 3 * (10 - (j + 1)) ≤ τ.2.2.2 - cr.2.1; omega⟩
    by_cases e : a = r
    · rw [e, tgu_s]
      exact Or.inr rfl
    · rw [tgu_n _ _ e]
      exact e4 a ha
theorem cp_98 (hi : i ≠ 0) (hB : B ≠ 0) (hBn : ∀ a, (tg0 a).1 ≠ B) (h0 : tT σ0.1 fr tg0 i t d ta X) (hg0 : gI σ0.1 fr tg0) (hX : cnX X) (hN : 200 ≤ N) (hC : 24 ≤ σ.2.2.1) (hS : 100 ≤ σ.2.2.2) (h : cpI σ0 tg0 fr B b1 d1 ta X 0 0 0 σ) (hK : ∀ τ, cpI σ0 tg0 fr B b1 d1 ta X X.2.2.2.2.1 X.2.2.2.2.2.1 X.2.2.2.2.2.2 τ → K 0 (some b1) τ) : hlX10_copy_98 N K N t b1 (nI 0) σ := by
  obtain ⟨x3, x4, x5, y3, y4, y5⟩ := id hX
  refine w_loop (fun fu j (τ : xd_S) => hlX10_copy_98 N K fu t b1 (nI j) τ) X.2.2.2.2.1 (fun j τ => cpI σ0 tg0 fr B b1 d1 ta X j 0 0 τ ∧ 10 + (14 - j) ≤ τ.2.2.1 ∧ 30 + 5 * (14 - j) ≤ τ.2.2.2) (fun fu τ hh => ?_) (fun fu j τ hj hh hn => ?_) N 0 σ (by omega) (by omega) ⟨h, by omega, by omega⟩
  · obtain ⟨hh, q1, q2⟩ := hh
    obtain ⟨tg2, rw', rm, e1, e2, e3, e4⟩ := id hh
    have hT := h0.ext hi hg0 e1
    show hbX10_copy_98 N K (hlX10_copy_98 N K fu) t b1 _ τ
    refine t_gI hT (by omega) ?_
    rw [x3]
    refine w_t (by rw [xp_le (by omega) (by omega)]; omega) ?_
    unfold xd_lt
    exact cp_132 (C := 0) (S := 0) hi hB hBn h0 hg0 hX hN (by omega) (by omega) hh hK
  · obtain ⟨⟨tg2, rw', rm, e1, e2, e3, e4⟩, q1, q2⟩ := hh
    have hT := h0.ext hi hg0 e1
    show hbX10_copy_98 N K (hlX10_copy_98 N K fu) t b1 (nI j) τ
    refine t_gI hT (by omega) ?_
    rw [x3]
    refine w_f (by rw [xp_le (by omega) (by omega)]; omega) (t_g8 e3 (t_g8 hT (t_aW hT rfl ⟨hj, y3⟩ ?_)))
    obtain ⟨cr, c1, c2, c3, c4, c5⟩ := hT.2.2.2.2.1 j hj
    refine ⟨cr, c1, c2, by omega, by rw [c3]; omega, fun r hr => ?_⟩
    have n1 := e2.new (c := (0, cr.2.1, cr.2.2.1, fun _ => none)) hr (B, 4, j)
    have n2 := e3.fresh (c := (0, cr.2.1, cr.2.2.1, fun _ => none)) hB e2 hr (B, 4, j)
    have hr0 : σ0.1 r = none := Classical.byContradiction fun z => e1.nn z hr
    have n3 : ext σ0 tg0 (xd_up τ.1 r (0, cr.2.1, cr.2.2.1, fun _ => none), τ.2) (tgu tg2 r (B, 4, j)) := ⟨fun a ha => by
      have hne : a ≠ r := fun e => ha (by rw [e]; exact hr0)
      exact ⟨(xu_n _ _ hne).trans (e1.1 a ha).1, (tgu_n _ _ hne).trans (e1.1 a ha).2⟩, e1.2⟩
    obtain ⟨c8, m1, m2, m3, m4, m5⟩ := n2.2.1
    refine w_is (xu_s _ _ _) rfl (w_sR m1 m2 (xu_s _ _ _) rfl rfl ⟨by omega, by omega⟩ ?_)
    unfold xd_lt
    rw [show (nI j + 1) = nI (j + 1) from (nI_succ j).symm]
    obtain ⟨u1, u2⟩ := cp_up (τ := τ) (c := (2, c8.2.1, c8.2.2.1, va_up c8.2.2.2 j (some r))) hB hBn n3 n1 (x := d1.1) (congrArg Prod.fst m5)
    refine hn _ ⟨⟨tgu tg2 r (B, 4, j), _, rm, u1.s rfl rfl, u2, n2.addW (show j < 14 by omega) (xu_s _ _ _) rfl c3 c4 (tgu_s _ _ _) m1, fun a ha => ?_⟩, by show 10 + (14 - (j + 1)) ≤ τ.2.2.1 - 1; omega, by show 30 + 5 * (14 - (j + 1)) ≤ τ.2.2.2 - cr.2.1; omega⟩
    by_cases e : a = r
    · rw [e, tgu_s]
      exact Or.inr rfl
    · rw [tgu_n _ _ e]
      exact e4 a ha
end
