section
variable {σ τ ρ σ0 τ0 : xd_S} {fr fr2 fr3 : xd_M} {tg tg2 : lTg} {i t : Nat} {d : lD} {ta ta2 : Nat → Option Nat} {X X2 : lX} {N M : Nat} {K : xd_K} {n k j e p C S r m q : Nat} {J : xc_M} {w w2 : Nat → Int32} {Sc : Nat × Nat × (Nat → Int32)} {ce c8 c : xd_C} {V : Nat → Int32}
/-- a new cell with a mark of its own -/
theorem tG.put {b : Nat} (h : tG σ fr tg i t d ta X) (hb : σ.1 b = none) (v : Nat × Nat × Nat) {s : xc_M × Nat × Nat} : tG (xd_up σ.1 b c, s) fr (tgu tg b v) i t d ta X := ⟨h.1, h.2.1.new hb v, h.2.2.fresh h.1 h.2.1 hb v⟩
/-- the law, before its loop -/
theorem law_head (hN : 1000 ≤ N) (hM : 60 ≤ M) (hSc : Sc.2.1 < 2 ^ 31) (hRR : RR σ.2.1 J) (h18 : J 0 18 = nI 0) (hz : ∀ j, j < 66 → J 1 j = nI 0) (hC : 599864 ≤ σ.2.2.1) (hS : 7295376 ≤ σ.2.2.2) (hL : ∀ τ fr tg t d ta X J b6, SAM τ fr tg 1 t d ta X J → (∃ e, ta 13 = some e) → (∀ a, (tg a).1 ≤ 2) → J 0 4 = nI 0 → xr (J 1) 0 = 0 → τ.1 b6 = some (4, 6, fun _ => 0, fun _ => none) → (tg b6).1 = 2 → 597000 ≤ τ.2.2.1 → 7033000 ≤ τ.2.2.2 → hlL_law_41 N M Sc K N t b6 0 0 τ) : hL_law N M Sc σ K := by
  unfold hL_law
  refine w_cc 2700 262000 (by omega) (by omega) (w_talk (σ := (σ.1, σ.2.1, 2700, 262000)) (J := J) hN hM hSc hRR h18 hz (Nat.le_refl _) (Nat.le_refl _) (fun τ fr tg t d ta X J2 h1 h2 h3 h4 h5 => ?_))
  obtain ⟨hG, hw, hR, g18, hl, h0, h13, hbt⟩ := h1
  show xd_is 14 t _ _
  refine t_is hG.st.T (w_cc 1 8 (by show 1 ≤ σ.2.2.1 - 2700; omega) (by show 8 ≤ σ.2.2.2 - 262000; omega) (w_same (σ := (τ.1, τ.2.1, 1, 8)) (J := J2) hG.st hw hR hl h4 h3 h2 hN (Nat.le_refl _) (Nat.le_refl _) (fun ρ J3 a1 a2 a3 a4 => ?_)))
  refine w_t (by decide) ?_
  refine w_na (n := 6) (by decide) (by omega) (by show 1 ≤ σ.2.2.1 - 2700 - 1; omega) (by show 6 ≤ σ.2.2.2 - 262000 - 8; omega) (fun b6 hb6 => ?_)
  have hb6' : ρ.1 b6 = none := hb6
  obtain ⟨s1, s2, s3⟩ := id a4
  refine w_lt (Eq.refl _) (w_lt (Eq.refl _) ?_)
  refine hL _ fr (tgu tg b6 (2, 9, 9)) t d ta X J3 b6 ⟨a2.put hb6' _, ?_, a3, ?_, ?_, ?_, ?_, ?_⟩ h13 (tgu_b (m := 2) (fun a => hbt a) (Nat.le_refl 2)) ?_ ?_ (xu_s _ _ _) (by rw [tgu_s]) ?_ ?_
  · rw [s1]
    exact hw
  · rw [s3]
    exact g18
  · rw [s1]
    exact hl
  · rw [s1]
    exact h2
  · rw [s1]
    exact h3
  · rw [s1]
    exact h4
  · rw [s3]
    exact h5
  · rw [s1]
    exact h0
  · show 597000 ≤ σ.2.2.1 - 2700 - 1 - 1
    omega
  · show 7033000 ≤ σ.2.2.2 - 262000 - 8 - 6
    omega
end
