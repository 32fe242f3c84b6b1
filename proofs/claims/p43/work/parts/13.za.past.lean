-- ===== the past of the reference, beside the law's kept talks =====
/-- n rows are kept, the newest last -/
def PA (J : xc_M) (n : Nat) (R : Nat → Nat → Int32) : Prop := n ≤ 6 ∧ J 0 4 = nI n ∧ ∀ t, t < n → ∀ j, j < 62 → bRow J t j = R t j
def pushR (n : Nat) (R : Nat → Nat → Int32) (w : Nat → Int32) : Nat → Nat → Int32 := fun t => if t = min 6 (n + 1) - 1 then w else if n < 6 then R t else R (t + 1)
def mixP (r w : Nat → Int32) : Nat → Int32 := fun j => if j < 62 then r j else w j
theorem PA.keep {J J2 : xc_M} {n : Nat} {R : Nat → Nat → Int32} (h : PA J n R) (h3 : J2 3 = J 3) (h0 : J2 0 4 = J 0 4) : PA J2 n R := by
  obtain ⟨a, b, c⟩ := h
  refine ⟨a, h0.trans b, fun t ht j hj => ?_⟩
  unfold bRow
  rw [h3]
  exact c t ht j hj
section
variable {I J : xc_M} {N n : Nat} {R : Nat → Nat → Int32}
/-- to keep: the row of now behind the others -/
theorem rs_keeps (h : RR I J) (hp : PA J n R) (hN : 1000 ≤ N) : ∃ I2 J2, fX10_keeps N J = some (nI 0, J2) ∧ xS true 1 I2 J2 I2 J2 ∧ J2 1 = J 1 ∧ PA J2 (min 6 (n + 1)) (pushR n R (J 1)) ∧ J2 0 18 = J 0 18 := by
  obtain ⟨n6, h4, hrow⟩ := hp
  obtain ⟨I2, J2, -, g2, g3, g4, -⟩ := keep_both hN h
  obtain ⟨J3, k1, k2, k3, k4, k5, k6, k7⟩ := rv_keeps (J := J) hN n6 h4
  have := some_det g2 k1
  subst this
  refine ⟨I2, J2, g2, g3, g4, ⟨by omega, k3, fun t ht j hj => ?_⟩, k5 18 (by omega) (by omega)⟩
  unfold pushR
  by_cases e : t = min 6 (n + 1) - 1
  · rw [if_pos e, e]
    exact k6 j hj
  · rw [if_neg e]
    have h7 := k7 (min 6 (n + 1) - 1 - t) (by omega) (by omega) j hj
    rw [show min 6 (n + 1) - 1 - (min 6 (n + 1) - 1 - t) = t by omega] at h7
    rw [h7]
    by_cases c : n < 6
    · rw [if_pos c, show n - 1 - (min 6 (n + 1) - 1 - t - 1) = t by omega]
      exact hrow t (by omega) j hj
    · rw [if_neg c, show n - 1 - (min 6 (n + 1) - 1 - t - 1) = t + 1 by omega]
      exact hrow (t + 1) (by omega) j hj
end
