-- ===== the deeds' calls, by the row =====
section
variable {I J : xc_M} {k p N n : Nat} {R : Nat → Nat → Int32}
/-- say: not can -/
theorem c_say0 (h : RR I J) (hN : 1000 ≤ N) (hp : p < 2 ^ 31) (hk : k < 2 ^ 31) (hc : (decide (p < xr (J 1) 63) && (decide (k < xr (J 1) 62) && sCan (J 1) p k)) = false) : ∃ I2 J2, fX9_say N (nI p) (nI k) I = some (-1, I2) ∧ RR I2 J2 ∧ smJ J J2 := by
  have hw := h.1.i
  have hW := hw.nWB
  have hP := hw.nPB
  obtain ⟨v, I2, J2, g1, g2, g3⟩ := say_both hN h (nI p) (nI k)
  have fin : ∀ J3, fX10_say N (nI p) (nI k) J = some (mI, J3) → smJ J J3 → ∃ I2 J2, fX9_say N (nI p) (nI k) I = some (-1, I2) ∧ RR I2 J2 ∧ smJ J J2 := by
    intro J3 q1 q2
    obtain ⟨r1, r2⟩ := some_det2 g2 q1
    subst r1 r2
    exact ⟨I2, J2, g1, g3, q2⟩
  have oP : ∀ {a b : Nat}, ¬ a < b → a < 2 ^ 31 → b < 2 ^ 31 → oN (nI a) b := fun {a b} h1 h2 h3 => Or.inr (by rw [nI_leI (by omega) (by omega)]; omega)
  by_cases c1 : p < xr (J 1) 63
  · by_cases c2 : k < xr (J 1) 62
    · rw [decide_eq_true c1, decide_eq_true c2, Bool.true_and, Bool.true_and] at hc
      obtain ⟨I3, J3, -, s2, s3, s4⟩ := can_sim h.1 hN c1 c2
      rw [hc] at s2
      refine fin J3 ?_ (smJ.of s4)
      unfold fX10_say
      exact e_cr (rv_isPerson_t hw c1) (e_f (by decide) (e_cr (rv_isWord_t hw c2) (e_f (by decide) (e_cl s2 (e_f (fun z => z rfl) rfl)))))
    · refine fin J ?_ smJ.rfl
      unfold fX10_say
      exact e_cr (rv_isPerson_t hw c1) (e_f (by decide) (e_cr (rv_isWord_o hw (oP c2 hk (by omega))) (e_t rfl rfl)))
  · refine fin J ?_ smJ.rfl
    unfold fX10_say
    exact e_cr (rv_isPerson_o hw (oP c1 hp (by omega))) (e_t rfl rfl)
/-- say: can -/
theorem c_say (h : RR I J) (hpa : PA J n R) (hN : 1000 ≤ N) (hp : p < xr (J 1) 63) (hk : k < xr (J 1) 62) (hc : sCan (J 1) p k = true) : ∃ I2 J2, fX9_say N (nI p) (nI k) I = some (nI (sHd (J 1) p k).toNat, I2) ∧ RR I2 J2 ∧ J2 1 = saW (J 1) p k ∧ PA J2 (min 6 (n + 1)) (pushR n R (J 1)) ∧ J2 0 18 = J 0 18 := by
  have hw := h.1.i
  obtain ⟨v, I2, J2, g1, g2, g3⟩ := say_both hN h (nI p) (nI k)
  obtain ⟨I3, J3, -, s2, s3, s4⟩ := can_sim h.1 hN hp hk
  rw [hc] at s2
  have hsm := smJ.of s4
  have hR3 := RR_scr h s3 s4
  have hpa3 : PA J3 n R := hpa.keep hsm.2.1 (by rw [hsm.2.2])
  obtain ⟨I4, J4, k1, k2, k3, k4, k5⟩ := rs_keeps hR3 hpa3 hN
  have e1 : J4 1 = J 1 := k3.trans hsm.1
  obtain ⟨I5, J5, u1, u2, u3, u4⟩ := rs_says k2 hN (p := p) (k := k) (by rw [e1]; exact hp) (by rw [e1]; exact hk) (by rw [e1]; exact hc)
  rw [e1] at u1 u2
  have q : fX10_say N (nI p) (nI k) J = some (nI (sHd (J 1) p k).toNat, J5) := by
    unfold fX10_say
    refine e_cr (rv_isPerson_t hw hp) (e_f (by decide) (e_cr (rv_isWord_t hw hk) (e_f (by decide) (e_cl s2 (e_t (by decide) (e_cv k1 (e_cl u1 ?_)))))))
    cases sHd (J 1) p k with
    | true => exact e_f (by decide) rfl
    | false => exact e_t (by decide) rfl
  obtain ⟨r1, r2⟩ := some_det2 g2 q
  subst r1 r2
  refine ⟨I2, J2, g1, g3, u2, ?_⟩
  rw [hsm.1] at k4
  exact ⟨k4.keep (u3.2.2.2.1 3 (by omega) (by omega) (by omega) (by omega)) (u4 4), (u4 18).trans (k5.trans (by rw [hsm.2.2]))⟩
end
