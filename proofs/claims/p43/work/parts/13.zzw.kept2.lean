section
variable {σ τ ρ : xd_S} {fr fr2 : xd_M} {tg tg2 : lTg} {i t b6 : Nat} {d : lD} {ta ta2 : Nat → Option Nat} {X X2 : lX} {m n k j B B2 I2 T2 : Nat} {J J2 : xc_M} {w w2 : Nat → Int32} {R : Nat → Nat → Int32}
theorem mixP_mixP (r r2 w : Nat → Int32) : mixP r (mixP r2 w) = mixP r w := by
  funext j
  by_cases h : j < 62
  · rw [mixP_lo h, mixP_lo h]
  · rw [mixP_hi (by omega), mixP_hi (by omega), mixP_hi (by omega)]
/-- the newest kept talk comes back -/
theorem WAS.pop (h : WAS τ fr tg b6 i ta J (m + 1) R B) (e1 : J2 1 = mixP (R m) (J 1)) : ∃ (i2 t2 : Nat) (d2 : lD) (X2 : lX) (cb : xd_C), (τ.1 b6 = some cb ∧ cb.1 = 4 ∧ cb.2.1 = 6 ∧ cb.2.2.2 m = some t2) ∧ (i2 ≠ 0 ∧ i2 ≠ 2 ∧ i2 < B) ∧ tT τ.1 fr tg i2 t2 d2 ta X2 ∧ XW X2 (J2 1) ∧ WAS τ fr tg b6 i2 ta J2 m R B := by
  obtain ⟨cb, I, T, D, Y, ⟨c1, c2, c3, c4⟩, hs, hI, hm⟩ := h
  obtain ⟨s1, ⟨s2, s3, s4, s8⟩, s5, s6, s7⟩ := hs m (by omega)
  refine ⟨I m, T m, D m, Y m, cb, ⟨c1, c2, c3, s1⟩, ⟨s2, s3, s8⟩, s5, by rw [e1]; exact s6, cb, I, T, D, Y, ⟨c1, c2, c3, c4⟩, fun s h1 => ?_, fun s s' h1 h2 => hI s s' (by omega) (by omega), fun s s' h1 h2 => hm s s' h1 (by omega)⟩
  obtain ⟨q1, ⟨q2, q3, q4, q8⟩, q5, q6, q7⟩ := hs s (by omega)
  refine ⟨q1, ⟨q2, q3, fun z => ?_, q8⟩, q5, ?_, ?_⟩
  · have := hI s m (by omega) (by omega) z
    omega
  · rw [e1, mixP_mixP]
    exact q6
  · rw [e1, xr_eq (mixP_lo (r := R m) (w := J 1) (by omega) : mixP (R m) (J 1) 2 = R m 2)]
    exact hm s m (by omega) (by omega)
/-- none is kept -/
theorem WAS.none {cb : xd_C} (h1 : τ.1 b6 = some cb) (h2 : cb.1 = 4) (h3 : cb.2.1 = 6) (h4 : (tg b6).1 = 2) : WAS τ fr tg b6 i ta J 0 R B := ⟨cb, fun _ => 0, fun _ => 0, fun _ => d0, fun _ => x0, ⟨h1, h2, h3, h4⟩, fun s hs => absurd hs (Nat.not_lt_zero s), fun s _ hs => absurd hs (Nat.not_lt_zero s), fun _ s _ hs => absurd hs (Nat.not_lt_zero s)⟩
  where
    d0 : lD := ((0, 0, 0), fun _ => 0, fun _ => 0)
    x0 : lX := (fun _ => 0, fun _ _ => 0, fun _ _ => 0, fun _ _ => 0, 0, 0, 0)
/-- all are forgotten -/
theorem WAS.drop (h : WAS τ fr tg b6 i ta J n R B) (R2 : Nat → Nat → Int32) (J3 : xc_M) : WAS τ fr tg b6 i ta J3 0 R2 B := by
  obtain ⟨cb, I, T, D, Y, ⟨c1, c2, c3, c4⟩, -⟩ := h
  exact ⟨cb, I, T, D, Y, ⟨c1, c2, c3, c4⟩, fun s hs => absurd hs (Nat.not_lt_zero s), fun s _ hs => absurd hs (Nat.not_lt_zero s), fun _ s _ hs => absurd hs (Nat.not_lt_zero s)⟩
/-- kept talks are seen over memories that keep what stood, and over more marks -/
theorem WAS.ext (h : WAS τ fr tg b6 i ta J n R B) (hg : gI τ.1 fr tg) (he : ext τ tg ρ tg2) (hB : B ≤ B2) : WAS ρ fr tg2 b6 i ta J n R B2 := by
  obtain ⟨cb, I, T, D, Y, ⟨c1, c2, c3, c4⟩, hs, hI, hm⟩ := h
  have hb := he.1 b6 (nsome c1)
  refine ⟨cb, I, T, D, Y, ⟨hb.1.trans c1, c2, c3, by rw [hb.2]; exact c4⟩, fun s hs0 => ?_, hI, hm⟩
  obtain ⟨s1, ⟨s2, s3, s4, s8⟩, s5, s6, s7⟩ := hs s hs0
  exact ⟨s1, ⟨s2, s3, s4, by omega⟩, s5.ext s2 hg he, s6, s7⟩
end
