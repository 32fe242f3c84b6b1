section
variable {σ τ ρ σ0 τ0 : xd_S} {fr fr2 fr3 : xd_M} {tg tg2 : lTg} {i t : Nat} {ta ta2 : Nat → Option Nat} {X X2 : lX} {N M : Nat} {K : xd_K} {n k j e p b13 b10 C S r m q : Nat} {J : xc_M} {w w2 : Nat → Int32} {Sc : Nat × Nat × (Nat → Int32)} {ce c8 c : xd_C} {V : Nat → Int32}
/-- a fresh talk and a fresh class are the same -/
theorem fr_talk {c0 : xd_C} {b8 b9 b10 b11 b12 b14 : Nat} (h : frT σ0 τ t c0 b8 b9 b10 b11 b12 b13 b14) (hm : mlT0 σ0 τ.1 b13) (hc0 : ∀ j, c0.2.2.1 j = 0) (hc15 : c0.2.2.2 15 = none) (hRR : RR τ.2.1 J) (h18 : J 0 18 = nI 0) (hz : ∀ j, j < 66 → J 1 j = nI 0) : ∃ tg d ta X, TS τ (fun _ => none) tg 1 t d ta X J ∧ mlT tg 1 τ.1 b13 ∧ ta 13 = some b13 := by
  obtain ⟨c, f1, f2, f3, g8, g9, g10, g11, g12, g13, g14, g15, m8, m9, m10, m11, m12, m14, ⟨n8, n9, n10, n11, n12, n14⟩, z1, z2, z3⟩ := h
  obtain ⟨cm, k1, k2, k3, k4, k5⟩ := hm
  obtain ⟨P, hP⟩ := bool_of (fun x => x = b13 ∨ ∃ q, q < 10 ∧ cm.2.2.2 q = some x)
  have t8 : t ≠ b8 := fun z => by rw [z, m8] at f1; have := Option.some.inj f1; rw [← this] at f2; exact absurd f2 (by decide)
  have t9 : t ≠ b9 := fun z => by rw [z, m9] at f1; have := Option.some.inj f1; rw [← this] at f2; exact absurd f2 (by decide)
  have t12 : t ≠ b12 := fun z => by rw [z, m12] at f1; have := Option.some.inj f1; rw [← this] at f2; exact absurd f2 (by decide)
  have p8 : P b8 = false := by
    cases hp : P b8 with
    | false => rfl
    | true =>
      rcases (hP b8).mp hp with q | ⟨q, q1, q2⟩
      · rw [← q, m8] at k1
        have := Option.some.inj k1
        rw [← this] at k3
        exact absurd k3 (by show ¬ (14 : Nat) = 10; decide)
      · obtain ⟨e, ce, y1, y2, y3, y4, y5⟩ := k5 q q1
        have ee : e = b8 := Option.some.inj (y1.symm.trans q2)
        rw [ee, m8] at y3
        have := Option.some.inj y3
        rw [← this] at y4
        exact absurd y4 (by show ¬ (2 : Nat) = 0; decide)
  have p9 : P b9 = false := by
    cases hp : P b9 with
    | false => rfl
    | true =>
      rcases (hP b9).mp hp with q | ⟨q, q1, q2⟩
      · rw [← q, m9] at k1
        have := Option.some.inj k1
        obtain ⟨e, ce, y1, -⟩ := k5 0 (by omega)
        rw [← this] at y1
        exact nomatch y1
      · obtain ⟨e, ce, y1, y2, y3, y4, y5⟩ := k5 q q1
        have ee : e = b9 := Option.some.inj (y1.symm.trans q2)
        rw [ee, m9] at y3
        have := Option.some.inj y3
        rw [← this] at y4
        exact absurd y4 (by show ¬ (2 : Nat) = 0; decide)
  have p12 : P b12 = false := by
    cases hp : P b12 with
    | false => rfl
    | true =>
      rcases (hP b12).mp hp with q | ⟨q, q1, q2⟩
      · rw [← q, m12] at k1
        have := Option.some.inj k1
        rw [← this] at k3
        exact absurd k3 (by show ¬ (150 : Nat) = 10; decide)
      · obtain ⟨e, ce, y1, y2, y3, y4, y5⟩ := k5 q q1
        have ee : e = b12 := Option.some.inj (y1.symm.trans q2)
        rw [ee, m12] at y3
        have := Option.some.inj y3
        rw [← this] at y4
        exact absurd y4 (by show ¬ (2 : Nat) = 0; decide)
  have pt : P t = false := by
    cases hp : P t with
    | false => rfl
    | true =>
      rcases (hP t).mp hp with q | ⟨q, q1, q2⟩
      · rw [← q, f1] at k1
        have := Option.some.inj k1
        rw [← this] at k2
        omega
      · obtain ⟨e, ce, y1, y2, y3, y4, y5⟩ := k5 q q1
        have ee : e = t := Option.some.inj (y1.symm.trans q2)
        rw [ee, f1] at y3
        have := Option.some.inj y3
        rw [← this] at y4
        omega
  obtain ⟨tg, htg⟩ : ∃ tg : lTg, tg = fun a => if P a = true then (2, 0, 0) else if a = t then (1, 0, 0) else if a = b8 then (1, 1, 0) else if a = b9 then (1, 2, 0) else if a = b12 then (1, 3, 0) else (0, 0, 0) := ⟨_, rfl⟩
  have gt : tg t = (1, 0, 0) := by rw [htg]; simp [pt]
  have gt8 : tg b8 = (1, 1, 0) := by rw [htg]; simp [p8, t8.symm]
  have gt9 : tg b9 = (1, 2, 0) := by rw [htg]; simp [p9, t9.symm, z1.symm]
  have gt12 : tg b12 = (1, 3, 0) := by rw [htg]; simp [p12, t12.symm, z2.symm, z3.symm]
  have gP : ∀ x, P x = true → tg x = (2, 0, 0) := fun x hx => by rw [htg]; simp [hx]
  have gb : ∀ a, (tg a).1 ≤ max 1 2 := fun a => by
    rw [htg]
    dsimp only
    split
    · decide
    · split
      · decide
      · split
        · decide
        · split
          · decide
          · split
            · decide
            · decide
  have gn : ∀ a, (tg a).1 ≠ 0 → τ.1 a ≠ none := fun a ha => by
    by_cases q : P a = true
    · rcases (hP a).mp q with z | ⟨o, o1, o2⟩
      · rw [z]
        exact nsome k1
      · obtain ⟨e, ce, y1, y2, y3, y4, y5⟩ := k5 o o1
        have ee : e = a := Option.some.inj (y1.symm.trans o2)
        rw [← ee]
        exact nsome y3
    · by_cases q1 : a = t
      · rw [q1]
        exact nsome f1
      · by_cases q2 : a = b8
        · rw [q2]
          exact nsome m8
        · by_cases q3 : a = b9
          · rw [q3]
            exact nsome m9
          · by_cases q4 : a = b12
            · rw [q4]
              exact nsome m12
            · exact absurd (show (tg a).1 = 0 by rw [htg]; simp [q, q1, q2, q3, q4]) ha
  have xz : ∀ j, j < 66 → xr (J 1) j = 0 := fun j hj => by
    unfold xr
    rw [hz j hj]
    decide
  have hi := hRR.1.i
  refine ⟨tg, ((b8, b9, b12), fun _ => 0, fun _ => 0), c.2.2.2, (fun _ => nI 0, fun _ _ => 0, fun _ _ => 0, fun _ _ => 0, 0, 0, 0), ⟨⟨by decide, ⟨fun a ca ha => (nomatch ha), gn⟩, ⟨c, f1, f2, fun j hj => (f3 j hj).trans (hc0 j), g8, g9, g12, fun _ _ => Eq.refl _, gt⟩, ⟨_, m8, Eq.refl _, Eq.refl _, fun k hk => absurd hk (Nat.not_lt_zero k), gt8⟩, ⟨_, m9, Eq.refl _, Eq.refl _, fun k hk => absurd hk (Nat.not_lt_zero k), gt9⟩, ⟨_, m12, Eq.refl _, Eq.refl _, fun k hk => absurd hk (Nat.not_lt_zero k), gt12⟩, fun k hk => absurd hk (Nat.not_lt_zero k), fun k hk => absurd hk (Nat.not_lt_zero k)⟩, ⟨(hz 1 (by omega)).symm, (hz 0 (by omega)).symm, (hz 64 (by omega)).symm, (hz 62 (by omega)).symm, (hz 63 (by omega)).symm, (hz 2 (by omega)).symm, (xz 62 (by omega)).symm, (xz 63 (by omega)).symm, (xz 2 (by omega)).symm, fun k hk => ?_, fun k hk => ?_, fun k hk => ?_⟩, hRR, h18, Or.inl ⟨g15.trans hc15, xz 65 (by omega)⟩, xz 0 (by omega), ⟨b13, g13⟩, gb⟩, ⟨cm, k1, k2, k3, ?_, fun q hq => ?_⟩, g13⟩
  · rw [xz 62 (by omega)] at hk
    exact absurd hk (Nat.not_lt_zero k)
  · rw [xz 63 (by omega)] at hk
    exact absurd hk (Nat.not_lt_zero k)
  · rw [xz 2 (by omega)] at hk
    exact absurd hk (Nat.not_lt_zero k)
  · rw [gP b13 ((hP b13).mpr (Or.inl (Eq.refl _)))]
    exact ⟨by decide, by decide⟩
  · obtain ⟨e, ce, y1, y2, y3, y4, y5⟩ := k5 q hq
    refine ⟨e, ce, y1, ?_, y3, y4, y5⟩
    rw [gP e ((hP e).mpr (Or.inr ⟨q, hq, y1⟩))]
    exact ⟨by decide, by decide⟩
end
