-- ===== the kept talks =====
section
variable {σ τ ρ : xd_S} {fr fr2 : xd_M} {tg tg2 : lTg} {i t b6 : Nat} {d : lD} {ta ta2 : Nat → Option Nat} {X X2 : lX} {n k j B B2 I2 T2 : Nat} {J J2 : xc_M} {w w2 : Nat → Int32} {R : Nat → Nat → Int32}
/-- a talk is the same on rows that agree where it looks -/
theorem XW.low (h : XW X w) (hW : xr w 62 < 15) (hP : xr w 63 < 11) (hw : ∀ j, j < 65 ∨ (70 ≤ j ∧ j < 98) ∨ (748 ≤ j ∧ j < 748 + 4 * xr w 2) → w2 j = w j) : XW X w2 := by
  obtain ⟨h0, h1, h2, h3, h4, h5, h6, h7, h8, h9, h10, h11⟩ := h
  have e62 : xr w2 62 = xr w 62 := xr_eq (hw _ (by omega))
  have e63 : xr w2 63 = xr w 63 := xr_eq (hw _ (by omega))
  have e2 : xr w2 2 = xr w 2 := xr_eq (hw _ (by omega))
  have e3 : xr w2 3 = xr w 3 := xr_eq (hw _ (by omega))
  refine ⟨by rw [hw _ (by omega)]; exact h0, by rw [hw _ (by omega)]; exact h1, by rw [hw _ (by omega)]; exact h2, by rw [hw _ (by omega)]; exact h3, by rw [hw _ (by omega)]; exact h4, by rw [hw _ (by omega)]; exact h5, by rw [e62]; exact h6, by rw [e63]; exact h7, by rw [e2]; exact h8, fun k hk => ?_, fun p hp => ?_, fun j hj q hq => ?_⟩
  · rw [e62] at hk
    obtain ⟨g0, g1, g2, g3, g4⟩ := h9 k hk
    exact ⟨by rw [hw _ (by omega)]; exact g0, by rw [hw _ (by omega)]; exact g1, by rw [e3]; exact g2, by rw [hw _ (by omega)]; exact g3, by rw [hw _ (by omega)]; exact g4⟩
  · rw [e63] at hp
    obtain ⟨g0, g1, g2⟩ := h10 p hp
    exact ⟨by rw [hw _ (by omega)]; exact g0, by rw [hw _ (by omega)]; exact g1, by rw [hw _ (by omega)]; exact g2⟩
  · rw [e2] at hj
    rw [hw _ (by omega)]
    exact h11 j hj q hq
/-- the array b6 holds n kept talks, marks below B: each has a mark of its own and is the row R s over what stays -/
def WAS (τ : xd_S) (fr : xd_M) (tg : lTg) (b6 i : Nat) (ta : Nat → Option Nat) (J : xc_M) (n : Nat) (R : Nat → Nat → Int32) (B : Nat) : Prop := ∃ (cb : xd_C) (I T : Nat → Nat) (D : Nat → lD) (Y : Nat → lX), (τ.1 b6 = some cb ∧ cb.1 = 4 ∧ cb.2.1 = 6 ∧ (tg b6).1 = 2) ∧ (∀ s, s < n → cb.2.2.2 s = some (T s) ∧ (I s ≠ 0 ∧ I s ≠ 2 ∧ I s ≠ i ∧ I s < B) ∧ tT τ.1 fr tg (I s) (T s) (D s) ta (Y s) ∧ XW (Y s) (mixP (R s) (J 1)) ∧ xr (R s) 2 ≤ xr (J 1) 2) ∧ (∀ s s', s < n → s' < n → I s = I s' → s = s') ∧ ∀ s s', s ≤ s' → s' < n → xr (R s) 2 ≤ xr (R s') 2
theorem mixP_lo {r : Nat → Int32} (hj : j < 62) : mixP r w j = r j := by
  unfold mixP
  rw [if_pos hj]
theorem mixP_hi {r : Nat → Int32} (hj : 62 ≤ j) : mixP r w j = w j := by
  unfold mixP
  rw [if_neg (by omega)]
/-- the kept talks stay while only the talk's cells change, and what stays of the row stays -/
theorem WAS.of (h : WAS τ fr tg b6 i ta J n R B) (hi2 : i ≠ 2) (hi : iW (J 1)) (hf : ∀ x, (tg x).1 ≠ i → τ.1 x ≠ none → ρ.1 x = τ.1 x) (hg : gI τ.1 fr tg) (hfr : ∀ x c, fr x = some c → fr2 x = some c) (hw : ∀ j, j = 62 ∨ j = 63 ∨ j = 64 ∨ (70 ≤ j ∧ j < 98) → J2 1 j = J 1 j) (hb : ∀ s, s < n → ∀ j, 748 ≤ j → j < 748 + 4 * xr (R s) 2 → J2 1 j = J 1 j) (h2 : ∀ s, s < n → xr (R s) 2 ≤ xr (J2 1) 2) : WAS ρ fr2 tg b6 i ta J2 n R B := by
  obtain ⟨cb, I, T, D, Y, ⟨c1, c2, c3, c4⟩, hs, hI, hm⟩ := h
  have hW := hi.nWB
  have hP := hi.nPB
  refine ⟨cb, I, T, D, Y, ⟨(hf b6 (by rw [c4]; exact fun z => hi2 z.symm) (nsome c1)).trans c1, c2, c3, c4⟩, fun s hs0 => ?_, hI, hm⟩
  obtain ⟨s1, ⟨s2, s3, s4, s8⟩, s5, s6, s7⟩ := hs s hs0
  refine ⟨s1, ⟨s2, s3, s4, s8⟩, s5.keep (fun x hx => hf x (by rw [hx]; exact s4) (hg.2 x (by rw [hx]; exact s2))) hfr, s6.low ?_ ?_ (fun j hj => ?_), h2 s hs0⟩
  · rw [xr_eq (mixP_hi (r := R s) (w := J 1) (by omega) : mixP (R s) (J 1) 62 = J 1 62)]
    exact hW
  · rw [xr_eq (mixP_hi (r := R s) (w := J 1) (by omega) : mixP (R s) (J 1) 63 = J 1 63)]
    exact hP
  · have e2 : xr (mixP (R s) (J 1)) 2 = xr (R s) 2 := xr_eq (mixP_lo (by omega))
    rw [e2] at hj
    by_cases hlo : j < 62
    · rw [mixP_lo hlo, mixP_lo hlo]
    · rw [mixP_hi (by omega), mixP_hi (by omega)]
      rcases hj with q | q | q
      · exact hw j (by omega)
      · exact hw j (by omega)
      · exact hb s hs0 j q.1 q.2
/-- a talk more is kept; of six the oldest goes -/
theorem WAS.push {cb : xd_C} {g : Nat → Int32} {Vr : Nat → Option Nat} {d2 : lD} {w0 : Nat → Int32} (h : WAS τ fr tg b6 i ta J n R B) (hn : n ≤ 6) (hcb : τ.1 b6 = some cb) (hρ : ρ.1 = xd_up τ.1 b6 (4, 6, g, Vr)) (hV : ∀ s, s < min 6 (n + 1) → Vr s = if s = min 6 (n + 1) - 1 then some T2 else if n < 6 then cb.2.2.2 s else cb.2.2.2 (s + 1)) (hT : tT τ.1 fr tg I2 T2 d2 ta X2) (h0 : I2 ≠ 0 ∧ I2 ≠ 2 ∧ I2 ≠ i) (hB : B ≤ I2) (hB2 : I2 < B2) (hX : XW X2 (mixP w0 (J 1))) (hb : xr w0 2 ≤ xr (J 1) 2) (hm2 : ∀ s, s < n → xr (R s) 2 ≤ xr w0 2) : WAS ρ fr tg b6 i ta J (min 6 (n + 1)) (pushR n R w0) B2 := by
  obtain ⟨cb', I, T, D, Y, ⟨c1, c2, c3, c4⟩, hs, hI, hm⟩ := h
  have ecb : cb' = cb := Option.some.inj (c1.symm.trans hcb)
  subst ecb
  have kp : ∀ (i3 t3 : Nat) (d3 : lD) (X3 : lX), i3 ≠ 2 → tT τ.1 fr tg i3 t3 d3 ta X3 → tT ρ.1 fr tg i3 t3 d3 ta X3 := fun i3 t3 d3 X3 h3 hT3 => by
    rw [hρ]
    exact hT3.keep (fun x hx => xu_n _ _ (fun z => h3 (by rw [← hx, z, c4]))) (fun _ _ q => q)
  -- the old place of the place s
  have old : ∀ s, s < min 6 (n + 1) → s ≠ min 6 (n + 1) - 1 → (if n < 6 then s else s + 1) < n := fun s h1 h2 => by
    by_cases h6 : n < 6
    · rw [if_pos h6]
      omega
    · rw [if_neg h6]
      omega
  have inj : ∀ s s', (if n < 6 then s else s + 1) = (if n < 6 then s' else s' + 1) → s = s' := fun s s' hh => by
    by_cases h6 : n < 6
    · rw [if_pos h6, if_pos h6] at hh
      exact hh
    · rw [if_neg h6, if_neg h6] at hh
      omega
  have mon : ∀ s s', s ≤ s' → (if n < 6 then s else s + 1) ≤ (if n < 6 then s' else s' + 1) := fun s s' hh => by
    by_cases h6 : n < 6
    · rw [if_pos h6, if_pos h6]
      exact hh
    · rw [if_neg h6, if_neg h6]
      omega
  have eR : ∀ s, s ≠ min 6 (n + 1) - 1 → pushR n R w0 s = R (if n < 6 then s else s + 1) := fun s h2 => by
    unfold pushR
    rw [if_neg h2]
    by_cases h6 : n < 6
    · rw [if_pos h6, if_pos h6]
    · rw [if_neg h6, if_neg h6]
  have eR2 : pushR n R w0 (min 6 (n + 1) - 1) = w0 := by
    unfold pushR
    rw [if_pos (Eq.refl _)]
  refine ⟨(4, 6, g, Vr), fun s => if s = min 6 (n + 1) - 1 then I2 else I (if n < 6 then s else s + 1), fun s => if s = min 6 (n + 1) - 1 then T2 else T (if n < 6 then s else s + 1), fun s => if s = min 6 (n + 1) - 1 then d2 else D (if n < 6 then s else s + 1), fun s => if s = min 6 (n + 1) - 1 then X2 else Y (if n < 6 then s else s + 1), ⟨by rw [hρ]; exact xu_s _ _ _, Eq.refl _, Eq.refl _, c4⟩, fun s h1 => ?_, fun s s' h1 h1' => ?_, fun s s' hss h1' => ?_⟩
  · dsimp only
    by_cases h2 : s = min 6 (n + 1) - 1
    · rw [if_pos h2, if_pos h2, if_pos h2, if_pos h2]
      refine ⟨(hV s h1).trans (if_pos h2), ⟨h0.1, h0.2.1, h0.2.2, hB2⟩, kp _ _ _ _ h0.2.1 hT, ?_, ?_⟩
      · rw [h2, eR2]
        exact hX
      · rw [h2, eR2]
        exact hb
    · rw [if_neg h2, if_neg h2, if_neg h2, if_neg h2, eR s h2]
      obtain ⟨s1, ⟨s2, s3, s4, s8⟩, s5, s6, s7⟩ := hs _ (old s h1 h2)
      refine ⟨?_, ⟨s2, s3, s4, by omega⟩, kp _ _ _ _ s3 s5, s6, s7⟩
      rw [hV s h1, if_neg h2, ← s1]
      by_cases h6 : n < 6
      · rw [if_pos h6, if_pos h6]
      · rw [if_neg h6, if_neg h6]
  · dsimp only
    intro hh
    by_cases h2 : s = min 6 (n + 1) - 1
    · by_cases h2' : s' = min 6 (n + 1) - 1
      · omega
      · rw [if_pos h2, if_neg h2'] at hh
        have := (hs _ (old s' h1' h2')).2.1.2.2.2
        omega
    · by_cases h2' : s' = min 6 (n + 1) - 1
      · rw [if_neg h2, if_pos h2'] at hh
        have := (hs _ (old s h1 h2)).2.1.2.2.2
        omega
      · rw [if_neg h2, if_neg h2'] at hh
        exact inj s s' (hI _ _ (old s h1 h2) (old s' h1' h2') hh)
  · by_cases h2 : s = min 6 (n + 1) - 1
    · have : s' = s := by omega
      rw [this]
      exact Nat.le_refl _
    · by_cases h2' : s' = min 6 (n + 1) - 1
      · rw [h2', eR2, eR s h2]
        exact hm2 _ (old s (by omega) h2)
      · rw [eR s h2, eR s' h2']
        exact hm _ _ (mon s s' hss) (old s' h1' h2')
end
