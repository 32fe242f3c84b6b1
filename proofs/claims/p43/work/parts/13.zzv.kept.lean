-- ===== the kept talks =====
section
variable {σ τ ρ : xd_S} {fr fr2 : xd_M} {tg tg2 : lTg} {i t b6 : Nat} {d : lD} {ta ta2 : Nat → Option Nat} {X X2 : lX} {n k j : Nat} {J J2 : xc_M} {w w2 : Nat → Int32} {R : Nat → Nat → Int32}
/-- a talk is the same on rows that agree where it looks -/
theorem XW.low (h : XW X w) (hW : xr w 62 < 15) (hP : xr w 63 < 11) (hw : ∀ j, j < 65 ∨ (70 ≤ j ∧ j < 98) ∨ (748 ≤ j ∧ j < 748 + 4 * xr w 2) → w2 j = w j) : XW X w2 := by
  obtain ⟨h0, h1, h2, h3, h4, h5, h6, h7, h8, h9, h10, h11⟩ := h
  have e62 : xr w2 62 = xr w 62 := xr_eq (hw _ (by omega))
  have e63 : xr w2 63 = xr w 63 := xr_eq (hw _ (by omega))
  have e2 : xr w2 2 = xr w 2 := xr_eq (hw _ (by omega))
  have e3 : xr w2 3 = xr w 3 := xr_eq (hw _ (by omega))
  refine ⟨by rw [hw _ (by omega)]; exact h0, by rw [hw _ (by omega)]; exact h1, by rw [hw _ (by omega)]; exact h2, by rw [hw _ (by omega)]; exact h3, by rw [hw _ (by omega)]; exact h4, by rw [hw _ (by omega)]; exact h5, by rw [e62]; exact h6, by rw [e63]; exact h7, by rw [e2]; exact h8, fun k hk => ?_, fun p hp => ?_, fun j hj q hq => ?_⟩
  · rw [e62] at hk
    obtain ⟨g0, g1, g2, g3, g4⟩ := h9 k hk
    exact ⟨by rw [hw _ (by omega)]; exact g0, by rw [hw _ (by omega)]; exact g1, by rw [e3]; exact g2, by rw [hw _ (by omega)]; exact g3, by rw [hw _ (by omega)]; exact g4⟩
  · rw [e63] at hp
    obtain ⟨g0, g1, g2⟩ := h10 p hp
    exact ⟨by rw [hw _ (by omega)]; exact g0, by rw [hw _ (by omega)]; exact g1, by rw [hw _ (by omega)]; exact g2⟩
  · rw [e2] at hj
    rw [hw _ (by omega)]
    exact h11 j hj q hq
/-- the array b6 holds n kept talks: each has a mark of its own and is the row R s over what stays -/
def WAS (τ : xd_S) (fr : xd_M) (tg : lTg) (b6 i : Nat) (ta : Nat → Option Nat) (J : xc_M) (n : Nat) (R : Nat → Nat → Int32) : Prop := ∃ (cb : xd_C) (I T : Nat → Nat) (D : Nat → lD) (Y : Nat → lX), (τ.1 b6 = some cb ∧ cb.1 = 4 ∧ cb.2.1 = 6 ∧ (tg b6).1 = 2) ∧ (∀ s, s < n → cb.2.2.2 s = some (T s) ∧ (I s ≠ 0 ∧ I s ≠ 2 ∧ I s ≠ i) ∧ tT τ.1 fr tg (I s) (T s) (D s) ta (Y s) ∧ XW (Y s) (mixP (R s) (J 1)) ∧ xr (R s) 2 ≤ xr (J 1) 2) ∧ (∀ s s', s < n → s' < n → I s = I s' → s = s') ∧ ∀ s s', s ≤ s' → s' < n → xr (R s) 2 ≤ xr (R s') 2
theorem mixP_lo {r : Nat → Int32} (hj : j < 62) : mixP r w j = r j := by
  unfold mixP
  rw [if_pos hj]
theorem mixP_hi {r : Nat → Int32} (hj : 62 ≤ j) : mixP r w j = w j := by
  unfold mixP
  rw [if_neg (by omega)]
/-- the kept talks stay while only the talk's cells change, and what stays of the row stays -/
theorem WAS.of (h : WAS τ fr tg b6 i ta J n R) (hi2 : i ≠ 2) (hi : iW (J 1)) (hf : ∀ x, (tg x).1 ≠ i → τ.1 x ≠ none → ρ.1 x = τ.1 x) (hg : gI τ.1 fr tg) (hfr : ∀ x c, fr x = some c → fr2 x = some c) (hw : ∀ j, j = 62 ∨ j = 63 ∨ j = 64 ∨ (70 ≤ j ∧ j < 98) → J2 1 j = J 1 j) (hb : ∀ s, s < n → ∀ j, 748 ≤ j → j < 748 + 4 * xr (R s) 2 → J2 1 j = J 1 j) (h2 : ∀ s, s < n → xr (R s) 2 ≤ xr (J2 1) 2) : WAS ρ fr2 tg b6 i ta J2 n R := by
  obtain ⟨cb, I, T, D, Y, ⟨c1, c2, c3, c4⟩, hs, hI, hm⟩ := h
  have hW := hi.nWB
  have hP := hi.nPB
  refine ⟨cb, I, T, D, Y, ⟨(hf b6 (by rw [c4]; exact fun z => hi2 z.symm) (nsome c1)).trans c1, c2, c3, c4⟩, fun s hs0 => ?_, hI, hm⟩
  obtain ⟨s1, ⟨s2, s3, s4⟩, s5, s6, s7⟩ := hs s hs0
  refine ⟨s1, ⟨s2, s3, s4⟩, s5.keep (fun x hx => hf x (by rw [hx]; exact s4) (hg.2 x (by rw [hx]; exact s2))) hfr, s6.low ?_ ?_ (fun j hj => ?_), h2 s hs0⟩
  · rw [xr_eq (mixP_hi (r := R s) (w := J 1) (by omega) : mixP (R s) (J 1) 62 = J 1 62)]
    exact hW
  · rw [xr_eq (mixP_hi (r := R s) (w := J 1) (by omega) : mixP (R s) (J 1) 63 = J 1 63)]
    exact hP
  · have e2 : xr (mixP (R s) (J 1)) 2 = xr (R s) 2 := xr_eq (mixP_lo (by omega))
    rw [e2] at hj
    by_cases hlo : j < 62
    · rw [mixP_lo hlo, mixP_lo hlo]
    · rw [mixP_hi (by omega), mixP_hi (by omega)]
      rcases hj with q | q | q
      · exact hw j (by omega)
      · exact hw j (by omega)
      · exact hb s hs0 j q.1 q.2
end
