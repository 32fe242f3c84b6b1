section
variable {σ τ ρ σ0 τ0 : xd_S} {fr fr2 fr3 M : xd_M} {tg tg2 : lTg} {i t : Nat} {d : lD} {ta ta2 : Nat → Option Nat} {X X2 : lX} {K : xd_K} {n k j e p b13 C S r m q : Nat} {J : xc_M} {w w2 : Nat → Int32} {Sc : Nat × Nat × (Nat → Int32)} {ce c9 c : xd_C} {V : Nat → Int32}
theorem gI.wr {x : Nat} (h : gI M fr tg) (hx : (tg x).1 ≠ 0) : gI (xd_up M x c) fr tg := by
  refine ⟨fun a ca ha => ?_, fun a ha => ?_⟩
  · obtain ⟨h1, h2⟩ := h.1 a ca ha
    exact ⟨(xu_n _ _ (fun z => hx (by rw [← z]; exact h2))).trans h1, h2⟩
  · by_cases z : a = x
    · rw [z, xu_s]
      simp
    · rw [xu_n _ _ z]
      exact h.2 a ha
/-- a person's row is made and set -/
theorem tG.addM (h : tG σ fr tg i t d ta X) (hp : X.2.2.2.2.2.1 = p) (h10 : p < 10) (hr : σ.1 r = none) (h9 : σ.1 d.1.2.1 = some c9) (hρ : ρ.1 = xd_up (xd_up σ.1 r (0, 3, V, fun _ => none)) d.1.2.1 (2, c9.2.1, c9.2.2.1, va_up c9.2.2.2 p (some r))) : tG ρ fr (tgu tg r (i, 5, p)) i t (d.1, d.2.1, fun q => if q = p then r else d.2.2 q) ta (X.1, X.2.1, (fun k j => if k = p then V j else X.2.2.1 k j), X.2.2.2.1, X.2.2.2.2.1, p + 1, X.2.2.2.2.2.2) := by
  subst hp
  obtain ⟨hi, hg, hT⟩ := h
  have hX1 : tT σ.1 fr tg i t d ta (X.1, X.2.1, (fun k j => if k = X.2.2.2.2.2.1 then V j else X.2.2.1 k j), X.2.2.2) := by
    refine ⟨hT.1, hT.2.1, hT.2.2.1, hT.2.2.2.1, hT.2.2.2.2.1, fun k hk => ?_⟩
    obtain ⟨c, a1, a2, a3, a4, a5⟩ := hT.2.2.2.2.2 k hk
    refine ⟨c, a1, a2, a3, fun j hj => ?_, a5⟩
    have : k ≠ X.2.2.2.2.2.1 := Nat.ne_of_lt hk
    show c.2.2.1 j = if k = X.2.2.2.2.2.1 then V j else X.2.2.1 k j
    rw [if_neg this]
    exact a4 j hj
  have h1 := hX1.fresh (c := (0, 3, V, fun _ => none)) hi hg hr (i, 5, X.2.2.2.2.2.1)
  have nb : d.1.2.1 ≠ r := fun z => by rw [z, hr] at h9; exact nomatch h9
  have h2 := h1.addM h10 (xu_s _ _ _) (Eq.refl _) (Eq.refl _) (fun j hj => by show V j = if X.2.2.2.2.2.1 = X.2.2.2.2.2.1 then V j else _; rw [if_pos (Eq.refl _)]) (tgu_s _ _ _) ((xu_n _ _ nb).trans h9)
  refine ⟨hi, ?_, ?_⟩
  · rw [hρ]
    refine (hg.new hr _).wr ?_
    rw [tgu_n _ _ nb, hT.tgB]
    exact hi
  · rw [hρ]
    exact h2
theorem XW.addM (h : XW X w) (hi : iW w) (hp : xr w 63 = p) (h10 : p < 10) (hV0 : V 0 = nI m) (hV1 : V 1 = nI 0) (hV2 : V 2 = nI q) : XW (upd X.1 4 (nI (p + 1)), X.2.1, (fun k j => if k = p then V j else X.2.2.1 k j), X.2.2.2.1, X.2.2.2.2.1, p + 1, X.2.2.2.2.2.2) (upd (peW w p m) (52 + p) (nI q)) := by
  have hW := hi.nWB
  obtain ⟨h0, h1, h2, h3, h4, h5, h6, h7, h8, h9, h10', h11⟩ := h
  have e : ∀ j, j ≠ 32 + p → j ≠ 42 + p → j ≠ 52 + p → j ≠ 63 → upd (peW w p m) (52 + p) (nI q) j = w j := fun j a1 a2 a3 a4 => by
    unfold peW
    rw [upd_n _ _ a3, upd_n _ _ a4, upd_n _ _ a3, upd_n _ _ a2, upd_n _ _ a1]
  have e63 : upd (peW w p m) (52 + p) (nI q) 63 = nI (p + 1) := by
    unfold peW
    rw [upd_n _ _ (by omega), upd_s]
  have x63 : xr (upd (peW w p m) (52 + p) (nI q)) 63 = p + 1 := by
    unfold xr
    rw [e63]
    exact nI_clamp (by omega)
  have e62 : xr (upd (peW w p m) (52 + p) (nI q)) 62 = xr w 62 := xr_eq (e 62 (by omega) (by omega) (by omega) (by omega))
  have e2 : xr (upd (peW w p m) (52 + p) (nI q)) 2 = xr w 2 := xr_eq (e 2 (by omega) (by omega) (by omega) (by omega))
  have e3 : xr (upd (peW w p m) (52 + p) (nI q)) 3 = xr w 3 := xr_eq (e 3 (by omega) (by omega) (by omega) (by omega))
  have u4 : ∀ j, j ≠ 4 → upd X.1 4 (nI (p + 1)) j = X.1 j := fun j hj => upd_n _ _ hj
  refine ⟨?_, ?_, ?_, ?_, ?_, ?_, ?_, ?_, ?_, fun k hk => ?_, fun k hk => ?_, fun j hj z hz => ?_⟩
  · exact (u4 0 (by omega)).trans (h0.trans (e 1 (by omega) (by omega) (by omega) (by omega)).symm)
  · exact (u4 1 (by omega)).trans (h1.trans (e 0 (by omega) (by omega) (by omega) (by omega)).symm)
  · exact (u4 2 (by omega)).trans (h2.trans (e 64 (by omega) (by omega) (by omega) (by omega)).symm)
  · exact (u4 3 (by omega)).trans (h3.trans (e 62 (by omega) (by omega) (by omega) (by omega)).symm)
  · exact (show upd X.1 4 (nI (p + 1)) 4 = nI (p + 1) from upd_s _ _ _).trans e63.symm
  · exact (u4 5 (by omega)).trans (h5.trans (e 2 (by omega) (by omega) (by omega) (by omega)).symm)
  · rw [e62]
    exact h6
  · exact x63.symm
  · rw [e2]
    exact h8
  · rw [e62] at hk
    obtain ⟨g0, g1, g2, g3, g4⟩ := h9 k hk
    exact ⟨g0.trans (e _ (by omega) (by omega) (by omega) (by omega)).symm, g1.trans (e _ (by omega) (by omega) (by omega) (by omega)).symm, by rw [e3]; exact g2, g3.trans (e _ (by omega) (by omega) (by omega) (by omega)).symm, g4.trans (e _ (by omega) (by omega) (by omega) (by omega)).symm⟩
  · rw [x63] at hk
    dsimp only
    by_cases z : k = p
    · rw [if_pos z, if_pos z, if_pos z, z, hV0, hV1, hV2]
      unfold peW
      refine ⟨?_, ?_, ?_⟩
      · rw [upd_n _ _ (by omega), upd_n _ _ (by omega), upd_n _ _ (by omega), upd_n _ _ (by omega), upd_s]
      · rw [upd_n _ _ (by omega), upd_n _ _ (by omega), upd_n _ _ (by omega), upd_s]
      · rw [upd_s]
    · rw [if_neg z, if_neg z, if_neg z]
      obtain ⟨g0, g1, g2⟩ := h10' k (by omega)
      exact ⟨g0.trans (e _ (by omega) (by omega) (by omega) (by omega)).symm, g1.trans (e _ (by omega) (by omega) (by omega) (by omega)).symm, g2.trans (e _ (by omega) (by omega) (by omega) (by omega)).symm⟩
  · rw [e2] at hj
    exact (h11 j hj z hz).trans (e _ (by omega) (by omega) (by omega) (by omega)).symm
end
