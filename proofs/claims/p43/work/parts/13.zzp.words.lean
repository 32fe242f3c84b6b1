section
variable {σ τ ρ σ0 τ0 : xd_S} {fr fr2 fr3 : xd_M} {tg tg2 : lTg} {i t : Nat} {d : lD} {ta ta2 : Nat → Option Nat} {X X2 : lX} {N M : Nat} {K : xd_K} {n k j e p b13 C S r m q : Nat} {J : xc_M} {w w2 : Nat → Int32} {Sc : Nat × Nat × (Nat → Int32)} {ce c8 c : xd_C} {V : Nat → Int32}
/-- a word's row is made and set -/
theorem tG.addW (h : tG σ fr tg i t d ta X) (hp : X.2.2.2.2.1 = p) (h14 : p < 14) (hr : σ.1 r = none) (h8 : σ.1 d.1.1 = some c8) (hρ : ρ.1 = xd_up (xd_up σ.1 r (0, 5, V, fun _ => none)) d.1.1 (2, c8.2.1, c8.2.2.1, va_up c8.2.2.2 p (some r))) : tG ρ fr (tgu tg r (i, 4, p)) i t (d.1, fun q => if q = p then r else d.2.1 q, d.2.2) ta (X.1, (fun k j => if k = p then V j else X.2.1 k j), X.2.2.1, X.2.2.2.1, p + 1, X.2.2.2.2.2.1, X.2.2.2.2.2.2) := by
  subst hp
  obtain ⟨hi, hg, hT⟩ := h
  have hX1 : tT σ.1 fr tg i t d ta (X.1, (fun k j => if k = X.2.2.2.2.1 then V j else X.2.1 k j), X.2.2) := by
    refine ⟨hT.1, hT.2.1, hT.2.2.1, hT.2.2.2.1, fun k hk => ?_, hT.2.2.2.2.2⟩
    obtain ⟨c, a1, a2, a3, a4, a5⟩ := hT.2.2.2.2.1 k hk
    refine ⟨c, a1, a2, a3, fun j hj => ?_, a5⟩
    have : k ≠ X.2.2.2.2.1 := Nat.ne_of_lt hk
    show c.2.2.1 j = if k = X.2.2.2.2.1 then V j else X.2.1 k j
    rw [if_neg this]
    exact a4 j hj
  have h1 := hX1.fresh (c := (0, 5, V, fun _ => none)) hi hg hr (i, 4, X.2.2.2.2.1)
  have nb : d.1.1 ≠ r := fun z => by rw [z, hr] at h8; exact nomatch h8
  have h2 := h1.addW h14 (xu_s _ _ _) (Eq.refl _) (Eq.refl _) (fun j hj => by show V j = if X.2.2.2.2.1 = X.2.2.2.2.1 then V j else _; rw [if_pos (Eq.refl _)]) (tgu_s _ _ _) ((xu_n _ _ nb).trans h8)
  refine ⟨hi, ?_, ?_⟩
  · rw [hρ]
    refine (hg.new hr _).wr ?_
    rw [tgu_n _ _ nb, hT.tgA]
    exact hi
  · rw [hρ]
    exact h2
theorem XW.addW (h : XW X w) (hi : iW w) (hp : xr w 62 = p) (h14 : p < 14) (h30 : xr w 3 = 0) (hV0 : V 0 = nI m) (hV1 : V 1 = nI q) (hV2 : V 2 = nI 0) (hV3 : V 3 = nI 0) (hV4 : V 4 = nI 0) : XW (upd X.1 3 (nI (p + 1)), (fun k j => if k = p then V j else X.2.1 k j), X.2.2.1, X.2.2.2.1, p + 1, X.2.2.2.2.2.1, X.2.2.2.2.2.2) (upd (wdW w p m) (4 + p) (nI q)) := by
  have hP := hi.nPB
  obtain ⟨h0, h1, h2, h3, h4, h5, h6, h7, h8, h9, h10', h11⟩ := h
  have e : ∀ j, j ≠ 70 + p → j ≠ 4 + p → j ≠ 18 + p → j ≠ 84 + p → j ≠ 62 → upd (wdW w p m) (4 + p) (nI q) j = w j := fun j a1 a2 a3 a4 a5 => by
    unfold wdW
    rw [upd_n _ _ a2, upd_n _ _ a5, upd_n _ _ a4, upd_n _ _ a3, upd_n _ _ a2, upd_n _ _ a1]
  have e62 : upd (wdW w p m) (4 + p) (nI q) 62 = nI (p + 1) := by
    unfold wdW
    rw [upd_n _ _ (by omega), upd_s]
  have x62 : xr (upd (wdW w p m) (4 + p) (nI q)) 62 = p + 1 := by
    unfold xr
    rw [e62]
    exact nI_clamp (by omega)
  have e63 : xr (upd (wdW w p m) (4 + p) (nI q)) 63 = xr w 63 := xr_eq (e 63 (by omega) (by omega) (by omega) (by omega) (by omega))
  have e2 : xr (upd (wdW w p m) (4 + p) (nI q)) 2 = xr w 2 := xr_eq (e 2 (by omega) (by omega) (by omega) (by omega) (by omega))
  have e3 : xr (upd (wdW w p m) (4 + p) (nI q)) 3 = xr w 3 := xr_eq (e 3 (by omega) (by omega) (by omega) (by omega) (by omega))
  have u4 : ∀ j, j ≠ 3 → upd X.1 3 (nI (p + 1)) j = X.1 j := fun j hj => upd_n _ _ hj
  refine ⟨?_, ?_, ?_, ?_, ?_, ?_, ?_, ?_, ?_, fun k hk => ?_, fun k hk => ?_, fun j hj z hz => ?_⟩
  · exact (u4 0 (by omega)).trans (h0.trans (e 1 (by omega) (by omega) (by omega) (by omega) (by omega)).symm)
  · exact (u4 1 (by omega)).trans (h1.trans (e 0 (by omega) (by omega) (by omega) (by omega) (by omega)).symm)
  · exact (u4 2 (by omega)).trans (h2.trans (e 64 (by omega) (by omega) (by omega) (by omega) (by omega)).symm)
  · exact (show upd X.1 3 (nI (p + 1)) 3 = nI (p + 1) from upd_s _ _ _).trans e62.symm
  · exact (u4 4 (by omega)).trans (h4.trans (e 63 (by omega) (by omega) (by omega) (by omega) (by omega)).symm)
  · exact (u4 5 (by omega)).trans (h5.trans (e 2 (by omega) (by omega) (by omega) (by omega) (by omega)).symm)
  · exact x62.symm
  · rw [e63]
    exact h7
  · rw [e2]
    exact h8
  · rw [x62] at hk
    rw [e3]
    dsimp only
    by_cases z : k = p
    · rw [if_pos z, if_pos z, if_pos z, if_pos z, if_pos z, z, hV0, hV1, hV2, hV3, hV4, h30, Nat.zero_testBit]
      unfold wdW
      refine ⟨?_, ?_, rfl, ?_, ?_⟩
      · rw [upd_n _ _ (by omega), upd_n _ _ (by omega), upd_n _ _ (by omega), upd_n _ _ (by omega), upd_n _ _ (by omega), upd_s]
      · rw [upd_s]
      · rw [upd_n _ _ (by omega), upd_n _ _ (by omega), upd_n _ _ (by omega), upd_s]
      · rw [upd_n _ _ (by omega), upd_n _ _ (by omega), upd_s]
    · rw [if_neg z, if_neg z, if_neg z, if_neg z, if_neg z]
      obtain ⟨g0, g1, g2, g3, g4⟩ := h9 k (by omega)
      exact ⟨g0.trans (e _ (by omega) (by omega) (by omega) (by omega) (by omega)).symm, g1.trans (e _ (by omega) (by omega) (by omega) (by omega) (by omega)).symm, g2, g3.trans (e _ (by omega) (by omega) (by omega) (by omega) (by omega)).symm, g4.trans (e _ (by omega) (by omega) (by omega) (by omega) (by omega)).symm⟩
  · rw [e63] at hk
    obtain ⟨g0, g1, g2⟩ := h10' k hk
    exact ⟨g0.trans (e _ (by omega) (by omega) (by omega) (by omega) (by omega)).symm, g1.trans (e _ (by omega) (by omega) (by omega) (by omega) (by omega)).symm, g2.trans (e _ (by omega) (by omega) (by omega) (by omega) (by omega)).symm⟩
  · rw [e2] at hj
    exact (h11 j hj z hz).trans (e _ (by omega) (by omega) (by omega) (by omega) (by omega)).symm
/-- k words are told -/
def WOI (i t : Nat) (ta : Nat → Option Nat) (b13 C S k : Nat) (τ : xd_S) : Prop := ∃ (fr : xd_M) (tg : lTg) (d : lD) (X : lX) (J : xc_M), TS τ fr tg i t d ta X J ∧ mlT tg i τ.1 b13 ∧ xr (J 1) 62 = k ∧ xr (J 1) 63 = 0 ∧ xr (J 1) 3 = 0 ∧ C ≤ τ.2.2.1 + k ∧ S ≤ τ.2.2.2 + 5 * k
theorem wo_step {v4 : Int32} {k267 : Int32 → Nat → Int32 → Int32 → Int32 → xd_S → Prop} (hSc : Sc.2.1 < 2 ^ 31) (hk : k < n ∧ n ≤ 14) (hC : 400 ≤ C) (hS : 3000 ≤ S) (h : WOI i t ta b13 C S k τ) (hK : ∀ τ', WOI i t ta b13 C S (k + 1) τ' → k267 0 t v4 (nI n) (nI (k + 1)) τ') : hbL_talk_267 N M Sc K k267 0 t v4 (nI n) (nI k) τ := by
  obtain ⟨fr, tg, d, X, J, ⟨hG, hw, hRR, h18, hl, h0, e13, hbt⟩, hml, h62, h63, h3, hCk, hSk⟩ := h
  have hi := hRR.1.i
  have hnW : X.2.2.2.2.1 = k := hw.nW.trans h62
  unfold hbL_talk_267
  refine w_f (by rw [xp_le (by omega) (by omega)]; omega) (w_c0 (w_cell (k := 2) (by decide) (by omega) hSc (fun y => ?_)))
  refine w_lt (Eq.refl _) (t_g8 hG.st.T ?_)
  refine w_na (n := 5) (by decide) (by omega) (by show 1 ≤ τ.2.2.1; omega) (by show 5 ≤ τ.2.2.2; omega) (fun r hr => ?_)
  have hr0 : τ.1 r = none := hr
  obtain ⟨c8, t1, t2, t3, -, t5⟩ := hG.2.2.2.1
  have nb : d.1.1 ≠ r := fun z => by rw [z, hr0] at t1; exact nomatch t1
  refine w_c0 (w_between _ (lo := 1) (hi := 20) (by omega) (by omega) (by decide) (by decide) (fun ln hln hln2 => ?_))
  refine w_sV (n := 0) (y := nI ln) (Eq.refl _) (by decide) ⟨by show 0 < 5; decide, by show 5 < 2 ^ 31; decide⟩ (Eq.refl _) ?_
  refine w_c0 (w_between _ (lo := 0) (hi := 12) (by omega) (by omega) (by decide) (by decide) (fun un _ hun => ?_))
  refine w_sV (n := 1) (y := nI un) (Eq.refl _) (by decide) ⟨by show 1 < 5; decide, by show 5 < 2 ^ 31; decide⟩ (Eq.refl _) ?_
  refine w_sV (n := 2) (y := nI 0) (Eq.refl _) (by decide) ⟨by show 2 < 5; decide, by show 5 < 2 ^ 31; decide⟩ (by decide) ?_
  refine w_sV (n := 3) (y := nI 0) (Eq.refl _) (by decide) ⟨by show 3 < 5; decide, by show 5 < 2 ^ 31; decide⟩ (by decide) ?_
  refine w_sV (n := 4) (y := nI 0) (Eq.refl _) (by decide) ⟨by show 4 < 5; decide, by show 5 < 2 ^ 31; decide⟩ (by decide) ?_
  refine w_sRg (n := k) (c := c8) ((xu_n _ _ nb).trans t1) t2 (xu_s _ _ _) (Eq.refl _) (Eq.refl _) ⟨by omega, by omega⟩ (fun σb fa fb => ?_)
  obtain ⟨V, hV⟩ : ∃ V, V = upd (upd (upd (upd (upd (fun _ => (0 : Int32)) 0 (nI ln)) 1 (nI un)) 2 (nI 0)) 3 (nI 0)) 4 (nI 0) := ⟨_, rfl⟩
  have V0 : V 0 = nI ln := by rw [hV, upd_n _ _ (by omega), upd_n _ _ (by omega), upd_n _ _ (by omega), upd_n _ _ (by omega), upd_s]
  have V1 : V 1 = nI un := by rw [hV, upd_n _ _ (by omega), upd_n _ _ (by omega), upd_n _ _ (by omega), upd_s]
  have V2 : V 2 = nI 0 := by rw [hV, upd_n _ _ (by omega), upd_n _ _ (by omega), upd_s]
  have V3 : V 3 = nI 0 := by rw [hV, upd_n _ _ (by omega), upd_s]
  have V4 : V 4 = nI 0 := by rw [hV, upd_s]
  have f2 : σb.2.1 = τ.2.1 := by rw [fb]
  have f3 : σb.2.2.1 = τ.2.2.1 - 1 := by rw [fb]
  have f4 : σb.2.2.2 = τ.2.2.2 - 5 := by rw [fb]
  have fa' : σb.1 = xd_up (xd_up τ.1 r (0, 5, V, fun _ => none)) d.1.1 (2, c8.2.1, c8.2.2.1, va_up c8.2.2.2 k (some r)) := by rw [hV]; exact fa
  have hGb := hG.addW hnW (by omega) hr0 t1 fa'
  have hmlb : mlT (tgu tg r (i, 4, k)) i σb.1 b13 := hml.of (fun x x1 x2 => by
    have n1 : x ≠ r := fun z => x2 (by rw [z]; exact hr0)
    have n2 : x ≠ d.1.1 := fun z => x1 (by rw [z, t5])
    exact ⟨by rw [fa', xu_n _ _ n2, xu_n _ _ n1], tgu_n _ _ n1⟩)
  have hXw := hw.addW hi h62 (V := V) (m := ln) (q := un) (by omega) h3 V0 V1 V2 V3 V4
  refine t_g8 hGb.T (t_aW hGb.T (k := k) (Eq.refl _) ⟨by show k < k + 1; omega, by show k + 1 ≤ 14; omega⟩ (t_wI hGb.T (k := k) (by show k < k + 1; omega) (j := 0) (Eq.refl _) (by omega) ?_))
  obtain ⟨I2, J2, s1, s2, s3, s4, s5⟩ := c_word hRR (by omega) hln hln2
  rw [h62] at s1 s3
  have r0 : (if k = k then V 0 else X.2.1 k 0) = nI ln := (if_pos (Eq.refl k)).trans V0
  have r1 : (if k = k then V 1 else X.2.1 k 1) = nI un := (if_pos (Eq.refl k)).trans V1
  refine w_xc (v := nI k) (J := I2) (by rw [f2]; show fX9_word (if k = k then V 0 else X.2.1 k 0) τ.2.1 = _; rw [r0]; exact s1) (w_f (fun z => z (Eq.refl _)) ?_)
  have x62 : xr (J2 1) 62 = k + 1 := by
    unfold xr
    rw [s3]
    unfold wdW
    rw [upd_s]
    exact nI_clamp (by omega)
  refine t_g8 hGb.st.T (t_aW hGb.st.T (k := k) (Eq.refl _) ⟨by show k < k + 1; omega, by show k + 1 ≤ 14; omega⟩ (t_wI hGb.st.T (k := k) (by show k < k + 1; omega) (j := 1) (Eq.refl _) (by omega) ?_))
  obtain ⟨I3, J3, w1, w2, w3, w4, w5⟩ := c_set_w s2 (k := k) (m := un) (by omega) (by omega)
  refine w_xc (v := 1) (J := I3) (by show fX9_set 2 (nI k) (if k = k then V 1 else X.2.1 k 1) I2 = _; rw [r1]; exact w1) (w_t (by decide) ?_)
  refine t_gI hGb.st.T (j := 3) (by omega) ?_
  have e4 : X.1 3 = nI k := (hw.nw.trans hi.nW).trans (by rw [h62])
  refine g_pI (v2 := nI (k + 1)) hGb.st (by show X.1 3 + 1 = _; rw [e4]; exact nI_add k 1) (fun τ1 a1 a2 a3 => ?_)
  have eJ : J3 1 = upd (wdW (J 1) k ln) (4 + k) (nI un) := by rw [w3, s3]
  have ue : ∀ j, j ≠ 70 + k → j ≠ 4 + k → j ≠ 18 + k → j ≠ 84 + k → j ≠ 62 → J3 1 j = J 1 j := fun j b1 b2 b3 b4 b5 => by
    rw [eJ]
    unfold wdW
    rw [upd_n _ _ b2, upd_n _ _ b5, upd_n _ _ b4, upd_n _ _ b3, upd_n _ _ b2, upd_n _ _ b1]
  have g1 : τ1.2.1 = I3 := by rw [a1]
  have g2 : τ1.2.2.1 = τ.2.2.1 - 1 := by rw [a1]; exact f3
  have g3 : τ1.2.2.2 = τ.2.2.2 - 5 := by rw [a1]; exact f4
  have hml1 : mlT (tgu tg r (i, 4, k)) i τ1.1 b13 := hmlb.of (fun x x1 x2 => ⟨a2.1 x x1 x2, Eq.refl _⟩)
  refine w_lt (nI_add k 1) (hK τ1 ⟨fr, _, _, _, J3, ⟨a3, by rw [eJ]; exact hXw, by rw [g1]; exact w2, w5.trans (s5.trans h18), hl.c (fun _ _ z => z) (ue 65 (by omega) (by omega) (by omega) (by omega) (by omega)) (fun j hj => ue j (by omega) (by omega) (by omega) (by omega) (by omega)), ?_, e13, tgu_b hbt (Nat.le_max_left _ _)⟩, hml1, ?_, ?_, ?_, by omega, by omega⟩)
  · rw [xr_eq (ue 0 (by omega) (by omega) (by omega) (by omega) (by omega))]
    exact h0
  · have : J3 1 62 = J2 1 62 := by rw [w3]; exact upd_n _ _ (by omega)
    rw [xr_eq this]
    exact x62
  · rw [xr_eq (ue 63 (by omega) (by omega) (by omega) (by omega) (by omega))]
    exact h63
  · rw [xr_eq (ue 3 (by omega) (by omega) (by omega) (by omega) (by omega))]
    exact h3
theorem wo_all {v4 : Int32} (hN : 1000 ≤ N) (hM : 60 ≤ M) (hSc : Sc.2.1 < 2 ^ 31) (h13 : ta 13 = some b13) (hC : 2500 ≤ C) (hS : 253000 ≤ S) (h : WOI i t ta b13 C S 0 σ) (hF : ∀ τ fr2 tg2 d2 ta2 X2 J2, TS τ fr2 tg2 i t d2 ta2 X2 J2 → mnT fr2 (ta2 14) (J2 1) → ndT fr2 (ta2 11) (J2 1) → wkT fr2 (ta2 10) (J2 1) → J2 0 4 = nI 0 → K 0 (some t) τ) : hbL_talk_252 N M Sc K 0 t v4 σ := by
  unfold hbL_talk_252
  refine w_c0 (w_between _ (lo := 0) (hi := 14) (by omega) (by omega) (by decide) (by decide) (fun n _ hn => ?_))
  refine w_lt (Eq.refl _) (w_lt (v := nI 0) (Eq.refl _) ?_)
  refine w_loop (S := xd_S) (fun fu k τ => hlL_talk_267 N M Sc K fu 0 t v4 (nI n) (nI k) τ) n (fun k τ => WOI i t ta b13 C S k τ) (fun fu s hI => ?_) (fun fu k s hk hI ih => ?_) N 0 _ (by omega) (Nat.zero_le _) h
  · show hbL_talk_267 N M Sc K _ 0 t v4 (nI n) (nI n) s
    obtain ⟨fr, tg, d, X, J, k1, k2, k3, k4, k5, k6, k7⟩ := hI
    unfold hbL_talk_267
    exact w_t (Int32.le_refl _) (w_lt (Eq.refl _) (ki_all (C := s.2.2.1) (S := s.2.2.2) hN hM hSc h13 hn (by omega) (by omega) ⟨X, J, k1, k2, k3, k4, k5, Eq.refl _, Eq.refl _⟩ hF))
  · exact wo_step hSc ⟨hk, hn⟩ (by omega) (by omega) hI ih
end
