section
variable {σ τ ρ σ0 τ0 : xd_S} {fr fr2 fr3 : xd_M} {tg tg2 : lTg} {i t : Nat} {d : lD} {ta ta2 : Nat → Option Nat} {X X2 : lX} {N M : Nat} {K : xd_K} {n k j e p b13 C S r m q : Nat} {J : xc_M} {w w2 : Nat → Int32} {Sc : Nat × Nat × (Nat → Int32)} {ce c9 c : xd_C} {V : Nat → Int32}
/-- p people are told -/
def PEI (i t : Nat) (ta : Nat → Option Nat) (b13 n C S p : Nat) (τ : xd_S) : Prop := ∃ (fr : xd_M) (tg : lTg) (d : lD) (X : lX) (J : xc_M), TS τ fr tg i t d ta X J ∧ mlT tg i τ.1 b13 ∧ xr (J 1) 62 = n ∧ xr (J 1) 63 = p ∧ xr (J 1) 3 = 0 ∧ C ≤ τ.2.2.1 + 20 * p ∧ S ≤ τ.2.2.2 + 80 * p
theorem pe_step {v4 : Int32} {k560 : Int32 → Nat → Int32 → Int32 → Int32 → Int32 → xd_S → Prop} (hN : 1000 ≤ N) (hSc : Sc.2.1 < 2 ^ 31) (hp : p < m ∧ m ≤ 10) (hC : 400 ≤ C) (hS : 3000 ≤ S) (hn : n ≤ 14) (h : PEI i t ta b13 n C S p τ) (hK : ∀ τ', PEI i t ta b13 n C S (p + 1) τ' → k560 0 t v4 (nI n) (nI m) (nI (p + 1)) τ') : hbL_talk_560 N M Sc K k560 0 t v4 (nI n) (nI m) (nI p) τ := by
  obtain ⟨fr, tg, d, X, J, ⟨hG, hw, hRR, h18, hl, h0, e13, hbt⟩, hml, h62, h63, h3, hCk, hSk⟩ := h
  have hi := hRR.1.i
  have hWB := hi.nWB
  have hnP : X.2.2.2.2.2.1 = p := hw.nP.trans h63
  unfold hbL_talk_560
  refine w_f (by rw [xp_le (by omega) (by omega)]; omega) (w_c0 (w_cell (k := 4) (by decide) (by omega) hSc (fun y => ?_)))
  refine w_lt (Eq.refl _) (t_g9 hG.st.T ?_)
  refine w_na (n := 3) (by decide) (by omega) (by show 1 ≤ τ.2.2.1; omega) (by show 3 ≤ τ.2.2.2; omega) (fun r hr => ?_)
  have hr0 : τ.1 r = none := hr
  obtain ⟨c9, t1, t2, t3, -, t5⟩ := hG.2.2.2.2.1
  have nb : d.1.2.1 ≠ r := fun z => by rw [z, hr0] at t1; exact nomatch t1
  refine w_c0 (w_between _ (lo := 0) (hi := 3) (by omega) (by omega) (by decide) (by decide) (fun at_ _ hat => ?_))
  refine w_sV (n := 0) (y := nI at_) (Eq.refl _) (by decide) ⟨by show 0 < 3; decide, by show 3 < 2 ^ 31; decide⟩ (Eq.refl _) ?_
  refine w_sV (n := 1) (y := nI 0) (Eq.refl _) (by decide) ⟨by show 1 < 3; decide, by show 3 < 2 ^ 31; decide⟩ (by decide) ?_
  refine w_c0 (w_between _ (lo := 0) (hi := 99) (by omega) (by omega) (by decide) (by decide) (fun br _ hbr => ?_))
  refine w_sV (n := 2) (y := nI br) (Eq.refl _) (by decide) ⟨by show 2 < 3; decide, by show 3 < 2 ^ 31; decide⟩ (Eq.refl _) ?_
  refine w_sRg (n := p) (c := c9) ((xu_n _ _ nb).trans t1) t2 (xu_s _ _ _) (Eq.refl _) (Eq.refl _) ⟨by omega, by omega⟩ (fun σb fa fb => ?_)
  have V0 : upd (upd (upd (fun _ => (0 : Int32)) 0 (nI at_)) 1 (nI 0)) 2 (nI br) 0 = nI at_ := by rw [upd_n _ _ (by omega), upd_n _ _ (by omega), upd_s]
  have V1 : upd (upd (upd (fun _ => (0 : Int32)) 0 (nI at_)) 1 (nI 0)) 2 (nI br) 1 = nI 0 := by rw [upd_n _ _ (by omega), upd_s]
  have V2 : upd (upd (upd (fun _ => (0 : Int32)) 0 (nI at_)) 1 (nI 0)) 2 (nI br) 2 = nI br := by rw [upd_s]
  have f2 : σb.2.1 = τ.2.1 := by rw [fb]
  have f3 : σb.2.2.1 = τ.2.2.1 - 1 := by rw [fb]
  have f4 : σb.2.2.2 = τ.2.2.2 - 3 := by rw [fb]
  have fa' : σb.1 = xd_up (xd_up τ.1 r (0, 3, upd (upd (upd (fun _ => (0 : Int32)) 0 (nI at_)) 1 (nI 0)) 2 (nI br), fun _ => none)) d.1.2.1 (2, c9.2.1, c9.2.2.1, va_up c9.2.2.2 p (some r)) := fa
  generalize upd (upd (upd (fun _ => (0 : Int32)) 0 (nI at_)) 1 (nI 0)) 2 (nI br) = V at V0 V1 V2 fa'
  have hGb := hG.addM hnP (by omega) hr0 t1 fa'
  have hmlb : mlT (tgu tg r (i, 5, p)) i σb.1 b13 := hml.of (fun x x1 x2 => by
    have n1 : x ≠ r := fun z => x2 (by rw [z]; exact hr0)
    have n2 : x ≠ d.1.2.1 := fun z => x1 (by rw [z, t5])
    exact ⟨by rw [fa', xu_n _ _ n2, xu_n _ _ n1], tgu_n _ _ n1⟩)
  have hXw := hw.addM hi h63 (V := V) (m := at_) (q := br) (by omega) V0 V1 V2
  refine t_g9 hGb.T (t_aM hGb.T (k := p) (Eq.refl _) ⟨by show p < p + 1; omega, by show p + 1 ≤ 10; omega⟩ (t_mI hGb.T (k := p) (by show p < p + 1; omega) (j := 0) (Eq.refl _) (by omega) ?_))
  obtain ⟨I2, J2, s1, s2, s3, s4, s5⟩ := c_person hRR (by omega) (m := at_) (by omega)
  rw [h63] at s1 s3
  have r0 : (if p = p then V 0 else X.2.2.1 p 0) = nI at_ := (if_pos (Eq.refl p)).trans V0
  have r2 : (if p = p then V 2 else X.2.2.1 p 2) = nI br := (if_pos (Eq.refl p)).trans V2
  refine w_xc (v := nI p) (J := I2) (by rw [f2]; show fX9_person (if p = p then V 0 else X.2.2.1 p 0) τ.2.1 = _; rw [r0]; exact s1) (w_f (fun z => z (Eq.refl _)) ?_)
  have x63 : xr (J2 1) 63 = p + 1 := by
    unfold xr
    rw [s3]
    unfold peW
    rw [upd_s]
    exact nI_clamp (by omega)
  have hwho : fX9_who I2 (nI p) 2 = some 50 := by
    have := c_who s2 (p := p) (m := 2) (by omega) (by omega)
    rw [show (2 : Int32) = nI 2 from rfl, this, s3]
    unfold peW
    rw [upd_n _ _ (by omega), show 32 + 10 * 2 + p = 52 + p by omega, upd_s]
    rfl
  refine w_xr hwho (w_f (fun z => z (Eq.refl _)) ?_)
  refine t_g9 hGb.st.T (t_aM hGb.st.T (k := p) (Eq.refl _) ⟨by show p < p + 1; omega, by show p + 1 ≤ 10; omega⟩ (t_mI hGb.st.T (k := p) (by show p < p + 1; omega) (j := 2) (Eq.refl _) (by omega) ?_))
  obtain ⟨I3, J3, w1, w2, w3, w4, w5⟩ := c_set_p s2 (p := p) (m := br) (by omega) (by omega)
  refine w_xc (v := 1) (J := I3) (by show fX9_set 1 (nI p) (if p = p then V 2 else X.2.2.1 p 2) I2 = _; rw [r2]; exact w1) (w_t (by decide) ?_)
  refine t_gI hGb.st.T (j := 4) (by omega) ?_
  have e4 : X.1 4 = nI p := (hw.np.trans hi.nP).trans (by rw [h63])
  refine g_pI (v2 := nI (p + 1)) hGb.st (by show X.1 4 + 1 = _; rw [e4]; exact nI_add p 1) (fun τ1 a1 a2 a3 => ?_)
  refine w_lt (Eq.refl _) ?_
  have eJ : J3 1 = upd (peW (J 1) p at_) (52 + p) (nI br) := by rw [w3, s3]
  have ue : ∀ j, j ≠ 32 + p → j ≠ 42 + p → j ≠ 52 + p → j ≠ 63 → J3 1 j = J 1 j := fun j b1 b2 b3 b4 => by
    rw [eJ]
    unfold peW
    rw [upd_n _ _ b3, upd_n _ _ b4, upd_n _ _ b3, upd_n _ _ b2, upd_n _ _ b1]
  have g1 : τ1.2.1 = I3 := by rw [a1]
  have g2 : τ1.2.2.1 = τ.2.2.1 - 1 := by rw [a1]; exact f3
  have g3 : τ1.2.2.2 = τ.2.2.2 - 3 := by rw [a1]; exact f4
  have hml1 : mlT (tgu tg r (i, 5, p)) i τ1.1 b13 := hmlb.of (fun x x1 x2 => ⟨a2.1 x x1 x2, Eq.refl _⟩)
  refine te_all (C := τ1.2.2.1) (S := τ1.2.2.2) hN hn (by omega) (by omega) ⟨fr, _, J3, ⟨a3, by rw [eJ]; exact hXw, by rw [g1]; exact w2, w5.trans (s5.trans h18), hl.c (fun _ _ z => z) (ue 65 (by omega) (by omega) (by omega) (by omega)) (fun j hj => ue j (by omega) (by omega) (by omega) (by omega)), ?_, e13, tgu_b hbt (Nat.le_max_left _ _)⟩, hml1, ?_, ?_, ?_, ?_, Nat.le_add_right _ _, Nat.le_add_right _ _⟩ (fun τ' hT => ?_)
  · rw [xr_eq (ue 0 (by omega) (by omega) (by omega) (by omega))]
    exact h0
  · rw [xr_eq (ue 62 (by omega) (by omega) (by omega) (by omega))]
    exact h62
  · have : J3 1 63 = J2 1 63 := by rw [w3]; exact upd_n _ _ (by omega)
    rw [xr_eq this]
    exact x63
  · rw [xr_eq (ue 3 (by omega) (by omega) (by omega) (by omega))]
    exact h3
  · have : J3 1 (42 + p) = nI 0 := by
      rw [eJ]
      unfold peW
      rw [upd_n _ _ (by omega), upd_n _ _ (by omega), upd_n _ _ (by omega), upd_s]
    unfold xr
    rw [this]
    decide
  · obtain ⟨fr', X', J', k1, k2, k3, k4, k5, k6, k7, k8⟩ := hT
    exact hK τ' ⟨fr', _, _, X', J', k1, k2, k3, k4, k5, by omega, by omega⟩
theorem pe_all {v4 : Int32} (hN : 1000 ≤ N) (hM : 60 ≤ M) (hSc : Sc.2.1 < 2 ^ 31) (h13 : ta 13 = some b13) (hm : m ≤ 10) (hn : n ≤ 14) (hC : 2400 ≤ C) (hS : 252000 ≤ S) (h : PEI i t ta b13 n C S 0 σ) (hK : ∀ τ fr2 tg2 d2 ta2 X2 J2, TS τ fr2 tg2 i t d2 ta2 X2 J2 → mnT fr2 (ta2 14) (J2 1) → ndT fr2 (ta2 11) (J2 1) → wkT fr2 (ta2 10) (J2 1) → J2 0 4 = nI 0 → K 0 (some t) τ) : hlL_talk_560 N M Sc K N 0 t v4 (nI n) (nI m) 0 σ := by
  refine w_loop (S := xd_S) (fun fu k τ => hlL_talk_560 N M Sc K fu 0 t v4 (nI n) (nI m) (nI k) τ) m (fun k τ => PEI i t ta b13 n C S k τ) (fun fu τ hI => ?_) (fun fu k τ hk hI ih => ?_) N 0 σ (by omega) (Nat.zero_le _) h
  · show hbL_talk_560 N M Sc K _ 0 t v4 (nI n) (nI m) (nI m) τ
    obtain ⟨fr, tg, d, X, J, k1, k2, k3, k4, k5, k6, k7⟩ := hI
    unfold hbL_talk_560
    exact w_t (Int32.le_refl _) (w_lt (Eq.refl _) (ml_all (C := τ.2.2.1) (S := τ.2.2.2) hN hM hSc h13 ⟨J, k1, k2, Eq.refl _, Eq.refl _⟩ (by omega) (by omega) (fun τ' fr2 ta2 X2 J2 => hK τ' fr2 tg d ta2 X2 J2)))
  · exact pe_step hN hSc ⟨hk, hm⟩ (by omega) (by omega) hn hI ih
end
