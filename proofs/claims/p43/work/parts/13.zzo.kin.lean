section
variable {σ τ ρ σ0 τ0 : xd_S} {fr fr2 fr3 : xd_M} {tg tg2 : lTg} {i t : Nat} {d : lD} {ta ta2 : Nat → Option Nat} {X X2 : lX} {N M : Nat} {K : xd_K} {n k j e p a b b13 C S r m q : Nat} {J : xc_M} {w w2 : Nat → Int32} {Sc : Nat × Nat × (Nat → Int32)} {ce c9 c : xd_C} {v : Int32}
theorem XW.uK (h : XW X w) (ha : a < 14) (hW : xr w 62 < 15) (hP : xr w 63 < 11) : XW (X.1, up2 X.2.1 a 4 v, X.2.2) (upd w (84 + a) v) := by
  obtain ⟨h0, h1, h2, h3, h4, h5, h6, h7, h8, h9, h10, h11⟩ := h
  have e : ∀ j, j ≠ 84 + a → upd w (84 + a) v j = w j := fun j hj => upd_n _ _ hj
  have e62 : xr (upd w (84 + a) v) 62 = xr w 62 := xr_eq (e 62 (by omega))
  have e63 : xr (upd w (84 + a) v) 63 = xr w 63 := xr_eq (e 63 (by omega))
  have e2 : xr (upd w (84 + a) v) 2 = xr w 2 := xr_eq (e 2 (by omega))
  have e3 : xr (upd w (84 + a) v) 3 = xr w 3 := xr_eq (e 3 (by omega))
  refine ⟨h0.trans (e 1 (by omega)).symm, h1.trans (e 0 (by omega)).symm, h2.trans (e 64 (by omega)).symm, h3.trans (e 62 (by omega)).symm, h4.trans (e 63 (by omega)).symm, h5.trans (e 2 (by omega)).symm, by rw [e62]; exact h6, by rw [e63]; exact h7, by rw [e2]; exact h8, fun k hk => ?_, fun k hk => ?_, fun j hj z hz => ?_⟩
  · rw [e62] at hk
    obtain ⟨g0, g1, g2, g3, g4⟩ := h9 k hk
    rw [e (70 + k) (by omega), e (4 + k) (by omega), e3, e (18 + k) (by omega)]
    refine ⟨by simpa [up2] using g0, by simpa [up2] using g1, by simpa [up2] using g2, by simpa [up2] using g3, ?_⟩
    by_cases z : k = a
    · subst z
      simp [up2, upd]
    · rw [e _ (by omega)]
      simpa [up2, z] using g4
  · rw [e63] at hk
    obtain ⟨g0, g1, g2⟩ := h10 k hk
    rw [e (32 + k) (by omega), e (42 + k) (by omega), e (52 + k) (by omega)]
    exact ⟨g0, g1, g2⟩
  · rw [e2] at hj
    rw [e _ (by omega)]
    exact h11 j hj z hz
/-- while kin is told -/
def KII (fr : xd_M) (tg : lTg) (i t : Nat) (d : lD) (ta : Nat → Option Nat) (b13 n C S : Nat) (τ : xd_S) : Prop := ∃ (X : lX) (J : xc_M), TS τ fr tg i t d ta X J ∧ mlT tg i τ.1 b13 ∧ xr (J 1) 62 = n ∧ xr (J 1) 63 = 0 ∧ xr (J 1) 3 = 0 ∧ τ.2.2.1 = C ∧ τ.2.2.2 = S
theorem ki_step {v4 : Int32} {k401 : Int32 → Nat → Int32 → Int32 → Int32 → xd_S → Prop} (hN : 1000 ≤ N) (hM : 60 ≤ M) (hSc : Sc.2.1 < 2 ^ 31) (h13 : ta 13 = some b13) (hn : n ≤ 14) (hk : k ≤ 10) (hC : 2400 ≤ C) (hS : 252000 ≤ S) (h : KII fr tg i t d ta b13 n C S τ) (hF : ∀ τ fr2 tg2 d2 ta2 X2 J2, TS τ fr2 tg2 i t d2 ta2 X2 J2 → mnT fr2 (ta2 14) (J2 1) → ndT fr2 (ta2 11) (J2 1) → wkT fr2 (ta2 10) (J2 1) → J2 0 4 = nI 0 → K 0 (some t) τ) (hK : ∀ τ', k < 10 → KII fr tg i t d ta b13 n C S τ' → k401 0 t v4 (nI n) (nI (k + 1)) τ') : hbL_talk_401 N M Sc K k401 0 t v4 (nI n) (nI k) τ := by
  have hend : ∀ s : xd_S, KII fr tg i t d ta b13 n C S s → hbL_talk_544 N M Sc K 0 t v4 (nI n) s := fun s hs => by
    obtain ⟨X, J, ⟨hG, hr⟩, hml, h62, h63, h3, hCk, hSk⟩ := hs
    unfold hbL_talk_544
    refine w_c0 (w_between _ (lo := 0) (hi := 10) (by omega) (by omega) (by decide) (by decide) (fun m _ hm => ?_))
    refine w_lt (Eq.refl _) (w_lt (Eq.refl _) ?_)
    exact pe_all (C := C) (S := S) hN hM hSc h13 hm hn hC hS ⟨fr, tg, d, X, J, ⟨hG.st, hr⟩, hml, h62, h63, h3, by show C ≤ s.2.2.1 + 20 * 0; omega, by show S ≤ s.2.2.2 + 80 * 0; omega⟩ hF
  have hst : ∀ s : xd_S, KII fr tg i t d ta b13 n C S s → KII fr tg i t d ta b13 n C S (s.1, s.2.1, s.2.2.1, s.2.2.2) := fun s hs => hs
  unfold hbL_talk_401
  refine w_c0 (w_between _ (lo := 0) (hi := 10) (by omega) (by omega) (by decide) (by decide) (fun x _ hx => ?_))
  by_cases hxk : x ≤ k
  · exact w_t (by rw [xp_le (by omega) (by omega)]; exact hxk) (hend _ (hst τ h))
  refine w_f (by rw [xp_le (by omega) (by omega)]; exact hxk) ?_
  by_cases hn1 : n ≤ 1
  · exact w_t (by rw [show (1 : Int32) = nI 1 from Eq.refl _, xp_le (by omega) (by omega)]; exact hn1) (hend _ (hst τ h))
  refine w_f (by rw [show (1 : Int32) = nI 1 from Eq.refl _, xp_le (by omega) (by omega)]; exact hn1) ?_
  obtain ⟨X, J, ⟨hG, hw, hRR, h18, hl, h0, e13, hbt⟩, hml, h62, h63, h3, hCk, hSk⟩ := h
  have hi := hRR.1.i
  refine w_c0 (w_cell (k := 3) (by decide) (by omega) hSc (fun y => ?_))
  have em1 : nI n - 1 = nI (n - 1) := by rw [show (1 : Int32) = nI 1 from Eq.refl _, pk_sub (by omega)]
  refine w_lt (Eq.refl _) (w_c0 (w_between _ (lo := 0) (hi := n - 1) (by omega) (by omega) (by decide) em1 (fun a _ ha => ?_)))
  refine w_lt (Eq.refl _) (w_c0 (w_between _ (lo := 0) (hi := n - 1) (by omega) (by omega) (by decide) em1 (fun b _ hb => ?_)))
  refine w_lt (Eq.refl _) ?_
  by_cases hab : a = b
  · subst hab
    obtain ⟨I2, s1, s2⟩ := c_kin0 hRR (nI a) (nI a) 1 (Or.inl (Eq.refl _))
    refine w_xc (v := 0) (J := I2) s1 (w_t (Eq.refl _) ?_)
    unfold hbL_talk_491
    refine w_t (Eq.refl _) (w_f (fun z => z (Eq.refl _)) ?_)
    unfold hbL_talk_538
    exact w_lt (nI_add k 1) (hK _ (by omega) ⟨X, J, ⟨hG.st, hw, s2, h18, hl, h0, e13, hbt⟩, hml, h62, h63, h3, hCk, hSk⟩)
  · have hne : nI a ≠ nI b := fun z => hab (by
      have := congrArg Int32.toNatClampNeg z
      rw [nI_clamp (by omega), nI_clamp (by omega)] at this
      exact this)
    obtain ⟨I2, J2, s1, s2, s3, s4, s5⟩ := c_kin hRR (a := a) (b := b) (by omega) (by omega) hab
    refine w_xc (v := 1) (J := I2) s1 (w_f hne ?_)
    unfold hbL_talk_491
    refine w_t (Eq.refl _) (w_t hne ?_)
    have hnW : X.2.2.2.2.1 = n := hw.nW.trans h62
    have haX : a < X.2.2.2.2.1 ∧ X.2.2.2.2.1 ≤ 14 := by omega
    have hbX : b < X.2.2.2.2.1 ∧ X.2.2.2.2.1 ≤ 14 := by omega
    refine t_g8 hG.st.T (t_aW hG.st.T (Eq.refl _) haX (t_wI hG.st.T haX.1 (j := 4) (Eq.refl _) (by omega) ?_))
    rw [hw.kin (k := a) (by omega), hi.kin (k := a) (by omega), show (31 : Int32) = nI 31 from rfl, show (1 : Int32) = nI 1 from rfl, xp_bs (by omega), xp_or]
    refine g_wS hG.st haX.1 (j := 4) (Eq.refl _) (by omega) (Eq.refl _) (fun τ1 q1 q2 q3 => ?_)
    have hw1 := hw.uK (a := a) (v := nI (xr (J 1) (84 + a) ||| 2 ^ b)) (by omega) (by omega) (by omega)
    refine t_g8 q3.T (t_aW q3.T (Eq.refl _) hbX (t_wI q3.T hbX.1 (j := 4) (Eq.refl _) (by omega) ?_))
    have u1 : ∀ j, j ≠ 84 + a → upd (J 1) (84 + a) (nI (xr (J 1) (84 + a) ||| 2 ^ b)) j = J 1 j := fun j hj => upd_n _ _ hj
    have x62 : xr (upd (J 1) (84 + a) (nI (xr (J 1) (84 + a) ||| 2 ^ b))) 62 = xr (J 1) 62 := xr_eq (u1 62 (by omega))
    have x63 : xr (upd (J 1) (84 + a) (nI (xr (J 1) (84 + a) ||| 2 ^ b))) 63 = xr (J 1) 63 := xr_eq (u1 63 (by omega))
    have eb4 : up2 X.2.1 a 4 (nI (xr (J 1) (84 + a) ||| 2 ^ b)) b 4 = nI (xr (J 1) (84 + b)) := by
      have := hw1.kin (k := b) (by omega)
      rw [u1 _ (by omega), hi.kin (k := b) (by omega)] at this
      exact this
    show xd_sI 0 (d.2.1 b) (nI 4) (up2 X.2.1 a 4 (nI (xr (J 1) (84 + a) ||| 2 ^ b)) b 4 ||| _) τ1 _
    rw [eb4, xp_bs (by omega), xp_or]
    refine g_wS q3 hbX.1 (j := 4) (Eq.refl _) (by omega) (Eq.refl _) (fun τ2 p1 p2 p3 => ?_)
    have hw2 := hw1.uK (a := b) (v := nI (xr (J 1) (84 + b) ||| 2 ^ a)) (by omega) (by omega) (by omega)
    have eJ : J2 1 = upd (upd (J 1) (84 + a) (nI (xr (J 1) (84 + a) ||| 2 ^ b))) (84 + b) (nI (xr (J 1) (84 + b) ||| 2 ^ a)) := s3
    have ue : ∀ j, j ≠ 84 + a → j ≠ 84 + b → J2 1 j = J 1 j := fun j j1 j2 => by
      rw [eJ, upd_n _ _ j2, upd_n _ _ j1]
    have eI : τ2.2.1 = I2 := by rw [p1, q1]
    have eC : τ2.2.2 = τ.2.2 := by rw [p1, q1]
    have hml1 : mlT tg i τ2.1 b13 := (hml.of (fun x x1 x2 => ⟨q2.1 x x1 x2, Eq.refl _⟩) : mlT tg i τ1.1 b13).of (fun x x1 x2 => ⟨p2.1 x x1 x2, Eq.refl _⟩)
    unfold hbL_talk_538
    refine w_lt (nI_add k 1) (hK _ (by omega) ⟨_, J2, ⟨p3, by rw [eJ]; exact hw2, by rw [eI]; exact s2, s5.trans h18, hl.c (fun _ _ z => z) (ue 65 (by omega) (by omega)) (fun j hj => ue j (by omega) (by omega)), ?_, e13, hbt⟩, hml1, ?_, ?_, ?_, ?_, ?_⟩)
    · rw [xr_eq (ue 0 (by omega) (by omega))]
      exact h0
    · rw [xr_eq (ue 62 (by omega) (by omega))]
      exact h62
    · rw [xr_eq (ue 63 (by omega) (by omega))]
      exact h63
    · rw [xr_eq (ue 3 (by omega) (by omega))]
      exact h3
    · rw [eC]
      exact hCk
    · rw [eC]
      exact hSk
theorem ki_all {v4 : Int32} (hN : 1000 ≤ N) (hM : 60 ≤ M) (hSc : Sc.2.1 < 2 ^ 31) (h13 : ta 13 = some b13) (hn : n ≤ 14) (hC : 2400 ≤ C) (hS : 252000 ≤ S) (h : KII fr tg i t d ta b13 n C S τ) (hF : ∀ τ fr2 tg2 d2 ta2 X2 J2, TS τ fr2 tg2 i t d2 ta2 X2 J2 → mnT fr2 (ta2 14) (J2 1) → ndT fr2 (ta2 11) (J2 1) → wkT fr2 (ta2 10) (J2 1) → J2 0 4 = nI 0 → K 0 (some t) τ) : hlL_talk_401 N M Sc K N 0 t v4 (nI n) 0 τ := by
  refine w_loop (S := xd_S) (fun fu k τ => hlL_talk_401 N M Sc K fu 0 t v4 (nI n) (nI k) τ) 10 (fun k τ => KII fr tg i t d ta b13 n C S τ) (fun fu s hI => ?_) (fun fu k s hk hI ih => ?_) N 0 τ (by omega) (Nat.zero_le _) h
  · exact ki_step (k := 10) hN hM hSc h13 hn (Nat.le_refl _) hC hS hI hF (fun τ' h10 _ => absurd h10 (by omega))
  · exact ki_step hN hM hSc h13 hn (by omega) hC hS hI hF (fun τ' _ h2 => ih τ' h2)
end
