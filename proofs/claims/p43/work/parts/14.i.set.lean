-- ===== a step: to set, to undo, walks =====
section
variable {σ σ1 τ ρ : xd_S} {fr fr2 : xd_M} {tg tg2 : lTg} {i t b6 a10 : Nat} {d d2 : lD} {ta ta2 : Nat → Option Nat} {X X2 : lX} {N M : Nat} {K : xd_K} {m n n2 k p a j r B B2 I2 T2 dd q c : Nat} {I3 J J2 : xc_M} {w w2 w3 w0 : Nat → Int32} {R : Nat → Nat → Int32} {Sc : Nat × Nat × (Nat → Int32)}
/-- something is told: none is kept -/
theorem mid2 {k41 : Nat → Nat → Int32 → Int32 → xd_S → Prop} (hN : 1000 ≤ N) (h : MID b6 r t n a10 σ fr tg i d d2 ta X J B R) (hf : ∀ x, (tg x).1 ≠ i → σ.1 x ≠ none → τ.1 x = σ.1 x) (hG2 : tG τ fr2 tg i t d ta2 X2) (hw2 : XW X2 (J2 1)) (hR2 : RR τ.2.1 J2) (e18 : J2 0 18 = J 0 18) (e4 : J2 0 4 = nI 0) (hd0 : xr (J2 1) 0 = xr (J 1) 0) (ht : lawR fr2 (ta2 15) (J2 1) ∧ mnT fr2 (ta2 14) (J2 1) ∧ ndT fr2 (ta2 11) (J2 1) ∧ wkT fr2 (ta2 10) (J2 1)) (h13' : ∃ e, ta2 13 = some e) (hC2 : σ.2.2.1 ≤ τ.2.2.1 + 20000) (hS2 : σ.2.2.2 ≤ τ.2.2.2 + 200000) (hK : ∀ t' n' σ', LI b6 (r + 1) t' n' σ' → k41 t' b6 (nI n') (nI (r + 1)) σ') : hbL_law_1050 N M Sc K k41 t b6 0 (nI r) a10 0 τ := by
  obtain ⟨⟨hG, hw, hRR, h18, hl, hmn, hnd, hwk⟩, ⟨hi2, h13⟩, hB, hWAS, hPA, ⟨hd, hd2⟩, hT, ⟨hiB, h2B⟩, hC, hS, hr⟩ := h
  obtain ⟨cb, -, -, -, -, ⟨c1, c2, c3, c4⟩, -⟩ := id hWAS
  have hc : τ.1 b6 = some cb := (hf b6 (by rw [c4]; exact fun z => hi2 z.symm) (nsome c1)).trans c1
  show hbL_law_1050 N M Sc K k41 t b6 (nI 0) (nI r) a10 0 τ
  exact fin0 (n := 0) (R := R) (B := B + 1) (ta := ta2) hN ⟨hG2, hw2, hR2, e18.trans h18, ht⟩ hi2 h13' hB (WAS.none hc c2 c3 c4) (PA.zero e4 R) (by rw [hd0]; omega) (fun q hq => absurd hq (Nat.not_lt_zero q)) hr (by omega) (by omega) hK
theorem law_855 {k41 : Nat → Nat → Int32 → Int32 → xd_S → Prop} {v8 v9 v12 v13 v14 : Int32} {I2 : xc_M} (hN : 1000 ≤ N) (h : MID b6 r t n a10 σ fr tg i d d2 ta X J B R) (s1 : fX9_set v12 v14 v13 σ.2.1 = some (0, I2)) (s2 : RR I2 J) (hK : ∀ t' n' σ', LI b6 (r + 1) t' n' σ' → k41 t' b6 (nI n') (nI (r + 1)) σ') : hbL_law_855 N M Sc K k41 t b6 (nI n) (nI r) v8 v9 a10 0 v12 v13 v14 0 σ := by
  unfold hbL_law_855
  refine w_lt (Eq.refl _) (w_xc s1 (w_t (Eq.refl _) (w_t (Eq.refl _) ?_)))
  unfold hbL_law_927
  exact mid0 hN h s2 smJ.rfl hK
theorem law_764_0 {k41 : Nat → Nat → Int32 → Int32 → xd_S → Prop} {x v8 v9 : Int32} (hN : 1000 ≤ N) (h : MID b6 r t n a10 σ fr tg i d d2 ta X J B R) (hK : ∀ t' n' σ', LI b6 (r + 1) t' n' σ' → k41 t' b6 (nI n') (nI (r + 1)) σ') : hbL_law_764 N M Sc K k41 t b6 (nI n) (nI r) v8 v9 a10 0 0 1001 0 x σ := by
  obtain ⟨⟨hG, hw, hRR, h18, ht⟩, ⟨hi2, h13⟩, -, hWAS, hPA, -, -, -, hC, hS, hr⟩ := id h
  have hi := hRR.1.i
  unfold hbL_law_764
  refine w_c0 (w_between _ (lo := 0) (hi := 1001) (by omega) (by omega) (by decide) (by decide) (fun v _ hv => w_lt (Eq.refl _) (w_t (by decide) ?_)))
  unfold hbL_law_782
  refine w_lt (Eq.refl _) (w_f (fun z => z (Eq.refl _)) ?_)
  by_cases c1 : v < 1001
  · refine w_f (by rw [show (1001 : Int32) = nI 1001 from rfl, xp_le (by omega) (by omega)]; omega) ?_
    obtain ⟨I2, J2, s1, s2, s3, s4, s5⟩ := c_set_c hRR v9 c1
    unfold hbL_law_855
    refine w_lt (Eq.refl _) (w_xc s1 (w_t (Eq.refl _) (w_f (by decide) (w_f (fun z => z (Eq.refl _)) ?_))))
    refine g_pI (σ := (σ.1, I2, σ.2.2)) hG.st (v2 := nI v) (Eq.refl _) (fun τ q1 q2 q3 => ?_)
    unfold hbL_law_890
    refine w_t (by decide) ?_
    unfold hbL_law_907
    refine w_t (by decide) ?_
    unfold hbL_law_924
    refine w_lt (Eq.refl _) ?_
    unfold hbL_law_927
    refine mid2 hN h (fun x y z => q2.1 x y z) q3 (by rw [s3]; exact hw.num hi (Or.inr (Or.inr ⟨Eq.refl _, Eq.refl _⟩))) (by rw [q1]; exact s2) s5 s4 (by rw [s3]; exact xr_eq (upd_n _ _ (by omega))) (told_c ht hi q2.2.2.1 (fun j hj => by rw [s3]; exact upd_n _ _ (by omega))) h13 (by rw [q1]; show σ.2.2.1 ≤ σ.2.2.1 + 20000; omega) (by rw [q1]; show σ.2.2.2 ≤ σ.2.2.2 + 200000; omega) hK
  · refine w_t (by rw [show (1001 : Int32) = nI 1001 from rfl, xp_le (by omega) (by omega)]; omega) ?_
    obtain ⟨I2, s1, s2⟩ := c_set_c0 hRR v9 (m := v) (by omega) (by omega)
    exact law_855 (σ := (σ.1, σ.2.1, σ.2.2.1, σ.2.2.2)) hN h s1 s2 hK
theorem law_764_1 {k41 : Nat → Nat → Int32 → Int32 → xd_S → Prop} {x v9 : Int32} (hN : 1000 ≤ N) (h : MID b6 r t n a10 σ fr tg i d d2 ta X J B R) (hp : p ≤ xr (J 1) 63) (hK : ∀ t' n' σ', LI b6 (r + 1) t' n' σ' → k41 t' b6 (nI n') (nI (r + 1)) σ') : hbL_law_764 N M Sc K k41 t b6 (nI n) (nI r) (nI p) v9 a10 0 1 100 0 x σ := by
  obtain ⟨⟨hG, hw, hRR, h18, ht⟩, ⟨hi2, h13⟩, -, hWAS, hPA, -, -, -, hC, hS, hr⟩ := id h
  have hi := hRR.1.i
  have hPB := hi.nPB
  unfold hbL_law_764
  refine w_c0 (w_between _ (lo := 0) (hi := 100) (by omega) (by omega) (by decide) (by decide) (fun v _ hv => w_lt (Eq.refl _) (w_f (fun z => z (Eq.refl _)) ?_)))
  unfold hbL_law_782
  refine w_lt (Eq.refl _) (w_t (by decide) (w_f (fun z => z (Eq.refl _)) (t_gI (σ := (σ.1, σ.2.1, σ.2.2.1, σ.2.2.2)) hG.T (by omega) ?_)))
  rw [hw.np, hi.nP]
  by_cases c2 : p < xr (J 1) 63
  · refine w_f (by rw [xp_le (by omega) (by omega)]; omega) ?_
    by_cases c1 : v < 100
    · refine w_f (by rw [show (100 : Int32) = nI 100 from rfl, xp_le (by omega) (by omega)]; omega) ?_
      have hpP : p < X.2.2.2.2.2.1 ∧ X.2.2.2.2.2.1 ≤ 10 := by rw [hw.nP]; omega
      obtain ⟨I2, J2, s1, s2, s3, s4, s5⟩ := c_set_p hRR c2 c1
      have hXu := hw.uM hi c2 (j := 2) (v := nI v) (by omega)
      unfold hbL_law_855
      refine w_lt (Eq.refl _) (w_xc s1 (w_t (Eq.refl _) (w_f (by decide) (w_t (by decide) ?_))))
      unfold hbL_law_890
      refine w_f (fun z => z (Eq.refl _)) (t_g9 hG.T (t_aM hG.T (Eq.refl _) hpP (g_mS (σ := (σ.1, I2, σ.2.2)) hG.st hpP.1 (j := 2) (Eq.refl _) (by omega) (Eq.refl _) (fun τ q1 q2 q3 => ?_))))
      unfold hbL_law_907
      refine w_t (by decide) ?_
      unfold hbL_law_924
      refine w_lt (Eq.refl _) ?_
      unfold hbL_law_927
      refine mid2 hN h (fun x y z => q2.1 x y z) q3 (by rw [s3]; exact hXu) (by rw [q1]; exact s2) s5 s4 (by rw [s3]; exact xr_eq (upd_n _ _ (by omega))) (told_c ht hi q2.2.2.1 (fun j hj => by rw [s3]; exact upd_n _ _ (by omega))) h13 (by rw [q1]; show σ.2.2.1 ≤ σ.2.2.1 + 20000; omega) (by rw [q1]; show σ.2.2.2 ≤ σ.2.2.2 + 200000; omega) hK
    · refine w_t (by rw [show (100 : Int32) = nI 100 from rfl, xp_le (by omega) (by omega)]; omega) ?_
      obtain ⟨I2, s1, s2⟩ := c_set_p0 hRR (p := p) (m := v) (by omega) (by omega) (fun z => c1 z.2)
      unfold hbL_law_831
      exact law_855 (σ := (σ.1, σ.2.1, σ.2.2.1, σ.2.2.2)) hN h s1 s2 hK
  · refine w_t (by rw [xp_le (by omega) (by omega)]; omega) ?_
    obtain ⟨I2, s1, s2⟩ := c_set_p0 hRR (p := p) (m := v) (by omega) (by omega) (fun z => c2 z.1)
    unfold hbL_law_831
    exact law_855 (σ := (σ.1, σ.2.1, σ.2.2.1, σ.2.2.2)) hN h s1 s2 hK
theorem law_764_2 {k41 : Nat → Nat → Int32 → Int32 → xd_S → Prop} {x v8 : Int32} (hN : 1000 ≤ N) (h : MID b6 r t n a10 σ fr tg i d d2 ta X J B R) (hk : k ≤ xr (J 1) 62) (hK : ∀ t' n' σ', LI b6 (r + 1) t' n' σ' → k41 t' b6 (nI n') (nI (r + 1)) σ') : hbL_law_764 N M Sc K k41 t b6 (nI n) (nI r) v8 (nI k) a10 0 2 40 0 x σ := by
  obtain ⟨⟨hG, hw, hRR, h18, ht⟩, ⟨hi2, h13⟩, -, hWAS, hPA, -, -, -, hC, hS, hr⟩ := id h
  have hi := hRR.1.i
  have hWB := hi.nWB
  unfold hbL_law_764
  refine w_c0 (w_between _ (lo := 0) (hi := 40) (by omega) (by omega) (by decide) (by decide) (fun v _ hv => w_lt (Eq.refl _) (w_t (by decide) ?_)))
  unfold hbL_law_782
  refine w_lt (Eq.refl _) (w_t (by decide) (w_t (by decide) (w_f (fun z => z (Eq.refl _)) (t_gI (σ := (σ.1, σ.2.1, σ.2.2.1, σ.2.2.2)) hG.T (by omega) ?_))))
  rw [hw.nw, hi.nW]
  by_cases c2 : k < xr (J 1) 62
  · refine w_f (by rw [xp_le (by omega) (by omega)]; omega) ?_
    have hkW : k < X.2.2.2.2.1 ∧ X.2.2.2.2.1 ≤ 14 := by rw [hw.nW]; omega
    obtain ⟨I2, J2, s1, s2, s3, s4, s5⟩ := c_set_w hRR c2 (m := v) (by omega)
    have hXu := hw.uU (k := k) (v := nI v) hi c2
    unfold hbL_law_855
    refine w_lt (Eq.refl _) (w_xc s1 (w_t (Eq.refl _) (w_f (by decide) (w_t (by decide) ?_))))
    unfold hbL_law_890
    refine w_t (by decide) ?_
    unfold hbL_law_907
    refine w_f (fun z => z (Eq.refl _)) (t_g8 hG.T (t_aW hG.T (Eq.refl _) hkW (g_wS (σ := (σ.1, I2, σ.2.2)) hG.st hkW.1 (j := 1) (Eq.refl _) (by omega) (Eq.refl _) (fun τ q1 q2 q3 => ?_))))
    unfold hbL_law_924
    refine w_lt (Eq.refl _) ?_
    unfold hbL_law_927
    refine mid2 hN h (fun x y z => q2.1 x y z) q3 (by rw [s3]; exact hXu) (by rw [q1]; exact s2) s5 s4 (by rw [s3]; exact xr_eq (upd_n _ _ (by omega))) (told_c ht hi q2.2.2.1 (fun j hj => by rw [s3]; exact upd_n _ _ (by omega))) h13 (by rw [q1]; show σ.2.2.1 ≤ σ.2.2.1 + 20000; omega) (by rw [q1]; show σ.2.2.2 ≤ σ.2.2.2 + 200000; omega) hK
  · refine w_t (by rw [xp_le (by omega) (by omega)]; omega) ?_
    obtain ⟨I2, s1, s2⟩ := c_set_w0 hRR (nI v) (k := k) (by omega) c2
    unfold hbL_law_854
    exact law_855 (σ := (σ.1, σ.2.1, σ.2.2.1, σ.2.2.2)) hN h s1 s2 hK
theorem law_764_3 {k41 : Nat → Nat → Int32 → Int32 → xd_S → Prop} {x v8 v9 : Int32} (hN : 1000 ≤ N) (h : MID b6 r t n a10 σ fr tg i d d2 ta X J B R) (hK : ∀ t' n' σ', LI b6 (r + 1) t' n' σ' → k41 t' b6 (nI n') (nI (r + 1)) σ') : hbL_law_764 N M Sc K k41 t b6 (nI n) (nI r) v8 v9 a10 0 (nI 3) 40 0 x σ := by
  obtain ⟨⟨hG, hw, hRR, h18, ht⟩, ⟨hi2, h13⟩, -, hWAS, hPA, -, -, -, hC, hS, hr⟩ := id h
  unfold hbL_law_764
  refine w_c0 (w_between _ (lo := 0) (hi := 40) (by omega) (by omega) (by decide) (by decide) (fun v _ hv => w_lt (Eq.refl _) (w_t (by decide) ?_)))
  unfold hbL_law_782
  refine w_lt (Eq.refl _) (w_t (by decide) (w_t (by decide) (w_t (by decide) ?_)))
  obtain ⟨I2, s1, s2⟩ := c_set_n hRR v9 (nI v) (m := 3) (by omega) (by omega)
  unfold hbL_law_854
  exact law_855 (σ := (σ.1, σ.2.1, σ.2.2.1, σ.2.2.2)) hN h s1 s2 hK
/-- undo -/
theorem law_un {k41 : Nat → Nat → Int32 → Int32 → xd_S → Prop} (hN : 1000 ≤ N) (h : MID b6 r t n a10 σ fr tg i d d2 ta X J B R) (hK : ∀ t' n' σ', LI b6 (r + 1) t' n' σ' → k41 t' b6 (nI n') (nI (r + 1)) σ') : xd_xc (fX9_undo σ.2.1) σ (fun x67 τ68 => (if nI n ≤ (0 : Int32) then (hbL_law_1032 N M Sc K k41 t b6 (nI n) (nI r) a10 0 0 x67 τ68) else (hbL_law_1032 N M Sc K k41 t b6 (nI n) (nI r) a10 0 1 x67 τ68))) := by
  obtain ⟨⟨hG, hw, hRR, h18, ht⟩, ⟨hi2, h13⟩, hB, hWAS, hPA, ⟨hd, hd2⟩, hT, ⟨hiB, h2B⟩, hC, hS, hr⟩ := id h
  have hi := hRR.1.i
  have hn6 := hPA.1
  by_cases c0 : n = 0
  · subst c0
    obtain ⟨I2, s1, s2⟩ := c_undo0 hRR hPA hN
    refine w_xc s1 (w_t (by decide) ?_)
    unfold hbL_law_1032
    exact w_t (Eq.refl _) (w_t (by decide) (mid0 hN h s2 smJ.rfl hK))
  · obtain ⟨m, rfl⟩ : ∃ m, n = m + 1 := ⟨n - 1, by omega⟩
    obtain ⟨I2, J2, s1, s2, s3, s4, s5⟩ := c_undo hRR hPA hN
    obtain ⟨i2, t2, d2', X2, cb, ⟨b1, b2, b3, b4⟩, ⟨e1, e2, e3⟩, e4, e5, e6⟩ := hWAS.pop s3
    have hle : ¬ nI (m + 1) ≤ (0 : Int32) := by rw [show (0 : Int32) = nI 0 from rfl, xp_le (by omega) (by omega)]; omega
    refine w_xc s1 (w_f hle ?_)
    unfold hbL_law_1032
    have hm1 : nI (m + 1) + (-1 : Int32) = nI m := by rw [← i_m1 m, Int32.sub_eq_add_neg]
    refine w_t (Eq.refl _) (w_f hle (w_lt (v := nI m) hm1 (w_aR (σ := (σ.1, I2, σ.2.2)) (n := m) b1 b2 (Eq.refl _) ⟨by omega, by omega⟩ b4 ?_)))
    have hJ : ∀ j, 62 ≤ j → J2 1 j = J 1 j := fun j hj => by rw [s3]; exact mixP_hi hj
    have hd0 : xr (J2 1) 0 = xr (R m) 0 := by rw [s3]; exact xr_eq (mixP_lo (by omega))
    have h5 := hd2 m (by omega)
    refine fin0 (σ := (σ.1, I2, σ.2.2)) (n := m) (R := R) (J := J2) (B := B + 1) hN ⟨⟨e1, hG.2.1, e4⟩, e5, s2, s5.trans h18, told_c ht hi (fun _ _ q => q) (fun j hj => hJ j (by omega))⟩ e2 h13 hB ?_ s4 (by omega) (fun q hq => by have := hd2 q (by omega); omega) hr (by show 597000 ≤ σ.2.2.1 + _ + _; omega) (by show 7033000 ≤ σ.2.2.2 + _ + _; omega) hK
    have h1 : WAS σ fr tg b6 i2 ta J2 m R (B + 1) := e6.ext hG.2.1 ext.rfl (by omega)
    exact h1
/-- walks told anew -/
theorem law_wk {k41 : Nat → Nat → Int32 → Int32 → xd_S → Prop} {x : Int32} (hN : 1000 ≤ N) (hM : 60 ≤ M) (h : MID b6 r t n a10 σ fr tg i d d2 ta X J B R) (hK : ∀ t' n' σ', LI b6 (r + 1) t' n' σ' → k41 t' b6 (nI n') (nI (r + 1)) σ') : xd_ca (fun τ K => hL_walks N M t x τ K) σ (fun x73 _ τ72 => (if x73 ≠ (0 : Int32) then xd_lt 0 fun v4_74 => (hbL_law_1050 N M Sc K k41 t b6 v4_74 (nI r) a10 0 τ72) else xd_rl 0 K τ72)) := by
  obtain ⟨⟨hG, hw, hRR, h18, ht⟩, ⟨hi2, ⟨e13, h13⟩⟩, hB, hWAS, hPA, ⟨hd, hd2⟩, hT, ⟨hiB, h2B⟩, hC, hS, hr⟩ := id h
  have hi := hRR.1.i
  refine w_cc 400 40000 (by omega) (by omega) (w_walks (σ := (σ.1, σ.2.1, 400, 40000)) (J := J) hN hM hG.b hw hRR h18 (by omega) (Nat.le_refl _) (Nat.le_refl _) (fun τ' fr' b J' f1 f2 f3 f4 f5 f6 f7 => ?_))
  refine w_t (by decide) (w_lt (Eq.refl _) ?_)
  have q0 : ∀ j, j ≠ 10 → (if j = 10 then some b else ta j) = ta j := fun j hj => if_neg hj
  have hw' : XW X (J' 1) := hw.eqv hi (fun j hj => f4 j (by omega) (by omega))
  refine mid2 (τ := (τ'.1, τ'.2.1, σ.2.2.1 - 400, σ.2.2.2 - 40000)) (J2 := J') hN h (fun x y z => f1.1 x y z) f2.st hw' f3 (f6.trans h18.symm) f7 (xr_eq (f4 0 (by omega) (by omega))) ⟨?_, ?_, ?_, f5⟩ ⟨e13, (q0 13 (by omega)).trans h13⟩ (by show σ.2.2.1 ≤ σ.2.2.1 - 400 + 20000; omega) (by show σ.2.2.2 ≤ σ.2.2.2 - 40000 + 200000; omega) hK
  · exact ht.1.c f1.2.2 (f4 65 (by omega) (by omega)) (fun j hj => f4 j (by omega) (by omega))
  · exact ht.2.1.c hi f1.2.2 (fun j hj => f4 j (by omega) (by omega))
  · exact ht.2.2.1.c f1.2.2 (f4 68 (by omega) (by omega))
end
