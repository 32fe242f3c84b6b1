-- ===== a step: to move, teach, carve =====
section
variable {σ σ1 τ ρ : xd_S} {fr fr2 : xd_M} {tg tg2 : lTg} {i t b6 a10 : Nat} {d d2 : lD} {ta ta2 : Nat → Option Nat} {X X2 : lX} {N M : Nat} {K : xd_K} {m n n2 k p a j r B B2 I2 T2 dd q c : Nat} {I3 J J2 : xc_M} {w w2 w3 w0 : Nat → Int32} {R : Nat → Nat → Int32} {Sc : Nat × Nat × (Nat → Int32)}
theorem rwk_nt (hB : xr w2 2 < 151) (h2 : ∀ j, j = 0 ∨ j = 2 ∨ 62 ≤ j → w2 j = w j) (a b c : Int32) : rwk w (ntw w2 a b c) ∧ xr (ntw w2 a b c) 0 = xr w 0 := by
  refine ⟨⟨(bk.of (h2 2 (by omega)) (fun j hj => h2 j (by omega))).trans (bk.nt hB a b c), fun j hj => ?_⟩, ?_⟩
  · rw [ntw_q hB (by omega) (by omega)]
    exact h2 j (by omega)
  · refine xr_eq ?_
    rw [ntw_q hB (by omega) (by omega)]
    exact h2 0 (by omega)
theorem law_424_0 {k41 : Nat → Nat → Int32 → Int32 → xd_S → Prop} (hN : 1000 ≤ N) (h : MID b6 r t n a10 σ fr tg i d d2 ta X J B R) (hp : p ≤ xr (J 1) 63) (ha : a ≤ 10) (hc : ¬ (p < xr (J 1) 63 ∧ a < 10 ∧ xr (J 1) (32 + p) ≠ a)) (hK : ∀ t' n' σ', LI b6 (r + 1) t' n' σ' → k41 t' b6 (nI n') (nI (r + 1)) σ') : hbL_law_423 N M Sc K k41 t b6 (nI n) (nI r) (nI p) a10 (nI a) σ := by
  obtain ⟨⟨hG, hw, hRR, h18, hl, hmn, hnd, hwk⟩, -, -, hWAS, hPA, -, -, -, hC, hS, hr⟩ := id h
  have hPB := hRR.1.i.nPB
  obtain ⟨I2, s1, s2⟩ := c_move0 hRR hN (p := p) (a := a) (by omega) (by omega) hc
  unfold hbL_law_423 hbL_law_424
  refine w_lt (Eq.refl _) (w_xc s1 (w_t (Eq.refl _) (w_t (Eq.refl _) ?_)))
  unfold hbL_law_467
  exact mid0 hN h s2 smJ.rfl hK
theorem law_424_1 {k41 : Nat → Nat → Int32 → Int32 → xd_S → Prop} (hN : 1000 ≤ N) (h : MID b6 r t n a10 σ fr tg i d d2 ta X J B R) (hp : p < xr (J 1) 63) (ha : a < 10) (hc : xr (J 1) (32 + p) ≠ a) (hK : ∀ t' n' σ', LI b6 (r + 1) t' n' σ' → k41 t' b6 (nI n') (nI (r + 1)) σ') : hbL_law_424 N M Sc K k41 t b6 (nI n) (nI r) (nI p) a10 (nI a) 1 σ := by
  obtain ⟨⟨hG, hw, hRR, h18, hl, hmn, hnd, hwk⟩, -, -, hWAS, hPA, -, -, -, hC, hS, hr⟩ := id h
  have hi := hRR.1.i
  have hPB := hi.nPB
  have hpP : p < X.2.2.2.2.2.1 ∧ X.2.2.2.2.2.1 ≤ 10 := by rw [hw.nP]; omega
  obtain ⟨I2, J2, s1, s2, s3, s4, s5⟩ := c_move hRR hPA hN hp ha hc
  have hXu := hw.uM hi hp (j := 0) (v := nI a) (by omega)
  have hiu : iW (upd (J 1) (32 + p) (nI a)) := hi.up (by omega) (by omega) (by omega) (by omega) (by omega) (fun _ _ => ⟨a, ha, rfl⟩) (by omega) (by omega)
  unfold hbL_law_424
  refine w_lt (Eq.refl _) (w_xc s1 (w_t (Eq.refl _) (w_f (by decide) ?_)))
  refine t_g9 hG.T (t_aM hG.T (Eq.refl _) hpP (g_mS (σ := (σ.1, I2, σ.2.2)) hG.st hpP.1 (j := 0) (Eq.refl _) (by omega) (Eq.refl _) (fun τ q1 q2 q3 => ?_)))
  have k1 : τ.2.1 = I2 := by rw [q1]
  have k2 : τ.2.2.1 = σ.2.2.1 := by rw [q1]
  have k3 : τ.2.2.2 = σ.2.2.2 := by rw [q1]
  refine t_is q3.T (w_cc 1 4 (by omega) (by omega) (w_notes (σ := (τ.1, τ.2.1, 1, 4)) (w := upd (J 1) (32 + p) (nI a)) q3.st hXu hiu (Eq.refl _) (Nat.le_refl _) (Nat.le_refl _) (fun τ2 fr2 X2 a1 a2 a3 => ?_)))
  unfold hbL_law_467
  obtain ⟨r1, r2⟩ := rwk_nt (w := J 1) hiu.bookB (fun j hj => upd_n _ _ (by omega)) 3 (nI p) (nI a)
  have hf := q2.trans (fwd.b0 a1)
  refine mid1 (τ := (τ2.1, τ2.2.1, τ.2.2.1 - 1, τ.2.2.2 - 4)) hN h (fun x y z => hf.1 x y z) hf.2.2.1 a2.st (by rw [s3]; exact a3) (by show RR τ2.2.1 J2; rw [a1.2.2.2]; show RR τ.2.1 J2; rw [k1]; exact s2) s5 (by rw [s3]; exact r1) (by rw [s3]; exact r2) s4 (by show σ.2.2.1 ≤ τ.2.2.1 - 1 + 100; omega) (by show σ.2.2.2 ≤ τ.2.2.2 - 4 + 1000; omega) hK
theorem law_528 {k41 : Nat → Nat → Int32 → Int32 → xd_S → Prop} (hN : 1000 ≤ N) (h : MID b6 r t n a10 σ fr tg i d d2 ta X J B R) (hp : p ≤ xr (J 1) 63) (hk : k ≤ xr (J 1) 62) (hc : ¬ (p < xr (J 1) 63 ∧ k < xr (J 1) 62 ∧ (xr (J 1) 3).testBit k = false ∧ (xr (J 1) (42 + p)).testBit k = false)) (hK : ∀ t' n' σ', LI b6 (r + 1) t' n' σ' → k41 t' b6 (nI n') (nI (r + 1)) σ') : hbL_law_528 N M Sc K k41 t b6 (nI n) (nI r) (nI p) (nI k) a10 σ := by
  obtain ⟨⟨hG, hw, hRR, h18, hl, hmn, hnd, hwk⟩, -, -, hWAS, hPA, -, -, -, hC, hS, hr⟩ := id h
  have hPB := hRR.1.i.nPB
  have hWB := hRR.1.i.nWB
  obtain ⟨I2, s1, s2⟩ := c_teach0 hRR hN (p := p) (k := k) (by omega) (by omega) hc
  unfold hbL_law_528 hbL_law_529
  exact w_lt (Eq.refl _) (w_xc s1 (w_t (Eq.refl _) (w_t (Eq.refl _) (mid0 hN h s2 smJ.rfl hK))))
theorem law_529 {k41 : Nat → Nat → Int32 → Int32 → xd_S → Prop} (hN : 1000 ≤ N) (h : MID b6 r t n a10 σ fr tg i d d2 ta X J B R) (hp : p < xr (J 1) 63) (hk : k < xr (J 1) 62) (hl3 : (xr (J 1) 3).testBit k = false) (hl4 : (xr (J 1) (42 + p)).testBit k = false) (hK : ∀ t' n' σ', LI b6 (r + 1) t' n' σ' → k41 t' b6 (nI n') (nI (r + 1)) σ') : hbL_law_529 N M Sc K k41 t b6 (nI n) (nI r) (nI p) (nI k) a10 1 σ := by
  obtain ⟨⟨hG, hw, hRR, h18, hl, hmn, hnd, hwk⟩, -, -, hWAS, hPA, -, -, -, hC, hS, hr⟩ := id h
  have hi := hRR.1.i
  have hPB := hi.nPB
  have hWB := hi.nWB
  have hpP : p < X.2.2.2.2.2.1 ∧ X.2.2.2.2.2.1 ≤ 10 := by rw [hw.nP]; omega
  obtain ⟨I2, J2, s1, s2, s3, s4, s5⟩ := c_teach hRR hPA hN hp hk hl3 hl4
  have hXu := hw.uM hi hp (j := 1) (v := nI (xr (J 1) (42 + p) ||| 2 ^ k)) (by omega)
  have hiu : iW (upd (J 1) (42 + p) (nI (xr (J 1) (42 + p) ||| 2 ^ k))) := hi.up (by omega) (by omega) (by omega) (by omega) (by omega) (by omega) (fun _ _ => ⟨xr (J 1) (42 + p) ||| 2 ^ k, Nat.or_lt_two_pow (hi.tongueP (by omega)) (p2_lt (by omega)), rfl⟩) (by omega)
  unfold hbL_law_529
  refine w_lt (Eq.refl _) (w_xc s1 (w_t (Eq.refl _) (w_f (by decide) ?_)))
  refine t_g9 hG.T (t_aM hG.T (Eq.refl _) hpP (t_mI (σ := (σ.1, I2, σ.2.2)) hG.T hpP.1 (j := 1) (Eq.refl _) (by omega) ?_))
  rw [hw.tongue hp, hi.tongue (by omega)]
  have eor : nI (xr (J 1) (42 + p)) ||| ((1 : Int32) <<< (nI k &&& 31)) = nI (xr (J 1) (42 + p) ||| 2 ^ k) := by rw [show (31 : Int32) = nI 31 from rfl, show (1 : Int32) = nI 1 from rfl, xp_bs (by omega), xp_or]
  refine g_mS (σ := (σ.1, I2, σ.2.2)) hG.st hpP.1 (j := 1) (Eq.refl _) (by omega) eor (fun τ q1 q2 q3 => ?_)
  have k1 : τ.2.1 = I2 := by rw [q1]
  have k2 : τ.2.2.1 = σ.2.2.1 := by rw [q1]
  have k3 : τ.2.2.2 = σ.2.2.2 := by rw [q1]
  refine t_is q3.T (w_cc 1 4 (by omega) (by omega) (w_notes (σ := (τ.1, τ.2.1, 1, 4)) (w := upd (J 1) (42 + p) (nI (xr (J 1) (42 + p) ||| 2 ^ k))) q3.st hXu hiu (Eq.refl _) (Nat.le_refl _) (Nat.le_refl _) (fun τ2 fr2 X2 a1 a2 a3 => ?_)))
  obtain ⟨r1, r2⟩ := rwk_nt (w := J 1) hiu.bookB (fun j hj => upd_n _ _ (by omega)) 4 (nI p) (nI k)
  have hf := q2.trans (fwd.b0 a1)
  refine mid1 (τ := (τ2.1, τ2.2.1, τ.2.2.1 - 1, τ.2.2.2 - 4)) hN h (fun x y z => hf.1 x y z) hf.2.2.1 a2.st (by rw [s3]; exact a3) (by show RR τ2.2.1 J2; rw [a1.2.2.2]; show RR τ.2.1 J2; rw [k1]; exact s2) s5 (by rw [s3]; exact r1) (by rw [s3]; exact r2) s4 (by show σ.2.2.1 ≤ τ.2.2.1 - 1 + 100; omega) (by show σ.2.2.2 ≤ τ.2.2.2 - 4 + 1000; omega) hK
theorem law_663 {k41 : Nat → Nat → Int32 → Int32 → xd_S → Prop} (hN : 1000 ≤ N) (h : MID b6 r t n a10 σ fr tg i d d2 ta X J B R) (hk : k ≤ xr (J 1) 62) (hc : ¬ (k < xr (J 1) 62 ∧ (xr (J 1) 3).testBit k = true)) (hK : ∀ t' n' σ', LI b6 (r + 1) t' n' σ' → k41 t' b6 (nI n') (nI (r + 1)) σ') : hbL_law_663 N M Sc K k41 t b6 (nI n) (nI r) (nI k) a10 σ := by
  obtain ⟨⟨hG, hw, hRR, h18, hl, hmn, hnd, hwk⟩, -, -, hWAS, hPA, -, -, -, hC, hS, hr⟩ := id h
  have hWB := hRR.1.i.nWB
  obtain ⟨I2, s1, s2⟩ := c_carve0 hRR hN (k := k) (by omega) hc
  unfold hbL_law_663 hbL_law_664
  exact w_lt (Eq.refl _) (w_xc s1 (w_t (Eq.refl _) (w_t (Eq.refl _) (mid0 hN h s2 smJ.rfl hK))))
theorem law_664 {k41 : Nat → Nat → Int32 → Int32 → xd_S → Prop} (hN : 1000 ≤ N) (h : MID b6 r t n a10 σ fr tg i d d2 ta X J B R) (hk : k < xr (J 1) 62) (hl3 : (xr (J 1) 3).testBit k = true) (hK : ∀ t' n' σ', LI b6 (r + 1) t' n' σ' → k41 t' b6 (nI n') (nI (r + 1)) σ') : hbL_law_664 N M Sc K k41 t b6 (nI n) (nI r) (nI k) a10 1 σ := by
  obtain ⟨⟨hG, hw, hRR, h18, hl, hmn, hnd, hwk⟩, -, -, hWAS, hPA, -, -, -, hC, hS, hr⟩ := id h
  have hi := hRR.1.i
  have hWB := hi.nWB
  have hkW : k < X.2.2.2.2.1 ∧ X.2.2.2.2.1 ≤ 14 := by rw [hw.nW]; omega
  obtain ⟨I2, J2, s1, s2, s3, s4, s5⟩ := c_carve hRR hPA hN hk hl3
  have hxb : xdf (xr (J 1) 3) (2 ^ k) < 2 ^ xr (J 1) 62 := xdf_lt hi.lapsedP
  have h14 : 2 ^ xr (J 1) 62 ≤ 2 ^ 14 := Nat.pow_le_pow_right (by decide) (by omega)
  have hX1 := hw.uL (k := k) (m := xdf (xr (J 1) 3) (2 ^ k)) (v := 0) hi (fun q hq hne => by
    rw [xdf_tb, Nat.testBit_two_pow, decide_eq_false (fun z => hne z.symm), Bool.not_false, Bool.and_true]) (by
    rw [xdf_tb, Nat.testBit_two_pow, decide_eq_true (Eq.refl k), Bool.not_true, Bool.and_false]
    rfl) (by omega)
  have hi1 : iW (upd (J 1) 3 (nI (xdf (xr (J 1) 3) (2 ^ k)))) := hi.up (by omega) (by omega) (by omega) (fun _ => ⟨_, hxb, rfl⟩) (by omega) (by omega) (by omega) (by omega)
  have e62 : xr (upd (J 1) 3 (nI (xdf (xr (J 1) 3) (2 ^ k)))) 62 = xr (J 1) 62 := xr_eq (upd_n _ _ (by omega))
  have hX2 := hX1.uU (k := k) (v := nI 0) hi1 (by rw [e62]; exact hk)
  have hi2 : iW (upd (upd (J 1) 3 (nI (xdf (xr (J 1) 3) (2 ^ k)))) (4 + k) (nI 0)) := hi1.up (by omega) (by omega) (by omega) (by omega) (fun _ _ => ⟨0, by omega, rfl⟩) (by omega) (by omega) (by omega)
  unfold hbL_law_664
  refine w_lt (Eq.refl _) (w_xc s1 (w_t (Eq.refl _) (w_f (by decide) ?_)))
  refine t_g8 hG.T (t_aW hG.T (Eq.refl _) hkW (g_wS (σ := (σ.1, I2, σ.2.2)) hG.st hkW.1 (j := 2) (Eq.refl _) (by omega) (Eq.refl _) (fun τ q1 q2 q3 => ?_)))
  refine t_g8 q3.T (t_aW q3.T (Eq.refl _) hkW (g_wS q3 hkW.1 (j := 1) (v2 := nI 0) (Eq.refl _) (by omega) (Eq.refl _) (fun τ' p1 p2 p3 => ?_)))
  have k1 : τ'.2.1 = I2 := by rw [p1, q1]
  have k2 : τ'.2.2.1 = σ.2.2.1 := by rw [p1, q1]
  have k3 : τ'.2.2.2 = σ.2.2.2 := by rw [p1, q1]
  refine t_is p3.T (w_cc 1 4 (by omega) (by omega) (w_notes (σ := (τ'.1, τ'.2.1, 1, 4)) (w := upd (upd (J 1) 3 (nI (xdf (xr (J 1) 3) (2 ^ k)))) (4 + k) (nI 0)) p3.st hX2 hi2 (Eq.refl _) (Nat.le_refl _) (Nat.le_refl _) (fun τ2 fr2 X2 a1 a2 a3 => ?_)))
  obtain ⟨r1, r2⟩ := rwk_nt (w := J 1) hi2.bookB (fun j hj => (upd_n _ _ (by omega)).trans (upd_n _ _ (by omega))) 5 (-1) (nI k)
  have hf := q2.trans (p2.trans (fwd.b0 a1))
  refine mid1 (τ := (τ2.1, τ2.2.1, τ'.2.2.1 - 1, τ'.2.2.2 - 4)) hN h (fun x y z => hf.1 x y z) hf.2.2.1 a2.st (by rw [s3]; exact a3) (by show RR τ2.2.1 J2; rw [a1.2.2.2]; show RR τ'.2.1 J2; rw [k1]; exact s2) s5 (by rw [s3]; exact r1) (by rw [s3]; exact r2) s4 (by show σ.2.2.1 ≤ τ'.2.2.1 - 1 + 100; omega) (by show σ.2.2.2 ≤ τ'.2.2.2 - 4 + 1000; omega) hK
end
