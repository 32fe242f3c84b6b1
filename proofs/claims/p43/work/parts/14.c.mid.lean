-- ===== a step of the law's loop: what holds before it, behind its copy, and how it ends =====
section
variable {σ τ ρ : xd_S} {fr fr2 : xd_M} {tg tg2 : lTg} {i t b6 a10 : Nat} {d d2 : lD} {ta ta2 : Nat → Option Nat} {X X2 : lX} {N M : Nat} {K : xd_K} {m n k j r B B2 I2 T2 : Nat} {I3 J J2 : xc_M} {w w2 w0 : Nat → Int32} {R : Nat → Nat → Int32} {Sc : Nat × Nat × (Nat → Int32)}
/-- what is told stays, and the book's lines -/
def rwk (w w2 : Nat → Int32) : Prop := bk w w2 ∧ ∀ j, (62 ≤ j ∧ j < 748) ∨ 1348 ≤ j → w2 j = w j
theorem rwk.rfl : rwk w w := ⟨bk.rfl, fun _ _ => Eq.refl _⟩
theorem WAS.jj (h : WAS τ fr tg b6 i ta J n R B) (e : J2 1 = J 1) : WAS τ fr tg b6 i ta J2 n R B := by
  unfold WAS at h ⊢
  rw [e]
  exact h
theorem WAS.le (h : WAS τ fr tg b6 i ta J n R B) : ∀ s, s < n → xr (R s) 2 ≤ xr (J 1) 2 := by
  obtain ⟨cb, I, T, D, Y, -, hs, -⟩ := h
  exact fun s hs0 => (hs s hs0).2.2.2.2
/-- the kept talks beside a row that is told alike -/
theorem was_rw (h : WAS τ fr tg b6 i ta J n R B) (hi2 : i ≠ 2) (hi : iW (J 1)) (hf : ∀ x, (tg x).1 ≠ i → τ.1 x ≠ none → ρ.1 x = τ.1 x) (hg : gI τ.1 fr tg) (hfr : ∀ x c, fr x = some c → fr2 x = some c) (hr : rwk (J 1) (J2 1)) : WAS ρ fr2 tg b6 i ta J2 n R B :=
  h.of hi2 hi hf hg hfr (fun j hj => hr.2 j (by omega)) (fun s hs j h1 h2 => hr.1.2 j h1 (by have := h.le s hs; omega)) (fun s hs => Nat.le_trans (h.le s hs) hr.1.1)
def LI (b6 r t n : Nat) (σ : xd_S) : Prop := ∃ (fr : xd_M) (tg : lTg) (i : Nat) (d : lD) (ta : Nat → Option Nat) (X : lX) (J : xc_M) (B : Nat) (R : Nat → Nat → Int32), SAM σ fr tg i t d ta X J ∧ (i ≠ 2 ∧ ∃ e, ta 13 = some e) ∧ (∀ a, (tg a).1 < B) ∧ WAS σ fr tg b6 i ta J n R B ∧ PA J n R ∧ (xr (J 1) 0 ≤ 15 * r ∧ ∀ q, q < n → xr (R q) 0 ≤ 15 * r) ∧ 597000 ≤ σ.2.2.1 + 28000 * r ∧ 7033000 ≤ σ.2.2.2 + 300000 * r
theorem room_x {a b q x y z v : Nat} (h : x ≤ b + q + y) (h2 : a + v = b) (h3 : y + v ≤ z) : x ≤ a + (q + z) := by omega
theorem room_c {a b r : Nat} (h : 597000 ≤ b + 28000 * r + 27000) (h2 : a + 1 = b) : 597000 ≤ a + 28000 * (r + 1) := room_x h h2 (by decide)
theorem room_s {a b r : Nat} (h : 7033000 ≤ b + 300000 * r + 290000) (h2 : a + 8 = b) : 7033000 ≤ a + 300000 * (r + 1) := room_x h h2 (by decide)
/-- no deed is kept: behind the step -/
theorem fin0 {k41 : Nat → Nat → Int32 → Int32 → xd_S → Prop} (hN : 1000 ≤ N) (h : SAM σ fr tg i t d ta X J) (hi2 : i ≠ 2) (h13 : ∃ e, ta 13 = some e) (hB : ∀ a, (tg a).1 < B) (hWAS : WAS σ fr tg b6 i ta J n R B) (hPA : PA J n R) (hd : xr (J 1) 0 ≤ 15 * (r + 1)) (hd2 : ∀ q, q < n → xr (R q) 0 ≤ 15 * (r + 1)) (hr : r < 20) (hC : 597000 ≤ σ.2.2.1 + 28000 * r + 27000) (hS : 7033000 ≤ σ.2.2.2 + 300000 * r + 290000) (hK : ∀ t' n' σ', LI b6 (r + 1) t' n' σ' → k41 t' b6 (nI n') (nI (r + 1)) σ') : hbL_law_1050 N M Sc K k41 t b6 (nI n) (nI r) a10 0 σ := by
  unfold hbL_law_1050
  refine w_t (Eq.refl _) (law_1100 hN h hPA.2.1 (by omega) (by omega) (fun τ' J' z1 z2 z3 z4 z5 => hK t n τ' ⟨fr, tg, i, d, ta, X, J', B, R, z1, ⟨hi2, h13⟩, hB, ?_, hPA.keep z2.2.1 (by rw [z2.2.2]), ⟨?_, hd2⟩, ?_, ?_⟩))
  · exact (hWAS.of hi2 h.2.2.1.1.i (fun x _ hx => z3 x hx) h.1.2.1 (fun _ _ q => q) (fun _ _ => Eq.refl _) (fun _ _ _ _ _ => Eq.refl _) hWAS.le).jj z2.1
  · rw [z2.1]
    exact hd
  · exact room_c hC z4
  · exact room_s hS z5
/-- a deed is kept: behind the step -/
theorem fin1 {k41 : Nat → Nat → Int32 → Int32 → xd_S → Prop} (hN : 1000 ≤ N) (h : SAM σ fr tg i t d ta X J) (hi2 : i ≠ 2) (h13 : ∃ e, ta 13 = some e) (hB : ∀ a, (tg a).1 < B2) (hWAS : WAS σ fr tg b6 i ta J n R B) (hn : n ≤ 6) (hT : tT σ.1 fr tg I2 a10 d2 ta X2) (h0 : I2 ≠ 0 ∧ I2 ≠ 2 ∧ I2 ≠ i) (hBI : B ≤ I2) (hB2 : I2 < B2) (hX : XW X2 w0) (hi0 : iW w0) (hrw : rwk w0 (J 1)) (hm2 : ∀ s, s < n → xr (R s) 2 ≤ xr w0 2) (hPA : PA J (min 6 (n + 1)) (pushR n R w0)) (hd : xr (J 1) 0 ≤ 15 * (r + 1)) (hd0 : xr w0 0 ≤ 15 * (r + 1)) (hd2 : ∀ q, q < n → xr (R q) 0 ≤ 15 * (r + 1)) (hr : r < 20) (hC : 597000 ≤ σ.2.2.1 + 28000 * r + 27000) (hS : 7033000 ≤ σ.2.2.2 + 300000 * r + 290000) (hK : ∀ t' n' σ', LI b6 (r + 1) t' n' σ' → k41 t' b6 (nI n') (nI (r + 1)) σ') : hbL_law_1050 N M Sc K k41 t b6 (nI n) (nI r) a10 1 σ := by
  refine law_1050 hN h hi2 hWAS hn hT h0 hBI hB2 (hX.low hi0.nWB hi0.nPB (fun j hj => ?_)) hrw.1.1 hm2 hPA.2.1 (by omega) (by omega) (fun τ' J' z1 z2 z3 z4 z5 => hK t _ τ' ⟨fr, tg, i, d, ta, X, J', B2, _, z1, ⟨hi2, h13⟩, hB, z3.jj z2.1, hPA.keep z2.2.1 (by rw [z2.2.2]), ⟨?_, fun q hq => ?_⟩, ?_, ?_⟩)
  · by_cases hl : j < 62
    · exact mixP_lo hl
    · rw [mixP_hi (by omega)]
      by_cases hl2 : j < 748
      · exact hrw.2 j (by omega)
      · exact hrw.1.2 j (by omega) (by omega)
  · rw [z2.1]
    exact hd
  · unfold pushR
    by_cases c1 : q = min 6 (n + 1) - 1
    · rw [if_pos c1]
      exact hd0
    · rw [if_neg c1]
      by_cases c2 : n < 6
      · rw [if_pos c2]
        exact hd2 q (by omega)
      · rw [if_neg c2]
        exact hd2 (q + 1) (by omega)
  · exact room_c hC z4
  · exact room_s hS z5
/-- behind the copy of a step -/
def MID (b6 r t n a10 : Nat) (σ : xd_S) (fr : xd_M) (tg : lTg) (i : Nat) (d d2 : lD) (ta : Nat → Option Nat) (X : lX) (J : xc_M) (B : Nat) (R : Nat → Nat → Int32) : Prop := SAM σ fr tg i t d ta X J ∧ (i ≠ 2 ∧ ∃ e, ta 13 = some e) ∧ (∀ a, (tg a).1 < B + 1) ∧ WAS σ fr tg b6 i ta J n R B ∧ PA J n R ∧ (xr (J 1) 0 ≤ 15 * r ∧ ∀ q, q < n → xr (R q) 0 ≤ 15 * r) ∧ tT σ.1 fr tg B a10 d2 ta X ∧ (i < B ∧ 2 < B) ∧ 597000 ≤ σ.2.2.1 + 28000 * r + 100 ∧ 7033000 ≤ σ.2.2.2 + 300000 * r + 1000 ∧ r < 20
/-- a call that refuses -/
theorem mid0 {k41 : Nat → Nat → Int32 → Int32 → xd_S → Prop} (hN : 1000 ≤ N) (h : MID b6 r t n a10 σ fr tg i d d2 ta X J B R) (hR : RR I3 J2) (hs : smJ J J2) (hK : ∀ t' n' σ', LI b6 (r + 1) t' n' σ' → k41 t' b6 (nI n') (nI (r + 1)) σ') : hbL_law_1050 N M Sc K k41 t b6 (nI n) (nI r) a10 0 (σ.1, I3, σ.2.2) := by
  obtain ⟨⟨hG, hw, hRR, h18, hl, hmn, hnd, hwk⟩, ⟨hi2, h13⟩, hB, hWAS, hPA, ⟨hd, hd2⟩, hT, ⟨hiB, h2B⟩, hC, hS, hr⟩ := h
  have e1 := hs.1
  refine fin0 (σ := (σ.1, I3, σ.2.2)) (B := B + 1) hN ⟨hG.st, by rw [e1]; exact hw, hR, by rw [hs.2.2]; exact h18, by rw [e1]; exact hl, by rw [e1]; exact hmn, by rw [e1]; exact hnd, by rw [e1]; exact hwk⟩ hi2 h13 hB ?_ (hPA.keep hs.2.1 (by rw [hs.2.2])) (by rw [e1]; omega) (fun q hq => by have := hd2 q hq; omega) hr (by show 597000 ≤ σ.2.2.1 + _ + _; omega) (by show 7033000 ≤ σ.2.2.2 + _ + _; omega) hK
  have h1 : WAS σ fr tg b6 i ta J n R (B + 1) := hWAS.ext hG.2.1 ext.rfl (by omega)
  exact h1.jj e1
theorem told_c (h : lawR fr (ta 15) w ∧ mnT fr (ta 14) w ∧ ndT fr (ta 11) w ∧ wkT fr (ta 10) w) (hi : iW w) (hf : ∀ x c, fr x = some c → fr2 x = some c) (hr : ∀ j, (65 ≤ j ∧ j < 748) ∨ 1348 ≤ j → w2 j = w j) : lawR fr2 (ta 15) w2 ∧ mnT fr2 (ta 14) w2 ∧ ndT fr2 (ta 11) w2 ∧ wkT fr2 (ta 10) w2 :=
  ⟨h.1.c hf (hr 65 (by omega)) (fun j hj => hr j (by omega)), h.2.1.c hi hf (fun j hj => hr j (by omega)), h.2.2.1.c hf (hr 68 (by omega)), h.2.2.2.off hi hf (fun j hj => hr j (by omega))⟩
/-- a deed done -/
theorem mid1 {k41 : Nat → Nat → Int32 → Int32 → xd_S → Prop} (hN : 1000 ≤ N) (h : MID b6 r t n a10 σ fr tg i d d2 ta X J B R) (hf : ∀ x, (tg x).1 ≠ i → σ.1 x ≠ none → τ.1 x = σ.1 x) (hfr : ∀ x c, fr x = some c → fr2 x = some c) (hG2 : tG τ fr2 tg i t d ta X2) (hw2 : XW X2 (J2 1)) (hR2 : RR τ.2.1 J2) (e18 : J2 0 18 = J 0 18) (hrw : rwk (J 1) (J2 1)) (hd0 : xr (J2 1) 0 = xr (J 1) 0) (hPA2 : PA J2 (min 6 (n + 1)) (pushR n R (J 1))) (hC2 : σ.2.2.1 ≤ τ.2.2.1 + 100) (hS2 : σ.2.2.2 ≤ τ.2.2.2 + 1000) (hK : ∀ t' n' σ', LI b6 (r + 1) t' n' σ' → k41 t' b6 (nI n') (nI (r + 1)) σ') : hbL_law_1050 N M Sc K k41 t b6 (nI n) (nI r) a10 1 τ := by
  obtain ⟨⟨hG, hw, hRR, h18, hl, hmn, hnd, hwk⟩, ⟨hi2, h13⟩, hB, hWAS, hPA, ⟨hd, hd2⟩, hT, ⟨hiB, h2B⟩, hC, hS, hr⟩ := h
  have hi := hRR.1.i
  have hT2 : tT τ.1 fr2 tg B a10 d2 ta X := hT.keep (fun a ha => hf a (by omega) (hG.2.1.2 a (by omega))) hfr
  have hW2 := was_rw (ρ := τ) hWAS hi2 hi hf hG.2.1 hfr hrw
  obtain ⟨t1, t2, t3, t4⟩ := told_c (w2 := J2 1) ⟨hl, hmn, hnd, hwk⟩ hi hfr (fun j hj => hrw.2 j (by omega))
  exact fin1 hN ⟨hG2, hw2, hR2, e18.trans h18, t1, t2, t3, t4⟩ hi2 h13 hB hW2 hPA.1 hT2 ⟨by omega, by omega, by omega⟩ (Nat.le_refl _) (Nat.lt_succ_self _) hw hi hrw hWAS.le hPA2 (by omega) (by omega) (fun q hq => by have := hd2 q hq; omega) hr (by omega) (by omega) hK
end
