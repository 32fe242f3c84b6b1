-- ===== texts: MEANINGS, WALKS, NEEDS are told =====
section
variable {N M : Nat} {I J : xc_M}
theorem rv_puts (hN : 1000 ≤ N) {R p e m : Nat} {Z : Nat → Int32} (hZ : J 9 = Z) (hR : e * R ≤ 64) (hp : p + 64 ≤ 2232) (hm : m < 100) (hmp : m < p) (he : e < 10) (hR16 : R ≤ 16) (h17 : J 0 17 = nI R) : ∃ J', fX10_puts N (nI m) (nI p) (nI e) J = some (nI R, J') ∧ (∀ a, a ≠ 1 → J' a = J a) ∧ (∀ j, j ≠ m → j < p ∨ p + e * R ≤ j → J' 1 j = J 1 j) ∧ J' 1 m = nI R ∧ ∀ l, l < e * R → J' 1 (p + l) = Z l := by
  obtain ⟨K, ⟨k1, k2, k3, k4⟩, hl⟩ := ex_loop (fun fu i K => lX10_puts_13 N fu (nI p) (nI e) (nI i) K) (fun i K => (∀ a, a ≠ 1 → K a = J a) ∧ (∀ j, j ≠ m → j < p ∨ p + e * R ≤ j → K 1 j = J 1 j) ∧ K 1 m = nI R ∧ ∀ l, l < i → K 1 (p + l) = Z l) (e * R) (fun K => some (nI R, K)) (by
    intro fu K hq
    have e17 : K 0 17 = nI R := by rw [hq.1 0 (by omega)]; exact h17
    show lX10_puts_13 N (fu + 1) _ _ _ _ = _
    rw [lX10_puts_13, bX10_puts_13, e17, pk_mul]
    exact e_t (by rw [xp_le (by omega) (by omega)]; omega) rfl) (by
    intro fu i K hi hq
    obtain ⟨q1, q2, q3, q4⟩ := hq
    have e17 : K 0 17 = nI R := by rw [q1 0 (by omega)]; exact h17
    refine ⟨xc_wr K 1 (p + i) (Z i), ⟨fun a ha => by rw [xp_wr_cell ha, q1 a ha], fun j j1 j2 => by rw [xp_wr_k (by omega), q2 j j1 j2], by rw [xp_wr_k (by omega), q3], fun l hl => ?_⟩, ?_⟩
    · by_cases el : l = i
      · rw [el, xp_wr_s]
      · rw [xp_wr_k (by omega), q4 l (by omega)]
    · show lX10_puts_13 N (fu + 1) _ _ _ _ = _
      rw [lX10_puts_13, bX10_puts_13, e17, pk_mul]
      exact e_f (by rw [xp_le (by omega) (by omega)]; omega) (e_rd (k := i) rfl (by omega) (by rw [q1 9 (by omega), hZ]) (e_st (k := p + i) (nI_add p i) (by omega) rfl (e_lt (nI_add i 1) rfl)))) N (xc_wr J 1 m (nI R)) (by omega) ⟨fun a ha => xp_wr_cell ha, fun j j1 j2 => xp_wr_k j1, xp_wr_s _ _ _ _, fun l hl => absurd hl (by omega)⟩
  refine ⟨K, ?_, k1, k2, k3, k4⟩
  unfold fX10_puts
  exact e_st (k := m) rfl (by omega) h17 (e_lt rfl hl)
theorem rv_putsMeans (hN : 1000 ≤ N) {R : Nat} (hR : R ≤ 10) (h17 : J 0 17 = nI R) : ∃ J', fX10_putsMeanings N J = some (nI R, J') ∧ (∀ a, a ≠ 1 → J' a = J a) ∧ (∀ j, j ≠ 66 → j ≠ 68 → j < 198 ∨ 628 ≤ j → J' 1 j = J 1 j) ∧ J' 1 66 = nI R ∧ J' 1 68 = nI 0 ∧ (∀ l, l < R → J' 1 (198 + l) = J 7 l) ∧ ∀ l, l < 42 * R → J' 1 (208 + l) = J 8 l := by
  obtain ⟨K, ⟨k1, k2, k3, k4, k5⟩, hl⟩ := ex_loop (fun fu i K => lX10_putsMeanings_21 N fu (nI i) K) (fun i K => (∀ a, a ≠ 1 → K a = J a) ∧ (∀ j, j ≠ 66 → j ≠ 68 → j < 198 ∨ 628 ≤ j → K 1 j = J 1 j) ∧ K 1 66 = nI R ∧ K 1 68 = nI 0 ∧ ∀ l, l < i → K 1 (198 + l) = J 7 l) R (fun K => lX10_putsMeanings_53 N N (nI 0) K) (by
    intro fu K hq
    have e17 : K 0 17 = nI R := by rw [hq.1 0 (by omega)]; exact h17
    show lX10_putsMeanings_21 N (fu + 1) _ _ = _
    rw [lX10_putsMeanings_21, bX10_putsMeanings_21, e17]
    exact e_t (by rw [xp_le (by omega) (by omega)]; omega) (e_lt rfl rfl)) (by
    intro fu i K hi hq
    obtain ⟨q1, q2, q3, q4, q5⟩ := hq
    have e17 : K 0 17 = nI R := by rw [q1 0 (by omega)]; exact h17
    refine ⟨xc_wr K 1 (198 + i) (J 7 i), ⟨fun a ha => by rw [xp_wr_cell ha, q1 a ha], fun j j1 j2 j3 => by rw [xp_wr_k (by omega), q2 j j1 j2 j3], by rw [xp_wr_k (by omega), q3], by rw [xp_wr_k (by omega), q4], fun l hl => ?_⟩, ?_⟩
    · by_cases el : l = i
      · rw [el, xp_wr_s]
      · rw [xp_wr_k (by omega), q5 l (by omega)]
    · show lX10_putsMeanings_21 N (fu + 1) _ _ = _
      rw [lX10_putsMeanings_21, bX10_putsMeanings_21, e17]
      exact e_f (by rw [xp_le (by omega) (by omega)]; omega) (e_rd (k := i) rfl (by omega) (by rw [q1 7 (by omega)]) (e_st (k := 198 + i) (nI_add 198 i) (by omega) rfl (e_lt (nI_add i 1) rfl)))) N (xc_wr (xc_wr J 1 66 (nI R)) 1 68 (nI 0)) (by omega) ⟨fun a ha => by rw [xp_wr_cell ha, xp_wr_cell ha], fun j j1 j2 j3 => by rw [xp_wr_k j2, xp_wr_k j1], by rw [xp_wr_k (by omega), xp_wr_s], xp_wr_s _ _ _ _, fun l hl => absurd hl (by omega)⟩
  obtain ⟨K2, ⟨m1, m2, m3⟩, hl2⟩ := ex_loop (fun fu i K => lX10_putsMeanings_53 N fu (nI i) K) (fun i K2 => (∀ a, a ≠ 1 → K2 a = K a) ∧ (∀ j, j < 208 ∨ 628 ≤ j → K2 1 j = K 1 j) ∧ ∀ l, l < i → K2 1 (208 + l) = J 8 l) (42 * R) (fun K => some (nI R, K)) (by
    intro fu K2 hq
    have e17 : K2 0 17 = nI R := by rw [hq.1 0 (by omega), k1 0 (by omega)]; exact h17
    show lX10_putsMeanings_53 N (fu + 1) _ _ = _
    rw [lX10_putsMeanings_53, bX10_putsMeanings_53, e17, show (42 : Int32) * nI R = nI (42 * R) from pk_mul 42 R]
    exact e_t (by rw [xp_le (by omega) (by omega)]; omega) rfl) (by
    intro fu i K2 hi hq
    obtain ⟨q1, q2, q3⟩ := hq
    have e17 : K2 0 17 = nI R := by rw [q1 0 (by omega), k1 0 (by omega)]; exact h17
    refine ⟨xc_wr K2 1 (208 + i) (J 8 i), ⟨fun a ha => by rw [xp_wr_cell ha, q1 a ha], fun j j1 => by rw [xp_wr_k (by omega), q2 j j1], fun l hl => ?_⟩, ?_⟩
    · by_cases el : l = i
      · rw [el, xp_wr_s]
      · rw [xp_wr_k (by omega), q3 l (by omega)]
    · show lX10_putsMeanings_53 N (fu + 1) _ _ = _
      rw [lX10_putsMeanings_53, bX10_putsMeanings_53, e17, show (42 : Int32) * nI R = nI (42 * R) from pk_mul 42 R]
      exact e_f (by rw [xp_le (by omega) (by omega)]; omega) (e_rd (k := i) rfl (by omega) (by rw [q1 8 (by omega), k1 8 (by omega)]) (e_st (k := 208 + i) (nI_add 208 i) (by omega) rfl (e_lt (nI_add i 1) rfl)))) N K (by omega) ⟨fun _ _ => rfl, fun _ _ => rfl, fun l hl => absurd hl (by omega)⟩
  refine ⟨K2, ?_, fun a ha => (m1 a ha).trans (k1 a ha), fun j q1 q2 q3 => (m2 j (by omega)).trans (k2 j q1 q2 q3), (m2 66 (by omega)).trans k3, (m2 68 (by omega)).trans k4, fun l hl => (m2 _ (by omega)).trans (k5 l hl), m3⟩
  unfold fX10_putsMeanings
  exact e_st (k := 66) rfl (by omega) h17 (e_st (k := 68) rfl (by omega) rfl (e_lt rfl (hl.trans hl2)))
theorem wp_of (h : RR I J) : wpR I J := by
  have hw := h.1
  exact ⟨⟨hw.nW, hw.i.nW, hw.i.nWB, fun k hk => ⟨hw.long hk, hw.i.longB hk⟩⟩, hw.nP, hw.i.nP, hw.i.nPB, hw.means.1.trans hw.i.nM, hw.i.nM, hw.i.nMB⟩
/-- a text of rows is read; what is left is to tell it -/
theorem text_rows (hN : 1000 ≤ N) (h : RR I J) {k : Nat} (hk : k = 0 ∨ k = 2 ∨ k = 3) (cls ref : xc_M → Option (Int32 × xc_M)) (inv : Nat → xc_M → xc_M → Prop) (hstep : ∀ (t : Nat) (c : Nat → Nat) (T : List Tok) (I J : xc_M) (R : Nat), psI I T → psJ c t k J T → wpR I J → inv R I J → ∃ (b : Bool) (I' J' : xc_M), cls I = some (nI b.toNat, I') ∧ ref J = some (nI b.toNat, J') ∧ frP I I' ∧ frQ J J' ∧ (b = false → flt I' J') ∧ (b = true → ∃ T', T'.length < T.length ∧ psI I' T' ∧ psJ c t k J' T' ∧ inv (R + 1) I' J')) (hdC : ∀ (k67 : Int32 → Int32 → Int32 → xc_M → Option (Int32 × xc_M)) (v5 v6 : Int32) (I : xc_M) (R : Option (Int32 × xc_M)), ¬ (400 : Int32) ≤ v6 → (∃ q, fX6_kind I = some q ∧ q ≠ 0) → (xc_cl (cls I) fun q I' => bX6_read_152 N M 1 61 k67 (nI k) v5 v6 q I') = R → bX6_read_67 N M 1 61 k67 (nI k) v5 v6 I = R) (hdR : ∀ (k7 : Int32 → xc_M → Option (Int32 × xc_M)) (J : xc_M) (R : Option (Int32 × xc_M)), J 0 14 = nI k → J 0 20 ≠ 0 → (xc_cl (ref J) fun q J' => bX10_readsRows_51 N k7 q J') = R → bX10_readsRows_7 N k7 (nI 1) J = R) (h00 : tmc k 0 0 = true) (hinv : ∀ I' J' : xc_M, I' 73 0 = nI 0 → I' 75 0 = nI 0 → I' 79 0 = nI 0 → J' 0 17 = nI 0 → inv 0 I' J') : (∃ v I' J', fX9_text N M (nI k) I = some (v, I') ∧ fX10_text N M (nI k) J = some (v, J') ∧ RR I' J') ∨ ∃ R I8 J8, fX6_read N M 1 61 (nI k) I = some (nI R, I8) ∧ (∀ q, bX10_text_61 N M (nI k) (nI 1) J8 = q → fX10_text N M (nI k) J = q) ∧ inv R I8 J8 ∧ (∀ a, a < 61 ∨ (90 < a ∧ a < 132) → I8 a = I a) ∧ (∀ a, a = 1 ∨ a = 2 ∨ a = 3 → J8 a = J a) ∧ J8 0 4 = J 0 4 ∧ J8 0 5 = J 0 5 ∧ I8 132 0 = nI 0 ∧ I8 132 1 = mI ∧ J8 0 25 = nI 0 ∧ J8 0 27 = mI := by
  obtain ⟨t, c, T, I7, J7, p1, p2, p3, p4, p5, p6, p7⟩ := text_pre (M := M) hN h (k := k) (by omega)
  obtain ⟨i1, i2, i3, i4, i5, i6⟩ := p4
  obtain ⟨j1, j2, j3, j4⟩ := p5
  have hwp := wp_of h
  have hwp7 : wpR I7 (xc_wr J7 0 17 (nI 0)) := by
    obtain ⟨⟨w1, w2, w3, w4⟩, w5, w6, w7, w8, w9, w10⟩ := hwp
    have e1 : (xc_wr J7 0 17 (nI 0)) 1 = J 1 := by rw [xp_wr_cell (by omega), j1 1 (by omega)]
    unfold wpR wdR
    rw [e1, i1 1 (by omega) (by omega) (by omega) (by omega) (by omega), i1 2 (by omega) (by omega) (by omega) (by omega) (by omega), i1 19 (by omega) (by omega) (by omega) (by omega) (by omega)]
    exact ⟨⟨w1, w2, w3, w4⟩, w5, w6, w7, w8, w9, w10⟩
  have hk1 : nI k ≠ (1 : Int32) := by rw [show (1 : Int32) = nI 1 from rfl, ne_eq, xp_eq (by omega) (by omega)]; omega
  obtain ⟨b, v, I8, J8, a1, a2, a3, a4, a5, a6⟩ := rows_loop (c := c) (t := t) (M := M) hN (k := k) (by omega) cls ref inv (hstep t c) hdC hdR h00 T.length T I7 (xc_wr J7 0 17 (nI 0)) 0 N N 0 (Nat.le_refl _) p1 (psJ_keep p2 (xp_wr_cell (by omega)) (fun k hk => xp_wr_k (by omega))) hwp7 (hinv _ _ i2 i3 i4 (xp_wr_s _ _ _ _)) (by omega) (by omega) (by omega)
  have hI8 : ∀ a, a < 61 ∨ (90 < a ∧ a < 132) → I8 a = I a := fun a ha => (a3 a (by omega) (by omega)).trans (i1 a (by omega) (by omega) (by omega) (by omega) (by omega))
  have hJ8 : ∀ a, a = 1 ∨ a = 2 ∨ a = 3 → J8 a = J a := fun a ha => by rw [a4.1 a (by omega), xp_wr_cell (by omega), j1 a (by omega)]
  have hJ8k : ∀ k, k = 4 ∨ k = 5 → J8 0 k = J 0 k := fun k hk => by rw [a4.2 k (by omega) (by omega) (by omega), xp_wr_k (by omega), j2 k (by omega) (by omega) (by omega)]
  have hread : fX6_read N M 1 61 (nI k) I = some (v, I8) := p6 _ a1
  have hrows : fX10_readsRows N J7 = some (nI b.toNat, J8) := by
    unfold fX10_readsRows
    exact e_mw rfl (e_lt rfl a2)
  cases b with
  | false =>
    obtain ⟨hv, hf⟩ := a5 rfl
    obtain ⟨f1, f2⟩ := text_fail h hI8 hJ8 (hJ8k 4 (by omega)) (hJ8k 5 (by omega)) hf M (nI k)
    refine Or.inl ⟨mI, _, _, ?_, p7 _ (e_t hk1 (e_cl hrows f2)), f1⟩
    unfold fX9_text
    rw [hv] at hread
    exact e_cl hread (e_lt rfl (e_mw rfl (e_f (fun z => z rfl) rfl)))
  | true =>
    obtain ⟨R, hv, hin, f0, f1⟩ := a6 rfl
    rw [hv] at hread
    exact Or.inr ⟨R, I8, J8, hread, fun q hq => p7 _ (e_t hk1 (e_cl hrows hq)), hin, hI8, hJ8, hJ8k 4 (by omega), hJ8k 5 (by omega), f0, f1, by rw [a4.2 25 (by omega) (by omega) (by omega), xp_wr_k (by omega)]; exact j3, by rw [a4.2 27 (by omega) (by omega) (by omega), xp_wr_k (by omega)]; exact j4⟩
theorem ne_m {R : Nat} (hR : R < 100) : nI R ≠ ((-1) : Int32) := by
  show nI R ≠ mI
  rw [ne_eq, xp_nm1 (by omega)]
  exact fun z => z
theorem text_means (hN : 1000 ≤ N) (h : RR I J) : ∃ v I' J', fX9_text N M (nI 0) I = some (v, I') ∧ fX10_text N M (nI 0) J = some (v, J') ∧ RR I' J' := by
  have hw := h.1
  have hi := hw.i
  rcases text_rows (M := M) hN h (k := 0) (by omega) (fX6_readMeaning N 1 79) (fX10_aMeaning N) meS (fun t c T I J R p1 p2 p3 p4 => mean_sim hN p1 p2 p3.1 p4) (fun k67 v5 v6 I R h4 hk hR => by
    obtain ⟨q, q1, q2⟩ := hk
    rw [bX6_read_67]
    refine e_f h4 (e_cr q1 (e_f q2 (e_f (fun z => z rfl) ?_)))
    exact hR) (fun k7 J R h14 h20 hR => by
    rw [bX10_readsRows_7]
    exact e_f (by decide) (e_f h20 (e_f (by rw [h14]; exact fun z => z rfl) hR))) (by decide +kernel) (fun I' J' _ _ h79 h17 => ⟨h79, h17, by omega, fun m hm => absurd hm (by omega)⟩) with hd | ⟨R, I8, J8, r1, r2, hin, hI8, hJ8, h4, h5, f0, f1, f25, f27⟩
  · exact hd
  · obtain ⟨s79, s17, s10, sm⟩ := hin
    obtain ⟨I9, c1, c2, c3⟩ := cp_means (b := 61) (b' := 1) (Or.inl (by omega)) (xc_wr I8 130 0 (nI 0))
    obtain ⟨J9, d1, d2, d3, d4, d5, d6, d7⟩ := rv_putsMeans (J := xc_wr J8 0 18 (nI 0)) hN s10 (by rw [xp_wr_k (by omega)]; exact s17)
    have hw9 : ∀ j, j ≠ 66 → j ≠ 68 → j < 198 ∨ 628 ≤ j → J9 1 j = J 1 j := fun j q1 q2 q3 => by rw [d3 j q1 q2 q3, xp_wr_cell (by omega), hJ8 1 (by omega)]
    have hJ9 : ∀ a, a = 2 ∨ a = 3 → J9 a = J a := fun a ha => by rw [d2 a (by omega), xp_wr_cell (by omega), hJ8 a (by omega)]
    have hI9 : ∀ a, a < 19 ∨ (23 ≤ a ∧ a < 61) ∨ (90 < a ∧ a < 130) → I9 a = I a := fun a ha => by rw [c3 a (by omega), xp_wr_cell (by omega)]; exact hI8 a (by omega)
    have hcp : ∀ a k, 18 ≤ a → a < 22 → k < cLen a → I9 (1 + a) k = I8 (61 + a) k := fun a k q1 q2 q3 => by rw [c2 a k q1 q2 q3, xp_wr_cell (by omega)]
    have x66 : xr (J9 1) 66 = R := xr_of d4 (by omega)
    have x62 : xr (J9 1) 62 = xr (J 1) 62 := xr_eq (hw9 62 (by omega) (by omega) (by omega))
    have hz7 : ∀ l, l < R → J9 1 (198 + l) = J8 7 l := fun l hl => by rw [d6 l hl, xp_wr_cell (by omega)]
    have hz8 : ∀ l, l < 42 * R → J9 1 (208 + l) = J8 8 l := fun l hl => by rw [d7 l hl, xp_wr_cell (by omega)]
    have hJ81 : J8 1 = J 1 := hJ8 1 (by omega)
    -- MEANING by MEANING
    have hmm : ∀ m, m < R → ∃ n, 1 ≤ n ∧ n ≤ 6 ∧ J9 1 (198 + m) = nI n ∧ xr (J9 1) (198 + m) = n ∧ I9 20 m = nI n ∧ ∀ i, i < n → vN (J9 1) (208 + 42 * m + 7 * i) 7 ∧ (∀ k, k < wC (J9 1) m i → vN (J9 1) (208 + 42 * m + 7 * i + (1 + k)) (xr (J9 1) 62)) ∧ I9 21 (6 * m + i) = nI (wS (J9 1) m i) ∧ I9 22 (6 * m + i) = nI (wL (J9 1) m i) := by
      intro m hm
      obtain ⟨n, n1, n2, n3, n4, n5⟩ := sm m hm
      have e7 := (hz7 m hm).trans n4
      refine ⟨n, n1, n2, e7, xr_of e7 (by omega), (hcp 19 m (by omega) (by omega) (by show m < 10; omega)).trans n3, fun i hi2 => ?_⟩
      obtain ⟨b1, b2, b3, b4⟩ := n5 i hi2
      have hz : ∀ j, j < 7 → J9 1 (208 + 42 * m + 7 * i + j) = J8 8 (42 * m + 7 * i + j) := fun j hj => by
        rw [show 208 + 42 * m + 7 * i + j = 208 + (42 * m + 7 * i + j) by omega]
        exact hz8 _ (by omega)
      have z0 := hz 0 (by omega)
      rw [Nat.add_zero, Nat.add_zero] at z0
      have ec : wC (J9 1) m i = xr (J8 8) (42 * m + 7 * i) := xr_eq z0
      have b7 := b1.2
      have eS : wS (J9 1) m i = zS (J8 8) (42 * m + 7 * i) (xr (J8 8) (42 * m + 7 * i)) := by
        unfold wS zS
        rw [ec]
        exact itr_congr (fun k acc hk => by rw [xr_eq (hz (1 + k) (by omega))])
      have eL : wL (J9 1) m i = zL (J8 8) (J8 1) (42 * m + 7 * i) (xr (J8 8) (42 * m + 7 * i)) := by
        unfold wL zL
        rw [ec]
        refine itr_congr (fun k acc hk => ?_)
        have hb := (b2 k hk).2
        rw [hJ81] at hb ⊢
        have hnW := hi.nWB
        rw [xr_eq (hz (1 + k) (by omega)), xr_eq (hw9 (70 + xr (J8 8) (42 * m + 7 * i + (1 + k))) (by omega) (by omega) (by omega))]
      refine ⟨vN_eq z0 b1, fun k hk => ?_, ?_, ?_⟩
      · rw [ec] at hk
        rw [x62, ← hJ81]
        exact vN_eq (hz (1 + k) (by omega)) (b2 k hk)
      · rw [eS]
        exact (hcp 20 _ (by omega) (by omega) (by show 6 * m + i < 60; omega)).trans b3
      · rw [eL]
        exact (hcp 21 _ (by omega) (by omega) (by show 6 * m + i < 60; omega)).trans b4
    have hmI : mIv (J9 1) ∧ wIv (J9 1) := by
      constructor
      · intro m hm
        rw [x66] at hm
        obtain ⟨n, n1, n2, n3, n4, n5, n6⟩ := hmm m hm
        refine ⟨vN_mk n3 (by omega) (by omega), fun i hi2 => ?_⟩
        rw [n4] at hi2
        obtain ⟨b1, b2, _⟩ := n6 i hi2
        exact ⟨b1, b2⟩
      · intro m hm
        rw [x66] at hm
        obtain ⟨n, n1, n2, n3, n4, _⟩ := hmm m hm
        rw [n4]
        exact n1
    have hmR : mR 19 (xc_wr I9 15 0 (nI 0)) (J9 1) := by
      refine ⟨?_, fun m hm => ?_⟩
      · rw [xp_wr_cell (by omega), d4]
        exact (hcp 18 0 (by omega) (by omega) (by decide)).trans s79
      · rw [x66] at hm
        obtain ⟨n, n1, n2, n3, n4, n5, n6⟩ := hmm m hm
        refine ⟨?_, fun i hi2 => ?_⟩
        · rw [n3]
          exact (congrFun (xp_wr_cell (by omega)) m).trans n5
        · rw [n4] at hi2
          obtain ⟨_, _, b3, b4⟩ := n6 i hi2
          exact ⟨(congrFun (xp_wr_cell (by omega)) _).trans b3, (congrFun (xp_wr_cell (by omega)) _).trans b4⟩
    have hI10 : ∀ a, a ≠ 15 → (xc_wr I9 15 0 (nI 0)) a = I9 a := fun a ha => xp_wr_cell ha
    obtain ⟨_, _, _, _, _, _, lw, _, m2, _, _⟩ := hw.2.2.1
    refine ⟨nI R, xc_wr I9 15 0 (nI 0), J9, ?_, r2 _ ?_, ?_⟩
    · unfold fX9_text
      exact e_cl r1 (e_lt rfl (e_mw rfl (e_t (ne_m (by omega)) (e_f (fun z => z rfl) (e_cv c1 (e_mw rfl rfl))))))
    · rw [bX10_text_61]
      refine e_lt rfl (e_mw rfl (e_f (by decide) (e_cl (v := nI R) (J := J9) ?_ rfl)))
      unfold fX10_putsText
      exact e_t rfl (e_cl d1 rfl)
    · refine RR_text h ?_ (hw9 0 (by omega) (by omega) (by omega)) (pastR_keep (fun a q1 q2 => by rw [hI10 a (by omega)]; exact hI9 a (by omega)) (by rw [d2 0 (by omega), xp_wr_k (by omega)]; exact h4) (hJ9 3 (by omega)) x62 h.2.2.1) (fun a q1 q2 => by rw [hI10 a (by omega)]; exact hI9 a (by omega)) (by rw [hI10 0 (by omega), hI9 0 (by omega)]) (hJ9 2 (by omega)) (by rw [d2 0 (by omega), xp_wr_k (by omega)]; exact h5) (by rw [hI10 130 (by omega), c3 130 (by omega), xp_wr_s]) (by rw [d2 0 (by omega), xp_wr_s]) ⟨?_, ?_⟩
      · refine xW_txt hw (fun j hj => hw9 j (by omega) (by omega) (by omega)) (fun a ha => by rw [hI10 a (by omega)]; exact hI9 a (by omega)) (vN_eq (hw9 65 (by omega) (by omega) (by omega)) hi.2.2.2.2.1) (vN_mk d4 (by omega) (by omega)) (vN_eq (hw9 67 (by omega) (by omega) (by omega)) hi.2.2.2.2.2.2.1) (vN_mk d5 (by omega) (by omega)) (lI_q (fun j hj => hw9 j (by omega) (by omega) (by omega)) hi.nLB hi.law) hmI (kIv_q (fun j hj => hw9 j (by omega) (by omega) (by omega)) hi.nKB hi.walks) (fun i hi2 => ?_) (lR_q (cc := 23) (fun j hj => hw9 j (by omega) (by omega) (by omega)) (fun a q1 q2 => by rw [hI10 a (by omega)]; exact hI9 a (by omega)) hi.nLB hi.law lw) hmR (kR_q (cc := 13) (fun j hj => hw9 j (by omega) (by omega) (by omega)) (fun a q1 q2 => by rw [hI10 a (by omega)]; exact hI9 a (by omega)) hi.nKB m2) ⟨?_, fun i hi2 => ?_⟩
        · rw [xr_of d5 (by omega)] at hi2
          exact absurd hi2 (by omega)
        · rw [xp_wr_s, d5]
        · rw [xr_of d5 (by omega)] at hi2
          exact absurd hi2 (by omega)
      · rw [hI10 132 (by omega), c3 132 (by omega), xp_wr_cell (by omega), f0, d2 0 (by omega), xp_wr_k (by omega), f25]
      · rw [hI10 132 (by omega), c3 132 (by omega), xp_wr_cell (by omega), f1, d2 0 (by omega), xp_wr_k (by omega), f27]
end
