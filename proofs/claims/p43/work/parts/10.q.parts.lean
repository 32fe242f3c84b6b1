-- ===== texts: the row's parts are apart =====
section
variable {w w' : Nat → Int32} {I I' : xc_M}
theorem lI_q (h : ∀ j, j = 65 ∨ (1348 ≤ j ∧ j < 2232) → w' j = w j) (hB : xr w 65 < 17) (hl : lI w) : lI w' := by
  intro i hi
  rw [xr_eq (h 65 (by omega))] at hi
  obtain ⟨h1, h2, h3, h4, h5, h6, h7, h8, h9, h10⟩ := hl i hi
  have hM := h2.2
  have hT := h3.2
  have hs : ∀ a b, b ≤ 410 → lseg w' a b = lseg w a b := by
    intro a b hb
    unfold lseg
    apply List.map_congr_left
    intro j hj
    have hj2 := List.mem_range.mp hj
    rw [xr_eq (h _ (by omega)), h _ (by omega)]
  simp only [hs (xr w (1348 + i)) (xr w (1364 + i)) (by omega), hs (xr w (1364 + i)) (xr w (1380 + i)) (by omega), xr_eq (h (1348 + i) (by omega)), xr_eq (h (1364 + i) (by omega)), xr_eq (h (1380 + i) (by omega)), xr_eq (h (1396 + i) (by omega))]
  exact ⟨vN_eq (h _ (by omega)) h1, vN_eq (h _ (by omega)) h2, vN_eq (h _ (by omega)) h3, vN_eq (h _ (by omega)) h4, h5, h6, h7, fun j hj => vN_eq (h _ (by omega)) (h8 j hj), h9, h10⟩
theorem lR_q {cc : Nat} (h : ∀ j, j = 65 ∨ (1348 ≤ j ∧ j < 2232) → w' j = w j) (hI : ∀ a, cc ≤ a → a < cc + 6 → I' a = I a) (hB : xr w 65 < 17) (hl : lI w) (hr : lR cc I w) : lR cc I' w' := by
  obtain ⟨r0, r1⟩ := hr
  refine ⟨by rw [hI cc (by omega) (by omega), h 65 (by omega)]; exact r0, fun i hi => ?_⟩
  rw [xr_eq (h 65 (by omega))] at hi
  obtain ⟨h1, h2, h3, h4, h5, h6, h7, h8, h9, h10⟩ := hl i hi
  have hM := h2.2
  have hT := h3.2
  have hs : ∀ a b, b ≤ 410 → lseg w' a b = lseg w a b := by
    intro a b hb
    unfold lseg
    apply List.map_congr_left
    intro j hj
    have hj2 := List.mem_range.mp hj
    rw [xr_eq (h _ (by omega)), h _ (by omega)]
  have hc : ∀ a b, lcod I' cc a b = lcod I cc a b := by
    intro a b
    unfold lcod
    rw [hI (cc + 5) (by omega) (by omega)]
  obtain ⟨k0, a, m, e, k1, k2, k3, k4, k5, k6, k7, k8⟩ := r1 i hi
  rw [xr_eq (h (1348 + i) (by omega)), xr_eq (h (1364 + i) (by omega)), xr_eq (h (1380 + i) (by omega)), xr_eq (h (1396 + i) (by omega)), hI (cc + 1) (by omega) (by omega), hI (cc + 2) (by omega) (by omega), hI (cc + 3) (by omega) (by omega), hI (cc + 4) (by omega) (by omega)]
  refine ⟨k0, a, m, e, k1, k2, k3, k4, k5, k6, ?_, ?_⟩
  · rw [hc, hs _ _ (by omega)]
    exact k7
  · rw [hc, hs _ _ (by omega)]
    exact k8
theorem mIv_q (h : ∀ j, j = 62 ∨ j = 66 ∨ (198 ≤ j ∧ j < 628) → w' j = w j) (hB : xr w 66 < 11) (hm : mIv w ∧ wIv w) : mIv w' ∧ wIv w' := by
  constructor
  · intro m hm'
    rw [xr_eq (h 66 (by omega))] at hm'
    obtain ⟨a1, a2⟩ := hm.1 m hm'
    have a7 := a1.2
    refine ⟨vN_eq (h _ (by omega)) a1, fun i hi => ?_⟩
    rw [xr_eq (h (198 + m) (by omega))] at hi
    obtain ⟨b1, b2⟩ := a2 i hi
    have b7 := b1.2
    refine ⟨vN_eq (h _ (by omega)) b1, fun k hk => ?_⟩
    have ew : wC w' m i = wC w m i := xr_eq (h (208 + 42 * m + 7 * i) (by omega))
    rw [ew] at hk
    have hk7 : wC w m i < 7 := b7
    rw [xr_eq (h 62 (by omega))]
    exact vN_eq (h _ (by omega)) (b2 k hk)
  · intro m hm'
    rw [xr_eq (h 66 (by omega))] at hm'
    rw [xr_eq (h (198 + m) (by omega))]
    exact hm.2 m hm'
theorem mR_q {cc : Nat} (h : ∀ j, j = 62 ∨ j = 66 ∨ (70 ≤ j ∧ j < 84) ∨ (198 ≤ j ∧ j < 628) → w' j = w j) (hI : ∀ a, cc ≤ a → a < cc + 4 → I' a = I a) (hB : xr w 66 < 11) (hW : xr w 62 < 15) (hm : mIv w) (hr : mR cc I w) : mR cc I' w' := by
  obtain ⟨r0, r1⟩ := hr
  refine ⟨by rw [hI cc (by omega) (by omega), h 66 (by omega)]; exact r0, fun m hm' => ?_⟩
  rw [xr_eq (h 66 (by omega))] at hm'
  obtain ⟨a1, a2⟩ := hm m hm'
  have a7 := a1.2
  obtain ⟨k1, k2⟩ := r1 m hm'
  refine ⟨by rw [hI (cc + 1) (by omega) (by omega), h (198 + m) (by omega)]; exact k1, fun i hi => ?_⟩
  rw [xr_eq (h (198 + m) (by omega))] at hi
  obtain ⟨b1, b2⟩ := a2 i hi
  have b7 := b1.2
  have ew : wC w' m i = wC w m i := xr_eq (h (208 + 42 * m + 7 * i) (by omega))
  have hk7 : wC w m i < 7 := b7
  have eS : wS w' m i = wS w m i := by
    unfold wS
    rw [ew]
    exact itr_congr (fun k acc hk => by rw [xr_eq (h _ (by omega))])
  have eL : wL w' m i = wL w m i := by
    unfold wL
    rw [ew]
    refine itr_congr (fun k acc hk => ?_)
    have hb := (b2 k hk).2
    rw [xr_eq (h (208 + 42 * m + 7 * i + (1 + k)) (by omega)), xr_eq (h (70 + xr w (208 + 42 * m + 7 * i + (1 + k))) (by omega))]
  rw [eS, eL, hI (cc + 2) (by omega) (by omega), hI (cc + 3) (by omega) (by omega)]
  exact k2 i hi
theorem kIv_q (h : ∀ j, j = 62 ∨ j = 63 ∨ j = 67 ∨ (628 ≤ j ∧ j < 692) → w' j = w j) (hB : xr w 67 < 17) (hk : kIv w) : kIv w' := by
  intro i hi
  rw [xr_eq (h 67 (by omega))] at hi
  obtain ⟨a0, a1, a2, a3, a4, a5⟩ := hk i hi
  rw [xr_eq (h 62 (by omega)), xr_eq (h 63 (by omega)), xr_eq (h (630 + 4 * i) (by omega))]
  exact ⟨vN_eq (h _ (by omega)) a0, vN_eq (h _ (by omega)) a1, vN_eq (h _ (by omega)) a2, a3, fun z => vN_eq (h _ (by omega)) (a4 z), fun z => vN_eq (h _ (by omega)) (a5 z)⟩
theorem kR_q {cc : Nat} (h : ∀ j, j = 67 ∨ (628 ≤ j ∧ j < 692) → w' j = w j) (hI : ∀ a, cc ≤ a → a < cc + 2 → I' a = I a) (hB : xr w 67 < 17) (hr : kR cc I w) : kR cc I' w' := by
  obtain ⟨r0, r1⟩ := hr
  refine ⟨by rw [hI cc (by omega) (by omega), h 67 (by omega)]; exact r0, fun i hi => ?_⟩
  rw [xr_eq (h 67 (by omega))] at hi
  obtain ⟨a0, a1, a2, a3⟩ := r1 i hi
  rw [hI (cc + 1) (by omega) (by omega), xr_eq (h (630 + 4 * i) (by omega)), h (628 + 4 * i) (by omega), h (629 + 4 * i) (by omega), h (631 + 4 * i) (by omega)]
  exact ⟨a0, a1, a2, a3⟩
theorem nIv_q (h : ∀ j, j = 66 ∨ j = 68 ∨ (692 ≤ j ∧ j < 728) → w' j = w j) (hB : xr w 68 < 13) (hk : nIv w) : nIv w' := by
  intro i hi
  rw [xr_eq (h 68 (by omega))] at hi
  obtain ⟨a0, a1, a2⟩ := hk i hi
  rw [xr_eq (h 66 (by omega))]
  exact ⟨vN_eq (h _ (by omega)) a0, vN_eq (h _ (by omega)) a1, vN_eq (h _ (by omega)) a2⟩
theorem nR_q {cc : Nat} (h : ∀ j, j = 68 ∨ (692 ≤ j ∧ j < 728) → w' j = w j) (hI : ∀ a, cc ≤ a → a < cc + 2 → I' a = I a) (hB : xr w 68 < 13) (hr : nR cc I w) : nR cc I' w' := by
  obtain ⟨r0, r1⟩ := hr
  refine ⟨by rw [hI cc (by omega) (by omega), h 68 (by omega)]; exact r0, fun i hi => ?_⟩
  rw [xr_eq (h 68 (by omega))] at hi
  obtain ⟨a0, a1, a2⟩ := r1 i hi
  rw [hI (cc + 1) (by omega) (by omega), h (692 + 3 * i) (by omega), h (693 + 3 * i) (by omega), h (694 + 3 * i) (by omega)]
  exact ⟨a0, a1, a2⟩
theorem tIv_q (h : ∀ j, j = 62 ∨ j = 69 ∨ (728 ≤ j ∧ j < 748) → w' j = w j) (hB : xr w 69 < 11) (hk : tIv w) : tIv w' := by
  intro i hi
  rw [xr_eq (h 69 (by omega))] at hi
  obtain ⟨a0, a1⟩ := hk i hi
  rw [xr_eq (h 62 (by omega)), h (729 + 2 * i) (by omega)]
  refine ⟨vN_eq (h _ (by omega)) a0, ?_⟩
  rcases a1 with a1 | a1
  · exact Or.inl a1
  · exact Or.inr (vN_eq (h _ (by omega)) a1)
/-- the world with its texts told anew -/
theorem xW_txt (h : xW true 1 I w) (hw : ∀ j, j < 65 ∨ (69 ≤ j ∧ j < 198) ∨ (728 ≤ j ∧ j < 1348) → w' j = w j) (hI : ∀ a, a < 13 ∨ (17 ≤ a ∧ a < 19) → I' a = I a) (c65 : vN w' 65 17) (c66 : vN w' 66 11) (c67 : vN w' 67 17) (c68 : vN w' 68 13) (hl : lI w') (hm : mIv w' ∧ wIv w') (hk : kIv w') (hn : nIv w') (rl : lR 23 I' w') (rm : mR 19 I' w') (rk : kR 13 I' w') (rn : nR 15 I' w') : xW true 1 I' w' := by
  obtain ⟨⟨hi1, hi2⟩, g2, g3, g4⟩ := h
  obtain ⟨d1, d2, d3, d4, d5, d6, d7, d8, d9, d10, d11, d12, d13, d14, d15, d16⟩ := hi2
  obtain ⟨x0, x1, x2, x3, x4, x5, y1, y2, y3, y4, y5⟩ := g3
  obtain ⟨o1, o2⟩ := g4
  have e62 := xr_eq (hw 62 (by omega))
  refine ⟨⟨by rw [e62]; exact bI_c (fun j hj => hw j (by omega)) hi1, vN_eq (hw _ (by omega)) d1, vN_eq (hw _ (by omega)) d2, vN_eq (hw _ (by omega)) d3, c65, c66, c67, c68, vN_eq (hw _ (by omega)) d8, fun k hk => vN_eq (hw _ (by omega)) (d9 k hk), fun k hk => by rw [e62]; exact vN_eq (hw _ (by omega)) (d10 k hk), fun j hj => vN_eq (hw _ (by omega)) (d11 j hj), hl, hm, hk, hn, tIv_q (fun j hj => hw j (by omega)) d8.2 d16⟩, bR_c (fun j hj => hw j (by omega)) (fun a a1 a2 => hI a (by omega)) g2, ⟨by rw [hI 1 (by omega), hw 62 (by omega)]; exact x0, by rw [hI 1 (by omega), hw 63 (by omega)]; exact x1, by rw [hI 1 (by omega), hw 64 (by omega)]; exact x2, fun k hk => by rw [show (1 : Nat) + 1 = 2 from rfl, hI 2 (by omega), hw _ (by omega)]; exact x3 k hk, fun k hk => by rw [show (1 : Nat) + 2 = 3 from rfl, hI 3 (by omega), hw _ (by omega)]; exact x4 k hk, fun j hj => by rw [show (1 : Nat) + 3 = 4 from rfl, hI 4 (by omega), hw _ (by omega)]; exact x5 j hj, rl, rm, rk, rn, tR_t (b := 1) (fun j hj => hw j (by omega)) d8.2 (fun a ha => hI a (by omega)) y5⟩, ⟨?_, fun hf => ?_⟩⟩
  · obtain ⟨n, n1, n2⟩ := o1
    exact ⟨n, n1, by rw [show (1 : Nat) + 10 = 11 from rfl, hI 11 (by omega)]; exact n2⟩
  · obtain ⟨q1, q2⟩ := o2 hf
    refine ⟨by rw [show (1 : Nat) + 10 = 11 from rfl, hI 11 (by omega), hw 2 (by omega)]; exact q1, fun j hj => ?_⟩
    rw [show (1 : Nat) + 10 + 1 = 12 from rfl, hI 12 (by omega), hw _ (by omega)]
    exact q2 j hj
end
