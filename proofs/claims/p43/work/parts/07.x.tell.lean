-- ===== what is told: state, set, word, person, kin, miles, talk =====
/-- the texts' rows are alike, words and people may be more -/
def teq (w w' : Nat → Int32) : Prop := (∀ j, (65 ≤ j ∧ j < 69) ∨ (198 ≤ j ∧ j < 728) ∨ (1348 ≤ j ∧ j < 2232) → w' j = w j) ∧ xr w 62 ≤ xr w' 62 ∧ xr w 63 ≤ xr w' 63 ∧ ∀ k, k < xr w 62 → w' (70 + k) = w (70 + k)
section
variable {w w' : Nat → Int32}
theorem teq.e (h : teq w w') {j : Nat} (hj : (65 ≤ j ∧ j < 69) ∨ (198 ≤ j ∧ j < 728) ∨ (1348 ≤ j ∧ j < 2232)) : w' j = w j := h.1 j hj
theorem teq.x (h : teq w w') {j : Nat} (hj : (65 ≤ j ∧ j < 69) ∨ (198 ≤ j ∧ j < 728) ∨ (1348 ≤ j ∧ j < 2232)) : xr w' j = xr w j := xr_eq (h.1 j hj)
theorem teq.v (h : teq w w') {j n : Nat} (hj : (65 ≤ j ∧ j < 69) ∨ (198 ≤ j ∧ j < 728) ∨ (1348 ≤ j ∧ j < 2232)) (hv : vN w j n) : vN w' j n := vN_eq (h.1 j hj) hv
theorem vN_mono {j n m : Nat} (h : vN w j n) (hm : n ≤ m) : vN w j m := ⟨h.1, Nat.lt_of_lt_of_le h.2 hm⟩
theorem teq.v2 (h : teq w w') {j n m : Nat} (hj : (65 ≤ j ∧ j < 69) ∨ (198 ≤ j ∧ j < 728) ∨ (1348 ≤ j ∧ j < 2232)) (hm : n ≤ m) (hv : vN w j n) : vN w' j m := vN_mono (vN_eq (h.1 j hj) hv) hm
theorem lseg_t (h : teq w w') {a b : Nat} (hb : b ≤ 410) : lseg w' a b = lseg w a b := by
  unfold lseg
  apply List.map_congr_left
  intro j hj
  have hj2 := List.mem_range.mp hj
  rw [h.x (by omega), h.e (by omega)]
theorem lI_t (h : teq w w') (hB : xr w 65 < 17) (hl : lI w) : lI w' := by
  intro i hi
  rw [h.x (by omega)] at hi
  obtain ⟨h1, h2, h3, h4, h5, h6, h7, h8, h9, h10⟩ := hl i hi
  have hM := h2.2
  have hT := h3.2
  simp only [lseg_t h (a := xr w (1348 + i)) (b := xr w (1364 + i)) (by omega), lseg_t h (a := xr w (1364 + i)) (b := xr w (1380 + i)) (by omega), h.x (j := 1348 + i) (by omega), h.x (j := 1364 + i) (by omega), h.x (j := 1380 + i) (by omega), h.x (j := 1396 + i) (by omega)]
  exact ⟨h.v (by omega) h1, h.v (by omega) h2, h.v (by omega) h3, h.v (by omega) h4, h5, h6, h7, fun j hj => h.v (by omega) (h8 j hj), h9, h10⟩
theorem wC_t (h : teq w w') {m i : Nat} (hm : m < 10) (hi : i < 6) : wC w' m i = wC w m i := h.x (by omega)
theorem wS_t (h : teq w w') {m i : Nat} (hm : m < 10) (hi : i < 6) (hc : wC w m i < 7) : wS w' m i = wS w m i := by
  unfold wS
  rw [wC_t h hm hi]
  apply itr_congr
  intro k x hk
  rw [h.x (by omega)]
theorem wL_t (h : teq w w') {m i : Nat} (hm : m < 10) (hi : i < 6) (hc : wC w m i < 7) (hb : ∀ k, k < wC w m i → xr w (208 + 42 * m + 7 * i + (1 + k)) < xr w 62) : wL w' m i = wL w m i := by
  unfold wL
  rw [wC_t h hm hi]
  apply itr_congr
  intro k x hk
  have := hb k hk
  rw [h.x (j := 208 + 42 * m + 7 * i + (1 + k)) (by omega), xr_eq (h.2.2.2 _ this)]
theorem m_t (h : teq w w') (hB : xr w 66 < 11) (hm : mIv w) : mIv w' := by
  intro m hm'
  rw [h.x (by omega)] at hm'
  obtain ⟨a1, a2⟩ := hm m hm'
  refine ⟨h.v (by omega) a1, fun i hi => ?_⟩
  rw [h.x (by omega)] at hi
  have hi6 := a1.2
  obtain ⟨b1, b2⟩ := a2 i hi
  have b17 := b1.2
  refine ⟨h.v (by omega) b1, fun k hk => ?_⟩
  rw [wC_t h (by omega) (by omega)] at hk
  have hk2 : k < 7 := Nat.lt_trans hk b17
  exact h.v2 (by omega) h.2.1 (b2 k hk)
theorem mw_t (h : teq w w') (hB : xr w 66 < 11) (hm : mIv w ∧ wIv w) : mIv w' ∧ wIv w' := by
  refine ⟨m_t h hB hm.1, fun m hm' => ?_⟩
  rw [h.x (by omega)] at hm'
  rw [h.x (by omega)]
  exact hm.2 m hm'
theorem k_t (h : teq w w') (hB : xr w 67 < 17) (hm : kIv w) : kIv w' := by
  intro i hi
  rw [h.x (by omega)] at hi
  obtain ⟨a1, a2, a3, a4, a5, a6⟩ := hm i hi
  have e := h.x (j := 630 + 4 * i) (by omega)
  refine ⟨h.v (by omega) a1, h.v2 (by omega) h.2.2.1 a2, h.v (by omega) a3, by rw [e]; exact a4, fun q => ?_, fun q => ?_⟩
  · rw [e] at q
    exact h.v (by omega) (a5 q)
  · rw [e] at q
    exact h.v2 (by omega) h.2.1 (a6 q)
theorem n_t (h : teq w w') (hB : xr w 68 < 13) (hm : nIv w) : nIv w' := by
  intro i hi
  rw [h.x (by omega)] at hi
  obtain ⟨a1, a2, a3⟩ := hm i hi
  exact ⟨by rw [h.x (j := 66) (by omega)]; exact h.v (by omega) a1, h.v (by omega) a2, h.v (by omega) a3⟩
theorem t_t (h : ∀ j, j = 69 ∨ (728 ≤ j ∧ j < 748) → w' j = w j) (h62 : xr w 62 ≤ xr w' 62) (hB : xr w 69 < 11) (hm : tIv w) : tIv w' := by
  intro i hi
  rw [xr_eq (h 69 (by omega))] at hi
  obtain ⟨a1, a2⟩ := hm i hi
  refine ⟨vN_mono (vN_eq (h _ (by omega)) a1) h62, ?_⟩
  rcases a2 with a2 | a2
  · exact Or.inl ((h _ (by omega)).trans a2)
  · exact Or.inr (vN_eq (h _ (by omega)) a2)
/-- the class's texts stay beside the reference's -/
def xR4 (b : Nat) (I : xc_M) (w : Nat → Int32) : Prop := lR (b + 22) I w ∧ mR (b + 18) I w ∧ kR (b + 12) I w ∧ nR (b + 14) I w
theorem xR4_t {b : Nat} {I I' : xc_M} (h : teq w w') (hc : cI w) (hI : ∀ a, b + 12 ≤ a → a < b + 28 → a ≠ b + 16 → a ≠ b + 17 → I' a = I a) (hr : xR4 b I w) : xR4 b I' w' := by
  obtain ⟨c1, c2, c3, c4, c5, c6, c7, c8, c9, c10, c11, c12, c13, c14, c15, c16⟩ := hc
  obtain ⟨⟨l1, l2⟩, ⟨m1, m2⟩, ⟨k1, k2⟩, ⟨n1, n2⟩⟩ := hr
  refine ⟨?_, ?_, ?_, ?_⟩
  · refine ⟨by rw [hI (b + 22) (by omega) (by omega) (by omega) (by omega), h.e (by omega)]; exact l1, fun i hi => ?_⟩
    rw [h.x (by omega)] at hi
    have f1 := hI (b + 22 + 1) (by omega) (by omega) (by omega) (by omega)
    have f2 := hI (b + 22 + 2) (by omega) (by omega) (by omega) (by omega)
    have f3 := hI (b + 22 + 3) (by omega) (by omega) (by omega) (by omega)
    have f4 := hI (b + 22 + 4) (by omega) (by omega) (by omega) (by omega)
    have f5 := hI (b + 22 + 5) (by omega) (by omega) (by omega) (by omega)
    have := l2 i hi
    unfold lcod at this ⊢
    have hM := (c12 i hi).2.1.2
    have hT := (c12 i hi).2.2.1.2
    have hB := c4.2
    simp only [lseg_t h (a := xr w (1348 + i)) (b := xr w (1364 + i)) (by omega), lseg_t h (a := xr w (1364 + i)) (b := xr w (1380 + i)) (by omega), h.x (j := 1348 + i) (by omega), h.x (j := 1364 + i) (by omega), h.x (j := 1380 + i) (by omega), h.x (j := 1396 + i) (by omega), f1, f2, f3, f4, f5]
    exact this
  · refine ⟨by rw [hI (b + 18) (by omega) (by omega) (by omega) (by omega), h.e (by omega)]; exact m1, fun m hm => ?_⟩
    rw [h.x (by omega)] at hm
    have hm10 := c5.2
    obtain ⟨a1, a2⟩ := c13.1 m hm
    obtain ⟨q1, q2⟩ := m2 m hm
    have hi6 := a1.2
    refine ⟨by rw [hI (b + 18 + 1) (by omega) (by omega) (by omega) (by omega), h.e (by omega)]; exact q1, fun i hi => ?_⟩
    rw [h.x (by omega)] at hi
    obtain ⟨b1, b2⟩ := a2 i hi
    rw [hI (b + 18 + 2) (by omega) (by omega) (by omega) (by omega), hI (b + 18 + 3) (by omega) (by omega) (by omega) (by omega), wS_t h (by omega) (by omega) b1.2, wL_t h (by omega) (by omega) b1.2 (fun k hk => (b2 k hk).2)]
    exact q2 i hi
  · refine ⟨by rw [hI (b + 12) (by omega) (by omega) (by omega) (by omega), h.e (by omega)]; exact k1, fun i hi => ?_⟩
    rw [h.x (by omega)] at hi
    have hb := c6.2
    rw [hI (b + 12 + 1) (by omega) (by omega) (by omega) (by omega), h.e (j := 628 + 4 * i) (by omega), h.e (j := 629 + 4 * i) (by omega), h.e (j := 631 + 4 * i) (by omega), h.x (j := 630 + 4 * i) (by omega)]
    exact k2 i hi
  · refine ⟨by rw [hI (b + 14) (by omega) (by omega) (by omega) (by omega), h.e (by omega)]; exact n1, fun i hi => ?_⟩
    rw [h.x (by omega)] at hi
    have hb := c7.2
    rw [hI (b + 14 + 1) (by omega) (by omega) (by omega) (by omega), h.e (j := 692 + 3 * i) (by omega), h.e (j := 693 + 3 * i) (by omega), h.e (j := 694 + 3 * i) (by omega)]
    exact n2 i hi
theorem tR_t {b : Nat} {I I' : xc_M} (h : ∀ j, j = 69 ∨ (728 ≤ j ∧ j < 748) → w' j = w j) (hB : xr w 69 < 11) (hI : ∀ a, a = b + 16 ∨ a = b + 17 → I' a = I a) (hr : tR (b + 16) I w) : tR (b + 16) I' w' := by
  obtain ⟨t1, t2⟩ := hr
  refine ⟨by rw [hI (b + 16) (by omega), h 69 (by omega)]; exact t1, fun i hi => ?_⟩
  rw [xr_eq (h 69 (by omega))] at hi
  rw [hI (b + 16 + 1) (by omega), h (728 + 2 * i) (by omega), h (729 + 2 * i) (by omega)]
  exact t2 i hi
end
section
variable {N : Nat} {I J I' J' : xc_M}
theorem RR_tell (h : RR I J) (hw : xW true 1 I' (J' 1)) (hd : xr (J' 1) 0 < 10000) (hI : ∀ a, 31 ≤ a → a ≠ 91 → I' a = I a) (hI0 : I' 0 = I 0) (h91 : I' 91 0 = nI 0) (h911 : I' 91 1 = I 91 1) (hJ : ∀ a, a ≠ 0 → a ≠ 1 → J' a = J a) (hJ0 : ∀ k, k ≠ 4 → J' 0 k = J 0 k) (h04 : J' 0 4 = nI 0) : RR I' J' := by
  obtain ⟨h1, h2, ⟨n, l, p1, p2, p3, p4, p5, p6⟩, h4, h5, h6⟩ := h
  exact ⟨hw, hd, ⟨0, l, by omega, p2, h91, h04, h911.trans p5, fun t ht => absurd ht (by omega)⟩, tapR_keep (hI 130 (by omega) (by omega)) (hI 131 (by omega) (by omega)) (hJ0 18 (by omega)) (hJ 10 (by omega) (by omega)) h4, fauR_keep (hI 132 (by omega) (by omega)) (hJ0 25 (by omega)) (hJ0 27 (by omega)) h5, imgR_keep (fun a _ _ => hI a (by omega) (by omega)) (by rw [hI0]) (hJ0 5 (by omega)) (hJ 2 (by omega) (by omega)) h6⟩
theorem RR_same (h : RR I J) (hw : xW true 1 I' (J' 1)) (hd : xr (J' 1) 0 < 10000) (h62 : xr (J' 1) 62 = xr (J 1) 62) (hI : ∀ a, 31 ≤ a → I' a = I a) (hI0 : I' 0 = I 0) (hJ : ∀ a, a ≠ 1 → J' a = J a) : RR I' J' := by
  obtain ⟨h1, h2, h3, h4, h5, h6⟩ := h
  have j0 := hJ 0 (by omega)
  exact ⟨hw, hd, pastR_keep (fun a _ _ => hI a (by omega)) (by rw [j0]) (hJ 3 (by omega)) h62 h3, tapR_keep (hI 130 (by omega)) (hI 131 (by omega)) (by rw [j0]) (hJ 10 (by omega)) h4, fauR_keep (hI 132 (by omega)) (by rw [j0]) (by rw [j0]) h5, imgR_keep (fun a _ _ => hI a (by omega)) (by rw [hI0]) (by rw [j0]) (hJ 2 (by omega)) h6⟩
theorem cv_forget : fX3_forget I = some (nI 0, xc_wr I 91 0 (nI 0)) := rfl
theorem rv_forgets : fX10_forgets J = some (nI 0, xc_wr J 0 4 (nI 0)) := rfl
/-- writing one number of the Being, then forgetting -/
theorem RR_wr (h : RR I J) {a k j : Nat} {v : Int32} (hp : pR 5 a k j) (hb : bI (xr (J 1) 62) (xc_wr J 1 j v 1)) (hj : j ≠ 0) : RR (xc_wr (xc_wr I a k v) 91 0 (nI 0)) (xc_wr (xc_wr J 1 j v) 0 4 (nI 0)) := by
  have hl := pR_lt hp
  have hw := xW_wr (b := 1) hp h.1 hb
  refine RR_tell h ?_ ?_ (fun x h1 h2 => by rw [xp_wr_cell h2, xp_wr_cell (by omega)]) (by rw [xp_wr_cell (by omega), xp_wr_cell (by omega)]) (xp_wr_s _ _ _ _) (by rw [xp_wr_k (by omega), xp_wr_c (by omega)]) (fun x h1 h2 => by rw [xp_wr_cell h1, xp_wr_cell h2]) (fun k hk => by rw [xp_wr_k hk, xp_wr_c (by omega)]) (xp_wr_s _ _ _ _)
  · rw [xp_wr_cell (show 1 ≠ 0 by decide)]
    exact xW_frame (fun x h1 h2 => by rw [xp_wr_cell (by omega)]) hw
  · rw [xp_wr_cell (show 1 ≠ 0 by decide), xr_eq (xp_wr_k (show 0 ≠ j by omega))]
    exact h.2.1
theorem state_both (h : RR I J) (v1 : Int32) : ∃ v I' J', fX9_state v1 I = some (v, I') ∧ fX10_state v1 J = some (v, J') ∧ RR I' J' := by
  have hd : I 5 0 = J 1 1 := h.1.draws
  refine ⟨J 1 1, _, _, ?_, ?_, RR_wr h (a := 5) (k := 0) (j := 1) (v := v1) (by unfold pR; omega) (bI_wr h.1.i.1 h.1.i.nWB (fun e => by omega) (fun e => by omega) (fun e => by omega) (fun e => by omega) (fun e => by omega) (fun e => by omega) (fun e => by omega)) (by omega)⟩
  · unfold fX9_state
    exact e_lt hd rfl
  · unfold fX10_state
    exact e_rd (k := 1) rfl (by omega) rfl (e_lt rfl (e_st (k := 1) rfl (by omega) rfl rfl))
theorem cv_isUp_t {m n : Nat} (h : m ≤ n) (hn : n < 2 ^ 30) : fX9_isUpTo (nI m) (nI n) = some (nI 1) := by
  unfold fX9_isUpTo
  exact e_f (nI_pos (by omega)) (e_f (nI_nlt h (by omega)) rfl)
theorem cv_isUp_o {v : Int32} {n : Nat} (h : oN v (n + 1)) (hn : n < 2 ^ 30) : fX9_isUpTo v (nI n) = some (nI 0) := by
  unfold fX9_isUpTo
  rcases h with h | h
  · exact e_t h rfl
  · by_cases h2 : v < 0
    · exact e_t h2 rfl
    · exact e_f h2 (e_t (Int32.lt_of_lt_of_le (nI_lt (by omega) (by omega)) h) rfl)
theorem rv_isIn_o {v : Int32} {n : Nat} (h : oN v (n + 1)) (hn : n < 2 ^ 29) : fX10_isIn v (nI 0) (nI n) = some (nI 0) := by
  have := rv_isN_o (n := n + 1) (v := v) (show n + 1 < 2 ^ 30 by omega) h
  rw [pk_sub (by omega), Nat.add_sub_cancel] at this
  exact this
theorem rv_isIn_t {k n : Nat} (h : k ≤ n) (hn : n < 2 ^ 29) : fX10_isIn (nI k) (nI 0) (nI n) = some (nI 1) := by
  have := rv_isN_t (n := n + 1) (k := k) (by omega) (by omega)
  rw [pk_sub (by omega), Nat.add_sub_cancel] at this
  exact this
end
