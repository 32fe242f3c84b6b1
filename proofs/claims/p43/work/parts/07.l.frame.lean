-- ===== what stays over deeds; writing one number on both sides =====
/-- all that stays over deeds is alike -/
def ceq (w w' : Nat → Int32) : Prop := ∀ j, 62 ≤ j → (j < 748 ∨ 1348 ≤ j) → w' j = w j
section
variable {w w' : Nat → Int32}
theorem ceq.x (h : ceq w w') {j : Nat} (h1 : 62 ≤ j) (h2 : j < 748 ∨ 1348 ≤ j) : xr w' j = xr w j := xr_eq (h j h1 h2)
theorem ceq.v (h : ceq w w') {j n : Nat} (h1 : 62 ≤ j) (h2 : j < 748 ∨ 1348 ≤ j) (hv : vN w j n) : vN w' j n := vN_eq (h j h1 h2) hv
theorem lseg_c (h : ceq w w') (a b : Nat) : lseg w' a b = lseg w a b := by
  unfold lseg
  apply List.map_congr_left
  intro j _
  rw [h.x (by omega) (by omega), h _ (by omega) (by omega)]
theorem lI_c (h : ceq w w') (hl : lI w) : lI w' := by
  intro i hi
  rw [h.x (by omega) (by omega)] at hi
  obtain ⟨h1, h2, h3, h4, h5, h6, h7, h8, h9, h10⟩ := hl i hi
  simp only [lseg_c h, h.x (show 62 ≤ 1348 + i by omega) (by omega), h.x (show 62 ≤ 1364 + i by omega) (by omega), h.x (show 62 ≤ 1380 + i by omega) (by omega), h.x (show 62 ≤ 1396 + i by omega) (by omega)]
  exact ⟨h.v (by omega) (by omega) h1, h.v (by omega) (by omega) h2, h.v (by omega) (by omega) h3, h.v (by omega) (by omega) h4, h5, h6, h7, fun j hj => h.v (by omega) (by omega) (h8 j hj), h9, h10⟩
theorem wC_c (h : ceq w w') {m i : Nat} (hm : m < 10) (hi : i < 6) : wC w' m i = wC w m i := h.x (by omega) (by omega)
theorem itr_congr {σ : Type} {f g : Nat → σ → σ} {s : σ} {n : Nat} (h : ∀ i x, i < n → f i x = g i x) : itr f s n = itr g s n := by
  induction n with
  | zero => rfl
  | succ n ih =>
    show f n (itr f s n) = g n (itr g s n)
    rw [ih (fun i x hi => h i x (by omega)), h n _ (by omega)]
theorem wS_c (h : ceq w w') {m i : Nat} (hm : m < 10) (hi : i < 6) (hc : wC w m i < 7) : wS w' m i = wS w m i := by
  unfold wS
  rw [wC_c h hm hi]
  apply itr_congr
  intro k x hk
  rw [h.x (by omega) (by omega)]
theorem wL_c (h : ceq w w') {m i : Nat} (hm : m < 10) (hi : i < 6) (hc : wC w m i < 7) (hb : ∀ k, k < wC w m i → xr w (208 + 42 * m + 7 * i + (1 + k)) < 14) : wL w' m i = wL w m i := by
  unfold wL
  rw [wC_c h hm hi]
  apply itr_congr
  intro k x hk
  have := hb k hk
  rw [h.x (show 62 ≤ 208 + 42 * m + 7 * i + (1 + k) by omega) (by omega), h.x (show 62 ≤ 70 + xr w (208 + 42 * m + 7 * i + (1 + k)) by omega) (by omega)]
theorem cI_c (h : ceq w w') (hc : cI w) : cI w' := by
  obtain ⟨c1, c2, c3, c4, c5, c6, c7, c8, c9, c10, c11, c12, c13, c14, c15, c16⟩ := hc
  have e62 := h.x (show 62 ≤ 62 by omega) (by omega)
  have e63 := h.x (show 62 ≤ 63 by omega) (by omega)
  have e66 := h.x (show 62 ≤ 66 by omega) (by omega)
  have e67 := h.x (show 62 ≤ 67 by omega) (by omega)
  have e68 := h.x (show 62 ≤ 68 by omega) (by omega)
  have e69 := h.x (show 62 ≤ 69 by omega) (by omega)
  refine ⟨h.v (by omega) (by omega) c1, h.v (by omega) (by omega) c2, h.v (by omega) (by omega) c3, h.v (by omega) (by omega) c4, h.v (by omega) (by omega) c5, h.v (by omega) (by omega) c6, h.v (by omega) (by omega) c7, h.v (by omega) (by omega) c8, fun k hk => h.v (by omega) (by omega) (c9 k hk), fun k hk => by rw [e62]; exact h.v (by omega) (by omega) (c10 k hk), fun k hk => h.v (by omega) (by omega) (c11 k hk), lI_c h c12, ⟨?_, fun m hm => by
    rw [e66] at hm
    have hm10 := c5.2
    rw [h.x (by omega) (by omega)]
    exact c13.2 m hm⟩, ?_, ?_, ?_⟩
  · intro m hm
    rw [e66] at hm
    have hm10 := c5.2
    obtain ⟨a1, a2⟩ := c13.1 m hm
    refine ⟨h.v (by omega) (by omega) a1, fun i hi => ?_⟩
    rw [h.x (by omega) (by omega)] at hi
    have hi6 := a1.2
    obtain ⟨b1, b2⟩ := a2 i hi
    have b17 := b1.2
    refine ⟨h.v (by omega) (by omega) b1, fun k hk => ?_⟩
    rw [wC_c h (by omega) (by omega)] at hk
    have hk2 : k < 7 := Nat.lt_trans hk b17
    rw [e62]
    exact h.v (by omega) (by omega) (b2 k hk)
  · intro i hi
    rw [e67] at hi
    have hb := c6.2
    obtain ⟨a1, a2, a3, a4, a5, a6⟩ := c14 i hi
    have e := h.x (show 62 ≤ 630 + 4 * i by omega) (by omega)
    refine ⟨h.v (by omega) (by omega) a1, by rw [e63]; exact h.v (by omega) (by omega) a2, h.v (by omega) (by omega) a3, by rw [e]; exact a4, fun q => ?_, fun q => ?_⟩
    · rw [e] at q
      exact h.v (by omega) (by omega) (a5 q)
    · rw [e] at q
      rw [e62]
      exact h.v (by omega) (by omega) (a6 q)
  · intro i hi
    rw [e68] at hi
    have hb := c7.2
    obtain ⟨a1, a2, a3⟩ := c15 i hi
    exact ⟨by rw [e66]; exact h.v (by omega) (by omega) a1, h.v (by omega) (by omega) a2, h.v (by omega) (by omega) a3⟩
  · intro i hi
    rw [e69] at hi
    have hb := c8.2
    obtain ⟨a1, a2⟩ := c16 i hi
    refine ⟨by rw [e62]; exact h.v (by omega) (by omega) a1, ?_⟩
    rcases a2 with a2 | a2
    · exact Or.inl ((h _ (by omega) (by omega)).trans a2)
    · exact Or.inr (h.v (by omega) (by omega) a2)
theorem cR_c {fl : Bool} {b : Nat} {I I' : xc_M} (h : ceq w w') (hc : cI w) (hI : ∀ a, b ≤ a → a < b + 4 ∨ (b + 12 ≤ a ∧ a < b + 28) → I' a = I a) (hr : cR fl b I w) : cR fl b I' w' := by
  obtain ⟨c1, c2, c3, c4, c5, c6, c7, c8, c9, c10, c11, c12, c13, c14, c15, c16⟩ := hc
  obtain ⟨r1, r2, r3, r4, r5, r6, ⟨l1, l2⟩, ⟨m1, m2⟩, ⟨k1, k2⟩, ⟨n1, n2⟩, ⟨t1, t2⟩⟩ := hr
  have e65 := h.x (show 62 ≤ 65 by omega) (by omega)
  have e66 := h.x (show 62 ≤ 66 by omega) (by omega)
  have e67 := h.x (show 62 ≤ 67 by omega) (by omega)
  have e68 := h.x (show 62 ≤ 68 by omega) (by omega)
  have e69 := h.x (show 62 ≤ 69 by omega) (by omega)
  have g0 := hI b (by omega) (by omega)
  refine ⟨by rw [g0, h _ (by omega) (by omega)]; exact r1, by rw [g0, h _ (by omega) (by omega)]; exact r2, by rw [g0, h _ (by omega) (by omega)]; exact r3, fun k hk => by rw [hI (b + 1) (by omega) (by omega), h _ (by omega) (by omega)]; exact r4 k hk, fun k hk => by rw [hI (b + 2) (by omega) (by omega), h _ (by omega) (by omega)]; exact r5 k hk, fun k hk => by rw [hI (b + 3) (by omega) (by omega), h _ (by omega) (by omega)]; exact r6 k hk, ?_, ?_, ?_, ?_, ?_⟩
  · refine ⟨by rw [hI (b + 22) (by omega) (by omega), h _ (by omega) (by omega)]; exact l1, fun i hi => ?_⟩
    rw [e65] at hi
    have f1 := hI (b + 22 + 1) (by omega) (by omega)
    have f2 := hI (b + 22 + 2) (by omega) (by omega)
    have f3 := hI (b + 22 + 3) (by omega) (by omega)
    have f4 := hI (b + 22 + 4) (by omega) (by omega)
    have f5 := hI (b + 22 + 5) (by omega) (by omega)
    have := l2 i hi
    unfold lcod at this ⊢
    simp only [lseg_c h, h.x (show 62 ≤ 1348 + i by omega) (by omega), h.x (show 62 ≤ 1364 + i by omega) (by omega), h.x (show 62 ≤ 1380 + i by omega) (by omega), h.x (show 62 ≤ 1396 + i by omega) (by omega), f1, f2, f3, f4, f5]
    exact this
  · refine ⟨by rw [hI (b + 18) (by omega) (by omega), h _ (by omega) (by omega)]; exact m1, fun m hm => ?_⟩
    rw [e66] at hm
    have hm10 := c5.2
    obtain ⟨a1, a2⟩ := c13.1 m hm
    obtain ⟨q1, q2⟩ := m2 m hm
    have hi6 := a1.2
    refine ⟨by rw [hI (b + 18 + 1) (by omega) (by omega), h _ (by omega) (by omega)]; exact q1, fun i hi => ?_⟩
    rw [h.x (by omega) (by omega)] at hi
    obtain ⟨b1, b2⟩ := a2 i hi
    have hw := c1.2
    rw [hI (b + 18 + 2) (by omega) (by omega), hI (b + 18 + 3) (by omega) (by omega), wS_c h (by omega) (by omega) b1.2, wL_c h (by omega) (by omega) b1.2 (fun k hk => by have := (b2 k hk).2; omega)]
    exact q2 i hi
  · refine ⟨by rw [hI (b + 12) (by omega) (by omega), h _ (by omega) (by omega)]; exact k1, fun i hi => ?_⟩
    rw [e67] at hi
    have hb := c6.2
    rw [hI (b + 12 + 1) (by omega) (by omega), h (628 + 4 * i) (by omega) (by omega), h (629 + 4 * i) (by omega) (by omega), h (631 + 4 * i) (by omega) (by omega), h.x (show 62 ≤ 630 + 4 * i by omega) (by omega)]
    exact k2 i hi
  · refine ⟨by rw [hI (b + 14) (by omega) (by omega), h _ (by omega) (by omega)]; exact n1, fun i hi => ?_⟩
    rw [e68] at hi
    have hb := c7.2
    rw [hI (b + 14 + 1) (by omega) (by omega), h (692 + 3 * i) (by omega) (by omega), h (693 + 3 * i) (by omega) (by omega), h (694 + 3 * i) (by omega) (by omega)]
    exact n2 i hi
  · refine ⟨by rw [hI (b + 16) (by omega) (by omega), h _ (by omega) (by omega)]; exact t1, fun i hi => ?_⟩
    rw [e69] at hi
    have hb := c8.2
    rw [hI (b + 16 + 1) (by omega) (by omega), h (728 + 2 * i) (by omega) (by omega), h (729 + 2 * i) (by omega) (by omega)]
    exact t2 i hi
end
/-- the place (a, k) of a Being at c is the reference's place j -/
def pR (c a k j : Nat) : Prop := (a = c ∧ k = 0 ∧ j = 1) ∨ (a = c ∧ k = 1 ∧ j = 0) ∨ (a = c ∧ k = 2 ∧ j = 3) ∨ (a = c + 1 ∧ j = 4 + k ∧ k < 14) ∨ (a = c + 2 ∧ j = 18 + k ∧ k < 14) ∨ (a = c + 3 ∧ j = 32 + k ∧ k < 10) ∨ (a = c + 4 ∧ j = 42 + k ∧ k < 10) ∨ (a = c + 5 ∧ j = 52 + k ∧ k < 10)
theorem rR_wr {I J : xc_M} {a k j a' k' j' : Nat} {v : Int32} (hi : (a' = a ∧ k' = k) ↔ j' = j) (h : I a' k' = J 1 j') : xc_wr I a k v a' k' = xc_wr J 1 j v 1 j' := by
  unfold xc_wr
  by_cases e : a' = a ∧ k' = k
  · rw [if_pos e, if_pos ⟨rfl, hi.mp e⟩]
  · rw [if_neg e, if_neg (fun z => e (hi.mpr z.2)), h]
theorem pR_lt {c a k j : Nat} (h : pR c a k j) : j < 62 ∧ j ≠ 2 ∧ c ≤ a ∧ a < c + 6 := by
  unfold pR at h
  omega
theorem bR_wr {c a k j : Nat} {I J : xc_M} {v : Int32} (hp : pR c a k j) (h : bR c I (J 1)) : bR c (xc_wr I a k v) (xc_wr J 1 j v 1) := by
  obtain ⟨h1, h2, h3, h4, h5, h6, h7, h8⟩ := h
  unfold pR at hp
  exact ⟨rR_wr (by omega) h1, rR_wr (by omega) h2, rR_wr (by omega) h3, fun i hi => rR_wr (by omega) (h4 i hi), fun i hi => rR_wr (by omega) (h5 i hi), fun i hi => rR_wr (by omega) (h6 i hi), fun i hi => rR_wr (by omega) (h7 i hi), fun i hi => rR_wr (by omega) (h8 i hi)⟩
theorem ceq_wr {J : xc_M} {j : Nat} {v : Int32} (hj : j < 62) : ceq (J 1) (xc_wr J 1 j v 1) := fun i h1 _ => xp_wr_k (by omega)
theorem xW_wr {fl : Bool} {b a k j : Nat} {I J : xc_M} {v : Int32} (hp : pR (b + 4) a k j) (h : xW fl b I (J 1)) (hb : bI (xr (J 1) 62) (xc_wr J 1 j v 1)) : xW fl b (xc_wr I a k v) (xc_wr J 1 j v 1) := by
  obtain ⟨⟨hi1, hi2⟩, h2, h3, h4, h5⟩ := h
  have hl := pR_lt hp
  have hc : ceq (J 1) (xc_wr J 1 j v 1) := ceq_wr hl.1
  refine ⟨⟨by rw [hc.x (by omega) (by omega)]; exact hb, cI_c hc hi2⟩, bR_wr hp h2, cR_c hc hi2 (fun x h6 h7 => xp_wr_cell (by omega)) h3, ?_, fun hf => ?_⟩
  · rw [xp_wr_cell (by omega)]
    exact h4
  · obtain ⟨g1, g2⟩ := h5 hf
    rw [xp_wr_cell (show b + 10 ≠ a by omega), xp_wr_cell (show b + 10 + 1 ≠ a by omega), xp_wr_k (show 2 ≠ j by omega)]
    exact ⟨g1, fun i hi => by rw [xp_wr_k (by omega)]; exact g2 i hi⟩
