-- ===== a StringBuilder: to append, to be a string =====
section
variable {σ τ ρ : xd_S} {M M2 : xd_M} {a v v' v'' b w : Nat} {s t : List Nat} {L N : Nat} {K : xd_K}
theorem sb_app (h : sbT M a v s (s.length + t.length)) {c cv : xd_C} {g : Nat → Int32} (hc : M a = some c) (hv : M v = some cv) (e1 : M2 v = some (1, cv.2.1, g, cv.2.2.2)) (e2 : M2 a = some (15, c.2.1, upd c.2.2.1 3 (nI (s.length + t.length)), c.2.2.2)) (g1 : ∀ j, j < s.length → g j = cv.2.2.1 j) (g2 : ∀ i b, t[i]? = some b → g (s.length + i) = nI b) (g3 : ∀ j, j < cv.2.1 → ∃ b, b < 128 ∧ g j = nI b) : sbT M2 a v (s ++ t) (s ++ t).length := by
  obtain ⟨c', cv', ⟨c1, c2, c3, c4, c5⟩, v1, v2, v3, v4, v5, v6, v7⟩ := h
  rw [hc] at c1
  rw [hv] at v1
  have ec := Option.some.inj c1
  have ev := Option.some.inj v1
  subst ec ev
  have hl : (s ++ t).length = s.length + t.length := List.length_append
  have k1 : upd c.2.2.1 3 (nI (s.length + t.length)) 1 = 0 := by
    rw [upd_n _ _ (by omega)]
    exact c4
  have k2 : upd c.2.2.1 3 (nI (s.length + t.length)) 3 = nI (s ++ t).length := by rw [upd_s, hl]
  refine ⟨_, _, ⟨e2, rfl, c3, k1, k2⟩, e1, rfl, Nat.le_refl _, by rw [hl]; exact v4, by rw [hl]; exact v5, g3, fun j x hj => ?_⟩
  show g j = nI x
  rw [List.getElem?_append] at hj
  by_cases c : j < s.length
  · rw [if_pos c] at hj
    rw [g1 j c]
    exact v7 j x hj
  · rw [if_neg c] at hj
    have := g2 (j - s.length) x hj
    rw [show s.length + (j - s.length) = j by omega] at this
    exact this
theorem exB.two {c1 c2 : xd_C} (hne : a ≠ v) : exB σ a v (xd_up (xd_up σ.1 v c1) a c2, σ.2) v := by
  refine ⟨fun x h1 h2 h3 => ?_, fun x h3 => ?_, Eq.refl _, Or.inl (Eq.refl _)⟩
  · show xd_up (xd_up σ.1 v _) a _ x = _
    rw [xu_n _ _ h1, xu_n _ _ h2]
  · show xd_up (xd_up σ.1 v _) a _ x ≠ none
    by_cases e : x = a
    · rw [e, xu_s]
      simp
    · rw [xu_n _ _ e]
      by_cases e2 : x = v
      · rw [e2, xu_s]
        simp
      · rw [xu_n _ _ e2]
        exact h3
/-- a constant is appended -/
theorem w_appk {k Q : Nat} (hk : k < 19) (h : sbT σ.1 a v s s.length) (hm : s.length + (ykb k).length < 4000) (hC : 1 ≤ σ.2.2.1) (hS : Q ≤ σ.2.2.2) (hQ : 2 * (s.length + (ykb k).length) ≤ Q) (hK : ∀ τ v', sbT τ.1 a v' (s ++ ykb k) (s ++ ykb k).length → exB σ a v τ v' → K 0 (some a) τ) : hJ4_append_15ec4_k a k σ K := by
  obtain ⟨yl, y100⟩ := yk_l hk
  obtain ⟨c, cv, ⟨c1, c2, c3, c4, c5⟩, -⟩ := id h
  unfold hJ4_append_15ec4_k
  refine w_is c1 c2 (w_cc 1 Q hC hS ?_)
  unfold hJ5_append_cf1ce_k
  refine w_c0 ?_
  unfold hJ0_length_8abf5_k
  refine w_c0 ?_
  unfold hJ0_coder_7d493_k
  refine w_f (by decide) (w_rb (Or.inl rfl) ?_)
  refine w_lt (v := nI (ykb k).length) (by rw [sz_r, yl]) ?_
  refine w_gI c1 c2 c5 (w_is c1 c2 (w_cc 1 Q (Nat.le_refl _) (Nat.le_refl _) (w_ens (σ := (σ.1, σ.2.1, 1, Q)) h (by omega) (Nat.le_refl _) (by show _ ≤ Q; omega) (fun τ v' h2 x2 => ?_))))
  have hne := h2.ne
  obtain ⟨c', cv', ⟨d1, d2, d3, d4, d5⟩, u1, u2, u3, u4, u5, u6, u7⟩ := id h2
  refine w_gI (c := c') d1 d2 d5 (w_is d1 d2 (w_c0 ?_))
  unfold hJ5_putStringAt_47b60_k
  refine w_is d1 d2 (w_c0 ?_)
  unfold hJ5_inflateIfNeededFor_a7421_k
  refine w_f (by decide) (w_gI d1 d2 d4 (w_c0 ?_))
  unfold hJ0_coder_7d493_k
  refine w_f (by decide) (w_rb (Or.inl rfl) (w_t rfl ?_))
  refine w_gR (c := c') d1 d2 d3 (w_gI (c := c') d1 d2 d4 (w_c0 ?_))
  unfold hJ0_getBytes_840e7_k
  refine w_c0 ?_
  unfold hJ0_coder_7d493_k
  refine w_f (by decide) (w_rb (Or.inl rfl) (w_f (fun z => z rfl) ?_))
  rw [sz_l]
  refine ⟨cv', u1, u2, by decide, nI_pos (by omega), nI_pos (by omega), ?_, ?_, fun i hi => ?_, ?_⟩
  · rw [yl, nI_clamp (by omega)]
    show 0 + (ykb k).length ≤ (ykb k).length
    omega
  · rw [yl, nI_clamp (by omega), nI_clamp (by omega)]
    exact u4
  · rw [yl, nI_clamp (by omega)] at hi
    obtain ⟨x, q1, q2, q3⟩ := yk_b hk hi
    show xd_fb ((yk_byt.getD k []).getD (0 + i) 0)
    rw [Nat.zero_add, q3]
    exact (fb_n q2).1
  · rw [yl, nI_clamp (by omega), nI_clamp (by omega)]
    refine w_gI (c := c') (by show xd_up τ.1 v' _ a = some c'; rw [xu_n _ _ hne]; exact d1) d2 d5 (w_pI (c := c') (by show xd_up τ.1 v' _ a = some c'; rw [xu_n _ _ hne]; exact d1) d2 (nI_add _ _) ?_)
    show xd_nn (some a) _
    refine w_nn (hK _ v' (sb_app h2 d1 u1 (g := va_cpy (fun j => (yk_byt.getD k []).getD j 0) cv'.2.2.1 0 s.length (ykb k).length) ?_ (xu_s _ _ _) (fun j hj => ?_) (fun i x hi => ?_) (fun j hj => ?_)) ?_)
    · show xd_up (xd_up τ.1 v' _) a _ v' = _
      rw [xu_n _ _ hne.symm, xu_s]
      rfl
    · unfold va_cpy
      rw [if_neg (by omega)]
    · have hil : i < (ykb k).length := (List.getElem?_eq_some_iff.mp hi).1
      obtain ⟨y, q1, q2, q3⟩ := yk_b hk hil
      rw [hi] at q1
      have := Option.some.inj q1
      subst this
      unfold va_cpy
      rw [if_pos (by omega), show 0 + (s.length + i - s.length) = i by omega]
      exact q3
    · unfold va_cpy
      split
      · rename_i hj2
        obtain ⟨y, q1, q2, q3⟩ := yk_b hk (i := 0 + (j - s.length)) (by omega)
        exact ⟨y, q2, q3⟩
      · exact u6 j hj
    · exact (x2.b0.trans (exB.two hne)).b
-- digits
def dec (x : Nat) : List Nat := if x < 10 then [48 + x] else if x < 100 then [48 + x / 10, 48 + x % 10] else [48 + x / 100, 48 + x / 10 % 10, 48 + x % 10]
theorem dg_all : (List.range 1000).all (fun x => decide (((-100 : Int32) < -nI x) ↔ x < 100) && decide (((-9 : Int32) ≤ -nI x) ↔ x < 10) && decide (-(-nI x) = nI x) && decide ((-nI x) / 100 = -nI (x / 100)) && decide ((-nI (x / 100)) * 100 - (-nI x) = nI (x % 100)) && decide ((-nI x ≤ (-10 : Int32)) ↔ 10 ≤ x) && decide ((-nI x ≤ (10 : Int32) * (-10)) ↔ 100 ≤ x) && decide (¬ (-nI x ≤ (10 : Int32) * (10 * (-10))))) = true := by decide +kernel
theorem dg_x {x : Nat} (hx : x < 1000) : (((-100 : Int32) < -nI x) ↔ x < 100) ∧ (((-9 : Int32) ≤ -nI x) ↔ x < 10) ∧ -(-nI x) = nI x ∧ (-nI x) / 100 = -nI (x / 100) ∧ (-nI (x / 100)) * 100 - (-nI x) = nI (x % 100) ∧ ((-nI x ≤ (-10 : Int32)) ↔ 10 ≤ x) ∧ ((-nI x ≤ (10 : Int32) * (-10)) ↔ 100 ≤ x) ∧ ¬ (-nI x ≤ (10 : Int32) * (10 * (-10))) := by
  have h := List.all_eq_true.mp dg_all x (List.mem_range.mpr hx)
  simp only [Bool.and_eq_true, decide_eq_true_eq] at h
  obtain ⟨⟨⟨⟨⟨⟨⟨h1, h2⟩, h3⟩, h4⟩, h5⟩, h6⟩, h7⟩, h8⟩ := h
  exact ⟨h1, h2, h3, h4, h5, h6, h7, h8⟩
theorem w_size {x : Nat} (hx : x < 1000) (hN : 100 ≤ N) (hK : K (nI (dec x).length) none σ) : hJ6_stringSize_0f7a4 N (nI x) σ K := by
  obtain ⟨-, -, -, -, -, h6, h7, h8⟩ := dg_x hx
  obtain ⟨N, rfl⟩ : ∃ f, N = f + 4 := ⟨N - 4, by omega⟩
  unfold hJ6_stringSize_0f7a4
  refine w_lt rfl (w_f (nI_pos (by omega)) (w_lt rfl (w_lt rfl ?_)))
  unfold hbJ6_stringSize_0f7a4_11
  refine w_lt rfl (w_lt rfl ?_)
  have b : ∀ (fu : Nat) (p i : Int32) (c : Prop), (¬ (10 : Int32) ≤ i) → (c ↔ -nI x ≤ p) → (c → hlJ6_stringSize_0f7a4_16 (N + 4) K fu (-nI x) 0 (10 * p) (i + 1) σ) → (¬ c → K (i + 0) none σ) → hlJ6_stringSize_0f7a4_16 (N + 4) K (fu + 1) (-nI x) 0 p i σ := by
    intro fu p i c hi hc h1 h2
    show hbJ6_stringSize_0f7a4_16 (N + 4) K (hlJ6_stringSize_0f7a4_16 (N + 4) K fu) _ _ _ _ σ
    refine w_f hi ?_
    by_cases e : c
    · exact w_t (hc.mp e) (w_lt rfl (w_lt rfl (h1 e)))
    · exact w_f (fun z => e (hc.mpr z)) (h2 e)
  refine b (N + 3) (-10) 1 (10 ≤ x) (by decide) h6.symm (fun e => ?_) (fun e => ?_)
  · refine b (N + 2) _ _ (100 ≤ x) (by decide) h7.symm (fun e2 => ?_) (fun e2 => ?_)
    · refine b (N + 1) _ _ False (by decide) ⟨fun z => z.elim, fun z => h8 z⟩ (fun z => z.elim) (fun _ => ?_)
      have : (dec x).length = 3 := by unfold dec; rw [if_neg (by omega), if_neg (by omega)]; rfl
      rw [this] at hK
      exact hK
    · have : (dec x).length = 2 := by unfold dec; rw [if_neg (by omega), if_pos (by omega)]; rfl
      rw [this] at hK
      exact hK
  · have : (dec x).length = 1 := by unfold dec; rw [if_pos (by omega)]; rfl
    rw [this] at hK
    exact hK
end
