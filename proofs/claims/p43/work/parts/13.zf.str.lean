-- ===== a StringBuilder: what it holds =====
theorem sz_31 : ((0 : Int32) &&& 31) = 0 := by decide
theorem sz_r (x : Int32) : x >>> ((0 : Int32) &&& 31) = x := by
  rw [sz_31]
  simp
theorem sz_l (x : Int32) : x <<< ((0 : Int32) &&& 31) = x := by
  rw [sz_31]
  simp
def ykb (k : Nat) : List Nat := (yk_byt.getD k []).map Int32.toNatClampNeg
theorem yk_all : (List.range 19).all (fun k => decide (yk_len.getD k 0 = (ykb k).length) && decide ((ykb k).length < 100) && (List.range (ykb k).length).all (fun i => decide ((yk_byt.getD k []).getD i 0 = nI ((ykb k).getD i 0)) && decide ((ykb k).getD i 0 < 128) && decide ((ykb k)[i]? = some ((ykb k).getD i 0)))) = true := by decide +kernel
theorem yk_l {k : Nat} (hk : k < 19) : yk_len.getD k 0 = (ykb k).length ∧ (ykb k).length < 100 := by
  have h := List.all_eq_true.mp yk_all k (List.mem_range.mpr hk)
  rw [Bool.and_eq_true, Bool.and_eq_true] at h
  exact ⟨of_decide_eq_true h.1.1, of_decide_eq_true h.1.2⟩
theorem yk_b {k i : Nat} (hk : k < 19) (hi : i < (ykb k).length) : ∃ b, (ykb k)[i]? = some b ∧ b < 128 ∧ (yk_byt.getD k []).getD i 0 = nI b := by
  have h := List.all_eq_true.mp yk_all k (List.mem_range.mpr hk)
  rw [Bool.and_eq_true] at h
  have h2 := List.all_eq_true.mp h.2 i (List.mem_range.mpr hi)
  rw [Bool.and_eq_true, Bool.and_eq_true] at h2
  exact ⟨(ykb k).getD i 0, of_decide_eq_true h2.2, of_decide_eq_true h2.1.2, of_decide_eq_true h2.1.1⟩
theorem fb_all : (List.range 128).all (fun b => fits .byte (.int (nI b)) && decide (vp_nar .byte (nI b) = nI b)) = true := by decide +kernel
theorem fb_n {b : Nat} (hb : b < 128) : xd_fb (nI b) ∧ vp_nar .byte (nI b) = nI b := by
  have h := List.all_eq_true.mp fb_all b (List.mem_range.mpr hb)
  rw [Bool.and_eq_true] at h
  exact ⟨h.1, of_decide_eq_true h.2⟩
/-- the builder a with its array v: the text s, room for L bytes at least -/
def sbT (M : xd_M) (a v : Nat) (s : List Nat) (L : Nat) : Prop := ∃ c cv : xd_C, (M a = some c ∧ c.1 = 15 ∧ c.2.2.2 0 = some v ∧ c.2.2.1 1 = 0 ∧ c.2.2.1 3 = nI s.length) ∧ M v = some cv ∧ cv.1 = 1 ∧ s.length ≤ L ∧ L ≤ cv.2.1 ∧ cv.2.1 ≤ 2 * L + 16 ∧ (∀ j, j < cv.2.1 → ∃ b, b < 128 ∧ cv.2.2.1 j = nI b) ∧ ∀ (j b : Nat), s[j]? = some b → cv.2.2.1 j = nI b
/-- from σ to τ: the builder alone changes; its array is the old one or new -/
def exB (σ : xd_S) (a v : Nat) (τ : xd_S) (v' : Nat) : Prop := (∀ x, x ≠ a → x ≠ v → σ.1 x ≠ none → τ.1 x = σ.1 x) ∧ (∀ x, σ.1 x ≠ none → τ.1 x ≠ none) ∧ τ.2.1 = σ.2.1 ∧ (v' = v ∨ σ.1 v' = none)
section
variable {σ τ ρ : xd_S} {M : xd_M} {a v v' v'' : Nat} {s t : List Nat} {L : Nat} {K : xd_K}
theorem exB.rfl : exB σ a v σ v := ⟨fun _ _ _ _ => Eq.refl _, fun _ h => h, Eq.refl _, Or.inl (Eq.refl _)⟩
theorem exB.trans (h : exB σ a v τ v') (g : exB τ a v' ρ v'') : exB σ a v ρ v'' := by
  refine ⟨fun x h1 h2 h3 => ?_, fun x h3 => g.2.1 x (h.2.1 x h3), g.2.2.1.trans h.2.2.1, ?_⟩
  · have e : x ≠ v' := fun e => by
      rcases h.2.2.2 with q | q
      · exact h2 (e.trans q)
      · rw [e] at h3
        exact h3 q
    rw [g.1 x h1 e (h.2.1 x h3), h.1 x h1 h2 h3]
  · rcases g.2.2.2 with q | q
    · rw [q]
      exact h.2.2.2
    · exact Or.inr (Classical.byContradiction fun z => h.2.1 v'' z q)
theorem exB.b (h : exB σ a v τ v') {x y : Nat} : exB σ a v (τ.1, τ.2.1, x, y) v' := h
theorem exB.b0 {x y : Nat} (h : exB (σ.1, σ.2.1, x, y) a v τ v') : exB σ a v τ v' := h
theorem sbT.ne (h : sbT M a v s L) : a ≠ v := by
  obtain ⟨c, cv, ⟨c1, c2, -⟩, v1, v2, -⟩ := h
  intro e
  rw [e, v1] at c1
  have := Option.some.inj c1
  rw [this] at v2
  omega
theorem sbT.mono {L2 : Nat} (h : sbT M a v s L) (h1 : s.length ≤ L2) (h2 : L2 ≤ L) (h3 : ∀ cv, M v = some cv → cv.2.1 ≤ 2 * L2 + 16) : sbT M a v s L2 := by
  obtain ⟨c, cv, hc, v1, v2, v3, v4, v5, v6, v7⟩ := h
  exact ⟨c, cv, hc, v1, v2, h1, by omega, h3 cv v1, v6, v7⟩
theorem i_sub_le {m n : Nat} (hm : m < 2 ^ 30) (hn : n < 2 ^ 30) : (nI m - nI n ≤ 0) = (m ≤ n) := by
  apply propext
  rw [show (0 : Int32) = nI 0 from rfl, Int32.le_iff_toInt_le, pk_sub_toInt (by omega) (by omega), nI_toInt (by omega)]
  omega
theorem if_ltN {α : Type} {m n : Nat} (hm : m < 2 ^ 31) (hn : n < 2 ^ 31) (x y : α) : (if nI m < nI n then x else y) = if m < n then x else y := by
  have e := nI_ltI (a := m) (b := n) hm hn
  by_cases c : m < n
  · rw [if_pos c, if_pos (e.mpr c)]
  · rw [if_neg c, if_neg (fun z => c (e.mp z))]
/-- room is made -/
theorem w_ens {m : Nat} (h : sbT σ.1 a v s s.length) (hm : s.length + m < 8000) (hC : 1 ≤ σ.2.2.1) (hS : 2 * (s.length + m) ≤ σ.2.2.2) (hK : ∀ τ v', sbT τ.1 a v' s (s.length + m) → exB σ a v τ v' → K 0 none τ) : hJ5_ensureCapacityInternal_d00df a (nI s.length + nI m) σ K := by
  have hne := h.ne
  obtain ⟨c, cv, ⟨c1, c2, c3, c4, c5⟩, v1, v2, v3, v4, v5, v6, v7⟩ := id h
  unfold hJ5_ensureCapacityInternal_d00df
  refine w_gR c1 c2 c3 (w_al v1 v2 rfl (w_gI c1 c2 c4 ?_))
  rw [nI_add]
  unfold xd_lt
  rw [sz_r]
  generalize hneed : s.length + m = need at *
  by_cases hc : need ≤ cv.2.1
  · refine w_t (by rw [i_sub_le (by omega) (by omega)]; exact hc) (hK σ v ⟨c, cv, ⟨c1, c2, c3, c4, c5⟩, v1, v2, by omega, hc, by omega, v6, v7⟩ exB.rfl)
  · refine w_f (by rw [i_sub_le (by omega) (by omega)]; exact hc) (w_gR c1 c2 c3 (w_is c1 c2 (w_c0 ?_)))
    obtain ⟨nc, n1, n2, n3⟩ : ∃ nc, need ≤ nc ∧ nc ≤ 2 * need ∧ nc = cv.2.1 + (if need - cv.2.1 < cv.2.1 + 2 then cv.2.1 + 2 else need - cv.2.1) := ⟨_, by split <;> omega, by split <;> omega, rfl⟩
    have hnc : hJ5_newCapacity_0f7a4 a (nI need) (σ.1, σ.2.1, 0, 0) (fun r ro τ => (fun x7 _ τ6 => xd_gI 15 a 1 τ6 fun x8 => xd_ca (fun τ K => hJ7_copyOf_9075b v (x7 <<< (x8 &&& 31)) τ K) τ6 fun _ r10 τ9 => xd_nn r10 fun b11 => xd_pR 15 a 0 (some b11) τ9 fun τ12 => K 0 none τ12) r ro (τ.1, τ.2.1, σ.2.2.1, σ.2.2.2)) := by
      unfold hJ5_newCapacity_0f7a4
      refine w_gR (σ := (σ.1, σ.2.1, 0, 0)) c1 c2 c3 (w_al (σ := (σ.1, σ.2.1, 0, 0)) v1 v2 rfl (w_lt rfl ?_))
      refine w_gI (σ := (σ.1, σ.2.1, 0, 0)) c1 c2 c4 (w_lt (v := nI need) (sz_l _) (w_lt (v := nI (need - cv.2.1)) (pk_sub (by omega)) ?_))
      refine w_gI (σ := (σ.1, σ.2.1, 0, 0)) c1 c2 c4 (w_c0 ?_)
      unfold hJ8_newLength_cabcc
      have e1 : (if nI (need - cv.2.1) < nI cv.2.1 + (2 : Int32) <<< ((0 : Int32) &&& 31) then nI cv.2.1 + (2 : Int32) <<< ((0 : Int32) &&& 31) else nI (need - cv.2.1)) = nI (if need - cv.2.1 < cv.2.1 + 2 then cv.2.1 + 2 else need - cv.2.1) := by
        rw [sz_l, show (nI cv.2.1 + 2 : Int32) = nI (cv.2.1 + 2) from nI_add _ 2, if_ltN (by omega) (by omega)]
        split <;> rfl
      refine w_lt e1 (w_lt (v := nI nc) (by rw [nI_add, ← n3]) ?_)
      refine w_f (by rw [show (0 : Int32) = nI 0 from rfl, xp_le (by omega) (by omega)]; omega) (w_f (by rw [show (2147483639 : Int32) = nI 2147483639 from rfl, xp_ltI (by omega) (by omega)]; omega) ?_)
      refine w_lt rfl (w_t (by rw [show (2147483647 : Int32) = nI 2147483647 from rfl, ne_eq, xp_eq (by omega) (by omega)]; omega) (w_gI (σ := (σ.1, σ.2.1, 0, 0)) c1 c2 c4 ?_))
      rw [sz_r]
      show xd_gI 15 a 1 (σ.1, σ.2.1, σ.2.2.1, σ.2.2.2) _
      refine w_gI (σ := (σ.1, σ.2.1, σ.2.2.1, σ.2.2.2)) c1 c2 c4 ?_
      rw [sz_l]
      refine w_cc 1 nc hC (by show nc ≤ σ.2.2.2; omega) ?_
      unfold hJ7_copyOf_9075b
      refine w_al (σ := (σ.1, σ.2.1, 1, nc)) v1 v2 rfl (w_t (by rw [ne_eq, xp_eq (by omega) (by omega)]; omega) ?_)
      refine ⟨nI_pos (by omega), by rw [nI_clamp (by omega)]; omega, Nat.le_refl _, by rw [nI_clamp (by omega)]; exact Nat.le_refl _, fun b hb => ?_⟩
      rw [nI_clamp (by omega)]
      have hb' : σ.1 b = none := hb
      have hvb : v ≠ b := fun e => by rw [e, hb'] at v1; exact nomatch v1
      have hab : a ≠ b := fun e => by rw [e, hb'] at c1; exact nomatch c1
      refine w_al (n := cv.2.1) (c := cv) (by show xd_up σ.1 b _ v = some cv; rw [xu_n _ _ hvb]; exact v1) v2 rfl (w_lt (v := nI cv.2.1) (by rw [if_ltN (by omega) (by omega), if_neg (by omega)]) ?_)
      refine ⟨cv, (1, nc, fun _ => 0, fun _ => none), by show xd_up σ.1 b _ v = some cv; rw [xu_n _ _ hvb]; exact v1, v2, xu_s _ _ _, rfl, by decide, by decide, nI_pos (by omega), ?_, ?_, fun i hi => ?_, ?_⟩
      · rw [nI_clamp (by omega)]
        show 0 + cv.2.1 ≤ cv.2.1
        omega
      · rw [nI_clamp (by omega)]
        show 0 + cv.2.1 ≤ nc
        omega
      · rw [nI_clamp (by omega)] at hi
        obtain ⟨b2, q1, q2⟩ := v6 (0 + i) (by omega)
        show xd_fb (cv.2.2.1 (0 + i))
        rw [q2]
        exact (fb_n q1).1
      · rw [nI_clamp (by omega)]
        show xd_nn (some b) _
        refine w_nn (w_pR (c := c) ?_ c2 (hK _ b ?_ ?_))
        · show xd_up (xd_up σ.1 b _) b _ a = some c
          rw [xu_n _ _ hab, xu_n _ _ hab]
          exact c1
        · refine ⟨_, _, ⟨xu_s _ _ _, rfl, by simp [va_up], c4, c5⟩, (xu_n _ _ hab.symm).trans (xu_s _ _ _), rfl, by omega, n1, by show nc ≤ 2 * need + 16; omega, fun j hj => ?_, fun j b2 hj => ?_⟩
          · show ∃ b2, b2 < 128 ∧ va_cpy cv.2.2.1 (fun _ => 0) 0 0 cv.2.1 j = nI b2
            unfold va_cpy
            split
            · exact v6 _ (by omega)
            · exact ⟨0, by decide, rfl⟩
          · show va_cpy cv.2.2.1 (fun _ => 0) 0 0 cv.2.1 j = nI b2
            have hjl : j < s.length := (List.getElem?_eq_some_iff.mp hj).1
            unfold va_cpy
            rw [if_pos (by omega), show 0 + (j - 0) = j by omega]
            exact v7 j b2 hj
        · refine ⟨fun x x1 x2 x3 => ?_, fun x x3 => ?_, rfl, Or.inr hb'⟩
          · have hxb : x ≠ b := fun e => x3 (by rw [e]; exact hb')
            show xd_up (xd_up (xd_up σ.1 b _) b _) a _ x = σ.1 x
            rw [xu_n _ _ x1, xu_n _ _ hxb, xu_n _ _ hxb]
          · show xd_up (xd_up (xd_up σ.1 b _) b _) a _ x ≠ none
            have hxb : x ≠ b := fun e => x3 (by rw [e]; exact hb')
            by_cases e : x = a
            · rw [e, xu_s]
              simp
            · rw [xu_n _ _ e, xu_n _ _ hxb, xu_n _ _ hxb]
              exact x3
    exact hnc
end
