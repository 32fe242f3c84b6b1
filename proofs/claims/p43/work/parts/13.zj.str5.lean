-- ===== a new builder; a string is appended; what is made apart =====
section
variable {σ τ ρ : xd_S} {M M2 : xd_M} {a v v' v'' b w : Nat} {s t : List Nat} {L N : Nat} {K : xd_K}
theorem w_newsb (hb : σ.1 a = some (15, 0, fun _ => 0, fun _ => none)) (hC : 1 ≤ σ.2.2.1) (hS : 16 ≤ σ.2.2.2) (hK : ∀ τ v, sbT τ.1 a v [] ([] : List Nat).length → σ.1 v = none → (∀ x, x ≠ a → σ.1 x ≠ none → τ.1 x = σ.1 x) → τ.2.1 = σ.2.1 → K 0 none τ) : hJ4_init_da8c8 a σ K := by
  unfold hJ4_init_da8c8
  refine w_cc 1 16 hC hS ?_
  unfold hJ5_init_d00df
  refine w_f (by decide) (w_na (n := 16) rfl (by omega) (Nat.le_refl _) (Nat.le_refl _) (fun v hv => ?_))
  have hv0 : σ.1 v = none := hv
  have hva : a ≠ v := fun e => by rw [e, hv0] at hb; exact nomatch hb
  refine w_pR (c := (15, 0, fun _ => 0, fun _ => none)) ((xu_n _ _ hva).trans hb) rfl ⟨Or.inl rfl, w_pI (c := (15, 0, fun _ => 0, va_up (fun _ => none) 0 (some v))) (xu_s _ _ _) rfl rfl ?_⟩
  refine hK _ v ⟨(15, 0, upd (fun _ => 0) 1 0, va_up (fun _ => none) 0 (some v)), (1, 16, fun _ => 0, fun _ => none), ⟨xu_s _ _ _, rfl, rfl, rfl, rfl⟩, ?_, rfl, Nat.le_refl _, by decide, by decide, fun j _ => ⟨0, by decide, rfl⟩, fun j y hj => ?_⟩ hv0 (fun x x1 x2 => ?_) rfl
  · exact (xu_n _ _ hva.symm).trans ((xu_n _ _ hva.symm).trans (xu_s _ _ _))
  · simp at hj
  · exact (xu_n _ _ x1).trans ((xu_n _ _ x1).trans (xu_n _ _ (fun e => x2 (by rw [e]; exact hv0))))
theorem w_coder (h : stT M b w t) (hM : σ.1 = M) {f : Int32 → Option Nat → xd_S → Prop} (hK : f 0 none σ) : hJ0_coder_7d493_d b σ f := by
  subst hM
  obtain ⟨c, cw, h1, h2, h3, h4, -⟩ := h
  unfold hJ0_coder_7d493_d
  exact w_f (by decide) (w_gI h1 h2 h4 (w_rb (Or.inl rfl) hK))
theorem w_slen (h : stT M b w t) (hM : σ.1 = M) (hK : K (nI t.length) none σ) : hJ0_length_8abf5_d b σ K := by
  subst hM
  obtain ⟨c, cw, h1, h2, h3, h4, h5, h6, h7, -⟩ := id h
  unfold hJ0_length_8abf5_d
  refine w_gR h1 h2 h3 (w_al h5 h6 h7 (w_is h1 h2 (w_c0 ?_)))
  refine w_coder h (by rfl) ?_
  show K (nI t.length >>> ((0 : Int32) &&& 31)) none σ
  rw [sz_r]
  exact hK
/-- a string is appended -/
theorem w_apps (ht : stT σ.1 b w t) (hwv : w ≠ v) (h : sbT σ.1 a v s s.length) (hm : s.length + t.length < 3900) {Q : Nat} (hC : 1 ≤ σ.2.2.1) (hS : Q ≤ σ.2.2.2) (hQ : 2 * (s.length + t.length) ≤ Q) (hK : ∀ τ v', sbT τ.1 a v' (s ++ t) (s ++ t).length → exB σ a v τ v' → K 0 (some a) τ) : hJ4_append_15ec4_d a b σ K := by
  obtain ⟨c, cv, ⟨c1, c2, c3, c4, c5⟩, v1, v2, -⟩ := id h
  obtain ⟨ct, cw, t1, t2, t3, t4, t5, t6, t7, t8, t9⟩ := id ht
  have hba : b ≠ a := fun e => by
    rw [e, c1] at t1
    have := Option.some.inj t1
    rw [← this] at t2
    omega
  have hwa : w ≠ a := fun e => by
    rw [e, c1] at t5
    have := Option.some.inj t5
    rw [← this] at t6
    omega
  have hbv : b ≠ v := fun e => by
    rw [e, v1] at t1
    have := Option.some.inj t1
    rw [← this] at t2
    omega
  unfold hJ4_append_15ec4_d
  refine w_is c1 c2 (w_cc 1 Q hC hS ?_)
  unfold hJ5_append_cf1ce_d
  refine w_is t1 t2 (w_c0 ?_)
  refine w_slen ht (by rfl) ?_
  refine w_lt rfl (w_gI c1 c2 c5 (w_is c1 c2 (w_cc 1 Q (Nat.le_refl _) (Nat.le_refl _) (w_ens (σ := (σ.1, σ.2.1, 1, Q)) h (by omega) (Nat.le_refl _) (by show _ ≤ Q; omega) (fun τ v' h2 x2 => ?_)))))
  have hne := h2.ne
  obtain ⟨c', cv', ⟨d1, d2, d3, d4, d5⟩, u1, u2, u3, u4, u5, u6, u7⟩ := id h2
  have kb : τ.1 b = some ct := (x2.1 b hba hbv (nsome t1)).trans t1
  have kw : τ.1 w = some cw := (x2.1 w hwa hwv (nsome t5)).trans t5
  have hT : stT τ.1 b w t := ⟨ct, cw, kb, t2, t3, t4, kw, t6, t7, t8, t9⟩
  have hwv' : w ≠ v' := fun e => by
    rcases x2.2.2.2 with q | q
    · exact hwv (e.trans q)
    · have q' : σ.1 v' = none := q
      rw [← e, t5] at q'
      exact nomatch q'
  refine w_gI (c := c') d1 d2 d5 (w_is d1 d2 (w_c0 ?_))
  unfold hJ5_putStringAt_47b60_d
  refine w_is d1 d2 (w_c0 ?_)
  unfold hJ5_inflateIfNeededFor_a7421_d
  refine w_f (by decide) (w_gI d1 d2 d4 (w_is kb t2 (w_c0 ?_)))
  refine w_coder hT (by rfl) ?_
  refine w_t rfl ?_
  refine w_gR (c := c') d1 d2 d3 (w_gI (c := c') d1 d2 d4 (w_is (c := ct) kb t2 (w_c0 ?_)))
  unfold hJ0_getBytes_840e7_d
  refine w_is (c := ct) kb t2 (w_c0 ?_)
  refine w_coder hT (by rfl) ?_
  refine w_f (fun z => z rfl) ?_
  refine w_gR (c := ct) kb t2 t3 (w_gR (c := ct) kb t2 t3 (w_al (c := cw) kw t6 t7 ?_))
  refine w_cp (c := cw) (d := cv') (p := 0) (q := s.length) (n := t.length) kw t6 u1 u2 rfl (sz_l _) rfl (by omega) u4 ⟨by omega, by omega⟩ (fun i hi => t8 (0 + i) (by omega)) ?_
  refine w_gI (c := c') ((xu_n _ _ hne).trans d1) d2 d5 (w_pI (c := c') ((xu_n _ _ hne).trans d1) d2 (nI_add _ _) ?_)
  show xd_nn (some a) _
  refine w_nn (hK _ v' (sb_app h2 d1 u1 (g := va_cpy cw.2.2.1 cv'.2.2.1 0 s.length t.length) ?_ (xu_s _ _ _) (fun j hj => ?_) (fun i x hi => ?_) (fun j hj => ?_)) ?_)
  · exact (xu_n _ _ hne.symm).trans (xu_s _ _ _)
  · unfold va_cpy
    rw [if_neg (by omega)]
  · have hil : i < t.length := (List.getElem?_eq_some_iff.mp hi).1
    unfold va_cpy
    rw [if_pos (by omega), show 0 + (s.length + i - s.length) = i by omega]
    exact t9 i x hi
  · unfold va_cpy
    split
    · rename_i hj2
      exact t8 _ (by omega)
    · exact u6 j hj
  · exact (x2.b0.trans (exB.two hne)).b
/-- letters of a string, one by one -/
theorem w_charAt {i y : Nat} (h : stT M b w t) (hM : σ.1 = M) (hi : t[i]? = some y) (hy : y < 128) (hl : t.length < 4000) (hK : K (nI y) none σ) : hJ0_charAt_5068e b (nI i) σ K := by
  subst hM
  obtain ⟨c, cw, h1, h2, h3, h4, h5, h6, h7, h8, h9⟩ := id h
  have hil : i < t.length := (List.getElem?_eq_some_iff.mp hi).1
  obtain ⟨e1, e2⟩ := s_c7 y hy
  unfold hJ0_charAt_5068e
  refine w_is h1 h2 (w_c0 ?_)
  unfold hJ0_isLatin1_aae02
  refine w_f (by decide) (w_gI h1 h2 h4 (w_f (fun z => z rfl) (w_rb (Or.inr rfl) (w_f (by decide) ?_))))
  refine w_gR (c := c) h1 h2 h3 (w_c0 ?_)
  unfold hJ1_charAt_3b067
  refine w_al (c := cw) h5 h6 h7 (w_c0 ?_)
  unfold hJ0_checkIndex_df160
  refine w_c0 ?_
  unfold hJ3_checkIndex_8e157
  refine w_f (nI_pos (by omega)) (w_t (by rw [xp_ltI (by omega) (by omega)]; exact hil) ?_)
  refine w_aI (c := cw) (n := i) h5 h6 rfl ⟨by omega, by omega⟩ (h9 i y hi) ?_
  rw [e1]
  exact ⟨e2, hK⟩
end
