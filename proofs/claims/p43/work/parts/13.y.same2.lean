-- ===== the law compares all, whole =====
section
variable {σ τ : xd_S} {J : xc_M} {fr : xd_M} {tg : lTg} {i t : Nat} {d : lD} {ta : Nat → Option Nat} {X : lX} {k p : Nat} {N : Nat} {K : xd_K}
theorem x_who {f : Int32 → Prop} {m : Nat} {v1 v2 x : Int32} (h : sQ σ J τ) (hp : p < xr (J 1) 63) (hm : m < 3) (h1 : v1 = nI p) (h2 : v2 = nI m) (hx : x = J 1 (32 + 10 * m + p)) (hf : f x) : xd_xr (fX9_who τ.2.1 v1 v2) f := by
  subst h1 h2 hx
  obtain ⟨a1, a2, J2, a3, a4⟩ := h
  have := c_who a3 (p := p) (m := m) (by rw [a4.1]; exact hp) hm
  rw [a4.1] at this
  exact w_xr this hf
theorem x_whoN {f : Int32 → Prop} {v1 v2 : Int32} (h : sQ σ J τ) (h1 : v1 = nI (xr (J 1) 63)) (hf : f (-1)) : xd_xr (fX9_who τ.2.1 v1 v2) f := by
  subst h1
  obtain ⟨a1, a2, J2, a3, a4⟩ := h
  have := c_whoN a3 v2
  rw [a4.1] at this
  exact w_xr this hf
theorem x_book {f : Int32 → Prop} {j q : Nat} {v1 v2 x : Int32} (h : sQ σ J τ) (hj : j < xr (J 1) 2) (hq : q < 4) (h1 : v1 = nI j) (h2 : v2 = nI q) (hx : x = J 1 (748 + 4 * j + q)) (hf : f x) : xd_xr (fX9_book τ.2.1 v1 v2) f := by
  subst h1 h2 hx
  obtain ⟨a1, a2, J2, a3, a4⟩ := h
  have := c_book a3 (j := j) (q := q) (by rw [a4.1]; exact hj) hq
  rw [a4.1] at this
  exact w_xr this hf
theorem x_bookN {f : Int32 → Prop} {v1 v2 : Int32} (h : sQ σ J τ) (h1 : v1 = nI (xr (J 1) 2)) (hf : f (-2)) : xd_xr (fX9_book τ.2.1 v1 v2) f := by
  subst h1
  obtain ⟨a1, a2, J2, a3, a4⟩ := h
  have := c_bookN a3 v2
  rw [a4.1] at this
  exact w_xr this hf
theorem lkV_c {J J2 : xc_M} (h : smJ J J2) (m : Nat) : lkV J2 m = lkV J m := by
  unfold lkV
  rw [h.1, h.2.2]
theorem x_look {f : Int32 → Prop} {m : Nat} {v1 x : Int32} (h : sQ σ J τ) (hN : 1000 ≤ N) (hm : m < 15) (h1 : v1 = nI m) (hx : x = lkV J m) (hf : f x) : xd_xr (fX9_look N τ.2.1 v1) f := by
  subst h1 hx
  obtain ⟨a1, a2, J2, a3, a4⟩ := h
  have := c_look a3 hN hm
  rw [lkV_c a4] at this
  exact w_xr this hf
theorem same_306 (hT : tG σ fr tg i t d ta X) (hw : XW X (J 1)) (hi : iW (J 1)) (hwk : wkT fr (ta 10) (J 1)) (hnd : ndT fr (ta 11) (J 1)) (hmn : mnT fr (ta 14) (J 1)) (hN : 1000 ≤ N) {b : Nat} {cb : xd_C} (hb : σ.1 b = some cb) (hb0 : cb.1 = 0) (hb8 : cb.2.1 = 8) (hbv : ∀ m, m < 8 → cb.2.2.1 m = lkV J m) (h : sQ σ J τ) (hK : ∀ ρ, sQ σ J ρ → K 1 none ρ) : hlX10_isSame_306 N K N t b (nI 0) τ := by
  have hW := hi.nWB
  have hP := hi.nPB
  have hB := hi.bookB
  refine w_loop (fun fu j (τ : xd_S) => hlX10_isSame_306 N K fu t b (nI j) τ) 8 (fun _ τ => sQ σ J τ) (fun fu τ hh => ?_) (fun fu j τ hj hh hn => ?_) N 0 τ (by omega) (by omega) h
  · show hbX10_isSame_306 N K (hlX10_isSame_306 N K fu) t b (nI 8) τ
    have g0 := hh.G hT
    refine w_t (by decide) (t_gI g0.T (by omega) ?_)
    rw [hw.nw]
    refine x_ofN hh hN hi.nW (fun ρ r => ?_)
    have g1 := r.G hT
    refine w_f (by decide) (t_gI g1.T (by omega) ?_)
    rw [hw.np]
    refine x_whoN r hi.nP (w_f (by decide) (t_gI g1.T (by omega) ?_))
    rw [hw.nl]
    refine x_bookN r hi.book (w_f (by decide) (x_look r hN (m := 9) (by omega) rfl rfl ?_))
    obtain ⟨b1, c1, k1, k2, k3, k4, -⟩ := hwk
    obtain ⟨b2, c2, l1, l2, l3, l4⟩ := hnd
    refine t_gT g1.T (by omega) k1 (w_al (g1.2.1.1 b1 c1 k2).1 k3 k4 ?_)
    refine w_f (fun z => z hi.nK) (x_look r hN (m := 10) (by omega) rfl rfl (t_gT g1.T (by omega) l1 (w_al (g1.2.1.1 b2 c2 l2).1 l3 l4 ?_)))
    refine w_f (fun z => z hi.nN) (x_look r hN (m := 13) (by omega) rfl rfl ?_)
    refine t_is g1.T (w_c0 (w_living (σ := (ρ.1, ρ.2.1, 0, 0)) g1.T hw hi (by omega) ?_))
    have g2 : tG (ρ.1, ρ.2.1, ρ.2.2.1, ρ.2.2.2) fr tg i t d ta X := g1.b
    have hlv := sLv_lt (J 1)
    have hpW := hi.pW
    refine t_is g2.T (w_c0 (w_said (σ := (ρ.1, ρ.2.1, 0, 0)) g1.b hi hmn (by omega) (by omega) ?_))
    exact w_f (fun z => z rfl) (w_rb (Or.inr rfl) (hK _ (r.b rfl)))
  · show hbX10_isSame_306 N K (hlX10_isSame_306 N K fu) t b (nI j) τ
    refine w_f (by show ¬ nI 8 ≤ nI j; rw [xp_le (by omega) (by omega)]; omega) (x_look hh hN (m := j) (by omega) rfl rfl ?_)
    refine w_aI (by rw [hh.1]; exact hb) hb0 rfl ⟨by omega, by omega⟩ (hbv j hj) (w_t rfl ?_)
    show hlX10_isSame_306 N K fu t b (nI j + 1) τ
    rw [show (nI j + 1) = nI (j + 1) from (nI_succ j).symm]
    exact hn τ hh
theorem same_204 (hT : tG σ fr tg i t d ta X) (hw : XW X (J 1)) (hi : iW (J 1)) (hN : 1000 ≤ N) (hk : k < xr (J 1) 2) {k2 : Nat → Int32 → xd_S → Prop} (hK : ∀ ρ, sQ σ J ρ → k2 t (nI (k + 1)) ρ) (h : sQ σ J τ) : hlX10_isSame_204 N K k2 N t (nI k) (nI 0) τ := by
  have hB := hi.bookB
  refine w_loop (fun fu j (τ : xd_S) => hlX10_isSame_204 N K k2 fu t (nI k) (nI j) τ) 4 (fun _ τ => sQ σ J τ) (fun fu τ hh => ?_) (fun fu j τ hj hh hn => ?_) N 0 τ (by omega) (by omega) h
  · show hbX10_isSame_204 N K k2 (hlX10_isSame_204 N K k2 fu) t (nI k) (nI 4) τ
    refine w_t (by decide) ?_
    show k2 t (nI k + 1) τ
    rw [show (nI k + 1) = nI (k + 1) from (nI_succ k).symm]
    exact hK τ hh
  · show hbX10_isSame_204 N K k2 (hlX10_isSame_204 N K k2 fu) t (nI k) (nI j) τ
    have g1 := hh.G hT
    obtain ⟨cl, l1, l2, l3, l4, l5⟩ := g1.T.2.2.2.1
    obtain ⟨r, r1, r2⟩ := l4 k (by rw [hw.nL]; exact hk)
    refine w_f (by show ¬ nI 4 ≤ nI j; rw [xp_le (by omega) (by omega)]; omega) (x_book hh hk hj rfl rfl rfl (t_g12 g1.T (w_aR l1 l2 rfl ⟨by omega, by omega⟩ r1 (aI_f g1.2.1 r2 rfl ⟨hj, by decide⟩ ?_))))
    rw [hw.line hk hj]
    refine w_t rfl ?_
    show hlX10_isSame_204 N K k2 fu t (nI k) (nI j + 1) τ
    rw [show (nI j + 1) = nI (j + 1) from (nI_succ j).symm]
    exact hn τ hh
theorem same_156 (hT : tG σ fr tg i t d ta X) (hw : XW X (J 1)) (hi : iW (J 1)) (hN : 1000 ≤ N) (hk : k < xr (J 1) 63) {k2 : Nat → Int32 → xd_S → Prop} (hK : ∀ ρ, sQ σ J ρ → k2 t (nI (k + 1)) ρ) (h : sQ σ J τ) : hlX10_isSame_156 N K k2 N t (nI k) (nI 0) τ := by
  have hP := hi.nPB
  refine w_loop (fun fu j (τ : xd_S) => hlX10_isSame_156 N K k2 fu t (nI k) (nI j) τ) 3 (fun _ τ => sQ σ J τ) (fun fu τ hh => ?_) (fun fu j τ hj hh hn => ?_) N 0 τ (by omega) (by omega) h
  · show hbX10_isSame_156 N K k2 (hlX10_isSame_156 N K k2 fu) t (nI k) (nI 3) τ
    refine w_t (by decide) ?_
    show k2 t (nI k + 1) τ
    rw [show (nI k + 1) = nI (k + 1) from (nI_succ k).symm]
    exact hK τ hh
  · show hbX10_isSame_156 N K k2 (hlX10_isSame_156 N K k2 fu) t (nI k) (nI j) τ
    have g1 := hh.G hT
    have hv : X.2.2.1 k j = J 1 (32 + 10 * j + k) := by
      obtain ⟨a1, a2, a3⟩ := hw.mns k hk
      have hc : j = 0 ∨ j = 1 ∨ j = 2 := by omega
      rcases hc with rfl | rfl | rfl
      · exact a1
      · exact a2
      · exact a3
    refine w_f (by show ¬ nI 3 ≤ nI j; rw [xp_le (by omega) (by omega)]; omega) (x_who hh hk hj rfl rfl rfl (t_g9 g1.T (t_aM g1.T rfl ⟨by rw [hw.nP]; exact hk, by rw [hw.nP]; omega⟩ (t_mI g1.T (by rw [hw.nP]; exact hk) (j := j) rfl hj ?_))))
    rw [hv]
    refine w_t rfl ?_
    show hlX10_isSame_156 N K k2 fu t (nI k) (nI j + 1) τ
    rw [show (nI j + 1) = nI (j + 1) from (nI_succ j).symm]
    exact hn τ hh
end
