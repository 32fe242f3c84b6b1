-- ===== the law compares all that it may ask =====
def sQ (σ : xd_S) (J : xc_M) (τ : xd_S) : Prop := τ.1 = σ.1 ∧ τ.2.2 = σ.2.2 ∧ ∃ J2, RR τ.2.1 J2 ∧ smJ J J2
section
variable {σ τ : xd_S} {J : xc_M} {fr : xd_M} {tg : lTg} {i t : Nat} {d : lD} {ta : Nat → Option Nat} {X : lX} {k p : Nat} {N : Nat} {K : xd_K}
theorem x_of {f : Int32 → xd_S → Prop} {m : Nat} {v1 v2 x : Int32} (h : sQ σ J τ) (hN : 1000 ≤ N) (hk : k < xr (J 1) 62) (hm : m < 8) (h1 : v1 = nI k) (h2 : v2 = nI m) (hx : x = ofV (J 1) k m) (hf : ∀ ρ, sQ σ J ρ → f x ρ) : xd_xc (fX9_of N v1 v2 τ.2.1) τ f := by
  subst h1 h2 hx
  obtain ⟨a1, a2, J2, a3, a4⟩ := h
  obtain ⟨I3, J3, b1, b2, b3⟩ := c_of a3 hN (k := k) (m := m) (by rw [a4.1]; exact hk) hm
  rw [a4.1] at b1
  exact w_xc b1 (hf _ ⟨a1, a2, J3, b2, a4.trans b3⟩)
theorem x_ofN {f : Int32 → xd_S → Prop} {v1 v2 : Int32} (h : sQ σ J τ) (hN : 1000 ≤ N) (h1 : v1 = nI (xr (J 1) 62)) (hf : ∀ ρ, sQ σ J ρ → f (-1) ρ) : xd_xc (fX9_of N v1 v2 τ.2.1) τ f := by
  obtain ⟨a1, a2, J2, a3, a4⟩ := h
  subst h1
  obtain ⟨I3, J3, b1, b2, b3⟩ := c_ofN a3 hN v2
  rw [a4.1] at b1
  exact w_xc b1 (hf _ ⟨a1, a2, J3, b2, a4.trans b3⟩)
theorem x_asks {f : Int32 → xd_S → Prop} {m pl : Nat} {v1 v2 v3 x : Int32} (h : sQ σ J τ) (hN : 1000 ≤ N) (hk : k < xr (J 1) 62) (hp : pl < 10) (hm : m < 2) (h1 : v1 = nI k) (h2 : v2 = nI pl) (h3 : v3 = nI m) (hx : x = if m = 0 then sHear (J 1) k pl else sTire (J 1) k pl) (hf : ∀ ρ, sQ σ J ρ → f x ρ) : xd_xc (fX9_asks N v1 v2 v3 τ.2.1) τ f := by
  subst h1 h2 h3 hx
  obtain ⟨a1, a2, J2, a3, a4⟩ := h
  obtain ⟨I3, J3, b1, b2, b3⟩ := c_asks a3 hN (k := k) (pl := pl) (m := m) (by rw [a4.1]; exact hk) hp hm
  rw [a4.1] at b1
  exact w_xc b1 (hf _ ⟨a1, a2, J3, b2, a4.trans b3⟩)
theorem sQ.G (h : sQ σ J τ) (hT : tG σ fr tg i t d ta X) : tG τ fr tg i t d ta X := by
  obtain ⟨a, b, c⟩ := hT
  exact ⟨a, by rw [h.1]; exact b, by rw [h.1]; exact c⟩
theorem sQ.b (h : sQ σ J τ) {x y : Nat} (hx : (x, y) = τ.2.2) : sQ σ J (τ.1, τ.2.1, x, y) := ⟨h.1, hx.trans h.2.1, h.2.2⟩
theorem same_90 (hT : tG σ fr tg i t d ta X) (hw : XW X (J 1)) (hi : iW (J 1)) (hl : lawR fr (ta 15) (J 1)) (hN : 1000 ≤ N) (hk : k < xr (J 1) 62) {k2 : Nat → Int32 → xd_S → Prop} (hK : ∀ ρ, sQ σ J ρ → k2 t (nI (k + 1)) ρ) : ∀ fu q τ, 16 ≤ fu + q → q ≤ 13 → sQ σ J τ → hlX10_isSame_90 N K k2 fu t (nI k) (nI q) τ := by
  intro fu
  induction fu with
  | zero => intro q τ h1 h2; omega
  | succ fu ih =>
    intro q τ h1 h2 h3
    show hbX10_isSame_90 N K k2 (hlX10_isSame_90 N K k2 fu) t (nI k) (nI q) τ
    by_cases hq : 10 ≤ q
    · refine w_t (by show nI 10 ≤ nI q; rw [xp_le (by omega) (by omega)]; exact hq) ?_
      show k2 t (nI k + 1) τ
      rw [show (nI k + 1) = nI (k + 1) from (nI_succ k).symm]
      exact hK τ h3
    · refine w_f (by show ¬ nI 10 ≤ nI q; rw [xp_le (by omega) (by omega)]; exact hq) ?_
      refine x_asks h3 hN hk (pl := q) (m := 0) (by omega) (by omega) rfl rfl rfl rfl (fun ρ r => ?_)
      have g1 := r.G hT
      refine t_is g1.T (w_c0 (w_says (σ := (ρ.1, ρ.2.1, 0, 0)) (m := 1) (pl := q) g1.b hw hi hl (by omega) hk (by omega) (by omega) rfl rfl (fun _ => rfl) ?_))
      refine w_f (fun z => z rfl) ?_
      refine x_asks (τ := (ρ.1, ρ.2.1, ρ.2.2.1, ρ.2.2.2)) (r.b rfl) hN hk (pl := q) (m := 1) (by omega) (by omega) rfl rfl rfl rfl (fun ρ2 r2 => ?_)
      have g2 := r2.G hT
      refine t_is g2.T (w_c0 (w_says (σ := (ρ2.1, ρ2.2.1, 0, 0)) (m := 2) (pl := q) g2.b hw hi hl (by omega) hk (by omega) (by omega) rfl rfl (fun z => absurd z (by omega)) ?_))
      refine w_t rfl ?_
      show hlX10_isSame_90 N K k2 fu t (nI k) (nI q + nI 3) (ρ2.1, ρ2.2.1, ρ2.2.2.1, ρ2.2.2.2)
      rw [nI_add]
      exact ih (q + 3) _ (by omega) (by omega) (r2.b rfl)
theorem same_12 (hT : tG σ fr tg i t d ta X) (hw : XW X (J 1)) (hi : iW (J 1)) (hl : lawR fr (ta 15) (J 1)) (hN : 1000 ≤ N) (hk : k < xr (J 1) 62) {k2 : Nat → Int32 → xd_S → Prop} (hK : ∀ ρ, sQ σ J ρ → k2 t (nI (k + 1)) ρ) {τ : xd_S} (h : sQ σ J τ) : hlX10_isSame_12 N K k2 N t (nI k) (nI 0) τ := by
  have hW := hi.nWB
  refine w_loop (fun fu j (τ : xd_S) => hlX10_isSame_12 N K k2 fu t (nI k) (nI j) τ) 5 (fun _ τ => sQ σ J τ) (fun fu τ hh => ?_) (fun fu j τ hj hh hn => ?_) N 0 τ (by omega) (by omega) h
  · show hbX10_isSame_12 N K k2 (hlX10_isSame_12 N K k2 fu) t (nI k) (nI 5) τ
    refine w_t (by decide) (x_of hh hN hk (m := 5) (by omega) rfl rfl rfl (fun ρ r => ?_))
    have g1 := r.G hT
    refine t_is g1.T (w_c0 (w_says (σ := (ρ.1, ρ.2.1, 0, 0)) (m := 0) (pl := 0) g1.b hw hi hl (by omega) hk (by omega) (by omega) rfl rfl (fun z => absurd z (by omega)) ?_))
    refine w_f (fun z => z rfl) (x_of (τ := (ρ.1, ρ.2.1, ρ.2.2.1, ρ.2.2.2)) (r.b rfl) hN hk (m := 6) (by omega) rfl rfl rfl (fun ρ2 r2 => ?_))
    have g2 := r2.G hT
    refine t_is g2.T (w_c0 (w_knows (σ := (ρ2.1, ρ2.2.1, 0, 0)) g2.T hw hi (by omega) (by omega) ?_))
    refine w_f (fun z => z rfl) (x_of (τ := (ρ2.1, ρ2.2.1, ρ2.2.2.1, ρ2.2.2.2)) (r2.b rfl) hN hk (m := 7) (by omega) rfl rfl rfl (fun ρ3 r3 => ?_))
    refine w_t rfl (w_rem (v := nI (k % 3)) (by decide) (by show nI k - nI k / nI 3 * nI 3 = _; rw [pk_rem (by omega) (by omega) (by omega)]) ?_)
    unfold xd_lt
    exact same_90 hT hw hi hl hN hk hK N (k % 3) ρ3 (by omega) (by omega) r3
  · show hbX10_isSame_12 N K k2 (hlX10_isSame_12 N K k2 fu) t (nI k) (nI j) τ
    have go : ∀ x : Int32, x = ofV (J 1) k j → X.2.1 k j = x → hbX10_isSame_12 N K k2 (hlX10_isSame_12 N K k2 fu) t (nI k) (nI j) τ := by
      intro x hx1 hx2
      refine w_f (by show ¬ nI 5 ≤ nI j; rw [xp_le (by omega) (by omega)]; omega) (x_of hh hN hk (m := j) (by omega) rfl rfl hx1 (fun ρ r => ?_))
      have g1 := r.G hT
      refine t_g8 g1.T (t_aW g1.T rfl ⟨by rw [hw.nW]; exact hk, by rw [hw.nW]; omega⟩ (t_wI g1.T (by rw [hw.nW]; exact hk) (j := j) rfl (by omega) ?_))
      rw [hx2]
      refine w_t rfl ?_
      show hlX10_isSame_12 N K k2 fu t (nI k) (nI j + 1) ρ
      rw [show (nI j + 1) = nI (j + 1) from (nI_succ j).symm]
      exact hn ρ r
    obtain ⟨a1, a2, a3, a4, a5⟩ := hw.wds k hk
    have hc : j = 0 ∨ j = 1 ∨ j = 2 ∨ j = 3 ∨ j = 4 := by omega
    rcases hc with rfl | rfl | rfl | rfl | rfl
    · exact go _ rfl a1
    · exact go _ rfl a2
    · exact go _ rfl a3
    · exact go _ rfl a4
    · exact go _ rfl a5
end
