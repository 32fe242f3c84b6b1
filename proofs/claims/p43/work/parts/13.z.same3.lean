-- ===== isSame =====
section
variable {σ τ : xd_S} {J : xc_M} {fr : xd_M} {tg : lTg} {i t : Nat} {d : lD} {ta : Nat → Option Nat} {X : lX} {k p : Nat} {N : Nat} {K : xd_K}
theorem tG.off {ρ : xd_S} (h : tG τ fr tg i t d ta X) {b : Nat} (hb : τ.1 b = none) (hm : ∀ a, a ≠ b → ρ.1 a = τ.1 a) : tG ρ fr tg i t d ta X := by
  obtain ⟨h1, h2, h3⟩ := h
  have hne : ∀ a, τ.1 a ≠ none → a ≠ b := fun a ha e => ha (by rw [e]; exact hb)
  refine ⟨h1, ⟨fun a c ha => ?_, fun a ha => ?_⟩, h3.keep (fun a ha => hm a (hne a (h2.2 a (by rw [ha]; exact h1)))) (fun _ _ q => q)⟩
  · obtain ⟨g1, g2⟩ := h2.1 a c ha
    exact ⟨(hm a (hne a (by rw [g1]; simp))).trans g1, g2⟩
  · have g := h2.2 a ha
    rw [hm a (hne a g)]
    exact g
theorem l_sI {ρ : xd_S} {b n : Nat} {c : xd_C} {x v : Int32} {f : xd_S → Prop} (hc : ρ.1 b = some c) (hk : c.1 = 0) (hx : x = nI n) (hn : n < c.2.1 ∧ c.2.1 < 2 ^ 31) (hf : ∀ ρ2 : xd_S, ρ2.1 b = some (0, c.2.1, upd c.2.2.1 n v, c.2.2.2) → (∀ a, a ≠ b → ρ2.1 a = ρ.1 a) → ρ2.2 = ρ.2 → f ρ2) : xd_sI 0 b x v ρ f :=
  w_sI hc hk hx hn rfl (hf _ (xu_s _ _ _) (fun a ha => xu_n _ _ ha) rfl)
theorem w_same (hT : tG σ fr tg i t d ta X) (hw : XW X (J 1)) (hR : RR σ.2.1 J) (hl : lawR fr (ta 15) (J 1)) (hwk : wkT fr (ta 10) (J 1)) (hnd : ndT fr (ta 11) (J 1)) (hmn : mnT fr (ta 14) (J 1)) (hN : 1000 ≤ N) (hC : 1 ≤ σ.2.2.1) (hS : 8 ≤ σ.2.2.2) (hK : ∀ (ρ : xd_S) J2, (∀ a, σ.1 a ≠ none → ρ.1 a = σ.1 a) → tG ρ fr tg i t d ta X → RR ρ.2.1 J2 → smJ J J2 → K 1 none ρ) : hX10_isSame N t σ K := by
  have hi := hR.1.i
  have hW := hi.nWB
  have hP := hi.nPB
  have hB := hi.bookB
  have h0 : sQ σ J σ := ⟨rfl, rfl, J, hR, smJ.rfl⟩
  -- the lines, and behind them the looks
  have s194 : ∀ τ, sQ σ J τ → hlX10_isSame_194 N K N t (nI 0) τ := by
    intro τ h
    refine w_loop (fun fu j (τ : xd_S) => hlX10_isSame_194 N K fu t (nI j) τ) (xr (J 1) 2) (fun _ τ => sQ σ J τ) (fun fu τ hh => ?_) (fun fu j τ hj hh hn => ?_) N 0 τ (by omega) (by omega) h
    · show hbX10_isSame_194 N K (hlX10_isSame_194 N K fu) t _ τ
      have g0 := hh.G hT
      refine t_gI g0.T (by omega) ?_
      rw [hw.nl, hi.book]
      refine w_t (by rw [xp_le (by omega) (by omega)]; omega) ?_
      have hbd : τ.2.2 = σ.2.2 := hh.2.1
      refine ⟨by decide, by decide, by rw [hbd]; exact hC, by rw [hbd]; exact hS, fun b hb => ?_⟩
      have G : ∀ ρ : xd_S, (∀ a, a ≠ b → ρ.1 a = τ.1 a) → tG ρ fr tg i t d ta X := fun ρ hρ => g0.off hb hρ
      obtain ⟨ρ0, hρ0⟩ : ∃ ρ0 : xd_S, ρ0 = (xd_up τ.1 b (0, (8 : Int32).toNatClampNeg, fun _ => 0, fun _ => none), τ.2.1, τ.2.2.1 - 1, τ.2.2.2 - (8 : Int32).toNatClampNeg) := ⟨_, rfl⟩
      rw [← hρ0]
      have a0 : ∀ a, a ≠ b → ρ0.1 a = τ.1 a := fun a ha => by rw [hρ0]; exact xu_n _ _ ha
      have c0 : ρ0.1 b = some (0, 8, fun _ => 0, fun _ => none) := by rw [hρ0]; exact xu_s _ _ _
      have y0 : ρ0.2.1 = τ.2.1 := by rw [hρ0]
      refine t_gI (G _ a0).T (j := 3) (by omega) (l_sI c0 rfl (n := 0) rfl ⟨by show 0 < 8; decide, by show 8 < 2 ^ 31; decide⟩ (fun ρ1 c1 x1 y1 => ?_))
      have a1 : ∀ a, a ≠ b → ρ1.1 a = τ.1 a := fun a ha => (x1 a ha).trans (a0 a ha)
      refine t_gI (G _ a1).T (j := 4) (by omega) (l_sI c1 rfl (n := 1) rfl ⟨by show 1 < 8; decide, by show 8 < 2 ^ 31; decide⟩ (fun ρ2 c2 x2 y2 => ?_))
      have a2 : ∀ a, a ≠ b → ρ2.1 a = τ.1 a := fun a ha => (x2 a ha).trans (a1 a ha)
      refine t_gI (G _ a2).T (j := 1) (by omega) (l_sI c2 rfl (n := 2) rfl ⟨by show 2 < 8; decide, by show 8 < 2 ^ 31; decide⟩ (fun ρ3 c3 x3 y3 => ?_))
      have a3 : ∀ a, a ≠ b → ρ3.1 a = τ.1 a := fun a ha => (x3 a ha).trans (a2 a ha)
      refine t_gI (G _ a3).T (j := 2) (by omega) (l_sI c3 rfl (n := 3) rfl ⟨by show 3 < 8; decide, by show 8 < 2 ^ 31; decide⟩ (fun ρ4 c4 x4 y4 => ?_))
      have a4 : ∀ a, a ≠ b → ρ4.1 a = τ.1 a := fun a ha => (x4 a ha).trans (a3 a ha)
      refine t_is (G _ a4).T (w_c0 (w_lapsed (σ := (ρ4.1, ρ4.2.1, 0, 0)) (G _ a4).T hw hi (by omega) ?_))
      refine l_sI (ρ := (ρ4.1, ρ4.2.1, ρ4.2.2.1, ρ4.2.2.2)) c4 rfl (n := 4) rfl ⟨by show 4 < 8; decide, by show 8 < 2 ^ 31; decide⟩ (fun ρ5 c5 x5 y5 => ?_)
      have a5 : ∀ a, a ≠ b → ρ5.1 a = τ.1 a := fun a ha => (x5 a ha).trans (a4 a ha)
      refine t_gI (G _ a5).T (j := 5) (by omega) (l_sI c5 rfl (n := 5) rfl ⟨by show 5 < 8; decide, by show 8 < 2 ^ 31; decide⟩ (fun ρ6 c6 x6 y6 => ?_))
      have a6 : ∀ a, a ≠ b → ρ6.1 a = τ.1 a := fun a ha => (x6 a ha).trans (a5 a ha)
      refine t_gI (G _ a6).T (j := 0) (by omega) (l_sI c6 rfl (n := 6) rfl ⟨by show 6 < 8; decide, by show 8 < 2 ^ 31; decide⟩ (fun ρ7 c7 x7 y7 => ?_))
      have a7 : ∀ a, a ≠ b → ρ7.1 a = τ.1 a := fun a ha => (x7 a ha).trans (a6 a ha)
      obtain ⟨bm, cm, m1, m2, m3, m4, -⟩ := id hmn
      refine t_gT (G _ a7).T (by omega) m1 (w_al ((G _ a7).2.1.1 bm cm m2).1 m3 m4 (l_sI c7 rfl (n := 7) rfl ⟨by show 7 < 8; decide, by show 8 < 2 ^ 31; decide⟩ (fun ρ8 c8 x8 y8 => ?_)))
      have a8 : ∀ a, a ≠ b → ρ8.1 a = τ.1 a := fun a ha => (x8 a ha).trans (a7 a ha)
      have yy : ρ8.2.1 = τ.2.1 := by rw [y8, y7, y6, y5]; show ρ4.2.1 = _; rw [y4, y3, y2, y1, y0]
      unfold xd_lt
      obtain ⟨-, -, J2, r1, r2⟩ := id hh
      have hJ1 : J2 1 = J 1 := r2.1
      obtain ⟨F, hF⟩ : ∃ F, F = upd (upd (upd (upd (upd (upd (upd (upd (fun _ => (0 : Int32)) 0 (X.1 3)) 1 (X.1 4)) 2 (X.1 1)) 3 (X.1 2)) 4 (nI (xr (J 1) 3))) 5 (X.1 5)) 6 (X.1 0)) 7 (nI (xr (J 1) 66)) := ⟨_, rfl⟩
      have c8' : ρ8.1 b = some (0, 8, F, fun _ => none) := by rw [hF]; exact c8
      refine same_306 (σ := ρ8) (J := J) (τ := ρ8) (G _ a8) hw hi hwk hnd hmn hN c8' rfl rfl (fun m hm => ?_) ⟨rfl, rfl, J2, by rw [yy]; exact r1, r2⟩ (fun ρ hρ => ?_)
      · show F m = _
        rw [hF]
        have hc : m = 0 ∨ m = 1 ∨ m = 2 ∨ m = 3 ∨ m = 4 ∨ m = 5 ∨ m = 6 ∨ m = 7 := by omega
        rcases hc with rfl | rfl | rfl | rfl | rfl | rfl | rfl | rfl
        · simpa [upd, lkV] using hw.nw
        · simpa [upd, lkV] using hw.np
        · simpa [upd, lkV] using hw.day
        · simpa [upd, lkV] using hw.chat
        · simpa [upd, lkV] using hi.lapsed.symm
        · simpa [upd, lkV] using hw.nl
        · simpa [upd, lkV] using hw.state
        · simpa [upd, lkV] using hi.nM.symm
      · obtain ⟨q1, q2, J3, q3, q4⟩ := id hρ
        refine hK ρ J3 (fun a ha => ?_) (hρ.G (G _ a8)) q3 q4
        have hab : a ≠ b := fun e => ha (by rw [e, ← hh.1]; exact hb)
        rw [q1, a8 a hab, hh.1]
    · show hbX10_isSame_194 N K (hlX10_isSame_194 N K fu) t (nI j) τ
      have g0 := hh.G hT
      refine t_gI g0.T (by omega) ?_
      rw [hw.nl, hi.book]
      refine w_f (by rw [xp_le (by omega) (by omega)]; omega) ?_
      unfold xd_lt
      exact same_204 hT hw hi hN hj hn hh
  have s146 : ∀ τ, sQ σ J τ → hlX10_isSame_146 N K N t (nI 0) τ := by
    intro τ h
    refine w_loop (fun fu j (τ : xd_S) => hlX10_isSame_146 N K fu t (nI j) τ) (xr (J 1) 63) (fun _ τ => sQ σ J τ) (fun fu τ hh => ?_) (fun fu j τ hj hh hn => ?_) N 0 τ (by omega) (by omega) h
    · show hbX10_isSame_146 N K (hlX10_isSame_146 N K fu) t _ τ
      have g0 := hh.G hT
      refine t_gI g0.T (by omega) ?_
      rw [hw.np, hi.nP]
      exact w_t (by rw [xp_le (by omega) (by omega)]; omega) (s194 τ hh)
    · show hbX10_isSame_146 N K (hlX10_isSame_146 N K fu) t (nI j) τ
      have g0 := hh.G hT
      refine t_gI g0.T (by omega) ?_
      rw [hw.np, hi.nP]
      refine w_f (by rw [xp_le (by omega) (by omega)]; omega) ?_
      unfold xd_lt
      exact same_156 hT hw hi hN hj hn hh
  unfold hX10_isSame
  unfold xd_lt
  refine w_loop (fun fu j (τ : xd_S) => hlX10_isSame_2 N K fu t (nI j) τ) (xr (J 1) 62) (fun _ τ => sQ σ J τ) (fun fu τ hh => ?_) (fun fu j τ hj hh hn => ?_) N 0 σ (by omega) (by omega) h0
  · show hbX10_isSame_2 N K (hlX10_isSame_2 N K fu) t _ τ
    have g0 := hh.G hT
    refine t_gI g0.T (by omega) ?_
    rw [hw.nw, hi.nW]
    exact w_t (by rw [xp_le (by omega) (by omega)]; omega) (s146 τ hh)
  · show hbX10_isSame_2 N K (hlX10_isSame_2 N K fu) t (nI j) τ
    have g0 := hh.G hT
    refine t_gI g0.T (by omega) ?_
    rw [hw.nw, hi.nW]
    refine w_f (by rw [xp_le (by omega) (by omega)]; omega) ?_
    unfold xd_lt
    exact same_12 hT hw hi hl hN hj hn hh
end
