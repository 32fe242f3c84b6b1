-- ===== a drawn talk is told =====
section
variable {σ τ ρ σ0 τ0 : xd_S} {fr fr2 fr3 : xd_M} {tg tg2 : lTg} {i t : Nat} {d : lD} {ta ta2 : Nat → Option Nat} {X X2 : lX} {N M : Nat} {K : xd_K} {n k j : Nat} {J : xc_M} {w w2 : Nat → Int32} {Sc : Nat × Nat × (Nat → Int32)}
theorem w_cell {v : Int32} (hv : v = nI k) (hk : k < 1000) (hSc : Sc.2.1 < 2 ^ 31) (hK : ∀ y, K y none σ) : hL_cell Sc v σ K := by
  unfold hL_cell
  by_cases h : Sc.2.1 ≤ k
  · exact w_t (by rw [hv, xp_le hSc (by omega)]; exact h) (hK _)
  · exact w_f (by rw [hv, xp_le hSc (by omega)]; exact h) ⟨by rw [hv]; exact vpn (by omega) hSc, hK _⟩
theorem tG.st {s : xc_M × Nat × Nat} (h : tG σ fr tg i t d ta X) : tG (σ.1, s) fr tg i t d ta X := h
theorem upX_s {j : Nat} {v : Int32} : ((upd X.1 j v, X.2) : lX).1 j = v := upd_s _ _ _
theorem tgu_b {r m : Nat} {v : Nat × Nat × Nat} (h : ∀ a, (tg a).1 ≤ m) (hv : v.1 ≤ m) : ∀ a, (tgu tg r v a).1 ≤ m := fun a => by
  by_cases z : a = r
  · rw [z, tgu_s]
    exact hv
  · rw [tgu_n _ _ z]
    exact h a
/-- the talk and what the class holds are the same, on day 0 -/
def TS (τ : xd_S) (fr : xd_M) (tg : lTg) (i t : Nat) (d : lD) (ta : Nat → Option Nat) (X : lX) (J : xc_M) : Prop := tG τ fr tg i t d ta X ∧ XW X (J 1) ∧ RR τ.2.1 J ∧ J 0 18 = nI 0 ∧ lawR fr (ta 15) (J 1) ∧ xr (J 1) 0 = 0 ∧ (∃ e, ta 13 = some e) ∧ ∀ a, (tg a).1 ≤ max i 2
theorem t_end {v4 : Int32} {k766 : Int32 → Nat → Int32 → Int32 → xd_S → Prop} (hN : 1000 ≤ N) (hM : 60 ≤ M) (hSc : Sc.2.1 < 2 ^ 31) (h : TS σ fr tg i t d ta X J) (hC : 2000 ≤ σ.2.2.1) (hS : 250000 ≤ σ.2.2.2) (hK : ∀ τ fr2 ta2 X2 J2, TS τ fr2 tg i t d ta2 X2 J2 → mnT fr2 (ta2 14) (J2 1) → ndT fr2 (ta2 11) (J2 1) → wkT fr2 (ta2 10) (J2 1) → J2 0 4 = nI 0 → K 0 (some t) τ) : hbL_talk_766 N M Sc K k766 0 t v4 8 σ := by
  obtain ⟨hG, hw, hRR, h18, hl, h0, ⟨e13, h13⟩, hbt⟩ := h
  have hi := hRR.1.i
  unfold hbL_talk_766
  refine w_t (by decide) (w_c0 (w_between _ (lo := 0) (hi := 700) (by omega) (by omega) (by decide) (by decide) (fun r _ hr => ?_)))
  obtain ⟨b, hb, eb⟩ := and_1 (v4 >>> (8 &&& 31))
  have hbr : b * r < 1001 := by
    have : b * r ≤ 1 * 700 := Nat.mul_le_mul (by omega) hr
    omega
  refine g_pI (v2 := nI (b * r)) hG.st (by rw [eb, pk_mul]) (fun τ1 a1 a2 a3 => ?_)
  refine t_gI a3.T (by omega) ?_
  obtain ⟨I2, J2, s1, s2, s3, s4, s5⟩ := c_set_c hRR 0 hbr
  have aI : τ1.2.1 = σ.2.1 := by rw [a1]
  have aC : τ1.2.2 = σ.2.2 := by rw [a1]
  refine w_xc (v := 1) (J := I2) (by rw [aI, upX_s]; exact s1) (w_f (by decide) (w_c0 (w_cell (k := 6) (by decide) (by omega) hSc (fun y6 => ?_))))
  have u0 : ∀ j, j ≠ 64 → J2 1 j = J 1 j := fun j hj => by rw [s3]; exact upd_n _ _ hj
  have hw2 : XW (upd X.1 2 (nI (b * r)), X.2) (J2 1) := by rw [s3]; exact hw.num hi (Or.inr (Or.inr ⟨Eq.refl _, Eq.refl _⟩))
  have hd2 : xr (J2 1) 0 = 0 := by rw [xr_eq (u0 0 (by omega))]; exact h0
  refine w_cc 1300 160000 (by show 1300 ≤ τ1.2.2.1; rw [aC]; omega) (by show 160000 ≤ τ1.2.2.2; rw [aC]; omega) (w_meanings (σ := (τ1.1, I2, 1300, 160000)) (J := J2) hN hM a3 hw2 s2 (s5.trans h18) (by omega) (Nat.le_refl _) (Nat.le_refl _) (fun τ3 fr3 b14 b11 J3 b1 b2 b3 b4 b5 b6 b7 b8 b9 => ?_))
  refine w_f (by decide) (w_c0 (w_cell (k := 7) (by decide) (by omega) hSc (fun y7 => ?_)))
  have hw3 : XW (upd X.1 2 (nI (b * r)), X.2) (J3 1) := hw2.eqv s2.1.i (fun j hj => b4 j (by omega) (by omega) (by omega))
  have hd3 : xr (J3 1) 0 = 0 := by rw [xr_eq (b4 0 (by omega) (by omega) (by omega))]; exact hd2
  refine w_cc 400 40000 (by show 400 ≤ τ1.2.2.1 - 1300; rw [aC]; omega) (by show 40000 ≤ τ1.2.2.2 - 160000; rw [aC]; omega) (w_walks (σ := (τ3.1, τ3.2.1, 400, 40000)) (J := J3) hN hM b2 hw3 b3 b7 (by omega) (Nat.le_refl _) (Nat.le_refl _) (fun τ4 fr4 b10 J4 c1 c2 c3 c4 c5 c6 c7 => ?_))
  refine w_t (by decide) (w_c0 (w_cell (k := 8) (by decide) (by omega) hSc (fun y8 => ?_)))
  refine g_pI (v2 := y8) c2.st (Eq.refl _) (fun τ5 d1 d2 d3 => ?_)
  refine t_gI d3.T (by omega) ?_
  obtain ⟨x, I6, J6, f1, f2, f3, f4, f5⟩ := c_state c3 y8
  have dI : τ5.2.1 = τ4.2.1 := by rw [d1]
  refine w_xc (v := x) (J := I6) (by rw [dI, upX_s]; exact f1) ?_
  have u4 : ∀ j, j ≠ 67 → j < 628 ∨ 692 ≤ j → J4 1 j = J3 1 j := c4
  have hw4 : XW (upd X.1 2 (nI (b * r)), X.2) (J4 1) := hw3.eqv b3.1.i (fun j hj => u4 j (by omega) (by omega))
  have u6 : ∀ j, j ≠ 1 → J6 1 j = J4 1 j := fun j hj => by rw [f3]; exact upd_n _ _ hj
  have uu : ∀ j, j = 0 ∨ j = 65 ∨ 748 ≤ j → J6 1 j = J 1 j := fun j hj => by rw [u6 j (by omega), u4 j (by omega) (by omega), b4 j (by omega) (by omega) (by omega), u0 j (by omega)]
  have hf4 : ∀ x c, fr x = some c → fr4 x = some c := fun x c hc => c1.2.2 x c (b1.2.2 x c hc)
  refine hK _ fr4 _ _ J6 ⟨d3, ?_, f2, f5.trans c6, ?_, ?_, ⟨e13, ?_⟩, hbt⟩ ?_ ?_ ?_ f4
  · rw [f3]
    exact hw4.num c3.1.i (Or.inl ⟨Eq.refl _, Eq.refl _⟩)
  · exact hl.c hf4 (uu 65 (by omega)) (fun j hj => uu j (by omega))
  · rw [xr_eq (uu 0 (by omega))]
    exact h0
  · exact h13
  · exact b5.c b3.1.i c1.2.2 (fun j hj => by rw [u6 j (by omega), u4 j (by omega) (by omega)])
  · exact b6.c c1.2.2 (by rw [u6 68 (by omega), u4 68 (by omega) (by omega)])
  · exact c5.off c3.1.i (fun _ _ q => q) (fun j hj => u6 j (by omega))
end
