-- ===== the law's loop =====
/-- the talk is what the class holds -/
def SAM (σ : xd_S) (fr : xd_M) (tg : lTg) (i t : Nat) (d : lD) (ta : Nat → Option Nat) (X : lX) (J : xc_M) : Prop := tG σ fr tg i t d ta X ∧ XW X (J 1) ∧ RR σ.2.1 J ∧ J 0 18 = nI 0 ∧ lawR fr (ta 15) (J 1) ∧ mnT fr (ta 14) (J 1) ∧ ndT fr (ta 11) (J 1) ∧ wkT fr (ta 10) (J 1)
section
variable {σ τ ρ σ0 τ0 : xd_S} {fr fr2 fr3 : xd_M} {tg tg2 : lTg} {i t : Nat} {d : lD} {ta ta2 : Nat → Option Nat} {X X2 : lX} {N M : Nat} {K : xd_K} {n k j e p C S r m q : Nat} {J : xc_M} {w w2 : Nat → Int32} {Sc : Nat × Nat × (Nat → Int32)} {ce c8 c : xd_C} {V : Nat → Int32}
theorem w_rl1 (h : K 1 none σ) : xd_rl 1 K σ := ⟨Eq.refl _, h⟩
/-- the last refusals, and the same once more -/
theorem law_end {a3 : Nat} {v4 : Int32} {k41 : Nat → Nat → Int32 → Int32 → xd_S → Prop} (hN : 1000 ≤ N) (h : SAM σ fr tg i t d ta X J) (hC : 1 ≤ σ.2.2.1) (hS : 8 ≤ σ.2.2.2) (hK : ∀ τ, K 1 none τ) : hbL_law_41 N M Sc K k41 t a3 v4 20 σ := by
  obtain ⟨hG, hw, hRR, h18, hl, hm, hd, hk⟩ := h
  unfold hbL_law_41
  obtain ⟨I1, a1, b1⟩ := c_days0 hRR hN 0 (Or.inl (by decide))
  obtain ⟨I2, a2, b2⟩ := c_days0 b1 hN 61 (Or.inr (by decide))
  obtain ⟨I3, a3', b3⟩ := c_word0 b2 0 (Or.inl (by decide))
  obtain ⟨I4, a4, b4⟩ := c_word0 b3 21 (Or.inr (by decide))
  obtain ⟨I5, a5, b5⟩ := c_person0 b4 10 (Or.inr (by decide))
  obtain ⟨I6, a6, b6⟩ := c_set_c0 b5 0 (m := 1001) (by omega) (by omega)
  have hi := hRR.1.i
  have hWB := hi.nWB
  have e3 : X.1 3 = nI (xr (J 1) 62) := hw.nw.trans hi.nW
  obtain ⟨I7, a7, b7⟩ := c_set_w0 b6 0 (k := xr (J 1) 62) (by omega) (by omega)
  obtain ⟨I8, a8, b8⟩ := c_kin0 b7 0 0 1 (Or.inl (Eq.refl _))
  obtain ⟨I9, a9, b9⟩ := c_miles0 b8 0 0 1 (Or.inl (Eq.refl _))
  obtain ⟨I10, a10, b10⟩ := c_miles0 b9 0 10 1 (Or.inr (Or.inl (Or.inr (by decide))))
  obtain ⟨I11, a11, b11⟩ := c_miles0 b10 0 1 100 (Or.inr (Or.inr (Or.inr (by decide))))
  obtain ⟨I12, a12, b12⟩ := c_sayN b11 hN (-1) 0 (by decide)
  obtain ⟨I13, a13, b13⟩ := c_moveN b12 hN (-1) 0 (by decide)
  obtain ⟨I14, a14, b14⟩ := c_teachN b13 hN 0 (-1) (by decide)
  obtain ⟨I15, a15, b15⟩ := c_carveN b14 hN (-1) (by decide)
  obtain ⟨I16, a16, b16⟩ := c_asksN b15 hN 0 1
  have a17 := c_book4 b16 0
  have a18 : fX9_look N I16 14 = some (-1) := c_look b16 hN (m := 14) (by omega)
  refine w_t (by decide) (w_xc a1 (w_f (fun z => z (Eq.refl _)) (w_xc a2 (w_f (fun z => z (Eq.refl _)) (w_xc a3' (w_f (fun z => z (Eq.refl _)) (w_xc a4 (w_f (fun z => z (Eq.refl _)) (w_xc a5 (w_f (fun z => z (Eq.refl _)) (w_xc a6 (w_f (fun z => z (Eq.refl _)) ?_))))))))))))
  refine t_gI hG.st.T (j := 3) (by omega) ?_
  rw [e3]
  refine w_xc a7 (w_f (fun z => z (Eq.refl _)) (w_xc a8 (w_f (fun z => z (Eq.refl _)) (w_xc a9 (w_f (fun z => z (Eq.refl _)) (w_xc a10 (w_f (fun z => z (Eq.refl _)) (w_xc a11 (w_f (fun z => z (Eq.refl _)) ?_)))))))))
  refine w_xc a12 (w_f (fun z => z (Eq.refl _)) (w_xc a13 (w_f (fun z => z (Eq.refl _)) (w_xc a14 (w_f (fun z => z (Eq.refl _)) (w_xc a15 (w_f (fun z => z (Eq.refl _)) (w_xc a16 (w_f (fun z => z (Eq.refl _)) ?_)))))))))
  refine w_xr a17 (w_f (fun z => z (Eq.refl _)) (w_xr a18 (w_f (fun z => z (Eq.refl _)) ?_)))
  refine t_is hG.st.T (w_cc 1 8 hC hS (w_same (σ := (σ.1, I16, 1, 8)) (J := J) hG.st hw b16 hl hk hd hm hN (Nat.le_refl _) (Nat.le_refl _) (fun ρ J2 _ _ _ _ => ?_)))
  exact w_f (by decide) (w_rl1 (hK _))
end
