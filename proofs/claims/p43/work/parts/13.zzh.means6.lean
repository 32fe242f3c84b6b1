section
variable {σ τ ρ σ0 τ0 : xd_S} {fr fr2 fr3 : xd_M} {tg : lTg} {i t : Nat} {d : lD} {ta : Nat → Option Nat} {X X2 : lX} {N M : Nat} {K : xd_K} {a v b5 b8 e g m n k j c1 c2 nM nw many : Nat} {s : List Nat} {J : xc_M} {R0 : Nat → Option Nat} {w w2 : Nat → Int32} {r : Option Nat}
theorem wkT.off (h : wkT fr r w) (hi : iW w) (hf : ∀ a c, fr a = some c → fr2 a = some c) (hw : ∀ j, j = 67 ∨ (628 ≤ j ∧ j < 692) → w2 j = w j) : wkT fr2 r w2 := by
  have hK := hi.nKB
  obtain ⟨b, c, h1, h2, h3, h4, h5⟩ := h
  have e67 : xr w2 67 = xr w 67 := xr_eq (hw 67 (Or.inl (Eq.refl _)))
  refine ⟨b, c, h1, hf _ _ h2, h3, by rw [e67]; exact h4, fun i hi => ?_⟩
  rw [e67] at hi
  obtain ⟨e, V, g1, g2, g3, g4, g5, g6⟩ := h5 i hi
  have e630 : xr w2 (630 + 4 * i) = xr w (630 + 4 * i) := xr_eq (hw _ (by omega))
  refine ⟨e, V, g1, g2.mono hf, by rw [hw _ (by omega)]; exact g3, by rw [hw _ (by omega)]; exact g4, by rw [e630]; exact g5, fun hz => ?_⟩
  rw [e630] at hz
  rw [hw _ (by omega)]
  exact g6 hz
theorem mnT.c (h : mnT fr r w) (hi : iW w) (hf : ∀ a c, fr a = some c → fr2 a = some c) (hw : ∀ j, j = 66 ∨ (198 ≤ j ∧ j < 628) → w2 j = w j) : mnT fr2 r w2 := by
  have hM := hi.nMB
  obtain ⟨b, c, h1, h2, h3, h4, h5⟩ := h
  have e66 : xr w2 66 = xr w 66 := xr_eq (hw 66 (Or.inl (Eq.refl _)))
  refine ⟨b, c, h1, hf b c h2, h3, by rw [e66]; exact h4, fun m hm => ?_⟩
  rw [e66] at hm
  obtain ⟨e, ce, g1, g2, g3, g4, g5⟩ := h5 m hm
  obtain ⟨⟨-, hn⟩, hi2⟩ := hi.means m hm
  have em : xr w2 (198 + m) = xr w (198 + m) := xr_eq (hw _ (Or.inr ⟨by omega, by omega⟩))
  refine ⟨e, ce, g1, hf e ce g2, g3, by rw [em]; exact g4, fun i hi0 => ?_⟩
  rw [em] at hi0
  obtain ⟨g, V, k1, k2, k3⟩ := g5 i hi0
  obtain ⟨⟨-, hc⟩, -⟩ := hi2 i hi0
  have ec : wC w2 m i = wC w m i := xr_eq (hw _ (Or.inr ⟨by omega, by omega⟩))
  have hc' : wC w m i < 7 := hc
  obtain ⟨c', y1, y2⟩ := k2
  refine ⟨g, V, k1, ⟨c', hf g c' y1, by rw [ec]; exact y2⟩, fun q hq => ?_⟩
  rw [ec] at hq
  rw [hw _ (Or.inr ⟨by omega, by omega⟩)]
  exact k3 q hq
theorem ndT.c (h : ndT fr r w) (hf : ∀ a c, fr a = some c → fr2 a = some c) (hw : w2 68 = w 68) : ndT fr2 r w2 := by
  obtain ⟨b, c, h1, h2, h3, h4⟩ := h
  exact ⟨b, c, h1, hf b c h2, h3, by rw [xr_eq hw]; exact h4⟩
theorem XW.eqv (h : XW X w) (hi : iW w) (hw : ∀ j, j < 65 ∨ (70 ≤ j ∧ j < 98) ∨ (748 ≤ j ∧ j < 1348) → w2 j = w j) : XW X w2 := by
  have hB := hi.bookB
  have hW := hi.nWB
  have hP := hi.nPB
  obtain ⟨h0, h1, h2, h3, h4, h5, h6, h7, h8, h9, h10, h11⟩ := h
  have e62 : xr w2 62 = xr w 62 := xr_eq (hw _ (by omega))
  have e63 : xr w2 63 = xr w 63 := xr_eq (hw _ (by omega))
  have e2 : xr w2 2 = xr w 2 := xr_eq (hw _ (by omega))
  have e3 : xr w2 3 = xr w 3 := xr_eq (hw _ (by omega))
  refine ⟨by rw [hw _ (by omega)]; exact h0, by rw [hw _ (by omega)]; exact h1, by rw [hw _ (by omega)]; exact h2, by rw [hw _ (by omega)]; exact h3, by rw [hw _ (by omega)]; exact h4, by rw [hw _ (by omega)]; exact h5, by rw [e62]; exact h6, by rw [e63]; exact h7, by rw [e2]; exact h8, fun k hk => ?_, fun p hp => ?_, fun j hj q hq => ?_⟩
  · rw [e62] at hk
    obtain ⟨g0, g1, g2, g3, g4⟩ := h9 k hk
    exact ⟨by rw [hw _ (by omega)]; exact g0, by rw [hw _ (by omega)]; exact g1, by rw [e3]; exact g2, by rw [hw _ (by omega)]; exact g3, by rw [hw _ (by omega)]; exact g4⟩
  · rw [e63] at hp
    obtain ⟨g0, g1, g2⟩ := h10 p hp
    exact ⟨by rw [hw _ (by omega)]; exact g0, by rw [hw _ (by omega)]; exact g1, by rw [hw _ (by omega)]; exact g2⟩
  · rw [e2] at hj
    rw [hw _ (by omega)]
    exact h11 j hj q hq
theorem mnG_ok {H : Nat → W1} (h : ∀ l, l < n → mnBB J (H l)) (hW : xr (J 1) 62 < 15) : ∀ l, l < n → wfB 0 (mnG H l) = true ∧ stB 0 (mnG H l) = 0 ∧ nmB (mnG H l) := fun l hl => by
  obtain ⟨h1, h2, h3⟩ := h l hl
  obtain ⟨q1, q2⟩ := mn_wf (nw := (H l).1) (cn := fun i => ((H l).2 i).1) (wd := fun i => ((H l).2 i).2) h1 (fun i hi => (h3 i hi).1)
  exact ⟨q1, q2, mn_nm (fun i hi q hq => by
    have := (h3 i hi).2.2 q hq
    omega)⟩
theorem mn_end {C S : Nat} {v2 : Int32} {k41 : Nat → Int32 → Int32 → Nat → Int32 → xd_S → Prop} (hN : 1000 ≤ N) (hM : 60 ≤ M) (hw : XW X (J 1)) (hRR : RR σ.2.1 J) (h18 : J 0 18 = nI 0) (hd : xr (J 1) 0 + 30 < 1000) (h : MI J σ fr tg i t d ta X a b8 n C S n τ) (h8 : σ.1 b8 = none) (hn : n ≤ 7) (hC : C ≥ 125 * n + 330) (hS : S ≥ 16900 * n + 32000) (hK : ∀ τ' fr' b J', fwm tg i σ fr τ' fr' → tG τ' fr' tg i t d (fun q => if q = 11 then some b else ta q) X → RR τ'.2.1 J' → (∀ j, j ≠ 66 → j ≠ 68 → j < 198 ∨ (628 ≤ j ∧ j < 692) ∨ 728 ≤ j → J' 1 j = J 1 j) → mnT fr' (some b8) (J' 1) → ndT fr' (some b) (J' 1) → J' 0 18 = nI 0 → J' 0 4 = J 0 4 → J' 3 = J 3 → K 1 none τ') : hbL_meanings_41 N M K k41 t v2 (nI n) a (nI n) τ := by
  have hi := hRR.1.i
  obtain ⟨v, H, cb, he, hsb, hsl, hv, hcb, cb1, cb2, hrow, hI, hCk, hSk⟩ := h
  have hok := mnG_ok (n := n) (fun l hl => (hrow l hl).1) hi.nWB
  have hasc : ∀ c, c ∈ rnd (remT (mnG H) 0 n) → c < 128 := rem_asc n 0 (fun l hl => hok l (by omega))
  have hasc2 : ∀ (j y : Nat), (rnd (remT (mnG H) 0 n))[j]? = some y → y < 128 := fun j y hy => hasc y (List.mem_of_getElem? hy)
  have hl : (rnd (remT (mnG H) 0 n)).length ≤ 357 := Nat.le_trans hsl (by omega)
  unfold hbL_meanings_41
  refine w_t (Int32.le_refl _) (x_str 360 hsb (by omega) (by omega) (by omega) (by omega) (fun τ1 a' w g1 g2 g3 g4 g5 g6 => ?_))
  obtain ⟨q1, q2⟩ := g6
  refine w_cc 20 100 (by omega) (by omega) (w_say (σ := (τ1.1, τ1.2.1, 20, 100)) (J := J) g1 hasc2 (by omega) (by show RR τ1.2.1 J; rw [g5, hI]; exact hRR) h18 hN (Nat.le_refl _) (Nat.le_refl _) (fun τ2 J2 k1 k2 k3 => ?_))
  have e1 : J2 1 = J 1 := k3.2.1 1 (by omega) (by omega)
  obtain ⟨I3, J3, w1, w2, w3, w4, w5, w6, w7, w8, w9⟩ := c_text0 (M := M) (nw := fun l => (H l).1) (cn := fun l i => ((H l).2 i).1) (wd := fun l i => ((H l).2 i).2) hN hM k2 hn (fun l hl => by
    obtain ⟨y1, y2, y3⟩ := (hrow l hl).1
    rw [e1]
    exact ⟨y1, y2, y3⟩) (Eq.refl _) (k3.TQ (by show (rnd (remT (mnG H) 0 n)).length ≤ 400; omega) hasc2)
  refine w_xc w1 (w_t (Eq.refl _) ?_)
  have hs2 : ∀ x, τ.1 x ≠ none → τ2.1 x = τ.1 x := fun x hx => (k1 x (by rw [g4 x hx]; exact hx)).trans (g4 x hx)
  have he2 : env σ fr tg i t d ta X τ2 := he.new (fun x hx => hs2 x (he.2.2.2 x hx))
  obtain ⟨P, hP⟩ := bool_of (fun x => σ.1 x = none ∧ τ2.1 x ≠ none)
  obtain ⟨z1, z2⟩ := he2.1.freeze P (fun x hx => (he2.t0 ((hP x).mp hx).1).1)
  have hfz : ∀ x c, σ.1 x = none → τ.1 x = some c → frz P τ2.1 fr x = some c := fun x c h1 h2 => by
    have h3 : τ2.1 x = some c := (hs2 x (nsome h2)).trans h2
    exact frz_p ((hP x).mpr ⟨h1, nsome h3⟩) h3
  have hx66 : xr (J3 1) 66 = n := by
    unfold xr
    rw [w4]
    exact nI_clamp (by omega)
  have hx62 : xr (J3 1) 62 = xr (J 1) 62 := xr_eq (by rw [w3 62 (by omega) (by omega) (by omega), e1])
  have hx0 : xr (J3 1) 0 = xr (J 1) 0 := xr_eq (by rw [w3 0 (by omega) (by omega) (by omega), e1])
  have hmn : mnT (frz P τ2.1 fr) (some b8) (J3 1) := by
    refine ⟨b8, cb, Eq.refl _, hfz b8 cb h8 hcb, cb1, by rw [hx66]; exact cb2, fun m hm => ?_⟩
    rw [hx66] at hm
    obtain ⟨⟨y1, y2, y3⟩, e, u2, u3, ce, p1, p2, p3, p4⟩ := hrow m hm
    obtain ⟨r1, r2⟩ := w6 m hm
    have hxn : xr (J3 1) (198 + m) = (H m).1 := by
      unfold xr
      rw [r1]
      exact nI_clamp (by omega)
    refine ⟨e, ce, u2, hfz e ce u3 p1, p2, by rw [hxn]; exact p3, fun i hi0 => ?_⟩
    rw [hxn] at hi0
    obtain ⟨g, l2, l3, c', o1, o2, o3, o4⟩ := p4 i hi0
    obtain ⟨t1, t2⟩ := r2 i hi0
    have hb4 := (y3 i hi0).2.1
    have hxc : wC (J3 1) m i = ((H m).2 i).1 := by
      unfold wC xr
      rw [t1]
      exact nI_clamp (by omega)
    rw [hxc]
    exact ⟨g, c'.2.2.1, l2, ⟨c', hfz g c' l3 o1, o2, o3, fun _ _ => Eq.refl _⟩, fun q hq => (o4 q hq).trans (t2 q hq).symm⟩
  have f0 : fwm tg i σ fr τ2 (frz P τ2.1 fr) := ⟨he2.2.2.1, he2.2.2.2, z2⟩
  have hw3 : XW X (J3 1) := hw.eqv hi (fun j hj => by rw [w3 j (by omega) (by omega) (by omega), e1])
  have fin : ∀ (x19 : Int32) (y : Nat) (τ9 : xd_S), x19 = nI y → y ≤ 10 → (0 < y → 0 < n) → τ9.1 = τ2.1 → τ9.2.1 = I3 → 300 ≤ τ9.2.2.1 → 31000 ≤ τ9.2.2.2 → hbL_meanings_299 N M K t v2 (nI n) x19 τ9 := by
    intro x19 y τ9 hx hy hy0 b1 b2 b3 b4
    have hG9 : tG τ9 (frz P τ2.1 fr) tg i t d ta X := by
      have : tG (τ2.1, τ9.2) (frz P τ2.1 fr) tg i t d ta X := z1
      rw [← b1] at this
      rw [← b1]
      exact this
    refine w_needs hN hM hG9 hw3 (by rw [b2]; exact w2) w7 (by rw [hx0]; exact hd) hx hy (by rw [hx66]; omega) (fun h0 => ⟨hy0 h0, by rw [hx66]; exact Nat.le_refl _, by omega⟩) b3 b4 (fun τ' fr' b J' s1 s2 s3 s4 s5 s6 s7 s8 => ?_)
    refine hK τ' fr' b J' (f0.trans ?_) s2 s3 (fun j q1 q2 q3 => ?_) (hmn.c w2.1.i s1.2.2 (fun j hj => s4 j (by omega) (by omega))) s5 s6 (s7.trans (w8.trans (k3.2.2.1 4 (by omega)))) (s8.trans (w9.trans (k3.2.1 3 (by omega) (by omega))))
    · obtain ⟨m1, m2, m3⟩ := s1
      exact ⟨fun x x1 x2 => by rw [← b1]; exact m1 x x1 (by rw [b1]; exact x2), fun x x1 => m2 x (by rw [b1]; exact x1), m3⟩
    · rw [s4 j q2 (by omega), w3 j q1 q2 (by omega), e1]
  by_cases h0 : n = 0
  · refine w_f (fun z => z (by rw [h0]; decide)) ?_
    exact fin 0 0 _ (by decide) (by omega) (by omega) (Eq.refl _) (Eq.refl _) (by show 300 ≤ τ1.2.2.1 - 20; omega) (by show 31000 ≤ τ1.2.2.2 - 100; omega)
  · refine w_t (fun z => h0 (by have := congrArg Int32.toNatClampNeg z; rw [nI_clamp (by omega)] at this; exact this)) (w_c0 (w_between _ (lo := 0) (hi := 10) (by omega) (by omega) (by decide) (by decide) (fun y _ hy => ?_)))
    exact fin _ y _ (Eq.refl _) hy (fun _ => by omega) (Eq.refl _) (Eq.refl _) (by show 300 ≤ τ1.2.2.1 - 20; omega) (by show 31000 ≤ τ1.2.2.2 - 100; omega)
/-- drawn meanings, then needs of them, are told -/
theorem w_meanings {v2 : Int32} (hN : 1000 ≤ N) (hM : 60 ≤ M) (h : tG σ fr tg i t d ta X) (hw : XW X (J 1)) (hRR : RR σ.2.1 J) (h18 : J 0 18 = nI 0) (hd : xr (J 1) 0 + 30 < 1000) (hC : 1300 ≤ σ.2.2.1) (hS : 160000 ≤ σ.2.2.2) (hK : ∀ τ' fr' b b2 J', fwm tg i σ fr τ' fr' → tG τ' fr' tg i t d (fun q => if q = 11 then some b2 else if q = 14 then some b else ta q) X → RR τ'.2.1 J' → (∀ j, j ≠ 66 → j ≠ 68 → j < 198 ∨ (628 ≤ j ∧ j < 692) ∨ 728 ≤ j → J' 1 j = J 1 j) → mnT fr' (some b) (J' 1) → ndT fr' (some b2) (J' 1) → J' 0 18 = nI 0 → J' 0 4 = J 0 4 → J' 3 = J 3 → K 1 none τ') : hL_meanings N M t v2 σ K := by
  have hi := hRR.1.i
  have hWB := hi.nWB
  have e3 : X.1 3 = nI (xr (J 1) 62) := hw.nw.trans hi.nW
  have key : ∀ (n : Nat) (vs0 : Int32), vs0 = nI n → n ≤ 7 → (0 < n → 0 < xr (J 1) 62) → hbL_meanings_20 N M K t v2 vs0 σ := by
    intro n vs0 hv hn hP
    unfold hbL_meanings_20
    refine w_lt hv (t_new (by omega) (by omega) (fun b5 v τ1 hb q1 => ?_))
    obtain ⟨q2, q3⟩ := q1
    refine w_table (f := fun b8 τ10 => xd_lt 0 fun v5_11 => hlL_meanings_41 N M K N t v2 (nI n) b5 v5_11 τ10) (Eq.refl _) (by omega) (Or.inr (Or.inr (Or.inr (Or.inl (Eq.refl _))))) h hb (by omega) (by omega) (fun b8 τ3 he3 h3b h5 hv5 h8S h38 h3I h3C h3S => ?_)
    refine w_lt (v := nI 0) (Eq.refl _) ?_
    have hX : (if (14 : Nat) = 14 then some b8 else ta 14) = some b8 := if_pos (Eq.refl _)
    refine w_loop (S := xd_S) (fun fu k τ => hlL_meanings_41 N M K fu t v2 (nI n) b5 (nI k) τ) n (fun k τ => MI J σ fr tg i t d (fun q => if q = 14 then some b8 else ta q) X b5 b8 n τ3.2.2.1 τ3.2.2.2 k τ) (fun fu τ hI => ?_) (fun fu k τ hk hI ih => ?_) N 0 τ3 (by omega) (Nat.zero_le _) ⟨v, fun _ => (0, fun _ => (0, fun _ => 0)), _, he3, h3b, Nat.zero_le _, hv5, h38, Eq.refl _, Eq.refl _, fun l hl => absurd hl (Nat.not_lt_zero l), h3I, Nat.le_add_right _ _, Nat.le_add_right _ _⟩
    · exact mn_end hN hM hw hRR h18 hd hI h8S hn (by omega) (by omega) (fun τ' fr' b J' z1 z2 z3 z4 z5 z6 z7 z8 z9 => hK τ' fr' b8 b J' z1 z2 z3 z4 z5 z6 z7 z8 z9)
    · exact mn_step (by omega) hw hi (hP (by omega)) hI hX h5 h8S ⟨hk, hn⟩ (by omega) (by omega) ih
  unfold hL_meanings
  refine t_gI h.T (by omega) ?_
  by_cases h0 : xr (J 1) 62 = 0
  · exact w_f (fun z => z (by rw [e3, h0]; decide)) (key 0 0 (by decide) (by omega) (by omega))
  · refine w_t (by rw [e3]; exact fun z => h0 (by have := congrArg Int32.toNatClampNeg z; rw [nI_clamp (by omega)] at this; exact this)) (w_c0 (w_between _ (lo := 0) (hi := 7) (by omega) (by omega) (by decide) (by decide) (fun r _ hr => ?_)))
    exact key r _ (Eq.refl _) hr (fun _ => by omega)
end
