-- ===== a step: moving, teaching, carving from their heads =====
section
variable {σ σ1 τ ρ : xd_S} {fr fr2 : xd_M} {tg tg2 : lTg} {i t b6 a10 : Nat} {d d2 : lD} {ta ta2 : Nat → Option Nat} {X X2 : lX} {N M : Nat} {K : xd_K} {m n n2 k p a j r B B2 I2 T2 dd q c : Nat} {I3 J J2 : xc_M} {w w2 w3 w0 : Nat → Int32} {R : Nat → Nat → Int32} {Sc : Nat × Nat × (Nat → Int32)}
theorem law_mv {k41 : Nat → Nat → Int32 → Int32 → xd_S → Prop} (hN : 1000 ≤ N) (h : MID b6 r t n a10 σ fr tg i d d2 ta X J B R) (hp : p ≤ xr (J 1) 63) (ha : a ≤ 10) (hK : ∀ t' n' σ', LI b6 (r + 1) t' n' σ' → k41 t' b6 (nI n') (nI (r + 1)) σ') : xd_gI 14 t 4 σ (fun x90 => (if x90 ≤ nI p then (hbL_law_423 N M Sc K k41 t b6 (nI n) (nI r) (nI p) a10 (nI a) σ) else (if (10 : Int32) ≤ nI a then (hbL_law_423 N M Sc K k41 t b6 (nI n) (nI r) (nI p) a10 (nI a) σ) else xd_gR 14 t 9 σ fun b91 => xd_aR 2 b91 (nI p) σ fun b92 => xd_aI 0 b92 0 σ fun x93 => (if x93 = nI a then (hbL_law_423 N M Sc K k41 t b6 (nI n) (nI r) (nI p) a10 (nI a) σ) else (hbL_law_424 N M Sc K k41 t b6 (nI n) (nI r) (nI p) a10 (nI a) 1 σ))))) := by
  obtain ⟨⟨hG, hw, hRR, h18, hl, hmn, hnd, hwk⟩, -, -, hWAS, hPA, -, -, -, hC, hS, hr⟩ := id h
  have hi := hRR.1.i
  have hPB := hi.nPB
  refine t_gI hG.T (by omega) ?_
  rw [hw.np, hi.nP]
  by_cases c1 : p < xr (J 1) 63
  · refine w_f (by rw [xp_le (by omega) (by omega)]; omega) ?_
    by_cases c2 : a < 10
    · have hpP : p < X.2.2.2.2.2.1 ∧ X.2.2.2.2.2.1 ≤ 10 := by rw [hw.nP]; omega
      have hab := hi.atB (p := p) (by omega)
      refine w_f (by rw [show (10 : Int32) = nI 10 from rfl, xp_le (by omega) (by omega)]; omega) (t_g9 hG.T (t_aM hG.T (Eq.refl _) hpP (t_mI hG.T hpP.1 (j := 0) (Eq.refl _) (by omega) ?_)))
      rw [hw.at c1, hi.at (by omega)]
      by_cases c3 : xr (J 1) (32 + p) = a
      · exact w_t (by rw [c3]) (law_424_0 hN h hp ha (fun z => z.2.2 c3) hK)
      · exact w_f (fun z => c3 ((nI_eq (by omega) (by omega)).mp z)) (law_424_1 hN h c1 c2 c3 hK)
    · exact w_t (by rw [show (10 : Int32) = nI 10 from rfl, xp_le (by omega) (by omega)]; omega) (law_424_0 hN h hp ha (fun z => c2 z.2.1) hK)
  · exact w_t (by rw [xp_le (by omega) (by omega)]; omega) (law_424_0 hN h hp ha (fun z => c1 z.1) hK)
theorem law_tc {k41 : Nat → Nat → Int32 → Int32 → xd_S → Prop} (hN : 1000 ≤ N) (h : MID b6 r t n a10 σ fr tg i d d2 ta X J B R) (hp : p ≤ xr (J 1) 63) (hk : k ≤ xr (J 1) 62) (hK : ∀ t' n' σ', LI b6 (r + 1) t' n' σ' → k41 t' b6 (nI n') (nI (r + 1)) σ') : xd_gI 14 t 4 σ (fun x79 => (if x79 ≤ nI p then (hbL_law_528 N M Sc K k41 t b6 (nI n) (nI r) (nI p) (nI k) a10 σ) else xd_gI 14 t 3 σ fun x80 => (if x80 ≤ nI k then (hbL_law_528 N M Sc K k41 t b6 (nI n) (nI r) (nI p) (nI k) a10 σ) else xd_gR 14 t 8 σ fun b81 => xd_aR 2 b81 (nI k) σ fun b82 => xd_aI 0 b82 2 σ fun x83 => (if x83 ≠ (0 : Int32) then (hbL_law_528 N M Sc K k41 t b6 (nI n) (nI r) (nI p) (nI k) a10 σ) else xd_gR 14 t 9 σ fun b84 => xd_aR 2 b84 (nI p) σ fun b85 => xd_aI 0 b85 1 σ fun x86 => (if ((x86 >>> (nI k &&& 31)) &&& 1) ≠ (0 : Int32) then (hbL_law_528 N M Sc K k41 t b6 (nI n) (nI r) (nI p) (nI k) a10 σ) else (hbL_law_529 N M Sc K k41 t b6 (nI n) (nI r) (nI p) (nI k) a10 1 σ)))))) := by
  obtain ⟨⟨hG, hw, hRR, h18, hl, hmn, hnd, hwk⟩, -, -, hWAS, hPA, -, -, -, hC, hS, hr⟩ := id h
  have hi := hRR.1.i
  have hPB := hi.nPB
  have hWB := hi.nWB
  refine t_gI hG.T (by omega) ?_
  rw [hw.np, hi.nP]
  by_cases c1 : p < xr (J 1) 63
  · refine w_f (by rw [xp_le (by omega) (by omega)]; omega) (t_gI hG.T (by omega) ?_)
    rw [hw.nw, hi.nW]
    by_cases c2 : k < xr (J 1) 62
    · have hpP : p < X.2.2.2.2.2.1 ∧ X.2.2.2.2.2.1 ≤ 10 := by rw [hw.nP]; omega
      have hkW : k < X.2.2.2.2.1 ∧ X.2.2.2.2.1 ≤ 14 := by rw [hw.nW]; omega
      refine w_f (by rw [xp_le (by omega) (by omega)]; omega) (t_g8 hG.T (t_aW hG.T (Eq.refl _) hkW (t_wI hG.T hkW.1 (j := 2) (Eq.refl _) (by omega) ?_)))
      rw [hw.lapsed c2]
      cases c3 : (xr (J 1) 3).testBit k with
      | true => exact w_t (by decide) (law_528 hN h hp hk (fun z => by rw [c3] at z; exact nomatch z.2.2.1) hK)
      | false =>
        refine w_f (fun z => z (Eq.refl _)) (t_g9 hG.T (t_aM hG.T (Eq.refl _) hpP (t_mI hG.T hpP.1 (j := 1) (Eq.refl _) (by omega) ?_)))
        have etb : (nI (xr (J 1) (42 + p)) >>> (nI k &&& 31)) &&& 1 = nI ((xr (J 1) (42 + p)).testBit k).toNat := by
          rw [show (31 : Int32) = nI 31 from rfl, show (1 : Int32) = nI 1 from rfl, xp_tb (by have := hi.tongueB (p := p) (by omega); omega) (by omega)]
        rw [hw.tongue c1, hi.tongue (by omega), etb]
        cases c4 : (xr (J 1) (42 + p)).testBit k with
        | true => exact w_t (by decide) (law_528 hN h hp hk (fun z => by rw [c4] at z; exact nomatch z.2.2.2) hK)
        | false => exact w_f (fun z => z (Eq.refl _)) (law_529 hN h c1 c2 c3 c4 hK)
    · exact w_t (by rw [xp_le (by omega) (by omega)]; omega) (law_528 hN h hp hk (fun z => c2 z.2.1) hK)
  · exact w_t (by rw [xp_le (by omega) (by omega)]; omega) (law_528 hN h hp hk (fun z => c1 z.1) hK)
theorem law_637 {k41 : Nat → Nat → Int32 → Int32 → xd_S → Prop} (hN : 1000 ≤ N) (h : MID b6 r t n a10 σ fr tg i d d2 ta X J B R) (hk : k ≤ xr (J 1) 62) (hK : ∀ t' n' σ', LI b6 (r + 1) t' n' σ' → k41 t' b6 (nI n') (nI (r + 1)) σ') : hbL_law_637 N M Sc K k41 t b6 (nI n) (nI r) (nI k) a10 σ := by
  obtain ⟨⟨hG, hw, hRR, h18, hl, hmn, hnd, hwk⟩, -, -, hWAS, hPA, -, -, -, hC, hS, hr⟩ := id h
  have hi := hRR.1.i
  have hWB := hi.nWB
  unfold hbL_law_637
  refine t_gI hG.T (by omega) ?_
  rw [hw.nw, hi.nW]
  by_cases c2 : k < xr (J 1) 62
  · have hkW : k < X.2.2.2.2.1 ∧ X.2.2.2.2.1 ≤ 14 := by rw [hw.nW]; omega
    refine w_f (by rw [xp_le (by omega) (by omega)]; omega) (t_g8 hG.T (t_aW hG.T (Eq.refl _) hkW (t_wI hG.T hkW.1 (j := 2) (Eq.refl _) (by omega) ?_)))
    rw [hw.lapsed c2]
    cases c3 : (xr (J 1) 3).testBit k with
    | true => exact w_f (fun z => z (Eq.refl _)) (law_664 hN h c2 c3 hK)
    | false => exact w_t (by decide) (law_663 hN h hk (fun z => by rw [c3] at z; exact nomatch z.2) hK)
  · exact w_t (by rw [xp_le (by omega) (by omega)]; omega) (law_663 hN h hk (fun z => c2 z.1) hK)
theorem law_590 {k41 : Nat → Nat → Int32 → Int32 → xd_S → Prop} (hN : 1000 ≤ N) (h : MID b6 r t n a10 σ fr tg i d d2 ta X J B R) (hk : k ≤ xr (J 1) 62) (hK : ∀ t' n' σ', LI b6 (r + 1) t' n' σ' → k41 t' b6 (nI n') (nI (r + 1)) σ') : hlL_law_590 N M Sc K k41 N t b6 (nI n) (nI r) (nI k) a10 0 σ := by
  obtain ⟨⟨hG, hw, hRR, h18, hl, hmn, hnd, hwk⟩, -, -, hWAS, hPA, -, -, -, hC, hS, hr⟩ := id h
  have hi := hRR.1.i
  have hWB := hi.nWB
  refine w_loop (S := Nat) (fun fu j k => hlL_law_590 N M Sc K k41 fu t b6 (nI n) (nI r) (nI k) a10 (nI j) σ) (xr (J 1) 62) (fun j k => k ≤ xr (J 1) 62) (fun fu k hI => ?_) (fun fu j k hj hI ih => ?_) N 0 k (by omega) (by omega) hk
  · show hbL_law_590 N M Sc K k41 _ t b6 (nI n) (nI r) (nI k) a10 (nI (xr (J 1) 62)) σ
    unfold hbL_law_590
    refine t_gI hG.T (by omega) ?_
    rw [hw.nw, hi.nW]
    exact w_t (by rw [xp_le (by omega) (by omega)]; omega) (law_637 hN h hI hK)
  · show hbL_law_590 N M Sc K k41 (hlL_law_590 N M Sc K k41 fu) t b6 (nI n) (nI r) (nI k) a10 (nI j) σ
    unfold hbL_law_590
    refine t_gI hG.T (by omega) ?_
    rw [hw.nw, hi.nW]
    refine w_f (by rw [xp_le (by omega) (by omega)]; omega) (t_gI hG.T (by omega) ?_)
    rw [hw.nw, hi.nW]
    by_cases c2 : k < xr (J 1) 62
    · have hkW : k < X.2.2.2.2.1 ∧ X.2.2.2.2.1 ≤ 14 := by rw [hw.nW]; omega
      refine w_f (by rw [xp_le (by omega) (by omega)]; omega) (t_g8 hG.T (t_aW hG.T (Eq.refl _) hkW (t_wI hG.T hkW.1 (j := 2) (Eq.refl _) (by omega) ?_)))
      rw [hw.lapsed c2]
      cases c3 : (xr (J 1) 3).testBit k with
      | true => exact w_t (by decide) (law_637 hN h hI hK)
      | false =>
        refine w_f (fun z => z (Eq.refl _)) (t_gI hG.T (by omega) ?_)
        rw [hw.nw, hi.nW]
        have hlt : (k + 1) % xr (J 1) 62 < xr (J 1) 62 := Nat.mod_lt _ (by omega)
        refine w_rem (v := nI ((k + 1) % xr (J 1) 62)) (nI_ne0 (by omega) (by omega)) ?_ (w_lt (Eq.refl _) (w_lt (nI_add j 1) (ih _ (by omega))))
        rw [show (nI k + 1 : Int32) = nI (k + 1) from nI_add k 1, pk_rem (by omega) (by omega) (by omega)]
    · exact w_t (by rw [xp_le (by omega) (by omega)]; omega) (law_637 hN h hI hK)
end
