-- ===== a step: to say =====
section
variable {σ σ1 τ ρ : xd_S} {fr fr2 : xd_M} {tg tg2 : lTg} {i t b6 a10 : Nat} {d d2 : lD} {ta ta2 : Nat → Option Nat} {X X2 : lX} {N M : Nat} {K : xd_K} {m n n2 k p a j r B B2 I2 T2 dd q c : Nat} {I3 J J2 : xc_M} {w w2 w3 w0 : Nat → Int32} {R : Nat → Nat → Int32} {Sc : Nat × Nat × (Nat → Int32)}
theorem law_313 {k41 : Nat → Nat → Int32 → Int32 → xd_S → Prop} (hN : 1000 ≤ N) (h : MID b6 r t n a10 σ fr tg i d d2 ta X J B R) (hp : p ≤ xr (J 1) 63) (hk : k ≤ xr (J 1) 62) (hK : ∀ t' n' σ', LI b6 (r + 1) t' n' σ' → k41 t' b6 (nI n') (nI (r + 1)) σ') : hbL_law_313 N M Sc K k41 t b6 (nI n) (nI r) (nI p) (nI k) a10 σ := by
  obtain ⟨⟨hG, hw, hRR, h18, hl, hmn, hnd, hwk⟩, -, -, hWAS, hPA, -, -, -, hC, hS, hr⟩ := id h
  have hi := hRR.1.i
  have hWB := hi.nWB
  have hPB := hi.nPB
  unfold hbL_law_313
  refine t_is hG.T (w_c0 (w_can (σ := (σ.1, σ.2.1, 0, 0)) (w := J 1) hG.b hw hi hl (by omega) (by omega) (by omega) ?_))
  cases hb : (decide (p < xr (J 1) 63) && (decide (k < xr (J 1) 62) && sCan (J 1) p k)) with
  | false =>
    obtain ⟨I2, J2, s1, s2, s3⟩ := c_say0 hRR hN (p := p) (k := k) (by omega) (by omega) hb
    refine w_lt (v := 0) (Eq.refl _) (w_t (Eq.refl _) ?_)
    unfold hbL_law_349
    exact w_lt (Eq.refl _) (w_xc s1 (w_t (Eq.refl _) (mid0 hN h s2 s3 hK)))
  | true =>
    rw [Bool.and_eq_true, Bool.and_eq_true, decide_eq_true_eq, decide_eq_true_eq] at hb
    obtain ⟨hp', hk', hc⟩ := hb
    refine w_lt (v := 1) (Eq.refl _) (w_f (by decide) (t_is hG.T (w_cc 1 4 (by show 1 ≤ σ.2.2.1; omega) (by show 4 ≤ σ.2.2.2; omega) (w_saysD (σ := (σ.1, σ.2.1, 1, 4)) (w := J 1) hG.b hw hi hl (by omega) hp' hk' hc (Nat.le_refl _) (Nat.le_refl _) (fun τ fr2 X2 f1 f2 f3 => ?_)))))
    have eI : τ.2.1 = σ.2.1 := f1.2.2.2
    obtain ⟨I2, J2, s1, s2, s3, s4, s5⟩ := c_say hRR hPA hN hp' hk' hc
    have fin : hbL_law_1050 N M Sc K k41 t b6 (nI n) (nI r) a10 1 (τ.1, I2, σ.2.2.1 - 1, σ.2.2.2 - 4) := mid1 (τ := (τ.1, I2, σ.2.2.1 - 1, σ.2.2.2 - 4)) hN h (fun x a b => f1.1 x a b) f1.2.2.1 f2.st (by rw [s3]; exact f3) s2 s5 ⟨by rw [s3]; exact bk.sa hi hp' hk', fun j hj => by rw [s3]; exact saW_o hi hp' hk' (by omega)⟩ (by rw [s3]; exact xr_eq (saW_o hi hp' hk' (by omega))) s4 (by show σ.2.2.1 ≤ σ.2.2.1 - 1 + 100; omega) (by show σ.2.2.2 ≤ σ.2.2.2 - 4 + 1000; omega) hK
    cases hh : sHd (J 1) p k with
    | true =>
      rw [hh] at s1
      refine w_f (by decide) ?_
      unfold hbL_law_349
      exact w_lt (Eq.refl _) (w_xc (by rw [eI]; exact s1) (w_t (Eq.refl _) fin))
    | false =>
      rw [hh] at s1
      refine w_t (Eq.refl _) ?_
      unfold hbL_law_349
      exact w_lt (Eq.refl _) (w_xc (by rw [eI]; exact s1) (w_t (Eq.refl _) fin))
theorem law_258 {k41 : Nat → Nat → Int32 → Int32 → xd_S → Prop} (hN : 1000 ≤ N) (h : MID b6 r t n a10 σ fr tg i d d2 ta X J B R) (hp : p ≤ xr (J 1) 63) (hk : k ≤ xr (J 1) 62) (hK : ∀ t' n' σ', LI b6 (r + 1) t' n' σ' → k41 t' b6 (nI n') (nI (r + 1)) σ') : hlL_law_258 N M Sc K k41 N t b6 (nI n) (nI r) (nI p) (nI k) a10 0 σ := by
  obtain ⟨⟨hG, hw, hRR, h18, hl, hmn, hnd, hwk⟩, -, -, hWAS, hPA, -, -, -, hC, hS, hr⟩ := id h
  have hi := hRR.1.i
  have hWB := hi.nWB
  have hPB := hi.nPB
  refine w_loop (S := Nat) (fun fu j k => hlL_law_258 N M Sc K k41 fu t b6 (nI n) (nI r) (nI p) (nI k) a10 (nI j) σ) (xr (J 1) 62) (fun j k => k ≤ xr (J 1) 62) (fun fu k hI => ?_) (fun fu j k hj hI ih => ?_) N 0 k (by omega) (by omega) hk
  · show hbL_law_258 N M Sc K k41 _ t b6 (nI n) (nI r) (nI p) (nI k) a10 (nI (xr (J 1) 62)) σ
    unfold hbL_law_258
    refine t_gI hG.T (by omega) ?_
    rw [hw.nw, hi.nW]
    exact w_t (by rw [xp_le (by omega) (by omega)]; omega) (law_313 hN h hp hI hK)
  · show hbL_law_258 N M Sc K k41 (hlL_law_258 N M Sc K k41 fu) t b6 (nI n) (nI r) (nI p) (nI k) a10 (nI j) σ
    unfold hbL_law_258
    refine t_gI hG.T (by omega) ?_
    rw [hw.nw, hi.nW]
    refine w_f (by rw [xp_le (by omega) (by omega)]; omega) (t_gI hG.T (by omega) ?_)
    rw [hw.np, hi.nP]
    by_cases c1 : p < xr (J 1) 63
    · refine w_f (by rw [xp_le (by omega) (by omega)]; omega) (t_gI hG.T (by omega) ?_)
      rw [hw.nw, hi.nW]
      by_cases c2 : k < xr (J 1) 62
      · refine w_f (by rw [xp_le (by omega) (by omega)]; omega) (t_is hG.T (w_c0 (w_can (σ := (σ.1, σ.2.1, 0, 0)) (w := J 1) hG.b hw hi hl (by omega) (by omega) (by omega) ?_)))
        cases hb : (decide (p < xr (J 1) 63) && (decide (k < xr (J 1) 62) && sCan (J 1) p k)) with
        | true => exact w_t (by decide) (law_313 hN h hp hI hK)
        | false =>
          refine w_f (fun z => z (Eq.refl _)) (t_gI (σ := (σ.1, σ.2.1, σ.2.2.1, σ.2.2.2)) hG.T (by omega) ?_)
          rw [hw.nw, hi.nW]
          have hlt : (k + 1) % xr (J 1) 62 < xr (J 1) 62 := Nat.mod_lt _ (by omega)
          refine w_rem (v := nI ((k + 1) % xr (J 1) 62)) (nI_ne0 (by omega) (by omega)) ?_ (w_lt (Eq.refl _) (w_lt (nI_add j 1) (ih _ (by omega))))
          rw [show (nI k + 1 : Int32) = nI (k + 1) from nI_add k 1, pk_rem (by omega) (by omega) (by omega)]
      · exact w_t (by rw [xp_le (by omega) (by omega)]; omega) (law_313 hN h hp hI hK)
    · exact w_t (by rw [xp_le (by omega) (by omega)]; omega) (law_313 hN h hp hI hK)
end
