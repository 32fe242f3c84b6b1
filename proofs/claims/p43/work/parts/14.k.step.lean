-- ===== a step of the law's loop, whole; the loop; the law =====
section
variable {σ σ1 τ ρ : xd_S} {fr fr2 : xd_M} {tg tg2 : lTg} {i t b6 a10 : Nat} {d d2 : lD} {ta ta2 : Nat → Option Nat} {X X2 : lX} {N M : Nat} {K : xd_K} {m n n2 k p a j r b b2 B B2 I2 T2 dd q c : Nat} {I3 J J2 : xc_M} {w w2 w3 w0 : Nat → Int32} {R : Nat → Nat → Int32} {Sc : Nat × Nat × (Nat → Int32)}
theorem room_4 {a x y : Nat} (h : x ≤ a + y) : x ≤ a - 42 + y + 100 := by omega
theorem room_5 {a x y : Nat} (h : x ≤ a + y) : x ≤ a - 400 + y + 1000 := by omega
/-- the copy of a step -/
theorem law_cp {f : Nat → xd_S → Prop} (hN : 1000 ≤ N) (hr : r < 20) (hS : SAM σ fr tg i t d ta X J) (hi2 : i ≠ 2) (h13 : ∃ e, ta 13 = some e) (hB : ∀ a, (tg a).1 < B) (hWAS : WAS σ fr tg b6 i ta J n R B) (hPA : PA J n R) (hd : xr (J 1) 0 ≤ 15 * r) (hd2 : ∀ q, q < n → xr (R q) 0 ≤ 15 * r) (hC : 597000 ≤ σ.2.2.1 + 28000 * r) (hSl : 7033000 ≤ σ.2.2.2 + 300000 * r) (hf : ∀ b σ' tg2 d2, MID b6 r t n b σ' fr tg2 i d d2 ta X J B R → f b σ') : xd_is 14 t σ (xd_ca (fun τ K => hX10_copy N t τ K) σ fun _ r64 τ63 => xd_nn r64 fun b65 => f b65 τ63) := by
  obtain ⟨hG, hw, hRR, h18, hl, hmn, hnd, hwk⟩ := id hS
  have hi := hRR.1.i
  obtain ⟨e13, q13⟩ := id h13
  obtain ⟨e14, -, q14, -⟩ := id hmn
  obtain ⟨e11, -, q11, -⟩ := id hnd
  obtain ⟨e10, -, q10, -⟩ := id hwk
  obtain ⟨cb0, -, -, -, -, ⟨c1, c2, c3, c4⟩, -⟩ := id hWAS
  have h2B : 2 < B := by have := hB b6; omega
  have hiB : i < B := by have := hB t; rw [hG.2.2.tgO] at this; exact this
  refine t_is hG.T (w_cc 42 400 (by omega) (by omega) (w_copy (σ := (σ.1, σ.2.1, 42, 400)) (B := B) hG.b (cnX_of hw hi) (by omega) (fun a => by have := hB a; omega) q10 q11 q13 q14 (by omega) (Nat.le_refl _) (Nat.le_refl _) (fun τ tg2 t2 d2 z1 z2 z3 z4 => ?_)))
  refine w_nn (hf t2 _ tg2 d2 ⟨⟨⟨hG.1, z2, hG.2.2.ext hG.1 hG.2.1 z1⟩, hw, ?_, h18, hl, hmn, hnd, hwk⟩, ⟨hi2, h13⟩, fun a => ?_, ?_, hPA, ⟨hd, hd2⟩, z3, ⟨hiB, h2B⟩, room_4 hC, room_5 hSl, hr⟩)
  · show RR τ.2.1 J
    rw [z1.2]
    exact hRR
  · by_cases ha : σ.1 a = none
    · rcases z4 a ha with h | h <;> omega
    · rw [(z1.1 a ha).2]
      have := hB a
      omega
  · exact hWAS.ext (ρ := (τ.1, τ.2.1, σ.2.2.1 - 42, σ.2.2.2 - 400)) hG.2.1 ⟨z1.1, z1.2⟩ (Nat.le_refl _)
theorem ne_lit {q c : Nat} (h : q ≠ c) (hq : q < 2 ^ 31) (hc : c < 2 ^ 31) : nI q ≠ nI c := fun z => h ((nI_eq hq hc).mp z)
theorem law_step {k41 : Nat → Nat → Int32 → Int32 → xd_S → Prop} (hN : 1000 ≤ N) (hM : 60 ≤ M) (hSc : Sc.2.1 < 2 ^ 31) (hr : r < 20) (h : LI b6 r t n σ) (hK : ∀ t' n' σ', LI b6 (r + 1) t' n' σ' → k41 t' b6 (nI n') (nI (r + 1)) σ') : hbL_law_41 N M Sc K k41 t b6 (nI n) (nI r) σ := by
  obtain ⟨fr, tg, i, d, ta, X, J, B, R, hS, ⟨hi2, h13⟩, hB, hWAS, hPA, ⟨hd, hd2⟩, hC, hSl⟩ := h
  obtain ⟨hG, hw, hRR, h18, hl, hmn, hnd, hwk⟩ := id hS
  have hi := hRR.1.i
  have hWB := hi.nWB
  have hPB := hi.nPB
  unfold hbL_law_41
  refine w_f (by rw [show (20 : Int32) = nI 20 from rfl, xp_le (by omega) (by omega)]; omega) ?_
  refine w_rem (v := nI (r % 12)) (by decide) (by rw [show (12 : Int32) = nI 12 from rfl, pk_rem (by omega) (by omega) (by omega)]) ?_
  refine w_c0 (w_cell (k := 9 + r % 12) (nI_add 9 (r % 12)) (by omega) hSc (fun y => ?_))
  refine w_dv (by decide) (Eq.refl _) (w_lt (Eq.refl _) ?_)
  refine w_c0 (w_between _ (lo := 0) (hi := 13) (by omega) (by omega) (by decide) (by decide) (fun q _ hq => w_lt (Eq.refl _) ?_))
  refine t_gI (σ := (σ.1, σ.2.1, σ.2.2.1, σ.2.2.2)) hG.T (by omega) ?_
  rw [hw.np, hi.nP]
  refine w_c0 (w_between _ (lo := 0) (hi := xr (J 1) 63) (by omega) (by omega) (by decide) (Eq.refl _) (fun p _ hp => w_lt (Eq.refl _) ?_))
  refine t_gI (σ := (σ.1, σ.2.1, σ.2.2.1, σ.2.2.2)) hG.T (by omega) ?_
  rw [hw.nw, hi.nW]
  refine w_c0 (w_between _ (lo := 0) (hi := xr (J 1) 62) (by omega) (by omega) (by decide) (Eq.refl _) (fun k _ hk => w_lt (Eq.refl _) ?_))
  refine law_cp (σ := (σ.1, σ.2.1, σ.2.2.1, σ.2.2.2)) (b6 := b6) (n := n) (R := R) (B := B) hN hr hS hi2 h13 hB hWAS hPA hd hd2 hC hSl (fun b σ' tg2 d2 hMID => w_lt (Eq.refl _) ?_)
  by_cases k4 : 4 ≤ q
  · refine w_t (by rw [show (4 : Int32) = nI 4 from rfl, xp_le (by omega) (by omega)]; exact k4) ?_
    by_cases k7 : 7 ≤ q
    · refine w_t (by rw [show (7 : Int32) = nI 7 from rfl, xp_le (by omega) (by omega)]; exact k7) ?_
      by_cases e7 : q = 7
      · refine w_f (fun z => z (by rw [e7]; rfl)) ?_
        exact w_c0 (w_between _ (lo := 0) (hi := 10) (by omega) (by omega) (by decide) (by decide) (fun a _ ha => w_lt (Eq.refl _) (law_mv hN hMID hp ha hK)))
      refine w_t (ne_lit (c := 7) e7 (by omega) (by omega)) ?_
      by_cases e8 : q = 8
      · exact w_f (fun z => z (by rw [e8]; rfl)) (law_tc hN hMID hp hk hK)
      refine w_t (ne_lit (c := 8) e8 (by omega) (by omega)) ?_
      by_cases e9 : q = 9
      · exact w_f (fun z => z (by rw [e9]; rfl)) (w_lt (Eq.refl _) (law_590 hN hMID hk hK))
      refine w_t (ne_lit (c := 9) e9 (by omega) (by omega)) ?_
      by_cases e10 : q = 10
      · refine w_f (fun z => z (by rw [e10]; rfl)) (w_c0 (w_between _ (lo := 0) (hi := 3) (by omega) (by omega) (by decide) (by decide) (fun u _ hu => w_lt (Eq.refl _) ?_)))
        by_cases u0 : u = 0
        · rw [u0]
          exact w_f (fun z => z (Eq.refl _)) (law_764_0 hN hMID hK)
        refine w_t (ne_lit (c := 0) u0 (by omega) (by omega)) ?_
        by_cases u1 : u = 1
        · rw [u1]
          exact w_f (fun z => z (Eq.refl _)) (law_764_1 hN hMID hp hK)
        refine w_t (ne_lit (c := 1) u1 (by omega) (by omega)) ?_
        by_cases u2 : u = 2
        · rw [u2]
          exact law_764_2 hN hMID hk hK
        have u3 : u = 3 := by omega
        rw [u3]
        exact law_764_3 hN hMID hK
      refine w_t (ne_lit (c := 10) e10 (by omega) (by omega)) ?_
      by_cases e11 : q = 11
      · refine w_f (fun z => z (by rw [e11]; rfl)) ?_
        split
        · exact law_mn hN hM hMID hK
        · exact law_wk hN hM hMID hK
      exact w_t (ne_lit (c := 11) e11 (by omega) (by omega)) (law_un hN hMID hK)
    · exact w_f (by rw [show (7 : Int32) = nI 7 from rfl, xp_le (by omega) (by omega)]; exact k7) (w_lt (Eq.refl _) (law_258 hN hMID hp hk hK))
  · refine w_f (by rw [show (4 : Int32) = nI 4 from rfl, xp_le (by omega) (by omega)]; exact k4) ?_
    split
    · exact law_151 (dd := 15) hN hMID (by omega) (by omega) (by decide) hK
    · exact law_151 (dd := 3) hN hMID (by omega) (by omega) (by decide) hK
theorem room_6 {a : Nat} (h : 597000 ≤ a + 28000 * 20) : 1 ≤ a := by
  have e : 28000 * 20 = 560000 := by decide
  rw [e] at h
  omega
theorem room_7 {a : Nat} (h : 7033000 ≤ a + 300000 * 20) : 8 ≤ a := by
  have e : 300000 * 20 = 6000000 := by decide
  rw [e] at h
  omega
/-- the law's loop -/
theorem law_41 (hN : 1000 ≤ N) (hM : 60 ≤ M) (hSc : Sc.2.1 < 2 ^ 31) (h : LI b6 0 t n σ) (hK : ∀ τ, K 1 none τ) : hlL_law_41 N M Sc K N t b6 (nI n) 0 σ := by
  refine w_loop (S := Nat × Nat × xd_S) (fun fu r s => hlL_law_41 N M Sc K fu s.1 b6 (nI s.2.1) (nI r) s.2.2) 20 (fun r s => LI b6 r s.1 s.2.1 s.2.2) (fun fu s hI => ?_) (fun fu r s hr hI ih => ?_) N 0 (t, n, σ) (by omega) (by omega) h
  · obtain ⟨fr, tg, i, d, ta, X, J, B, R, hS, -, -, -, -, -, hC, hSl⟩ := hI
    show hbL_law_41 N M Sc K _ s.1 b6 (nI s.2.1) 20 s.2.2
    exact law_end hN hS (room_6 hC) (room_7 hSl) hK
  · exact law_step hN hM hSc hr hI (fun t' n' σ' h' => ih (t', n', σ') h')
/-- the law -/
theorem law_all (hN : 1000 ≤ N) (hM : 60 ≤ M) (hSc : Sc.2.1 < 2 ^ 31) (hRR : RR σ.2.1 J) (h18 : J 0 18 = nI 0) (hz : ∀ j, j < 66 → J 1 j = nI 0) (hC : 599864 ≤ σ.2.2.1) (hS : 7295376 ≤ σ.2.2.2) (hK : ∀ τ, K 1 none τ) : hL_law N M Sc σ K := by
  refine law_head hN hM hSc hRR h18 hz hC hS (fun τ fr tg t d ta X J b6 h1 h2 h3 h4 h5 h6 h7 h8 h9 => ?_)
  exact law_41 (n := 0) hN hM hSc ⟨fr, tg, 1, d, ta, X, J, 3, fun _ _ => 0, h1, ⟨by omega, h2⟩, fun a => by have := h3 a; omega, WAS.none h6 (Eq.refl _) (Eq.refl _) h7, PA.zero h4 _, ⟨by omega, fun q hq => absurd hq (Nat.not_lt_zero q)⟩, h8, h9⟩ hK
end
