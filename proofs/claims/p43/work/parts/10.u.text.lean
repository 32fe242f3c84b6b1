-- ===== texts: WALKS, NEEDS are told; text =====
section
variable {N M : Nat} {I J : xc_M}
theorem text_walks (hN : 1000 ≤ N) (h : RR I J) : ∃ v I' J', fX9_text N M (nI 2) I = some (v, I') ∧ fX10_text N M (nI 2) J = some (v, J') ∧ RR I' J' := by
  have hw := h.1
  have hi := hw.i
  rcases text_rows (M := M) hN h (k := 2) (by omega) (fX6_readWalk 1 73) (fX10_aWalk N) waS (fun t c T I J R p1 p2 p3 p4 => wline_sim hN p1 p2 p3 p4) (fun k67 v5 v6 I R h4 hk hR => by
    obtain ⟨q, q1, q2⟩ := hk
    rw [bX6_read_67]
    refine e_f h4 (e_cr q1 (e_f q2 (e_t (by decide) (e_t (by decide) (e_f (fun z => z rfl) ?_)))))
    exact hR) (fun k7 J R h14 h20 hR => by
    rw [bX10_readsRows_7]
    exact e_f (by decide) (e_f h20 (e_t (by rw [h14]; decide) (e_f (by rw [h14]; exact fun z => z rfl) hR)))) (by decide +kernel) (fun I' J' h73 _ _ h17 => ⟨h73, h17, by omega, fun m hm => absurd hm (by omega)⟩) with hd | ⟨R, I8, J8, r1, r2, hin, hI8, hJ8, h4, h5, f0, f1, f25, f27⟩
  · exact hd
  · obtain ⟨s73, s17, s16, sw⟩ := hin
    obtain ⟨I9, c1, c2, c3⟩ := cp_rows (b := 61) (b' := 1) (a := 12) (n := 64) (by omega) rfl rfl (by omega) rfl (Or.inl (by omega)) (xc_wr I8 130 0 (nI 0))
    have hfg : fX10_forgets (xc_wr J8 0 18 (nI 0)) = some (nI 0, xc_wr (xc_wr J8 0 18 (nI 0)) 0 4 (nI 0)) := rfl
    obtain ⟨J9, d1, d2, d3, d4, d5⟩ := rv_puts (N := N) (J := xc_wr (xc_wr J8 0 18 (nI 0)) 0 4 (nI 0)) (R := R) (p := 628) (e := 4) (m := 67) (Z := J8 9) hN (by rw [xp_wr_cell (by omega), xp_wr_cell (by omega)]) (by omega) (by omega) (by omega) (by omega) (by omega) s16 (by rw [xp_wr_k (by omega), xp_wr_k (by omega)]; exact s17)
    have hw9 : ∀ j, j ≠ 67 → j < 628 ∨ 692 ≤ j → J9 1 j = J 1 j := fun j q1 q2 => by rw [d3 j q1 (by omega), xp_wr_cell (by omega), xp_wr_cell (by omega), hJ8 1 (by omega)]
    have hJ9 : ∀ a, a = 2 ∨ a = 3 → J9 a = J a := fun a ha => by rw [d2 a (by omega), xp_wr_cell (by omega), xp_wr_cell (by omega), hJ8 a (by omega)]
    have hI9 : ∀ a, a < 13 ∨ (15 ≤ a ∧ a < 61) ∨ (90 < a ∧ a < 130) → I9 a = I a := fun a ha => by rw [c3 a (by omega), xp_wr_cell (by omega)]; exact hI8 a (by omega)
    have hcp : ∀ a k, 12 ≤ a → a < 14 → k < cLen a → I9 (1 + a) k = I8 (61 + a) k := fun a k q1 q2 q3 => by rw [c2 a k q1 (by omega) q3, xp_wr_cell (by omega)]
    have x67 : xr (J9 1) 67 = R := xr_of d4 (by omega)
    have x62 : xr (J9 1) 62 = xr (J 1) 62 := xr_eq (hw9 62 (by omega) (by omega))
    have x63 : xr (J9 1) 63 = xr (J 1) 63 := xr_eq (hw9 63 (by omega) (by omega))
    have hJ81 : J8 1 = J 1 := hJ8 1 (by omega)
    have hz : ∀ i j, i < R → j < 4 → J9 1 (628 + j + 4 * i) = J8 9 (4 * i + j) := fun i j q1 q2 => by
      rw [show 628 + j + 4 * i = 628 + (4 * i + j) by omega]
      exact d5 _ (by omega)
    have hrow : ∀ i, i < R → waR I8 (J8 9) (xr (J9 1) 62) (xr (J9 1) 63) i := fun i hi2 => by
      rw [x62, x63, ← hJ81]
      exact sw i hi2
    have hkI : kIv (J9 1) := by
      intro i hi2
      rw [x67] at hi2
      obtain ⟨a0, a1, a2, a3, a4, a5, _⟩ := hrow i hi2
      have z0 : J9 1 (628 + 4 * i) = J8 9 (4 * i) := hz i 0 hi2 (by omega)
      have z1 : J9 1 (629 + 4 * i) = J8 9 (4 * i + 1) := hz i 1 hi2 (by omega)
      have z2 : J9 1 (630 + 4 * i) = J8 9 (4 * i + 2) := hz i 2 hi2 (by omega)
      have z3 : J9 1 (631 + 4 * i) = J8 9 (4 * i + 3) := hz i 3 hi2 (by omega)
      rw [xr_eq z2]
      exact ⟨vN_eq z0 a0, vN_eq z1 a1, vN_eq z2 a2, a3, fun z => vN_eq z3 (a4 z), fun z => vN_eq z3 (a5 z)⟩
    have hI10 : ∀ a, a ≠ 91 → (xc_wr I9 91 0 (nI 0)) a = I9 a := fun a ha => xp_wr_cell ha
    have hkR : kR 13 (xc_wr I9 91 0 (nI 0)) (J9 1) := by
      refine ⟨?_, fun i hi2 => ?_⟩
      · rw [hI10 13 (by omega), d4]
        exact (hcp 12 0 (by omega) (by omega) (by decide)).trans s73
      · rw [x67] at hi2
        obtain ⟨_, _, _, _, _, _, a6, a7, a8, a9⟩ := hrow i hi2
        have z0 : J9 1 (628 + 4 * i) = J8 9 (4 * i) := hz i 0 hi2 (by omega)
        have z1 : J9 1 (629 + 4 * i) = J8 9 (4 * i + 1) := hz i 1 hi2 (by omega)
        have z2 : J9 1 (630 + 4 * i) = J8 9 (4 * i + 2) := hz i 2 hi2 (by omega)
        have z3 : J9 1 (631 + 4 * i) = J8 9 (4 * i + 3) := hz i 3 hi2 (by omega)
        have hc : ∀ j, j < 64 → (xc_wr I9 91 0 (nI 0)) (13 + 1) j = I8 74 j := fun j hj => by
          rw [hI10 (13 + 1) (by omega)]
          exact hcp 13 j (by omega) (by omega) hj
        rw [xr_eq z2, hc _ (by omega), hc _ (by omega), hc _ (by omega), hc _ (by omega), z0, z1, z3]
        exact ⟨a6, a7, a8, a9⟩
    obtain ⟨_, _, _, _, _, _, lw, m1, _, m3, _⟩ := hw.2.2.1
    refine ⟨nI R, xc_wr I9 91 0 (nI 0), J9, ?_, r2 _ ?_, ?_⟩
    · unfold fX9_text
      exact e_cl r1 (e_lt rfl (e_mw rfl (e_t (ne_m (by omega)) (e_t (by decide) (e_t (by decide) (e_f (fun z => z rfl) (e_cv c1 (e_cv (v := nI 0) (J := xc_wr I9 91 0 (nI 0)) rfl rfl))))))))
    · rw [bX10_text_61]
      refine e_lt rfl (e_mw rfl (e_f (by decide) (e_cl (v := nI R) (J := J9) ?_ rfl)))
      unfold fX10_putsText
      exact e_f (by decide) (e_f (by decide) (e_t rfl (e_cv hfg (e_cl d1 rfl))))
    · refine RR_text h ?_ (hw9 0 (by omega) (by omega)) (past0 h.2.2.1 (xp_wr_s _ _ _ _) (by rw [d2 0 (by omega), xp_wr_s]) (by rw [xp_wr_k (by omega), hI9 91 (by omega)])) (fun a q1 q2 => by rw [hI10 a (by omega)]; exact hI9 a (by omega)) (by rw [hI10 0 (by omega), hI9 0 (by omega)]) (hJ9 2 (by omega)) (by rw [d2 0 (by omega), xp_wr_k (by omega), xp_wr_k (by omega)]; exact h5) (by rw [hI10 130 (by omega), c3 130 (by omega), xp_wr_s]) (by rw [d2 0 (by omega), xp_wr_k (by omega), xp_wr_s]) ⟨?_, ?_⟩
      · exact xW_txt hw (fun j hj => hw9 j (by omega) (by omega)) (fun a ha => by rw [hI10 a (by omega)]; exact hI9 a (by omega)) (vN_eq (hw9 65 (by omega) (by omega)) hi.2.2.2.2.1) (vN_eq (hw9 66 (by omega) (by omega)) hi.2.2.2.2.2.1) (vN_mk d4 (by omega) (by omega)) (vN_eq (hw9 68 (by omega) (by omega)) hi.2.2.2.2.2.2.2.1) (lI_q (fun j hj => hw9 j (by omega) (by omega)) hi.nLB hi.law) (mIv_q (fun j hj => hw9 j (by omega) (by omega)) hi.nMB ⟨hi.means, hi.ways1⟩) hkI (nIv_q (fun j hj => hw9 j (by omega) (by omega)) hi.nNB hi.needs) (lR_q (cc := 23) (fun j hj => hw9 j (by omega) (by omega)) (fun a q1 q2 => by rw [hI10 a (by omega)]; exact hI9 a (by omega)) hi.nLB hi.law lw) (mR_q (cc := 19) (fun j hj => hw9 j (by omega) (by omega)) (fun a q1 q2 => by rw [hI10 a (by omega)]; exact hI9 a (by omega)) hi.nMB hi.nWB hi.means m1) hkR (nR_q (cc := 15) (fun j hj => hw9 j (by omega) (by omega)) (fun a q1 q2 => by rw [hI10 a (by omega)]; exact hI9 a (by omega)) hi.nNB m3)
      · rw [hI10 132 (by omega), c3 132 (by omega), xp_wr_cell (by omega), f0, d2 0 (by omega), xp_wr_k (by omega), xp_wr_k (by omega), f25]
      · rw [hI10 132 (by omega), c3 132 (by omega), xp_wr_cell (by omega), f1, d2 0 (by omega), xp_wr_k (by omega), xp_wr_k (by omega), f27]
theorem text_needs (hN : 1000 ≤ N) (h : RR I J) : ∃ v I' J', fX9_text N M (nI 3) I = some (v, I') ∧ fX10_text N M (nI 3) J = some (v, J') ∧ RR I' J' := by
  have hw := h.1
  have hi := hw.i
  rcases text_rows (M := M) hN h (k := 3) (by omega) (fX6_readNeed 1 75) (fX10_aNeed N) neS (fun t c T I J R p1 p2 p3 p4 => need_sim hN p1 p2 p3 p4) (fun k67 v5 v6 I R h4 hk hR => by
    obtain ⟨q, q1, q2⟩ := hk
    rw [bX6_read_67]
    refine e_f h4 (e_cr q1 (e_f q2 (e_t (by decide) (e_t (by decide) (e_t (by decide) ?_)))))
    exact hR) (fun k7 J R h14 h20 hR => by
    rw [bX10_readsRows_7]
    exact e_f (by decide) (e_f h20 (e_t (by rw [h14]; decide) (e_t (by rw [h14]; decide) hR)))) (by decide +kernel) (fun I' J' _ h75 _ h17 => ⟨h75, h17, by omega, fun m hm => absurd hm (by omega)⟩) with hd | ⟨R, I8, J8, r1, r2, hin, hI8, hJ8, h4, h5, f0, f1, f25, f27⟩
  · exact hd
  · obtain ⟨s75, s17, s12, sw⟩ := hin
    obtain ⟨I9, c1, c2, c3⟩ := cp_rows (b := 61) (b' := 1) (a := 14) (n := 48) (by omega) rfl rfl (by omega) rfl (Or.inl (by omega)) (xc_wr I8 130 0 (nI 0))
    obtain ⟨J9, d1, d2, d3, d4, d5⟩ := rv_puts (N := N) (J := xc_wr J8 0 18 (nI 0)) (R := R) (p := 692) (e := 3) (m := 68) (Z := J8 9) hN (by rw [xp_wr_cell (by omega)]) (by omega) (by omega) (by omega) (by omega) (by omega) (by omega) (by rw [xp_wr_k (by omega)]; exact s17)
    have hw9 : ∀ j, j ≠ 68 → j < 692 ∨ 728 ≤ j → J9 1 j = J 1 j := fun j q1 q2 => by rw [d3 j q1 (by omega), xp_wr_cell (by omega), hJ8 1 (by omega)]
    have hJ9 : ∀ a, a = 2 ∨ a = 3 → J9 a = J a := fun a ha => by rw [d2 a (by omega), xp_wr_cell (by omega), hJ8 a (by omega)]
    have hI9 : ∀ a, a < 15 ∨ (17 ≤ a ∧ a < 61) ∨ (90 < a ∧ a < 130) → I9 a = I a := fun a ha => by rw [c3 a (by omega), xp_wr_cell (by omega)]; exact hI8 a (by omega)
    have hcp : ∀ a k, 14 ≤ a → a < 16 → k < cLen a → I9 (1 + a) k = I8 (61 + a) k := fun a k q1 q2 q3 => by rw [c2 a k q1 (by omega) q3, xp_wr_cell (by omega)]
    have x68 : xr (J9 1) 68 = R := xr_of d4 (by omega)
    have x62 : xr (J9 1) 62 = xr (J 1) 62 := xr_eq (hw9 62 (by omega) (by omega))
    have x66 : xr (J9 1) 66 = xr (J 1) 66 := xr_eq (hw9 66 (by omega) (by omega))
    have hJ81 : J8 1 = J 1 := hJ8 1 (by omega)
    have hz : ∀ i j, i < R → j < 3 → J9 1 (692 + j + 3 * i) = J8 9 (3 * i + j) := fun i j q1 q2 => by
      rw [show 692 + j + 3 * i = 692 + (3 * i + j) by omega]
      exact d5 _ (by omega)
    have hrow : ∀ i, i < R → neR I8 (J8 9) (xr (J9 1) 66) i := fun i hi2 => by
      rw [x66, ← hJ81]
      exact sw i hi2
    have hnI : nIv (J9 1) := by
      intro i hi2
      rw [x68] at hi2
      obtain ⟨a0, a1, a2, _⟩ := hrow i hi2
      have z0 : J9 1 (692 + 3 * i) = J8 9 (3 * i) := hz i 0 hi2 (by omega)
      have z1 : J9 1 (693 + 3 * i) = J8 9 (3 * i + 1) := hz i 1 hi2 (by omega)
      have z2 : J9 1 (694 + 3 * i) = J8 9 (3 * i + 2) := hz i 2 hi2 (by omega)
      exact ⟨vN_eq z0 a0, vN_eq z1 a1, vN_eq z2 a2⟩
    have hnR : nR 15 I9 (J9 1) := by
      refine ⟨?_, fun i hi2 => ?_⟩
      · rw [d4]
        exact (hcp 14 0 (by omega) (by omega) (by decide)).trans s75
      · rw [x68] at hi2
        obtain ⟨_, _, _, a3, a4, a5⟩ := hrow i hi2
        have z0 : J9 1 (692 + 3 * i) = J8 9 (3 * i) := hz i 0 hi2 (by omega)
        have z1 : J9 1 (693 + 3 * i) = J8 9 (3 * i + 1) := hz i 1 hi2 (by omega)
        have z2 : J9 1 (694 + 3 * i) = J8 9 (3 * i + 2) := hz i 2 hi2 (by omega)
        have hc : ∀ j, j < 48 → I9 (15 + 1) j = I8 76 j := fun j hj => hcp 15 j (by omega) (by omega) hj
        rw [hc _ (by omega), hc _ (by omega), hc _ (by omega), z0, z1, z2]
        exact ⟨a3, a4, a5⟩
    obtain ⟨_, _, _, _, _, _, lw, m1, m2, _, _⟩ := hw.2.2.1
    refine ⟨nI R, I9, J9, ?_, r2 _ ?_, ?_⟩
    · unfold fX9_text
      exact e_cl r1 (e_lt rfl (e_mw rfl (e_t (ne_m (by omega)) (e_t (by decide) (e_t (by decide) (e_t (by decide) (e_cv c1 rfl)))))))
    · rw [bX10_text_61]
      refine e_lt rfl (e_mw rfl (e_f (by decide) (e_cl (v := nI R) (J := J9) ?_ rfl)))
      unfold fX10_putsText
      exact e_f (by decide) (e_f (by decide) (e_f (by decide) (e_cl d1 rfl)))
    · refine RR_text h ?_ (hw9 0 (by omega) (by omega)) (pastR_keep (fun a q1 q2 => hI9 a (by omega)) (by rw [d2 0 (by omega), xp_wr_k (by omega)]; exact h4) (hJ9 3 (by omega)) x62 h.2.2.1) (fun a q1 q2 => hI9 a (by omega)) (by rw [hI9 0 (by omega)]) (hJ9 2 (by omega)) (by rw [d2 0 (by omega), xp_wr_k (by omega)]; exact h5) (by rw [c3 130 (by omega), xp_wr_s]) (by rw [d2 0 (by omega), xp_wr_s]) ⟨?_, ?_⟩
      · exact xW_txt hw (fun j hj => hw9 j (by omega) (by omega)) (fun a ha => hI9 a (by omega)) (vN_eq (hw9 65 (by omega) (by omega)) hi.2.2.2.2.1) (vN_eq (hw9 66 (by omega) (by omega)) hi.2.2.2.2.2.1) (vN_eq (hw9 67 (by omega) (by omega)) hi.2.2.2.2.2.2.1) (vN_mk d4 (by omega) (by omega)) (lI_q (fun j hj => hw9 j (by omega) (by omega)) hi.nLB hi.law) (mIv_q (fun j hj => hw9 j (by omega) (by omega)) hi.nMB ⟨hi.means, hi.ways1⟩) (kIv_q (fun j hj => hw9 j (by omega) (by omega)) hi.nKB hi.walks) hnI (lR_q (cc := 23) (fun j hj => hw9 j (by omega) (by omega)) (fun a q1 q2 => hI9 a (by omega)) hi.nLB hi.law lw) (mR_q (cc := 19) (fun j hj => hw9 j (by omega) (by omega)) (fun a q1 q2 => hI9 a (by omega)) hi.nMB hi.nWB hi.means m1) (kR_q (cc := 13) (fun j hj => hw9 j (by omega) (by omega)) (fun a q1 q2 => hI9 a (by omega)) hi.nKB m2) hnR
      · rw [c3 132 (by omega), xp_wr_cell (by omega), f0, d2 0 (by omega), xp_wr_k (by omega), f25]
      · rw [c3 132 (by omega), xp_wr_cell (by omega), f1, d2 0 (by omega), xp_wr_k (by omega), f27]
theorem text_both (hN : 1000 ≤ N) (hM : 60 ≤ M) (h : RR I J) (v1 : Int32) : ∃ v I' J', fX9_text N M v1 I = some (v, I') ∧ fX10_text N M v1 J = some (v, J') ∧ RR I' J' := by
  rcases oN_or v1 (n := 3 + 1) (by omega) with ho | ⟨k, hk, rfl⟩
  · refine ⟨mI, xc_wr (xc_wr (xc_wr I 132 0 (nI 0)) 132 1 mI) 130 0 (nI 0), xc_wr (xc_wr (xc_wr J 0 25 (nI 0)) 0 27 mI) 0 18 (nI 0), ?_, ?_, ?_⟩
    · unfold fX9_text
      refine e_cl (v := mI) (J := xc_wr (xc_wr I 132 0 (nI 0)) 132 1 mI) ?_ (e_lt rfl (e_mw rfl (e_f (fun z => z rfl) rfl)))
      unfold fX6_read
      refine e_mw rfl (e_mw rfl ?_)
      by_cases z : v1 < (0 : Int32)
      · exact e_t z rfl
      · refine e_f z (e_f ?_ rfl)
        rcases ho with ho | ho
        · exact absurd ho z
        · intro q
          rw [Int32.le_iff_toInt_le, nI_toInt (by omega)] at ho
          rw [show (3 : Int32) = nI 3 from rfl, Int32.le_iff_toInt_le, nI_toInt (by omega)] at q
          omega
    · unfold fX10_text
      exact e_mw rfl (e_mw rfl (e_cr (rv_isIn_o (n := 3) ho (by omega)) (e_f (fun z => z rfl) (e_mw rfl rfl))))
    · have hJ1 : ∀ a, a ≠ 0 → (xc_wr (xc_wr (xc_wr J 0 25 (nI 0)) 0 27 mI) 0 18 (nI 0)) a = J a := fun a ha => by rw [xp_wr_cell ha, xp_wr_cell ha, xp_wr_cell ha]
      have hIa : ∀ a, a < 130 → (xc_wr (xc_wr (xc_wr I 132 0 (nI 0)) 132 1 mI) 130 0 (nI 0)) a = I a := fun a ha => by rw [xp_wr_cell (by omega), xp_wr_cell (by omega), xp_wr_cell (by omega)]
      refine RR_text h ?_ (by rw [hJ1 1 (by omega)]) (pastR_keep (fun a q1 q2 => hIa a q2) (by rw [xp_wr_k (by omega), xp_wr_k (by omega), xp_wr_k (by omega)]) (hJ1 3 (by omega)) (by rw [hJ1 1 (by omega)]) h.2.2.1) (fun a q1 q2 => hIa a (by omega)) (by rw [hIa 0 (by omega)]) (hJ1 2 (by omega)) (by rw [xp_wr_k (by omega), xp_wr_k (by omega), xp_wr_k (by omega)]) (xp_wr_s _ _ _ _) (xp_wr_s _ _ _ _) ⟨?_, ?_⟩
      · rw [hJ1 1 (by omega)]
        exact xW_frame (fun a q1 q2 => hIa a (by omega)) h.1
      · rw [xp_wr_cell (by omega), xp_wr_k (by omega), xp_wr_s, xp_wr_k (by omega), xp_wr_k (by omega), xp_wr_s]
      · rw [xp_wr_cell (by omega), xp_wr_s, xp_wr_k (by omega), xp_wr_s]
  · have hc : k = 0 ∨ k = 1 ∨ k = 2 ∨ k = 3 := by omega
    rcases hc with z | z | z | z <;> subst z
    · exact text_means hN h
    · exact text_law hN hM h
    · exact text_walks hN h
    · exact text_needs hN h
end
