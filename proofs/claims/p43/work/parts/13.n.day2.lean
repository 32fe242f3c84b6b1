-- ===== a day of the law =====
section
variable {σ σ0 τ : xd_S} {fr fr0 : xd_M} {tg : lTg} {i t : Nat} {d : lD} {ta : Nat → Option Nat} {X : lX} {k p a c : Nat} {w : Nat → Int32} {N : Nat} {K : xd_K}
theorem w_ages {c0 : Nat} (h : tG σ fr tg i t d ta X) (hw : XW X w) (hi : iW w) (hl : lawR fr (ta 15) w) (hN : 100 ≤ N) (hC : 14 ≤ σ.2.2.1) (hS : 56 ≤ σ.2.2.2) (hK : ∀ τ fr2 X2, fwd tg i σ fr τ fr2 → tG τ fr2 tg i t d ta X2 → XW X2 (edW (itr agW (c0, w) (xr w 62)).2) → K (nI (itr agW (c0, w) (xr w 62)).1) none τ) : hlX10_passes_319 N K N t 1 (nI c0) (nI 0) σ := by
  have hW := hi.nWB
  have hP := hi.nPB
  have key : ∀ fu j (τ : xd_S), xr w 62 < fu + j → j ≤ xr w 62 → (∃ fr2 X2, fwd tg i σ fr τ fr2 ∧ tG τ fr2 tg i t d ta X2 ∧ XW X2 (itr agW (c0, w) j).2 ∧ 14 - j ≤ τ.2.2.1 ∧ 4 * (14 - j) ≤ τ.2.2.2) → hlX10_passes_319 N K fu t 1 (nI (itr agW (c0, w) j).1) (nI j) τ := by
    refine w_loop (fun fu j (τ : xd_S) => hlX10_passes_319 N K fu t 1 (nI (itr agW (c0, w) j).1) (nI j) τ) (xr w 62) (fun j τ => ∃ fr2 X2, fwd tg i σ fr τ fr2 ∧ tG τ fr2 tg i t d ta X2 ∧ XW X2 (itr agW (c0, w) j).2 ∧ 14 - j ≤ τ.2.2.1 ∧ 4 * (14 - j) ≤ τ.2.2.2) (fun fu τ hh => ?_) (fun fu j τ hj hh hn => ?_)
    · obtain ⟨fr2, X2, h1, h2, h3, h4, h5⟩ := hh
      obtain ⟨hI, ho, hc⟩ := ag_inv hi c0 _ (Nat.le_refl _)
      show hbX10_passes_319 N K (hlX10_passes_319 N K fu) t 1 _ _ τ
      refine t_gI h2.T (by omega) ?_
      rw [h3.nw, ho 62 (by omega), hi.nW]
      refine w_t (by rw [xp_le (by omega) (by omega)]; omega) ?_
      unfold xd_lt
      exact w_ends h2 h3 hI hN (fun τ2 X3 g1 g2 g3 => hK τ2 fr2 X3 (h1.trans g1) g2 g3)
    · obtain ⟨fr2, X2, h1, h2, h3, h4, h5⟩ := hh
      obtain ⟨hI, ho, hc⟩ := ag_inv hi c0 j (by omega)
      have hnext := itr_s agW (c0, w) j
      generalize itr agW (c0, w) j = s at h3 hI ho hc hnext
      rw [hnext] at hn
      have e62 : xr s.2 62 = xr w 62 := xr_eq (ho 62 (by omega))
      have hjW : j < X2.2.2.2.2.1 ∧ X2.2.2.2.2.1 ≤ 14 := by rw [h3.nW]; omega
      have hun := hI.unsaidB (k := j) (by omega)
      have fin : ∀ τ2 fr3 X3 c2, fwd tg i τ fr2 τ2 fr3 → tG τ2 fr3 tg i t d ta X3 → XW X3 (agW j s).2 → c2 = (agW j s).1 → τ.2.2.1 ≤ τ2.2.2.1 + 1 → τ.2.2.2 ≤ τ2.2.2.2 + 4 → hbX10_passes_462 N K (hlX10_passes_319 N K fu) t 1 (nI c2) (nI j) τ2 := by
        intro τ2 fr3 X3 c2 g1 g2 g3 gc g4 g5
        subst gc
        unfold hbX10_passes_462 xd_lt
        rw [show (nI j + 1) = nI (j + 1) from (nI_succ j).symm]
        exact hn τ2 ⟨fr3, X3, h1.trans g1, g2, g3, by omega, by omega⟩
      show hbX10_passes_319 N K (hlX10_passes_319 N K fu) t 1 (nI s.1) (nI j) τ
      refine t_gI h2.T (by omega) ?_
      rw [h3.nw, ho 62 (by omega), hi.nW]
      refine w_f (by rw [xp_le (by omega) (by omega)]; omega) (t_g8 h2.T (t_aW h2.T rfl hjW (t_wI h2.T hjW.1 (j := 2) rfl (by omega) ?_)))
      rw [h3.lapsed (by omega)]
      by_cases c1 : (xr s.2 3).testBit j = true
      · have hs : agW j s = s := by unfold agW; rw [if_pos c1]
        rw [c1]
        exact w_f (by decide) (fin τ fr2 X2 s.1 fwd.rfl h2 (by rw [hs]; exact h3) (by rw [hs]) (by omega) (by omega))
      · have c1' : (xr s.2 3).testBit j = false := by simpa using c1
        rw [c1']
        refine w_t (by decide) (t_g8 h2.T (t_aW h2.T rfl hjW (t_g8 h2.T (t_aW h2.T rfl hjW (t_wI h2.T hjW.1 (j := 1) rfl (by omega) ?_)))))
        rw [h3.unsaid (by omega), hI.unsaid (by omega)]
        unfold xd_lt
        have hmin : (if nI (xr s.2 (4 + j)) + 1 < 9999 then nI (xr s.2 (4 + j)) + 1 else 9999) = nI (min 9999 (xr s.2 (4 + j) + 1)) := by
          rw [show (nI (xr s.2 (4 + j)) + 1) = nI (xr s.2 (4 + j) + 1) from (nI_succ _).symm]
          show (if nI (xr s.2 (4 + j) + 1) < nI 9999 then nI (xr s.2 (4 + j) + 1) else nI 9999) = _
          by_cases c : xr s.2 (4 + j) + 1 < 9999
          · rw [if_pos (nI_lt c (by omega)), Nat.min_eq_right (by omega)]
          · rw [if_neg (nI_nlt (by omega) (by omega)), Nat.min_eq_left (by omega)]
        rw [hmin]
        refine g_wS h2 hjW.1 (j := 1) rfl (by omega) rfl (fun τ2 q1 q2 q3 => ?_)
        have hw2 : XW (X2.1, up2 X2.2.1 j 1 (nI (min 9999 (xr s.2 (4 + j) + 1))), X2.2.2) (unW j s.2) := h3.uU hI (by omega)
        have hI2 := hI.un (k := j) (by omega)
        have eu : ∀ q, q ≠ 4 + j → unW j s.2 q = s.2 q := fun q hq => upd_n _ _ hq
        have u62 : xr (unW j s.2) 62 = xr w 62 := (xr_eq (eu 62 (by omega))).trans e62
        have u63 : xr (unW j s.2) 63 = xr s.2 63 := xr_eq (eu 63 (by omega))
        have hlR : lawR fr2 (ta 15) (unW j s.2) := hl.c h1.2.2.1 ((eu 65 (by omega)).trans (ho 65 (by omega))) (fun q hq => (eu q (by omega)).trans (ho q (by omega)))
        have b1 : τ2.2.2.1 = τ.2.2.1 := by rw [q1]
        have b2 : τ2.2.2.2 = τ.2.2.2 := by rw [q1]
        refine t_g8 q3.T (t_aW q3.T rfl hjW (t_wI q3.T hjW.1 (j := 1) rfl (by omega) ?_))
        rw [hw2.unsaid (by omega)]
        refine t_is q3.T (w_c0 (w_says (σ := (τ2.1, τ2.2.1, 0, 0)) (m := 0) (pl := 0) q3.b hw2 hI2 hlR hN (by omega) (by omega) (by omega) rfl rfl (fun z => absurd z (by omega)) ?_))
        by_cases c2 : sKeep (unW j s.2) j ≤ unW j s.2 (4 + j)
        · have hs : agW j s = (s.1 + 1, lpW j (unW j s.2)) := by unfold agW; rw [if_neg c1, if_pos c2]
          have hjU : j < xr (unW j s.2) 62 := by omega
          have hlap := hI2.lapsedP
          have hpW := hI2.pW
          refine w_t c2 (t_g8 q3.T (t_aW q3.T rfl hjW (g_wS q3.b hjW.1 (j := 2) (v2 := 1) rfl (by omega) rfl (fun τ3 r1 r2 r3 => ?_))))
          have hw3 := hw2.uL (k := j) (v := 1) (m := xr (unW j s.2) 3 ||| 2 ^ j) hI2 (fun q hq hne => by
            rw [Nat.testBit_or, Nat.testBit_two_pow]
            simp
            exact fun z => absurd z.symm hne) (by rw [Nat.testBit_or, Nat.testBit_two_pow]; simp; rfl) (by have := Nat.or_lt_two_pow hlap (p2_lt hjU); omega)
          have hI3 := hI2.l3 (k := j) hjU
          have d62 : xr (upd (unW j s.2) 3 (nI (xr (unW j s.2) 3 ||| 2 ^ j))) 62 = xr (unW j s.2) 62 := xr_eq (upd_n _ _ (by omega))
          have d63 : xr (upd (unW j s.2) 3 (nI (xr (unW j s.2) 3 ||| 2 ^ j))) 63 = xr (unW j s.2) 63 := xr_eq (upd_n _ _ (by omega))
          refine w_399 r3 hw3 hI3 (by rw [d62]; exact hjU) hN (by rw [r1]; show 1 ≤ τ2.2.2.1; omega) (by rw [r1]; show 4 ≤ τ2.2.2.2; omega) (fun τ4 fr4 X4 g1 g2 g3 g4 g5 => ?_)
          rw [d63] at g3
          rw [show (nI s.1 + 1) = nI (s.1 + 1) from (nI_succ _).symm]
          have r11 : τ3.2.2.1 = τ2.2.2.1 := by rw [r1]
          have r12 : τ3.2.2.2 = τ2.2.2.2 := by rw [r1]
          exact fin τ4 fr4 X4 (s.1 + 1) (q2.trans ((fwd.b0 (fwd.b r2)).trans g1)) g2 (by rw [hs]; exact g3) (by rw [hs]) (by omega) (by omega)
        · have hs : agW j s = (s.1, unW j s.2) := by unfold agW; rw [if_neg c1, if_neg c2]
          exact w_f c2 (fin _ fr2 _ s.1 (q2.b) q3.b (by rw [hs]; exact hw2) (by rw [hs]) (by show _ ≤ τ2.2.2.1 + 1; omega) (by show _ ≤ τ2.2.2.2 + 4; omega))
  exact key N 0 σ (by omega) (by omega) ⟨fr, X, fwd.rfl, h, hw, by omega, by omega⟩
/-- a day passes -/
theorem w_passes (h : tG σ fr tg i t d ta X) (hw : XW X w) (hi : iW w) (hl : lawR fr (ta 15) w) (hwk : wkT fr (ta 10) w) (hN : 100 ≤ N) (hC : 40 ≤ σ.2.2.1) (hS : 160 ≤ σ.2.2.2) (hK : ∀ τ fr2 X2, fwd tg i σ fr τ fr2 → tG τ fr2 tg i t d ta X2 → XW X2 (edW (psW w).2) → K (nI (psW w).1) none τ) : hX10_passes N t 1 σ K := by
  obtain ⟨b, c, h10, hb, hc1, hc2, hrows⟩ := id hwk
  unfold hX10_passes
  unfold xd_lt
  refine t_gT h.T (by omega) h10 ?_
  refine w_al (h.2.1.1 b c hb).1 hc1 rfl ?_
  rw [h10] at hwk
  refine w_lines (C := 24) (S := 96) h hw hi hl hwk hb hN (by omega) (by omega) (fun τ fr2 X2 g1 g2 g3 g4 g5 => ?_)
  obtain ⟨hI, ho⟩ := wks_inv hi _ (Nat.le_refl _)
  have hl2 : lawR fr2 (ta 15) (itr wkW w (xr w 67)) := hl.c g1.2.2.1 (ho 65 (by omega)) (fun q hq => ho q (by omega))
  refine w_chats (C := 14) (S := 56) g2 g3 hI hl2 hN (by omega) (by omega) (fun τ3 fr3 X3 s1 s2 s3 s4 s5 => ?_)
  have hch : iW (chsW (itr wkW w (xr w 67))) ∧ ∀ j, (62 ≤ j ∧ j < 748) ∨ 1348 ≤ j → chsW (itr wkW w (xr w 67)) j = w j := by
    unfold chsW
    split
    · exact ⟨hI, fun j hj => ho j (by omega)⟩
    · obtain ⟨k1, k2⟩ := chs_inv hI _ (Nat.le_refl _)
      exact ⟨k1, fun j hj => (k2 j (by omega)).trans (ho j (by omega))⟩
  have e62 : xr (chsW (itr wkW w (xr w 67))) 62 = xr w 62 := xr_eq (hch.2 62 (by omega))
  unfold hbX10_passes_317 xd_lt
  refine w_ages (c0 := 0) s2 s3 hch.1 (hl.c (g1.trans s1).2.2.1 (hch.2 65 (by omega)) (fun q hq => hch.2 q (by omega))) hN s4 s5 (fun τ4 fr4 X4 r1 r2 r3 => ?_)
  rw [e62] at r3 ⊢
  exact hK τ4 fr4 X4 (g1.trans (s1.trans r1)) r2 r3
end
