-- ===== THE IMAGE; a World's copy =====
/-- how many places of a World's cell a are copied -/
def cLen (a : Nat) : Nat := [3, 14, 14, 100, 3, 14, 14, 10, 10, 10, 1, 600, 1, 64, 1, 48, 1, 40, 1, 10, 60, 60, 1, 16, 16, 16, 16, 400].getD a 0
theorem xW_copy {fl : Bool} {b b' : Nat} {I I' : xc_M} {w w' : Nat → Int32} (hw : ∀ j, j < 2232 → w' j = w j) (hI : ∀ a k, a < 28 → k < cLen a → ¬ (a = 0 ∧ k = 2) → I' (b' + a) k = I (b + a) k) (fl' : Bool) (hf : fl' = true → fl = true) (hc : I' b' 2 = if fl' then w' 64 else 0) (h : xW fl b I w) : xW fl' b' I' w' := by
  obtain ⟨⟨hi1, hi2⟩, g2, g3, g4⟩ := h
  obtain ⟨c1, c2, c3, c4, c5, c6, c7, c8, c9, c10, c11, c12, c13, c14, c15, c16⟩ := id hi2
  obtain ⟨s1, s2, s3, s4, s5, s6, s7, s8⟩ := g2
  obtain ⟨r0, r1, r2, r3, r4, r5, ⟨l1, l2⟩, ⟨m1, m2⟩, ⟨k1, k2⟩, ⟨n1, n2⟩, ⟨t1, t2⟩⟩ := g3
  have e62 := xr_eq (hw 62 (by omega))
  have hteq : teq w w' := ⟨fun j hj => hw j (by omega), by rw [e62]; exact Nat.le_refl _, by rw [xr_eq (hw 63 (by omega))]; exact Nat.le_refl _, fun k hk => hw _ (by have := c1.2; omega)⟩
  have e65 := xr_eq (hw 65 (by omega))
  have e66 := xr_eq (hw 66 (by omega))
  have e67 := xr_eq (hw 67 (by omega))
  have e68 := xr_eq (hw 68 (by omega))
  have e69 := xr_eq (hw 69 (by omega))
  have hB65 := c4.2
  have hB66 := c5.2
  have hB67 := c6.2
  have hB68 := c7.2
  have hB69 := c8.2
  have i0 : I' b' 0 = I b 0 := hI 0 0 (by omega) (by decide) (by omega)
  have i1 : I' b' 1 = I b 1 := hI 0 1 (by omega) (by decide) (by omega)
  have ic : ∀ a k, 0 < a → a < 28 → k < cLen a → I' (b' + a) k = I (b + a) k := fun a k h0 h1 h2 => hI a k h1 h2 (by omega)
  refine ⟨⟨by rw [e62]; exact bI_c (fun j hj => hw j (by omega)) hi1, vN_eq (hw _ (by omega)) c1, vN_eq (hw _ (by omega)) c2, vN_eq (hw _ (by omega)) c3, vN_eq (hw _ (by omega)) c4, vN_eq (hw _ (by omega)) c5, vN_eq (hw _ (by omega)) c6, vN_eq (hw _ (by omega)) c7, vN_eq (hw _ (by omega)) c8, fun k hk => vN_eq (hw _ (by omega)) (c9 k hk), fun k hk => by rw [e62]; exact vN_eq (hw _ (by omega)) (c10 k hk), fun k hk => vN_eq (hw _ (by omega)) (c11 k hk), lI_t hteq c4.2 c12, mw_t hteq c5.2 c13, k_t hteq c6.2 c14, n_t hteq c7.2 c15, t_t (fun j hj => hw j (by omega)) hteq.2.1 c8.2 c16⟩, ?_, ?_, ?_⟩
  · refine ⟨?_, ?_, ?_, fun k hk => ?_, fun k hk => ?_, fun k hk => ?_, fun k hk => ?_, fun k hk => ?_⟩
    · rw [ic 4 0 (by omega) (by omega) (by decide), hw _ (by omega)]; exact s1
    · rw [ic 4 1 (by omega) (by omega) (by decide), hw _ (by omega)]; exact s2
    · rw [ic 4 2 (by omega) (by omega) (by decide), hw _ (by omega)]; exact s3
    · exact (ic 5 k (by omega) (by omega) hk).trans (by rw [hw _ (by omega)]; exact s4 k hk)
    · exact (ic 6 k (by omega) (by omega) hk).trans (by rw [hw _ (by omega)]; exact s5 k hk)
    · exact (ic 7 k (by omega) (by omega) hk).trans (by rw [hw _ (by omega)]; exact s6 k hk)
    · exact (ic 8 k (by omega) (by omega) hk).trans (by rw [hw _ (by omega)]; exact s7 k hk)
    · exact (ic 9 k (by omega) (by omega) hk).trans (by rw [hw _ (by omega)]; exact s8 k hk)
  · refine ⟨by rw [i0, hw _ (by omega)]; exact r0, by rw [i1, hw _ (by omega)]; exact r1, hc, fun k hk => by rw [ic 1 k (by omega) (by omega) hk, hw _ (by omega)]; exact r3 k hk, fun k hk => by rw [ic 2 k (by omega) (by omega) hk, hw _ (by omega)]; exact r4 k hk, fun k hk => by rw [ic 3 k (by omega) (by omega) hk, hw _ (by omega)]; exact r5 k hk, ⟨?_, fun i hi => ?_⟩, ⟨?_, fun m hm => ?_⟩, ⟨?_, fun i hi => ?_⟩, ⟨?_, fun i hi => ?_⟩, ⟨?_, fun i hi => ?_⟩⟩
    · rw [ic 22 0 (by omega) (by omega) (by decide), hw _ (by omega)]; exact l1
    · rw [e65] at hi
      have hM := (c12 i hi).2.1.2
      have hT := (c12 i hi).2.2.1.2
      have hi16 : i < 16 := by omega
      obtain ⟨a0, a, m, e, q1, q2, q3, q4, q5, q6, q7, q8⟩ := l2 i hi
      have hcod : ∀ x y, y ≤ 400 → lcod I' (b' + 22) x y = lcod I (b + 22) x y := fun x y hy => by
        unfold lcod
        apply List.map_congr_left
        intro j hj
        have hj2 := List.mem_range.mp hj
        exact ic 27 (x + j) (by omega) (by omega) (show x + j < 400 by omega)
      simp only [lseg_t hteq (a := xr w (1348 + i)) (b := xr w (1364 + i)) (by omega), lseg_t hteq (a := xr w (1364 + i)) (b := xr w (1380 + i)) (by omega), hteq.x (j := 1348 + i) (by omega), hteq.x (j := 1364 + i) (by omega), hteq.x (j := 1380 + i) (by omega), hteq.x (j := 1396 + i) (by omega)]
      exact ⟨(ic 23 i (by omega) (by omega) hi16).trans a0, a, m, e, (ic 24 i (by omega) (by omega) hi16).trans q1, (ic 25 i (by omega) (by omega) hi16).trans q2, (ic 26 i (by omega) (by omega) hi16).trans q3, q4, q5, q6, by rw [hcod _ _ (by omega)]; exact q7, by rw [hcod _ _ (by omega)]; exact q8⟩
    · rw [ic 18 0 (by omega) (by omega) (by decide), hw _ (by omega)]; exact m1
    · rw [e66] at hm
      obtain ⟨a1, a2⟩ := c13.1 m hm
      obtain ⟨q1, q2⟩ := m2 m hm
      have hi6 := a1.2
      refine ⟨(ic 19 m (by omega) (by omega) (show m < 10 by omega)).trans (by rw [hw _ (by omega)]; exact q1), fun i hi => ?_⟩
      rw [hteq.x (by omega)] at hi
      obtain ⟨b1, b2⟩ := a2 i hi
      rw [wS_t hteq (by omega) (by omega) b1.2, wL_t hteq (by omega) (by omega) b1.2 (fun k hk => (b2 k hk).2)]
      exact ⟨(ic 20 (6 * m + i) (by omega) (by omega) (show 6 * m + i < 60 by omega)).trans (q2 i hi).1, (ic 21 (6 * m + i) (by omega) (by omega) (show 6 * m + i < 60 by omega)).trans (q2 i hi).2⟩
    · rw [ic 12 0 (by omega) (by omega) (by decide), hw _ (by omega)]; exact k1
    · rw [e67] at hi
      obtain ⟨a1, a2, a3, a4⟩ := k2 i hi
      rw [hw (628 + 4 * i) (by omega), hw (629 + 4 * i) (by omega), hw (631 + 4 * i) (by omega), hteq.x (j := 630 + 4 * i) (by omega)]
      exact ⟨(ic 13 (4 * i) (by omega) (by omega) (show 4 * i < 64 by omega)).trans a1, (ic 13 (4 * i + 1) (by omega) (by omega) (show 4 * i + 1 < 64 by omega)).trans a2, (ic 13 (4 * i + 2) (by omega) (by omega) (show 4 * i + 2 < 64 by omega)).trans a3, fun q => (ic 13 (4 * i + 3) (by omega) (by omega) (show 4 * i + 3 < 64 by omega)).trans (a4 q)⟩
    · rw [ic 14 0 (by omega) (by omega) (by decide), hw _ (by omega)]; exact n1
    · rw [e68] at hi
      obtain ⟨a1, a2, a3⟩ := n2 i hi
      rw [hw (692 + 3 * i) (by omega), hw (693 + 3 * i) (by omega), hw (694 + 3 * i) (by omega)]
      exact ⟨(ic 15 (4 * i) (by omega) (by omega) (show 4 * i < 48 by omega)).trans a1, (ic 15 (4 * i + 1) (by omega) (by omega) (show 4 * i + 1 < 48 by omega)).trans a2, (ic 15 (4 * i + 2) (by omega) (by omega) (show 4 * i + 2 < 48 by omega)).trans a3⟩
    · rw [ic 16 0 (by omega) (by omega) (by decide), hw _ (by omega)]; exact t1
    · rw [e69] at hi
      obtain ⟨a1, a2⟩ := t2 i hi
      rw [hw (728 + 2 * i) (by omega), hw (729 + 2 * i) (by omega)]
      exact ⟨(ic 17 (4 * i) (by omega) (by omega) (show 4 * i < 40 by omega)).trans a1, (ic 17 (4 * i + 1) (by omega) (by omega) (show 4 * i + 1 < 40 by omega)).trans a2⟩
  · obtain ⟨o1, o2⟩ := g4
    refine ⟨?_, fun q => ?_⟩
    · obtain ⟨n, q1, q2⟩ := o1
      exact ⟨n, q1, (ic 10 0 (by omega) (by omega) (by decide)).trans q2⟩
    · obtain ⟨q1, q2⟩ := o2 (hf q)
      refine ⟨(ic 10 0 (by omega) (by omega) (by decide)).trans (by rw [hw _ (by omega)]; exact q1), fun j hj => ?_⟩
      exact (ic 11 j (by omega) (by omega) hj).trans (by rw [hw _ (by omega)]; exact q2 j hj)
