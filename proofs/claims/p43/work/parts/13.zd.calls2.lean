-- ===== move, teach, carve, days: by the row =====
section
variable {I J : xc_M} {k p a N n : Nat} {R : Nat → Nat → Int32}
theorem oN_of {a b : Nat} (h1 : ¬ a < b) (h2 : a < 2 ^ 31) (h3 : b < 2 ^ 31) : oN (nI a) b := Or.inr (by rw [nI_leI (by omega) (by omega)]; omega)
theorem rs_keeps2 (h : RR I J) (hp : PA J n R) (hN : 1000 ≤ N) : ∃ I2 J2, fX10_keeps N J = some (nI 0, J2) ∧ xS true 1 I2 J2 I2 J2 ∧ J2 1 = J 1 ∧ PA J2 (min 6 (n + 1)) (pushR n R (J 1)) ∧ J2 0 18 = J 0 18 ∧ ∀ I3 J3, xS true 1 I2 J2 I3 J3 → xr (J3 1) 0 < 10000 → RR I3 J3 := by
  obtain ⟨I2, J2, -, g2, g3, g4, k5, k6, k7, k8⟩ := keep_both hN h
  obtain ⟨I4, J4, q1, q2, q3, q4, q5⟩ := rs_keeps h hp hN
  have := some_det g2 q1
  subst this
  exact ⟨I2, J2, g2, g3, g4, q4, q5, fun I3 J3 u1 u2 => RR_xS u1 u2 k5 k6 k7 k8⟩
theorem c_move0 (h : RR I J) (hN : 1000 ≤ N) (hp : p < 2 ^ 31) (ha : a < 2 ^ 31) (hc : ¬ (p < xr (J 1) 63 ∧ a < 10 ∧ xr (J 1) (32 + p) ≠ a)) : ∃ I2, fX9_move (nI p) (nI a) I = some (0, I2) ∧ RR I2 J := by
  have hw := h.1.i
  have hP := hw.nPB
  obtain ⟨v, I2, J2, g1, g2, g3⟩ := move_both hN h (nI p) (nI a)
  have q : fX10_move N (nI p) (nI a) J = some (0, J) := by
    unfold fX10_move
    by_cases c1 : p < xr (J 1) 63
    · refine e_cr (rv_isPerson_t hw c1) (e_f (by decide) ?_)
      by_cases c2 : a < 10
      · have hat2 := hw.at (p := p) (by omega)
        have c3 : xr (J 1) (32 + p) = a := Classical.byContradiction fun z => hc ⟨c1, c2, z⟩
        refine e_cr (rv_isPlace_t c2) (e_f (by decide) (e_rd (k := 32 + p) (nI_add 32 p) (by omega) hat2 (e_f ?_ rfl)))
        rw [c3]
        exact fun z => z rfl
      · exact e_cr (rv_isPlace_o (oN_of c2 ha (by omega))) (e_t rfl rfl)
    · exact e_cr (rv_isPerson_o hw (oN_of c1 hp (by omega))) (e_t rfl rfl)
  obtain ⟨r1, r2⟩ := some_det2 g2 q
  subst r1 r2
  exact ⟨I2, g1, g3⟩
theorem c_move (h : RR I J) (hpa : PA J n R) (hN : 1000 ≤ N) (hp : p < xr (J 1) 63) (ha : a < 10) (hc : xr (J 1) (32 + p) ≠ a) : ∃ I2 J2, fX9_move (nI p) (nI a) I = some (1, I2) ∧ RR I2 J2 ∧ J2 1 = ntw (upd (J 1) (32 + p) (nI a)) 3 (nI p) (nI a) ∧ PA J2 (min 6 (n + 1)) (pushR n R (J 1)) ∧ J2 0 18 = J 0 18 := by
  have hw := h.1.i
  have hP := hw.nPB
  obtain ⟨v, I2, J2, g1, g2, g3⟩ := move_both hN h (nI p) (nI a)
  obtain ⟨I4, J4, k1, k2, k3, k4, k5⟩ := rs_keeps h hpa hN
  obtain ⟨I5, J5, u1, u2, u3, u4⟩ := rs_move k2 (p := p) (a := a) (by rw [k3]; exact hp) ha
  have hat2 := hw.at (p := p) (by omega)
  have hab := hw.atB (p := p) (by omega)
  have q : fX10_move N (nI p) (nI a) J = some (1, J5) := by
    unfold fX10_move
    refine e_cr (rv_isPerson_t hw hp) (e_f (by decide) (e_cr (rv_isPlace_t ha) (e_f (by decide) (e_rd (k := 32 + p) (nI_add 32 p) (by omega) hat2 (e_t ?_ (e_cv k1 (e_cv u1 rfl)))))))
    exact fun z => hc ((nI_eq (by omega) (by omega)).mp z)
  obtain ⟨r1, r2⟩ := some_det2 g2 q
  subst r1 r2
  rw [k3] at u2
  exact ⟨I2, J2, g1, g3, u2, k4.keep (u3.2.2.2.1 3 (by omega) (by omega) (by omega) (by omega)) (u4 4), (u4 18).trans k5⟩
theorem c_teach0 (h : RR I J) (hN : 1000 ≤ N) (hp : p < 2 ^ 31) (hk : k < 2 ^ 31) (hc : ¬ (p < xr (J 1) 63 ∧ k < xr (J 1) 62 ∧ (xr (J 1) 3).testBit k = false ∧ (xr (J 1) (42 + p)).testBit k = false)) : ∃ I2, fX9_teach (nI p) (nI k) I = some (0, I2) ∧ RR I2 J := by
  have hw := h.1.i
  have hP := hw.nPB
  have hW := hw.nWB
  obtain ⟨v, I2, J2, g1, g2, g3⟩ := teach_both hN h (nI p) (nI k)
  have q : fX10_teach N (nI p) (nI k) J = some (0, J) := by
    unfold fX10_teach
    by_cases c1 : p < xr (J 1) 63
    · refine e_cr (rv_isPerson_t hw c1) (e_f (by decide) ?_)
      by_cases c2 : k < xr (J 1) 62
      · refine e_cr (rv_isWord_t hw c2) (e_f (by decide) ?_)
        have hl2 := rv_hasLapsed hw (k := k) (by omega)
        have ht2 := rv_has hw (p := p) (k := k) (by omega) (by omega)
        cases c3 : (xr (J 1) 3).testBit k with
        | true =>
          rw [c3] at hl2
          exact e_cr hl2 (e_t (by decide) rfl)
        | false =>
          rw [c3] at hl2
          refine e_cr hl2 (e_f (by decide) ?_)
          cases c4 : (xr (J 1) (42 + p)).testBit k with
          | true =>
            rw [c4] at ht2
            exact e_cr ht2 (e_f (by decide) rfl)
          | false => exact absurd ⟨c1, c2, c3, c4⟩ hc
      · exact e_cr (rv_isWord_o hw (oN_of c2 hk (by omega))) (e_t rfl rfl)
    · exact e_cr (rv_isPerson_o hw (oN_of c1 hp (by omega))) (e_t rfl rfl)
  obtain ⟨r1, r2⟩ := some_det2 g2 q
  subst r1 r2
  exact ⟨I2, g1, g3⟩
theorem c_teach (h : RR I J) (hpa : PA J n R) (hN : 1000 ≤ N) (hp : p < xr (J 1) 63) (hk : k < xr (J 1) 62) (hl : (xr (J 1) 3).testBit k = false) (ht : (xr (J 1) (42 + p)).testBit k = false) : ∃ I2 J2, fX9_teach (nI p) (nI k) I = some (1, I2) ∧ RR I2 J2 ∧ J2 1 = ntw (upd (J 1) (42 + p) (nI (xr (J 1) (42 + p) ||| 2 ^ k))) 4 (nI p) (nI k) ∧ PA J2 (min 6 (n + 1)) (pushR n R (J 1)) ∧ J2 0 18 = J 0 18 := by
  have hw := h.1.i
  have hP := hw.nPB
  have hW := hw.nWB
  obtain ⟨v, I2, J2, g1, g2, g3⟩ := teach_both hN h (nI p) (nI k)
  obtain ⟨I4, J4, k1, k2, k3, k4, k5⟩ := rs_keeps h hpa hN
  have hl2 := rv_hasLapsed hw (k := k) (by omega)
  have ht2 := rv_has hw (p := p) (k := k) (by omega) (by omega)
  rw [hl] at hl2
  rw [ht] at ht2
  have b4 : J4 1 (42 + p) = nI (xr (J 1) (42 + p)) := by rw [k3]; exact hw.tongue (by omega)
  obtain ⟨J3, hJ3⟩ : ∃ J3, xc_wr J4 1 (42 + p) (nI (xr (J 1) (42 + p) ||| 2 ^ k)) = J3 := ⟨_, rfl⟩
  have h31 : J3 1 = upd (J 1) (42 + p) (nI (xr (J 1) (42 + p) ||| 2 ^ k)) := by rw [← hJ3, wr_updJ, k3]
  have hI3 : iW (J3 1) := by
    rw [h31]
    exact hw.up (by omega) (by omega) (by omega) (by omega) (by omega) (by omega) (fun _ _ => ⟨_, Nat.or_lt_two_pow (hw.tongueP (by omega)) (p2_lt hk), rfl⟩) (by omega)
  obtain ⟨J5, n1, n2, n3⟩ := rs_notes (J := J3) hI3 (by rw [← hJ3, xp_wr_cell (by omega)]; exact k2.2.1) (nI 4) (nI p) (nI k)
  have q : fX10_teach N (nI p) (nI k) J = some (1, J5) := by
    unfold fX10_teach
    refine e_cr (rv_isPerson_t hw hp) (e_f (by decide) (e_cr (rv_isWord_t hw hk) (e_f (by decide) (e_cr hl2 (e_f (by decide) (e_cr ht2 (e_t (by decide) (e_cv k1 (e_rd (k := 42 + p) (nI_add 42 p) (by omega) b4 (e_st (k := 42 + p) (nI_add 42 p) (by omega) (v := nI (xr (J 1) (42 + p) ||| 2 ^ k)) ?_ ?_))))))))))
    · rw [show (1 : Int32) = nI 1 from rfl, show (31 : Int32) = nI 31 from rfl, xp_bs (by omega), xp_or]
    · rw [hJ3]
      exact e_cv n1 rfl
  obtain ⟨r1, r2⟩ := some_det2 g2 q
  subst r1 r2
  rw [h31] at n2
  refine ⟨I2, J2, g1, g3, n2, k4.keep ?_ ?_, ?_⟩
  · rw [n3 3 (by omega), ← hJ3, xp_wr_cell (by omega)]
  · rw [n3 0 (by omega), ← hJ3, xp_wr_cell (by omega)]
  · rw [n3 0 (by omega), ← hJ3, xp_wr_cell (by omega)]
    exact k5
theorem c_carve0 (h : RR I J) (hN : 1000 ≤ N) (hk : k < 2 ^ 31) (hc : ¬ (k < xr (J 1) 62 ∧ (xr (J 1) 3).testBit k = true)) : ∃ I2, fX9_carve (nI k) I = some (0, I2) ∧ RR I2 J := by
  have hw := h.1.i
  have hW := hw.nWB
  obtain ⟨v, I2, J2, g1, g2, g3⟩ := carve_both hN h (nI k)
  have q : fX10_carve N (nI k) J = some (0, J) := by
    unfold fX10_carve
    by_cases c2 : k < xr (J 1) 62
    · refine e_cr (rv_isWord_t hw c2) (e_f (by decide) ?_)
      have hl2 := rv_hasLapsed hw (k := k) (by omega)
      cases c3 : (xr (J 1) 3).testBit k with
      | true => exact absurd ⟨c2, c3⟩ hc
      | false =>
        rw [c3] at hl2
        exact e_cr hl2 (e_f (by decide) rfl)
    · exact e_cr (rv_isWord_o hw (oN_of c2 hk (by omega))) (e_t rfl rfl)
  obtain ⟨r1, r2⟩ := some_det2 g2 q
  subst r1 r2
  exact ⟨I2, g1, g3⟩
theorem c_carve (h : RR I J) (hpa : PA J n R) (hN : 1000 ≤ N) (hk : k < xr (J 1) 62) (hl : (xr (J 1) 3).testBit k = true) : ∃ I2 J2, fX9_carve (nI k) I = some (1, I2) ∧ RR I2 J2 ∧ J2 1 = ntw (upd (upd (J 1) 3 (nI (xdf (xr (J 1) 3) (2 ^ k)))) (4 + k) (nI 0)) 5 (-1) (nI k) ∧ PA J2 (min 6 (n + 1)) (pushR n R (J 1)) ∧ J2 0 18 = J 0 18 := by
  have hw := h.1.i
  have hW := hw.nWB
  obtain ⟨v, I2, J2, g1, g2, g3⟩ := carve_both hN h (nI k)
  obtain ⟨I4, J4, k1, k2, k3, k4, k5⟩ := rs_keeps h hpa hN
  have hl2 := rv_hasLapsed hw (k := k) (by omega)
  rw [hl] at hl2
  have b4 : J4 1 3 = nI (xr (J 1) 3) := by rw [k3]; exact hw.lapsed
  obtain ⟨J3, hJ3⟩ : ∃ J3, xc_wr (xc_wr J4 1 3 (nI (xdf (xr (J 1) 3) (2 ^ k)))) 1 (4 + k) (nI 0) = J3 := ⟨_, rfl⟩
  have h31 : J3 1 = upd (upd (J 1) 3 (nI (xdf (xr (J 1) 3) (2 ^ k)))) (4 + k) (nI 0) := by rw [← hJ3, wr_updJ, wr_updJ, k3]
  have hI3 : iW (J3 1) := by
    rw [h31]
    have i1 := hw.up (j := 3) (v := nI (xdf (xr (J 1) 3) (2 ^ k))) (by omega) (by omega) (by omega) (fun _ => ⟨_, xdf_lt hw.lapsedP, rfl⟩) (by omega) (by omega) (by omega) (by omega)
    exact i1.up (by omega) (by omega) (by omega) (by omega) (fun _ _ => ⟨0, by omega, rfl⟩) (by omega) (by omega) (by omega)
  obtain ⟨J5, n1, n2, n3⟩ := rs_notes (J := J3) hI3 (by rw [← hJ3, xp_wr_cell (by omega), xp_wr_cell (by omega)]; exact k2.2.1) (nI 5) (-1) (nI k)
  have q : fX10_carve N (nI k) J = some (1, J5) := by
    unfold fX10_carve
    refine e_cr (rv_isWord_t hw hk) (e_f (by decide) (e_cr hl2 (e_t (by decide) (e_cv k1 (e_rd (k := 3) rfl (by omega) b4 (e_st (k := 3) rfl (by omega) (v := nI (xdf (xr (J 1) 3) (2 ^ k))) ?_ (e_st (k := 4 + k) (nI_add 4 k) (by omega) (v := nI 0) rfl ?_)))))))
    · exact e_clr _ (by omega)
    · rw [hJ3]
      exact e_cv n1 rfl
  obtain ⟨r1, r2⟩ := some_det2 g2 q
  subst r1 r2
  rw [h31] at n2
  refine ⟨I2, J2, g1, g3, n2, k4.keep ?_ ?_, ?_⟩
  · rw [n3 3 (by omega), ← hJ3, xp_wr_cell (by omega), xp_wr_cell (by omega)]
  · rw [n3 0 (by omega), ← hJ3, xp_wr_cell (by omega), xp_wr_cell (by omega)]
  · rw [n3 0 (by omega), ← hJ3, xp_wr_cell (by omega), xp_wr_cell (by omega)]
    exact k5
-- days
/-- kept rows, count, row: a day -/
abbrev dyT : Type := (Nat × (Nat → Nat → Int32)) × (Nat × (Nat → Int32))
def dyF (_ : Nat) (s : dyT) : dyT := ((min 6 (s.1.1 + 1), pushR s.1.1 s.1.2 s.2.2), (s.2.1 + (psW s.2.2).1, edW (psW s.2.2).2))
theorem edW_day {w : Nat → Int32} (h : iW w) (hd : xr w 0 + 1 < 2 ^ 30) : xr (edW (psW w).2) 0 = xr w 0 + 1 ∧ iW (edW (psW w).2) ∧ (psW w).1 ≤ 14 ∧ xr (psW w).2 0 = xr w 0 ∧ iW (psW w).2 := by
  have hK := h.nKB
  obtain ⟨i1, o1⟩ := wks_inv h (xr w 67) (Nat.le_refl _)
  have i2 : iW (chsW (itr wkW w (xr w 67))) ∧ ∀ j, j = 0 ∨ (62 ≤ j ∧ j < 748) → chsW (itr wkW w (xr w 67)) j = itr wkW w (xr w 67) j := by
    unfold chsW
    split
    · exact ⟨i1, fun _ _ => rfl⟩
    · obtain ⟨z1, z2⟩ := chs_inv i1 (xr (itr wkW w (xr w 67)) 63) (Nat.le_refl _)
      exact ⟨z1, fun j hj => z2 j (by omega)⟩
  obtain ⟨i3, o3⟩ := i2
  have e62 : xr (chsW (itr wkW w (xr w 67))) 62 = xr w 62 := by rw [xr_eq (o3 62 (by omega)), xr_eq (o1 62 (by omega))]
  obtain ⟨i4, o4, c4⟩ := ag_inv i3 0 (xr w 62) (by rw [e62]; exact Nat.le_refl _)
  have hW := h.nWB
  have e0 : xr (psW w).2 0 = xr w 0 := by
    show xr (itr agW (0, chsW (itr wkW w (xr w 67))) (xr w 62)).2 0 = _
    rw [xr_eq (o4 0 (by omega)), xr_eq (o3 0 (by omega)), xr_eq (o1 0 (by omega))]
  have i4' : iW (psW w).2 := i4
  have c5 : (psW w).1 ≤ 14 := by
    have : (psW w).1 ≤ 0 + xr w 62 := c4
    omega
  obtain ⟨i5, o5⟩ := en_inv i4' (xr (psW w).2 63) (Nat.le_refl _)
  refine ⟨?_, ?_, c5, e0, i4'⟩
  · unfold edW
    unfold xr
    rw [upd_s]
    show (nI (xr (psW w).2 0 + 1)).toNatClampNeg = _
    rw [e0, nI_clamp (by omega)]
    rfl
  · unfold edW
    exact i5.up (by omega) (fun _ => ⟨_, by rw [e0]; exact hd, rfl⟩) (by omega) (by omega) (by omega) (by omega) (by omega) (by omega)
theorem dy_inv {w : Nat → Int32} (h : iW w) (s : Nat × (Nat → Nat → Int32)) (hs : s.1 ≤ 6) {d : Nat} (hd : xr w 0 + d < 10000) : ∀ i, i ≤ d → iW (itr dyF (s, (0, w)) i).2.2 ∧ xr (itr dyF (s, (0, w)) i).2.2 0 = xr w 0 + i ∧ (itr dyF (s, (0, w)) i).2.1 ≤ 14 * i ∧ (itr dyF (s, (0, w)) i).1.1 ≤ 6 := by
  intro i
  induction i with
  | zero => exact fun _ => ⟨h, rfl, Nat.le_refl _, hs⟩
  | succ i ih =>
    intro hi
    obtain ⟨a1, a2, a3, a4⟩ := ih (by omega)
    rw [itr_s]
    generalize itr dyF (s, (0, w)) i = u at a1 a2 a3 a4
    obtain ⟨b1, b2, b3, -, -⟩ := edW_day a1 (by omega)
    refine ⟨b2, ?_, ?_, ?_⟩
    · show xr (edW (psW u.2.2).2) 0 = _
      omega
    · show u.2.1 + (psW u.2.2).1 ≤ _
      omega
    · show min 6 (u.1.1 + 1) ≤ 6
      omega
theorem c_days (h : RR I J) (hpa : PA J n R) (hN : 1000 ≤ N) {d : Nat} (h1 : 1 ≤ d) (h2 : d ≤ 60) (hd : xr (J 1) 0 + d < 10000) : ∃ I2 J2, fX9_days N (nI d) I = some (nI (itr dyF ((n, R), (0, J 1)) d).2.1, I2) ∧ RR I2 J2 ∧ J2 1 = (itr dyF ((n, R), (0, J 1)) d).2.2 ∧ PA J2 (itr dyF ((n, R), (0, J 1)) d).1.1 (itr dyF ((n, R), (0, J 1)) d).1.2 ∧ J2 0 18 = J 0 18 := by
  have hw := h.1.i
  obtain ⟨v, I2, J2, g1, g2, g3⟩ := days_both hN h (nI d)
  have hin : fX10_isIn (nI d) (nI 1) (nI 60) = some (nI 1) := by
    have := rv_isIn (v := d) (a := 1) (c := 60) (by omega) (by omega) (by omega)
    rw [decide_eq_true (show 1 ≤ d ∧ d ≤ 60 by omega)] at this
    exact this
  have hn6 := hpa.1
  have hinv := dy_inv hw (n, R) hn6 (d := d) hd
  obtain ⟨⟨c, J3⟩, ⟨⟨I3, e1⟩, e2, e3, e4, e6⟩, e5⟩ := ex_loopS (fun fu i (s : Nat × xc_M) => lX10_days_30 N fu (nI d) (nI s.1) (nI i) s.2) (fun i (s : Nat × xc_M) => (∃ I3, RR I3 s.2) ∧ s.2 1 = (itr dyF ((n, R), (0, J 1)) i).2.2 ∧ s.1 = (itr dyF ((n, R), (0, J 1)) i).2.1 ∧ PA s.2 (itr dyF ((n, R), (0, J 1)) i).1.1 (itr dyF ((n, R), (0, J 1)) i).1.2 ∧ s.2 0 18 = J 0 18) d (fun s => some (nI s.1, s.2)) (by
    rintro fu s -
    show lX10_days_30 N (fu + 1) _ _ _ _ = _
    rw [lX10_days_30, bX10_days_30]
    exact e_t (by rw [xp_le (by omega) (by omega)]; omega) rfl) (by
    rintro fu i ⟨c1, J3⟩ hi ⟨⟨I3, s1⟩, s2, s3, s4, s5⟩
    simp only at s1 s2 s3 s4 s5
    obtain ⟨b1, b2, b3, b4⟩ := hinv i (by omega)
    rw [itr_s]
    generalize itr dyF ((n, R), (0, J 1)) i = u at s2 s3 s4 b1 b2 b3 b4
    obtain ⟨I4, J4, k1, k2, k3, k4, k6, k5⟩ := rs_keeps2 s1 s4 hN
    obtain ⟨I5, J5, w1, w2, w3⟩ := rs_works k2 hN
    rw [k3] at w1 w2
    obtain ⟨z1, z2, z3, z4, z5⟩ := edW_day b1 (by omega)
    rw [s2] at w1 w2
    obtain ⟨I6, J6, y1, y2, y3⟩ := rs_ends w3 hN (by rw [w2, z4]; omega)
    rw [w2] at y2
    refine ⟨(c1 + (psW u.2.2).1, J6), ⟨⟨I6, k5 I6 J6 y3 (by rw [y2, z1]; omega)⟩, y2, ?_, ?_, (y3.2.2.2.2.1 18 (by omega) (by omega)).trans (k6.trans s5)⟩, ?_⟩
    · show c1 + (psW u.2.2).1 = u.2.1 + (psW u.2.2).1
      rw [s3]
    · rw [s2] at k4
      exact k4.keep (y3.2.2.2.1 3 (by omega) (by omega) (by omega) (by omega)) (y3.2.2.2.2.1 4 (by omega) (by omega))
    · show lX10_days_30 N (fu + 1) _ _ _ _ = lX10_days_30 N fu (nI d) (nI (c1 + (psW u.2.2).1)) (nI (i + 1)) J6
      rw [lX10_days_30, bX10_days_30]
      exact e_f (by rw [xp_le (by omega) (by omega)]; omega) (e_cv k1 (e_cl w1 (e_lt (nI_add _ _) (e_cv y1 (e_lt (nI_add i 1) rfl)))))) N (0, J) (by omega) ⟨⟨I, h⟩, rfl, rfl, hpa, rfl⟩
  have q : fX10_days N (nI d) J = some (nI c, J3) := by
    unfold fX10_days
    refine e_cr hin (e_f (by decide) (e_rd (k := 0) rfl (by omega) hw.day (e_t ?_ (e_lt rfl (e_lt rfl e5)))))
    rw [nI_add, show (9999 : Int32) = nI 9999 from rfl, xp_le (by omega) (by omega)]
    omega
  obtain ⟨r1, r2⟩ := some_det2 g2 q
  subst r1 r2
  simp only at e2 e3 e4 e6
  rw [e3] at g1
  exact ⟨I2, J2, g1, g3, e2, e4, e6⟩
end
