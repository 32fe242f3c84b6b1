-- ===== texts: a NEED; the rows' loop =====
section
variable {N M t rd : Nat} {c : Nat → Nat} {I J : xc_M} {x y : Tok} {r T : List Tok}
def neR (I : xc_M) (Z : Nat → Int32) (nM i : Nat) : Prop := vN Z (3 * i) nM ∧ vN Z (3 * i + 1) 1000 ∧ vN Z (3 * i + 2) 100 ∧ I 76 (4 * i) = Z (3 * i) ∧ I 76 (4 * i + 1) = Z (3 * i + 1) ∧ I 76 (4 * i + 2) = Z (3 * i + 2)
def neS (R : Nat) (I J : xc_M) : Prop := I 75 0 = nI R ∧ J 0 17 = nI R ∧ R ≤ 12 ∧ ∀ i, i < R → neR I (J 9) (xr (J 1) 66) i
theorem neR_keep {I I' : xc_M} {Z Z' : Nat → Int32} {nM i : Nat} (h : neR I Z nM i) (hI : ∀ j, 4 * i ≤ j → j < 4 * i + 4 → I' 76 j = I 76 j) (hZ : ∀ j, 3 * i ≤ j → j < 3 * i + 3 → Z' j = Z j) : neR I' Z' nM i := by
  obtain ⟨a1, a2, a3, a4, a5, a6⟩ := h
  have z0 := hZ (3 * i) (by omega) (by omega)
  have z1 := hZ (3 * i + 1) (by omega) (by omega)
  have z2 := hZ (3 * i + 2) (by omega) (by omega)
  unfold neR
  rw [hI (4 * i) (by omega) (by omega), hI (4 * i + 1) (by omega) (by omega), hI (4 * i + 2) (by omega) (by omega), z0, z1, z2]
  exact ⟨vN_eq z0 a1, vN_eq z1 a2, vN_eq z2 a3, a4, a5, a6⟩
theorem need_sim (hN : 1000 ≤ N) {R : Nat} (hpI : psI I T) (hpJ : psJ c t 3 J T) (hwp : wpR I J) (hst : neS R I J) : ∃ (b : Bool) (I' J' : xc_M), fX6_readNeed 1 75 I = some (nI b.toNat, I') ∧ fX10_aNeed N J = some (nI b.toNat, J') ∧ frP I I' ∧ frQ J J' ∧ (b = false → flt I' J') ∧ (b = true → ∃ T', T'.length < T.length ∧ psI I' T' ∧ psJ c t 3 J' T' ∧ neS (R + 1) I' J') := by
  obtain ⟨x, r, rfl⟩ := psJ_ne hpJ
  obtain ⟨s75, s17, s12, sw⟩ := hst
  have hk := psJ_k hpJ
  have htok := psJ_tok hpJ
  have q12 := tm_eq (rd := 3) (a := 12) (b := 120) (by decide +kernel) (by omega) hk (by omega)
  have e120 : (nI x.1 = (120 : Int32)) = (x.1 = 120) := xp_eq (b := 120) (by omega) (by omega)
  by_cases hx : x.1 = 120
  · have ht12 : J 0 20 = (12 : Int32) := by rw [htok, show (12 : Int32) = nI 12 from rfl, q12]; exact hx
    by_cases h12 : R = 12
    · have hhd : fX6_takeHead 120 (I 75 0) 12 I = some (nI 0, rfI I 3 x.2.1) := by
        unfold fX6_takeHead
        rw [s75, h12]
        exact e_cr (cv_kind hpI) (e_t (by rw [e120]; exact hx) (e_f (by decide) (e_cl (cv_refuse hpI 3) rfl)))
      exact ⟨false, rfI I 3 x.2.1, bdJ J 3 x.2.1, (by unfold fX6_readNeed; exact e_cl hhd (e_t rfl rfl)), (by unfold fX10_aNeed; exact e_t ht12 (e_f (by rw [s17, h12]; exact fun z => z rfl) (e_cl (rv_bad hpJ 3) rfl))), frP_1 (fr1_rf _ _ _), frQ_2 (fr2_bd _ _ _), fun _ => flt_mk _ _, fun z => by cases z⟩
    · have hR : R < 12 := by omega
      obtain ⟨J1, n1, n2, n3⟩ := psJ_nx hN hpJ (by omega)
      have hhead : fX6_takeHead 120 (I 75 0) 12 I = some (nI 1, nxI I) := by
        unfold fX6_takeHead
        rw [s75]
        exact e_cr (cv_kind hpI) (e_t (by rw [e120]; exact hx) (e_t (by rw [show (12 : Int32) = nI 12 from rfl, xp_ltI (by omega) (by omega)]; exact hR) (e_mw rfl rfl)))
      have h12' : J 0 17 ≠ (12 : Int32) := by rw [s17, show (12 : Int32) = nI 12 from rfl, ne_eq, xp_eq (by omega) (by omega)]; exact h12
      have hfr1 : frP I (nxI I) := frP_1 (fr1_nx _)
      have hfq1 : frQ J J1 := frQ_2 (fr2_n n2)
      obtain ⟨_, _, _, _, w5, w6, w7⟩ := wpR_keep hwp hfr1 hfq1
      have hJ11 : J1 1 = J 1 := n2.1 1 (by omega)
      have h117 : J1 0 17 = nI R := (n2.2 17 (by omega) (by omega) (by omega) (by omega)).trans s17
      have hl3 : ((3 : Int32) * (J1 0 17)) = nI (3 * R) := by rw [h117]; exact pk_mul 3 R
      -- the MEANING
      obtain ⟨b, I2, J2, a1, a2, a3, a4, a5, a6⟩ := told_sim hN (rd := 3) (by decide +kernel) (lo := 0) (hi := xr (J1 1) 66) (p := 3 * R) (v2 := nI (xr (J1 1) 66) - nI 1) (by omega) (by omega) (hi_of (by omega)) (psI_nx hpI) n3
      have ha1 : fX6_takeNumber 0 ((nxI I (1 + 18) 0) - 1) (nxI I) = some (nI b.toNat, I2) := by
        show fX6_takeNumber 0 ((nxI I 19 0) - 1) (nxI I) = some (nI b.toNat, I2)
        rw [w5]
        exact a1
      have hc2 : ∀ R', (if nI b.toNat ≠ (0 : Int32) then xc_lt (I2 132 7) fun v3_5 => xc_cl (fX6_take 121 I2) fun x6 I7 => (if x6 = (0 : Int32) then some (0, I7) else xc_cl (fX6_takeNumber 0 999 I7) fun x8 I9 => (if x8 ≠ (0 : Int32) then xc_lt (I9 132 7) fun v4_10 => xc_cl (fX6_take 122 I9) fun x11 I12 => (if x11 = (0 : Int32) then some (0, I12) else xc_cl (fX6_takeNumber 1 99 I12) fun x13 I14 => (if x13 ≠ (0 : Int32) then xc_cv (fX4_add 75 v3_5 v4_10 (I14 132 7) 0 I14) fun I15 => xc_cl (fX6_take 59 I15) fun x16 I17 => xc_rb x16 (x16, I17) else some (0, I14))) else some (0, I9))) else some (0, I2)) = R' → fX6_readNeed 1 75 I = R' := by
        intro R' hR'
        unfold fX6_readNeed
        exact e_cl hhead (e_f (by decide) (e_cl ha1 hR'))
      have hr2 : ∀ R', (if nI b.toNat = (0 : Int32) then some (0, J2) else xc_cl (fX10_need N 13 J2) fun x6 I7 => (if x6 = (0 : Int32) then some (0, I7) else xc_cl (fX10_told N (nI (3 * R) + 1) 0 999 I7) fun x8 I9 => (if x8 = (0 : Int32) then some (0, I9) else xc_cl (fX10_need N 14 I9) fun x10 I11 => (if x10 = (0 : Int32) then some (0, I11) else xc_cl (fX10_told N (nI (3 * R) + 2) 1 99 I11) fun x12 I13 => (if x12 ≠ (0 : Int32) then xc_mw I13 0 17 ((I13 0 17) + 1) fun I14 => xc_cl (fX10_need N 159 I14) fun x15 I16 => xc_rb x15 (x15, I16) else some (0, I13)))))) = R' → fX10_aNeed N J = R' := by
        intro R' hR'
        unfold fX10_aNeed
        exact e_t ht12 (e_t h12' (e_cv n1 (e_lt hl3 (e_rd (k := 66) rfl (by omega) w6 (e_cl a2 hR')))))
      have hfr2 := frP_t hfr1 (frP_1 a3)
      have hfq2 := frQ_t hfq1 (frQ_5 a4)
      cases b with
      | false => exact ⟨false, I2, J2, hc2 _ (e_f (fun z => z rfl) rfl), hr2 _ (e_t rfl rfl), hfr2, hfq2, a5, fun z => by cases z⟩
      | true =>
        obtain ⟨r2, v3, l2, _, b3, _, p2, p3, p4, p5⟩ := a6 rfl
        -- by
        obtain ⟨b, I3, J3, c1, c2, c3, c4, c5, c6⟩ := take_sim hN (rd := 3) (a := 121) (a' := 13) (by decide +kernel) (by omega) (by omega) (by omega) p2 p3
        have hfr3 := frP_t hfr2 (frP_1 c3)
        have hfq3 := frQ_t hfq2 (frQ_2 c4)
        cases b with
        | false => exact ⟨false, I3, J3, hc2 _ (e_t (by decide) (e_lt rfl (e_cl c1 (e_t rfl rfl)))), hr2 _ (e_f (by decide) (e_cl c2 (e_t rfl rfl))), hfr3, hfq3, c5, fun z => by cases z⟩
        | true =>
          obtain ⟨y3, r3, hr3, p6, p7⟩ := c6 rfl
          -- DAY
          obtain ⟨b, I4, J4, d1, d2, d3, d4, d5, d6⟩ := told_sim hN (rd := 3) (by decide +kernel) (lo := 0) (hi := 1000) (p := 3 * R + 1) (v2 := nI 999) (by omega) (by omega) (hi_of2 (by omega)) p6 p7
          have d2' : fX10_told N (nI (3 * R) + 1) 0 999 J3 = some (nI b.toNat, J4) := by rw [show nI (3 * R) + 1 = nI (3 * R + 1) from nI_add _ 1]; exact d2
          have hfr4 := frP_t hfr3 (frP_1 d3)
          have hfq4 := frQ_t hfq3 (frQ_5 d4)
          cases b with
          | false => exact ⟨false, I4, J4, hc2 _ (e_t (by decide) (e_lt rfl (e_cl c1 (e_f (by decide) (e_cl d1 (e_f (fun z => z rfl) rfl)))))), hr2 _ (e_f (by decide) (e_cl c2 (e_f (by decide) (e_cl d2' (e_t rfl rfl))))), hfr4, hfq4, d5, fun z => by cases z⟩
          | true =>
            obtain ⟨r4, v4, l4, _, b4, _, p8, p9, p10, p11⟩ := d6 rfl
            -- worth
            obtain ⟨b, I5, J5, f1, f2, f3, f4, f5, f6⟩ := take_sim hN (rd := 3) (a := 122) (a' := 14) (by decide +kernel) (by omega) (by omega) (by omega) p8 p9
            have hfr5 := frP_t hfr4 (frP_1 f3)
            have hfq5 := frQ_t hfq4 (frQ_2 f4)
            cases b with
            | false => exact ⟨false, I5, J5, hc2 _ (e_t (by decide) (e_lt rfl (e_cl c1 (e_f (by decide) (e_cl d1 (e_t (by decide) (e_lt rfl (e_cl f1 (e_t rfl rfl))))))))), hr2 _ (e_f (by decide) (e_cl c2 (e_f (by decide) (e_cl d2' (e_f (by decide) (e_cl f2 (e_t rfl rfl))))))), hfr5, hfq5, f5, fun z => by cases z⟩
            | true =>
              obtain ⟨y5, r5, hr5, p12, p13⟩ := f6 rfl
              obtain ⟨b, I6, J6, g1, g2, g3, g4, g5, g6⟩ := told_sim hN (rd := 3) (by decide +kernel) (lo := 1) (hi := 100) (p := 3 * R + 2) (v2 := nI 99) (by omega) (by omega) (hi_of2 (by omega)) p12 p13
              have g2' : fX10_told N (nI (3 * R) + 2) 1 99 J5 = some (nI b.toNat, J6) := by rw [show nI (3 * R) + 2 = nI (3 * R + 2) from nI_add _ 2]; exact g2
              have hfr6 := frP_t hfr5 (frP_1 g3)
              have hfq6 := frQ_t hfq5 (frQ_5 g4)
              cases b with
              | false => exact ⟨false, I6, J6, hc2 _ (e_t (by decide) (e_lt rfl (e_cl c1 (e_f (by decide) (e_cl d1 (e_t (by decide) (e_lt rfl (e_cl f1 (e_f (by decide) (e_cl g1 (e_f (fun z => z rfl) rfl))))))))))), hr2 _ (e_f (by decide) (e_cl c2 (e_f (by decide) (e_cl d2' (e_f (by decide) (e_cl f2 (e_f (by decide) (e_cl g2' (e_f (fun z => z rfl) rfl))))))))), hfr6, hfq6, g5, fun z => by cases z⟩
              | true =>
                obtain ⟨r6, v5, l6, _, b5, _, p14, p15, p16, p17⟩ := g6 rfl
                have hI6 : ∀ a, a ≠ 132 → I6 a = I a := fun a ha => by rw [g3 a ha, f3 a ha, d3 a ha, c3 a ha, a3 a ha]; exact fr1_nx I a ha
                have hadd := cv_add4 (I := I6) (ro := 75) (n := 48) (R := R) (a := nI v3) (b := nI v4) (c' := nI v5) (d := 0) rfl (by omega) (by omega) (by rw [hI6 75 (by omega)]; exact s75)
                generalize hI7 : xc_wr (xc_wr (xc_wr (xc_wr (xc_wr I6 (75 + 1) (4 * R) (nI v3)) (75 + 1) (4 * R + 1) (nI v4)) (75 + 1) (4 * R + 2) (nI v5)) (75 + 1) (4 * R + 3) 0) 75 0 (nI (R + 1)) = I7 at hadd
                have cO : ∀ a, a ≠ 75 → a ≠ 76 → I7 a = I6 a := fun a a1 a2 => by rw [← hI7, xp_wr_cell a1, xp_wr_cell a2, xp_wr_cell a2, xp_wr_cell a2, xp_wr_cell a2]
                have c75 : I7 75 0 = nI (R + 1) := by rw [← hI7, xp_wr_s]
                have c76 : ∀ j, j < 4 * R → I7 76 j = I 76 j := fun j hj => by
                  rw [← hI7, xp_wr_cell (by omega)]
                  exact ((xp_wr_k (by omega)).trans ((xp_wr_k (by omega)).trans ((xp_wr_k (by omega)).trans (xp_wr_k (by omega))))).trans (by rw [hI6 76 (by omega)])
                have e0 : I7 76 (4 * R) = nI v3 := by
                  rw [← hI7, xp_wr_cell (by omega)]
                  exact (xp_wr_k (by omega)).trans ((xp_wr_k (by omega)).trans ((xp_wr_k (by omega)).trans (xp_wr_s _ _ _ _)))
                have e1 : I7 76 (4 * R + 1) = nI v4 := by
                  rw [← hI7, xp_wr_cell (by omega)]
                  exact (xp_wr_k (by omega)).trans ((xp_wr_k (by omega)).trans (xp_wr_s _ _ _ _))
                have e2 : I7 76 (4 * R + 2) = nI v5 := by
                  rw [← hI7, xp_wr_cell (by omega)]
                  exact (xp_wr_k (by omega)).trans (xp_wr_s _ _ _ _)
                have hpI7 : psI I7 r6 := psI_keep p14 (cO 132 (by omega) (by omega)) (fun a ha => cO a (by omega) (by omega))
                have h617 : J6 0 17 = nI R := by
                  rw [g4.2.1 17 (by omega) (by omega), f4.2 17 (by omega), d4.2.1 17 (by omega) (by omega), c4.2 17 (by omega), a4.2.1 17 (by omega) (by omega)]
                  exact h117
                have hpJ7 : psJ c t 3 (xc_wr J6 0 17 (nI (R + 1))) r6 := psJ_keep p15 (xp_wr_cell (by omega)) (fun k hk => xp_wr_k (by omega))
                obtain ⟨b, I8, J8, k1, k2, k3, k4, k5, k6⟩ := take_sim hN (rd := 3) (a := 59) (a' := 159) (by decide +kernel) (by omega) (by omega) (by omega) hpI7 hpJ7
                refine ⟨b, I8, J8, hc2 _ ?_, hr2 _ ?_, frP_t hfr6 (frP_t (fun a ha _ => cO a (by omega) (by omega)) (frP_1 k3)), frQ_t hfq6 (frQ_t frQ_17 (frQ_2 k4)), k5, fun hb => ?_⟩
                · refine e_t (by decide) (e_lt p4 ?_)
                  refine e_cl c1 (e_f (by decide) ?_)
                  refine e_cl d1 (e_t (by decide) ?_)
                  refine e_lt p10 (e_cl f1 ?_)
                  refine e_f (by decide) (e_cl g1 ?_)
                  refine e_t (by decide) (e_cv (v := nI 0) (J := I7) ?_ ?_)
                  · rw [p16]
                    exact hadd
                  · exact e_cl k1 (by cases b <;> rfl)
                · refine e_f (by decide) (e_cl c2 ?_)
                  refine e_f (by decide) (e_cl d2' ?_)
                  refine e_f (by decide) (e_cl f2 ?_)
                  refine e_f (by decide) (e_cl g2' ?_)
                  refine e_t (by decide) (e_mw (v := nI (R + 1)) ?_ ?_)
                  · rw [h617]
                    exact nI_add R 1
                  · exact e_cl k2 (by cases b <;> rfl)
                obtain ⟨y8, r8, hr8, u1, u2⟩ := k6 hb
                have z9 : ∀ j, J8 9 j = J6 9 j := fun j => by rw [k4.1 9 (by omega), xp_wr_cell (by omega)]
                have z1 : J8 1 = J 1 := by rw [k4.1 1 (by omega), xp_wr_cell (by omega), g4.1 1 (by omega) (by omega), f4.1 1 (by omega), d4.1 1 (by omega) (by omega), c4.1 1 (by omega), a4.1 1 (by omega) (by omega)]; exact hJ11
                have y0 : J8 9 (3 * R) = nI v3 := by rw [z9, g4.2.2 _ (by omega), f4.1 9 (by omega), d4.2.2 _ (by omega), c4.1 9 (by omega)]; exact p5
                have y1 : J8 9 (3 * R + 1) = nI v4 := by rw [z9, g4.2.2 _ (by omega), f4.1 9 (by omega)]; exact p11
                have y2 : J8 9 (3 * R + 2) = nI v5 := by rw [z9]; exact p17
                rw [hr3, List.length_cons] at l2
                rw [hr5, List.length_cons] at l4
                rw [hr8, List.length_cons] at l6
                refine ⟨r8, by rw [List.length_cons]; omega, u1, u2, by rw [k3 75 (by omega)]; exact c75, by rw [k4.2 17 (by omega), xp_wr_s], by omega, fun i hi => ?_⟩
                rw [z1]
                by_cases hiR : i = R
                · subst hiR
                  unfold neR
                  rw [k3 76 (by omega), e0, e1, e2, y0, y1, y2]
                  exact ⟨vN_mk y0 (by rw [← hJ11]; exact b3) (by rw [← hJ11]; omega), vN_mk y1 b4 (by omega), vN_mk y2 b5 (by omega), rfl, rfl, rfl⟩
                · refine neR_keep (sw i (by omega)) (fun j j1 j2 => by rw [k3 76 (by omega)]; exact c76 j (by omega)) (fun j j1 j2 => ?_)
                  rw [z9, g4.2.2 _ (by omega), f4.1 9 (by omega), d4.2.2 _ (by omega), c4.1 9 (by omega), a4.2.2 _ (by omega), n2.1 9 (by omega)]
  · have hhd : fX6_takeHead 120 (I 75 0) 12 I = some (nI 0, rfI I 1 x.2.1) := by
      unfold fX6_takeHead
      exact e_cr (cv_kind hpI) (e_f (by rw [e120]; exact hx) (e_cl (cv_refuse hpI 1) rfl))
    exact ⟨false, rfI I 1 x.2.1, bdJ J 1 x.2.1, (by unfold fX6_readNeed; exact e_cl hhd (e_t rfl rfl)), (by unfold fX10_aNeed; exact e_f (by rw [htok, show (12 : Int32) = nI 12 from rfl, q12]; exact hx) (e_cl (rv_bad hpJ 1) rfl)), frP_1 (fr1_rf _ _ _), frQ_2 (fr2_bd _ _ _), fun _ => flt_mk _ _, fun z => by cases z⟩
/-- line by line, of MEANINGS, WALKS, NEEDS -/
theorem rows_loop (hN : 1000 ≤ N) {k : Nat} (hk : k < 4) (cls ref : xc_M → Option (Int32 × xc_M)) (inv : Nat → xc_M → xc_M → Prop) (hstep : ∀ (T : List Tok) (I J : xc_M) (R : Nat), psI I T → psJ c t k J T → wpR I J → inv R I J → ∃ (b : Bool) (I' J' : xc_M), cls I = some (nI b.toNat, I') ∧ ref J = some (nI b.toNat, J') ∧ frP I I' ∧ frQ J J' ∧ (b = false → flt I' J') ∧ (b = true → ∃ T', T'.length < T.length ∧ psI I' T' ∧ psJ c t k J' T' ∧ inv (R + 1) I' J')) (hdC : ∀ (k67 : Int32 → Int32 → Int32 → xc_M → Option (Int32 × xc_M)) (v5 v6 : Int32) (I : xc_M) (R : Option (Int32 × xc_M)), ¬ (400 : Int32) ≤ v6 → (∃ q, fX6_kind I = some q ∧ q ≠ 0) → (xc_cl (cls I) fun q I' => bX6_read_152 N M 1 61 k67 (nI k) v5 v6 q I') = R → bX6_read_67 N M 1 61 k67 (nI k) v5 v6 I = R) (hdR : ∀ (k7 : Int32 → xc_M → Option (Int32 × xc_M)) (J : xc_M) (R : Option (Int32 × xc_M)), J 0 14 = nI k → J 0 20 ≠ 0 → (xc_cl (ref J) fun q J' => bX10_readsRows_51 N k7 q J') = R → bX10_readsRows_7 N k7 (nI 1) J = R) (h00 : tmc k 0 0 = true) : ∀ m (T : List Tok) (I J : xc_M) (R fu f v6 : Nat), T.length ≤ m → psI I T → psJ c t k J T → wpR I J → inv R I J → v6 + T.length ≤ 401 → T.length < fu → T.length + 1 < f → ∃ (b : Bool) (v : Int32) (I' J' : xc_M), lX6_read_67 N M 1 61 fu (nI k) (nI R) (nI v6) I = some (v, I') ∧ lX10_readsRows_7 N f (nI 1) J = some (nI b.toNat, J') ∧ frP I I' ∧ frQ J J' ∧ (b = false → v = mI ∧ flt I' J') ∧ (b = true → ∃ R', v = nI R' ∧ inv R' I' J' ∧ I' 132 0 = nI 0 ∧ I' 132 1 = mI) := by
  intro m
  induction m with
  | zero =>
    intro T I J R fu f v6 hm hpI hpJ
    obtain ⟨x, r, rfl⟩ := psJ_ne hpJ
    rw [List.length_cons] at hm
    omega
  | succ m ih =>
    intro T I J R fu f v6 hm hpI hpJ hwp hin hv6 hfu hf
    obtain ⟨x, r, rfl⟩ := psJ_ne hpJ
    obtain ⟨g, rfl⟩ : ∃ g, fu = g + 1 := ⟨fu - 1, by omega⟩
    obtain ⟨g2, rfl⟩ : ∃ g, f = g + 1 := ⟨f - 1, by omega⟩
    have hkk := psJ_k hpJ
    have htok := psJ_tok hpJ
    have q0 := tm_eq h00 hk hkk (by omega)
    have e0 : (nI x.1 = (0 : Int32)) = (x.1 = 0) := xp_eq (b := 0) (by omega) (by omega)
    rw [lX6_read_67, lX10_readsRows_7]
    by_cases h0 : x.1 = 0
    · refine ⟨true, nI R, I, J, ?_, ?_, frP_r _, frQ_r _, (fun z => by cases z), fun _ => ⟨R, rfl, hin, hpI.2.1, hpI.2.2⟩⟩
      · rw [bX6_read_67]
        by_cases h4 : (400 : Int32) ≤ nI v6
        · exact e_t h4 rfl
        · exact e_f h4 (e_cr (cv_kind hpI) (e_t (by rw [e0]; exact h0) rfl))
      · rw [bX10_readsRows_7]
        exact e_f (by decide) (e_t (by rw [htok, show (0 : Int32) = nI 0 from rfl, q0]; exact h0) rfl)
    · have hr1 : 1 ≤ r.length := by
        have := psJ_r hpJ h0
        cases r with
        | nil => exact absurd rfl this
        | cons y r' => rw [List.length_cons]; omega
      have hlc : (x :: r).length = r.length + 1 := List.length_cons
      have h4 : ¬ (400 : Int32) ≤ nI v6 := by rw [show (400 : Int32) = nI 400 from rfl, xp_le (by omega) (by omega)]; omega
      obtain ⟨b, I1, J1, a1, a2, a3, a4, a5, a6⟩ := hstep _ I J R hpI hpJ hwp hin
      have hne : J 0 20 ≠ 0 := by rw [htok, show (0 : Int32) = nI 0 from rfl, ne_eq, q0]; exact h0
      have hkq : ∃ q, fX6_kind I = some q ∧ q ≠ 0 := ⟨nI x.1, cv_kind hpI, by rw [ne_eq, e0]; exact h0⟩
      cases b with
      | false =>
        obtain ⟨g3, rfl⟩ : ∃ g, g2 = g + 1 := ⟨g2 - 1, by omega⟩
        refine ⟨false, mI, I1, J1, hdC _ _ _ _ _ h4 hkq (e_cl a1 ?_), hdR _ _ _ hpJ.2.1 hne (e_cl a2 ?_), a3, a4, fun _ => ⟨rfl, a5 rfl⟩, fun z => by cases z⟩
        · rw [bX6_read_152]
          exact e_f (fun z => z rfl) rfl
        · rw [bX10_readsRows_51]
          refine e_lt rfl ?_
          rw [lX10_readsRows_7, bX10_readsRows_7]
          exact e_t rfl rfl
      | true =>
        obtain ⟨T', p1, p2, p3, p4⟩ := a6 rfl
        obtain ⟨b, v, I2, J2, b1, b2, b3, b4, b5, b6⟩ := ih T' I1 J1 (R + 1) g g2 (v6 + 1) (by omega) p2 p3 (wpR_keep hwp a3 a4) p4 (by omega) (by omega) (by omega)
        refine ⟨b, v, I2, J2, hdC _ _ _ _ _ h4 hkq (e_cl a1 ?_), hdR _ _ _ hpJ.2.1 hne (e_cl a2 ?_), frP_t a3 b3, frQ_t a4 b4, b5, b6⟩
        · rw [bX6_read_152]
          exact e_t (by decide) (e_lt (nI_add _ 1) (e_lt (nI_add _ 1) b1))
        · rw [bX10_readsRows_51]
          exact e_lt rfl b2
end
