-- ===== texts: THE LAW =====
section
variable {N M t : Nat} {c : Nat → Nat} {I J : xc_M} {x y : Tok} {r T : List Tok} {L : List LLine}
def lnOut (c : Nat → Nat) (t : Nat) (L : List LLine) (B m : Nat) (I' J' : xc_M) : Prop := ∃ T' l, T'.length < m ∧ psI I' T' ∧ psJ c t 1 J' T' ∧ I' 83 0 = nI (L.length + 1) ∧ J' 0 15 = nI L.length ∧ cC I' ((sgs (L ++ [l])).flatMap lenc) ∧ sS J' (sgs (L ++ [l])) ∧ lnR I' J' 0 0 0 (L ++ [l]) ∧ ((sgs (L ++ [l])).flatMap lenc).length + T'.length ≤ B
theorem line_sim (hN : 1000 ≤ N) (hM : 60 ≤ M) {B : Nat} (hpI : psI I T) (hpJ : psJ c t 1 J T) (hL : lwS L I J) (hL16 : L.length ≤ 16) (hB : ((sgs L).flatMap lenc).length + T.length ≤ B) (hB2 : B ≤ 401) : ∃ (b : Bool) (I' J' : xc_M), fX6_readLaw N M 83 I = some (nI b.toNat, I') ∧ fX10_aLine N M J = some (nI b.toNat, J') ∧ frL I I' ∧ frM J J' ∧ (b = false → flt I' J') ∧ (b = true → lnOut c t L B T.length I' J') := by
  obtain ⟨x, r, rfl⟩ := psJ_ne hpJ
  obtain ⟨g83, g15, gc, gs, gl⟩ := hL
  have hk := psJ_k hpJ
  have htok := psJ_tok hpJ
  by_cases hx : 104 ≤ x.1 ∧ x.1 ≤ 106
  · obtain ⟨hx1, hx2⟩ := hx
    have htm : tm 1 x.1 = x.1 - 84 := by
      have hz : x.1 = 104 ∨ x.1 = 105 ∨ x.1 = 106 := by omega
      rcases hz with z | z | z <;> rw [z] <;> rfl
    have hin := rv_isIn (v := tm 1 x.1) (a := 20) (c := 22) (by rw [htm]; omega) (by omega) (by omega)
    rw [decide_eq_true (by rw [htm]; omega)] at hin
    have hcl : ∀ R, bX6_readLaw_29 N M 83 (nI x.1) I = R → fX6_readLaw N M 83 I = R := by
      intro R hR
      unfold fX6_readLaw
      refine e_cr (cv_kind hpI) (e_lt rfl ?_)
      have hz : x.1 = 104 ∨ x.1 = 105 ∨ x.1 = 106 := by omega
      rcases hz with z | z | z
      · exact e_t (by rw [z]; rfl) hR
      · exact e_f (by rw [z]; decide) (e_t (by rw [z]; rfl) hR)
      · exact e_f (by rw [z]; decide) (e_f (by rw [z]; decide) (e_t (by rw [z]; rfl) hR))
    by_cases h16 : L.length = 16
    · refine ⟨false, rfI I 3 x.2.1, bdJ J 3 x.2.1, hcl _ ?_, ?_, frL_E (frE_rf _ _ _), frM_G (frG_F (frF_bd _ _ _)), fun _ => flt_mk _ _, fun z => by cases z⟩
      · rw [bX6_readLaw_29]
        refine e_cl (v := nI 0) (J := rfI I 3 x.2.1) ?_ (e_f (fun z => z rfl) rfl)
        unfold fX6_takeHead
        rw [g83, h16]
        exact e_cr (cv_kind hpI) (e_t rfl (e_f (by decide) (e_cl (cv_refuse hpI 3) rfl)))
      · unfold fX10_aLine
        rw [htok, g15, h16]
        exact e_cr hin (e_t (by decide) (e_f (fun z => z rfl) (e_cl (rv_bad hpJ 3) rfl)))
    · have hL15 : L.length < 16 := by omega
      rw [List.length_cons] at hB
      have hSl := enc_len (sgs L)
      -- up to E
      have hpI2 : psI (xc_wr (xc_wr (nxI I) 84 L.length (nI x.1)) 85 L.length (nI ((sgs L).flatMap lenc).length)) r := psI_84 (by omega) (psI_84 (by omega) (psI_nx hpI))
      have hc2 := cC_84 (a := 85) (j := L.length) (v := nI ((sgs L).flatMap lenc).length) (by omega) (by omega) (cC_84 (a := 84) (j := L.length) (v := nI x.1) (by omega) (by omega) (cC_nx gc))
      have hpJ1 : psJ c t 1 (xc_wr (xc_wr J 0 26 (nI 0)) 5 (4 * L.length + 3) (nI (x.1 - 84))) (x :: r) := psJ_5 (by omega) (by omega) (psJ_keep hpJ (xp_wr_cell (by omega)) (fun k hk => xp_wr_k (by omega)))
      have hs1 : sS (xc_wr (xc_wr J 0 26 (nI 0)) 5 (4 * L.length + 3) (nI (x.1 - 84))) (sgs L) := sS_5 (by omega) (by omega) (sS_keep (xp_wr_cell (by omega)) (xp_wr_k (by omega)) gs)
      obtain ⟨J3, n1, n2, n3⟩ := psJ_nx hN hpJ1 (by omega)
      have h3_15 : J3 0 15 = nI L.length := by rw [n2.2 15 (by omega) (by omega) (by omega) (by omega), xp_wr_cell (by omega), xp_wr_k (by omega)]; exact g15
      have hs3 := sS_n n2 hs1
      have hpJ4 : psJ c t 1 (xc_wr J3 5 (4 * L.length) (nI (sgs L).length)) r := psJ_5 (by omega) (by omega) n3
      have hs4 : sS (xc_wr J3 5 (4 * L.length) (nI (sgs L).length)) (sgs L) := sS_5 (by omega) (by omega) hs3
      obtain ⟨b, I3, J5, c1, c2, c3, c4, c5, c6⟩ := sum_both hN (st0 := []) hpI2 hpJ4 hc2 hs4 (B := B) (by omega) hB2 (by show 0 ≤ 20; omega)
      have hhead : fX6_takeHead (nI x.1) (I 83 0) 16 I = some (nI 1, nxI I) := by
        unfold fX6_takeHead
        rw [g83]
        exact e_cr (cv_kind hpI) (e_t rfl (e_t (by rw [show (16 : Int32) = nI 16 from rfl, xp_ltI (by omega) (by omega)]; exact hL15) (e_mw rfl rfl)))
      have hopen : fX1_open 83 (nI x.1) (nxI I) = some (nI 0, xc_wr (xc_wr (nxI I) 84 L.length (nI x.1)) 85 L.length (nI ((sgs L).flatMap lenc).length)) := by
        have e0 : nxI I 83 0 = nI L.length := by
          unfold nxI
          rw [xp_wr_cell (by omega)]
          exact g83
        unfold fX1_open
        rw [e0]
        refine e_f (by rw [show (16 : Int32) = nI 16 from rfl, xp_le (by omega) (by omega)]; omega) (e_st (k := L.length) rfl (by omega) rfl (e_st (k := L.length) ?_ (by omega) ?_ rfl))
        · rw [xp_wr_cell (by omega)]
          exact e0
        · rw [xp_wr_cell (by omega)]
          exact (cC_nx gc).1
      have hcl2 : ∀ R, (if nI b.toNat ≠ (0 : Int32) then xc_cv (fX1_openCondition 83 I3) fun I10 => xc_cr (fX6_kind I10) fun x11 => (if x11 ≠ (107 : Int32) then (bX6_readLaw_94 N M 83 I10) else xc_mw I10 132 3 ((I10 132 3) + 1) fun I12 => xc_cl (fX6_readEither N M 83 0 I12) fun x13 I14 => (if x13 ≠ (0 : Int32) then (bX6_readLaw_94 N M 83 I14) else some (0, I14))) else some (0, I3)) = R → fX6_readLaw N M 83 I = R := by
        intro R hR
        refine hcl _ ?_
        rw [bX6_readLaw_29]
        exact e_cl hhead (e_t (by decide) (e_cv hopen (e_cl c1 hR)))
      have href : ∀ R, (if nI b.toNat ≠ (0 : Int32) then xc_st 64 5 (((4 : Int32) * (J5 0 15)) + 1) (J5 0 16) J5 fun I8 => (if (I8 0 20) ≠ (3 : Int32) then (bX10_aLine_123 N M I8) else xc_cv (fX10_next0 N I8) fun I9 => xc_cl (fX10_any N M I9) fun x10 I11 => (if x10 ≠ (0 : Int32) then (bX10_aLine_123 N M I11) else some (0, I11))) else some (0, J5)) = R → fX10_aLine N M J = R := by
        intro R hR
        unfold fX10_aLine
        rw [htok]
        refine e_cr hin (e_t (by decide) (e_t ?_ (e_mw rfl (e_st (k := 4 * L.length + 3) ?_ (by omega) (v := nI (x.1 - 84)) ?_ (e_cv n1 (e_st (k := 4 * L.length) ?_ (by omega) hs3.1 (e_cl c2 hR)))))))
        · rw [g15, show (16 : Int32) = nI 16 from rfl, ne_eq, xp_eq (by omega) (by omega)]
          exact h16
        · rw [xp_wr_k (by omega), g15]
          show nI 4 * nI L.length + nI 3 = _
          rw [pk_mul, nI_add]
        · rw [xp_wr_k (by omega), htok, htm]
        · rw [h3_15]
          exact pk_mul 4 L.length
      have hfrI : frL I I3 := frL_t (frL_E (frE_nx _)) (frL_t (frL_wr (by omega)) (frL_t (frL_wr (by omega)) (frL_E c3)))
      have hfrJ : frM J J5 := frM_t (frM_G (frG_26 _ _)) (frM_t frM_5 (frM_t (frM_G (frG_F (frF_n n2))) (frM_t frM_5 (frM_G (frG_F c4)))))
      cases b with
      | false => exact ⟨false, I3, J5, hcl2 _ (e_f (fun z => z rfl) rfl), href _ (e_f (fun z => z rfl) rfl), hfrI, hfrJ, c5, fun z => by cases z⟩
      | true =>
        obtain ⟨T1, E, o1, o2, o3, o4, o5, o6, o7⟩ := c6 rfl
        have hlenE : ((sgs L ++ E).flatMap lenc).length = ((sgs L).flatMap lenc).length + (E.flatMap lenc).length := by rw [List.flatMap_append, List.length_append]
        have h3_83 : I3 83 0 = nI L.length := by
          rw [c3.2, xp_wr_cell (by omega), xp_wr_cell (by omega)]
          unfold nxI
          rw [xp_wr_cell (by omega)]
          exact g83
        have h5_15 : J5 0 15 = nI L.length := by rw [c4.2 15 (by omega) (by omega), xp_wr_cell (by omega)]; exact h3_15
        have hoc : fX1_openCondition 83 I3 = some (nI 0, xc_wr I3 86 L.length (nI ((sgs L ++ E).flatMap lenc).length)) := by
          unfold fX1_openCondition
          rw [h3_83]
          exact e_f (by rw [show (16 : Int32) = nI 16 from rfl, xp_le (by omega) (by omega)]; omega) (e_st (k := L.length) rfl (by omega) o4.1 rfl)
        have hpI4 : psI (xc_wr I3 86 L.length (nI ((sgs L ++ E).flatMap lenc).length)) T1 := psI_84 (by omega) o2
        have hc4 := cC_84 (a := 86) (j := L.length) (v := nI ((sgs L ++ E).flatMap lenc).length) (by omega) (by omega) o4
        have hpJ6 : psJ c t 1 (xc_wr J5 5 (4 * L.length + 1) (nI (sgs L ++ E).length)) T1 := psJ_5 (by omega) (by omega) o3
        have hs6 : sS (xc_wr J5 5 (4 * L.length + 1) (nI (sgs L ++ E).length)) (sgs L ++ E) := sS_5 (by omega) (by omega) o5
        obtain ⟨y, r1, rfl⟩ := psJ_ne o3
        have hky := psJ_k o3
        have htoky : (xc_wr J5 5 (4 * L.length + 1) (nI (sgs L ++ E).length)) 0 20 = nI (tm 1 y.1) := psJ_tok hpJ6
        have q3 := tq 3 107 (by decide +kernel) (by omega) hky
        have e107 : (nI y.1 = (107 : Int32)) = (y.1 = 107) := xp_eq (b := 107) (by omega) (by omega)
        have hst1 : ((4 : Int32) * (J5 0 15)) + 1 = nI (4 * L.length + 1) := by
          rw [h5_15]
          show nI 4 * nI L.length + nI 1 = _
          rw [pk_mul, nI_add]
        -- cells of this line so far
        have w84 : ∀ K : xc_M, (∀ a, a = 84 ∨ a = 85 ∨ a = 86 ∨ a = 87 → K a = (xc_wr I3 86 L.length (nI ((sgs L ++ E).flatMap lenc).length)) a) → (∀ a, a = 84 ∨ a = 85 ∨ a = 86 ∨ a = 87 → ∀ j, j < L.length → K a j = I a j) ∧ K 84 L.length = nI (x.1 - 84 + 84) ∧ K 85 L.length = nI ((sgs L).flatMap lenc).length ∧ K 86 L.length = nI (((sgs L).flatMap lenc).length + (E.flatMap lenc).length) := by
          intro K hK
          have hb : ∀ a, a = 84 ∨ a = 85 ∨ a = 86 ∨ a = 87 → I3 a = (xc_wr (xc_wr (nxI I) 84 L.length (nI x.1)) 85 L.length (nI ((sgs L).flatMap lenc).length)) a := fun a ha => c3.1 a (by omega) (by omega) (by omega)
          refine ⟨fun a ha j hj => ?_, ?_, ?_, ?_⟩
          · rw [hK a ha, xp_wr_n _ _ _ _ _ _ (fun _ => by omega), hb a ha, xp_wr_n _ _ _ _ _ _ (fun _ => by omega), xp_wr_n _ _ _ _ _ _ (fun _ => by omega)]
            unfold nxI
            rw [xp_wr_cell (by omega)]
          · rw [hK 84 (by omega), xp_wr_cell (by omega), hb 84 (by omega), xp_wr_cell (by omega), xp_wr_s]
            congr 1
            omega
          · rw [hK 85 (by omega), xp_wr_cell (by omega), hb 85 (by omega), xp_wr_s]
          · rw [hK 86 (by omega), xp_wr_s, hlenE]
        have w5 : ∀ K : xc_M, K 5 = (xc_wr J5 5 (4 * L.length + 1) (nI (sgs L ++ E).length)) 5 → (∀ j, j < 4 * L.length → K 5 j = J 5 j) ∧ K 5 (4 * L.length) = nI (sgs L).length ∧ K 5 (4 * L.length + 1) = nI ((sgs L).length + E.length) ∧ K 5 (4 * L.length + 3) = nI (x.1 - 84) := by
          intro K hK
          have hb : J5 5 = _ := c4.1 5 (by omega) (by omega)
          have hb3 : J3 5 = _ := n2.1 5 (by omega)
          refine ⟨fun j hj => ?_, ?_, ?_, ?_⟩
          · rw [hK, xp_wr_k (by omega), hb, xp_wr_k (by omega), hb3, xp_wr_k (by omega), xp_wr_cell (by omega)]
          · rw [hK, xp_wr_k (by omega), hb, xp_wr_s]
          · rw [hK, xp_wr_s, List.length_append]
          · rw [hK, xp_wr_k (by omega), hb, xp_wr_k (by omega), hb3, xp_wr_s]
        by_cases hy : y.1 = 107
        · obtain ⟨J7, m1, m2, m3⟩ := psJ_nx hN hpJ6 (by omega)
          have h7_26 : J7 0 26 = nI 0 := by
            rw [m2.2 26 (by omega) (by omega) (by omega) (by omega), xp_wr_cell (by omega), c4.2 26 (by omega) (by omega), xp_wr_cell (by omega), n2.2 26 (by omega) (by omega) (by omega) (by omega), xp_wr_cell (by omega), xp_wr_s]
          rw [List.length_cons] at o1 o7
          obtain ⟨M', rfl⟩ : ∃ m, M = m + 2 := ⟨M - 2, by omega⟩
          have hes := es_of (c := c) (t := t) (N := N) (M1 := M' + 1) (M2 := M') (n := r1.length) (op := 0) hN (by omega) (fun T I J S st0 B => by
            -- one fuel for both
            have h1 := cond_all (c := c) (t := t) (N := N) hN r1.length 0 (M' + 1) M' (by omega) (by omega) (by omega)
            exact h1 T I J S st0 B)
          obtain ⟨b, I5, J8, d1, d2, d3, d4, d5, d6⟩ := hes r1 (nxI (xc_wr I3 86 L.length (nI ((sgs L ++ E).flatMap lenc).length))) J7 (sgs L ++ E) [] B (Nat.le_refl _) (psI_nx hpI4) m3 (cC_nx hc4) (sS_n m2 hs6) h7_26 (by omega) hB2 (by show 0 ≤ 0; omega)
          have hfI : frL I I5 := frL_t hfrI (frL_t (frL_wr (by omega)) (frL_t (frL_E (frE_nx _)) (frL_E d3)))
          have hfJ : frM J J8 := frM_t hfrJ (frM_t frM_5 (frM_t (frM_G (frG_F (frF_n m2))) (frM_G d4)))
          have hcl3 : ∀ R, (if nI b.toNat ≠ (0 : Int32) then (bX6_readLaw_94 N (M' + 2) 83 I5) else some (0, I5)) = R → fX6_readLaw N (M' + 2) 83 I = R := by
            intro R hR
            exact hcl2 _ (e_t (by decide) (e_cv hoc (e_cr (cv_kind hpI4) (e_f (by rw [ne_eq, e107]; exact fun z => z hy) (e_mw rfl (e_cl d1 hR))))))
          have href3 : ∀ R, (if nI b.toNat ≠ (0 : Int32) then (bX10_aLine_123 N (M' + 2) J8) else some (0, J8)) = R → fX10_aLine N (M' + 2) J = R := by
            intro R hR
            exact href _ (e_t (by decide) (e_st (k := 4 * L.length + 1) hst1 (by omega) o5.1 (e_f (by rw [htoky, show (3 : Int32) = nI 3 from rfl, ne_eq, q3]; exact fun z => z hy) (e_cv m1 (e_cl d2 hR)))))
          cases b with
          | false => exact ⟨false, I5, J8, hcl3 _ (e_f (fun z => z rfl) rfl), href3 _ (e_f (fun z => z rfl) rfl), hfI, hfJ, d5, fun z => by cases z⟩
          | true =>
            obtain ⟨d26, T5, Bc, p1, p2, p3, p4, p5, p6, p7⟩ := d6 rfl
            have hw := w84 I5 (fun a ha => by rw [d3.1 a (by omega) (by omega) (by omega)]; exact xp_wr_cell (by omega))
            have hv := w5 J8 (by rw [d4.1 5 (by omega) (by omega), m2.1 5 (by omega)])
            have h583 : I5 83 0 = nI L.length := by
              rw [d3.2]
              unfold nxI
              rw [xp_wr_cell (by omega), xp_wr_cell (by omega)]
              exact h3_83
            have h815 : J8 0 15 = nI L.length := by
              rw [d4.2 15 (by omega) (by omega) (by omega), m2.2 15 (by omega) (by omega) (by omega) (by omega), xp_wr_cell (by omega)]
              exact h5_15
            obtain ⟨b, I', J', e1, e2, e3, e4, e5, e6⟩ := line_end (M := M' + 2) (L := L) (E := E) (B := Bc) (Bd := B) (k := x.1 - 84) hN p2 p3 hL15 h583 h815 p4 p5 gl hw.1 hv.1 hw.2.1 hw.2.2.1 hw.2.2.2 hv.2.1 hv.2.2.1 hv.2.2.2 ⟨by show 20 ≤ x.1 - 84; omega, by show x.1 - 84 ≤ 22; omega, o6, fun _ => p6⟩ p7 hB2
            refine ⟨b, I', J', hcl3 _ (e_t (by decide) e1), href3 _ (e_t (by decide) e2), frL_t hfI e3, frM_t hfJ e4, e5, fun hb => ?_⟩
            obtain ⟨T', u1, u2, u3, u4, u5, u6, u7, u8, u9⟩ := e6 hb
            exact ⟨T', (x.1 - 84, E, Bc), by rw [List.length_cons]; omega, u2, u3, u4, u5, u6, u7, u8, u9⟩
        · have hw := w84 (xc_wr I3 86 L.length (nI ((sgs L ++ E).flatMap lenc).length)) (fun a ha => rfl)
          have hv := w5 (xc_wr J5 5 (4 * L.length + 1) (nI (sgs L ++ E).length)) rfl
          obtain ⟨b, I', J', e1, e2, e3, e4, e5, e6⟩ := line_end (M := M) (L := L) (E := E) (B := []) (Bd := B) (k := x.1 - 84) hN hpI4 hpJ6 hL15 (by rw [xp_wr_cell (by omega)]; exact h3_83) (by rw [xp_wr_cell (by omega)]; exact h5_15) (by rw [List.append_nil]; exact hc4) (by rw [List.append_nil]; exact hs6) gl hw.1 hv.1 hw.2.1 hw.2.2.1 hw.2.2.2 hv.2.1 hv.2.2.1 hv.2.2.2 ⟨by show 20 ≤ x.1 - 84; omega, by show x.1 - 84 ≤ 22; omega, o6, fun z => absurd rfl z⟩ (by rw [List.append_nil]; exact o7) hB2
          refine ⟨b, I', J', hcl2 _ (e_t (by decide) (e_cv hoc (e_cr (cv_kind hpI4) (e_t (by rw [ne_eq, e107]; exact hy) e1)))), href _ (e_t (by decide) (e_st (k := 4 * L.length + 1) hst1 (by omega) o5.1 (e_t (by rw [htoky, show (3 : Int32) = nI 3 from rfl, ne_eq, q3]; exact hy) e2))), frL_t hfrI (frL_t (frL_wr (by omega)) e3), frM_t hfrJ (frM_t frM_5 e4), e5, fun hb => ?_⟩
          obtain ⟨T', u1, u2, u3, u4, u5, u6, u7, u8, u9⟩ := e6 hb
          rw [List.length_cons] at o1 u1
          exact ⟨T', (x.1 - 84, E, []), by rw [List.length_cons]; omega, u2, u3, u4, u5, u6, u7, u8, u9⟩
  · obtain ⟨a1, a2⟩ := line_bad (N := N) (M := M) hpI hpJ hx
    exact ⟨false, _, _, a1, a2, frL_E (frE_rf _ _ _), frM_G (frG_F (frF_bd _ _ _)), fun _ => flt_mk _ _, fun z => by cases z⟩
end
