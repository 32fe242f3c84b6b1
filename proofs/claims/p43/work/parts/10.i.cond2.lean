-- ===== texts: C, and all of them =====
section
variable {N t : Nat} {c : Nat → Nat} {I J : xc_M} {x y : Tok} {r T : List Tok} {S : List (Nat × Int32)}
theorem okE_J {J' : xc_M} {B m : Nat} {p q : List Bool} (h : okE c t S B m p q I J) (h10 : J' 10 = J 10) (h6 : J' 6 = J 6) (hk : ∀ k, k = 14 ∨ k = 16 ∨ k = 18 ∨ k = 19 ∨ k = 20 ∨ k = 21 ∨ k = 22 → J' 0 k = J 0 k) : okE c t S B m p q I J' := by
  obtain ⟨T', U, h1, h2, h3, h4, h5, h6', h7⟩ := h
  exact ⟨T', U, h1, h2, psJ_keep h3 h10 (fun k z => hk k (by omega)), h4, sS_keep h6 (hk 16 (by omega)) h5, h6', h7⟩
theorem okE_26 {B m : Nat} {p q : List Bool} (h : okE c t S B m p q I J) (v : Int32) : okE c t S B m p q I (xc_wr J 0 26 v) := okE_J h (xp_wr_cell (by omega)) (xp_wr_cell (by omega)) (fun k hk => xp_wr_k (by omega))
theorem es_of {M1 M2 n op : Nat} (hN : 1000 ≤ N) (hop : op ≤ 8) (hC : cdS c t N M1 M2 n op) : esS c t N (M1 + 1) (M2 + 2) n op := by
  intro T I J S st0 B hn hpI hpJ hc hs h26 hB hB2 hst
  have hT : T.length ≤ 401 := by
    obtain ⟨i, _, _, h3, _⟩ := hpI.1
    omega
  exact either_loop hN hC hop (zX6_readCondition N M1 1) (zX10_any N (M2 + 1) 0) (zX10_any N (M2 + 1) 2) n T I J S st0 B N N 0 hn (Nat.le_refl _) hpI hpJ hc hs h26 (by show (S.flatMap lenc).length + 0 + T.length ≤ B; omega) hB2 hst (by omega) (by omega) (by omega)
/-- E of both, as they are called -/
theorem sum_both (hN : 1000 ≤ N) {B : Nat} {st0 : List Bool} (hpI : psI I T) (hpJ : psJ c t 1 J T) (hc : cC I (S.flatMap lenc)) (hs : sS J S) (hB : (S.flatMap lenc).length + T.length ≤ B) (hB2 : B ≤ 401) (hst : st0.length ≤ 20) : ∃ (b : Bool) (I' J' : xc_M), fX6_readSum N 83 I = some (nI b.toNat, I') ∧ fX10_sumUp N J = some (nI b.toNat, J') ∧ frE I I' ∧ frF J J' ∧ (b = false → flt I' J') ∧ (b = true → okE c t S B T.length st0 (false :: st0) I' J') := by
  have hT : T.length ≤ 401 := by
    obtain ⟨i, _, _, h3, _⟩ := hpI.1
    omega
  exact sum_sim hN T.length T 0 0 N N N 0 B I J S st0 (Nat.le_refl _) (by omega) (by omega) (by omega) hpI hpJ hc hs (Or.inl rfl) (Or.inl rfl) (by show (S.flatMap lenc).length + 0 + 0 + T.length ≤ B; omega) hB2 (by omega) hst
theorem rv_opens (hN : 1000 ≤ N) {op : Nat} (hpJ : psJ c t 1 J (x :: r)) (h0 : x.1 ≠ 0) (h26 : J 0 26 = nI op) (hop : op < 8) : ∃ J', fX10_opens N J = some (nI 1, J') ∧ psJ c t 1 J' r ∧ J' 0 26 = nI (op + 1) ∧ frG J J' ∧ (∀ S, sS J S → sS J' S) := by
  have h1 : psJ c t 1 (xc_wr J 0 26 (nI (op + 1))) (x :: r) := psJ_keep hpJ (xp_wr_cell (by omega)) (fun k hk => xp_wr_k (by omega))
  obtain ⟨J2, n1, n2, n3⟩ := psJ_nx hN h1 h0
  refine ⟨J2, ?_, n3, ?_, frG_t (frG_26 _ _) (frG_F (frF_n n2)), fun S hs => sS_n n2 (sS_keep (xp_wr_cell (by omega)) (xp_wr_k (by omega)) hs)⟩
  · unfold fX10_opens
    rw [h26]
    refine e_t ?_ (e_mw (nI_add op 1) (e_cv n1 rfl))
    rw [show (8 : Int32) = nI 8 from rfl, ne_eq, xp_eq (by omega) (by omega)]
    omega
  · rw [n2.2 26 (by omega) (by omega) (by omega) (by omega), xp_wr_s]
theorem cond_sum (hN : 1000 ≤ N) (rc re : Nat → Int32 → xc_M → Option (Int32 × xc_M)) (r0 r1 r2 : xc_M → Option (Int32 × xc_M)) {op B : Nat} {st0 : List Bool} (hpI : psI I (x :: r)) (hpJ : psJ c t 1 J (x :: r)) (hc : cC I (S.flatMap lenc)) (hs : sS J S) (h26 : J 0 26 = nI op) (hB : (S.flatMap lenc).length + (x :: r).length ≤ B) (hB2 : B ≤ 401) (hst : st0.length ≤ 19) (h1 : x.1 ≠ 103) (h2 : x.1 ≠ 40) : ∃ (b : Bool) (I' J' : xc_M), gX6_readCondition N rc re 83 (nI op) I = some (nI b.toNat, I') ∧ gX10_oneTest N r0 r1 r2 J = some (nI b.toNat, J') ∧ frE I I' ∧ frG J J' ∧ (b = false → flt I' J') ∧ (b = true → J' 0 26 = nI op ∧ okE c t S B (x :: r).length st0 (true :: st0) I' J') := by
  have hk := psJ_k hpJ
  have htok := psJ_tok hpJ
  have q6 := tq 6 103 (by decide +kernel) (by omega) hk
  have q140 := tq 140 40 (by decide +kernel) (by omega) hk
  have e103 : (nI x.1 = (103 : Int32)) = (x.1 = 103) := xp_eq (b := 103) (by omega) (by omega)
  have e40 : (nI x.1 = (40 : Int32)) = (x.1 = 40) := xp_eq (b := 40) (by omega) (by omega)
  obtain ⟨b, I1, J1, c1, c2, c3, c4, c5, c6⟩ := sum_both hN (st0 := st0) hpI hpJ hc hs hB hB2 (by omega)
  rw [gX6_readCondition, gX10_oneTest, htok]
  have n6 : nI (tm 1 x.1) ≠ (6 : Int32) := by rw [show (6 : Int32) = nI 6 from rfl, ne_eq, q6]; exact h1
  have n140 : nI (tm 1 x.1) ≠ (140 : Int32) := by rw [show (140 : Int32) = nI 140 from rfl, ne_eq, q140]; exact h2
  have n103 : ¬ nI x.1 = (103 : Int32) := by rw [e103]; exact h1
  have n40 : nI x.1 ≠ (40 : Int32) := by rw [ne_eq, e40]; exact h2
  cases b with
  | false => exact ⟨false, I1, J1, e_cr (cv_kind hpI) (e_lt rfl (e_f n103 (e_t n40 (e_cl c1 (e_f (fun z => z rfl) rfl))))), e_t n6 (e_t n140 (e_cl c2 (e_f (fun z => z rfl) rfl))), c3, frG_F c4, c5, fun z => by cases z⟩
  | true =>
    obtain ⟨T1, U1, o1, o2, o3, o4, o5, o6, o7⟩ := c6 rfl
    obtain ⟨y, r1', rfl⟩ := psJ_ne o3
    have hky := psJ_k o3
    have htoky := psJ_tok o3
    rw [List.length_cons] at o1 o7
    have q160 := tq 160 60 (by decide +kernel) (by omega) hky
    have q161 := tq 161 61 (by decide +kernel) (by omega) hky
    have q162 := tq 162 62 (by decide +kernel) (by omega) hky
    have e60 : (nI y.1 = (60 : Int32)) = (y.1 = 60) := xp_eq (b := 60) (by omega) (by omega)
    have e61 : (nI y.1 = (61 : Int32)) = (y.1 = 61) := xp_eq (b := 61) (by omega) (by omega)
    have e62 : (nI y.1 = (62 : Int32)) = (y.1 = 62) := xp_eq (b := 62) (by omega) (by omega)
    have hJ26 : J1 0 26 = nI op := (c4.2 26 (by omega) (by omega)).trans h26
    by_cases hy : y.1 = 60 ∨ y.1 = 61 ∨ y.1 = 62
    · obtain ⟨J2, n1, n2, n3⟩ := psJ_nx hN o3 (by omega)
      obtain ⟨b, I3, J3, d1, d2, d3, d4, d5, d6⟩ := sum_both hN (B := B - 1) (st0 := false :: st0) (psI_nx o2) n3 (cC_nx o4) (sS_n n2 o5) (by omega) (by omega) (by rw [List.length_cons]; omega)
      -- which step it is
      have hcode : ∃ s, (s = 27 ∨ s = 28 ∨ s = 29) ∧ lenc (s, 0) = [(20000 : Int32) + nI y.1] ∧ ∀ R, bX10_oneTest_147 N r0 r1 r2 (nI s) J1 = R → (if nI (tm 1 y.1) ≠ (160 : Int32) then (if nI (tm 1 y.1) ≠ (161 : Int32) then (if nI (tm 1 y.1) ≠ (162 : Int32) then (bX10_oneTest_147 N r0 r1 r2 (-1) J1) else (bX10_oneTest_147 N r0 r1 r2 29 J1)) else (bX10_oneTest_147 N r0 r1 r2 28 J1)) else (bX10_oneTest_147 N r0 r1 r2 27 J1)) = R := by
        rcases hy with z | z | z
        · refine ⟨27, by omega, by rw [z]; rfl, fun R hR => e_f ?_ hR⟩
          rw [show (160 : Int32) = nI 160 from rfl, ne_eq, q160]
          exact fun q => q z
        · refine ⟨28, by omega, by rw [z]; rfl, fun R hR => e_t ?_ (e_f ?_ hR)⟩
          · rw [show (160 : Int32) = nI 160 from rfl, ne_eq, q160]
            omega
          · rw [show (161 : Int32) = nI 161 from rfl, ne_eq, q161]
            exact fun q => q z
        · refine ⟨29, by omega, by rw [z]; rfl, fun R hR => e_t ?_ (e_t ?_ (e_f ?_ hR))⟩
          · rw [show (160 : Int32) = nI 160 from rfl, ne_eq, q160]
            omega
          · rw [show (161 : Int32) = nI 161 from rfl, ne_eq, q161]
            omega
          · rw [show (162 : Int32) = nI 162 from rfl, ne_eq, q162]
            exact fun q => q z
      obtain ⟨s, hs3, hle, href⟩ := hcode
      have hcls : ∀ R, bX6_readCondition_136 N rc re 83 (nI y.1) I1 = R → (if nI y.1 = (60 : Int32) then (bX6_readCondition_136 N rc re 83 (nI y.1) I1) else (if nI y.1 = (61 : Int32) then (bX6_readCondition_136 N rc re 83 (nI y.1) I1) else (if nI y.1 = (62 : Int32) then (bX6_readCondition_136 N rc re 83 (nI y.1) I1) else xc_cl (fX6_refuse 1 I1) fun x7 I8 => xc_rb x7 (x7, I8)))) = R := by
        intro R hR
        by_cases z1 : nI y.1 = (60 : Int32)
        · exact e_t z1 hR
        · by_cases z2 : nI y.1 = (61 : Int32)
          · exact e_f z1 (e_t z2 hR)
          · refine e_f z1 (e_f z2 (e_t ?_ hR))
            rw [e60] at z1
            rw [e61] at z2
            rw [e62]
            omega
      have hsne : nI s ≠ ((-1) : Int32) := by
        show nI s ≠ mI
        rw [ne_eq, xp_nm1 (by omega)]
        exact fun z => z
      cases b with
      | false =>
        refine ⟨false, I3, J3, e_cr (cv_kind hpI) (e_lt rfl (e_f n103 (e_t n40 (e_cl c1 (e_t (by decide) (e_cr (cv_kind o2) (e_lt rfl (hcls _ ?_)))))))), e_t n6 (e_t n140 (e_cl c2 (e_t (by decide) ?_))), frE_t c3 (frE_t (frE_nx _) d3), frG_F (frF_t c4 (frF_t (frF_n n2) d4)), d5, fun z => by cases z⟩
        · rw [bX6_readCondition_136]
          exact e_mw rfl (e_cl d1 (e_f (fun z => z rfl) rfl))
        · rw [htoky]
          refine href _ ?_
          rw [bX10_oneTest_147]
          exact e_lt rfl (e_t hsne (e_cv n1 (e_cl d2 (e_f (fun z => z rfl) rfl))))
      | true =>
        obtain ⟨I4, J4, e1, e2, e3, e4, e5⟩ := emit_lay (cell := (20000 : Int32) + nI y.1) (s := s) (m' := r1'.length) (d6 rfl) hle (by omega) (Nat.le_refl _) (lty_cmp (q := st0) (by omega) hs3)
        refine ⟨true, I4, J4, e_cr (cv_kind hpI) (e_lt rfl (e_f n103 (e_t n40 (e_cl c1 (e_t (by decide) (e_cr (cv_kind o2) (e_lt rfl (hcls _ ?_)))))))), e_t n6 (e_t n140 (e_cl c2 (e_t (by decide) ?_))), frE_t c3 (frE_t (frE_nx _) (frE_t d3 e3)), frG_F (frF_t c4 (frF_t (frF_n n2) (frF_t d4 e4))), (fun z => by cases z), fun _ => ⟨?_, okE_B (okE_app e5 (m := r1'.length) (Nat.le_refl _) o6) (by omega) (by omega)⟩⟩
        · rw [bX6_readCondition_136]
          exact e_mw rfl (e_cl d1 (e_t (by decide) (e_cv e1 rfl)))
        · rw [htoky]
          refine href _ ?_
          rw [bX10_oneTest_147]
          exact e_lt rfl (e_t hsne (e_cv n1 (e_cl d2 (e_t (by decide) (e_cv e2 rfl)))))
        · rw [e4.2 26 (by omega) (by omega), d4.2 26 (by omega) (by omega), n2.2 26 (by omega) (by omega) (by omega) (by omega)]
          exact hJ26
    · refine ⟨false, rfI I1 1 y.2.1, bdJ J1 1 y.2.1, e_cr (cv_kind hpI) (e_lt rfl (e_f n103 (e_t n40 (e_cl c1 (e_t (by decide) (e_cr (cv_kind o2) (e_lt rfl (e_f ?_ (e_f ?_ (e_f ?_ (e_cl (cv_refuse o2 1) rfl))))))))))), e_t n6 (e_t n140 (e_cl c2 (e_t (by decide) ?_))), frE_t c3 (frE_rf _ _ _), frG_F (frF_t c4 (frF_bd _ _ _)), fun _ => flt_mk _ _, fun z => by cases z⟩
      · rw [e60]
        exact fun z => hy (Or.inl z)
      · rw [e61]
        exact fun z => hy (Or.inr (Or.inl z))
      · rw [e62]
        exact fun z => hy (Or.inr (Or.inr z))
      · rw [htoky]
        refine e_t ?_ (e_t ?_ (e_t ?_ ?_))
        · rw [show (160 : Int32) = nI 160 from rfl, ne_eq, q160]
          exact fun z => hy (Or.inl z)
        · rw [show (161 : Int32) = nI 161 from rfl, ne_eq, q161]
          exact fun z => hy (Or.inr (Or.inl z))
        · rw [show (162 : Int32) = nI 162 from rfl, ne_eq, q162]
          exact fun z => hy (Or.inr (Or.inr z))
        · rw [bX10_oneTest_147]
          exact e_lt rfl (e_f (fun z => z rfl) (e_cl (rv_bad o3 1) rfl))
theorem cond_all (hN : 1000 ≤ N) : ∀ n op M1 M2, op ≤ 8 → 2 * (8 - op) + 1 ≤ M1 → 3 * (8 - op) + 1 ≤ M2 → cdS c t N M1 M2 n op := by
  intro n
  induction n with
  | zero =>
    intro op M1 M2 _ _ _ T I J S st0 B hn hpI hpJ
    obtain ⟨x, r, rfl⟩ := psJ_ne hpJ
    rw [List.length_cons] at hn
    omega
  | succ n ih =>
    intro op M1 M2 hop hM1 hM2 T I J S st0 B hn hpI hpJ hc hs h26 hB hB2 hst
    obtain ⟨x, r, rfl⟩ := psJ_ne hpJ
    obtain ⟨m1, rfl⟩ : ∃ m, M1 = m + 1 := ⟨M1 - 1, by omega⟩
    obtain ⟨m2, rfl⟩ : ∃ m, M2 = m + 1 := ⟨M2 - 1, by omega⟩
    have hk := psJ_k hpJ
    have htok := psJ_tok hpJ
    show ∃ b I' J', gX6_readCondition N (zX6_readCondition N m1 0) (zX6_readCondition N m1 1) 83 (nI op) I = some (nI (Bool.toNat b), I') ∧ gX10_oneTest N (zX10_any N m2 0) (zX10_any N m2 1) (zX10_any N m2 2) J = some (nI b.toNat, J') ∧ _
    by_cases hno : x.1 ≠ 103 ∧ x.1 ≠ 40
    · exact cond_sum hN _ _ _ _ _ hpI hpJ hc hs h26 hB hB2 (by omega) hno.1 hno.2
    · rw [List.length_cons] at hn hB
      have q6 := tq 6 103 (by decide +kernel) (by omega) hk
      have q140 := tq 140 40 (by decide +kernel) (by omega) hk
      have e103 : (nI x.1 = (103 : Int32)) = (x.1 = 103) := xp_eq (b := 103) (by omega) (by omega)
      have e40 : (nI x.1 = (40 : Int32)) = (x.1 = 40) := xp_eq (b := 40) (by omega) (by omega)
      have hx : x.1 = 103 ∨ x.1 = 40 := by omega
      have hcl : ∀ R, bX6_readCondition_17 N (zX6_readCondition N m1 0) (zX6_readCondition N m1 1) 83 (nI op) (nI x.1) I = R → gX6_readCondition N (zX6_readCondition N m1 0) (zX6_readCondition N m1 1) 83 (nI op) I = R := by
        intro R hR
        rw [gX6_readCondition]
        refine e_cr (cv_kind hpI) (e_lt rfl ?_)
        rcases hx with z | z
        · exact e_t (by rw [e103]; exact z) hR
        · exact e_f (by rw [e103]; omega) (e_f (by rw [ne_eq, e40]; exact fun q => q z) hR)
      by_cases ho8 : op < 8
      · obtain ⟨J1, p1, p2, p3, p4, p5⟩ := rv_opens hN hpJ (by omega) h26 ho8
        have hlt8 : nI op < (8 : Int32) := by rw [show (8 : Int32) = nI 8 from rfl, xp_ltI (by omega) (by omega)]; exact ho8
        have h26s : nI (op + 1) - 1 = nI op := by rw [show (1 : Int32) = nI 1 from rfl, pk_sub (by omega), Nat.add_sub_cancel]
        rcases hx with z | z
        · -- not
          obtain ⟨b, I2, J2, c1, c2, c3, c4, c5, c6⟩ := ih (op + 1) m1 m2 (by omega) (by omega) (by omega) r (nxI I) J1 S st0 (B - 1) (by omega) (psI_nx hpI) p2 (cC_nx hc) (p5 _ hs) p3 (by omega) (by omega) (by omega)
          have n6 : ¬ nI (tm 1 x.1) ≠ (6 : Int32) := by rw [show (6 : Int32) = nI 6 from rfl, ne_eq, q6]; exact fun q => q z
          have n40 : nI x.1 ≠ (40 : Int32) := by rw [ne_eq, e40]; omega
          cases b with
          | false =>
            refine ⟨false, I2, J2, hcl _ ?_, ?_, frE_t (frE_nx _) c3, frG_t p4 c4, c5, fun z => by cases z⟩
            · rw [bX6_readCondition_17]
              exact e_t hlt8 (e_mw rfl (e_t n40 (e_cl (by rw [show (1 : Int32) = nI 1 from rfl, nI_add]; exact c1) (e_f (fun z => z rfl) rfl))))
            · rw [gX10_oneTest, htok]
              exact e_f n6 (e_cl p1 (e_f (by decide) (e_cl c2 (e_f (fun z => z rfl) rfl))))
          | true =>
            obtain ⟨d26, hok⟩ := c6 rfl
            obtain ⟨I4, J4, e1, e2, e3, e4, e5⟩ := emit_lay (cell := 20103) (s := 30) (m' := r.length) (okE_26 hok (nI op)) rfl (by omega) (Nat.le_refl _) (lty_not (q := st0) (by omega))
            refine ⟨true, I4, J4, hcl _ ?_, ?_, frE_t (frE_nx _) (frE_t c3 e3), frG_t p4 (frG_t c4 (frG_t (frG_26 _ _) (frG_F e4))), (fun z => by cases z), fun _ => ⟨?_, okE_B e5 (by omega) (by rw [List.length_cons]; omega)⟩⟩
            · rw [bX6_readCondition_17]
              exact e_t hlt8 (e_mw rfl (e_t n40 (e_cl (by rw [show (1 : Int32) = nI 1 from rfl, nI_add]; exact c1) (e_t (by decide) (e_cv e1 rfl)))))
            · rw [gX10_oneTest, htok]
              exact e_f n6 (e_cl p1 (e_f (by decide) (e_cl c2 (e_t (by decide) (e_mw (by rw [d26]; exact h26s) (e_cv e2 rfl))))))
            · rw [e4.2 26 (by omega) (by omega), xp_wr_s]
        · -- (
          obtain ⟨m1', rfl⟩ : ∃ m, m1 = m + 1 := ⟨m1 - 1, by omega⟩
          obtain ⟨m2', rfl⟩ : ∃ m, m2 = m + 2 := ⟨m2 - 2, by omega⟩
          have hes := es_of hN (by omega) (ih (op + 1) m1' m2' (by omega) (by omega) (by omega))
          obtain ⟨b, I2, J2, c1, c2, c3, c4, c5, c6⟩ := hes r (nxI I) J1 S st0 B (by omega) (psI_nx hpI) p2 (cC_nx hc) (p5 _ hs) p3 (by omega) hB2 (by omega)
          have n6 : nI (tm 1 x.1) ≠ (6 : Int32) := by rw [show (6 : Int32) = nI 6 from rfl, ne_eq, q6]; omega
          have n140 : ¬ nI (tm 1 x.1) ≠ (140 : Int32) := by rw [show (140 : Int32) = nI 140 from rfl, ne_eq, q140]; exact fun q => q z
          have n40 : ¬ nI x.1 ≠ (40 : Int32) := by rw [ne_eq, e40]; exact fun q => q z
          cases b with
          | false =>
            refine ⟨false, I2, J2, hcl _ ?_, ?_, frE_t (frE_nx _) c3, frG_t p4 c4, c5, fun z => by cases z⟩
            · rw [bX6_readCondition_17]
              exact e_t hlt8 (e_mw rfl (e_f n40 (e_cl (by rw [show (1 : Int32) = nI 1 from rfl, nI_add]; exact c1) (e_t rfl rfl))))
            · rw [gX10_oneTest, htok]
              exact e_t n6 (e_f n140 (e_cl p1 (e_f (by decide) (e_cl c2 (e_t rfl rfl)))))
          | true =>
            obtain ⟨d26, T2, U2, o1, o2, o3, o4, o5, o6, o7⟩ := c6 rfl
            obtain ⟨b, I3, J3, t1, t2, t3, t4, t5, t6⟩ := take_sim hN (rd := 1) (a := 41) (a' := 141) (by decide +kernel) (by omega) (by omega) (by omega) o2 o3
            cases b with
            | false =>
              refine ⟨false, I3, J3, hcl _ ?_, ?_, frE_t (frE_nx _) (frE_t c3 (fr1_E t3)), frG_t p4 (frG_t c4 (frG_F (fr2_F t4))), t5, fun z => by cases z⟩
              · rw [bX6_readCondition_17]
                exact e_t hlt8 (e_mw rfl (e_f n40 (e_cl (by rw [show (1 : Int32) = nI 1 from rfl, nI_add]; exact c1) (e_f (by decide) (e_cl t1 (e_t rfl rfl))))))
              · rw [gX10_oneTest, htok]
                exact e_t n6 (e_f n140 (e_cl p1 (e_f (by decide) (e_cl c2 (e_f (by decide) (e_cl t2 (e_f (fun z => z rfl) rfl)))))))
            | true =>
              obtain ⟨y, r3, hT2, g1, g2⟩ := t6 rfl
              rw [hT2, List.length_cons] at o1 o7
              have d26' : J3 0 26 = nI (op + 1) := (t4.2 26 (by omega)).trans d26
              refine ⟨true, I3, xc_wr J3 0 26 (nI op), hcl _ ?_, ?_, frE_t (frE_nx _) (frE_t c3 (fr1_E t3)), frG_t p4 (frG_t c4 (frG_t (frG_F (fr2_F t4)) (frG_26 _ _))), (fun z => by cases z), fun _ => ⟨xp_wr_s _ _ _ _, okE_26 ⟨r3, U2, by rw [List.length_cons]; omega, g1, g2, cC_keep (t3 88 (by omega)) (by rw [t3 83 (by omega)]) o4, sS_keep (t4.1 6 (by omega)) (t4.2 16 (by omega)) o5, o6, by omega⟩ _⟩⟩
              · rw [bX6_readCondition_17]
                exact e_t hlt8 (e_mw rfl (e_f n40 (e_cl (by rw [show (1 : Int32) = nI 1 from rfl, nI_add]; exact c1) (e_f (by decide) (e_cl t1 (e_f (by decide) rfl))))))
              · rw [gX10_oneTest, htok]
                exact e_t n6 (e_f n140 (e_cl p1 (e_f (by decide) (e_cl c2 (e_f (by decide) (e_cl t2 (e_t (by decide) (e_mw (by rw [d26']; exact h26s) rfl))))))))
      · have h8 : op = 8 := by omega
        have hop : fX10_opens N J = some (nI 0, bdJ J 3 x.2.1) := by
          unfold fX10_opens
          rw [h26, h8]
          exact e_f (fun z => z rfl) (e_cl (rv_bad hpJ 3) rfl)
        refine ⟨false, rfI I 3 x.2.1, bdJ J 3 x.2.1, hcl _ ?_, ?_, frE_rf _ _ _, frG_F (frF_bd _ _ _), fun _ => flt_mk _ _, fun z => by cases z⟩
        · rw [bX6_readCondition_17]
          refine e_f ?_ (e_cl (cv_refuse hpI 3) rfl)
          rw [show (8 : Int32) = nI 8 from rfl, xp_ltI (by omega) (by omega)]
          exact ho8
        · rw [gX10_oneTest, htok]
          rcases hx with z | z
          · exact e_f (by rw [show (6 : Int32) = nI 6 from rfl, ne_eq, q6]; exact fun q => q z) (e_cl hop (e_t rfl rfl))
          · exact e_t (by rw [show (6 : Int32) = nI 6 from rfl, ne_eq, q6]; omega) (e_f (by rw [show (140 : Int32) = nI 140 from rfl, ne_eq, q140]; exact fun q => q z) (e_cl hop (e_t rfl rfl)))
end
