-- ===== texts: WALKS, NEEDS =====
def fr5 (J J' : xc_M) (p : Nat) : Prop := (∀ a, a ≠ 0 → a ≠ 9 → J' a = J a) ∧ (∀ k, k ≠ 28 → k < 19 ∨ 24 < k → J' 0 k = J 0 k) ∧ ∀ j, j ≠ p → J' 9 j = J 9 j
theorem frQ_5 {J J' : xc_M} {l : Nat} (h : fr5 J J' l) : frQ J J' := ⟨fun a ha => h.1 a (by omega) (by omega), fun k _ k2 k3 => h.2.1 k k2 k3⟩
section
variable {N t rd : Nat} {c : Nat → Nat} {I J : xc_M} {x y : Tok} {r T : List Tok}
theorem told_sim (hN : 1000 ≤ N) (h2 : tmc rd 2 2 = true) {lo hi p : Nat} {v2 : Int32} (hp : p < 64) (hlo : lo < 10000) (hv2 : ∀ v, v < 10000 → (nI v ≤ v2 ↔ v < hi)) (hpI : psI I T) (hpJ : psJ c t rd J T) : ∃ (b : Bool) (I' J' : xc_M), fX6_takeNumber (nI lo) v2 I = some (nI b.toNat, I') ∧ fX10_told N (nI p) (nI lo) v2 J = some (nI b.toNat, J') ∧ fr1 I I' ∧ fr5 J J' p ∧ (b = false → flt I' J') ∧ (b = true → ∃ r v, T.length = r.length + 1 ∧ lo ≤ v ∧ v < hi ∧ v < 10000 ∧ psI I' r ∧ psJ c t rd J' r ∧ I' 132 7 = nI v ∧ J' 9 p = nI v) := by
  obtain ⟨b, I1, J1, a1, a2, a3, a4, a5, a6⟩ := num_sim hN h2 hlo hv2 hpI hpJ
  unfold fX10_told
  cases b with
  | false => exact ⟨false, I1, J1, a1, e_cl a2 (e_f (fun z => z rfl) rfl), a3, ⟨fun a b1 _ => a4.1 a b1, a4.2, fun j _ => by rw [a4.1 9 (by omega)]⟩, a5, fun z => by cases z⟩
  | true =>
    obtain ⟨x, r, hT, p0, p1, p2, p3, p4, p5, p6, p7⟩ := a6 rfl
    refine ⟨true, I1, xc_wr J1 9 p (nI x.2.2), a1, e_cl a2 (e_t (by decide) (e_st (k := p) rfl (by omega) p7 rfl)), a3, ⟨fun a b1 b2 => by rw [xp_wr_cell b2, a4.1 a b1], fun k k1 k2 => by rw [xp_wr_cell (by omega), a4.2 k k1 k2], fun j hj => by rw [xp_wr_k hj, a4.1 9 (by omega)]⟩, (fun z => by cases z), fun _ => ⟨r, x.2.2, by rw [hT, List.length_cons], p1, p2, p3, p4, psJ_5 (by omega) (by omega) p5, p6, xp_wr_s _ _ _ _⟩⟩
theorem cv_add4 {ro n R : Nat} {a b c' d : Int32} (hx : xl_X4 ro = n) (hn : 4 * R + 4 ≤ n) (hn2 : n < 1000) (h0 : I ro 0 = nI R) : fX4_add ro a b c' d I = some (nI 0, xc_wr (xc_wr (xc_wr (xc_wr (xc_wr I (ro + 1) (4 * R) a) (ro + 1) (4 * R + 1) b) (ro + 1) (4 * R + 2) c') (ro + 1) (4 * R + 3) d) ro 0 (nI (R + 1))) := by
  have e0 : nI R * (4 : Int32) = nI (4 * R) := by
    rw [show (4 : Int32) = nI 4 from rfl, pk_mul, Nat.mul_comm]
  unfold fX4_add
  rw [h0, hx]
  refine e_lt e0 (e_f (nI_pos (by omega)) (e_t ?_ (e_st (k := 4 * R) rfl (by omega) rfl (e_st (k := 4 * R + 1) (nI_add _ 1) (by omega) rfl (e_st (k := 4 * R + 2) (nI_add _ 2) (by omega) rfl (e_st (k := 4 * R + 3) (nI_add _ 3) (by omega) rfl (e_mw (v := nI (R + 1)) ?_ rfl)))))))
  · rw [show nI (4 * R) + 4 = nI (4 * R + 4) from nI_add _ 4, xp_le (by omega) (by omega)]
    exact hn
  · rw [xp_wr_cell (by omega), xp_wr_cell (by omega), xp_wr_cell (by omega), xp_wr_cell (by omega), h0]
    exact nI_add R 1
/-- what the two hold of the words, people and MEANINGS -/
def wpR (I J : xc_M) : Prop := wdR I J ∧ I 1 1 = nI (xr (J 1) 63) ∧ J 1 63 = nI (xr (J 1) 63) ∧ xr (J 1) 63 < 11 ∧ I 19 0 = nI (xr (J 1) 66) ∧ J 1 66 = nI (xr (J 1) 66) ∧ xr (J 1) 66 < 11
theorem wpR_keep {I' J' : xc_M} (h : wpR I J) (hI : frP I I') (hJ : frQ J J') : wpR I' J' := by
  obtain ⟨h1, h2, h3, h4, h5, h6, h7⟩ := h
  refine ⟨wdR_keep h1 hI hJ, ?_⟩
  rw [hJ.1 1 (by omega), hI 1 (by omega) (by omega), hI 19 (by omega) (by omega)]
  exact ⟨h2, h3, h4, h5, h6, h7⟩
def waR (I : xc_M) (Z : Nat → Int32) (nW nP i : Nat) : Prop := vN Z (4 * i) 1000 ∧ vN Z (4 * i + 1) nP ∧ vN Z (4 * i + 2) 12 ∧ 9 ≤ xr Z (4 * i + 2) ∧ (xr Z (4 * i + 2) = 9 → vN Z (4 * i + 3) 10) ∧ (xr Z (4 * i + 2) = 10 → vN Z (4 * i + 3) nW) ∧ I 74 (4 * i) = Z (4 * i) ∧ I 74 (4 * i + 1) = Z (4 * i + 1) ∧ I 74 (4 * i + 2) = nI (xr Z (4 * i + 2) + 108) ∧ (xr Z (4 * i + 2) ≠ 11 → I 74 (4 * i + 3) = Z (4 * i + 3))
def waS (R : Nat) (I J : xc_M) : Prop := I 73 0 = nI R ∧ J 0 17 = nI R ∧ R ≤ 16 ∧ ∀ i, i < R → waR I (J 9) (xr (J 1) 62) (xr (J 1) 63) i
theorem waR_keep {I I' : xc_M} {Z Z' : Nat → Int32} {nW nP i : Nat} (h : waR I Z nW nP i) (hI : ∀ j, 4 * i ≤ j → j < 4 * i + 4 → I' 74 j = I 74 j) (hZ : ∀ j, 4 * i ≤ j → j < 4 * i + 4 → Z' j = Z j) : waR I' Z' nW nP i := by
  obtain ⟨a1, a2, a3, a4, a5, a6, a7, a8, a9, a10⟩ := h
  have z0 := hZ (4 * i) (by omega) (by omega)
  have z1 := hZ (4 * i + 1) (by omega) (by omega)
  have z2 := hZ (4 * i + 2) (by omega) (by omega)
  have z3 := hZ (4 * i + 3) (by omega) (by omega)
  have x2 := xr_eq z2
  unfold waR
  rw [x2, hI (4 * i) (by omega) (by omega), hI (4 * i + 1) (by omega) (by omega), hI (4 * i + 2) (by omega) (by omega), hI (4 * i + 3) (by omega) (by omega), z0, z1, z3]
  exact ⟨vN_eq z0 a1, vN_eq z1 a2, vN_eq z2 a3, a4, fun z => vN_eq z3 (a5 z), fun z => vN_eq z3 (a6 z), a7, a8, a9, a10⟩
/-- a WALK's line is told: into the rows, and its ; -/
theorem wline_end (hN : 1000 ≤ N) {R v3 v4 d : Nat} {v : Int32} (hpI : psI I T) (hpJ : psJ c t 2 J T) (hR : R < 16) (hd : d = 9 ∨ d = 10 ∨ d = 11) (h73 : I 73 0 = nI R) (h17 : J 0 17 = nI R) (hrow : ∀ i, i < R → waR I (J 9) (xr (J 1) 62) (xr (J 1) 63) i) (h7 : I 132 7 = v) (z0 : J 9 (4 * R) = nI v3) (z1 : J 9 (4 * R + 1) = nI v4) (z2 : J 9 (4 * R + 2) = nI d) (b3 : v3 < 1000) (b4 : v4 < xr (J 1) 63) (bP : xr (J 1) 63 < 11) (g9 : d = 9 → v = J 9 (4 * R + 3) ∧ vN (J 9) (4 * R + 3) 10) (g10 : d = 10 → v = J 9 (4 * R + 3) ∧ vN (J 9) (4 * R + 3) (xr (J 1) 62)) : ∃ (b : Bool) (I' J' : xc_M), bX6_readWalk_138 1 73 (nI v3) (nI v4) (nI (d + 108)) I = some (nI b.toNat, I') ∧ bX10_aWalk_183 N J = some (nI b.toNat, J') ∧ frP I I' ∧ frQ J J' ∧ (b = false → flt I' J') ∧ (b = true → ∃ T', T'.length < T.length ∧ psI I' T' ∧ psJ c t 2 J' T' ∧ waS (R + 1) I' J') := by
  have hadd := cv_add4 (I := I) (ro := 73) (n := 64) (R := R) (a := nI v3) (b := nI v4) (c' := nI (d + 108)) (d := v) rfl (by omega) (by omega) h73
  generalize hI2 : xc_wr (xc_wr (xc_wr (xc_wr (xc_wr I (73 + 1) (4 * R) (nI v3)) (73 + 1) (4 * R + 1) (nI v4)) (73 + 1) (4 * R + 2) (nI (d + 108))) (73 + 1) (4 * R + 3) v) 73 0 (nI (R + 1)) = I2 at hadd
  have cO : ∀ a, a ≠ 73 → a ≠ 74 → I2 a = I a := fun a a1 a2 => by rw [← hI2, xp_wr_cell a1, xp_wr_cell a2, xp_wr_cell a2, xp_wr_cell a2, xp_wr_cell a2]
  have c73 : I2 73 0 = nI (R + 1) := by rw [← hI2, xp_wr_s]
  have c74 : ∀ j, j < 4 * R → I2 74 j = I 74 j := fun j hj => by
    rw [← hI2, xp_wr_cell (by omega)]
    exact (xp_wr_k (by omega)).trans ((xp_wr_k (by omega)).trans ((xp_wr_k (by omega)).trans (xp_wr_k (by omega))))
  have d0 : I2 74 (4 * R) = nI v3 := by
    rw [← hI2, xp_wr_cell (by omega)]
    exact (xp_wr_k (by omega)).trans ((xp_wr_k (by omega)).trans ((xp_wr_k (by omega)).trans (xp_wr_s _ _ _ _)))
  have d1 : I2 74 (4 * R + 1) = nI v4 := by
    rw [← hI2, xp_wr_cell (by omega)]
    exact (xp_wr_k (by omega)).trans ((xp_wr_k (by omega)).trans (xp_wr_s _ _ _ _))
  have d2 : I2 74 (4 * R + 2) = nI (d + 108) := by
    rw [← hI2, xp_wr_cell (by omega)]
    exact (xp_wr_k (by omega)).trans (xp_wr_s _ _ _ _)
  have d3 : I2 74 (4 * R + 3) = v := by
    rw [← hI2, xp_wr_cell (by omega)]
    exact xp_wr_s _ _ _ _
  have hpI2 : psI I2 T := psI_keep hpI (cO 132 (by omega) (by omega)) (fun a ha => cO a (by omega) (by omega))
  have hpJ2 : psJ c t 2 (xc_wr J 0 17 (nI (R + 1))) T := psJ_keep hpJ (xp_wr_cell (by omega)) (fun k hk => xp_wr_k (by omega))
  obtain ⟨b, I3, J3, k1, k2, k3, k4, k5, k6⟩ := take_sim hN (rd := 2) (a := 59) (a' := 159) (by decide +kernel) (by omega) (by omega) (by omega) hpI2 hpJ2
  refine ⟨b, I3, J3, ?_, ?_, frP_t (fun a ha _ => cO a (by omega) (by omega)) (frP_1 k3), frQ_t frQ_17 (frQ_2 k4), k5, fun hb => ?_⟩
  · rw [bX6_readWalk_138, h7]
    exact e_cv hadd (e_cl k1 (by cases b <;> rfl))
  · rw [bX10_aWalk_183, h17]
    exact e_mw (nI_add R 1) (e_cl k2 (by cases b <;> rfl))
  · obtain ⟨y, r3, rfl, u1, u2⟩ := k6 hb
    have e9 : J3 9 = J 9 := by rw [k4.1 9 (by omega), xp_wr_cell (by omega)]
    have e1 : J3 1 = J 1 := by rw [k4.1 1 (by omega), xp_wr_cell (by omega)]
    refine ⟨r3, by rw [List.length_cons]; omega, u1, u2, by rw [k3 73 (by omega)]; exact c73, by rw [k4.2 17 (by omega), xp_wr_s], by omega, fun i hi => ?_⟩
    rw [e9, e1]
    by_cases hiR : i = R
    · subst hiR
      have x2 : xr (J 9) (4 * i + 2) = d := xr_of z2 (by omega)
      unfold waR
      rw [x2, k3 74 (by omega), d0, d1, d2, d3, z0, z1]
      exact ⟨vN_mk z0 b3 (by omega), vN_mk z1 b4 (by omega), ⟨by rw [x2]; exact z2, by rw [x2]; omega⟩, by omega, fun z => (g9 z).2, fun z => (g10 z).2, rfl, rfl, rfl, fun z => by
        rcases hd with q | q | q
        · exact (g9 q).1
        · exact (g10 q).1
        · exact absurd q z⟩
    · exact waR_keep (hrow i (by omega)) (fun j j1 j2 => by rw [k3 74 (by omega)]; exact c74 j (by omega)) (fun _ _ _ => rfl)
theorem wline_sim (hN : 1000 ≤ N) {R : Nat} (hpI : psI I T) (hpJ : psJ c t 2 J T) (hwp : wpR I J) (hst : waS R I J) : ∃ (b : Bool) (I' J' : xc_M), fX6_readWalk 1 73 I = some (nI b.toNat, I') ∧ fX10_aWalk N J = some (nI b.toNat, J') ∧ frP I I' ∧ frQ J J' ∧ (b = false → flt I' J') ∧ (b = true → ∃ T', T'.length < T.length ∧ psI I' T' ∧ psJ c t 2 J' T' ∧ waS (R + 1) I' J') := by
  obtain ⟨x, r, rfl⟩ := psJ_ne hpJ
  obtain ⟨s73, s17, s16, sw⟩ := hst
  have hk := psJ_k hpJ
  have htok := psJ_tok hpJ
  have q8 := tm_eq (rd := 2) (a := 8) (b := 116) (by decide +kernel) (by omega) hk (by omega)
  have e116 : (nI x.1 = (116 : Int32)) = (x.1 = 116) := xp_eq (b := 116) (by omega) (by omega)
  by_cases hx : x.1 = 116
  · have ht8 : J 0 20 = (8 : Int32) := by rw [htok, show (8 : Int32) = nI 8 from rfl, q8]; exact hx
    by_cases h16 : R = 16
    · have hhd : fX6_takeHead 116 (I 73 0) 16 I = some (nI 0, rfI I 3 x.2.1) := by
        unfold fX6_takeHead
        rw [s73, h16]
        exact e_cr (cv_kind hpI) (e_t (by rw [e116]; exact hx) (e_f (by decide) (e_cl (cv_refuse hpI 3) rfl)))
      exact ⟨false, rfI I 3 x.2.1, bdJ J 3 x.2.1, (by unfold fX6_readWalk; exact e_cl hhd (e_t rfl rfl)), (by unfold fX10_aWalk; exact e_t ht8 (e_f (by rw [s17, h16]; exact fun z => z rfl) (e_cl (rv_bad hpJ 3) rfl))), frP_1 (fr1_rf _ _ _), frQ_2 (fr2_bd _ _ _), fun _ => flt_mk _ _, fun z => by cases z⟩
    · have hR : R < 16 := by omega
      obtain ⟨J1, n1, n2, n3⟩ := psJ_nx hN hpJ (by omega)
      have hhead : fX6_takeHead 116 (I 73 0) 16 I = some (nI 1, nxI I) := by
        unfold fX6_takeHead
        rw [s73]
        exact e_cr (cv_kind hpI) (e_t (by rw [e116]; exact hx) (e_t (by rw [show (16 : Int32) = nI 16 from rfl, xp_ltI (by omega) (by omega)]; exact hR) (e_mw rfl rfl)))
      have h16' : J 0 17 ≠ (16 : Int32) := by rw [s17, show (16 : Int32) = nI 16 from rfl, ne_eq, xp_eq (by omega) (by omega)]; exact h16
      have hfr1 : frP I (nxI I) := frP_1 (fr1_nx _)
      have hfq1 : frQ J J1 := frQ_2 (fr2_n n2)
      have hwp1 := wpR_keep hwp hfr1 hfq1
      have h117 : J1 0 17 = nI R := (n2.2 17 (by omega) (by omega) (by omega) (by omega)).trans s17
      have hl4 : ((4 : Int32) * (J1 0 17)) = nI (4 * R) := by rw [h117]; exact pk_mul 4 R
      -- DAY
      obtain ⟨b, I2, J2, a1, a2, a3, a4, a5, a6⟩ := told_sim hN (rd := 2) (by decide +kernel) (lo := 0) (hi := 1000) (p := 4 * R) (v2 := nI 999) (by omega) (by omega) (hi_of2 (by omega)) (psI_nx hpI) n3
      cases b with
      | false => exact ⟨false, I2, J2, (by unfold fX6_readWalk; exact e_cl hhead (e_f (by decide) (e_cl a1 (e_f (fun z => z rfl) rfl)))), (by unfold fX10_aWalk; exact e_t ht8 (e_t h16' (e_cv n1 (e_lt hl4 (e_cl a2 (e_t rfl rfl)))))), frP_t hfr1 (frP_1 a3), frQ_t hfq1 (frQ_5 a4), a5, fun z => by cases z⟩
      | true =>
        obtain ⟨r2, v3, l2, _, b3, _, p2, p3, p4, p5⟩ := a6 rfl
        have hfr2 := frP_t hfr1 (frP_1 a3)
        have hfq2 := frQ_t hfq1 (frQ_5 a4)
        obtain ⟨hwd2, w1, w2, w3, _⟩ := wpR_keep hwp hfr2 hfq2
        -- PERSON
        obtain ⟨b, I3, J3, c1, c2, c3, c4, c5, c6⟩ := told_sim hN (rd := 2) (by decide +kernel) (lo := 0) (hi := xr (J2 1) 63) (p := 4 * R + 1) (v2 := nI (xr (J2 1) 63) - nI 1) (by omega) (by omega) (hi_of (by omega)) p2 p3
        have hc1 : fX6_takeNumber 0 ((I2 1 1) - 1) I2 = some (nI b.toNat, I3) := by rw [w1]; exact c1
        have hrc : ∀ R', (if nI b.toNat ≠ (0 : Int32) then xc_cr (fX10_isIn (J3 0 20) 9 11) fun x8 => (if x8 ≠ (0 : Int32) then xc_st 64 9 (nI (4 * R) + 2) (J3 0 20) J3 fun I9 => xc_cv (fX10_next0 N I9) fun I10 => xc_st 64 9 (nI (4 * R) + 3) 0 I10 fun I11 => xc_rd 64 9 (nI (4 * R) + 2) I11 fun x12 => (if x12 ≠ (9 : Int32) then (bX10_aWalk_148 N (nI (4 * R)) I11) else xc_cl (fX10_told N (nI (4 * R) + 3) 0 9 I11) fun x13 I14 => (if x13 ≠ (0 : Int32) then (bX10_aWalk_148 N (nI (4 * R)) I14) else some (0, I14))) else xc_cl (fX10_bad 1 J3) fun x15 I16 => xc_rb x15 (x15, I16)) else some (0, J3)) = R' → fX10_aWalk N J = R' := by
          intro R' hR'
          unfold fX10_aWalk
          exact e_t ht8 (e_t h16' (e_cv n1 (e_lt hl4 (e_cl a2 (e_f (by decide) (e_rd (k := 63) rfl (by omega) w2 (e_cl (by rw [show nI (4 * R) + 1 = nI (4 * R + 1) from nI_add _ 1]; exact c2) hR')))))))
        have hfr3 := frP_t hfr2 (frP_1 c3)
        have hfq3 := frQ_t hfq2 (frQ_5 c4)
        cases b with
        | false => exact ⟨false, I3, J3, (by unfold fX6_readWalk; exact e_cl hhead (e_f (by decide) (e_cl a1 (e_t (by decide) (e_lt rfl (e_cl hc1 (e_f (fun z => z rfl) rfl))))))), hrc _ (e_f (fun z => z rfl) rfl), hfr3, hfq3, c5, fun z => by cases z⟩
        | true =>
          obtain ⟨r3, v4, l3, _, b4, _, p6, p7, p8, p9⟩ := c6 rfl
          obtain ⟨y, r4, rfl⟩ := psJ_ne p7
          have hky := psJ_k p7
          have htoky := psJ_tok p7
          have hJ31 : J3 1 = J2 1 := c4.1 1 (by omega) (by omega)
          have hJ21 : J2 1 = J1 1 := a4.1 1 (by omega) (by omega)
          have hJ11 : J1 1 = J 1 := n2.1 1 (by omega)
          have tb := tm_b (rd := 2) (by omega) hky
          have q9 := tm_eq (rd := 2) (a := 9) (b := 117) (by decide +kernel) (by omega) hky (by omega)
          have q10 := tm_eq (rd := 2) (a := 10) (b := 118) (by decide +kernel) (by omega) hky (by omega)
          have q11 := tm_eq (rd := 2) (a := 11) (b := 119) (by decide +kernel) (by omega) hky (by omega)
          rw [xp_eq (by omega) (by omega)] at q9 q10 q11
          have e117 : (nI y.1 = (117 : Int32)) = (y.1 = 117) := xp_eq (b := 117) (by omega) (by omega)
          have e118 : (nI y.1 = (118 : Int32)) = (y.1 = 118) := xp_eq (b := 118) (by omega) (by omega)
          have e119 : (nI y.1 = (119 : Int32)) = (y.1 = 119) := xp_eq (b := 119) (by omega) (by omega)
          have hin := rv_isIn (v := tm 2 y.1) (a := 9) (c := 11) (by omega) (by omega) (by omega)
          have hcl : ∀ R', (if nI y.1 = (117 : Int32) then (bX6_readWalk_88 1 73 (nI v3) (nI v4) (nI y.1) I3) else (if nI y.1 = (118 : Int32) then (bX6_readWalk_88 1 73 (nI v3) (nI v4) (nI y.1) I3) else (if nI y.1 = (119 : Int32) then (bX6_readWalk_88 1 73 (nI v3) (nI v4) (nI y.1) I3) else xc_cl (fX6_refuse 1 I3) fun x11 I12 => xc_rb x11 (x11, I12)))) = R' → fX6_readWalk 1 73 I = R' := by
            intro R' hR'
            unfold fX6_readWalk
            exact e_cl hhead (e_f (by decide) (e_cl a1 (e_t (by decide) (e_lt p4 (e_cl hc1 (e_t (by decide) (e_lt p8 (e_cr (cv_kind p6) (e_lt rfl hR')))))))))
          have z0 : J3 9 (4 * R) = nI v3 := by rw [c4.2.2 _ (by omega)]; exact p5
          have z1 : J3 9 (4 * R + 1) = nI v4 := p9
          have hrow3 : ∀ i, i < R → waR I3 (J3 9) (xr (J3 1) 62) (xr (J3 1) 63) i := fun i hi => by
            rw [hJ31, hJ21, hJ11]
            exact waR_keep (sw i hi) (fun j _ _ => by rw [c3 74 (by omega), a3 74 (by omega), fr1_nx I 74 (by omega)]) (fun j j1 j2 => by rw [c4.2.2 j (by omega), a4.2.2 j (by omega), n2.1 9 (by omega)])
          have h373 : I3 73 0 = nI R := by rw [c3 73 (by omega), a3 73 (by omega), fr1_nx I 73 (by omega)]; exact s73
          have h317 : J3 0 17 = nI R := by rw [c4.2.1 17 (by omega) (by omega), a4.2.1 17 (by omega) (by omega)]; exact h117
          rw [List.length_cons] at l3
          by_cases hy : y.1 = 117 ∨ y.1 = 118 ∨ y.1 = 119
          · obtain ⟨d, hd, hyd, htd⟩ : ∃ d, (d = 9 ∨ d = 10 ∨ d = 11) ∧ y.1 = d + 108 ∧ tm 2 y.1 = d := by
              rcases hy with z | z | z
              · exact ⟨9, by omega, by omega, q9.mpr z⟩
              · exact ⟨10, by omega, by omega, q10.mpr z⟩
              · exact ⟨11, by omega, by omega, q11.mpr z⟩
            rw [decide_eq_true (by omega)] at hin
            -- both go on behind the deed
            have hpJ4 : psJ c t 2 (xc_wr J3 9 (4 * R + 2) (nI d)) (y :: r4) := psJ_5 (by omega) (by omega) p7
            obtain ⟨J5, m1, m2, m3⟩ := psJ_nx hN hpJ4 (by omega)
            have hpJ6 : psJ c t 2 (xc_wr J5 9 (4 * R + 3) (nI 0)) r4 := psJ_5 (by omega) (by omega) m3
            have h6cell : ∀ j, j ≠ 4 * R + 2 → j ≠ 4 * R + 3 → (xc_wr J5 9 (4 * R + 3) (nI 0)) 9 j = J3 9 j := fun j j1 j2 => by rw [xp_wr_k j2, m2.1 9 (by omega), xp_wr_k j1]
            have h6d : (xc_wr J5 9 (4 * R + 3) (nI 0)) 9 (4 * R + 2) = nI d := by rw [xp_wr_k (by omega), m2.1 9 (by omega), xp_wr_s]
            have h61 : (xc_wr J5 9 (4 * R + 3) (nI 0)) 1 = J3 1 := by rw [xp_wr_cell (by omega), m2.1 1 (by omega), xp_wr_cell (by omega)]
            have h617 : (xc_wr J5 9 (4 * R + 3) (nI 0)) 0 17 = nI R := by rw [xp_wr_cell (by omega), m2.2 17 (by omega) (by omega) (by omega) (by omega), xp_wr_cell (by omega)]; exact h317
            have hfq6 : frQ J (xc_wr J5 9 (4 * R + 3) (nI 0)) := frQ_t hfq3 (frQ_t (frQ_wr (by omega)) (frQ_t (frQ_2 (fr2_n m2)) (frQ_wr (by omega))))
            have hpI4 : psI (xc_wr (nxI I3) 132 7 mI) r4 := psI_132 (psI_nx p6) (by omega)
            have hfr4 : frP I (xc_wr (nxI I3) 132 7 mI) := frP_t hfr3 (frP_t (frP_1 (fr1_nx _)) (fun a _ h2 => xp_wr_cell h2))
            have h4c : ∀ a, a ≠ 132 → (xc_wr (nxI I3) 132 7 mI) a = I3 a := fun a ha => by rw [xp_wr_cell ha]; exact fr1_nx I3 a ha
            have hrow6 : ∀ i, i < R → waR (xc_wr (nxI I3) 132 7 mI) ((xc_wr J5 9 (4 * R + 3) (nI 0)) 9) (xr ((xc_wr J5 9 (4 * R + 3) (nI 0)) 1) 62) (xr ((xc_wr J5 9 (4 * R + 3) (nI 0)) 1) 63) i := fun i hi => by
              rw [h61]
              exact waR_keep (hrow3 i hi) (fun j _ _ => by rw [h4c 74 (by omega)]) (fun j j1 j2 => h6cell j (by omega) (by omega))
            have hr6 : ∀ R', (if nI d ≠ (9 : Int32) then (bX10_aWalk_148 N (nI (4 * R)) (xc_wr J5 9 (4 * R + 3) (nI 0))) else xc_cl (fX10_told N (nI (4 * R) + 3) 0 9 (xc_wr J5 9 (4 * R + 3) (nI 0))) fun x13 I14 => (if x13 ≠ (0 : Int32) then (bX10_aWalk_148 N (nI (4 * R)) I14) else some (0, I14))) = R' → fX10_aWalk N J = R' := by
              intro R' hR'
              exact hrc _ (e_t (by decide) (e_cr (by rw [htoky]; exact hin) (e_t (by decide) (e_st (k := 4 * R + 2) (nI_add _ 2) (by omega) (by rw [htoky, htd]) (e_cv m1 (e_st (k := 4 * R + 3) (nI_add _ 3) (by omega) rfl (e_rd (k := 4 * R + 2) (nI_add _ 2) (by omega) h6d hR')))))))
            have hcl88 : ∀ R', (if nI y.1 = (119 : Int32) then (bX6_readWalk_138 1 73 (nI v3) (nI v4) (nI y.1) (xc_wr (nxI I3) 132 7 mI)) else (if nI y.1 ≠ (117 : Int32) then (bX6_readWalk_130 1 73 (nI v3) (nI v4) (nI y.1) (((xc_wr (nxI I3) 132 7 mI) 1 0) - 1) 0 (xc_wr (nxI I3) 132 7 mI)) else (bX6_readWalk_130 1 73 (nI v3) (nI v4) (nI y.1) 9 0 (xc_wr (nxI I3) 132 7 mI)))) = R' → bX6_readWalk_88 1 73 (nI v3) (nI v4) (nI y.1) I3 = R' := by
              intro R' hR'
              rw [bX6_readWalk_88]
              exact e_mw rfl (e_mw rfl hR')
            have hany : ∀ R', bX6_readWalk_88 1 73 (nI v3) (nI v4) (nI y.1) I3 = R' → (if nI y.1 = (117 : Int32) then (bX6_readWalk_88 1 73 (nI v3) (nI v4) (nI y.1) I3) else (if nI y.1 = (118 : Int32) then (bX6_readWalk_88 1 73 (nI v3) (nI v4) (nI y.1) I3) else (if nI y.1 = (119 : Int32) then (bX6_readWalk_88 1 73 (nI v3) (nI v4) (nI y.1) I3) else xc_cl (fX6_refuse 1 I3) fun x11 I12 => xc_rb x11 (x11, I12)))) = R' := by
              intro R' hR'
              by_cases w1 : nI y.1 = (117 : Int32)
              · exact e_t w1 hR'
              · by_cases w2 : nI y.1 = (118 : Int32)
                · exact e_f w1 (e_t w2 hR')
                · refine e_f w1 (e_f w2 (e_t ?_ hR'))
                  rw [e117] at w1
                  rw [e118] at w2
                  rw [e119]
                  omega
            have b4' : v4 < xr ((xc_wr J5 9 (4 * R + 3) (nI 0)) 1) 63 := by rw [h61, hJ31]; exact b4
            have bP' : xr ((xc_wr J5 9 (4 * R + 3) (nI 0)) 1) 63 < 11 := by rw [h61, hJ31]; exact w3
            have z0' : (xc_wr J5 9 (4 * R + 3) (nI 0)) 9 (4 * R) = nI v3 := (h6cell _ (by omega) (by omega)).trans z0
            have z1' : (xc_wr J5 9 (4 * R + 3) (nI 0)) 9 (4 * R + 1) = nI v4 := (h6cell _ (by omega) (by omega)).trans z1
            have hy' : nI y.1 = nI (d + 108) := congrArg nI hyd
            -- with a number behind the deed
            have hnum : ∀ (hi : Nat) (v2 : Int32), (∀ v, v < 10000 → (nI v ≤ v2 ↔ v < hi)) → (d = 9 → hi = 10) → (d = 10 → hi = xr ((xc_wr J5 9 (4 * R + 3) (nI 0)) 1) 62) → hi < 100 → d ≠ 11 → (∀ (b : Bool) (K : xc_M), fX10_told N (nI (4 * R) + 3) 0 v2 (xc_wr J5 9 (4 * R + 3) (nI 0)) = some (nI b.toNat, K) → ∀ R', (if nI b.toNat ≠ (0 : Int32) then bX10_aWalk_183 N K else some (0, K)) = R' → (b = true → K 9 (4 * R + 2) = nI d) → (if nI d ≠ (9 : Int32) then (bX10_aWalk_148 N (nI (4 * R)) (xc_wr J5 9 (4 * R + 3) (nI 0))) else xc_cl (fX10_told N (nI (4 * R) + 3) 0 9 (xc_wr J5 9 (4 * R + 3) (nI 0))) fun x13 I14 => (if x13 ≠ (0 : Int32) then (bX10_aWalk_148 N (nI (4 * R)) I14) else some (0, I14))) = R') → (∀ R', bX6_readWalk_130 1 73 (nI v3) (nI v4) (nI y.1) v2 0 (xc_wr (nxI I3) 132 7 mI) = R' → (if nI y.1 = (119 : Int32) then (bX6_readWalk_138 1 73 (nI v3) (nI v4) (nI y.1) (xc_wr (nxI I3) 132 7 mI)) else (if nI y.1 ≠ (117 : Int32) then (bX6_readWalk_130 1 73 (nI v3) (nI v4) (nI y.1) (((xc_wr (nxI I3) 132 7 mI) 1 0) - 1) 0 (xc_wr (nxI I3) 132 7 mI)) else (bX6_readWalk_130 1 73 (nI v3) (nI v4) (nI y.1) 9 0 (xc_wr (nxI I3) 132 7 mI)))) = R') → ∃ (b : Bool) (I' J' : xc_M), (if nI y.1 = (119 : Int32) then (bX6_readWalk_138 1 73 (nI v3) (nI v4) (nI y.1) (xc_wr (nxI I3) 132 7 mI)) else (if nI y.1 ≠ (117 : Int32) then (bX6_readWalk_130 1 73 (nI v3) (nI v4) (nI y.1) (((xc_wr (nxI I3) 132 7 mI) 1 0) - 1) 0 (xc_wr (nxI I3) 132 7 mI)) else (bX6_readWalk_130 1 73 (nI v3) (nI v4) (nI y.1) 9 0 (xc_wr (nxI I3) 132 7 mI)))) = some (nI b.toNat, I') ∧ (if nI d ≠ (9 : Int32) then (bX10_aWalk_148 N (nI (4 * R)) (xc_wr J5 9 (4 * R + 3) (nI 0))) else xc_cl (fX10_told N (nI (4 * R) + 3) 0 9 (xc_wr J5 9 (4 * R + 3) (nI 0))) fun x13 I14 => (if x13 ≠ (0 : Int32) then (bX10_aWalk_148 N (nI (4 * R)) I14) else some (0, I14))) = some (nI b.toNat, J') ∧ frP I I' ∧ frQ J J' ∧ (b = false → flt I' J') ∧ (b = true → ∃ T', T'.length < r4.length ∧ psI I' T' ∧ psJ c t 2 J' T' ∧ waS (R + 1) I' J') := by
              intro hi v2 hv2 h9 h10 h100 h11 hrefk hclsk
              obtain ⟨b, I5, J7, f1, f2, f3, f4, f5, f6⟩ := told_sim hN (rd := 2) (by decide +kernel) (lo := 0) (hi := hi) (p := 4 * R + 3) (v2 := v2) (by omega) (by omega) hv2 hpI4 hpJ6
              have f2' : fX10_told N (nI (4 * R) + 3) 0 v2 (xc_wr J5 9 (4 * R + 3) (nI 0)) = some (nI b.toNat, J7) := by rw [show nI (4 * R) + 3 = nI (4 * R + 3) from nI_add _ 3]; exact f2
              cases b with
              | false =>
                refine ⟨false, I5, J7, hclsk _ ?_, hrefk false J7 f2' _ (e_f (fun z => z rfl) rfl) (fun z => by cases z), frP_t hfr4 (frP_1 f3), frQ_t hfq6 (frQ_5 f4), f5, fun z => by cases z⟩
                rw [bX6_readWalk_130]
                exact e_cl f1 (e_f (fun z => z rfl) rfl)
              | true =>
                obtain ⟨r5, v, l5, _, g1, g2, g3, g4, g5, g6⟩ := f6 rfl
                have h71 : J7 1 = (xc_wr J5 9 (4 * R + 3) (nI 0)) 1 := f4.1 1 (by omega) (by omega)
                have z27 : J7 9 (4 * R + 2) = nI d := (f4.2.2 _ (by omega)).trans h6d
                obtain ⟨b, I6, J8, s1, s2, s3, s4, s5, s6⟩ := wline_end (v := nI v) (v3 := v3) (v4 := v4) (d := d) hN g3 g4 hR hd (by rw [f3 73 (by omega), h4c 73 (by omega)]; exact h373) (by rw [f4.2.1 17 (by omega) (by omega)]; exact h617) (fun i hi => by
                  rw [h71]
                  exact waR_keep (hrow6 i hi) (fun j _ _ => by rw [f3 74 (by omega)]) (fun j j1 j2 => f4.2.2 j (by omega))) g5 ((f4.2.2 _ (by omega)).trans z0') ((f4.2.2 _ (by omega)).trans z1') z27 b3 (by rw [h71]; exact b4') (by rw [h71]; exact bP') (fun z => ⟨g6.symm, vN_mk g6 (by rw [h9 z] at g1; exact g1) (by omega)⟩) (fun z => ⟨g6.symm, by rw [h71]; exact vN_mk g6 (by rw [h10 z] at g1; exact g1) (by rw [← h10 z]; omega)⟩)
                refine ⟨b, I6, J8, hclsk _ ?_, hrefk true J7 f2' _ (e_t (by decide) s2) (fun _ => z27), frP_t hfr4 (frP_t (frP_1 f3) s3), frQ_t hfq6 (frQ_t (frQ_5 f4) s4), s5, fun hb => ?_⟩
                · rw [bX6_readWalk_130]
                  rw [← hy'] at s1
                  exact e_cl f1 (e_t (by decide) s1)
                · obtain ⟨T', u1, u2⟩ := s6 hb
                  exact ⟨T', by omega, u2⟩
            have hall : ∃ (b : Bool) (I' J' : xc_M), (if nI y.1 = (119 : Int32) then (bX6_readWalk_138 1 73 (nI v3) (nI v4) (nI y.1) (xc_wr (nxI I3) 132 7 mI)) else (if nI y.1 ≠ (117 : Int32) then (bX6_readWalk_130 1 73 (nI v3) (nI v4) (nI y.1) (((xc_wr (nxI I3) 132 7 mI) 1 0) - 1) 0 (xc_wr (nxI I3) 132 7 mI)) else (bX6_readWalk_130 1 73 (nI v3) (nI v4) (nI y.1) 9 0 (xc_wr (nxI I3) 132 7 mI)))) = some (nI b.toNat, I') ∧ (if nI d ≠ (9 : Int32) then (bX10_aWalk_148 N (nI (4 * R)) (xc_wr J5 9 (4 * R + 3) (nI 0))) else xc_cl (fX10_told N (nI (4 * R) + 3) 0 9 (xc_wr J5 9 (4 * R + 3) (nI 0))) fun x13 I14 => (if x13 ≠ (0 : Int32) then (bX10_aWalk_148 N (nI (4 * R)) I14) else some (0, I14))) = some (nI b.toNat, J') ∧ frP I I' ∧ frQ J J' ∧ (b = false → flt I' J') ∧ (b = true → ∃ T', T'.length ≤ r4.length ∧ psI I' T' ∧ psJ c t 2 J' T' ∧ waS (R + 1) I' J') := by
              obtain ⟨⟨wa, wb, wc, wd⟩, _⟩ := wpR_keep hwp hfr4 hfq6
              rcases hd with z | z | z
              · obtain ⟨b, I', J', u1, u2, u3, u4, u5, u6⟩ := hnum 10 (nI 9) (hi_of2 (n := 9) (by omega)) (fun _ => rfl) (fun q => by omega) (by omega) (by omega) (fun b K hK R' hR' hz2 => by
                  refine e_f (by rw [z]; exact fun q => q rfl) (e_cl hK ?_)
                  cases b with
                  | false => exact (e_f (fun q => q rfl) rfl).trans ((e_f (fun q => q rfl) rfl).symm.trans hR')
                  | true =>
                    refine e_t (by decide) ?_
                    rw [bX10_aWalk_148]
                    refine e_rd (k := 4 * R + 2) (nI_add _ 2) (by omega) (hz2 rfl) (e_t (by rw [z]; decide) ?_)
                    exact (e_t (by decide) rfl).symm.trans hR') (fun R' hR' => e_f (by rw [e119]; omega) (e_f (by rw [ne_eq, e117]; omega) hR'))
                exact ⟨b, I', J', u1, u2, u3, u4, u5, fun hb => by obtain ⟨T', t1, t2⟩ := u6 hb; exact ⟨T', by omega, t2⟩⟩
              · obtain ⟨b, I', J', u1, u2, u3, u4, u5, u6⟩ := hnum (xr ((xc_wr J5 9 (4 * R + 3) (nI 0)) 1) 62) (nI (xr ((xc_wr J5 9 (4 * R + 3) (nI 0)) 1) 62) - nI 1) (hi_of (by omega)) (fun q => by omega) (fun _ => rfl) (by omega) (by omega) (fun b K hK R' hR' hz2 => by
                  refine e_t (by rw [z]; decide) ?_
                  rw [bX10_aWalk_148]
                  refine e_rd (k := 4 * R + 2) (nI_add _ 2) (by omega) h6d (e_f (by rw [z]; exact fun q => q rfl) (e_rd (k := 62) rfl (by omega) wb (e_cl hK hR')))) (fun R' hR' => e_f (by rw [e119]; omega) (e_t (by rw [ne_eq, e117]; omega) (by rw [wa]; exact hR')))
                exact ⟨b, I', J', u1, u2, u3, u4, u5, fun hb => by obtain ⟨T', t1, t2⟩ := u6 hb; exact ⟨T', by omega, t2⟩⟩
              · obtain ⟨b, I6, J8, s1, s2, s3, s4, s5, s6⟩ := wline_end (v := mI) (v3 := v3) (v4 := v4) (d := d) hN hpI4 hpJ6 hR (by omega) (by rw [h4c 73 (by omega)]; exact h373) h617 hrow6 (xp_wr_s _ _ _ _) z0' z1' h6d b3 b4' bP' (fun q => by omega) (fun q => by omega)
                rw [← hy'] at s1
                refine ⟨b, I6, J8, e_t (by rw [e119]; omega) s1, e_t (by rw [z]; decide) ?_, frP_t hfr4 s3, frQ_t hfq6 s4, s5, fun hb => by obtain ⟨T', t1, t2⟩ := s6 hb; exact ⟨T', by omega, t2⟩⟩
                rw [bX10_aWalk_148]
                exact e_rd (k := 4 * R + 2) (nI_add _ 2) (by omega) h6d (e_t (by rw [z]; decide) s2)
            obtain ⟨b, I', J', u1, u2, u3, u4, u5, u6⟩ := hall
            refine ⟨b, I', J', hcl _ (hany _ (hcl88 _ u1)), hr6 _ u2, u3, u4, u5, fun hb => ?_⟩
            obtain ⟨T', t1, t2⟩ := u6 hb
            exact ⟨T', by rw [List.length_cons]; omega, t2⟩
          · have hnin : ¬ (9 ≤ tm 2 y.1 ∧ tm 2 y.1 ≤ 11) := by
              intro q
              have hz : tm 2 y.1 = 9 ∨ tm 2 y.1 = 10 ∨ tm 2 y.1 = 11 := by omega
              rw [q9, q10, q11] at hz
              exact hy hz
            rw [decide_eq_false hnin] at hin
            refine ⟨false, rfI I3 1 y.2.1, bdJ J3 1 y.2.1, hcl _ (e_f (by rw [e117]; omega) (e_f (by rw [e118]; omega) (e_f (by rw [e119]; omega) (e_cl (cv_refuse p6 1) rfl)))), hrc _ (e_t (by decide) (e_cr (by rw [htoky]; exact hin) (e_f (fun z => z rfl) (e_cl (rv_bad p7 1) rfl)))), frP_t hfr3 (frP_1 (fr1_rf _ _ _)), frQ_t hfq3 (frQ_2 (fr2_bd _ _ _)), fun _ => flt_mk _ _, fun z => by cases z⟩
  · have hhd : fX6_takeHead 116 (I 73 0) 16 I = some (nI 0, rfI I 1 x.2.1) := by
      unfold fX6_takeHead
      exact e_cr (cv_kind hpI) (e_f (by rw [e116]; exact hx) (e_cl (cv_refuse hpI 1) rfl))
    exact ⟨false, rfI I 1 x.2.1, bdJ J 1 x.2.1, (by unfold fX6_readWalk; exact e_cl hhd (e_t rfl rfl)), (by unfold fX10_aWalk; exact e_f (by rw [htok, show (8 : Int32) = nI 8 from rfl, q8]; exact hx) (e_cl (rv_bad hpJ 1) rfl)), frP_1 (fr1_rf _ _ _), frQ_2 (fr2_bd _ _ _), fun _ => flt_mk _ _, fun z => by cases z⟩
end
