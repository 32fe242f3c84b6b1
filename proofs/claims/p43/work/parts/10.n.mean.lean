-- ===== texts: a MEANING =====
def wyR (I : xc_M) (Z w : Nat → Int32) (m i : Nat) : Prop := vN Z (42 * m + 7 * i) 7 ∧ (∀ k, k < xr Z (42 * m + 7 * i) → vN Z (42 * m + 7 * i + (1 + k)) (xr w 62)) ∧ I 81 (6 * m + i) = nI (zS Z (42 * m + 7 * i) (xr Z (42 * m + 7 * i))) ∧ I 82 (6 * m + i) = nI (zL Z w (42 * m + 7 * i) (xr Z (42 * m + 7 * i)))
def myR (I J : xc_M) (m : Nat) : Prop := ∃ n, 1 ≤ n ∧ n ≤ 6 ∧ I 80 m = nI n ∧ J 7 m = nI n ∧ ∀ i, i < n → wyR I (J 8) (J 1) m i
def meS (R : Nat) (I J : xc_M) : Prop := I 79 0 = nI R ∧ J 0 17 = nI R ∧ R ≤ 10 ∧ ∀ m, m < R → myR I J m
theorem wyR_keep {I I' : xc_M} {Z Z' w : Nat → Int32} {m i : Nat} (h : wyR I Z w m i) (h1 : I' 81 (6 * m + i) = I 81 (6 * m + i)) (h2 : I' 82 (6 * m + i) = I 82 (6 * m + i)) (hZ : ∀ j, 42 * m + 7 * i ≤ j → j < 42 * m + 7 * i + 7 → Z' j = Z j) : wyR I' Z' w m i := by
  obtain ⟨a1, a2, a3, a4⟩ := h
  have e0 : Z' (42 * m + 7 * i) = Z (42 * m + 7 * i) := hZ _ (by omega) (by omega)
  have e1 := xr_eq e0
  have hn := a1.2
  refine ⟨vN_eq e0 a1, fun k hk => ?_, ?_, ?_⟩
  · rw [e1] at hk
    exact vN_eq (hZ _ (by omega) (by omega)) (a2 k hk)
  · rw [e1, zS_cong (Z := Z) (Z' := Z') (fun k hk => hZ _ (by omega) (by omega)), h1]
    exact a3
  · rw [e1, zL_cong (Z := Z) (Z' := Z') (fun k hk => hZ _ (by omega) (by omega)), h2]
    exact a4
def frP (I I' : xc_M) : Prop := ∀ a, a < 61 ∨ 90 < a → a ≠ 132 → I' a = I a
def frQ (J J' : xc_M) : Prop := (∀ a, a = 1 ∨ a = 2 ∨ a = 3 ∨ a = 4 ∨ 10 ≤ a → J' a = J a) ∧ ∀ k, k ≠ 17 → k ≠ 28 → k < 19 ∨ 24 < k → J' 0 k = J 0 k
theorem frP_1 {I I' : xc_M} (h : fr1 I I') : frP I I' := fun a _ h2 => h a h2
theorem frQ_3 {J J' : xc_M} (h : fr3 J J') : frQ J J' := ⟨fun a ha => h.1 a (by omega), fun k _ k2 k3 => h.2 k k2 k3⟩
theorem frQ_2 {J J' : xc_M} (h : fr2 J J') : frQ J J' := frQ_3 (fr3_2 h)
theorem frQ_4 {J J' : xc_M} {l : Nat} (h : fr4 J J' l) : frQ J J' := ⟨fun a ha => h.1 a (by omega) (by omega), fun k _ k2 k3 => h.2.1 k k2 k3⟩
theorem frP_t {I K L : xc_M} (h : frP I K) (h2 : frP K L) : frP I L := fun a a1 a2 => (h2 a a1 a2).trans (h a a1 a2)
theorem frQ_t {I K L : xc_M} (h : frQ I K) (h2 : frQ K L) : frQ I L := ⟨fun a ha => (h2.1 a ha).trans (h.1 a ha), fun k k1 k2 k3 => (h2.2 k k1 k2 k3).trans (h.2 k k1 k2 k3)⟩
theorem frP_wr {I : xc_M} {a j : Nat} {v : Int32} (ha : 61 ≤ a ∧ a ≤ 90) : frP I (xc_wr I a j v) := fun b hb _ => xp_wr_cell (by omega)
theorem frQ_wr {J : xc_M} {a j : Nat} {v : Int32} (ha : a = 7 ∨ a = 8 ∨ a = 9) : frQ J (xc_wr J a j v) := ⟨fun b hb => xp_wr_cell (by omega), fun k _ _ _ => by rw [xp_wr_cell (by omega)]⟩
theorem frQ_17 {J : xc_M} {v : Int32} : frQ J (xc_wr J 0 17 v) := ⟨fun b hb => xp_wr_cell (by omega), fun k k1 _ _ => xp_wr_k k1⟩
theorem frP_r (I : xc_M) : frP I I := fun _ _ _ => rfl
theorem frQ_r (J : xc_M) : frQ J J := ⟨fun _ _ => rfl, fun _ _ _ _ => rfl⟩
section
variable {N t : Nat} {c : Nat → Nat} {I J : xc_M} {x y : Tok} {r T : List Tok}
/-- what the two hold of the words -/
def wdR (I J : xc_M) : Prop := I 1 0 = nI (xr (J 1) 62) ∧ J 1 62 = nI (xr (J 1) 62) ∧ xr (J 1) 62 < 15 ∧ ∀ k, k < 14 → I 2 k = nI (xr (J 1) (70 + k)) ∧ xr (J 1) (70 + k) < 21
theorem wdR_keep {I' J' : xc_M} (h : wdR I J) (hI : frP I I') (hJ : frQ J J') : wdR I' J' := by
  obtain ⟨h1, h2, h3, h4⟩ := h
  have e1 := hJ.1 1 (by omega)
  unfold wdR
  rw [e1, hI 1 (by omega) (by omega), hI 2 (by omega) (by omega)]
  exact ⟨h1, h2, h3, h4⟩
theorem cv_addWording {R j a b : Nat} (hR : R < 10) (hj : j < 6) (h79 : I 79 0 = nI (R + 1)) (h80 : I 80 R = nI j) : fX2_addWording 79 (nI a) (nI b) I = some (nI 1, xc_wr (xc_wr (xc_wr I 81 (6 * R + j) (nI a)) 82 (6 * R + j) (nI b)) 80 R (nI (j + 1))) := by
  have e3 : (nI R * 6) + nI j = nI (6 * R + j) := by
    show nI R * nI 6 + nI j = _
    rw [pk_mul, nI_add]
    congr 1
    omega
  unfold fX2_addWording
  rw [h79]
  refine e_lt (v := nI R) (by rw [show (1 : Int32) = nI 1 from rfl, pk_sub (by omega), Nat.add_sub_cancel]) (e_f (nI_pos (by omega)) (e_rd (k := R) rfl (by omega) h80 (e_t ?_ (e_rd (k := R) rfl (by omega) h80 (e_lt e3 (e_st (k := 6 * R + j) rfl (by omega) rfl (e_st (k := 6 * R + j) rfl (by omega) rfl (e_rd (k := R) rfl (by omega) (v := nI j) ?_ (e_st (k := R) rfl (by omega) (nI_add j 1) rfl)))))))))
  · rw [show (6 : Int32) = nI 6 from rfl, xp_ltI (by omega) (by omega)]
    exact hj
  · rw [xp_wr_cell (by omega), xp_wr_cell (by omega)]
    exact h80
/-- in a MEANING, behind j wordings -/
def mwS (R j : Nat) (I J : xc_M) : Prop := I 79 0 = nI (R + 1) ∧ I 80 R = nI j ∧ J 0 17 = nI R ∧ (∀ m, m < R → myR I J m) ∧ ∀ i, i < j → wyR I (J 8) (J 1) R i
theorem ways_loop (hN : 1000 ≤ N) {R : Nat} (hR : R < 10) : ∀ m (T : List Tok) (I J : xc_M) (j fu f : Nat), T.length ≤ m → psI I T → psJ c t 0 J T → wdR I J → mwS R j I J → j < 6 → T.length < fu → T.length + 1 < f → ∃ (b : Bool) (I' J' : xc_M), lX6_readMeaning_23 N 1 79 fu (nI j) I = some (nI b.toNat, I') ∧ lX10_aMeaning_38 N f (nI j) (nI 1) J = some (nI b.toNat, J') ∧ frP I I' ∧ frQ J J' ∧ (b = false → flt I' J') ∧ (b = true → ∃ T', T'.length < T.length ∧ psI I' T' ∧ psJ c t 0 J' T' ∧ meS (R + 1) I' J') := by
  intro m
  induction m with
  | zero =>
    intro T I J j fu f hm hpI hpJ
    obtain ⟨x, r, rfl⟩ := psJ_ne hpJ
    rw [List.length_cons] at hm
    omega
  | succ m ih =>
    intro T I J j fu f hm hpI hpJ hwd hst hj6 hfu hf
    obtain ⟨g, rfl⟩ : ∃ g, fu = g + 1 := ⟨fu - 1, by omega⟩
    obtain ⟨g2, rfl⟩ : ∃ g, f = g + 1 := ⟨f - 1, by omega⟩
    obtain ⟨s79, s80, s17, sm, sw⟩ := hst
    obtain ⟨w1, w2, w3, w4⟩ := id hwd
    have hT : T.length ≤ 401 := by
      obtain ⟨i, _, _, h3, _⟩ := hpI.1
      omega
    have hT1 : 1 ≤ T.length := by
      obtain ⟨x, r, rfl⟩ := psJ_ne hpJ
      rw [List.length_cons]
      omega
    have h6 : ¬ (6 : Int32) < nI j := by rw [show (6 : Int32) = nI 6 from rfl, xp_ltI (by omega) (by omega)]; omega
    have hidx : (((42 : Int32) * (J 0 17)) + ((7 : Int32) * nI j)) = nI (42 * R + 7 * j) := by
      rw [s17]
      show nI 42 * nI R + nI 7 * nI j = _
      rw [pk_mul, pk_mul, nI_add]
    obtain ⟨b, n, I1, J1, a1, a2, a3, a4, a5, a6⟩ := wording_loop (c := c) (t := t) hN (nW := xr (J 1) 62) (l := 42 * R + 7 * j) w3 (by omega) T.length T I J 0 N N (Nat.le_refl _) hpI hpJ w1 w2 w4 (by omega) (fun k hk => absurd hk (by omega)) (by omega) (by omega)
    rw [if_pos (show (0 : Nat) = 0 ∨ hd2 T = true from Or.inl rfl)] at a2
    have a1' : fX6_readWording N 1 79 I = _ := a1
    have a2' : fX10_aWording N (nI (42 * R + 7 * j)) J = _ := a2
    rw [lX6_readMeaning_23, bX6_readMeaning_23, lX10_aMeaning_38, bX10_aMeaning_38]
    cases b with
    | false =>
      rw [if_neg bff] at a1'
      exact ⟨false, I1, J1, e_f h6 (e_cl a1' (e_f (fun z => z rfl) rfl)), e_f (by decide) (e_cl (by rw [hidx]; exact a2') (e_f (fun z => z rfl) rfl)), frP_1 a3, frQ_4 a4, a5, fun z => by cases z⟩
    | true =>
      obtain ⟨n1, n6, hJl, hwn, T1, t1, t2, t3, t4⟩ := a6 rfl
      have ht2 := t2 rfl
      have hJ1 : J1 1 = J 1 := a4.1 1 (by omega) (by omega)
      have hn : xr (J1 8) (42 * R + 7 * j) = n := xr_of hJl (by omega)
      have hadd := cv_addWording (I := I1) (R := R) (j := j) (a := zS (J1 8) (42 * R + 7 * j) n) (b := zL (J1 8) (J 1) (42 * R + 7 * j) n) hR hj6 (by rw [a3 79 (by omega)]; exact s79) (by rw [a3 80 (by omega)]; exact s80)
      have hcw : fX6_readWording N 1 79 I = some (nI 1, xc_wr (xc_wr (xc_wr I1 81 (6 * R + j) (nI (zS (J1 8) (42 * R + 7 * j) n))) 82 (6 * R + j) (nI (zL (J1 8) (J 1) (42 * R + 7 * j) n))) 80 R (nI (j + 1))) := by
        rw [a1', if_pos btt, bX6_readWording_101]
        exact e_cl hadd rfl
      generalize hI2 : xc_wr (xc_wr (xc_wr I1 81 (6 * R + j) (nI (zS (J1 8) (42 * R + 7 * j) n))) 82 (6 * R + j) (nI (zL (J1 8) (J 1) (42 * R + 7 * j) n))) 80 R (nI (j + 1)) = I2 at hcw
      have c80 : ∀ k, k ≠ R → I2 80 k = I 80 k := fun k hk => by rw [← hI2, xp_wr_k hk, xp_wr_cell (by omega), xp_wr_cell (by omega), a3 80 (by omega)]
      have c80R : I2 80 R = nI (j + 1) := by rw [← hI2, xp_wr_s]
      have c81 : ∀ k, k ≠ 6 * R + j → I2 81 k = I 81 k := fun k hk => by rw [← hI2, xp_wr_cell (by omega), xp_wr_cell (by omega), xp_wr_k hk, a3 81 (by omega)]
      have c82 : ∀ k, k ≠ 6 * R + j → I2 82 k = I 82 k := fun k hk => by rw [← hI2, xp_wr_cell (by omega), xp_wr_k hk, xp_wr_cell (by omega), a3 82 (by omega)]
      have c81s : I2 81 (6 * R + j) = nI (zS (J1 8) (42 * R + 7 * j) n) := by rw [← hI2, xp_wr_cell (by omega), xp_wr_cell (by omega), xp_wr_s]
      have c82s : I2 82 (6 * R + j) = nI (zL (J1 8) (J 1) (42 * R + 7 * j) n) := by rw [← hI2, xp_wr_cell (by omega), xp_wr_s]
      have cO : ∀ a, a ≠ 80 → a ≠ 81 → a ≠ 82 → I2 a = I1 a := fun a b1 b2 b3 => by rw [← hI2, xp_wr_cell b1, xp_wr_cell b3, xp_wr_cell b2]
      have hpI2 : psI I2 T1 := psI_keep t3 (cO 132 (by omega) (by omega) (by omega)) (fun a ha => cO a (by omega) (by omega) (by omega))
      have hfI : frP I I2 := fun a ha h2 => by rw [cO a (by omega) (by omega) (by omega), a3 a h2]
      -- the wordings so far
      have hm2 : ∀ m, m < R → myR I2 J1 m := fun m hm => by
        obtain ⟨n', p1, p2, p3, p4, p5⟩ := sm m hm
        refine ⟨n', p1, p2, by rw [c80 m (by omega)]; exact p3, by rw [a4.1 7 (by omega) (by omega)]; exact p4, fun i hi => ?_⟩
        rw [hJ1]
        exact wyR_keep (p5 i hi) (c81 _ (by omega)) (c82 _ (by omega)) (fun k k1 k2 => a4.2.2 k (by omega))
      have hw2 : ∀ i, i < j + 1 → wyR I2 (J1 8) (J1 1) R i := fun i hi => by
        rw [hJ1]
        by_cases e : i = j
        · subst e
          unfold wyR
          rw [hn]
          exact ⟨⟨by rw [hn]; exact hJl, by rw [hn]; omega⟩, hwn, c81s, c82s⟩
        · exact wyR_keep (sw i (by omega)) (c81 _ (by omega)) (c82 _ (by omega)) (fun k k1 k2 => a4.2.2 k (by omega))
      have h17 : J1 0 17 = nI R := by rw [a4.2.1 17 (by omega) (by omega)]; exact s17
      have h79 : I2 79 0 = nI (R + 1) := by rw [cO 79 (by omega) (by omega) (by omega), a3 79 (by omega)]; exact s79
      obtain ⟨y, r1, rfl⟩ := psJ_ne t4
      have hky := psJ_k t4
      have htoky := psJ_tok t4
      have q4 := tm_eq (rd := 0) (a := 4) (b := 101) (by decide +kernel) (by omega) hky (by omega)
      have e101 : (nI y.1 = (101 : Int32)) = (y.1 = 101) := xp_eq (b := 101) (by omega) (by omega)
      rw [List.length_cons] at ht2 t1
      by_cases hy : y.1 = 101
      · have hfull : fX2_isLatestFull 79 I2 = some (nI (if j = 5 then 1 else 0)) := by
          unfold fX2_isLatestFull
          rw [h79, show (1 : Int32) = nI 1 from rfl, pk_sub (by omega), Nat.add_sub_cancel]
          refine e_f ?_ (e_rd (k := R) rfl (by omega) c80R ?_)
          · rw [xp_ltI (by omega) (by omega)]
            omega
          · by_cases h5 : j = 5
            · rw [if_pos h5]
              exact e_f (by rw [show (6 : Int32) = nI 6 from rfl, xp_ltI (by omega) (by omega)]; omega) rfl
            · rw [if_neg h5]
              exact e_t (by rw [show (6 : Int32) = nI 6 from rfl, xp_ltI (by omega) (by omega)]; omega) rfl
        have hn4 : ¬ (J1 0 20) ≠ (4 : Int32) := by rw [htoky, show (4 : Int32) = nI 4 from rfl, ne_eq, q4]; exact fun z => z hy
        by_cases h5 : j = 5
        · rw [if_pos h5] at hfull
          refine ⟨false, rfI I2 3 y.2.1, bdJ J1 3 y.2.1, e_f h6 (e_cl hcw (e_t (by decide) (e_cr (cv_kind hpI2) (e_t (by rw [e101]; exact hy) (e_cr hfull (e_f (by decide) (e_cl (cv_refuse hpI2 3) rfl))))))), ?_, frP_t hfI (frP_1 (fr1_rf _ _ _)), frQ_t (frQ_4 a4) (frQ_2 (fr2_bd _ _ _)), fun _ => flt_mk _ _, fun z => by cases z⟩
          refine e_f (by decide) (e_cl (by rw [hidx]; exact a2') (e_t (by decide) (e_lt (nI_add j 1) (e_f hn4 ?_))))
          rw [bX10_aMeaning_79]
          exact e_lt rfl (e_f (by decide) (e_f (by rw [h5]; exact fun z => z rfl) (e_cl (rv_bad t4 3) rfl)))
        · rw [if_neg h5] at hfull
          obtain ⟨J2, m1, m2, m3⟩ := psJ_nx hN t4 (by omega)
          have hQ2 : frQ J1 J2 := frQ_2 (fr2_n m2)
          have hst2 : mwS R (j + 1) (nxI I2) J2 := by
            have hnx : ∀ a, a ≠ 132 → nxI I2 a = I2 a := fun a ha => xp_wr_cell ha
            have e8 : J2 8 = J1 8 := m2.1 8 (by omega)
            have e1 : J2 1 = J1 1 := m2.1 1 (by omega)
            refine ⟨by rw [hnx 79 (by omega)]; exact h79, by rw [hnx 80 (by omega)]; exact c80R, (m2.2 17 (by omega) (by omega) (by omega) (by omega)).trans h17, fun m hm => ?_, fun i hi => ?_⟩
            · obtain ⟨n', p1, p2, p3, p4, p5⟩ := hm2 m hm
              refine ⟨n', p1, p2, by rw [hnx 80 (by omega)]; exact p3, by rw [m2.1 7 (by omega)]; exact p4, fun i hi => ?_⟩
              rw [e8, e1]
              exact wyR_keep (p5 i hi) (by rw [hnx 81 (by omega)]) (by rw [hnx 82 (by omega)]) (fun _ _ _ => rfl)
            · rw [e8, e1]
              exact wyR_keep (hw2 i hi) (by rw [hnx 81 (by omega)]) (by rw [hnx 82 (by omega)]) (fun _ _ _ => rfl)
          obtain ⟨b, I3, J3, b1, b2, b3, b4, b5, b6⟩ := ih r1 (nxI I2) J2 (j + 1) g g2 (by omega) (psI_nx hpI2) m3 (wdR_keep hwd (frP_t hfI (frP_1 (fr1_nx _))) (frQ_t (frQ_4 a4) hQ2)) hst2 (by omega) (by omega) (by omega)
          refine ⟨b, I3, J3, e_f h6 (e_cl hcw (e_t (by decide) (e_cr (cv_kind hpI2) (e_t (by rw [e101]; exact hy) (e_cr hfull (e_t rfl (e_mw rfl (e_lt (nI_add j 1) b1)))))))), ?_, frP_t hfI (frP_t (frP_1 (fr1_nx _)) b3), frQ_t (frQ_4 a4) (frQ_t hQ2 b4), b5, fun hb => ?_⟩
          · refine e_f (by decide) (e_cl (by rw [hidx]; exact a2') (e_t (by decide) (e_lt (nI_add j 1) (e_f hn4 ?_))))
            rw [bX10_aMeaning_79]
            refine e_lt rfl (e_f (by decide) (e_t ?_ ?_))
            · rw [show (6 : Int32) = nI 6 from rfl, ne_eq, xp_eq (by omega) (by omega)]
              omega
            · rw [bX10_aMeaning_96]
              exact e_f (by decide) (e_cv m1 b2)
          · obtain ⟨T', u1, u2⟩ := b6 hb
            exact ⟨T', by omega, u2⟩
      · have hn4 : (J1 0 20) ≠ (4 : Int32) := by rw [htoky, show (4 : Int32) = nI 4 from rfl, ne_eq, q4]; exact hy
        have hpJ3 : psJ c t 0 (xc_wr (xc_wr J1 7 R (nI (j + 1))) 0 17 (nI (R + 1))) (y :: r1) := psJ_keep (psJ_5 (by omega) (by omega) t4) (xp_wr_cell (by omega)) (fun k hk => xp_wr_k (by omega))
        obtain ⟨b, I3, J3, k1, k2, k3, k4, k5, k6⟩ := take_sim hN (rd := 0) (a := 59) (a' := 159) (by decide +kernel) (by omega) (by omega) (by omega) hpI2 hpJ3
        obtain ⟨g3, rfl⟩ : ∃ g, g2 = g + 1 := ⟨g2 - 1, by omega⟩
        refine ⟨b, I3, J3, e_f h6 (e_cl hcw (e_t (by decide) (e_cr (cv_kind hpI2) (e_f (by rw [e101]; exact hy) (e_cl k1 (by cases b <;> rfl)))))), ?_, frP_t hfI (frP_1 k3), frQ_t (frQ_4 a4) (frQ_t (frQ_wr (by omega)) (frQ_t frQ_17 (frQ_2 k4))), k5, fun hb => ?_⟩
        · refine e_f (by decide) (e_cl (by rw [hidx]; exact a2') (e_t (by decide) (e_lt (nI_add j 1) (e_t hn4 ?_))))
          rw [bX10_aMeaning_79]
          refine e_lt rfl (e_t rfl ?_)
          rw [bX10_aMeaning_96]
          refine e_t rfl ?_
          rw [lX10_aMeaning_38, bX10_aMeaning_38]
          refine e_t rfl (e_st (k := R) h17 (by omega) rfl (e_mw (v := nI (R + 1)) ?_ (e_cl k2 (by cases b <;> rfl))))
          rw [xp_wr_cell (by omega), h17]
          exact nI_add R 1
        · obtain ⟨y', r3, ey, u1, u2⟩ := k6 hb
          cases ey
          have e8 : J3 8 = J1 8 := by rw [k4.1 8 (by omega), xp_wr_cell (by omega), xp_wr_cell (by omega)]
          have e1 : J3 1 = J1 1 := by rw [k4.1 1 (by omega), xp_wr_cell (by omega), xp_wr_cell (by omega)]
          have e7 : J3 7 = xc_wr J1 7 R (nI (j + 1)) 7 := by rw [k4.1 7 (by omega), xp_wr_cell (by omega)]
          refine ⟨r1, by omega, u1, u2, by rw [k3 79 (by omega)]; exact h79, by rw [k4.2 17 (by omega), xp_wr_s], by omega, fun m hm => ?_⟩
          by_cases hmR : m = R
          · subst hmR
            refine ⟨j + 1, by omega, by omega, by rw [k3 80 (by omega)]; exact c80R, by rw [e7, xp_wr_s], fun i hi => ?_⟩
            rw [e8, e1]
            exact wyR_keep (hw2 i hi) (by rw [k3 81 (by omega)]) (by rw [k3 82 (by omega)]) (fun _ _ _ => rfl)
          · obtain ⟨n', p1, p2, p3, p4, p5⟩ := hm2 m (by omega)
            refine ⟨n', p1, p2, by rw [k3 80 (by omega)]; exact p3, by rw [e7, xp_wr_k hmR]; exact p4, fun i hi => ?_⟩
            rw [e8, e1]
            exact wyR_keep (p5 i hi) (by rw [k3 81 (by omega)]) (by rw [k3 82 (by omega)]) (fun _ _ _ => rfl)
theorem mean_sim (hN : 1000 ≤ N) {R : Nat} (hpI : psI I T) (hpJ : psJ c t 0 J T) (hwd : wdR I J) (hst : meS R I J) : ∃ (b : Bool) (I' J' : xc_M), fX6_readMeaning N 1 79 I = some (nI b.toNat, I') ∧ fX10_aMeaning N J = some (nI b.toNat, J') ∧ frP I I' ∧ frQ J J' ∧ (b = false → flt I' J') ∧ (b = true → ∃ T', T'.length < T.length ∧ psI I' T' ∧ psJ c t 0 J' T' ∧ meS (R + 1) I' J') := by
  obtain ⟨x, r, rfl⟩ := psJ_ne hpJ
  obtain ⟨s79, s17, s10, sm⟩ := hst
  have hk := psJ_k hpJ
  have htok := psJ_tok hpJ
  have hT : (x :: r).length ≤ 401 := by
    obtain ⟨i, _, _, h3, _⟩ := hpI.1
    omega
  rw [List.length_cons] at hT
  have q7 := tm_eq (rd := 0) (a := 7) (b := 100) (by decide +kernel) (by omega) hk (by omega)
  have e100 : (nI x.1 = (100 : Int32)) = (x.1 = 100) := xp_eq (b := 100) (by omega) (by omega)
  unfold fX6_readMeaning fX10_aMeaning
  by_cases hx : x.1 = 100
  · have ht7 : J 0 20 = (7 : Int32) := by rw [htok, show (7 : Int32) = nI 7 from rfl, q7]; exact hx
    by_cases h10 : R = 10
    · refine ⟨false, rfI I 3 x.2.1, bdJ J 3 x.2.1, e_cl (v := nI 0) (J := rfI I 3 x.2.1) ?_ (e_f (fun z => z rfl) rfl), e_t ht7 (e_f (by rw [s17, h10]; exact fun z => z rfl) (e_cl (rv_bad hpJ 3) rfl)), frP_1 (fr1_rf _ _ _), frQ_2 (fr2_bd _ _ _), fun _ => flt_mk _ _, fun z => by cases z⟩
      unfold fX6_takeHead
      rw [s79, h10]
      exact e_cr (cv_kind hpI) (e_t (by rw [e100]; exact hx) (e_f (by decide) (e_cl (cv_refuse hpI 3) rfl)))
    · have hR : R < 10 := by omega
      obtain ⟨J1, n1, n2, n3⟩ := psJ_nx hN hpJ (by omega)
      have e79 : nxI I 79 0 = nI R := by
        unfold nxI
        rw [xp_wr_cell (by omega)]
        exact s79
      have hopen : fX2_open 79 (nxI I) = some (nI 0, xc_wr (xc_wr (nxI I) 80 R (nI 0)) 79 0 (nI (R + 1))) := by
        unfold fX2_open
        rw [e79]
        refine e_f (by rw [show (10 : Int32) = nI 10 from rfl, xp_le (by omega) (by omega)]; omega) (e_st (k := R) rfl (by omega) rfl (e_mw (v := nI (R + 1)) ?_ rfl))
        rw [xp_wr_cell (by omega), e79]
        exact nI_add R 1
      have hpI1 : psI (xc_wr (xc_wr (nxI I) 80 R (nI 0)) 79 0 (nI (R + 1))) r := psI_84 (by omega) (psI_84 (by omega) (psI_nx hpI))
      have hcell : ∀ a, a ≠ 132 → a ≠ 80 → a ≠ 79 → (xc_wr (xc_wr (nxI I) 80 R (nI 0)) 79 0 (nI (R + 1))) a = I a := fun a a1 a2 a3 => by
        rw [xp_wr_cell a3, xp_wr_cell a2]
        exact xp_wr_cell a1
      have hfI : frP I (xc_wr (xc_wr (nxI I) 80 R (nI 0)) 79 0 (nI (R + 1))) := fun a ha h2 => hcell a h2 (by omega) (by omega)
      have hst1 : mwS R 0 (xc_wr (xc_wr (nxI I) 80 R (nI 0)) 79 0 (nI (R + 1))) J1 := by
        refine ⟨xp_wr_s _ _ _ _, by rw [xp_wr_cell (by omega), xp_wr_s], (n2.2 17 (by omega) (by omega) (by omega) (by omega)).trans s17, fun m hm => ?_, fun i hi => absurd hi (by omega)⟩
        obtain ⟨n', p1, p2, p3, p4, p5⟩ := sm m hm
        refine ⟨n', p1, p2, ?_, by rw [n2.1 7 (by omega)]; exact p4, fun i hi => ?_⟩
        · rw [xp_wr_cell (by omega), xp_wr_k (by omega)]
          exact (congrFun (xp_wr_cell (by omega)) m).trans p3
        · rw [n2.1 8 (by omega), n2.1 1 (by omega)]
          exact wyR_keep (p5 i hi) (by rw [hcell 81 (by omega) (by omega) (by omega)]) (by rw [hcell 82 (by omega) (by omega) (by omega)]) (fun _ _ _ => rfl)
      obtain ⟨b, I2, J2, b1, b2, b3, b4, b5, b6⟩ := ways_loop hN hR r.length r _ J1 0 N N (Nat.le_refl _) hpI1 n3 (wdR_keep hwd hfI (frQ_2 (fr2_n n2))) hst1 (by omega) (by omega) (by omega)
      refine ⟨b, I2, J2, e_cl (v := nI 1) (J := nxI I) ?_ (e_t (by decide) (e_cv hopen (e_lt rfl b1))), e_t ht7 (e_t ?_ (e_cv n1 (e_lt rfl (e_lt rfl b2)))), frP_t hfI b3, frQ_t (frQ_2 (fr2_n n2)) b4, b5, fun hb => ?_⟩
      · unfold fX6_takeHead
        rw [s79]
        exact e_cr (cv_kind hpI) (e_t (by rw [e100]; exact hx) (e_t (by rw [show (10 : Int32) = nI 10 from rfl, xp_ltI (by omega) (by omega)]; exact hR) (e_mw rfl rfl)))
      · rw [s17, show (10 : Int32) = nI 10 from rfl, ne_eq, xp_eq (by omega) (by omega)]
        exact h10
      · obtain ⟨T', u1, u2⟩ := b6 hb
        exact ⟨T', by rw [List.length_cons]; omega, u2⟩
  · refine ⟨false, rfI I 1 x.2.1, bdJ J 1 x.2.1, e_cl (v := nI 0) (J := rfI I 1 x.2.1) ?_ (e_f (fun z => z rfl) rfl), e_f (by rw [htok, show (7 : Int32) = nI 7 from rfl, q7]; exact hx) (e_cl (rv_bad hpJ 1) rfl), frP_1 (fr1_rf _ _ _), frQ_2 (fr2_bd _ _ _), fun _ => flt_mk _ _, fun z => by cases z⟩
    unfold fX6_takeHead
    exact e_cr (cv_kind hpI) (e_f (by rw [e100]; exact hx) (e_cl (cv_refuse hpI 1) rfl))
end
