-- ===== texts: all lines of THE LAW =====
section
variable {N M t : Nat} {c : Nat → Nat} {I J : xc_M} {x y : Tok} {r T : List Tok} {L : List LLine}
theorem lnR_keep {I' J' : xc_M} (hI : ∀ a, a = 84 ∨ a = 85 ∨ a = 86 ∨ a = 87 → I' a = I a) (hJ : J' 5 = J 5) : ∀ {L : List LLine} {i p q : Nat}, lnR I J i p q L → lnR I' J' i p q L := by
  intro L
  induction L with
  | nil => exact fun _ => trivial
  | cons l r ih =>
    intro i p q h
    obtain ⟨a1, a2, a3, a4, a5, a6, a7, a8, a9, a10⟩ := h
    exact ⟨by rw [hI 84 (by omega)]; exact a1, by rw [hI 85 (by omega)]; exact a2, by rw [hI 86 (by omega)]; exact a3, by rw [hI 87 (by omega)]; exact a4, by rw [hJ]; exact a5, by rw [hJ]; exact a6, by rw [hJ]; exact a7, by rw [hJ]; exact a8, a9, ih a10⟩
theorem law_loop (hN : 1000 ≤ N) (hM : 60 ≤ M) : ∀ m (T : List Tok) (I J : xc_M) (L : List LLine) (fu f v6 : Nat), T.length ≤ m → psI I T → psJ c t 1 J T → lwS L I J → L.length ≤ 16 → ((sgs L).flatMap lenc).length + T.length ≤ 401 → v6 + T.length ≤ 401 → T.length < fu → T.length + 1 < f → ∃ (b : Bool) (v : Int32) (I' J' : xc_M), lX6_read_67 N M 1 61 fu (nI 1) (nI L.length) (nI v6) I = some (v, I') ∧ lX10_readsLaw_12 N M f (nI 1) J = some (nI b.toNat, J') ∧ frL I I' ∧ frM J J' ∧ (b = false → v = mI ∧ flt I' J') ∧ (b = true → ∃ L', v = nI L'.length ∧ lwS L' I' J' ∧ L'.length ≤ 16 ∧ ((sgs L').flatMap lenc).length ≤ 400 ∧ I' 132 0 = nI 0 ∧ I' 132 1 = mI) := by
  intro m
  induction m with
  | zero =>
    intro T I J L fu f v6 hm hpI hpJ
    obtain ⟨x, r, rfl⟩ := psJ_ne hpJ
    rw [List.length_cons] at hm
    omega
  | succ m ih =>
    intro T I J L fu f v6 hm hpI hpJ hL hL16 hB hv6 hfu hf
    obtain ⟨x, r, rfl⟩ := psJ_ne hpJ
    obtain ⟨g, rfl⟩ : ∃ g, fu = g + 1 := ⟨fu - 1, by omega⟩
    obtain ⟨g2, rfl⟩ : ∃ g, f = g + 1 := ⟨f - 1, by omega⟩
    have hk := psJ_k hpJ
    have htok := psJ_tok hpJ
    have q0 := tq 0 0 (by decide +kernel) (by omega) hk
    have e0 : (nI x.1 = (0 : Int32)) = (x.1 = 0) := xp_eq (b := 0) (by omega) (by omega)
    rw [lX6_read_67, lX10_readsLaw_12, bX10_readsLaw_12, htok]
    have h1n : ¬ nI 1 = (0 : Int32) := by decide
    by_cases h0 : x.1 = 0
    · refine ⟨true, nI L.length, I, J, ?_, e_f h1n (e_t (by rw [show (0 : Int32) = nI 0 from rfl, q0]; exact h0) rfl), fun _ _ _ => rfl, ⟨fun _ _ _ _ => rfl, fun _ _ _ _ _ => rfl⟩, (fun z => by cases z), fun _ => ⟨L, rfl, hL, hL16, by rw [List.length_cons] at hB; omega, hpI.2.1, hpI.2.2⟩⟩
      rw [bX6_read_67]
      by_cases h4 : (400 : Int32) ≤ nI v6
      · exact e_t h4 rfl
      · exact e_f h4 (e_cr (cv_kind hpI) (e_t (by rw [e0]; exact h0) rfl))
    · have hr1 : 1 ≤ r.length := by
        have := psJ_r hpJ h0
        cases r with
        | nil => exact absurd rfl this
        | cons y r' => rw [List.length_cons]; omega
      have hlc : (x :: r).length = r.length + 1 := List.length_cons
      have h4 : ¬ (400 : Int32) ≤ nI v6 := by rw [show (400 : Int32) = nI 400 from rfl, xp_le (by omega) (by omega)]; omega
      obtain ⟨b, I1, J1, a1, a2, a3, a4, a5, a6⟩ := line_sim (M := M) hN hM hpI hpJ hL hL16 hB (by omega)
      have hcl : ∀ R, bX6_read_152 N M 1 61 (lX6_read_67 N M 1 61 g) (nI 1) (nI L.length) (nI v6) (nI b.toNat) I1 = R → bX6_read_67 N M 1 61 (lX6_read_67 N M 1 61 g) (nI 1) (nI L.length) (nI v6) I = R := by
        intro R hR
        rw [bX6_read_67]
        exact e_f h4 (e_cr (cv_kind hpI) (e_f (by rw [e0]; exact h0) (e_t h1n (e_f (fun z => z rfl) (e_cl a1 (e_lt rfl hR))))))
      have n0 : ¬ nI (tm 1 x.1) = (0 : Int32) := by rw [show (0 : Int32) = nI 0 from rfl, q0]; exact h0
      cases b with
      | false =>
        obtain ⟨g3, rfl⟩ : ∃ g, g2 = g + 1 := ⟨g2 - 1, by omega⟩
        refine ⟨false, mI, I1, xc_wr J1 0 15 (J1 0 15 + 0), hcl _ ?_, ?_, a3, frM_t a4 ⟨fun a a1 _ _ => xp_wr_cell a1, fun k k1 _ _ _ => xp_wr_k k1⟩, fun _ => ⟨rfl, ?_⟩, fun z => by cases z⟩
        · rw [bX6_read_152]
          exact e_f (fun z => z rfl) rfl
        · refine e_f h1n (e_f n0 (e_cl a2 (e_lt rfl (e_t rfl ?_))))
          rw [bX10_readsLaw_42]
          refine e_mw rfl ?_
          rw [lX10_readsLaw_12, bX10_readsLaw_12]
          exact e_t rfl rfl
        · obtain ⟨u1, u2⟩ := a5 rfl
          exact ⟨by rw [xp_wr_k (by omega)]; exact u1, by rw [xp_wr_k (by omega)]; exact u2⟩
      | true =>
        obtain ⟨T', l, p1, p2, p3, p4, p5, p6, p7, p8, p9⟩ := a6 rfl
        have hlen : (L ++ [l]).length = L.length + 1 := by rw [List.length_append]; rfl
        have hL' : lwS (L ++ [l]) I1 (xc_wr J1 0 15 (nI (L.length + 1))) := ⟨by rw [hlen]; exact p4, by rw [hlen, xp_wr_s], p6, sS_keep (xp_wr_cell (by omega)) (xp_wr_k (by omega)) p7, lnR_keep (fun _ _ => rfl) (xp_wr_cell (by omega)) p8⟩
        -- a seventeenth line is refused
        have hL15 : L.length < 16 := by
          apply Nat.lt_of_le_of_ne hL16
          intro h16
          have e := a2
          obtain ⟨g83, g15, gc, gs, gl⟩ := hL
          by_cases hx : 104 ≤ x.1 ∧ x.1 ≤ 106
          · have htm : tm 1 x.1 = x.1 - 84 := by
              have hz : x.1 = 104 ∨ x.1 = 105 ∨ x.1 = 106 := by omega
              rcases hz with z | z | z <;> rw [z] <;> rfl
            have hin := rv_isIn (v := tm 1 x.1) (a := 20) (c := 22) (by rw [htm]; omega) (by omega) (by omega)
            rw [decide_eq_true (by rw [htm]; omega)] at hin
            have e2 : fX10_aLine N M J = some (nI 0, bdJ J 3 x.2.1) := by
              unfold fX10_aLine
              rw [htok, g15, h16]
              exact e_cr hin (e_t (by decide) (e_f (fun z => z rfl) (e_cl (rv_bad hpJ 3) rfl)))
            rw [e2] at e
            have e3 : nI 0 = nI 1 := congrArg (fun o => match o with
              | some q => q.1
              | none => (7 : Int32)) e
            exact absurd e3 (by decide)
          · have e2 := (line_bad (N := N) (M := M) hpI hpJ hx).2
            rw [e2] at e
            have e3 : nI 0 = nI 1 := congrArg (fun o => match o with
              | some q => q.1
              | none => (7 : Int32)) e
            exact absurd e3 (by decide)
        obtain ⟨b, v, I2, J2, b1, b2, b3, b4, b5, b6⟩ := ih T' I1 (xc_wr J1 0 15 (nI (L.length + 1))) (L ++ [l]) g g2 (v6 + 1) (by omega) p2 (psJ_keep p3 (xp_wr_cell (by omega)) (fun k hk => xp_wr_k (by omega))) hL' (by omega) p9 (by omega) (by omega) (by omega)
        refine ⟨b, v, I2, J2, hcl _ ?_, ?_, frL_t a3 b3, frM_t a4 (frM_t ⟨fun a a1 _ _ => xp_wr_cell a1, fun k k1 _ _ _ => xp_wr_k k1⟩ b4), b5, b6⟩
        · rw [bX6_read_152]
          rw [hlen] at b1
          exact e_t (by decide) (e_lt (nI_add _ 1) (e_lt (nI_add _ 1) b1))
        · refine e_f h1n (e_f n0 (e_cl a2 (e_lt rfl (e_f (by decide) ?_))))
          rw [bX10_readsLaw_42, p5]
          exact e_mw (nI_add _ 1) b2
/-- what THE LAW's text leaves in the reference's row -/
def plR (J J' : xc_M) (nl ns : Nat) : Prop := (∀ a, a ≠ 1 → J' a = J a) ∧ (∀ j, j ≠ 65 → j < 1348 → J' 1 j = J 1 j) ∧ J' 1 65 = nI nl ∧ (∀ i, i < nl → J' 1 (1348 + i) = J 5 (4 * i) ∧ J' 1 (1364 + i) = J 5 (4 * i + 1) ∧ J' 1 (1380 + i) = J 5 (4 * i + 2) ∧ J' 1 (1396 + i) = J 5 (4 * i + 3)) ∧ ∀ j, j < 2 * ns → J' 1 (1412 + j) = J 6 j
theorem rv_putsLaw (hN : 1000 ≤ N) {nl ns : Nat} (h1 : nl ≤ 16) (h2 : ns ≤ 400) (h15 : J 0 15 = nI nl) (h16 : J 0 16 = nI ns) : ∃ J', fX10_putsLaw N J = some (nI nl, J') ∧ plR J J' nl ns := by
  obtain ⟨K, ⟨k1, k2, k3, k4⟩, hl⟩ := ex_loop (fun fu i K => lX10_putsLaw_13 N fu (nI i) K) (fun i K => (∀ a, a ≠ 1 → K a = J a) ∧ (∀ j, j ≠ 65 → j < 1348 → K 1 j = J 1 j) ∧ K 1 65 = nI nl ∧ ∀ l, l < i → K 1 (1348 + l) = J 5 (4 * l) ∧ K 1 (1364 + l) = J 5 (4 * l + 1) ∧ K 1 (1380 + l) = J 5 (4 * l + 2) ∧ K 1 (1396 + l) = J 5 (4 * l + 3)) nl (fun K => lX10_putsLaw_107 N N (nI 0) K) (by
    intro fu K hq
    have e15 : K 0 15 = nI nl := by rw [hq.1 0 (by omega)]; exact h15
    show lX10_putsLaw_13 N (fu + 1) _ _ = _
    rw [lX10_putsLaw_13, bX10_putsLaw_13, e15]
    exact e_t (by rw [xp_le (by omega) (by omega)]; omega) (e_lt rfl rfl)) (by
    intro fu i K hi hq
    obtain ⟨q1, q2, q3, q4⟩ := hq
    have e15 : K 0 15 = nI nl := by rw [q1 0 (by omega)]; exact h15
    have e5 : K 5 = J 5 := q1 5 (by omega)
    refine ⟨xc_wr (xc_wr (xc_wr (xc_wr K 1 (1348 + i) (J 5 (4 * i))) 1 (1364 + i) (J 5 (4 * i + 1))) 1 (1380 + i) (J 5 (4 * i + 2))) 1 (1396 + i) (J 5 (4 * i + 3)), ⟨fun a ha => by rw [xp_wr_cell ha, xp_wr_cell ha, xp_wr_cell ha, xp_wr_cell ha, q1 a ha], fun j j1 j2 => by rw [xp_wr_k (by omega), xp_wr_k (by omega), xp_wr_k (by omega), xp_wr_k (by omega), q2 j j1 j2], by rw [xp_wr_k (by omega), xp_wr_k (by omega), xp_wr_k (by omega), xp_wr_k (by omega), q3], fun l hl => ?_⟩, ?_⟩
    · by_cases e : l = i
      · subst e
        refine ⟨?_, ?_, ?_, xp_wr_s _ _ _ _⟩
        · rw [xp_wr_k (by omega), xp_wr_k (by omega), xp_wr_k (by omega), xp_wr_s]
        · rw [xp_wr_k (by omega), xp_wr_k (by omega), xp_wr_s]
        · rw [xp_wr_k (by omega), xp_wr_s]
      · obtain ⟨r1, r2, r3, r4⟩ := q4 l (by omega)
        refine ⟨?_, ?_, ?_, ?_⟩
        · rw [xp_wr_k (by omega), xp_wr_k (by omega), xp_wr_k (by omega), xp_wr_k (by omega)]; exact r1
        · rw [xp_wr_k (by omega), xp_wr_k (by omega), xp_wr_k (by omega), xp_wr_k (by omega)]; exact r2
        · rw [xp_wr_k (by omega), xp_wr_k (by omega), xp_wr_k (by omega), xp_wr_k (by omega)]; exact r3
        · rw [xp_wr_k (by omega), xp_wr_k (by omega), xp_wr_k (by omega), xp_wr_k (by omega)]; exact r4
    · show lX10_putsLaw_13 N (fu + 1) _ _ = _
      have m4 : (4 : Int32) * nI i = nI (4 * i) := pk_mul 4 i
      rw [lX10_putsLaw_13, bX10_putsLaw_13, e15, m4]
      refine e_f (by rw [xp_le (by omega) (by omega)]; omega) (e_rd (k := 4 * i) rfl (by omega) (by rw [e5]) (e_st (k := 1348 + i) (nI_add 1348 i) (by omega) rfl (e_rd (k := 4 * i + 1) (nI_add _ 1) (by omega) (by rw [xp_wr_cell (by omega), e5]) (e_st (k := 1364 + i) (nI_add 1364 i) (by omega) rfl (e_rd (k := 4 * i + 2) (nI_add _ 2) (by omega) (by rw [xp_wr_cell (by omega), xp_wr_cell (by omega), e5]) (e_st (k := 1380 + i) (nI_add 1380 i) (by omega) rfl (e_rd (k := 4 * i + 3) (nI_add _ 3) (by omega) (by rw [xp_wr_cell (by omega), xp_wr_cell (by omega), xp_wr_cell (by omega), e5]) (e_st (k := 1396 + i) (nI_add 1396 i) (by omega) rfl (e_lt (nI_add i 1) rfl)))))))))) N (xc_wr J 1 65 (nI nl)) (by omega) ⟨fun a ha => xp_wr_cell ha, fun j j1 j2 => xp_wr_k j1, xp_wr_s _ _ _ _, fun l hl => absurd hl (by omega)⟩
  obtain ⟨K2, ⟨m1, m2, m3⟩, hl2⟩ := ex_loop (fun fu i K => lX10_putsLaw_107 N fu (nI i) K) (fun i K2 => (∀ a, a ≠ 1 → K2 a = K a) ∧ (∀ j, j < 1412 → K2 1 j = K 1 j) ∧ ∀ l, l < i → K2 1 (1412 + l) = J 6 l) (2 * ns) (fun K => some (nI nl, K)) (by
    intro fu K2 hq
    have e15 : K2 0 15 = nI nl := by rw [hq.1 0 (by omega), k1 0 (by omega)]; exact h15
    have e16 : K2 0 16 = nI ns := by rw [hq.1 0 (by omega), k1 0 (by omega)]; exact h16
    show lX10_putsLaw_107 N (fu + 1) _ _ = _
    rw [lX10_putsLaw_107, bX10_putsLaw_107, e15, e16, show (2 : Int32) * nI ns = nI (2 * ns) from pk_mul 2 ns]
    exact e_t (by rw [xp_le (by omega) (by omega)]; omega) rfl) (by
    intro fu i K2 hi hq
    obtain ⟨q1, q2, q3⟩ := hq
    have e16 : K2 0 16 = nI ns := by rw [q1 0 (by omega), k1 0 (by omega)]; exact h16
    have e6 : K2 6 = J 6 := by rw [q1 6 (by omega), k1 6 (by omega)]
    refine ⟨xc_wr K2 1 (1412 + i) (J 6 i), ⟨fun a ha => by rw [xp_wr_cell ha, q1 a ha], fun j j1 => by rw [xp_wr_k (by omega), q2 j j1], fun l hl => ?_⟩, ?_⟩
    · by_cases e : l = i
      · rw [e, xp_wr_s]
      · rw [xp_wr_k (by omega), q3 l (by omega)]
    · show lX10_putsLaw_107 N (fu + 1) _ _ = _
      rw [lX10_putsLaw_107, bX10_putsLaw_107, e16, show (2 : Int32) * nI ns = nI (2 * ns) from pk_mul 2 ns]
      exact e_f (by rw [xp_le (by omega) (by omega)]; omega) (e_rd (k := i) rfl (by omega) (by rw [e6]) (e_st (k := 1412 + i) (nI_add 1412 i) (by omega) rfl (e_lt (nI_add i 1) rfl)))) N K (by omega) ⟨fun _ _ => rfl, fun _ _ => rfl, fun l hl => absurd hl (by omega)⟩
  refine ⟨K2, ?_, fun a ha => (m1 a ha).trans (k1 a ha), fun j j1 j2 => (m2 j (by omega)).trans (k2 j j1 j2), (m2 65 (by omega)).trans k3, fun i hi => ?_, m3⟩
  · unfold fX10_putsLaw
    exact e_st (k := 65) rfl (by omega) h15 (e_lt rfl (hl.trans hl2))
  · obtain ⟨r1, r2, r3, r4⟩ := k4 i hi
    exact ⟨(m2 _ (by omega)).trans r1, (m2 _ (by omega)).trans r2, (m2 _ (by omega)).trans r3, (m2 _ (by omega)).trans r4⟩
end
