-- ===== round: depth first =====
theorem ex_loop {α : Type} (L : Nat → Nat → xc_M → Option α) (Q : Nat → xc_M → Prop) (n : Nat) (R : xc_M → Option α) (hx : ∀ fu K, Q n K → L (fu + 1) n K = R K) (hs : ∀ fu i K, i < n → Q i K → ∃ K', Q (i + 1) K' ∧ L (fu + 1) i K = L fu (i + 1) K') : ∀ fu K, n < fu → Q 0 K → ∃ K', Q n K' ∧ L fu 0 K = R K' := by
  have key : ∀ d i fu K, i + d = n → d < fu → Q i K → ∃ K', Q n K' ∧ L fu i K = R K' := by
    intro d
    induction d with
    | zero =>
      intro i fu K hi hf hq
      obtain ⟨g, rfl⟩ : ∃ g, fu = g + 1 := ⟨fu - 1, by omega⟩
      have e : i = n := by omega
      subst e
      exact ⟨K, hq, hx g K hq⟩
    | succ d ih =>
      intro i fu K hi hf hq
      obtain ⟨g, rfl⟩ : ∃ g, fu = g + 1 := ⟨fu - 1, by omega⟩
      obtain ⟨K1, k1, k2⟩ := hs g i K (by omega) hq
      obtain ⟨K2, k3, k4⟩ := ih (i + 1) g K1 (by omega) (by omega) k1
      exact ⟨K2, k3, k2.trans k4⟩
  intro fu K hf hq
  exact key n 0 fu K (by omega) hf hq
section
variable {N : Nat} {I J : xc_M} {w : Nat → Int32}
theorem rv_milesOf {K : xc_M} (h : iW (K 1)) {a p : Nat} (ha : a < 10) (hp : p < 10) : fX10_milesOf K (nI a) (nI p) = some (nI (mD (K 1) a p)) := by
  have e : K 1 (98 + (a * 10 + p)) = nI (mD (K 1) a p) := h.miles (j := a * 10 + p) (by omega)
  have e2 : ((98 : Int32) + ((10 : Int32) * nI a)) + nI p = nI (98 + (a * 10 + p)) := by
    show nI 98 + nI 10 * nI a + nI p = _
    rw [pk_mul, nI_add, nI_add]
    congr 1
    omega
  unfold fX10_milesOf
  exact e_rd (k := 98 + (a * 10 + p)) e2 (by omega) e rfl
/-- what a search from here leaves: nothing better than L, or the better one -/
def grE (J J' : xc_M) (n L v c : Nat) (g : Nat → Nat) : Prop := if v < L then J' 0 35 = nI v ∧ (∀ j, j < n → J' 15 j = J 14 j) ∧ (∀ i, i < c → J' 15 (n + i) = nI (g i)) else J' 0 35 = nI L ∧ J' 15 = J 15
def grF (J J' : xc_M) (n : Nat) : Prop := (∀ c, c ≠ 0 → c ≠ 14 → c ≠ 15 → J' c = J c) ∧ (∀ k, k ≠ 35 → J' 0 k = J 0 k) ∧ ∀ j, j < n → J' 14 j = J 14 j
theorem rv_copy (hN : 1000 ≤ N) (r : Int32 → Int32 → Int32 → Int32 → xc_M → Option (Int32 × xc_M)) {n : Nat} (hn : n ≤ 6) (K : xc_M) : ∃ K', lX10_goesRound_23 N r N (nI n) (nI 0) K = some (nI 0, K') ∧ (∀ c, c ≠ 15 → K' c = K c) ∧ ∀ j, j < n → K' 15 j = K 14 j := by
  obtain ⟨K', q, hl⟩ := ex_loop (fun fu i K => lX10_goesRound_23 N r fu (nI n) (nI i) K) (fun i K' => (∀ c, c ≠ 15 → K' c = K c) ∧ ∀ j, j < i → K' 15 j = K 14 j) n (fun K => some (nI 0, K)) (by
    intro fu K' _
    show lX10_goesRound_23 N r (fu + 1) _ _ _ = _
    rw [lX10_goesRound_23, bX10_goesRound_23]
    exact e_t (by rw [xp_le (by omega) (by omega)]; omega) rfl) (by
    intro fu i K' hi hq
    refine ⟨xc_wr K' 15 i (K' 14 i), ⟨fun c hc => by rw [xp_wr_cell hc, hq.1 c hc], fun j hj => ?_⟩, ?_⟩
    · by_cases e : j = i
      · rw [e, xp_wr_s, hq.1 14 (by omega)]
      · rw [xp_wr_k e, hq.2 j (by omega)]
    · show lX10_goesRound_23 N r (fu + 1) _ _ _ = _
      rw [lX10_goesRound_23, bX10_goesRound_23]
      exact e_f (by rw [xp_le (by omega) (by omega)]; omega) (e_rd (k := i) rfl (by omega) rfl (e_st (k := i) rfl (by omega) rfl (e_lt (nI_add i 1) rfl)))) N K (by omega) ⟨fun _ _ => rfl, fun j hj => absurd hj (by omega)⟩
  exact ⟨K', hl, q.1, q.2⟩
/-- the best so far, of the places below i -/
def grS (J K : xc_M) (a s n mi L f : Nat) : Prop := if mi + vV (J 1) a s f < L then K 0 35 = nI (mi + vV (J 1) a s f) ∧ (∀ j, j < n → K 15 j = J 14 j) ∧ K 15 n = nI f ∧ (∀ i, i + 1 < sct s → K 15 (n + 1 + i) = nI (psS (J 1) f (xdf s (2 ^ f)) (i + 1)).1) else K 0 35 = nI L ∧ K 15 = J 15
def grM (J K : xc_M) (a s n mi L : Nat) : Option Nat → Prop
  | none => K 0 35 = nI L ∧ K 15 = J 15
  | some f => grS J K a s n mi L f
def grI (J K : xc_M) (a s n mi L i : Nat) : Prop := grF J K n ∧ grM J K a s n mi L (upN (vV (J 1) a s) s.testBit i)
theorem rv_goes (hN : 1000 ≤ N) : ∀ k M t a s n mi L (J : xc_M), iW (J 1) → sct s ≤ k → k + n ≤ 6 → k < M → a < 10 → s < 1024 → mi ≤ 99 * n → L ≤ 1000000 → J 0 35 = nI L → ∃ J', zX10_goesRound N M t (nI a) (nI s) (nI n) (nI mi) J = some (nI 0, J') ∧ grF J J' n ∧ grE J J' n L (mi + mt (J 1) 6 a s) (sct s) (fun i => (psS (J 1) a s (i + 1)).1) := by
  intro k
  induction k with
  | zero =>
    intro M t a s n mi L J hw hc hn hM ha hs hmi hL hl
    obtain ⟨M, rfl⟩ : ∃ m, M = m + 1 := ⟨M - 1, by omega⟩
    have h0 : s = 0 := by
      by_cases h0 : s = 0
      · exact h0
      · have := sct_pos (by omega) h0
        omega
    subst h0
    show ∃ J', gX10_goesRound N (zX10_goesRound N M 0) (nI a) (nI 0) (nI n) (nI mi) J = some (nI 0, J') ∧ _
    rw [mt_zero]
    unfold grE
    by_cases hlt : mi < L
    · obtain ⟨K', k1, k2, k3⟩ := rv_copy (N := N) hN (zX10_goesRound N M 0) (n := n) (by omega) (xc_wr J 0 35 (nI mi))
      refine ⟨K', e_f (fun z => z rfl) (e_t ?_ (e_mw rfl (e_lt rfl k1))), ⟨fun c c0 c14 c15 => by rw [k2 c c15, xp_wr_cell c0], fun k hk => by rw [k2 0 (by omega), xp_wr_k hk], fun j hj => by rw [k2 14 (by omega), xp_wr_cell (by omega)]⟩, ?_⟩
      · rw [hl, xp_ltI (by omega) (by omega)]
        exact hlt
      · rw [if_pos (by omega)]
        refine ⟨by rw [k2 0 (by omega), xp_wr_s]; rfl, fun j hj => by rw [k3 j hj, xp_wr_cell (by omega)], fun i hi => ?_⟩
        rw [show sct 0 = 0 by decide] at hi
        omega
    · refine ⟨J, e_f (fun z => z rfl) (e_f ?_ rfl), ⟨fun _ _ _ _ => rfl, fun _ _ => rfl, fun _ _ => rfl⟩, ?_⟩
      · rw [hl, xp_ltI (by omega) (by omega)]
        exact hlt
      · rw [if_neg (by omega)]
        exact ⟨hl, rfl⟩
  | succ k ih =>
    intro M t a s n mi L J hw hc hn hM ha hs hmi hL hl
    by_cases h0 : s = 0
    · subst h0
      obtain ⟨J', j1, j2⟩ := ih M t a 0 n mi L J hw (by rw [show sct 0 = 0 by decide]; omega) (by omega) (by omega) ha hs hmi hL hl
      exact ⟨J', j1, j2⟩
    obtain ⟨M, rfl⟩ : ∃ m, M = m + 1 := ⟨M - 1, by omega⟩
    have hcp := sct_pos (by omega) h0
    obtain ⟨J', q, hr⟩ := ex_loop (fun fu i K => lX10_goesRound_53 N (zX10_goesRound N M 0) fu (nI a) (nI s) (nI n) (nI mi) (nI i) K) (fun i K => grI J K a s n mi L i) 10 (fun K => some (nI 0, K)) (by
      intro fu K _
      show lX10_goesRound_53 N (zX10_goesRound N M 0) (fu + 1) _ _ _ _ _ _ = _
      rw [lX10_goesRound_53, bX10_goesRound_53]
      exact e_t (by decide) rfl) (by
      intro fu i K hi hq
      show ∃ K', _ ∧ lX10_goesRound_53 N (zX10_goesRound N M 0) (fu + 1) _ _ _ _ _ _ = _
      rw [lX10_goesRound_53, bX10_goesRound_53]
      have hit : ((nI s >>> (nI i &&& 31)) &&& 1) = nI (s.testBit i).toNat := xp_tb (by omega) (by omega)
      have h10 : ¬ (10 : Int32) ≤ nI i := by rw [show (10 : Int32) = nI 10 from rfl, xp_le (by omega) (by omega)]; omega
      have hup : upN (vV (J 1) a s) s.testBit (i + 1) = if s.testBit i = true then (match upN (vV (J 1) a s) s.testBit i with
        | none => some i
        | some j => if vV (J 1) a s i < vV (J 1) a s j then some i else some j) else upN (vV (J 1) a s) s.testBit i := rfl
      rw [hit]
      cases hb : s.testBit i with
      | false =>
        refine ⟨K, ?_, e_f h10 (e_f (fun z => z rfl) (by rw [bX10_goesRound_107]; exact e_lt (nI_add i 1) rfl))⟩
        unfold grI at hq ⊢
        rw [hup, hb, if_neg (show ¬ false = true from fun z => by cases z)]
        exact hq
      | true =>
        obtain ⟨⟨f1, f2, f3⟩, hm⟩ := hq
        have hx1 := xdf_le s (2 ^ i)
        have hx2 := sct_xdf (p := i) (by omega) hb
        have hK1 : K 1 = J 1 := f1 1 (by omega) (by omega) (by omega)
        have b1 := mD_lt hw ha hi
        -- what stands as the least now
        have hL2 : ∃ L2, L2 ≤ L ∧ K 0 35 = nI L2 := by
          cases hu : upN (vV (J 1) a s) s.testBit i with
          | none => rw [hu] at hm; exact ⟨L, by omega, hm.1⟩
          | some f =>
            rw [hu] at hm
            replace hm : grS J K a s n mi L f := hm
            unfold grS at hm
            by_cases hc2 : mi + vV (J 1) a s f < L
            · rw [if_pos hc2] at hm
              exact ⟨mi + vV (J 1) a s f, by omega, hm.1⟩
            · rw [if_neg hc2] at hm
              exact ⟨L, by omega, hm.1⟩
        obtain ⟨L2, l1, l2⟩ := hL2
        have hw4 : iW ((xc_wr K 14 n (nI i)) 1) := by rw [xp_wr_cell (by omega), hK1]; exact hw
        have e4 : (xc_wr K 14 n (nI i)) 1 = J 1 := by rw [xp_wr_cell (by omega), hK1]
        obtain ⟨K', r1, ⟨r2, r3, r4⟩, r5⟩ := ih M 0 i (xdf s (2 ^ i)) (n + 1) (mi + mD (J 1) a i) L2 (xc_wr K 14 n (nI i)) hw4 (by omega) (by omega) (by omega) hi (by omega) (by omega) (by omega) (by rw [xp_wr_cell (by omega)]; exact l2)
        rw [e4] at r5
        have ev : mi + mD (J 1) a i + mt (J 1) 6 i (xdf s (2 ^ i)) = mi + vV (J 1) a s i := by unfold vV; omega
        rw [ev] at r5
        have hfr : grF J K' n := ⟨fun c c0 c14 c15 => by rw [r2 c c0 c14 c15, xp_wr_cell c14, f1 c c0 c14 c15], fun k hk => by rw [r3 k hk, xp_wr_cell (by omega), f2 k hk], fun j hj => by rw [r4 j (by omega), xp_wr_k (by omega), f3 j hj]⟩
        refine ⟨K', ⟨hfr, ?_⟩, e_f h10 (e_t (by decide) (e_st (k := n) rfl (by omega) rfl (e_cr (rv_milesOf hw4 ha hi) (e_cv (v := nI 0) (J := K') ?_ (by rw [bX10_goesRound_107]; exact e_lt (nI_add i 1) rfl)))))⟩
        · -- the invariant
          have hbet : mi + vV (J 1) a s i < L2 → (K' 0 35 = nI (mi + vV (J 1) a s i) ∧ (∀ j, j < n → K' 15 j = J 14 j) ∧ K' 15 n = nI i ∧ (∀ i2, i2 + 1 < sct s → K' 15 (n + 1 + i2) = nI (psS (J 1) i (xdf s (2 ^ i)) (i2 + 1)).1)) := by
            intro hlt
            unfold grE at r5
            rw [if_pos hlt] at r5
            obtain ⟨g1, g2, g3⟩ := r5
            refine ⟨g1, fun j hj => ?_, ?_, fun i2 hi2 => ?_⟩
            · rw [g2 j (by omega), xp_wr_k (by omega), f3 j hj]
            · rw [g2 n (by omega), xp_wr_s]
            · exact g3 i2 (by omega)
          have hno : ¬ mi + vV (J 1) a s i < L2 → K' 0 35 = nI L2 ∧ K' 15 = K 15 := by
            intro hlt
            unfold grE at r5
            rw [if_neg hlt] at r5
            exact ⟨r5.1, by rw [r5.2, xp_wr_cell (by omega)]⟩
          have hinj : ∀ x y, x ≤ L → y ≤ L → nI x = nI y → x = y := fun x y hx hy e => by rwa [xp_eq (by omega) (by omega)] at e
          rw [hup, hb, if_pos (show true = true from rfl)]
          cases hu : upN (vV (J 1) a s) s.testBit i with
          | none =>
            rw [hu] at hm
            obtain ⟨m1, m2⟩ := hm
            have e2 : L2 = L := hinj _ _ l1 (by omega) (l2.symm.trans m1)
            rw [e2] at hbet hno
            show grS J K' a s n mi L i
            unfold grS
            by_cases hlt : mi + vV (J 1) a s i < L
            · rw [if_pos hlt]
              exact hbet hlt
            · rw [if_neg hlt]
              exact ⟨(hno hlt).1, (hno hlt).2.trans m2⟩
          | some f =>
            rw [hu] at hm
            replace hm : grS J K a s n mi L f := hm
            unfold grS at hm
            show grM J K' a s n mi L (if vV (J 1) a s i < vV (J 1) a s f then some i else some f)
            by_cases hc2 : mi + vV (J 1) a s f < L
            · rw [if_pos hc2] at hm
              obtain ⟨m1, m2, m3, m4⟩ := hm
              have e2 : L2 = mi + vV (J 1) a s f := hinj _ _ l1 (by omega) (l2.symm.trans m1)
              by_cases hlt : vV (J 1) a s i < vV (J 1) a s f
              · rw [if_pos hlt]
                show grS J K' a s n mi L i
                unfold grS
                rw [if_pos (by omega)]
                exact hbet (by omega)
              · rw [if_neg hlt]
                show grS J K' a s n mi L f
                unfold grS
                rw [if_pos hc2]
                obtain ⟨n1, n2⟩ := hno (by omega)
                rw [n2]
                exact ⟨n1.trans (by rw [e2]), m2, m3, m4⟩
            · rw [if_neg hc2] at hm
              obtain ⟨m1, m2⟩ := hm
              have e2 : L2 = L := hinj _ _ l1 (by omega) (l2.symm.trans m1)
              rw [e2] at hbet hno
              by_cases hlt : vV (J 1) a s i < vV (J 1) a s f
              · rw [if_pos hlt]
                show grS J K' a s n mi L i
                unfold grS
                by_cases hc3 : mi + vV (J 1) a s i < L
                · rw [if_pos hc3]
                  exact hbet hc3
                · rw [if_neg hc3]
                  exact ⟨(hno hc3).1, (hno hc3).2.trans m2⟩
              · rw [if_neg hlt]
                show grS J K' a s n mi L f
                unfold grS
                rw [if_neg hc2]
                exact ⟨(hno (by omega)).1, (hno (by omega)).2.trans m2⟩
        · rw [e4]
          rw [show (-1 : Int32) = mI from rfl, show (31 : Int32) = nI 31 from rfl, show (1 : Int32) = nI 1 from rfl, xp_bs (by omega), xp_dfm, nI_add, nI_add]
          exact r1) N J (by omega) ⟨⟨fun _ _ _ _ => rfl, fun _ _ => rfl, fun _ _ => rfl⟩, hl, rfl⟩
    refine ⟨J', ?_, q.1, ?_⟩
    · show gX10_goesRound N (zX10_goesRound N M 0) (nI a) (nI s) (nI n) (nI mi) J = some (nI 0, J')
      refine e_t ?_ (e_lt rfl hr)
      rw [show (0 : Int32) = nI 0 from rfl, ne_eq, xp_eq (by omega) (by omega)]
      exact h0
    · obtain ⟨f, g1, g2, g3, g4⟩ := fo_some (J 1) (a := a) hs h0
      have hm := q.2
      have g1' : upN (vV (J 1) a s) s.testBit 10 = some f := g1
      rw [g1'] at hm
      replace hm : grS J J' a s n mi L f := hm
      unfold grS at hm
      have hmt := mt_fo (J 1) (a := a) hs (by omega)
      rw [g1] at hmt
      replace hmt : mt (J 1) 6 a s = vV (J 1) a s f := hmt
      rw [hmt]
      unfold grE
      by_cases hlt : mi + vV (J 1) a s f < L
      · rw [if_pos hlt] at hm ⊢
        obtain ⟨m1, m2, m3, m4⟩ := hm
        refine ⟨m1, m2, fun i hi => ?_⟩
        show J' 15 (n + i) = nI (psS (J 1) a s (i + 1)).1
        rw [psS_1 (J 1) g1]
        cases i with
        | zero => exact m3
        | succ i =>
          have := m4 i (by omega)
          rw [show n + 1 + i = n + (i + 1) by omega] at this
          exact this
      · rw [if_neg hlt] at hm ⊢
        exact hm
theorem RR_gr {J' : xc_M} (h : RR I J) (hJ : grF J J' 0) : RR I J' := by
  obtain ⟨h1, h2, h3, h4, h5, h6⟩ := h
  obtain ⟨f1, f2, _⟩ := hJ
  have j1 := f1 1 (by omega) (by omega) (by omega)
  exact ⟨by rw [j1]; exact h1, by rw [j1]; exact h2, pastR_keep (fun _ _ _ => rfl) (f2 4 (by omega)) (f1 3 (by omega) (by omega) (by omega)) (by rw [j1]) h3, tapR_keep rfl rfl (f2 18 (by omega)) (f1 10 (by omega) (by omega) (by omega)) h4, fauR_keep rfl (f2 25 (by omega)) (f2 27 (by omega)) h5, imgR_keep (fun _ _ _ => rfl) rfl (f2 5 (by omega)) (f1 2 (by omega) (by omega) (by omega)) h6⟩
theorem round_both {M : Nat} (hN : 1000 ≤ N) (hM : 10 ≤ M) (h : RR I J) (v1 v2 v3 : Int32) : ∃ v J', fX9_round N M I v1 v2 v3 = some v ∧ fX10_round N M v1 v2 v3 J = some (v, J') ∧ RR I J' := by
  have hw := h.1
  have hP := hw.i.nPB
  rcases oN_or v1 (n := xr (J 1) 63) (by omega) with ho | ⟨p, hp, rfl⟩
  · refine ⟨mI, J, ?_, ?_, h⟩
    · unfold fX9_round
      exact e_cr (cv_hasPerson_o hw ho) (e_t rfl rfl)
    · unfold fX10_round
      exact e_cr (rv_isPerson_o hw.i ho) (e_t rfl rfl)
  have c1 := cv_hasPerson hw hp
  have r1 := rv_isPerson_t hw.i hp
  rcases oN_or v2 (n := 1023 + 1) (by omega) with ho | ⟨s, hs, rfl⟩
  · refine ⟨mI, J, ?_, ?_, h⟩
    · unfold fX9_round
      refine e_cr c1 (e_f (by decide) ?_)
      by_cases z : v2 < (0 : Int32)
      · exact e_t z rfl
      · refine e_f z (e_t ?_ rfl)
        rcases ho with ho | ho
        · exact absurd ho z
        · exact ho
    · unfold fX10_round
      exact e_cr r1 (e_f (by decide) (e_cr (rv_isIn_o (n := 1023) ho (by omega)) (e_f (fun z => z rfl) rfl)))
  have hin := rv_isIn_t (k := s) (n := 1023) (by omega) (by omega)
  have hcb := cv_bitCount (n := s) (by omega)
  have hrc := rv_count (N := N) (n := s) (by omega) (by omega)
  have hc16 := sct_le s
  have s0 : ¬ nI s < (0 : Int32) := nI_pos (by omega)
  have s1 : ¬ (1024 : Int32) ≤ nI s := by rw [show (1024 : Int32) = nI 1024 from rfl, xp_le (by omega) (by omega)]; omega
  have hle6 : (nI (sct s) ≤ (6 : Int32)) = (sct s ≤ 6) := xp_le (b := 6) (by omega) (by omega)
  have hlt6 : ((6 : Int32) < nI (sct s)) = (6 < sct s) := xp_ltI (a := 6) (by omega) (by omega)
  rcases Nat.lt_or_ge 6 (sct s) with hc | hc
  · refine ⟨mI, J, ?_, ?_, h⟩
    · unfold fX9_round
      exact e_cr c1 (e_f (by decide) (e_f s0 (e_f s1 (e_cr hcb (e_f (by rw [hle6]; omega) rfl)))))
    · unfold fX10_round
      exact e_cr r1 (e_f (by decide) (e_cr hin (e_t (by decide) (e_cr hrc (e_lt rfl (e_t (by rw [hlt6]; omega) rfl))))))
  have hc6 : nI (sct s) ≤ (6 : Int32) := by rw [hle6]; exact hc
  have hc6' : ¬ (6 : Int32) < nI (sct s) := by rw [hlt6]; omega
  have e1 : I 8 p = nI (xr (J 1) (32 + p)) := hw.at (by omega)
  have hat := hw.i.at (p := p) (by omega)
  have hatB := hw.i.atB (p := p) (by omega)
  -- the reference's search
  have hw6 : iW ((xc_wr J 0 35 (nI 1000000)) 1) := by rw [xp_wr_cell (by omega)]; exact hw.i
  obtain ⟨J', g1, g2, g3⟩ := rv_goes (N := N) hN 6 M 0 (xr (J 1) (32 + p)) s 0 0 1000000 (xc_wr J 0 35 (nI 1000000)) hw6 hc (by omega) (by omega) hatB (by omega) (by omega) (by omega) (xp_wr_s _ _ _ _)
  have e6 : (xc_wr J 0 35 (nI 1000000)) 1 = J 1 := xp_wr_cell (by omega)
  rw [e6] at g3
  have hml := mt_le hw.i 6 (xr (J 1) (32 + p)) s hatB
  unfold grE at g3
  rw [if_pos (by omega), Nat.zero_add] at g3
  obtain ⟨g4, _, g5⟩ := g3
  have hfr : grF J J' 0 := ⟨fun c c0 c14 c15 => by rw [g2.1 c c0 c14 c15, xp_wr_cell c0], fun k hk => by rw [g2.2.1 k hk, xp_wr_k hk], fun j hj => absurd hj (by omega)⟩
  have h54 : ∀ v3, bX10_round_54 N M (nI p) (nI s) v3 J = (if v3 ≠ (0 : Int32) then xc_rd 6 15 (v3 - 10) J' fun x9 => some (x9, J') else some ((J' 0 35), J')) := by
    intro v3
    unfold bX10_round_54
    refine e_mw rfl (e_rd (k := 32 + p) (nI_add 32 p) (by omega) (v := nI (xr (J 1) (32 + p))) ?_ (e_cv g1 rfl))
    show xc_wr J 0 35 (nI 1000000) 1 (32 + p) = _
    rw [e6]
    exact hat
  by_cases h0 : v3 = (0 : Int32)
  · refine ⟨nI (mt (J 1) 6 (xr (J 1) (32 + p)) s), J', ?_, ?_, RR_gr h hfr⟩
    · unfold fX9_round fX7_fewestMiles
      exact e_cr c1 (e_f (by decide) (e_f s0 (e_f s1 (e_cr hcb (e_t hc6 (e_rd (k := p) rfl (by omega) e1 (e_lt rfl (e_f (fun z => z h0) (e_cr (e_cr (cv_mt0 hw hN (by omega) hc hatB (by omega)) rfl) rfl)))))))))
    · unfold fX10_round
      refine e_cr r1 (e_f (by decide) (e_cr hin (e_t (by decide) (e_cr hrc (e_lt rfl (e_f hc6' (e_t h0 ((h54 v3).trans (e_f (fun z => z h0) ?_)))))))))
      rw [g4]
  -- another what
  have hcut : (∃ i, i < sct s ∧ v3 = nI (10 + i)) ∨ ((v3 < (10 : Int32) ∨ (¬ v3 < (10 : Int32) ∧ ¬ (v3 - 10) < nI (sct s))) ∧ (v3 < (10 : Int32) ∨ (9 : Int32) + nI (sct s) < v3)) := by
    by_cases z : v3 < (10 : Int32)
    · exact Or.inr ⟨Or.inl z, Or.inl z⟩
    · have z0 : ¬ v3 < (0 : Int32) := by
        intro y
        apply z
        have e0 : (0 : Int32).toInt = 0 := by decide
        have e10 : (10 : Int32).toInt = 10 := by decide
        rw [Int32.lt_iff_toInt_lt] at y ⊢
        omega
      obtain ⟨k, k1, rfl⟩ := i_nn z0
      have k2 : 10 ≤ k := by
        rw [show (10 : Int32) = nI 10 from rfl, xp_ltI (by omega) (by omega)] at z
        omega
      have e9 : (9 : Int32) + nI (sct s) = nI (9 + sct s) := nI_add 9 (sct s)
      by_cases hk : k - 10 < sct s
      · exact Or.inl ⟨k - 10, hk, congrArg nI (by omega)⟩
      · refine Or.inr ⟨Or.inr ⟨z, ?_⟩, Or.inr ?_⟩
        · rw [show (10 : Int32) = nI 10 from rfl, pk_sub k2, xp_ltI (by omega) (by omega)]
          exact hk
        · rw [e9, xp_ltI (by omega) (by omega)]
          omega
  rcases hcut with ⟨i, hi, rfl⟩ | ⟨hA, hB⟩
  · have e10 : nI (10 + i) - (10 : Int32) = nI i := by
      rw [show (10 : Int32) = nI 10 from rfl, pk_sub (by omega)]
      congr 1
      omega
    have n10 : ¬ nI (10 + i) < (10 : Int32) := by
      rw [show (10 : Int32) = nI 10 from rfl, xp_ltI (by omega) (by omega)]
      omega
    have hin2 : fX10_isIn (nI (10 + i)) 10 ((9 : Int32) + nI (sct s)) = some (nI 1) := by
      have := rv_isIn (v := 10 + i) (a := 10) (c := 9 + sct s) (by omega) (by omega) (by omega)
      rw [decide_eq_true (by omega)] at this
      rw [show (9 : Int32) + nI (sct s) = nI (9 + sct s) from nI_add 9 (sct s)]
      exact this
    refine ⟨nI (psS (J 1) (xr (J 1) (32 + p)) s (i + 1)).1, J', ?_, ?_, RR_gr h hfr⟩
    · unfold fX9_round
      refine e_cr c1 (e_f (by decide) (e_f s0 (e_f s1 (e_cr hcb (e_t hc6 (e_rd (k := p) rfl (by omega) e1 (e_lt rfl (e_t h0 (e_f n10 (e_cr hcb (e_t ?_ (e_cr ?_ rfl))))))))))))
      · rw [e10, xp_ltI (by omega) (by omega)]
        exact hi
      · rw [e10]
        exact cv_placeOn hw hN (by omega) hc hatB (by omega) hi
    · unfold fX10_round
      refine e_cr r1 (e_f (by decide) (e_cr hin (e_t (by decide) (e_cr hrc (e_lt rfl (e_f hc6' (e_f h0 (e_cr hin2 (e_t (by decide) ((h54 _).trans (e_t h0 (e_rd (k := i) e10 (by omega) ?_ rfl))))))))))))
      have := g5 i hi
      rw [Nat.zero_add] at this
      exact this
  · refine ⟨mI, J, ?_, ?_, h⟩
    · unfold fX9_round
      refine e_cr c1 (e_f (by decide) (e_f s0 (e_f s1 (e_cr hcb (e_t hc6 (e_rd (k := p) rfl (by omega) e1 (e_lt rfl (e_t h0 ?_))))))))
      rcases hA with z | ⟨z, z2⟩
      · exact e_t z rfl
      · exact e_f z (e_cr hcb (e_f z2 rfl))
    · unfold fX10_round
      refine e_cr r1 (e_f (by decide) (e_cr hin (e_t (by decide) (e_cr hrc (e_lt rfl (e_f hc6' (e_f h0 (e_cr (v := nI 0) ?_ (e_f (fun z => z rfl) rfl)))))))))
      unfold fX10_isIn
      rcases hB with z | z
      · exact e_t z rfl
      · by_cases y : v3 < (10 : Int32)
        · exact e_t y rfl
        · exact e_f y (e_t z rfl)
end
