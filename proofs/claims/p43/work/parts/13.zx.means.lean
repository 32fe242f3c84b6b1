-- ===== the reference reads MEANINGS =====
section
variable {N M n : Nat} {t : Nat} {c : Nat → Nat} {I J J' : xc_M} {k v R : Nat} {L : List (Nat × Nat)} {s : List Nat}
/-- but for the numbers from l to l + 7 of the wordings -/
def frW (l : Nat) (J J' : xc_M) : Prop := (∀ a, a ≠ 0 → a ≠ 8 → J' a = J a) ∧ (∀ q, q ≠ 28 → q < 19 ∨ 24 < q → J' 0 q = J 0 q) ∧ ∀ j, j < l ∨ l + 7 ≤ j → J' 8 j = J 8 j
theorem word_run (hN : 1000 ≤ N) {nW l cnt : Nat} {wd : Nat → Nat} (hW : nW < 15) (hl : l + 7 ≤ 420) (hc : cnt ≤ 6) (hwd : ∀ q, q < cnt → wd q < nW) (hk : k ≠ 2) : ∀ d i f (J : xc_M), i + d = cnt → (i = 0 → 0 < d) → d < f → J 1 62 = nI nW → (∀ q, q < i → J 8 (l + (1 + q)) = nI (wd q)) → psL c t 0 J (remT (fun q => [(2, wd q)]) i d ++ (k, v) :: L) → ∃ J', lX10_aWording_4 N f (nI l) (nI i) (nI (if d = 0 then 0 else 1)) J = some (nI 1, J') ∧ psL c t 0 J' ((k, v) :: L) ∧ J' 8 l = nI cnt ∧ (∀ q, q < cnt → J' 8 (l + (1 + q)) = nI (wd q)) ∧ frW l J J' := by
  intro d
  induction d with
  | zero =>
    intro i f J hi _ hf h62 hrow h
    obtain ⟨g, rfl⟩ : ∃ g, f = g + 1 := ⟨f - 1, by omega⟩
    have e : i = cnt := by omega
    subst e
    have h' : psL c t 0 J ((k, v) :: L) := h
    refine ⟨xc_wr J 8 l (nI i), ?_, psL_keep h' (xp_wr_cell (by omega)) (fun q hq => by rw [xp_wr_cell (by omega)]), xp_wr_s _ _ _ _, fun q hq => by rw [xp_wr_k (by omega)]; exact hrow q hq, ⟨fun a _ a2 => xp_wr_cell a2, fun q _ _ => by rw [xp_wr_cell (by omega)], fun j hj => xp_wr_k (by omega)⟩⟩
    rw [lX10_aWording_4, bX10_aWording_4]
    exact e_t rfl (e_st (k := l) rfl (by omega) rfl rfl)
  | succ d ih =>
    intro i f J hi _ hf h62 hrow h
    obtain ⟨g, rfl⟩ : ∃ g, f = g + 1 := ⟨f - 1, by omega⟩
    have h' : psL c t 0 J ((2, wd i) :: (remT (fun q => [(2, wd q)]) (i + 1) d ++ (k, v) :: L)) := h
    obtain ⟨ht, -⟩ := psL_tok h'
    obtain ⟨hv, -⟩ := psL_val h'
    have hwi := hwd i (by omega)
    obtain ⟨J1, a1, a2, a3, a4⟩ := num_run hN h' (lo := 0) (hi := nI nW - 1) (rv_isN_t (by omega) hwi)
    obtain ⟨J2, hJ2⟩ : ∃ J2, xc_wr J1 8 (l + (1 + i)) (nI (wd i)) = J2 := ⟨_, rfl⟩
    have s2 : psL c t 0 J2 (remT (fun q => [(2, wd q)]) (i + 1) d ++ (k, v) :: L) := by rw [← hJ2]; exact psL_keep a2 (xp_wr_cell (by omega)) (fun q hq => by rw [xp_wr_cell (by omega)])
    have m2 : ∀ a, a ≠ 0 → a ≠ 8 → J2 a = J a := fun a b1 b2 => by rw [← hJ2, xp_wr_cell b2, a4.1 a b1]
    have r2 : ∀ j, j ≠ l + (1 + i) → J2 8 j = J 8 j := fun j hj => by rw [← hJ2, xp_wr_k hj, a4.1 8 (by omega)]
    obtain ⟨J3, g1, g2, g3, g4, g5⟩ := ih (i + 1) g J2 (by omega) (by omega) (by omega) (by rw [m2 1 (by omega) (by omega)]; exact h62) (fun q hq => by
      by_cases e : q = i
      · rw [e, ← hJ2, xp_wr_s]
      · rw [r2 _ (by omega)]
        exact hrow q (by omega)) s2
    refine ⟨J3, ?_, g2, g3, g4, ⟨fun a b1 b2 => (g5.1 a b1 b2).trans (m2 a b1 b2), fun q b1 b2 => ?_, fun j hj => (g5.2.2 j hj).trans (r2 j (by omega))⟩⟩
    · have h39 : bX10_aWording_39 N (lX10_aWording_4 N g) (nI l) (nI i) J = some (nI 1, J3) := by
        unfold bX10_aWording_39
        refine e_rd (k := 62) rfl (by omega) h62 (e_cl a1 (e_t (by decide) (e_st (k := l + (1 + i)) ?_ (by omega) a3 ?_)))
        · rw [show (nI l + 1 : Int32) = nI (l + 1) from nI_add l 1, nI_add]
          congr 1
          omega
        · rw [hJ2]
          refine e_lt (v := nI (i + 1)) (nI_add i 1) ?_
          by_cases hd0 : d = 0
          · subst hd0
            have s2' : psL c t 0 J2 ((k, v) :: L) := s2
            obtain ⟨ht2, h200⟩ := psL_tok s2'
            have q2 := tm_eq (rd := 0) (a := 2) (b := 2) (by decide +kernel) (by omega) h200 (by omega)
            refine e_t ?_ ?_
            · rw [ht2, show (2 : Int32) = nI 2 from rfl, ne_eq, q2]
              exact hk
            · unfold bX10_aWording_88
              exact e_lt rfl g1
          · obtain ⟨d', rfl⟩ : ∃ d', d = d' + 1 := ⟨d - 1, by omega⟩
            have s2' : psL c t 0 J2 ((2, wd (i + 1)) :: (remT (fun q => [(2, wd q)]) (i + 1 + 1) d' ++ (k, v) :: L)) := s2
            obtain ⟨ht2, -⟩ := psL_tok s2'
            refine e_f (fun z => z (ht2.trans rfl)) ?_
            unfold bX10_aWording_88
            exact e_lt rfl g1
      rw [lX10_aWording_4, bX10_aWording_4]
      refine e_f (by rw [if_neg (by omega)]; decide) (e_f (fun z => z (ht.trans rfl)) ?_)
      have hisW : fX10_isWord J (J 0 22) = some (nI 1) := by
        rw [hv]
        unfold fX10_isWord
        exact e_rd (k := 62) rfl (by omega) h62 (e_cr (rv_isN_t (by omega) hwi) (e_rb (Or.inr rfl) rfl))
      refine e_cr hisW (e_f (by decide) (e_t ?_ h39))
      rw [show (6 : Int32) = nI 6 from rfl, ne_eq, xp_eq (by omega) (by omega)]
      omega
    · rw [g5.2.1 q b1 b2, ← hJ2, xp_wr_cell (by omega), a4.2 q b1 b2]
/-- wording i of a meaning: or ahead, but of the first -/
def wyTk (cn : Nat → Nat) (wd : Nat → Nat → Nat) (i : Nat) : List (Nat × Nat) := (if i = 0 then [] else [(101, 0)]) ++ remT (fun q => [(2, wd i q)]) 0 (cn i)
/-- but for meaning R's wordings -/
def frV (R : Nat) (J J' : xc_M) : Prop := (∀ a, a ≠ 0 → a ≠ 7 → a ≠ 8 → J' a = J a) ∧ (∀ q, q ≠ 28 → q ≠ 17 → q < 19 ∨ 24 < q → J' 0 q = J 0 q) ∧ (∀ j, j < 42 * R → J' 8 j = J 8 j) ∧ ∀ j, j < R → J' 7 j = J 7 j
theorem ways_run (hN : 1000 ≤ N) {nW nw : Nat} {cn : Nat → Nat} {wd : Nat → Nat → Nat} (hW : nW < 15) (hR : R < 10) (hnw : nw ≤ 6) (hcn : ∀ i, i < nw → 1 ≤ cn i ∧ cn i ≤ 6) (hwd : ∀ i, i < nw → ∀ q, q < cn i → wd i q < nW) : ∀ d i f (J : xc_M), i + (d + 1) = nw → d + 1 < f → J 1 62 = nI nW → J 0 17 = nI R → (∀ l, l < i → J 8 (42 * R + 7 * l) = nI (cn l) ∧ ∀ q, q < cn l → J 8 (42 * R + 7 * l + (1 + q)) = nI (wd l q)) → psL c t 0 J (remT (fun q => [(2, wd i q)]) 0 (cn i) ++ (remT (wyTk cn wd) (i + 1) d ++ (59, 0) :: L)) → ∃ J', lX10_aMeaning_38 N f (nI i) (nI 1) J = some (nI 1, J') ∧ psL c t 0 J' L ∧ J' 0 17 = nI (R + 1) ∧ J' 7 R = nI nw ∧ (∀ l, l < nw → J' 8 (42 * R + 7 * l) = nI (cn l) ∧ ∀ q, q < cn l → J' 8 (42 * R + 7 * l + (1 + q)) = nI (wd l q)) ∧ frV R J J' := by
  intro d
  induction d with
  | zero =>
    intro i f J hi hf h62 h17 hrow h
    obtain ⟨g, rfl⟩ : ∃ g, f = g + 2 := ⟨f - 2, by omega⟩
    have h' : psL c t 0 J (remT (fun q => [(2, wd i q)]) 0 (cn i) ++ (59, 0) :: L) := h
    obtain ⟨c1, c6⟩ := hcn i (by omega)
    obtain ⟨J1, a1, a2, a3, a4, a5⟩ := word_run hN (l := 42 * R + 7 * i) hW (by omega) c6 (hwd i (by omega)) (by omega) (cn i) 0 N J (by omega) (fun _ => c1) (by omega) h62 (fun q hq => absurd hq (by omega)) h'
    rw [if_neg (by omega)] at a1
    have e17 : J1 0 17 = nI R := by rw [a5.2.1 17 (by omega) (by omega)]; exact h17
    obtain ⟨ht, h200⟩ := psL_tok a2
    have s2 : psL c t 0 (xc_wr (xc_wr J1 7 R (nI (i + 1))) 0 17 (nI (R + 1))) ((59, 0) :: L) := psL_w17 (psL_keep a2 (xp_wr_cell (by omega)) (fun q hq => by rw [xp_wr_cell (by omega)])) _
    obtain ⟨J3, x1, x2, x3⟩ := need_run hN s2 (by omega)
    have e : i + 1 = nw := by omega
    have k8 : ∀ j, J3 8 j = J1 8 j := fun j => by rw [x3.1 8 (by omega), xp_wr_cell (by omega), xp_wr_cell (by omega)]
    refine ⟨J3, ?_, x2, by rw [x3.2 17 (by omega) (by omega) (by omega) (by omega), xp_wr_s], by rw [x3.1 7 (by omega), xp_wr_cell (by omega), xp_wr_s, e], fun l hl => ?_, ⟨fun a b1 b2 b3 => ?_, fun q b1 b2 b3 => ?_, fun j hj => ?_, fun j hj => ?_⟩⟩
    · rw [lX10_aMeaning_38, bX10_aMeaning_38]
      refine e_f (by decide) (e_cl (v := nI 1) (J := J1) ?_ (e_t (by decide) (e_lt (v := nI (i + 1)) (nI_add i 1) (e_t ?_ ?_))))
      · rw [h17, show ((42 : Int32) * nI R) = nI (42 * R) from pk_mul 42 R, show ((7 : Int32) * nI i) = nI (7 * i) from pk_mul 7 i, nI_add]
        unfold fX10_aWording
        exact e_lt rfl (e_lt rfl a1)
      · rw [ht]
        decide
      · unfold bX10_aMeaning_79
        refine e_lt rfl (e_t rfl ?_)
        unfold bX10_aMeaning_96
        refine e_t rfl ?_
        rw [lX10_aMeaning_38, bX10_aMeaning_38]
        refine e_t rfl (e_st (k := R) e17 (by omega) rfl (e_mw (v := nI (R + 1)) ?_ (e_cl x1 rfl)))
        rw [xp_wr_cell (by omega), e17]
        exact nI_add R 1
    · by_cases el : l = i
      · subst el
        refine ⟨by rw [k8]; exact a3, fun q hq => by rw [k8]; exact a4 q hq⟩
      · obtain ⟨u1, u2⟩ := hrow l (by omega)
        refine ⟨by rw [k8, a5.2.2 _ (by omega)]; exact u1, fun q hq => ?_⟩
        have := (hcn l (by omega)).2
        rw [k8, a5.2.2 _ (by omega)]
        exact u2 q hq
    · rw [x3.1 a b1, xp_wr_cell b1, xp_wr_cell b2, a5.1 a b1 b3]
    · rw [x3.2 q (by omega) (by omega) (by omega) (by omega), xp_wr_k b2, xp_wr_cell (by omega), a5.2.1 q b1 b3]
    · rw [k8, a5.2.2 _ (by omega)]
    · rw [x3.1 7 (by omega), xp_wr_cell (by omega), xp_wr_k (by omega), a5.1 7 (by omega) (by omega)]
  | succ d ih =>
    intro i f J hi hf h62 h17 hrow h
    obtain ⟨g, rfl⟩ : ∃ g, f = g + 1 := ⟨f - 1, by omega⟩
    have h' : psL c t 0 J (remT (fun q => [(2, wd i q)]) 0 (cn i) ++ (101, 0) :: (remT (fun q => [(2, wd (i + 1) q)]) 0 (cn (i + 1)) ++ (remT (wyTk cn wd) (i + 1 + 1) d ++ (59, 0) :: L))) := by
      have e : remT (wyTk cn wd) (i + 1) (d + 1) ++ (59, 0) :: L = (101, 0) :: (remT (fun q => [(2, wd (i + 1) q)]) 0 (cn (i + 1)) ++ (remT (wyTk cn wd) (i + 1 + 1) d ++ (59, 0) :: L)) := by
        show (wyTk cn wd (i + 1) ++ remT (wyTk cn wd) (i + 1 + 1) d) ++ (59, 0) :: L = _
        unfold wyTk
        rw [if_neg (by omega)]
        simp only [List.cons_append, List.append_assoc, List.nil_append]
      rw [← e]
      exact h
    obtain ⟨c1, c6⟩ := hcn i (by omega)
    obtain ⟨J1, a1, a2, a3, a4, a5⟩ := word_run hN (l := 42 * R + 7 * i) hW (by omega) c6 (hwd i (by omega)) (by omega) (cn i) 0 N J (by omega) (fun _ => c1) (by omega) h62 (fun q hq => absurd hq (by omega)) h'
    rw [if_neg (by omega)] at a1
    have e17 : J1 0 17 = nI R := by rw [a5.2.1 17 (by omega) (by omega)]; exact h17
    obtain ⟨ht, h200⟩ := psL_tok a2
    obtain ⟨J2, b1, b2, b3⟩ := psL_nx hN a2 (by omega)
    obtain ⟨J3, g1, g2, g3, g4, g5, g6⟩ := ih (i + 1) g J2 (by omega) (by omega) (by rw [b2.1 1 (by omega), a5.1 1 (by omega) (by omega)]; exact h62) (by rw [b2.2 17 (by omega) (by omega) (by omega) (by omega)]; exact e17) (fun l hl => by
      by_cases el : l = i
      · subst el
        refine ⟨by rw [b2.1 8 (by omega)]; exact a3, fun q hq => by rw [b2.1 8 (by omega)]; exact a4 q hq⟩
      · obtain ⟨u1, u2⟩ := hrow l (by omega)
        refine ⟨by rw [b2.1 8 (by omega), a5.2.2 _ (by omega)]; exact u1, fun q hq => ?_⟩
        have := (hcn l (by omega)).2
        rw [b2.1 8 (by omega), a5.2.2 _ (by omega)]
        exact u2 q hq) b3
    refine ⟨J3, ?_, g2, g3, g4, g5, ⟨fun a y1 y2 y3 => ?_, fun q y1 y2 y3 => ?_, fun j hj => ?_, fun j hj => ?_⟩⟩
    · rw [lX10_aMeaning_38, bX10_aMeaning_38]
      refine e_f (by decide) (e_cl (v := nI 1) (J := J1) ?_ (e_t (by decide) (e_lt (v := nI (i + 1)) (nI_add i 1) (e_f (fun z => z (ht.trans rfl)) ?_))))
      · rw [h17, show ((42 : Int32) * nI R) = nI (42 * R) from pk_mul 42 R, show ((7 : Int32) * nI i) = nI (7 * i) from pk_mul 7 i, nI_add]
        unfold fX10_aWording
        exact e_lt rfl (e_lt rfl a1)
      · unfold bX10_aMeaning_79
        refine e_lt rfl (e_f (by decide) (e_t ?_ ?_))
        · rw [show (6 : Int32) = nI 6 from rfl, ne_eq, xp_eq (by omega) (by omega)]
          omega
        · unfold bX10_aMeaning_96
          exact e_f (by decide) (e_cv b1 g1)
    · rw [g6.1 a y1 y2 y3, b2.1 a y1, a5.1 a y1 y3]
    · rw [g6.2.1 q y1 y2 y3, b2.2 q (by omega) (by omega) (by omega) (by omega), a5.2.1 q y1 y3]
    · rw [g6.2.2.1 j hj, b2.1 8 (by omega), a5.2.2 _ (by omega)]
    · rw [g6.2.2.2 j hj, b2.1 7 (by omega), a5.1 7 (by omega) (by omega)]
def mnTk (nw : Nat) (cn : Nat → Nat) (wd : Nat → Nat → Nat) : List (Nat × Nat) := (100, 0) :: (remT (wyTk cn wd) 0 nw ++ [(59, 0)])
theorem mean_all (hN : 1000 ≤ N) {nW nw : Nat} {cn : Nat → Nat} {wd : Nat → Nat → Nat} (h62 : J 1 62 = nI nW) (hW : nW < 15) (hR : R < 10) (h1 : 1 ≤ nw) (hnw : nw ≤ 6) (hcn : ∀ i, i < nw → 1 ≤ cn i ∧ cn i ≤ 6) (hwd : ∀ i, i < nw → ∀ q, q < cn i → wd i q < nW) (h17 : J 0 17 = nI R) (h : psL c t 0 J (mnTk nw cn wd ++ L)) : ∃ J', fX10_aMeaning N J = some (nI 1, J') ∧ psL c t 0 J' L ∧ J' 0 17 = nI (R + 1) ∧ J' 7 R = nI nw ∧ (∀ l, l < nw → J' 8 (42 * R + 7 * l) = nI (cn l) ∧ ∀ q, q < cn l → J' 8 (42 * R + 7 * l + (1 + q)) = nI (wd l q)) ∧ frV R J J' := by
  obtain ⟨m, rfl⟩ : ∃ m, nw = m + 1 := ⟨nw - 1, by omega⟩
  have h' : psL c t 0 J ((100, 0) :: (remT (fun q => [(2, wd 0 q)]) 0 (cn 0) ++ (remT (wyTk cn wd) (0 + 1) m ++ (59, 0) :: L))) := by
    have e : mnTk (m + 1) cn wd ++ L = (100, 0) :: (remT (fun q => [(2, wd 0 q)]) 0 (cn 0) ++ (remT (wyTk cn wd) (0 + 1) m ++ (59, 0) :: L)) := by
      show (100, 0) :: (((wyTk cn wd 0 ++ remT (wyTk cn wd) (0 + 1) m) ++ [(59, 0)]) ++ L) = _
      have e0 : wyTk cn wd 0 = remT (fun q => [(2, wd 0 q)]) 0 (cn 0) := by
        unfold wyTk
        rw [if_pos rfl, List.nil_append]
      rw [e0]
      simp only [List.append_assoc, List.cons_append, List.nil_append]
    rw [← e]
    exact h
  obtain ⟨ht, -⟩ := psL_tok h'
  obtain ⟨J1, a1, a2, a3⟩ := psL_nx hN h' (by omega)
  obtain ⟨J2, g1, g2, g3, g4, g5, g6⟩ := ways_run hN hW hR hnw hcn hwd m 0 N J1 (by omega) (by omega) (by rw [a2.1 1 (by omega)]; exact h62) (by rw [a2.2 17 (by omega) (by omega) (by omega) (by omega)]; exact h17) (fun l hl => absurd hl (by omega)) a3
  refine ⟨J2, ?_, g2, g3, g4, g5, ⟨fun a y1 y2 y3 => by rw [g6.1 a y1 y2 y3, a2.1 a y1], fun q y1 y2 y3 => by rw [g6.2.1 q y1 y2 y3, a2.2 q (by omega) (by omega) (by omega) (by omega)], fun j hj => by rw [g6.2.2.1 j hj, a2.1 8 (by omega)], fun j hj => by rw [g6.2.2.2 j hj, a2.1 7 (by omega)]⟩⟩
  unfold fX10_aMeaning
  refine e_t (ht.trans rfl) (e_t ?_ (e_cv a1 (e_lt rfl (e_lt rfl g1))))
  rw [h17, show (10 : Int32) = nI 10 from rfl, ne_eq, xp_eq (by omega) (by omega)]
  omega
-- the pieces
def wyPc (cn : Nat → Nat) (wd : Nat → Nat → Nat) (i : Nat) : List Pc := (if i = 0 then [] else pc1) ++ remT (fun q => pc2 ++ [(1, wd i q, [])]) 0 (cn i)
def mnPc (nw : Nat) (cn : Nat → Nat) (wd : Nat → Nat → Nat) : List Pc := pc0 ++ (remT (wyPc cn wd) 0 nw ++ pc3)
theorem wy_tks (cn : Nat → Nat) (wd : Nat → Nat → Nat) (i : Nat) : tks (wyPc cn wd i) = wyTk cn wd i := by
  unfold wyPc wyTk
  rw [tks_a, tks_rem]
  have e1 : tks (if i = 0 then [] else pc1) = if i = 0 then [] else [(101, 0)] := by
    split
    · rfl
    · exact pc1_t
  have e2 : remT (fun q => tks (pc2 ++ [(1, wd i q, [])])) 0 (cn i) = remT (fun q => [(2, wd i q)]) 0 (cn i) := remT_cong (n := cn i) (fun q _ => by
    rw [tks_a, pc2_t]
    rfl) (cn i) 0 (by omega)
  rw [e1, e2]
theorem mn_tks (nw : Nat) (cn : Nat → Nat) (wd : Nat → Nat → Nat) : tks (mnPc nw cn wd) = mnTk nw cn wd := by
  unfold mnPc mnTk
  rw [tks_a, tks_a, tks_rem, pc0_t, pc3_t, remT_cong (n := nw) (g := wyTk cn wd) (fun i _ => wy_tks cn wd i) nw 0 (by omega)]
  rfl
/-- behind letters or digits, a row of words that ends with digits -/
theorem wds_wf (wd : Nat → Nat) : ∀ d i l, wfB l (remT (fun q => pc2 ++ [(1, wd q, [])]) i d) = true ∧ stB l (remT (fun q => pc2 ++ [(1, wd q, [])]) i d) = if d = 0 then l else 2 := by
  intro d
  induction d with
  | zero => exact fun _ _ => ⟨rfl, rfl⟩
  | succ d ih =>
    intro i l
    obtain ⟨h1, h2⟩ := ih (i + 1) 2
    have e : wfB l (pc2 ++ [(1, wd i, [])]) = true := rfl
    have e2 : stB l (pc2 ++ [(1, wd i, [])]) = 2 := rfl
    refine ⟨wf_app e e2 h1, ?_⟩
    show stB l ((pc2 ++ [(1, wd i, [])]) ++ remT (fun q => pc2 ++ [(1, wd q, [])]) (i + 1) d) = _
    rw [st_app, e2, h2, if_neg (show ¬ d + 1 = 0 by omega)]
    split <;> rfl
theorem wys_wf (cn : Nat → Nat) (wd : Nat → Nat → Nat) {n : Nat} (hcn : ∀ i, i < n → 1 ≤ cn i) : ∀ d i l, i + d ≤ n → (l = 2 ∨ (l = 1 ∧ i = 0)) → wfB l (remT (wyPc cn wd) i d) = true ∧ stB l (remT (wyPc cn wd) i d) = if d = 0 then l else 2 := by
  intro d
  induction d with
  | zero => exact fun _ _ _ _ => ⟨rfl, rfl⟩
  | succ d ih =>
    intro i l hi hl
    have hc := hcn i (by omega)
    have e : wfB l (wyPc cn wd i) = true ∧ stB l (wyPc cn wd i) = 2 := by
      unfold wyPc
      by_cases h0 : i = 0
      · rw [if_pos h0, List.nil_append]
        obtain ⟨x1, x2⟩ := wds_wf (wd i) (cn i) 0 l
        exact ⟨x1, by rw [x2, if_neg (by omega)]⟩
      · rw [if_neg h0]
        have l2 : l = 2 := by omega
        subst l2
        obtain ⟨x1, x2⟩ := wds_wf (wd i) (cn i) 0 1
        exact ⟨wf_app pc1_w2 pc1_s2 x1, by rw [st_app, pc1_s2, x2, if_neg (by omega)]⟩
    obtain ⟨h1, h2⟩ := ih (i + 1) 2 (by omega) (Or.inl rfl)
    refine ⟨wf_app e.1 e.2 h1, ?_⟩
    show stB l (wyPc cn wd i ++ remT (wyPc cn wd) (i + 1) d) = _
    rw [st_app, e.2, h2, if_neg (show ¬ d + 1 = 0 by omega)]
    split <;> rfl
theorem mn_wf {nw : Nat} {cn : Nat → Nat} {wd : Nat → Nat → Nat} (h1 : 1 ≤ nw) (hcn : ∀ i, i < nw → 1 ≤ cn i) : wfB 0 (mnPc nw cn wd) = true ∧ stB 0 (mnPc nw cn wd) = 0 := by
  obtain ⟨x1, x2⟩ := wys_wf cn wd hcn nw 0 1 (by omega) (Or.inr ⟨rfl, rfl⟩)
  rw [if_neg (by omega)] at x2
  refine ⟨wf_app pc0_w0 pc0_s0 (wf_app x1 x2 pc3_w2), ?_⟩
  unfold mnPc
  rw [st_app, pc0_s0, st_app, x2, pc3_s2]
theorem mn_nm {nw : Nat} {cn : Nat → Nat} {wd : Nat → Nat → Nat} (hwd : ∀ i, i < nw → ∀ q, q < cn i → wd i q < 1000) : nmB (mnPc nw cn wd) := by
  refine nm_app pc0_n (nm_app (nm_rem (n := nw) (fun i hi => ?_) nw 0 (by omega)) pc3_n)
  refine nm_app ?_ (nm_rem (n := cn i) (fun q hq => nm_app pc2_n (nm_num (hwd i hi q hq) (fun p hp => absurd hp (List.not_mem_nil)))) (cn i) 0 (by omega))
  split
  · exact fun p hp => absurd hp (List.not_mem_nil)
  · exact pc1_n
theorem c_text0 (hN : 1000 ≤ N) (hM : 60 ≤ M) (h : RR I J) (hn : n ≤ 7) {nw : Nat → Nat} {cn : Nat → Nat → Nat} {wd : Nat → Nat → Nat → Nat} (hb : ∀ m, m < n → 1 ≤ nw m ∧ nw m ≤ 3 ∧ ∀ i, i < nw m → 1 ≤ cn m i ∧ cn m i ≤ 4 ∧ ∀ q, q < cn m i → wd m i q < xr (J 1) 62) (hs : s = rnd (remT (fun m => mnPc (nw m) (cn m) (wd m)) 0 n)) (hT : TQ s.length (txc s) J) : ∃ I2 J2, fX9_text N M 0 I = some (nI n, I2) ∧ RR I2 J2 ∧ (∀ j, j ≠ 66 → j ≠ 68 → j < 198 ∨ 628 ≤ j → J2 1 j = J 1 j) ∧ J2 1 66 = nI n ∧ J2 1 68 = nI 0 ∧ (∀ m, m < n → J2 1 (198 + m) = nI (nw m) ∧ ∀ i, i < nw m → J2 1 (208 + 42 * m + 7 * i) = nI (cn m i) ∧ ∀ q, q < cn m i → J2 1 (208 + 42 * m + 7 * i + (1 + q)) = nI (wd m i q)) ∧ J2 0 18 = nI 0 ∧ J2 0 4 = J 0 4 ∧ J2 3 = J 3 := by
  have hw := h.1.i
  have hW := hw.nWB
  obtain ⟨v, I2, J2, g1, g2, g3⟩ := text_both hN hM h 0
  obtain ⟨J7, q1, q2, q3, q4, -⟩ := tx_pre (M := M) hN (show 0 < 4 by omega) hs (wf_rem (n := n) (fun m hm => (mn_wf (hb m hm).1 (fun i hi => ((hb m hm).2.2 i hi).1)).1) (fun m hm => (mn_wf (hb m hm).1 (fun i hi => ((hb m hm).2.2 i hi).1)).2) n 0 (by omega)) (nm_rem (n := n) (fun m hm => mn_nm (fun i hi q hq => by have := ((hb m hm).2.2 i hi).2.2 q hq; omega)) n 0 (by omega)) hT
  rw [tks_rem, remT_cong (n := n) (g := fun m => mnTk (nw m) (cn m) (wd m)) (fun m hm => mn_tks _ _ _) n 0 (by omega)] at q2
  have w7 : J7 1 = J 1 := q3 1 (by omega)
  obtain ⟨J8, r1, r2, r3, r4, r5⟩ := rows_run2 (N := N) (n := n) (Or.inl rfl) (k0 := 100) (fun m => mnTk (nw m) (cn m) (wd m)) (fun m _ => ⟨0, _, rfl⟩) ⟨by decide, by decide⟩ (fun m K => K 0 17 = nI m ∧ (∀ a, a ≠ 0 → a ≠ 7 → a ≠ 8 → K a = J7 a) ∧ (∀ q, q ≠ 28 → q ≠ 17 → q < 19 ∨ 24 < q → K 0 q = J7 0 q) ∧ ∀ l, l < m → K 7 l = nI (nw l) ∧ ∀ i, i < nw l → K 8 (42 * l + 7 * i) = nI (cn l i) ∧ ∀ q, q < cn l i → K 8 (42 * l + 7 * i + (1 + q)) = nI (wd l i q)) (by
    intro m K L hm hL hv
    obtain ⟨v1, v2, v3, v4⟩ := hv
    obtain ⟨b1, b2, b3⟩ := hb m hm
    have k1 : K 1 = J 1 := (v2 1 (by omega) (by omega) (by omega)).trans w7
    obtain ⟨K', x1, x2, x3, x4, x5, x6⟩ := mean_all hN (nW := xr (J 1) 62) (by rw [k1]; exact hw.nW) hW (R := m) (by omega) b1 (by omega) (fun i hi => ⟨(b3 i hi).1, by have := (b3 i hi).2.1; omega⟩) (fun i hi => (b3 i hi).2.2) v1 hL
    refine ⟨K', x1, x2, x3, fun a a1 a2 a3 => (x6.1 a a1 a2 a3).trans (v2 a a1 a2 a3), fun q y1 y2 y3 => (x6.2.1 q y1 y2 y3).trans (v3 q y1 y2 y3), fun l hl => ?_⟩
    by_cases e : l = m
    · subst e
      exact ⟨x4, x5⟩
    · obtain ⟨u1, u2⟩ := v4 l (by omega)
      have hnl := (hb l (by omega)).2.1
      refine ⟨by rw [x6.2.2.2 l (by omega)]; exact u1, fun i hi => ?_⟩
      obtain ⟨u3, u4⟩ := u2 i hi
      refine ⟨by rw [x6.2.2.1 _ (by omega)]; exact u3, fun q hq => ?_⟩
      have hcl := ((hb l (by omega)).2.2 i hi).2.1
      rw [x6.2.2.1 _ (by omega)]
      exact u4 q hq) n 0 N (xc_wr J7 0 17 (nI 0)) (by omega) (by omega) (psL_w17 q2 _) ⟨xp_wr_s _ _ _ _, fun a a1 _ _ => xp_wr_cell a1, fun q _ y2 _ => xp_wr_k y2, fun l hl => absurd hl (by omega)⟩
  obtain ⟨J9, y1, y2, y3, y4, y5, y6, y7⟩ := rv_putsMeans (J := xc_wr J8 0 18 (nI 0)) hN (R := n) (by omega) (by rw [xp_wr_k (by omega)]; exact r2)
  have hq : fX10_text N M 0 J = some (nI n, J9) := by
    refine q1 _ ?_
    refine e_t (by decide) (e_cl (v := nI 1) (J := J8) ?_ ?_)
    · unfold fX10_readsRows
      exact e_mw rfl (e_lt rfl r1)
    · unfold bX10_text_61
      refine e_lt rfl (e_mw rfl (e_f (by decide) (e_cl (v := nI n) (J := J9) ?_ rfl)))
      unfold fX10_putsText
      exact e_t rfl (e_cl y1 rfl)
  obtain ⟨z1, z2⟩ := some_det2 g2 hq
  subst z1 z2
  have w8 : J8 1 = J 1 := (r3 1 (by omega) (by omega) (by omega)).trans w7
  refine ⟨I2, J2, g1, g3, fun j j1 j2 j3 => ?_, y4, y5, fun m hm => ?_, ?_, ?_, ?_⟩
  · rw [y3 j j1 j2 j3, xp_wr_cell (by omega), w8]
  · obtain ⟨u1, u2⟩ := r5 m hm
    have hnl := (hb m hm).2.1
    refine ⟨by rw [y6 m hm, xp_wr_cell (by omega)]; exact u1, fun i hi => ?_⟩
    obtain ⟨u3, u4⟩ := u2 i hi
    have hcl := ((hb m hm).2.2 i hi).2.1
    refine ⟨?_, fun q hq => ?_⟩
    · rw [show 208 + 42 * m + 7 * i = 208 + (42 * m + 7 * i) by omega, y7 _ (by omega), xp_wr_cell (by omega)]
      exact u3
    · rw [show 208 + 42 * m + 7 * i + (1 + q) = 208 + (42 * m + 7 * i + (1 + q)) by omega, y7 _ (by omega), xp_wr_cell (by omega)]
      exact u4 q hq
  · rw [y2 0 (by omega), xp_wr_s]
  · rw [y2 0 (by omega), xp_wr_k (by omega), r4 4 (by omega) (by omega) (by omega)]
    exact q4 4 (by omega) (by omega) (by omega)
  · rw [y2 3 (by omega), xp_wr_cell (by omega), r3 3 (by omega) (by omega) (by omega)]
    exact q3 3 (by omega)
end
