-- ===== texts: numbers; wordings =====
def fr3 (J J' : xc_M) : Prop := (∀ a, a ≠ 0 → J' a = J a) ∧ ∀ k, k ≠ 28 → k < 19 ∨ 24 < k → J' 0 k = J 0 k
theorem fr3_2 {J J' : xc_M} (h : fr2 J J') : fr3 J J' := ⟨h.1, fun k _ k2 => h.2 k k2⟩
section
variable {N t rd : Nat} {c : Nat → Nat} {I J : xc_M} {x y : Tok} {r T : List Tok}
theorem num_sim (hN : 1000 ≤ N) (h2 : tmc rd 2 2 = true) {lo hi : Nat} {v2 : Int32} (hlo : lo < 10000) (hv2 : ∀ v, v < 10000 → (nI v ≤ v2 ↔ v < hi)) (hpI : psI I T) (hpJ : psJ c t rd J T) : ∃ (b : Bool) (I' J' : xc_M), fX6_takeNumber (nI lo) v2 I = some (nI b.toNat, I') ∧ fX10_number N (nI lo) v2 J = some (nI b.toNat, J') ∧ fr1 I I' ∧ fr3 J J' ∧ (b = false → flt I' J') ∧ (b = true → ∃ x r, T = x :: r ∧ x.1 = 2 ∧ lo ≤ x.2.2 ∧ x.2.2 < hi ∧ x.2.2 < 10000 ∧ psI I' r ∧ psJ c t rd J' r ∧ I' 132 7 = nI x.2.2 ∧ J' 0 28 = nI x.2.2) := by
  obtain ⟨x, r, rfl⟩ := psJ_ne hpJ
  have hk := psJ_k hpJ
  have hv := psJ_v hpJ
  have htok := psJ_tok hpJ
  have hq := tm_eq h2 hpJ.2.2.1 hk (by omega)
  have e2 : (nI x.1 = (2 : Int32)) = (x.1 = 2) := xp_eq (b := 2) (by omega) (by omega)
  unfold fX6_takeNumber fX10_number
  by_cases h : x.1 = 2
  · have hval := psJ_val hpJ h
    have hpI7 : psI (xc_wr I 132 7 (nI x.2.2)) (x :: r) := psI_132 hpI (by omega)
    have ht2 : J 0 20 = (2 : Int32) := by rw [htok, show (2 : Int32) = nI 2 from rfl, hq]; exact h
    have elo : (nI x.2.2 < nI lo) = (x.2.2 < lo) := xp_ltI (by omega) (by omega)
    have ehi := hv2 _ hv
    have hgt : (v2 < nI x.2.2) ↔ ¬ nI x.2.2 ≤ v2 := by
      rw [Int32.lt_iff_toInt_lt, Int32.le_iff_toInt_le]
      omega
    by_cases hr : lo ≤ x.2.2 ∧ x.2.2 < hi
    · have hpJ8 : psJ c t rd (xc_wr J 0 28 (nI x.2.2)) (x :: r) := psJ_keep hpJ (xp_wr_cell (by omega)) (fun k hk => xp_wr_k (by omega))
      obtain ⟨J', n1, n2, n3⟩ := psJ_nx hN hpJ8 (by omega)
      have hin : fX10_isIn (nI x.2.2) (nI lo) v2 = some (nI 1) := by
        unfold fX10_isIn
        exact e_f (by rw [elo]; omega) (e_f (by rw [hgt]; exact fun z => z (ehi.mpr hr.2)) rfl)
      refine ⟨true, nxI (xc_wr I 132 7 (nI x.2.2)), J', ?_, ?_, ?_, ⟨fun a ha => by rw [n2.1 a ha, xp_wr_cell ha], fun k k1 k2 => by rw [n2.2 k (by omega) (by omega) (by omega) (by omega), xp_wr_k k1]⟩, (fun z => by cases z), fun _ => ⟨x, r, rfl, h, hr.1, hr.2, hv, psI_nx hpI7, n3, ?_, ?_⟩⟩
      · refine e_cr (cv_kind hpI) (e_t (by rw [e2]; exact h) (e_cr (cv_tval hpI) (e_mw rfl (e_f ?_ (e_t ?_ (e_mw rfl rfl))))))
        · rw [xp_wr_s, elo]
          omega
        · rw [xp_wr_s]
          exact ehi.mpr hr.2
      · exact e_t ht2 (e_cr (by rw [hval]; exact hin) (e_t (by decide) (e_mw hval (e_cv n1 rfl))))
      · intro a ha
        unfold nxI
        rw [xp_wr_cell ha, xp_wr_cell ha]
      · unfold nxI
        rw [xp_wr_k (by omega), xp_wr_s]
      · rw [n2.2 28 (by omega) (by omega) (by omega) (by omega), xp_wr_s]
    · have hin : fX10_isIn (nI x.2.2) (nI lo) v2 = some (nI 0) := by
        unfold fX10_isIn
        by_cases hl : x.2.2 < lo
        · exact e_t (by rw [elo]; exact hl) rfl
        · exact e_f (by rw [elo]; exact hl) (e_t (by rw [hgt, ehi]; omega) rfl)
      have h42 : bX6_takeNumber_42 (xc_wr I 132 7 (nI x.2.2)) = some (nI 0, rfI (xc_wr I 132 7 (nI x.2.2)) 2 x.2.1) := by
        rw [bX6_takeNumber_42]
        exact e_cl (cv_refuse hpI7 2) rfl
      refine ⟨false, rfI (xc_wr I 132 7 (nI x.2.2)) 2 x.2.1, bdJ J 2 x.2.1, ?_, ?_, fr1_t (fun a ha => xp_wr_cell ha) (fr1_rf _ _ _), fr3_2 (fr2_bd _ _ _), fun _ => flt_mk _ _, fun z => by cases z⟩
      · refine e_cr (cv_kind hpI) (e_t (by rw [e2]; exact h) (e_cr (cv_tval hpI) (e_mw rfl ?_)))
        rw [xp_wr_s]
        by_cases hl : x.2.2 < lo
        · exact e_t (by rw [elo]; exact hl) h42
        · exact e_f (by rw [elo]; exact hl) (e_f (by rw [ehi]; omega) h42)
      · exact e_t ht2 (e_cr (by rw [hval]; exact hin) (e_f (fun z => z rfl) (e_cl (rv_bad hpJ 2) rfl)))
  · refine ⟨false, rfI I 1 x.2.1, bdJ J 1 x.2.1, ?_, ?_, fr1_rf _ _ _, fr3_2 (fr2_bd _ _ _), fun _ => flt_mk _ _, fun z => by cases z⟩
    · exact e_cr (cv_kind hpI) (e_f (by rw [e2]; exact h) (e_cl (cv_refuse hpI 1) rfl))
    · exact e_f (by rw [htok, show (2 : Int32) = nI 2 from rfl, hq]; exact h) (e_cl (rv_bad hpJ 1) rfl)
theorem hi_of {n : Nat} (hn : n < 1000) : ∀ v, v < 10000 → (nI v ≤ nI n - nI 1 ↔ v < n) := by
  intro v hv
  rw [Int32.le_iff_toInt_le, pk_sub_toInt (by omega) (by omega), nI_toInt (by omega)]
  omega
theorem hi_of2 {n : Nat} (hn : n < 10000) : ∀ v, v < 10000 → (nI v ≤ nI n ↔ v < n + 1) := by
  intro v hv
  rw [xp_le (by omega) (by omega)]
  omega
-- wordings, as the reference lays them
def zS (Z : Nat → Int32) (l n : Nat) : Nat := itr (fun k acc => acc ||| 2 ^ xr Z (l + (1 + k))) 0 n
def zL (Z w : Nat → Int32) (l n : Nat) : Nat := itr (fun k acc => acc + xr w (70 + xr Z (l + (1 + k)))) 0 n
theorem zS_cong {Z Z' : Nat → Int32} {l n : Nat} (h : ∀ k, k < n → Z' (l + (1 + k)) = Z (l + (1 + k))) : zS Z' l n = zS Z l n := itr_congr (fun k acc hk => by rw [xr_eq (h k hk)])
theorem zL_cong {Z Z' w : Nat → Int32} {l n : Nat} (h : ∀ k, k < n → Z' (l + (1 + k)) = Z (l + (1 + k))) : zL Z' w l n = zL Z w l n := itr_congr (fun k acc hk => by rw [xr_eq (h k hk)])
def fr4 (J J' : xc_M) (l : Nat) : Prop := (∀ a, a ≠ 0 → a ≠ 8 → J' a = J a) ∧ (∀ k, k ≠ 28 → k < 19 ∨ 24 < k → J' 0 k = J 0 k) ∧ ∀ j, j < l → J' 8 j = J 8 j
def hd2 : List Tok → Bool
  | [] => false
  | x :: _ => decide (x.1 = 2)
/-- a wording: word by word; in the class its set and LONG grow -/
theorem wording_loop (hN : 1000 ≤ N) {nW l : Nat} (hnW : nW < 15) (hl : l + 7 ≤ 420) : ∀ m (T : List Tok) (I J : xc_M) (i fu f : Nat), T.length ≤ m → psI I T → psJ c t 0 J T → I 1 0 = nI nW → J 1 62 = nI nW → (∀ k, k < 14 → I 2 k = nI (xr (J 1) (70 + k)) ∧ xr (J 1) (70 + k) < 21) → i ≤ 6 → (∀ k, k < i → vN (J 8) (l + (1 + k)) nW) → T.length < fu → T.length + 1 < f → ∃ (b : Bool) (n : Nat) (I' J' : xc_M), lX6_readWording_8 N 1 79 fu (nI (zS (J 8) l i)) (nI (zL (J 8) (J 1) l i)) (nI i) I = (if b = true then bX6_readWording_101 N 1 79 (nI (zS (J' 8) l n)) (nI (zL (J' 8) (J 1) l n)) I' else some (nI 0, I')) ∧ lX10_aWording_4 N f (nI l) (nI i) (nI (if i = 0 ∨ hd2 T = true then 1 else 0)) J = some (nI b.toNat, J') ∧ fr1 I I' ∧ fr4 J J' l ∧ (b = false → flt I' J') ∧ (b = true → 1 ≤ n ∧ n ≤ 6 ∧ J' 8 l = nI n ∧ (∀ k, k < n → vN (J' 8) (l + (1 + k)) nW) ∧ ∃ T', T'.length ≤ T.length ∧ (i = 0 → T'.length < T.length) ∧ psI I' T' ∧ psJ c t 0 J' T') := by
  intro m
  induction m with
  | zero =>
    intro T I J i fu f hm hpI hpJ
    obtain ⟨x, r, rfl⟩ := psJ_ne hpJ
    rw [List.length_cons] at hm
    omega
  | succ m ih =>
    intro T I J i fu f hm hpI hpJ hIw hJw hlong hi6 hwd hfu hf
    obtain ⟨x, r, rfl⟩ := psJ_ne hpJ
    obtain ⟨g, rfl⟩ : ∃ g, fu = g + 1 := ⟨fu - 1, by omega⟩
    obtain ⟨g2, rfl⟩ : ∃ g, f = g + 1 := ⟨f - 1, by omega⟩
    have hk := psJ_k hpJ
    have htok := psJ_tok hpJ
    have q2 := tm_eq (rd := 0) (a := 2) (b := 2) (by decide +kernel) (by omega) hk (by omega)
    have e2 : (nI x.1 = (2 : Int32)) = (x.1 = 2) := xp_eq (b := 2) (by omega) (by omega)
    have h6 : ¬ (6 : Int32) < nI i := by rw [show (6 : Int32) = nI 6 from rfl, xp_ltI (by omega) (by omega)]; omega
    have hle0 : (nI i ≤ (0 : Int32)) = (i ≤ 0) := xp_le (b := 0) (by omega) (by omega)
    have hmore : hd2 (x :: r) = true ↔ x.1 = 2 := ⟨fun h => of_decide_eq_true h, fun h => decide_eq_true h⟩
    rw [lX6_readWording_8, bX6_readWording_8, lX10_aWording_4, bX10_aWording_4]
    by_cases hgo : i = 0 ∨ x.1 = 2
    · rw [if_pos (show i = 0 ∨ hd2 (x :: r) = true from hgo.imp id (fun h => hmore.mpr h))]
      have hcl : ∀ R, bX6_readWording_31 N 1 79 (lX6_readWording_8 N 1 79 g) (nI (zS (J 8) l i)) (nI (zL (J 8) (J 1) l i)) (nI i) I = R → (if (6 : Int32) < nI i then (bX6_readWording_101 N 1 79 (nI (zS (J 8) l i)) (nI (zL (J 8) (J 1) l i)) I) else (if nI i ≤ (0 : Int32) then (bX6_readWording_31 N 1 79 (lX6_readWording_8 N 1 79 g) (nI (zS (J 8) l i)) (nI (zL (J 8) (J 1) l i)) (nI i) I) else xc_cr (fX6_kind I) fun x4 => (if x4 = (2 : Int32) then (bX6_readWording_31 N 1 79 (lX6_readWording_8 N 1 79 g) (nI (zS (J 8) l i)) (nI (zL (J 8) (J 1) l i)) (nI i) I) else (bX6_readWording_101 N 1 79 (nI (zS (J 8) l i)) (nI (zL (J 8) (J 1) l i)) I)))) = R := by
        intro R hR
        refine e_f h6 ?_
        by_cases h0 : i = 0
        · exact e_t (by rw [hle0]; omega) hR
        · exact e_f (by rw [hle0]; omega) (e_cr (cv_kind hpI) (e_t (by rw [e2]; exact hgo.resolve_left h0) hR))
      obtain ⟨b, I1, J1, a1, a2, a3, a4, a5, a6⟩ := num_sim hN (rd := 0) (by decide +kernel) (lo := 0) (hi := nW) (v2 := nI nW - nI 1) (by omega) (hi_of (by omega)) hpI hpJ
      have h39 : ∀ R, (if nI b.toNat ≠ (0 : Int32) then xc_st 420 8 ((nI l + 1) + nI i) (J1 0 28) J1 fun I10 => xc_lt (nI i + 1) fun v2_11 => (if (I10 0 20) ≠ (2 : Int32) then (bX10_aWording_88 N (lX10_aWording_4 N g2) (nI l) v2_11 0 I10) else (bX10_aWording_88 N (lX10_aWording_4 N g2) (nI l) v2_11 1 I10)) else some (0, J1)) = R → bX10_aWording_39 N (lX10_aWording_4 N g2) (nI l) (nI i) J = R := by
        intro R hR
        rw [bX10_aWording_39]
        exact e_rd (k := 62) rfl (by omega) hJw (e_cl a2 hR)
      have hisW : fX10_isWord J (J 0 22) = some (nI (decide (x.2.2 < nW)).toNat) ∨ x.1 ≠ 2 := by
        by_cases hx2 : x.1 = 2
        · refine Or.inl ?_
          have hv := psJ_v hpJ
          rw [psJ_val hpJ hx2]
          unfold fX10_isWord
          refine e_rd (k := 62) rfl (by omega) hJw ?_
          by_cases hlt : x.2.2 < nW
          · rw [decide_eq_true hlt]
            exact e_cr (rv_isN_t (by omega) hlt) (e_rb (Or.inr rfl) rfl)
          · rw [decide_eq_false hlt]
            exact e_cr (rv_isN_o (by omega) (Or.inr (by rw [xp_le (by omega) (by omega)]; omega))) (e_rb (Or.inl rfl) rfl)
        · exact Or.inr hx2
      by_cases h7 : i = 6 ∧ x.1 = 2 ∧ x.2.2 < nW
      · -- the seventh word
        obtain ⟨d1, d2, d3⟩ := h7
        have hb : b = true := by
          cases b with
          | true => rfl
          | false =>
            exfalso
            have hv := psJ_v hpJ
            have hin := rv_isN_t (n := nW) (k := x.2.2) (by omega) d3
            have ht2 : J 0 20 = (2 : Int32) := by rw [htok, show (2 : Int32) = nI 2 from rfl, q2]; exact d2
            have e := a2
            unfold fX10_number at e
            rw [if_pos ht2, psJ_val hpJ d2] at e
            have hin' : fX10_isIn (nI x.2.2) (nI 0) (nI nW - nI 1) = some (nI 1) := hin
            rw [hin'] at e
            have hpJ8 : psJ c t 0 (xc_wr J 0 28 (nI x.2.2)) (x :: r) := psJ_keep hpJ (xp_wr_cell (by omega)) (fun k hk => xp_wr_k (by omega))
            obtain ⟨J', n1, _⟩ := psJ_nx hN hpJ8 (by omega)
            have e3 : nI 1 = nI 0 := by
              have e4 : xc_mw J 0 28 (nI x.2.2) (fun I2 => xc_cv (fX10_next0 N I2) fun I3 => some ((1 : Int32), I3)) = some (nI false.toNat, J1) := e
              rw [xp_mw, n1] at e4
              exact congrArg (fun o => match o with
                | some q => q.1
                | none => (7 : Int32)) e4
            exact absurd e3 (by decide)
        subst hb
        obtain ⟨x', r', ex, _, _, _, _, p1, p2, _, _⟩ := a6 rfl
        cases ex
        -- the class goes back to its place
        have hback : psA (xc_wr I1 132 3 (I 132 3)) (x :: r) := by
          obtain ⟨⟨j, j1, j2, j3, j4⟩, _⟩ := id hpI
          obtain ⟨⟨j', k1, k2, k3, k4⟩, _⟩ := id p1
          refine ⟨j, by rw [xp_wr_s]; exact j1, ?_, j3, tabs_132 (tabs_keep (fun a ha i _ => by rw [a3 a (by omega)]) j4)⟩
          rw [xp_wr_k (by omega)]
          have hc2 : I1 132 2 = I 132 2 := by
            have e := a1
            have e2' : (nI x.1 = (2 : Int32)) := by rw [e2]; exact d2
            unfold fX6_takeNumber at e
            rw [cv_kind hpI] at e
            have e5 : (if nI x.1 = (2 : Int32) then xc_cr (fX6_ofNext 135 I) fun x2 => xc_mw I 132 7 x2 fun I3 => (if (I3 132 7) < nI 0 then (bX6_takeNumber_42 I3) else (if (I3 132 7) ≤ (nI nW - nI 1) then xc_mw I3 132 3 ((I3 132 3) + 1) fun I4 => some (1, I4) else (bX6_takeNumber_42 I3))) else xc_cl (fX6_refuse 1 I) fun x5 I6 => xc_rb x5 (x5, I6)) = some (nI true.toNat, I1) := e
            rw [if_pos e2', cv_tval hpI] at e5
            have hv := psJ_v hpJ
            have e6 : (if ((xc_wr I 132 7 (nI x.2.2)) 132 7) < nI 0 then (bX6_takeNumber_42 (xc_wr I 132 7 (nI x.2.2))) else (if ((xc_wr I 132 7 (nI x.2.2)) 132 7) ≤ (nI nW - nI 1) then some (1, xc_wr (xc_wr I 132 7 (nI x.2.2)) 132 3 (((xc_wr I 132 7 (nI x.2.2)) 132 3) + 1)) else (bX6_takeNumber_42 (xc_wr I 132 7 (nI x.2.2))))) = some (nI true.toNat, I1) := e5
            rw [xp_wr_s, if_neg (show ¬ nI x.2.2 < nI 0 from nI_pos (by omega)), if_pos ((hi_of (by omega) _ hv).mpr d3)] at e6
            have e7 := congrArg (fun o => match o with
              | some q => q.2 132 2
              | none => (7 : Int32)) e6
            have e8 : xc_wr (xc_wr I 132 7 (nI x.2.2)) 132 3 (((xc_wr I 132 7 (nI x.2.2)) 132 3) + 1) 132 2 = I1 132 2 := e7
            rw [xp_wr_k (by omega), xp_wr_k (by omega)] at e8
            exact e8.symm
          rw [hc2]
          exact j2
        refine ⟨false, 0, rfI (xc_wr I1 132 3 (I 132 3)) 3 x.2.1, bdJ J 3 x.2.1, ?_, ?_, fr1_t a3 (fr1_t (fun a ha => xp_wr_cell ha) (fr1_rf _ _ _)), ⟨fun a a1 _ => (fr2_bd J 3 x.2.1).1 a a1, fun k _ k2 => (fr2_bd J 3 x.2.1).2 k k2, fun j _ => by rw [(fr2_bd J 3 x.2.1).1 8 (by omega)]⟩, fun _ => flt_mk _ _, fun z => by cases z⟩
        · rw [if_neg bff]
          refine hcl _ ?_
          rw [bX6_readWording_31]
          refine e_lt rfl (e_cl (v := nI 1) (J := I1) ?_ (e_t (by decide) (e_f ?_ (e_mw rfl (e_cl (v := nI 0) (J := rfI (xc_wr I1 132 3 (I 132 3)) 3 x.2.1) ?_ rfl)))))
          · rw [hIw]
            exact a1
          · rw [d1]
            exact fun z => z rfl
          · unfold fX6_refuse
            have h2 : psA (xc_wr (xc_wr I1 132 3 (I 132 3)) 132 0 (nI 3)) (x :: r) := psA_keep hback (xp_wr_k (by omega)) (xp_wr_k (by omega)) (fun a ha => xp_wr_cell (by omega))
            exact e_mw rfl (e_cr (cv_place h2) (e_mw rfl rfl))
        · refine e_f (by decide) (e_f ?_ ?_)
          · rw [htok, show (2 : Int32) = nI 2 from rfl, ne_eq, q2]
            exact fun z => z d2
          · rcases hisW with hw | hw
            · rw [decide_eq_true d3] at hw
              exact e_cr hw (e_f (by decide) (e_f (by rw [d1]; exact fun z => z rfl) (e_cl (rv_bad hpJ 3) rfl)))
            · exact absurd d2 hw
      · -- a number is read
        have href : ∀ R, bX10_aWording_39 N (lX10_aWording_4 N g2) (nI l) (nI i) J = R → (if nI 1 = (0 : Int32) then xc_st 420 8 (nI l) (nI i) J fun I3 => some (1, I3) else (if (J 0 20) ≠ (2 : Int32) then (bX10_aWording_39 N (lX10_aWording_4 N g2) (nI l) (nI i) J) else xc_cr (fX10_isWord J (J 0 22)) fun x4 => (if x4 = (0 : Int32) then (bX10_aWording_39 N (lX10_aWording_4 N g2) (nI l) (nI i) J) else (if nI i ≠ (6 : Int32) then (bX10_aWording_39 N (lX10_aWording_4 N g2) (nI l) (nI i) J) else xc_cl (fX10_bad 3 J) fun x5 I6 => xc_rb x5 (x5, I6))))) = R := by
          intro R hR
          refine e_f (by decide) ?_
          by_cases hx2 : x.1 = 2
          · refine e_f (by rw [htok, show (2 : Int32) = nI 2 from rfl, ne_eq, q2]; exact fun z => z hx2) ?_
            rcases hisW with hw | hw
            · by_cases hlt : x.2.2 < nW
              · rw [decide_eq_true hlt] at hw
                refine e_cr hw (e_f (by decide) (e_t ?_ hR))
                rw [show (6 : Int32) = nI 6 from rfl, ne_eq, xp_eq (by omega) (by omega)]
                intro z
                exact h7 ⟨z, hx2, hlt⟩
              · rw [decide_eq_false hlt] at hw
                exact e_cr hw (e_t rfl hR)
            · exact absurd hx2 hw
          · exact e_t (by rw [htok, show (2 : Int32) = nI 2 from rfl, ne_eq, q2]; exact hx2) hR
        cases b with
        | false =>
          refine ⟨false, 0, I1, J1, ?_, href _ (h39 _ (e_f (fun z => z rfl) rfl)), a3, ⟨fun a b1 _ => a4.1 a b1, a4.2, fun j _ => by rw [a4.1 8 (by omega)]⟩, a5, fun z => by cases z⟩
          rw [if_neg bff]
          refine hcl _ ?_
          rw [bX6_readWording_31]
          exact e_lt rfl (e_cl (by rw [hIw]; exact a1) (e_f (fun z => z rfl) rfl))
        | true =>
          obtain ⟨x', r', ex, p0, _, p3, p4, p5, p6, p7, p8⟩ := a6 rfl
          cases ex
          have hi5 : i ≠ 6 := fun z => h7 ⟨z, p0, p3⟩
          have hidx : ((nI l + 1) + nI i) = nI (l + (1 + i)) := by
            show nI l + nI 1 + nI i = _
            rw [nI_add, nI_add]
            congr 1
            omega
          -- the word is laid
          have hJ2 : psJ c t 0 (xc_wr J1 8 (l + (1 + i)) (nI x.2.2)) r := psJ_5 (by omega) (by omega) p6
          have hcell : ∀ j, j ≠ l + (1 + i) → (xc_wr J1 8 (l + (1 + i)) (nI x.2.2)) 8 j = J 8 j := fun j hj => by rw [xp_wr_k hj, a4.1 8 (by omega)]
          have hJ21 : (xc_wr J1 8 (l + (1 + i)) (nI x.2.2)) 1 = J 1 := by rw [xp_wr_cell (by omega), a4.1 1 (by omega)]
          have hx : xr ((xc_wr J1 8 (l + (1 + i)) (nI x.2.2)) 8) (l + (1 + i)) = x.2.2 := xr_of (xp_wr_s _ _ _ _) (by omega)
          have hzS : zS ((xc_wr J1 8 (l + (1 + i)) (nI x.2.2)) 8) l (i + 1) = zS (J 8) l i ||| 2 ^ x.2.2 := by
            show zS ((xc_wr J1 8 (l + (1 + i)) (nI x.2.2)) 8) l i ||| 2 ^ xr ((xc_wr J1 8 (l + (1 + i)) (nI x.2.2)) 8) (l + (1 + i)) = _
            rw [hx, zS_cong (fun k hk => hcell _ (by omega))]
          have hzL : zL ((xc_wr J1 8 (l + (1 + i)) (nI x.2.2)) 8) (J 1) l (i + 1) = zL (J 8) (J 1) l i + xr (J 1) (70 + x.2.2) := by
            show zL ((xc_wr J1 8 (l + (1 + i)) (nI x.2.2)) 8) (J 1) l i + xr (J 1) (70 + xr ((xc_wr J1 8 (l + (1 + i)) (nI x.2.2)) 8) (l + (1 + i))) = _
            rw [hx, zL_cong (fun k hk => hcell _ (by omega))]
          obtain ⟨b, n, I3, J3, b1, b2, b3, b4, b5, b6⟩ := ih r I1 (xc_wr J1 8 (l + (1 + i)) (nI x.2.2)) (i + 1) g g2 (by rw [List.length_cons] at hm; omega) p5 hJ2 (by rw [a3 1 (by omega)]; exact hIw) (by rw [hJ21]; exact hJw) (fun k hk => by rw [hJ21, a3 2 (by omega)]; exact hlong k hk) (by omega) (fun k hk => by
            by_cases ek : k = i
            · rw [ek]
              exact vN_mk (xp_wr_s _ _ _ _) p3 (by omega)
            · exact vN_eq (hcell _ (by omega)) (hwd k (by omega))) (by rw [List.length_cons] at hfu; omega) (by rw [List.length_cons] at hf; omega)
          rw [hzS, hJ21, hzL] at b1
          refine ⟨b, n, I3, J3, ?_, href _ (h39 _ (e_t (by decide) (e_st (k := l + (1 + i)) hidx (by omega) p8 (e_lt (nI_add i 1) ?_)))), fr1_t a3 b3, ⟨fun a z1 z2 => by rw [b4.1 a z1 z2, xp_wr_cell z2, a4.1 a z1], fun k k1 k2 => by rw [b4.2.1 k k1 k2, xp_wr_cell (by omega), a4.2 k k1 k2], fun j hj => by rw [b4.2.2 j hj, hcell j (by omega)]⟩, b5, fun hb => ?_⟩
          · refine hcl _ ?_
            rw [bX6_readWording_31]
            refine e_lt rfl (e_cl (by rw [hIw]; exact a1) (e_t (by decide) (e_t ?_ (e_lt (v := nI (zS (J 8) l i ||| 2 ^ x.2.2)) ?_ (e_rd (k := x.2.2) p7 (by omega) (v := nI (xr (J 1) (70 + x.2.2))) ?_ (e_lt (nI_add _ _) (e_lt (nI_add i 1) b1)))))))
            · rw [show (6 : Int32) = nI 6 from rfl, ne_eq, xp_eq (by omega) (by omega)]
              exact hi5
            · rw [p7, show (31 : Int32) = nI 31 from rfl, show (1 : Int32) = nI 1 from rfl, xp_bs (by omega), xp_or]
            · show I1 2 x.2.2 = _
              rw [a3 2 (by omega)]
              exact (hlong _ (by omega)).1
          · obtain ⟨y, r2, hr⟩ := psJ_ne p6
            have hyk : y.1 < 200 := by rw [hr] at p6; exact psJ_k p6
            have hytok : J1 0 20 = nI (tm 0 y.1) := by rw [hr] at p6; exact psJ_tok p6
            have qy := tm_eq (rd := 0) (a := 2) (b := 2) (by decide +kernel) (by omega) hyk (by omega)
            have hmy : hd2 r = true ↔ y.1 = 2 := by rw [hr]; exact ⟨fun h => of_decide_eq_true h, fun h => decide_eq_true h⟩
            have h88 : ∀ s0 R, lX10_aWording_4 N g2 (nI l) (nI (i + 1)) s0 (xc_wr J1 8 (l + (1 + i)) (nI x.2.2)) = R → bX10_aWording_88 N (lX10_aWording_4 N g2) (nI l) (nI (i + 1)) s0 (xc_wr J1 8 (l + (1 + i)) (nI x.2.2)) = R := by
              intro s0 R hR
              rw [bX10_aWording_88]
              exact e_lt rfl hR
            by_cases hy2 : y.1 = 2
            · rw [if_pos (Or.inr (hmy.mpr hy2))] at b2
              exact e_f (by rw [xp_wr_cell (by omega), hytok, show (2 : Int32) = nI 2 from rfl, ne_eq, qy]; exact fun z => z hy2) (h88 _ _ b2)
            · rw [if_neg (show ¬ (i + 1 = 0 ∨ hd2 r = true) from fun z => z.elim (fun z => by omega) (fun z => hy2 (hmy.mp z)))] at b2
              exact e_t (by rw [xp_wr_cell (by omega), hytok, show (2 : Int32) = nI 2 from rfl, ne_eq, qy]; exact hy2) (h88 _ _ b2)
          · obtain ⟨c1, c2, c3, c4, T', t1, t2, t3, t4⟩ := b6 hb
            exact ⟨c1, c2, c3, c4, T', by rw [List.length_cons]; omega, fun _ => by rw [List.length_cons]; omega, t3, t4⟩
    · rw [if_neg (show ¬ (i = 0 ∨ hd2 (x :: r) = true) from fun z => hgo (z.imp id (fun h => hmore.mp h)))]
      have hi0 : i ≠ 0 := fun z => hgo (Or.inl z)
      have hx2 : x.1 ≠ 2 := fun z => hgo (Or.inr z)
      have hcell : ∀ j, j ≠ l → (xc_wr J 8 l (nI i)) 8 j = J 8 j := fun j hj => xp_wr_k hj
      refine ⟨true, i, I, xc_wr J 8 l (nI i), ?_, e_t rfl (e_st (k := l) rfl (by omega) rfl rfl), fun _ _ => rfl, ⟨fun a _ a2 => xp_wr_cell a2, fun k _ _ => by rw [xp_wr_cell (by omega)], fun j hj => hcell j (by omega)⟩, (fun z => by cases z), fun _ => ⟨by omega, hi6, xp_wr_s _ _ _ _, fun k hk => vN_eq (hcell _ (by omega)) (hwd k hk), x :: r, Nat.le_refl _, fun z => absurd z hi0, hpI, psJ_5 (by omega) (by omega) hpJ⟩⟩
      rw [if_pos btt, zS_cong (Z := J 8) (Z' := (xc_wr J 8 l (nI i)) 8) (fun k hk => hcell _ (by omega)), zL_cong (Z := J 8) (Z' := (xc_wr J 8 l (nI i)) 8) (fun k hk => hcell _ (by omega))]
      exact e_f h6 (e_f (by rw [hle0]; omega) (e_cr (cv_kind hpI) (e_f (by rw [e2]; exact hx2) rfl)))
end
