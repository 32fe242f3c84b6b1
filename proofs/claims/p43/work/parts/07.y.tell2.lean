-- ===== the calls: set, word, person, kin, miles, talk =====
section
variable {N : Nat} {I J : xc_M}
/-- the world of both sides with some of its numbers told anew (not the texts) -/
theorem xW_tell {I' J' : xc_M} (h : xW true 1 I (J 1)) (ht : teq (J 1) (J' 1)) (hI : ∀ a, 13 ≤ a → a < 29 → I' a = I a) (hb : bI (xr (J' 1) 62) (J' 1)) (hbr : bR 5 I' (J' 1)) (c62 : vN (J' 1) 62 15) (c63 : vN (J' 1) 63 11) (c64 : vN (J' 1) 64 1001) (clo : ∀ k, k < 14 → vN (J' 1) (70 + k) 21) (cki : ∀ k, k < 14 → vN (J' 1) (84 + k) (2 ^ xr (J' 1) 62)) (cmi : ∀ j, j < 100 → vN (J' 1) (98 + j) 100) (htk : ∀ j, j = 69 ∨ (728 ≤ j ∧ j < 748) → J' 1 j = J 1 j) (r0 : I' 1 0 = J' 1 62) (r1 : I' 1 1 = J' 1 63) (r2 : I' 1 2 = J' 1 64) (rlo : ∀ k, k < 14 → I' 2 k = J' 1 (70 + k)) (rki : ∀ k, k < 14 → I' 3 k = J' 1 (84 + k)) (rmi : ∀ j, j < 100 → I' 4 j = J' 1 (98 + j)) (hbk : I' 11 = I 11 ∧ I' 12 = I 12 ∧ J' 1 2 = J 1 2 ∧ ∀ j, 748 ≤ j → j < 1348 → J' 1 j = J 1 j) : xW true 1 I' (J' 1) := by
  obtain ⟨⟨hi1, hi2⟩, g2, g3, g4⟩ := h
  obtain ⟨c1, c2, c3, c4, c5, c6, c7, c8, c9, c10, c11, c12, c13, c14, c15, c16⟩ := id hi2
  obtain ⟨_, _, _, _, _, _, x1, x2, x3, x4, x5⟩ := g3
  obtain ⟨y1, y2, y3, y4⟩ := xR4_t (b := 1) (I' := I') ht hi2 (fun a a1 a2 _ _ => hI a (by omega) (by omega)) ⟨x1, x2, x3, x4⟩
  obtain ⟨b1, b2, b3, b4⟩ := hbk
  obtain ⟨o1, o2⟩ := g4
  refine ⟨⟨hb, c62, c63, c64, ht.v (by omega) c4, ht.v (by omega) c5, ht.v (by omega) c6, ht.v (by omega) c7, vN_eq (htk 69 (by omega)) c8, clo, cki, cmi, lI_t ht c4.2 c12, mw_t ht c5.2 c13, k_t ht c6.2 c14, n_t ht c7.2 c15, t_t htk ht.2.1 c8.2 c16⟩, hbr, ⟨r0, r1, r2, rlo, rki, rmi, y1, y2, y3, y4, tR_t (b := 1) htk c8.2 (fun a ha => hI a (by omega) (by omega)) x5⟩, ⟨?_, fun hf => ?_⟩⟩
  · obtain ⟨n, n1, n2⟩ := o1
    exact ⟨n, n1, by rw [show (1 : Nat) + 10 = 11 from rfl, b1]; exact n2⟩
  · obtain ⟨q1, q2⟩ := o2 hf
    refine ⟨by rw [show (1 : Nat) + 10 = 11 from rfl, b1, b3]; exact q1, fun j hj => ?_⟩
    rw [show (1 : Nat) + 10 + 1 = 12 from rfl, b2, b4 _ (by omega) (by omega)]
    exact q2 j hj
/-- then all that can be undone is forgotten -/
theorem RR_tell2 {I' J' : xc_M} (h : RR I J) (hw : xW true 1 I' (J' 1)) (hd : J' 1 0 = J 1 0) (hI : ∀ a, 13 ≤ a → I' a = I a) (hI0 : I' 0 = I 0) (hJ : ∀ a, a ≠ 1 → J' a = J a) : RR (xc_wr I' 91 0 (nI 0)) (xc_wr J' 0 4 (nI 0)) := by
  refine RR_tell h ?_ ?_ (fun x h1 h2 => by rw [xp_wr_cell h2, hI x (by omega)]) (by rw [xp_wr_cell (by omega), hI0]) (xp_wr_s _ _ _ _) (by rw [xp_wr_k (by omega), hI 91 (by omega)]) (fun x h1 h2 => by rw [xp_wr_cell h1, hJ x h2]) (fun k hk => by rw [xp_wr_k hk, hJ 0 (by omega)]) (xp_wr_s _ _ _ _)
  · rw [xp_wr_cell (show 1 ≠ 0 by decide)]
    exact xW_frame (fun x h1 h2 => by rw [xp_wr_cell (by omega)]) hw
  · rw [xp_wr_cell (show 1 ≠ 0 by decide), xr_eq hd]
    exact h.2.1
theorem xW_raw (h : xW true 1 I (J 1)) : I 1 0 = J 1 62 ∧ I 1 1 = J 1 63 ∧ I 1 2 = J 1 64 ∧ (∀ k, k < 14 → I 2 k = J 1 (70 + k)) ∧ (∀ k, k < 14 → I 3 k = J 1 (84 + k)) ∧ (∀ j, j < 100 → I 4 j = J 1 (98 + j)) := by
  obtain ⟨_, _, ⟨r1, r2, r3, r4, r5, r6, _⟩, _⟩ := h
  exact ⟨r1, r2, r3, r4, r5, r6⟩
theorem chat_set (h : RR I J) {m : Nat} (hm : m < 1001) : RR (xc_wr (xc_wr I 1 2 (nI m)) 91 0 (nI 0)) (xc_wr (xc_wr J 1 64 (nI m)) 0 4 (nI 0)) := by
  have hw := h.1
  obtain ⟨r0, r1, r2, r3, r4, r5⟩ := xW_raw hw
  have e62 : xr (xc_wr J 1 64 (nI m) 1) 62 = xr (J 1) 62 := xr_eq (xp_wr_k (by omega))
  have e63 : xr (xc_wr J 1 64 (nI m) 1) 63 = xr (J 1) 63 := xr_eq (xp_wr_k (by omega))
  have hk : ∀ j, j ≠ 64 → xc_wr J 1 64 (nI m) 1 j = J 1 j := fun j hj => xp_wr_k hj
  refine RR_tell2 h (xW_tell hw ⟨fun j hj => hk j (by omega), by rw [e62]; exact Nat.le_refl _, by rw [e63]; exact Nat.le_refl _, fun k _ => hk _ (by omega)⟩ (fun a _ _ => xp_wr_cell (by omega)) ?_ ?_ (vN_eq (hk _ (by omega)) hw.i.2.1) (vN_eq (hk _ (by omega)) hw.i.2.2.1) (vN_mk (xp_wr_s _ _ _ _) hm (by omega)) (fun k h14 => vN_eq (hk _ (by omega)) ⟨hw.i.long h14, hw.i.longB h14⟩) (fun k h14 => by rw [e62]; exact vN_eq (hk _ (by omega)) ⟨hw.i.kin h14, hw.i.kinP h14⟩) (fun j h100 => vN_eq (hk _ (by omega)) ⟨hw.i.miles h100, hw.i.milesB h100⟩) (fun j hj => hk j (by omega)) ?_ ?_ ?_ (fun k h14 => ?_) (fun k h14 => ?_) (fun j h100 => ?_) ⟨xp_wr_cell (by omega), xp_wr_cell (by omega), hk 2 (by omega), fun j _ _ => hk j (by omega)⟩) (hk 0 (by omega)) (fun a _ => xp_wr_cell (by omega)) (xp_wr_cell (by omega)) (fun a ha => xp_wr_cell ha)
  · rw [e62]
    exact bI_c (fun j hj => hk j (by omega)) hw.i.1
  · exact bR_c (fun j hj => hk j (by omega)) (fun a _ _ => xp_wr_cell (by omega)) hw.2.1
  · rw [xp_wr_k (by omega), hk 62 (by omega)]; exact r0
  · rw [xp_wr_k (by omega), hk 63 (by omega)]; exact r1
  · rw [xp_wr_s, xp_wr_s]
  · rw [xp_wr_c (by omega), hk _ (by omega)]; exact r3 k h14
  · rw [xp_wr_c (by omega), hk _ (by omega)]; exact r4 k h14
  · rw [xp_wr_c (by omega), hk _ (by omega)]; exact r5 j h100
theorem set_both (h : RR I J) (v1 v2 v3 : Int32) : ∃ v I' J', fX9_set v1 v2 v3 I = some (v, I') ∧ fX10_set v1 v2 v3 J = some (v, J') ∧ RR I' J' := by
  have hw := h.1
  have hP := hw.i.nPB
  have hW := hw.i.nWB
  have c66 : ∀ (x : Int32), x ≠ 2 → bX9_set_66 x v2 v3 I = some (nI 0, I) := fun x hx => by
    unfold bX9_set_66
    exact e_t hx rfl
  by_cases h0 : v1 = 0
  · subst h0
    rcases oN_or v3 (n := 1000 + 1) (by omega) with ho | ⟨m, hm, rfl⟩
    · refine ⟨nI 0, I, J, ?_, ?_, h⟩
      · unfold fX9_set
        refine e_f (fun z => z rfl) (e_cr (cv_isUp_o (n := 1000) ho (by omega)) (e_t rfl ?_))
        unfold bX9_set_25
        exact e_t (by decide) (c66 _ (by decide))
      · unfold fX10_set
        exact e_t rfl (e_cr (rv_isIn_o (n := 1000) ho (by omega)) (e_f (fun z => z rfl) rfl))
    · refine ⟨nI 1, _, _, ?_, ?_, chat_set h hm⟩
      · unfold fX9_set
        refine e_f (fun z => z rfl) (e_cr (cv_isUp_t (m := m) (n := 1000) (by omega) (by omega)) (e_f (by decide) ?_))
        exact e_mw rfl rfl
      · unfold fX10_set
        refine e_t rfl (e_cr (rv_isIn_t (k := m) (n := 1000) (by omega) (by omega)) (e_t (by decide) ?_))
        exact e_st (k := 64) rfl (by omega) rfl rfl
  · by_cases h1 : v1 = 1
    · subst h1
      rcases oN_or v2 (n := xr (J 1) 63) (by omega) with ho | ⟨p, hp, rfl⟩
      · refine ⟨nI 0, I, J, ?_, ?_, h⟩
        · unfold fX9_set
          refine e_t (by decide) ?_
          unfold bX9_set_25
          exact e_f (fun z => z rfl) (e_cr (cv_hasPerson_o hw ho) (e_t rfl (c66 _ (by decide))))
        · unfold fX10_set
          exact e_f (by decide) (e_t rfl (e_cr (rv_isPerson_o hw.i ho) (e_t rfl rfl)))
      · rcases oN_or v3 (n := 99 + 1) (by omega) with ho | ⟨m, hm, rfl⟩
        · refine ⟨nI 0, I, J, ?_, ?_, h⟩
          · unfold fX9_set
            refine e_t (by decide) ?_
            unfold bX9_set_25
            exact e_f (fun z => z rfl) (e_cr (cv_hasPerson hw hp) (e_f (by decide) (e_cr (cv_isUp_o (n := 99) ho (by omega)) (e_t rfl (c66 _ (by decide))))))
          · unfold fX10_set
            exact e_f (by decide) (e_t rfl (e_cr (rv_isPerson_t hw.i hp) (e_f (by decide) (e_cr (rv_isIn_o (n := 99) ho (by omega)) (e_f (fun z => z rfl) rfl)))))
        · refine ⟨nI 1, _, _, ?_, ?_, RR_wr h (a := 10) (k := p) (j := 52 + p) (v := nI m) (by unfold pR; omega) (bI_wr hw.i.1 hw.i.nWB (fun e => by omega) (fun e => by omega) (fun e => by omega) (fun e => by omega) (fun e => by omega) (fun e => by omega) (fun _ _ => ⟨m, by omega, rfl⟩)) (by omega)⟩
          · unfold fX9_set
            refine e_t (by decide) ?_
            unfold bX9_set_25
            exact e_f (fun z => z rfl) (e_cr (cv_hasPerson hw hp) (e_f (by decide) (e_cr (cv_isUp_t (m := m) (n := 99) (by omega) (by omega)) (e_f (by decide) (e_st (k := p) rfl (by omega) rfl rfl)))))
          · unfold fX10_set
            exact e_f (by decide) (e_t rfl (e_cr (rv_isPerson_t hw.i hp) (e_f (by decide) (e_cr (rv_isIn_t (k := m) (n := 99) (by omega) (by omega)) (e_t (by decide) (e_st (k := 52 + p) (nI_add 52 p) (by omega) rfl rfl))))))
    · by_cases h2 : v1 = 2
      · subst h2
        have c25 : ∀ (F : Option (Int32 × xc_M)), bX9_set_66 2 v2 v3 I = F → fX9_set 2 v2 v3 I = F := fun F hF => by
          unfold fX9_set
          refine e_t (by decide) ?_
          unfold bX9_set_25
          exact e_t (by decide) hF
        rcases oN_or v2 (n := xr (J 1) 62) (by omega) with ho | ⟨p, hp, rfl⟩
        · refine ⟨nI 0, I, J, c25 _ ?_, ?_, h⟩
          · unfold bX9_set_66
            exact e_f (fun z => z rfl) (e_cr (cv_hasWord_o hw ho) (e_t rfl rfl))
          · unfold fX10_set
            exact e_f (by decide) (e_f (by decide) (e_t rfl (e_cr (rv_isWord_o hw.i ho) (e_t rfl rfl))))
        · rcases oN_or v3 (n := 9999 + 1) (by omega) with ho | ⟨m, hm, rfl⟩
          · refine ⟨nI 0, I, J, c25 _ ?_, ?_, h⟩
            · unfold bX9_set_66
              exact e_f (fun z => z rfl) (e_cr (cv_hasWord hw hp) (e_f (by decide) (e_cr (cv_isUp_o (n := 9999) ho (by omega)) (e_t rfl rfl))))
            · unfold fX10_set
              exact e_f (by decide) (e_f (by decide) (e_t rfl (e_cr (rv_isWord_t hw.i hp) (e_f (by decide) (e_cr (rv_isIn_o (n := 9999) ho (by omega)) (e_f (fun z => z rfl) rfl))))))
          · refine ⟨nI 1, _, _, c25 _ ?_, ?_, RR_wr h (a := 6) (k := p) (j := 4 + p) (v := nI m) (by unfold pR; omega) (bI_wr hw.i.1 hw.i.nWB (fun e => by omega) (fun e => by omega) (fun e => by omega) (fun _ _ => ⟨m, by omega, rfl⟩) (fun e => by omega) (fun e => by omega) (fun e => by omega)) (by omega)⟩
            · unfold bX9_set_66
              exact e_f (fun z => z rfl) (e_cr (cv_hasWord hw hp) (e_f (by decide) (e_cr (cv_isUp_t (m := m) (n := 9999) (by omega) (by omega)) (e_f (by decide) (e_st (k := p) rfl (by omega) rfl rfl)))))
            · unfold fX10_set
              exact e_f (by decide) (e_f (by decide) (e_t rfl (e_cr (rv_isWord_t hw.i hp) (e_f (by decide) (e_cr (rv_isIn_t (k := m) (n := 9999) (by omega) (by omega)) (e_t (by decide) (e_st (k := 4 + p) (nI_add 4 p) (by omega) rfl rfl)))))))
      · refine ⟨nI 0, I, J, ?_, ?_, h⟩
        · unfold fX9_set
          refine e_t h0 ?_
          unfold bX9_set_25
          exact e_t h1 (c66 _ h2)
        · unfold fX10_set
          exact e_f h0 (e_f h1 (e_f h2 rfl))
/-- two numbers of MILES told -/
theorem miles_set (h : RR I J) {a c m : Nat} (ha : a < 100) (hc : c < 100) (hm : m < 100) : RR (xc_wr (xc_wr (xc_wr I 4 a (nI m)) 4 c (nI m)) 91 0 (nI 0)) (xc_wr (xc_wr (xc_wr J 1 (98 + a) (nI m)) 1 (98 + c) (nI m)) 0 4 (nI 0)) := by
  have hw := h.1
  obtain ⟨r0, r1, r2, r3, r4, r5⟩ := xW_raw hw
  have hk : ∀ j, (j < 98 ∨ 198 ≤ j) → xc_wr (xc_wr J 1 (98 + a) (nI m)) 1 (98 + c) (nI m) 1 j = J 1 j := fun j hj => by rw [xp_wr_k (by omega), xp_wr_k (by omega)]
  have e62 := xr_eq (hk 62 (by omega))
  have e63 := xr_eq (hk 63 (by omega))
  have hIc : ∀ x, x ≠ 4 → xc_wr (xc_wr I 4 a (nI m)) 4 c (nI m) x = I x := fun x hx => by rw [xp_wr_cell hx, xp_wr_cell hx]
  refine RR_tell2 h (xW_tell hw ⟨fun j hj => hk j (by omega), by rw [e62]; exact Nat.le_refl _, by rw [e63]; exact Nat.le_refl _, fun k _ => hk _ (by have := hw.i.nWB; omega)⟩ (fun a _ _ => hIc a (by omega)) ?_ ?_ (vN_eq (hk _ (by omega)) hw.i.2.1) (vN_eq (hk _ (by omega)) hw.i.2.2.1) (vN_eq (hk _ (by omega)) hw.i.2.2.2.1) (fun k h14 => vN_eq (hk _ (by omega)) ⟨hw.i.long h14, hw.i.longB h14⟩) (fun k h14 => by rw [e62]; exact vN_eq (hk _ (by omega)) ⟨hw.i.kin h14, hw.i.kinP h14⟩) (fun j h100 => ?_) (fun j hj => hk j (by omega)) ?_ ?_ ?_ (fun k h14 => ?_) (fun k h14 => ?_) (fun j h100 => ?_) ⟨hIc _ (by omega), hIc _ (by omega), hk 2 (by omega), fun j _ _ => hk j (by omega)⟩) (hk 0 (by omega)) (fun a _ => hIc a (by omega)) (hIc 0 (by omega)) (fun a ha => by rw [xp_wr_cell ha, xp_wr_cell ha])
  · rw [e62]
    exact bI_c (fun j hj => hk j (by omega)) hw.i.1
  · exact bR_c (fun j hj => hk j (by omega)) (fun a _ _ => hIc a (by omega)) hw.2.1
  · exact vN_up (by omega) (fun _ => ⟨m, hm, rfl⟩) (vN_up (by omega) (fun _ => ⟨m, hm, rfl⟩) ⟨hw.i.miles h100, hw.i.milesB h100⟩)
  · rw [hIc 1 (by omega), hk 62 (by omega)]; exact r0
  · rw [hIc 1 (by omega), hk 63 (by omega)]; exact r1
  · rw [hIc 1 (by omega), hk 64 (by omega)]; exact r2
  · rw [hIc 2 (by omega), hk _ (by omega)]; exact r3 k h14
  · rw [hIc 3 (by omega), hk _ (by omega)]; exact r4 k h14
  · exact rR_wr (by omega) (rR_wr (by omega) (r5 j h100))
theorem miles_both (h : RR I J) (v1 v2 v3 : Int32) : ∃ v I' J', fX9_miles v1 v2 v3 I = some (v, I') ∧ fX10_miles v1 v2 v3 J = some (v, J') ∧ RR I' J' := by
  rcases oN_or v1 (n := 10) (by omega) with ho | ⟨a, ha, rfl⟩
  · refine ⟨nI 0, I, J, ?_, ?_, h⟩
    · unfold fX9_miles
      exact e_cr (cv_isPlace_o ho) (e_t rfl rfl)
    · unfold fX10_miles
      exact e_cr (rv_isPlace_o ho) (e_t rfl rfl)
  · rcases oN_or v2 (n := 10) (by omega) with ho | ⟨c, hc, rfl⟩
    · refine ⟨nI 0, I, J, ?_, ?_, h⟩
      · unfold fX9_miles
        exact e_cr (cv_isPlace ha) (e_f (by decide) (e_cr (cv_isPlace_o ho) (e_t rfl rfl)))
      · unfold fX10_miles
        exact e_cr (rv_isPlace_t ha) (e_f (by decide) (e_cr (rv_isPlace_o ho) (e_t rfl rfl)))
    · by_cases hac : a = c
      · subst hac
        refine ⟨nI 0, I, J, ?_, ?_, h⟩
        · unfold fX9_miles
          exact e_cr (cv_isPlace ha) (e_f (by decide) (e_cr (cv_isPlace hc) (e_f (by decide) (e_t rfl rfl))))
        · unfold fX10_miles
          exact e_cr (rv_isPlace_t ha) (e_f (by decide) (e_cr (rv_isPlace_t hc) (e_f (by decide) (e_t rfl rfl))))
      · have hne : ¬ nI a = nI c := fun z => hac ((nI_eq (by omega) (by omega)).mp z)
        rcases oN_or v3 (n := 99 + 1) (by omega) with ho | ⟨m, hm, rfl⟩
        · refine ⟨nI 0, I, J, ?_, ?_, h⟩
          · unfold fX9_miles
            exact e_cr (cv_isPlace ha) (e_f (by decide) (e_cr (cv_isPlace hc) (e_f (by decide) (e_f hne (e_cr (cv_isUp_o (n := 99) ho (by omega)) (e_f (fun z => z rfl) rfl))))))
          · unfold fX10_miles
            exact e_cr (rv_isPlace_t ha) (e_f (by decide) (e_cr (rv_isPlace_t hc) (e_f (by decide) (e_f hne (e_cr (rv_isIn_o (n := 99) ho (by omega)) (e_f (fun z => z rfl) rfl))))))
        · have x1 : nI a * 10 + nI c = nI (a * 10 + c) := by
            rw [show (nI a * 10 : Int32) = nI (a * 10) from pk_mul a 10, nI_add]
          have x2 : nI c * 10 + nI a = nI (c * 10 + a) := by
            rw [show (nI c * 10 : Int32) = nI (c * 10) from pk_mul c 10, nI_add]
          have y1 : (98 : Int32) + (10 : Int32) * nI a + nI c = nI (98 + (a * 10 + c)) := by
            rw [show ((10 : Int32) * nI a : Int32) = nI (10 * a) from pk_mul 10 a, show ((98 : Int32) + nI (10 * a)) = nI (98 + 10 * a) from nI_add 98 _, nI_add]
            congr 1
            omega
          have y2 : (98 : Int32) + (10 : Int32) * nI c + nI a = nI (98 + (c * 10 + a)) := by
            rw [show ((10 : Int32) * nI c : Int32) = nI (10 * c) from pk_mul 10 c, show ((98 : Int32) + nI (10 * c)) = nI (98 + 10 * c) from nI_add 98 _, nI_add]
            congr 1
            omega
          refine ⟨nI 1, _, _, ?_, ?_, miles_set h (a := a * 10 + c) (c := c * 10 + a) (m := m) (by omega) (by omega) (by omega)⟩
          · unfold fX9_miles
            exact e_cr (cv_isPlace ha) (e_f (by decide) (e_cr (cv_isPlace hc) (e_f (by decide) (e_f hne (e_cr (cv_isUp_t (m := m) (n := 99) (by omega) (by omega)) (e_t (by decide) (e_st (k := a * 10 + c) x1 (by omega) rfl (e_st (k := c * 10 + a) x2 (by omega) rfl rfl))))))))
          · unfold fX10_miles
            exact e_cr (rv_isPlace_t ha) (e_f (by decide) (e_cr (rv_isPlace_t hc) (e_f (by decide) (e_f hne (e_cr (rv_isIn_t (k := m) (n := 99) (by omega) (by omega)) (e_t (by decide) (e_st (k := 98 + (a * 10 + c)) y1 (by omega) rfl (e_st (k := 98 + (c * 10 + a)) y2 (by omega) rfl rfl))))))))
end
