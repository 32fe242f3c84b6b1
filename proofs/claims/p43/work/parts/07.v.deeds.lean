-- ===== the calls: say, move, teach, carve, days =====
def oN (v : Int32) (n : Nat) : Prop := v < 0 ∨ nI n ≤ v
theorem oN_or (v : Int32) {n : Nat} (hn : n < 2 ^ 31) : oN v n ∨ ∃ k, k < n ∧ v = nI k := by
  rcases pk_ix v hn with h | h | h
  · exact Or.inl (Or.inl h)
  · exact Or.inl (Or.inr h)
  · exact Or.inr h
section
variable {b N n : Nat} {fl : Bool} {I J : xc_M} {w : Nat → Int32} {v : Int32}
theorem cv_up (ho : oN v n) {A B : Option Int32} : (if v < (0 : Int32) then A else (if nI n ≤ v then A else B)) = A := by
  rcases ho with h | h
  · rw [if_pos h]
  · by_cases h2 : v < 0
    · rw [if_pos h2]
    · rw [if_neg h2, if_pos h]
theorem cv_hasWord_o (h : xW fl b I w) (ho : oN v (xr w 62)) : fX8_hasWord b I v = some (nI 0) := by
  unfold fX8_hasWord
  rw [h.nW]
  exact cv_up ho
theorem cv_hasPerson_o (h : xW fl b I w) (ho : oN v (xr w 63)) : fX8_hasPerson b I v = some (nI 0) := by
  unfold fX8_hasPerson
  rw [h.nP]
  exact cv_up ho
theorem cv_isPlace_o (ho : oN v 10) : fX8_isPlace v = some (nI 0) := by
  unfold fX8_isPlace
  exact cv_up ho
theorem rv_isN_o (hn : n < 2 ^ 30) (ho : oN v n) : fX10_isIn v (nI 0) (nI n - nI 1) = some (nI 0) := by
  unfold fX10_isIn
  rcases ho with h | h
  · rw [if_pos (show v < nI 0 from h)]
    rfl
  · by_cases h2 : v < nI 0
    · rw [if_pos h2]
      rfl
    · rw [if_neg h2, if_pos]
      · rfl
      · rw [Int32.lt_iff_toInt_lt, pk_sub_toInt (by omega) (by omega)]
        rw [Int32.le_iff_toInt_le, nI_toInt (by omega)] at h
        omega
theorem rv_isN_t {k : Nat} (hn : n < 2 ^ 30) (hk : k < n) : fX10_isIn (nI k) (nI 0) (nI n - nI 1) = some (nI 1) := by
  unfold fX10_isIn
  rw [if_neg (show ¬ nI k < nI 0 from nI_pos (by omega)), pk_sub (by omega), if_neg (nI_nlt (by omega) (by omega))]
  rfl
theorem rv_isWord_t (h : iW (J 1)) {k : Nat} (hk : k < xr (J 1) 62) : fX10_isWord J (nI k) = some (nI 1) := by
  have hW := h.nWB
  unfold fX10_isWord
  exact e_rd (k := 62) rfl (by omega) h.nW (e_cr (rv_isN_t (by omega) hk) (e_rb (Or.inr rfl) rfl))
theorem rv_isWord_o (h : iW (J 1)) (ho : oN v (xr (J 1) 62)) : fX10_isWord J v = some (nI 0) := by
  have hW := h.nWB
  unfold fX10_isWord
  exact e_rd (k := 62) rfl (by omega) h.nW (e_cr (rv_isN_o (by omega) ho) (e_rb (Or.inl rfl) rfl))
theorem rv_isPerson_t (h : iW (J 1)) {k : Nat} (hk : k < xr (J 1) 63) : fX10_isPerson J (nI k) = some (nI 1) := by
  have hW := h.nPB
  unfold fX10_isPerson
  exact e_rd (k := 63) rfl (by omega) h.nP (e_cr (rv_isN_t (by omega) hk) (e_rb (Or.inr rfl) rfl))
theorem rv_isPerson_o (h : iW (J 1)) (ho : oN v (xr (J 1) 63)) : fX10_isPerson J v = some (nI 0) := by
  have hW := h.nPB
  unfold fX10_isPerson
  exact e_rd (k := 63) rfl (by omega) h.nP (e_cr (rv_isN_o (by omega) ho) (e_rb (Or.inl rfl) rfl))
theorem rv_isPlace_t {k : Nat} (hk : k < 10) : fX10_isPlace (nI k) = some (nI 1) := by
  unfold fX10_isPlace
  exact e_cr (rv_isN_t (n := 10) (by omega) hk) (e_rb (Or.inr rfl) rfl)
theorem rv_isPlace_o (ho : oN v 10) : fX10_isPlace v = some (nI 0) := by
  unfold fX10_isPlace
  exact e_cr (rv_isN_o (n := 10) (by omega) ho) (e_rb (Or.inl rfl) rfl)
theorem RR_scr {I' J' : xc_M} (h : RR I J) (hI : ∀ a, a ≠ 1 + 28 → a ≠ 1 + 29 → I' a = I a) (hJ : ∀ a, a ≠ 11 → a ≠ 12 → J' a = J a) : RR I' J' := by
  obtain ⟨h1, h2, h3, h4, h5, h6⟩ := h
  have j0 := hJ 0 (by omega) (by omega)
  have j1 := hJ 1 (by omega) (by omega)
  exact ⟨by rw [j1]; exact xW_frame (fun a a1 a2 => hI a (by omega) (by omega)) h1, by rw [j1]; exact h2, pastR_keep (fun a _ _ => hI a (by omega) (by omega)) (by rw [j0]) (hJ 3 (by omega) (by omega)) (by rw [j1]) h3, tapR_keep (hI 130 (by omega) (by omega)) (hI 131 (by omega) (by omega)) (by rw [j0]) (hJ 10 (by omega) (by omega)) h4, fauR_keep (hI 132 (by omega) (by omega)) (by rw [j0]) (by rw [j0]) h5, imgR_keep (fun a _ _ => hI a (by omega) (by omega)) (by rw [hI 0 (by omega) (by omega)]) (by rw [j0]) (hJ 2 (by omega) (by omega)) h6⟩
theorem say_both (hN : 1000 ≤ N) (h : RR I J) (v1 v2 : Int32) : ∃ v I' J', fX9_say N v1 v2 I = some (v, I') ∧ fX10_say N v1 v2 J = some (v, J') ∧ RR I' J' := by
  have hw := h.1
  have hP := hw.i.nPB
  have hW := hw.i.nWB
  rcases oN_or v1 (n := xr (J 1) 63) (by omega) with ho | ⟨p, hp, rfl⟩
  · refine ⟨mI, I, J, ?_, ?_, h⟩
    · have hc : fX8_canSpeak N 1 v1 v2 I = some (nI 0, I) := by
        unfold fX8_canSpeak
        exact e_cr (cv_hasPerson_o hw ho) (e_t rfl rfl)
      unfold fX9_say
      exact e_cl hc (e_f (fun z => z rfl) rfl)
    · unfold fX10_say
      exact e_cr (rv_isPerson_o hw.i ho) (e_t rfl rfl)
  · rcases oN_or v2 (n := xr (J 1) 62) (by omega) with ho | ⟨k, hk, rfl⟩
    · refine ⟨mI, I, J, ?_, ?_, h⟩
      · have hc : fX8_canSpeak N 1 (nI p) v2 I = some (nI 0, I) := by
          unfold fX8_canSpeak
          exact e_cr (cv_hasPerson hw hp) (e_f (by decide) (e_cr (cv_hasWord_o hw ho) (e_t rfl rfl)))
        unfold fX9_say
        exact e_cl hc (e_f (fun z => z rfl) rfl)
      · unfold fX10_say
        exact e_cr (rv_isPerson_t hw.i hp) (e_f (by decide) (e_cr (rv_isWord_o hw.i ho) (e_t rfl rfl)))
    · obtain ⟨I1, J1, g1, g2, g3, g4⟩ := can_sim hw hN hp hk
      have hR1 := RR_scr h g3 g4
      have hJ1 : J1 1 = J 1 := g4 1 (by omega) (by omega)
      by_cases hcan : sCan (J 1) p k = true
      · rw [hcan] at g1 g2
        obtain ⟨I2, J2, k1, k2, k3, k4, k5, k6, k7, k8⟩ := keep_both hN hR1
        have hJ2 : J2 1 = J 1 := k4.trans hJ1
        obtain ⟨v, I3, J3, q1, q2, q3, q4, q5⟩ := speak_sim k3 (by omega) hN (p := p) (k := k) (by rw [hJ2]; exact hp) (by rw [hJ2]; exact hk) (by rw [hJ2]; exact hcan)
        refine ⟨nI v.toNat, I3, J3, ?_, ?_, RR_xS q3 (by rw [xr_eq (q4 0 (by omega)), hJ2]; exact h.2.1) k5 k6 k7 k8⟩
        · unfold fX9_say
          refine e_cl g1 (e_t (by decide) (e_cv k1 (e_cl q1 ?_)))
          cases v
          · exact e_t rfl rfl
          · exact e_f (by decide) rfl
        · unfold fX10_say
          refine e_cr (rv_isPerson_t hw.i hp) (e_f (by decide) (e_cr (rv_isWord_t hw.i hk) (e_f (by decide) (e_cl g2 (e_t (by decide) (e_cv k2 (e_cl q2 ?_)))))))
          cases v
          · exact e_t rfl rfl
          · exact e_f (by decide) rfl
      · have hcan' : sCan (J 1) p k = false := by simpa using hcan
        rw [hcan'] at g1 g2
        refine ⟨mI, I1, J1, ?_, ?_, hR1⟩
        · unfold fX9_say
          exact e_cl g1 (e_f (fun z => z rfl) rfl)
        · unfold fX10_say
          exact e_cr (rv_isPerson_t hw.i hp) (e_f (by decide) (e_cr (rv_isWord_t hw.i hk) (e_f (by decide) (e_cl g2 (e_f (fun z => z rfl) rfl)))))
theorem move_both (hN : 1000 ≤ N) (h : RR I J) (v1 v2 : Int32) : ∃ v I' J', fX9_move v1 v2 I = some (v, I') ∧ fX10_move N v1 v2 J = some (v, J') ∧ RR I' J' := by
  have hw := h.1
  have hP := hw.i.nPB
  rcases oN_or v1 (n := xr (J 1) 63) (by omega) with ho | ⟨p, hp, rfl⟩
  · refine ⟨nI 0, I, J, ?_, ?_, h⟩
    · unfold fX9_move
      exact e_cr (cv_hasPerson_o hw ho) (e_t rfl rfl)
    · unfold fX10_move
      exact e_cr (rv_isPerson_o hw.i ho) (e_t rfl rfl)
  · rcases oN_or v2 (n := 10) (by omega) with ho | ⟨a, ha, rfl⟩
    · refine ⟨nI 0, I, J, ?_, ?_, h⟩
      · unfold fX9_move
        exact e_cr (cv_hasPerson hw hp) (e_f (by decide) (e_cr (cv_isPlace_o ho) (e_t rfl rfl)))
      · unfold fX10_move
        exact e_cr (rv_isPerson_t hw.i hp) (e_f (by decide) (e_cr (rv_isPlace_o ho) (e_t rfl rfl)))
    · have hat : I 8 p = nI (xr (J 1) (32 + p)) := hw.at (by omega)
      have hat2 := hw.i.at (p := p) (by omega)
      have hab := hw.i.atB (p := p) (by omega)
      by_cases he : xr (J 1) (32 + p) = a
      · refine ⟨nI 0, I, J, ?_, ?_, h⟩
        · unfold fX9_move
          refine e_cr (cv_hasPerson hw hp) (e_f (by decide) (e_cr (cv_isPlace ha) (e_f (by decide) (e_rd (k := p) rfl (by omega) hat (e_f ?_ rfl)))))
          rw [he]
          exact fun z => z rfl
        · unfold fX10_move
          refine e_cr (rv_isPerson_t hw.i hp) (e_f (by decide) (e_cr (rv_isPlace_t ha) (e_f (by decide) (e_rd (k := 32 + p) (nI_add 32 p) (by omega) hat2 (e_f ?_ rfl)))))
          rw [he]
          exact fun z => z rfl
      · obtain ⟨I2, J2, k1, k2, k3, k4, k5, k6, k7, k8⟩ := keep_both hN h
        obtain ⟨I3, J3, q1, q2, q3, q4, q5⟩ := move_sim k3 (by omega) (p := p) (a := a) (by rw [k4]; exact hp) ha
        have hne : nI (xr (J 1) (32 + p)) ≠ nI a := fun z => he ((nI_eq (by omega) (by omega)).mp z)
        refine ⟨nI 1, I3, J3, ?_, ?_, RR_xS q3 (by rw [xr_eq (q4 0 (by omega)), k4]; exact h.2.1) k5 k6 k7 k8⟩
        · unfold fX9_move
          exact e_cr (cv_hasPerson hw hp) (e_f (by decide) (e_cr (cv_isPlace ha) (e_f (by decide) (e_rd (k := p) rfl (by omega) hat (e_t hne (e_cv k1 (e_cv q1 rfl)))))))
        · unfold fX10_move
          exact e_cr (rv_isPerson_t hw.i hp) (e_f (by decide) (e_cr (rv_isPlace_t ha) (e_f (by decide) (e_rd (k := 32 + p) (nI_add 32 p) (by omega) hat2 (e_t hne (e_cv k2 (e_cv q2 rfl)))))))
theorem teach_both (hN : 1000 ≤ N) (h : RR I J) (v1 v2 : Int32) : ∃ v I' J', fX9_teach v1 v2 I = some (v, I') ∧ fX10_teach N v1 v2 J = some (v, J') ∧ RR I' J' := by
  have hw := h.1
  have hP := hw.i.nPB
  have hW := hw.i.nWB
  rcases oN_or v1 (n := xr (J 1) 63) (by omega) with ho | ⟨p, hp, rfl⟩
  · refine ⟨nI 0, I, J, ?_, ?_, h⟩
    · unfold fX9_teach
      exact e_cr (cv_hasPerson_o hw ho) (e_t rfl rfl)
    · unfold fX10_teach
      exact e_cr (rv_isPerson_o hw.i ho) (e_t rfl rfl)
  · rcases oN_or v2 (n := xr (J 1) 62) (by omega) with ho | ⟨k, hk, rfl⟩
    · refine ⟨nI 0, I, J, ?_, ?_, h⟩
      · unfold fX9_teach
        exact e_cr (cv_hasPerson hw hp) (e_f (by decide) (e_cr (cv_hasWord_o hw ho) (e_t rfl rfl)))
      · unfold fX10_teach
        exact e_cr (rv_isPerson_t hw.i hp) (e_f (by decide) (e_cr (rv_isWord_o hw.i ho) (e_t rfl rfl)))
    · have hl1 := cv_hasLapsed hw (k := k) (by omega)
      have hl2 := rv_hasLapsed hw.i (k := k) (by omega)
      have ht1 := cv_hasInTongue hw hp (k := k) (by omega)
      have ht2 := rv_has hw.i (p := p) (k := k) (by omega) (by omega)
      cases hl : (xr (J 1) 3).testBit k with
      | true =>
        rw [hl] at hl1 hl2
        refine ⟨nI 0, I, J, ?_, ?_, h⟩
        · unfold fX9_teach
          exact e_cr (cv_hasPerson hw hp) (e_f (by decide) (e_cr (cv_hasWord hw hk) (e_f (by decide) (e_cr hl1 (e_t (by decide) rfl)))))
        · unfold fX10_teach
          exact e_cr (rv_isPerson_t hw.i hp) (e_f (by decide) (e_cr (rv_isWord_t hw.i hk) (e_f (by decide) (e_cr hl2 (e_t (by decide) rfl)))))
      | false =>
        rw [hl] at hl1 hl2
        cases ht : (xr (J 1) (42 + p)).testBit k with
        | true =>
          rw [ht] at ht1 ht2
          refine ⟨nI 0, I, J, ?_, ?_, h⟩
          · unfold fX9_teach
            exact e_cr (cv_hasPerson hw hp) (e_f (by decide) (e_cr (cv_hasWord hw hk) (e_f (by decide) (e_cr hl1 (e_f (by decide) (e_cr ht1 (e_f (by decide) rfl)))))))
          · unfold fX10_teach
            exact e_cr (rv_isPerson_t hw.i hp) (e_f (by decide) (e_cr (rv_isWord_t hw.i hk) (e_f (by decide) (e_cr hl2 (e_f (by decide) (e_cr ht2 (e_f (by decide) rfl)))))))
        | false =>
          rw [ht] at ht1 ht2
          obtain ⟨I2, J2, k1, k2, k3, k4, k5, k6, k7, k8⟩ := keep_both hN h
          obtain ⟨I3, J3, q1, q2, q3⟩ := learn_sim k3 (by omega) (p := p) (k := k) (by rw [k4]; exact hp) (by rw [k4]; exact hk)
          refine ⟨nI 1, I3, J3, ?_, ?_, RR_xS q3.1 ?_ k5 k6 k7 k8⟩
          · unfold fX9_teach
            exact e_cr (cv_hasPerson hw hp) (e_f (by decide) (e_cr (cv_hasWord hw hk) (e_f (by decide) (e_cr hl1 (e_f (by decide) (e_cr ht1 (e_t (by decide) (e_cv k1 (e_cv q1 rfl)))))))))
          · unfold fX10_teach
            refine e_cr (rv_isPerson_t hw.i hp) (e_f (by decide) (e_cr (rv_isWord_t hw.i hk) (e_f (by decide) (e_cr hl2 (e_f (by decide) (e_cr ht2 (e_t (by decide) (e_cv k2 ?_))))))))
            exact (q2 _ (fun I8 => some (nI 1, I8))).trans rfl
          · rw [xr_eq q3.2, k4]
            exact h.2.1
theorem carve_both (hN : 1000 ≤ N) (h : RR I J) (v1 : Int32) : ∃ v I' J', fX9_carve v1 I = some (v, I') ∧ fX10_carve N v1 J = some (v, J') ∧ RR I' J' := by
  have hw := h.1
  have hW := hw.i.nWB
  rcases oN_or v1 (n := xr (J 1) 62) (by omega) with ho | ⟨k, hk, rfl⟩
  · refine ⟨nI 0, I, J, ?_, ?_, h⟩
    · unfold fX9_carve
      exact e_cr (cv_hasWord_o hw ho) (e_t rfl rfl)
    · unfold fX10_carve
      exact e_cr (rv_isWord_o hw.i ho) (e_t rfl rfl)
  · have hl1 := cv_hasLapsed hw (k := k) (by omega)
    have hl2 := rv_hasLapsed hw.i (k := k) (by omega)
    cases hl : (xr (J 1) 3).testBit k with
    | false =>
      rw [hl] at hl1 hl2
      refine ⟨nI 0, I, J, ?_, ?_, h⟩
      · unfold fX9_carve
        exact e_cr (cv_hasWord hw hk) (e_f (by decide) (e_cr hl1 (e_f (fun z => z rfl) rfl)))
      · unfold fX10_carve
        exact e_cr (rv_isWord_t hw.i hk) (e_f (by decide) (e_cr hl2 (e_f (fun z => z rfl) rfl)))
    | true =>
      rw [hl] at hl1 hl2
      obtain ⟨I2, J2, k1, k2, k3, k4, k5, k6, k7, k8⟩ := keep_both hN h
      obtain ⟨I3, J3, q1, q2, q3⟩ := revive_sim k3 (by omega) (k := k) (by rw [k4]; exact hk)
      refine ⟨nI 1, I3, J3, ?_, ?_, RR_xS q3.1 ?_ k5 k6 k7 k8⟩
      · unfold fX9_carve
        exact e_cr (cv_hasWord hw hk) (e_f (by decide) (e_cr hl1 (e_t (by decide) (e_cv k1 (e_cv q1 rfl)))))
      · unfold fX10_carve
        refine e_cr (rv_isWord_t hw.i hk) (e_f (by decide) (e_cr hl2 (e_t (by decide) (e_cv k2 ?_))))
        exact (q2 _ (fun I7 => some (nI 1, I7))).trans rfl
      · rw [xr_eq q3.2, k4]
        exact h.2.1
end
