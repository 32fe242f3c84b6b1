-- ===== texts: the reference's next token =====
def TQ (t : Nat) (c : Nat → Nat) (J : xc_M) : Prop := J 0 18 = nI t ∧ t ≤ 400 ∧ ∀ j, j < t → c j < 256 ∧ J 10 j = nI (c j)
def nfr (J J' : xc_M) : Prop := (∀ a, a ≠ 0 → J' a = J a) ∧ ∀ k, k ≠ 19 → k ≠ 20 → k ≠ 21 → k ≠ 22 → J' 0 k = J 0 k
theorem nfr_wr {J J' : xc_M} {k : Nat} {v : Int32} (h : nfr J J') (hk : k = 19 ∨ k = 20 ∨ k = 21 ∨ k = 22) : nfr J (xc_wr J' 0 k v) := ⟨fun a ha => by rw [xp_wr_cell ha, h.1 a ha], fun j h1 h2 h3 h4 => by rw [xp_wr_k (by omega), h.2 j h1 h2 h3 h4]⟩
theorem nfr_refl (J : xc_M) : nfr J J := ⟨fun _ _ => rfl, fun _ _ _ _ _ => rfl⟩
theorem nfr_trans {J K L : xc_M} (h : nfr J K) (h2 : nfr K L) : nfr J L := ⟨fun a ha => (h2.1 a ha).trans (h.1 a ha), fun j j1 j2 j3 j4 => (h2.2 j j1 j2 j3 j4).trans (h.2 j j1 j2 j3 j4)⟩
section
variable {N t : Nat} {c : Nat → Nat} {J : xc_M}
theorem TQ_n {J' : xc_M} (h : TQ t c J) (hf : nfr J J') : TQ t c J' := ⟨(hf.2 18 (by omega) (by omega) (by omega) (by omega)).trans h.1, h.2.1, fun j hj => ⟨(h.2.2 j hj).1, by rw [hf.1 10 (by omega)]; exact (h.2.2 j hj).2⟩⟩
theorem rv_see (h : TQ t c J) {p : Nat} (hp : p < t) : fX10_see J (nI p) = some (nI (c p)) := by
  have ht := h.2.1
  unfold fX10_see
  rw [h.1]
  exact e_f (by rw [xp_le (by omega) (by omega)]; omega) (e_rd (k := p) rfl (by omega) (h.2.2 p hp).2 rfl)
theorem rv_seeE (h : TQ t c J) {p : Nat} (hp : t ≤ p) (hp2 : p < 2 ^ 31) : fX10_see J (nI p) = some mI := by
  have ht := h.2.1
  unfold fX10_see
  rw [h.1]
  exact e_t (by rw [xp_le (by omega) (by omega)]; omega) rfl
theorem nx_26 {p : Nat} (k0 : xc_M → Option (Int32 × xc_M)) (h19 : J 0 19 = nI p) : bX10_next0_26 N k0 J = k0 (xc_wr J 0 19 (nI (p + 1))) := by
  rw [bX10_next0_26, h19]
  exact e_mw (nI_add p 1) rfl
/-- letters to their end, then the word -/
theorem nx_76 {rd q : Nat} (hN : 1000 ≤ N) (hrd : rd < 4) (hq : q < t) : ∀ d p fu (J : xc_M), TQ t c J → J 0 14 = nI rd → J 0 21 = nI q → J 0 19 = nI p → q + 1 ≤ p → p + d = t → d < fu → ∃ J', lX10_next0_76 N fu J = some (nI 0, J') ∧ nfr J J' ∧ J' 0 21 = nI q ∧ J' 0 19 = nI (ruP isL c d p) ∧ J' 0 20 = nI (tm rd (kwN c q (ruP isL c d p) 0 23)) := by
  intro d
  induction d with
  | zero =>
    intro p fu J h h14 h21 h19 hp hpt hf
    obtain ⟨g, rfl⟩ : ∃ g, fu = g + 1 := ⟨fu - 1, by omega⟩
    have ht := h.2.1
    have hw := rv_word0 (N := N) (J := J) (c := c) (q := q) (e := p) hN hrd h14 h19 h21 (by omega) (by omega) (fun j j1 j2 => ⟨(h.2.2 j (by omega)).2, (h.2.2 j (by omega)).1⟩)
    refine ⟨xc_wr J 0 20 (nI (tm rd (kwN c q p 0 23))), ?_, nfr_wr (nfr_refl J) (by omega), by rw [xp_wr_k (by omega)]; exact h21, by rw [xp_wr_k (by omega)]; exact h19, xp_wr_s _ _ _ _⟩
    rw [lX10_next0_76, bX10_next0_76, h19]
    exact e_cr (rv_seeE h (by omega) (by omega)) (e_cr (v := nI 0) (by decide) (e_t rfl (e_cr hw (e_mw rfl rfl))))
  | succ d ih =>
    intro p fu J h h14 h21 h19 hp hpt hf
    obtain ⟨g, rfl⟩ : ∃ g, fu = g + 1 := ⟨fu - 1, by omega⟩
    have ht := h.2.1
    obtain ⟨_, _, l3, _⟩ := lt_x (h.2.2 p (by omega)).1
    have e : ruP isL c (d + 1) p = if isL (c p) = true then ruP isL c d (p + 1) else p := rfl
    rw [e]
    cases hl : isL (c p) with
    | true =>
      rw [hl] at l3
      rw [if_pos btt]
      have hf2 := nfr_wr (v := nI (p + 1)) (nfr_refl J) (show (19 : Nat) = 19 ∨ (19 : Nat) = 20 ∨ (19 : Nat) = 21 ∨ (19 : Nat) = 22 by omega)
      obtain ⟨J', j1, j2, j3, j4, j5⟩ := ih (p + 1) g (xc_wr J 0 19 (nI (p + 1))) (TQ_n h hf2) (by rw [xp_wr_k (by omega)]; exact h14) (by rw [xp_wr_k (by omega)]; exact h21) (xp_wr_s _ _ _ _) (by omega) (by omega) (by omega)
      refine ⟨J', ?_, nfr_trans hf2 j2, j3, j4, j5⟩
      rw [lX10_next0_76, bX10_next0_76, h19]
      exact e_cr (rv_see h (by omega)) (e_cr l3 (e_f (by decide) (e_mw (nI_add p 1) j1)))
    | false =>
      rw [hl] at l3
      rw [if_neg bff]
      have hw := rv_word0 (N := N) (J := J) (c := c) (q := q) (e := p) hN hrd h14 h19 h21 (by omega) (by omega) (fun j j1 j2 => ⟨(h.2.2 j (by omega)).2, (h.2.2 j (by omega)).1⟩)
      refine ⟨xc_wr J 0 20 (nI (tm rd (kwN c q p 0 23))), ?_, nfr_wr (nfr_refl J) (by omega), by rw [xp_wr_k (by omega)]; exact h21, by rw [xp_wr_k (by omega)]; exact h19, xp_wr_s _ _ _ _⟩
      rw [lX10_next0_76, bX10_next0_76, h19]
      exact e_cr (rv_see h (by omega)) (e_cr l3 (e_t rfl (e_cr hw (e_mw rfl rfl))))
/-- the end of digits -/
theorem nx_208 {p q : Nat} (h19 : J 0 19 = nI p) (h21 : J 0 21 = nI q) (hqp : q ≤ p) (hp : p < 1000) : (if (5 : Int32) ≤ ((J 0 19) - (J 0 21)) then (bX10_next0_208 N 1 J) else (bX10_next0_208 N 2 J)) = some (nI 0, xc_wr J 0 20 (nI (if p - q < 5 then 2 else 1))) := by
  rw [h19, h21, pk_sub hqp]
  have e : ((5 : Int32) ≤ nI (p - q)) = (5 ≤ p - q) := xp_le (a := 5) (by omega) (by omega)
  by_cases h5 : p - q < 5
  · rw [if_pos h5]
    exact e_f (by rw [e]; omega) (by rw [bX10_next0_208]; exact e_mw rfl rfl)
  · rw [if_neg h5]
    exact e_t (by rw [e]; omega) (by rw [bX10_next0_208]; exact e_mw rfl rfl)
theorem nx_126 {q : Nat} (hN : 1000 ≤ N) (hq : q < t) : ∀ d p fu (J : xc_M), TQ t c J → J 0 21 = nI q → J 0 19 = nI p → J 0 22 = nI (numV c q (min 4 (p - q))) → q ≤ p → p + d = t → d < fu → ∃ J', lX10_next0_126 N fu J = some (nI 0, J') ∧ nfr J J' ∧ J' 0 21 = nI q ∧ J' 0 19 = nI (ruP isD c d p) ∧ J' 0 20 = nI (if ruP isD c d p - q < 5 then 2 else 1) ∧ J' 0 22 = nI (numV c q (min 4 (ruP isD c d p - q))) := by
  intro d
  induction d with
  | zero =>
    intro p fu J h h21 h19 h22 hp hpt hf
    obtain ⟨g, rfl⟩ : ∃ g, fu = g + 1 := ⟨fu - 1, by omega⟩
    have ht := h.2.1
    refine ⟨xc_wr J 0 20 (nI (if p - q < 5 then 2 else 1)), ?_, nfr_wr (nfr_refl J) (by omega), by rw [xp_wr_k (by omega)]; exact h21, by rw [xp_wr_k (by omega)]; exact h19, xp_wr_s _ _ _ _, by rw [xp_wr_k (by omega)]; exact h22⟩
    rw [lX10_next0_126, bX10_next0_126]
    exact e_cr (by rw [h19]; exact rv_seeE h (by omega) (by omega)) (e_cr (v := nI 0) (by decide) (e_t rfl (nx_208 h19 h21 (by omega) (by omega))))
  | succ d ih =>
    intro p fu J h h21 h19 h22 hp hpt hf
    obtain ⟨g, rfl⟩ : ∃ g, fu = g + 1 := ⟨fu - 1, by omega⟩
    have ht := h.2.1
    obtain ⟨_, _, _, l4, _⟩ := lt_x (h.2.2 p (by omega)).1
    have e : ruP isD c (d + 1) p = if isD (c p) = true then ruP isD c d (p + 1) else p := rfl
    rw [e]
    cases hl : isD (c p) with
    | true =>
      rw [hl] at l4
      rw [if_pos btt]
      obtain ⟨d1, d2⟩ := dig_48 hl
      by_cases h4 : p < q + 4
      · have hv : numV c q (min 4 (p + 1 - q)) = numV c q (min 4 (p - q)) * 10 + c p - 48 := by
          rw [show min 4 (p + 1 - q) = (p - q) + 1 by omega, show min 4 (p - q) = p - q by omega]
          show numV c q (p - q) * 10 + c (q + (p - q)) - 48 = _
          rw [show q + (p - q) = p by omega]
        have hf2 := nfr_wr (v := nI (p + 1)) (nfr_wr (v := nI (numV c q (min 4 (p + 1 - q)))) (nfr_refl J) (show (22 : Nat) = 19 ∨ (22 : Nat) = 20 ∨ (22 : Nat) = 21 ∨ (22 : Nat) = 22 by omega)) (show (19 : Nat) = 19 ∨ (19 : Nat) = 20 ∨ (19 : Nat) = 21 ∨ (19 : Nat) = 22 by omega)
        obtain ⟨J', j1, j2, j3, j4, j5, j6⟩ := ih (p + 1) g (xc_wr (xc_wr J 0 22 (nI (numV c q (min 4 (p + 1 - q))))) 0 19 (nI (p + 1))) (TQ_n h hf2) (by rw [xp_wr_k (by omega), xp_wr_k (by omega)]; exact h21) (xp_wr_s _ _ _ _) (by rw [xp_wr_k (by omega), xp_wr_s]) (by omega) (by omega) (by omega)
        refine ⟨J', ?_, nfr_trans hf2 j2, j3, j4, j5, j6⟩
        rw [lX10_next0_126, bX10_next0_126]
        refine e_cr (by rw [h19]; exact rv_see h (by omega)) (e_cr l4 (e_f (by decide) (e_f ?_ (e_cr (by rw [h19]; exact rv_see h (by omega)) (e_mw (v := nI (numV c q (min 4 (p + 1 - q)))) ?_ ?_)))))
        · rw [h21, h19, show nI q + 4 = nI (q + 4) from nI_add q 4, xp_le (by omega) (by omega)]
          omega
        · rw [h22, hv]
          show nI 10 * nI _ + nI (c p) - nI 48 = _
          rw [pk_mul, nI_add, pk_sub (by omega)]
          congr 1
          omega
        · rw [bX10_next0_176]
          refine e_mw (v := nI (p + 1)) ?_ j1
          rw [xp_wr_k (by omega), h19]
          exact nI_add p 1
      · have hv : min 4 (p + 1 - q) = min 4 (p - q) := by omega
        have hf2 := nfr_wr (v := nI (p + 1)) (nfr_refl J) (show (19 : Nat) = 19 ∨ (19 : Nat) = 20 ∨ (19 : Nat) = 21 ∨ (19 : Nat) = 22 by omega)
        obtain ⟨J', j1, j2, j3, j4, j5, j6⟩ := ih (p + 1) g (xc_wr J 0 19 (nI (p + 1))) (TQ_n h hf2) (by rw [xp_wr_k (by omega)]; exact h21) (xp_wr_s _ _ _ _) (by rw [xp_wr_k (by omega), hv]; exact h22) (by omega) (by omega) (by omega)
        refine ⟨J', ?_, nfr_trans hf2 j2, j3, j4, j5, j6⟩
        rw [lX10_next0_126, bX10_next0_126]
        refine e_cr (by rw [h19]; exact rv_see h (by omega)) (e_cr l4 (e_f (by decide) (e_t ?_ ?_)))
        · rw [h21, h19, show nI q + 4 = nI (q + 4) from nI_add q 4, xp_le (by omega) (by omega)]
          omega
        · rw [bX10_next0_176, h19]
          exact e_mw (nI_add p 1) j1
    | false =>
      rw [hl] at l4
      rw [if_neg bff]
      refine ⟨xc_wr J 0 20 (nI (if p - q < 5 then 2 else 1)), ?_, nfr_wr (nfr_refl J) (by omega), by rw [xp_wr_k (by omega)]; exact h21, by rw [xp_wr_k (by omega)]; exact h19, xp_wr_s _ _ _ _, by rw [xp_wr_k (by omega)]; exact h22⟩
      rw [lX10_next0_126, bX10_next0_126]
      exact e_cr (by rw [h19]; exact rv_see h (by omega)) (e_cr l4 (e_t rfl (nx_208 h19 h21 (by omega) (by omega))))
theorem sg_in {x : Nat} (h : sgB x = true) : x = 59 ∨ x = 43 ∨ x = 45 ∨ x = 42 ∨ x = 47 ∨ x = 40 ∨ x = 41 ∨ x = 60 ∨ x = 61 ∨ x = 62 := by
  obtain ⟨i, hi, hp⟩ := (anyB_iff _ _).mp h
  have e := of_decide_eq_true hp
  have hc : i = 0 ∨ i = 1 ∨ i = 2 ∨ i = 3 ∨ i = 4 ∨ i = 5 ∨ i = 6 ∨ i = 7 ∨ i = 8 ∨ i = 9 := by omega
  rw [← e]
  rcases hc with z | z | z | z | z | z | z | z | z | z <;> subst z <;> decide
theorem sg_out {x : Nat} (h : sgB x = false) : x ≠ 59 ∧ x ≠ 43 ∧ x ≠ 45 ∧ x ≠ 42 ∧ x ≠ 47 ∧ x ≠ 40 ∧ x ≠ 41 ∧ x ≠ 60 ∧ x ≠ 61 ∧ x ≠ 62 := by
  refine ⟨?_, ?_, ?_, ?_, ?_, ?_, ?_, ?_, ?_, ?_⟩ <;> (intro z; subst z; revert h; decide)
/-- the sign read -/
def sgC (N x : Nat) (I8 : xc_M) : Option (Int32 × xc_M) := (if nI x = (59 : Int32) then (bX10_next0_284 N (nI x) I8) else (if nI x = (43 : Int32) then (bX10_next0_284 N (nI x) I8) else (if nI x = (45 : Int32) then (bX10_next0_284 N (nI x) I8) else (if nI x = (42 : Int32) then (bX10_next0_284 N (nI x) I8) else (if nI x = (47 : Int32) then (bX10_next0_284 N (nI x) I8) else (if nI x = (40 : Int32) then (bX10_next0_284 N (nI x) I8) else (if nI x = (41 : Int32) then (bX10_next0_284 N (nI x) I8) else (if nI x = (60 : Int32) then (bX10_next0_284 N (nI x) I8) else (if nI x = (61 : Int32) then (bX10_next0_284 N (nI x) I8) else (if nI x ≠ (62 : Int32) then (bX10_next0_289 N (nI x) 0 I8) else (bX10_next0_284 N (nI x) I8)))))))))))
theorem sgC_t {x : Nat} (I8 : xc_M) (hx : x < 256) (rd : Nat) : sgC N x I8 = some (nI 0, xc_wr I8 0 20 (nI (tm rd (if sgB x = true then x else 1)))) := by
  cases hs : sgB x with
  | true =>
    have h3 := sg_x hx hs
    have h284 : bX10_next0_284 N (nI x) I8 = some (nI 0, xc_wr I8 0 20 (nI (tm rd x))) := by
      have e : tm rd x = 100 + x := by
        unfold tm
        rw [if_neg (by omega), if_neg (by omega)]
      rw [bX10_next0_284, bX10_next0_289, e]
      exact e_lt rfl (e_f (by decide) (e_mw (nI_add 100 x) rfl))
    rw [if_pos btt]
    unfold sgC
    rcases sg_in hs with z | z | z | z | z | z | z | z | z | z <;> subst z
    · exact e_t rfl h284
    · exact e_f (by decide) (e_t rfl h284)
    · exact e_f (by decide) (e_f (by decide) (e_t rfl h284))
    · exact e_f (by decide) (e_f (by decide) (e_f (by decide) (e_t rfl h284)))
    · exact e_f (by decide) (e_f (by decide) (e_f (by decide) (e_f (by decide) (e_t rfl h284))))
    · exact e_f (by decide) (e_f (by decide) (e_f (by decide) (e_f (by decide) (e_f (by decide) (e_t rfl h284)))))
    · exact e_f (by decide) (e_f (by decide) (e_f (by decide) (e_f (by decide) (e_f (by decide) (e_f (by decide) (e_t rfl h284))))))
    · exact e_f (by decide) (e_f (by decide) (e_f (by decide) (e_f (by decide) (e_f (by decide) (e_f (by decide) (e_f (by decide) (e_t rfl h284)))))))
    · exact e_f (by decide) (e_f (by decide) (e_f (by decide) (e_f (by decide) (e_f (by decide) (e_f (by decide) (e_f (by decide) (e_f (by decide) (e_t rfl h284))))))))
    · exact e_f (by decide) (e_f (by decide) (e_f (by decide) (e_f (by decide) (e_f (by decide) (e_f (by decide) (e_f (by decide) (e_f (by decide) (e_f (by decide) (e_f (by decide) h284)))))))))
  | false =>
    have hne : ∀ m, m < 256 → x ≠ m → ¬ nI x = nI m := fun m hm h => by rw [xp_eq (by omega) (by omega)]; exact h
    obtain ⟨n1, n2, n3, n4, n5, n6, n7, n8, n9, n10⟩ := sg_out hs
    rw [if_neg bff]
    unfold sgC
    refine e_f (hne 59 (by omega) n1) (e_f (hne 43 (by omega) n2) (e_f (hne 45 (by omega) n3) (e_f (hne 42 (by omega) n4) (e_f (hne 47 (by omega) n5) (e_f (hne 40 (by omega) n6) (e_f (hne 41 (by omega) n7) (e_f (hne 60 (by omega) n8) (e_f (hne 61 (by omega) n9) (e_t (hne 62 (by omega) n10) ?_)))))))))
    rw [bX10_next0_289]
    exact e_lt rfl (e_t rfl (e_mw rfl rfl))
/-- what the reference sees next: at q, the token there -/
def nxE (c : Nat → Nat) (t rd q : Nat) (J' : xc_M) : Prop := J' 0 21 = nI q ∧ (t ≤ q → J' 0 20 = nI 0) ∧ (q < t → J' 0 20 = nI (tm rd (tkK c t q)) ∧ J' 0 19 = nI (tkE c t q) ∧ (tkK c t q = 2 → J' 0 22 = nI (tkV c t q)))
theorem nx_tok {rd q fu : Nat} (hN : 1000 ≤ N) (hrd : rd < 4) (h : TQ t c J) (h14 : J 0 14 = nI rd) (h19 : J 0 19 = nI q) (hq : q ≤ t) (hb : q < t → isBl (c q) = false) : ∃ J', lX10_next0_0 N (fu + 1) J = some (nI 0, J') ∧ nfr J J' ∧ nxE c t rd q J' := by
  have ht := h.2.1
  have hf2 := nfr_wr (v := nI q) (nfr_refl J) (show (21 : Nat) = 19 ∨ (21 : Nat) = 20 ∨ (21 : Nat) = 21 ∨ (21 : Nat) = 22 by omega)
  have h3 := TQ_n h hf2
  have h319 : (xc_wr J 0 21 (nI q)) 0 19 = nI q := by rw [xp_wr_k (by omega)]; exact h19
  have h314 : (xc_wr J 0 21 (nI q)) 0 14 = nI rd := by rw [xp_wr_k (by omega)]; exact h14
  rw [lX10_next0_0]
  by_cases hqt : q < t
  · have hc := (h.2.2 q hqt).1
    obtain ⟨_, _, l3, l4, x5, _, x7⟩ := lt_x hc
    rw [hb hqt] at x7
    have hb3 := x7.symm
    rw [Bool.or_eq_false_iff] at hb3
    have n32 := of_decide_eq_false hb3.1
    have n10 := of_decide_eq_false hb3.2
    have hspL := ruP_spec isL c (t - (q + 1)) (q + 1)
    have hspD := ruP_spec isD c (t - (q + 1)) (q + 1)
    have hm1 : nI (c q) ≠ ((-1) : Int32) := by
      show nI (c q) ≠ mI
      rw [ne_eq, xp_nm1 (by omega)]
      exact fun z => z
    have hgo : ∀ r, (xc_cr (fX10_isLetter (nI (c q))) fun x6 => (if x6 = (0 : Int32) then xc_cr (fX10_isDigit (nI (c q))) fun x7 => (if x7 = (0 : Int32) then xc_mw (xc_wr J 0 21 (nI q)) 0 19 (((xc_wr J 0 21 (nI q)) 0 19) + 1) fun I8 => sgC N (c q) I8 else xc_mw (xc_wr J 0 21 (nI q)) 0 22 0 fun I9 => (lX10_next0_126 N N I9)) else (lX10_next0_76 N N (xc_wr J 0 21 (nI q))))) = some r → bX10_next0_0 N (lX10_next0_0 N fu) J = some r := by
      intro r hr
      rw [bX10_next0_0]
      refine e_cr (by rw [h19]; exact rv_see h hqt) (e_f n32 (e_cr (by rw [h19]; exact rv_see h hqt) (e_t n10 (e_mw h19 (e_cr (by rw [h319]; exact rv_see h3 hqt) (e_lt rfl (e_t hm1 hr)))))))
    cases hl : isL (c q) with
    | true =>
      rw [hl] at l3
      -- the loop begins at q itself
      obtain ⟨M, rfl⟩ : ∃ M, N = M + 1 := ⟨N - 1, by omega⟩
      obtain ⟨J', j1, j2, j3, j4, j5⟩ := nx_76 (N := M + 1) hN hrd hqt (t - (q + 1)) (q + 1) M (xc_wr (xc_wr J 0 21 (nI q)) 0 19 (nI (q + 1))) (TQ_n h3 (nfr_wr (nfr_refl _) (by omega))) (by rw [xp_wr_k (by omega)]; exact h314) (by rw [xp_wr_k (by omega), xp_wr_s]) (xp_wr_s _ _ _ _) (by omega) (by omega) (by omega)
      have hE : tkE c t q = ruP isL c (t - (q + 1)) (q + 1) := by unfold tkE; rw [hl, if_pos btt]
      have hK : tkK c t q = kwN c q (ruP isL c (t - (q + 1)) (q + 1)) 0 23 := by unfold tkK; rw [hl, if_pos btt, hE]
      refine ⟨J', hgo _ (e_cr l3 (e_f (by decide) ?_)), nfr_trans hf2 (nfr_trans (nfr_wr (nfr_refl _) (by omega)) j2), j3, fun z => absurd z (by omega), fun _ => ⟨by rw [hK]; exact j5, by rw [hE]; exact j4, fun z => ?_⟩⟩
      · rw [lX10_next0_76, bX10_next0_76, h319]
        exact e_cr (rv_see h3 hqt) (e_cr l3 (e_f (by decide) (e_mw (nI_add q 1) j1)))
      · rw [hK] at z
        rcases kwN_spec c q (ruP isL c (t - (q + 1)) (q + 1)) 23 0 with ⟨k1, _⟩ | ⟨i, _, _, k1, _⟩
        · omega
        · omega
    | false =>
      rw [hl] at l3
      cases hd : isD (c q) with
      | true =>
        rw [hd] at l4
        obtain ⟨J', j1, j2, j3, j4, j5, j6⟩ := nx_126 (N := N) (c := c) hN hqt (t - q) q N (xc_wr (xc_wr J 0 21 (nI q)) 0 22 (nI 0)) (TQ_n h3 (nfr_wr (nfr_refl _) (by omega))) (by rw [xp_wr_k (by omega), xp_wr_s]) (by rw [xp_wr_k (by omega)]; exact h319) (by rw [xp_wr_s, Nat.sub_self]; rfl) (by omega) (by omega) (by omega)
        have hr : ruP isD c (t - q) q = ruP isD c (t - (q + 1)) (q + 1) := by
          rw [show t - q = (t - (q + 1)) + 1 by omega]
          show (if isD (c q) = true then ruP isD c (t - (q + 1)) (q + 1) else q) = _
          rw [hd, if_pos btt]
        rw [hr] at j4 j5 j6
        have hE : tkE c t q = ruP isD c (t - (q + 1)) (q + 1) := by unfold tkE; rw [hl, hd, if_neg bff, if_pos btt]
        have hK : tkK c t q = if ruP isD c (t - (q + 1)) (q + 1) - q < 5 then 2 else 1 := by unfold tkK; rw [hl, hd, if_neg bff, if_pos btt, hE]
        have hV : tkV c t q = numV c q (min 4 (ruP isD c (t - (q + 1)) (q + 1) - q)) := by unfold tkV; rw [hl, hd, if_neg bff, if_pos btt, hE]
        refine ⟨J', hgo _ (e_cr l3 (e_t rfl (e_cr l4 (e_f (by decide) (e_mw rfl j1))))), nfr_trans hf2 (nfr_trans (nfr_wr (nfr_refl _) (by omega)) j2), j3, fun z => absurd z (by omega), fun _ => ⟨?_, by rw [hE]; exact j4, fun _ => by rw [hV]; exact j6⟩⟩
        rw [j5, hK]
        congr 1
        unfold tm
        split <;> rfl
      | false =>
        rw [hd] at l4
        have hE : tkE c t q = q + 1 := by unfold tkE; rw [hl, hd, if_neg bff, if_neg bff]
        have hK : tkK c t q = if sgB (c q) = true then c q else 1 := by unfold tkK; rw [hl, hd, if_neg bff, if_neg bff]
        refine ⟨xc_wr (xc_wr (xc_wr J 0 21 (nI q)) 0 19 (nI (q + 1))) 0 20 (nI (tm rd (if sgB (c q) = true then c q else 1))), hgo _ (e_cr l3 (e_t rfl (e_cr l4 (e_t rfl (e_mw (by rw [h319]; exact nI_add q 1) (sgC_t _ hc rd)))))), nfr_wr (nfr_wr hf2 (by omega)) (by omega), by rw [xp_wr_k (by omega), xp_wr_k (by omega), xp_wr_s], fun z => absurd z (by omega), fun _ => ⟨by rw [xp_wr_s, hK], by rw [xp_wr_k (by omega), xp_wr_s, hE], fun z => ?_⟩⟩
        rw [hK] at z
        cases hs : sgB (c q) with
        | true =>
          rw [hs, if_pos btt] at z
          have := sg_x hc hs
          omega
        | false =>
          rw [hs, if_neg bff] at z
          omega
  · have hse : fX10_see J (nI q) = some mI := rv_seeE h (by omega) (by omega)
    have hse3 : fX10_see (xc_wr J 0 21 (nI q)) (nI q) = some mI := rv_seeE h3 (by omega) (by omega)
    refine ⟨xc_wr (xc_wr J 0 21 (nI q)) 0 20 (nI 0), ?_, nfr_wr hf2 (by omega), by rw [xp_wr_k (by omega), xp_wr_s], fun _ => xp_wr_s _ _ _ _, fun z => absurd z hqt⟩
    rw [bX10_next0_0]
    exact e_cr (by rw [h19]; exact hse) (e_f (by decide) (e_cr (by rw [h19]; exact hse) (e_t (by decide) (e_mw h19 (e_cr (by rw [h319]; exact hse3) (e_lt rfl (e_f (fun z => z rfl) (e_mw rfl rfl))))))))
theorem rv_next {rd p : Nat} (hN : 1000 ≤ N) (hrd : rd < 4) (h : TQ t c J) (h14 : J 0 14 = nI rd) (h19 : J 0 19 = nI p) (hp : p ≤ t) : ∃ J', fX10_next0 N J = some (nI 0, J') ∧ nfr J J' ∧ nxE c t rd (ruP isBl c (t - p) p) J' := by
  have key : ∀ d p fu (J : xc_M), TQ t c J → J 0 14 = nI rd → J 0 19 = nI p → p + d = t → d < fu → ∃ J', lX10_next0_0 N fu J = some (nI 0, J') ∧ nfr J J' ∧ nxE c t rd (ruP isBl c d p) J' := by
    intro d
    induction d with
    | zero =>
      intro p fu J h h14 h19 hp hf
      obtain ⟨g, rfl⟩ : ∃ g, fu = g + 1 := ⟨fu - 1, by omega⟩
      exact nx_tok (q := p) hN hrd h h14 h19 (by omega) (fun z => absurd z (by omega))
    | succ d ih =>
      intro p fu J h h14 h19 hp hf
      obtain ⟨g, rfl⟩ : ∃ g, fu = g + 1 := ⟨fu - 1, by omega⟩
      have e : ruP isBl c (d + 1) p = if isBl (c p) = true then ruP isBl c d (p + 1) else p := rfl
      rw [e]
      cases hb : isBl (c p) with
      | false =>
        rw [if_neg bff]
        exact nx_tok hN hrd h h14 h19 (by omega) (fun _ => hb)
      | true =>
        rw [if_pos btt]
        have hf2 := nfr_wr (v := nI (p + 1)) (nfr_refl J) (show (19 : Nat) = 19 ∨ (19 : Nat) = 20 ∨ (19 : Nat) = 21 ∨ (19 : Nat) = 22 by omega)
        obtain ⟨J', j1, j2, j3⟩ := ih (p + 1) g (xc_wr J 0 19 (nI (p + 1))) (TQ_n h hf2) (by rw [xp_wr_k (by omega)]; exact h14) (xp_wr_s _ _ _ _) (by omega) (by omega)
        refine ⟨J', ?_, nfr_trans hf2 j2, j3⟩
        obtain ⟨_, _, _, _, _, _, x7⟩ := lt_x (h.2.2 p (by omega)).1
        rw [hb] at x7
        rw [lX10_next0_0, bX10_next0_0]
        have h26 := (nx_26 (N := N) (lX10_next0_0 N g) h19).trans j1
        refine e_cr (by rw [h19]; exact rv_see h (by omega)) ?_
        by_cases h32 : nI (c p) = (32 : Int32)
        · exact e_t h32 h26
        · refine e_f h32 (e_cr (by rw [h19]; exact rv_see h (by omega)) (e_f ?_ h26))
          rw [decide_eq_false h32, Bool.false_or] at x7
          exact fun z => z (of_decide_eq_true x7.symm)
  have ht := h.2.1
  unfold fX10_next0
  exact key (t - p) p N J h h14 h19 (by omega) (by omega)
end
