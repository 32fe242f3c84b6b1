-- ===== texts: the class cuts =====
theorem bff : ¬ (false = true) := by decide
theorem btt : true = true := rfl
theorem lt_all : (List.range 256).all (fun x => decide (fX6_isLetter (nI x) = some (nI (isL x).toNat)) && decide (fX6_isDigit (nI x) = some (nI (isD x).toNat)) && decide (fX10_isLetter (nI x) = some (nI (isL x).toNat)) && decide (fX10_isDigit (nI x) = some (nI (isD x).toNat)) && (!isL x || !isD x) && (!isBl x || (!isL x && !isD x)) && decide (isBl x = (decide (nI x = 32) || decide (nI x = 10)))) = true := by decide +kernel
theorem lt_x {x : Nat} (hx : x < 256) : fX6_isLetter (nI x) = some (nI (isL x).toNat) ∧ fX6_isDigit (nI x) = some (nI (isD x).toNat) ∧ fX10_isLetter (nI x) = some (nI (isL x).toNat) ∧ fX10_isDigit (nI x) = some (nI (isD x).toNat) ∧ (isL x = true → isD x = false) ∧ (isBl x = true → isL x = false ∧ isD x = false) ∧ isBl x = (decide (nI x = 32) || decide (nI x = 10)) := by
  have h := List.all_eq_true.mp lt_all x (List.mem_range.mpr hx)
  simp only [Bool.and_eq_true] at h
  obtain ⟨⟨⟨⟨⟨⟨h1, h2⟩, h3⟩, h4⟩, h5⟩, h6⟩, h7⟩ := h
  refine ⟨of_decide_eq_true h1, of_decide_eq_true h2, of_decide_eq_true h3, of_decide_eq_true h4, fun hl => ?_, fun hb => ?_, of_decide_eq_true h7⟩
  · rw [hl] at h5
    simpa using h5
  · rw [hb] at h6
    simpa using h6
/-- the byte ahead -/
def pb (c : Nat → Nat) (p : Nat) : Nat := if p = 0 then 0 else c (p - 1)
def ins (a b : Nat) : Bool := (isL a && isL b) || (isD a && isD b)
def tabs (I : xc_M) : Nat → List (Nat × Nat × Nat) → Prop
  | _, [] => True
  | k, x :: r => I 133 k = nI x.1 ∧ I 134 k = nI x.2.1 ∧ I 135 k = nI x.2.2 ∧ tabs I (k + 1) r
theorem tabs_keep {I I' : xc_M} : ∀ {T : List (Nat × Nat × Nat)} {k : Nat}, (∀ a, a = 133 ∨ a = 134 ∨ a = 135 → ∀ j, k ≤ j → I' a j = I a j) → tabs I k T → tabs I' k T := by
  intro T
  induction T with
  | nil => exact fun _ _ => trivial
  | cons x r ih =>
    intro k h ht
    obtain ⟨h1, h2, h3, h4⟩ := ht
    exact ⟨(h 133 (by omega) k (by omega)).trans h1, (h 134 (by omega) k (by omega)).trans h2, (h 135 (by omega) k (by omega)).trans h3, ih (fun a ha j hj => h a ha j (by omega)) h4⟩
/-- but for the tokens -/
def frC (I I' : xc_M) : Prop := (∀ a, a ≠ 132 → a ≠ 133 → a ≠ 134 → a ≠ 135 → I' a = I a) ∧ ∀ j, j ≠ 2 → I' 132 j = I 132 j
section
variable {N t : Nat} {c : Nat → Nat} {I : xc_M}
theorem cv_addToken {k : Nat} (hk : k ≤ 400) (h : I 132 2 = nI k) (a b v : Nat) : ∃ I', fX6_addToken (nI a) (nI b) (nI v) I = some (nI 0, I') ∧ I' 132 2 = nI (k + 1) ∧ frC I I' ∧ I' 133 k = nI a ∧ I' 134 k = nI b ∧ I' 135 k = nI v ∧ ∀ a, a = 133 ∨ a = 134 ∨ a = 135 → ∀ j, j ≠ k → I' a j = I a j := by
  refine ⟨xc_wr (xc_wr (xc_wr (xc_wr I 133 k (nI a)) 134 k (nI b)) 135 k (nI v)) 132 2 (nI (k + 1)), ?_, xp_wr_s _ _ _ _, ⟨fun x h1 h2 h3 h4 => by rw [xp_wr_cell h1, xp_wr_cell h4, xp_wr_cell h3, xp_wr_cell h2], fun j hj => by rw [xp_wr_k hj, xp_wr_cell (by omega), xp_wr_cell (by omega), xp_wr_cell (by omega)]⟩, ?_, ?_, ?_, ?_⟩
  · unfold fX6_addToken
    rw [h]
    refine e_f (by rw [show (400 : Int32) = nI 400 from rfl, xp_ltI (by omega) (by omega)]; omega) (e_st (k := k) rfl (by omega) rfl (e_st (k := k) ?_ (by omega) rfl (e_st (k := k) ?_ (by omega) rfl (e_mw (v := nI (k + 1)) ?_ rfl))))
    · rw [xp_wr_cell (by omega)]
      exact h
    · rw [xp_wr_cell (by omega), xp_wr_cell (by omega)]
      exact h
    · rw [xp_wr_cell (by omega), xp_wr_cell (by omega), xp_wr_cell (by omega), h]
      exact nI_add k 1
  · rw [xp_wr_cell (by omega), xp_wr_cell (by omega), xp_wr_cell (by omega), xp_wr_s]
  · rw [xp_wr_cell (by omega), xp_wr_cell (by omega), xp_wr_s]
  · rw [xp_wr_cell (by omega), xp_wr_s]
  · intro x hx j hj
    rcases hx with z | z | z <;> subst z
    · rw [xp_wr_cell (by omega), xp_wr_cell (by omega), xp_wr_cell (by omega), xp_wr_k hj]
    · rw [xp_wr_cell (by omega), xp_wr_cell (by omega), xp_wr_k hj, xp_wr_cell (by omega)]
    · rw [xp_wr_cell (by omega), xp_wr_k hj, xp_wr_cell (by omega), xp_wr_cell (by omega)]
theorem cv_atB (h : TP t c I) {p : Nat} (hp : p < t) : fX5_at I (nI p - 1) = some (nI (pb c p)) := by
  unfold pb
  by_cases h0 : p = 0
  · rw [if_pos h0, h0]
    unfold fX5_at
    exact e_t (by decide) rfl
  · rw [if_neg h0, show (1 : Int32) = nI 1 from rfl, pk_sub (by omega)]
    exact cv_at h (by omega)
theorem pb_lt (h : TP t c I) {p : Nat} (hp : p < t) : pb c p < 256 := by
  unfold pb
  split
  · omega
  · exact (h.2.2 (p - 1) (by omega)).1
theorem cut_70 (h : TP t c I) {p : Nat} (hp : p < t) (k12 : Int32 → xc_M → Option (Int32 × xc_M)) : bX6_cut_12 N k12 (nI p) I = bX6_cut_70 N k12 (nI p) (nI (c p)) (nI (ins (c p) (pb c p)).toNat) I := by
  have ht := h.2.1
  have hc := (h.2.2 p hp).1
  have hb := pb_lt h hp
  obtain ⟨l1, l2, _⟩ := lt_x hc
  obtain ⟨m1, m2, _⟩ := lt_x hb
  rw [bX6_cut_12, h.1]
  refine e_f (by rw [xp_le (by omega) (by omega)]; omega) (e_cr (cv_at h hp) (e_lt rfl (e_cr (cv_atB h hp) (e_lt rfl (e_cr l1 ?_)))))
  have h50 : bX6_cut_50 N k12 (nI p) (nI (c p)) (nI (pb c p)) I = bX6_cut_70 N k12 (nI p) (nI (c p)) (nI (isD (c p) && isD (pb c p)).toNat) I := by
    rw [bX6_cut_50]
    refine e_cr l2 ?_
    cases isD (c p) with
    | false => exact e_t rfl rfl
    | true =>
      refine e_f (by decide) (e_cr m2 ?_)
      cases isD (pb c p) with
      | false => exact e_t rfl rfl
      | true => exact e_f (by decide) rfl
  unfold ins
  cases isL (c p) with
  | false => exact e_t rfl h50
  | true =>
    refine e_f (by decide) (e_cr m1 ?_)
    cases isL (pb c p) with
    | false => exact e_f (fun z => z rfl) h50
    | true => exact e_t (by decide) rfl
theorem cut_skip (h : TP t c I) {p : Nat} (hp : p < t) (hs : isBl (c p) = true ∨ ins (c p) (pb c p) = true) (fu : Nat) : lX6_cut_12 N (fu + 1) (nI p) I = lX6_cut_12 N fu (nI (p + 1)) I := by
  have hc := (h.2.2 p hp).1
  obtain ⟨_, _, _, _, _, _, hb⟩ := lt_x hc
  have h178 : bX6_cut_178 N (lX6_cut_12 N fu) (nI p) I = lX6_cut_12 N fu (nI (p + 1)) I := by
    rw [bX6_cut_178]
    exact e_lt (nI_add p 1) rfl
  rw [lX6_cut_12, cut_70 h hp, bX6_cut_70]
  refine e_lt rfl ?_
  by_cases h32 : nI (c p) = (32 : Int32)
  · exact e_t h32 h178
  · refine e_f h32 ?_
    by_cases h10 : nI (c p) = (10 : Int32)
    · exact e_t h10 h178
    · rw [decide_eq_false h32, decide_eq_false h10] at hb
      rcases hs with hs | hs
      · rw [hs] at hb
        cases hb
      · rw [hs]
        exact e_f h10 (e_f (by decide) h178)
theorem cut_skip2 (h : TP t c I) {p : Nat} (hp : p < t) (hs : isBl (c p) = true ∨ ins (c p) (pb c p) = true) (fu : Nat) : lX6_cut_12 N (fu + (t - p)) (nI p) I = lX6_cut_12 N (fu + (t - (p + 1))) (nI (p + 1)) I := by
  rw [show fu + (t - p) = fu + (t - (p + 1)) + 1 by omega]
  exact cut_skip h hp hs _
theorem cut_blank (h : TP t c I) (fu : Nat) : ∀ d p, p + d = t → lX6_cut_12 N (fu + (t - p)) (nI p) I = lX6_cut_12 N (fu + (t - ruP isBl c d p)) (nI (ruP isBl c d p)) I := by
  intro d
  induction d with
  | zero => exact fun _ _ => rfl
  | succ d ih =>
    intro p hp
    have e : ruP isBl c (d + 1) p = if isBl (c p) = true then ruP isBl c d (p + 1) else p := rfl
    rw [e]
    by_cases hb : isBl (c p) = true
    · rw [if_pos hb, cut_skip2 h (by omega) (Or.inl hb)]
      exact ih (p + 1) (by omega)
    · rw [if_neg hb]
theorem cut_in (h : TP t c I) (fu : Nat) : ∀ d p, (∀ j, p ≤ j → j < p + d → j < t ∧ ins (c j) (pb c j) = true) → lX6_cut_12 N (fu + (t - p)) (nI p) I = lX6_cut_12 N (fu + (t - (p + d))) (nI (p + d)) I := by
  intro d
  induction d with
  | zero => exact fun _ _ => rfl
  | succ d ih =>
    intro p hp
    obtain ⟨h1, h2⟩ := hp p (by omega) (by omega)
    rw [cut_skip2 h h1 (Or.inr h2), ih (p + 1) (fun j j1 j2 => hp j (by omega) (by omega)), show p + 1 + d = p + (d + 1) by omega]
theorem cv_endL (h : TP t c I) (hN : 1000 ≤ N) {q : Nat} (hq : q < t) : fX6_endOfLetters N I (nI q) = some (nI (ruP isL c (t - (q + 1)) (q + 1))) := by
  have ht := h.2.1
  have key : ∀ d p fu, p + d = t → d < fu → lX6_endOfLetters_4 N I fu (nI p) = some (nI (ruP isL c d p)) := by
    intro d
    induction d with
    | zero =>
      intro p fu hp hf
      obtain ⟨g, rfl⟩ : ∃ g, fu = g + 1 := ⟨fu - 1, by omega⟩
      rw [lX6_endOfLetters_4, bX6_endOfLetters_4, h.1]
      exact e_t (by rw [xp_le (by omega) (by omega)]; omega) rfl
    | succ d ih =>
      intro p fu hp hf
      obtain ⟨g, rfl⟩ : ∃ g, fu = g + 1 := ⟨fu - 1, by omega⟩
      obtain ⟨l1, _⟩ := lt_x (h.2.2 p (by omega)).1
      rw [lX6_endOfLetters_4, bX6_endOfLetters_4, h.1]
      refine e_f (by rw [xp_le (by omega) (by omega)]; omega) (e_cr (cv_at h (by omega)) (e_cr l1 ?_))
      show _ = some (nI (if isL (c p) = true then ruP isL c d (p + 1) else p))
      cases isL (c p) with
      | true => exact e_f (by decide) (e_lt (nI_add p 1) (ih (p + 1) g (by omega) (by omega)))
      | false => exact e_t rfl rfl
  unfold fX6_endOfLetters
  exact e_lt (nI_add q 1) (key (t - (q + 1)) (q + 1) N (by omega) (by omega))
theorem cv_endD (h : TP t c I) (hN : 1000 ≤ N) {q : Nat} (hq : q < t) : fX6_endOfDigits N I (nI q) = some (nI (ruP isD c (t - (q + 1)) (q + 1))) := by
  have ht := h.2.1
  have key : ∀ d p fu, p + d = t → d < fu → lX6_endOfDigits_4 N I fu (nI p) = some (nI (ruP isD c d p)) := by
    intro d
    induction d with
    | zero =>
      intro p fu hp hf
      obtain ⟨g, rfl⟩ : ∃ g, fu = g + 1 := ⟨fu - 1, by omega⟩
      rw [lX6_endOfDigits_4, bX6_endOfDigits_4, h.1]
      exact e_t (by rw [xp_le (by omega) (by omega)]; omega) rfl
    | succ d ih =>
      intro p fu hp hf
      obtain ⟨g, rfl⟩ : ∃ g, fu = g + 1 := ⟨fu - 1, by omega⟩
      obtain ⟨_, l1, _⟩ := lt_x (h.2.2 p (by omega)).1
      rw [lX6_endOfDigits_4, bX6_endOfDigits_4, h.1]
      refine e_f (by rw [xp_le (by omega) (by omega)]; omega) (e_cr (cv_at h (by omega)) (e_cr l1 ?_))
      show _ = some (nI (if isD (c p) = true then ruP isD c d (p + 1) else p))
      cases isD (c p) with
      | true => exact e_f (by decide) (e_lt (nI_add p 1) (ih (p + 1) g (by omega) (by omega)))
      | false => exact e_t rfl rfl
  unfold fX6_endOfDigits
  exact e_lt (nI_add q 1) (key (t - (q + 1)) (q + 1) N (by omega) (by omega))
theorem dig_48 {x : Nat} (h : isD x = true) : 48 ≤ x ∧ x ≤ 57 := by
  unfold isD at h
  rw [Bool.and_eq_true, decide_eq_true_eq, decide_eq_true_eq] at h
  exact h
theorem cv_number (h : TP t c I) (hN : 1000 ≤ N) {q e : Nat} (hqe : q ≤ e) (he : e ≤ t) (hd : ∀ j, q ≤ j → j < e → isD (c j) = true) : fX6_number N I (nI q) (nI e) = some (nI (numV c q (min 4 (e - q)))) := by
  have ht := h.2.1
  unfold fX6_number
  refine e_lt rfl (e_lt rfl ?_)
  have key := xp_loop (fun fu i v => lX6_number_5 N I fu (nI q) (nI e) (nI v) (nI (q + i))) (min 4 (e - q)) (fun i v => v * 10 + c (q + i) - 48) (fun v => some (nI v)) 0 (by
    intro fu
    show lX6_number_5 N I (fu + 1) _ _ _ _ = _
    rw [lX6_number_5, bX6_number_5]
    by_cases hc : e ≤ q + min 4 (e - q)
    · exact e_t (by rw [xp_le (by omega) (by omega)]; exact hc) rfl
    · refine e_f (by rw [xp_le (by omega) (by omega)]; exact hc) (e_t ?_ rfl)
      rw [show nI q + 4 = nI (q + 4) from nI_add q 4, xp_le (by omega) (by omega)]
      omega) (by
    intro fu i hi
    obtain ⟨d1, d2⟩ := dig_48 (hd (q + i) (by omega) (by omega))
    show lX6_number_5 N I (fu + 1) _ _ _ _ = _
    generalize itr (fun i v => v * 10 + c (q + i) - 48) 0 i = v
    rw [lX6_number_5, bX6_number_5]
    refine e_f (by rw [xp_le (by omega) (by omega)]; omega) (e_f ?_ (e_cr (cv_at h (by omega)) (e_lt (v := nI (v * 10 + c (q + i) - 48)) ?_ (e_lt (nI_add (q + i) 1) rfl))))
    · rw [show nI q + 4 = nI (q + 4) from nI_add q 4, xp_le (by omega) (by omega)]
      omega
    · show nI v * nI 10 + nI (c (q + i)) - nI 48 = _
      rw [pk_mul, nI_add, pk_sub (by omega)]) N (by omega)
  exact key
/-- the class at the first byte of a token -/
theorem cut_tok (h : TP t c I) (hN : 1000 ≤ N) {q k : Nat} (hq : q < t) (hk : k ≤ q) (hI : I 132 2 = nI k) (hb : isBl (c q) = false) (hi : ins (c q) (pb c q) = false) (fu : Nat) : ∃ I', lX6_cut_12 N (fu + (t - q)) (nI q) I = lX6_cut_12 N (fu + (t - (q + 1))) (nI (q + 1)) I' ∧ I' 132 2 = nI (k + 1) ∧ frC I I' ∧ I' 133 k = nI (tkK c t q) ∧ I' 134 k = nI q ∧ I' 135 k = nI (tkV c t q) ∧ ∀ a, a = 133 ∨ a = 134 ∨ a = 135 → ∀ j, j ≠ k → I' a j = I a j := by
  have ht := h.2.1
  have hc := (h.2.2 q hq).1
  obtain ⟨l1, l2, _, _, _, _, hb2⟩ := lt_x hc
  obtain ⟨e1, e2⟩ := tkE_gt c hq
  rw [hb] at hb2
  have hb3 := hb2.symm
  rw [Bool.or_eq_false_iff] at hb3
  have n32 := of_decide_eq_false hb3.1
  have n10 := of_decide_eq_false hb3.2
  have hspL := ruP_spec isL c (t - (q + 1)) (q + 1)
  have hspD := ruP_spec isD c (t - (q + 1)) (q + 1)
  have hstep : ∃ I', bX6_cut_70 N (lX6_cut_12 N (fu + (t - (q + 1)))) (nI q) (nI (c q)) (nI 0) I = bX6_cut_178 N (lX6_cut_12 N (fu + (t - (q + 1)))) (nI q) I' ∧ I' 132 2 = nI (k + 1) ∧ frC I I' ∧ I' 133 k = nI (tkK c t q) ∧ I' 134 k = nI q ∧ I' 135 k = nI (tkV c t q) ∧ ∀ a, a = 133 ∨ a = 134 ∨ a = 135 → ∀ j, j ≠ k → I' a j = I a j := by
    obtain ⟨I', a1, a2, a3, a4, a5, a6, a7⟩ := cv_addToken (by omega) hI (tkK c t q) q (tkV c t q)
    refine ⟨I', ?_, a2, a3, a4, a5, a6, a7⟩
    rw [bX6_cut_70]
    refine e_lt rfl (e_f n32 (e_f n10 (e_t rfl (e_cr l1 ?_))))
    unfold tkK tkV at a1
    have hE : tkE c t q = if isL (c q) = true then ruP isL c (t - (q + 1)) (q + 1) else if isD (c q) = true then ruP isD c (t - (q + 1)) (q + 1) else q + 1 := rfl
    cases hl : isL (c q) with
    | true =>
      rw [hl, if_pos btt, if_pos btt] at a1
      rw [hl, if_pos btt] at hE
      refine e_f (by decide) (e_cr (cv_endL h hN hq) (e_cr (cv_keyword h hN (by omega) (by omega)) (e_cv (v := nI 0) ?_ rfl)))
      rw [← hE]
      exact a1
    | false =>
      rw [hl, if_neg bff, if_neg bff] at a1
      rw [hl, if_neg bff] at hE
      refine e_t rfl (e_cr l2 ?_)
      cases hd : isD (c q) with
      | true =>
        rw [hd, if_pos btt, if_pos btt] at a1
        rw [hd, if_pos btt] at hE
        have hnum := cv_number (N := N) h hN (q := q) (e := tkE c t q) (by omega) e2 (fun j j1 j2 => by
          by_cases ej : j = q
          · rw [ej]
            exact hd
          · exact hspD.2.2.1 j (by omega) (by omega))
        refine e_f (by decide) (e_cr (cv_endD h hN hq) (e_lt rfl ?_))
        rw [← hE]
        by_cases h5 : tkE c t q - q < 5
        · rw [if_pos h5] at a1
          refine e_t ?_ (e_cr hnum (e_cv (v := nI 0) a1 rfl))
          rw [pk_sub (by omega), show (4 : Int32) = nI 4 from rfl, xp_le (by omega) (by omega)]
          omega
        · rw [if_neg h5] at a1
          refine e_f ?_ (e_cr hnum (e_cv (v := nI 0) a1 rfl))
          rw [pk_sub (by omega), show (4 : Int32) = nI 4 from rfl, xp_le (by omega) (by omega)]
          omega
      | false =>
        rw [hd, if_neg bff, if_neg bff] at a1
        refine e_t rfl (e_cr (cv_isSign hN hc) ?_)
        cases hs : sgB (c q) with
        | true =>
          rw [hs, if_pos btt] at a1
          exact e_f (by decide) (e_cv (v := nI 0) a1 rfl)
        | false =>
          rw [hs, if_neg bff] at a1
          exact e_t rfl (e_cv (v := nI 0) a1 rfl)
  obtain ⟨I', s1, s2⟩ := hstep
  refine ⟨I', ?_, s2⟩
  rw [show fu + (t - q) = fu + (t - (q + 1)) + 1 by omega, lX6_cut_12, cut_70 h hq, hi]
  refine s1.trans ?_
  rw [bX6_cut_178]
  exact e_lt (nI_add q 1) rfl
theorem ins_tok {q : Nat} (hq : q < t) (hc : ∀ j, j < t → c j < 256) : (∀ j, q + 1 ≤ j → j < tkE c t q → j < t ∧ ins (c j) (pb c j) = true) ∧ (tkE c t q < t → ins (c (tkE c t q)) (pb c (tkE c t q)) = false) := by
  obtain ⟨e1, e2⟩ := tkE_gt c hq
  have hpb : ∀ j, 0 < j → pb c j = c (j - 1) := fun j hj => by unfold pb; rw [if_neg (by omega)]
  obtain ⟨_, _, _, _, x1, _⟩ := lt_x (hc q hq)
  have hspL := ruP_spec isL c (t - (q + 1)) (q + 1)
  have hspD := ruP_spec isD c (t - (q + 1)) (q + 1)
  by_cases hl : isL (c q) = true
  · have hE : tkE c t q = ruP isL c (t - (q + 1)) (q + 1) := by unfold tkE; rw [if_pos hl]
    rw [hE] at e1 e2 ⊢
    have hall : ∀ j, q ≤ j → j < ruP isL c (t - (q + 1)) (q + 1) → isL (c j) = true := fun j j1 j2 => by
      by_cases ej : j = q
      · rw [ej]
        exact hl
      · exact hspL.2.2.1 j (by omega) j2
    refine ⟨fun j j1 j2 => ⟨by omega, ?_⟩, fun he => ?_⟩
    · unfold ins
      rw [hpb j (by omega), hall j (by omega) j2, hall (j - 1) (by omega) (by omega)]
      rfl
    · have hlast := hall (ruP isL c (t - (q + 1)) (q + 1) - 1) (by omega) (by omega)
      obtain ⟨_, _, _, _, y1, _⟩ := lt_x (hc (ruP isL c (t - (q + 1)) (q + 1) - 1) (by omega))
      unfold ins
      rw [hpb _ (by omega), hspL.2.2.2 (by omega), y1 hlast]
      simp
  · by_cases hd : isD (c q) = true
    · have hE : tkE c t q = ruP isD c (t - (q + 1)) (q + 1) := by unfold tkE; rw [if_neg hl, if_pos hd]
      rw [hE] at e1 e2 ⊢
      have hall : ∀ j, q ≤ j → j < ruP isD c (t - (q + 1)) (q + 1) → isD (c j) = true := fun j j1 j2 => by
        by_cases ej : j = q
        · rw [ej]
          exact hd
        · exact hspD.2.2.1 j (by omega) j2
      refine ⟨fun j j1 j2 => ⟨by omega, ?_⟩, fun he => ?_⟩
      · unfold ins
        rw [hpb j (by omega), hall j (by omega) j2, hall (j - 1) (by omega) (by omega)]
        simp
      · have hlast := hall (ruP isD c (t - (q + 1)) (q + 1) - 1) (by omega) (by omega)
        obtain ⟨_, _, _, _, y1, _⟩ := lt_x (hc (ruP isD c (t - (q + 1)) (q + 1) - 1) (by omega))
        have hnl : isL (c (ruP isD c (t - (q + 1)) (q + 1) - 1)) = false := by
          cases hz : isL (c (ruP isD c (t - (q + 1)) (q + 1) - 1)) with
          | false => rfl
          | true => rw [y1 hz] at hlast; cases hlast
        unfold ins
        rw [hpb _ (by omega), hspD.2.2.2 (by omega), hnl]
        simp
    · have hE : tkE c t q = q + 1 := by unfold tkE; rw [if_neg hl, if_neg hd]
      rw [hE]
      refine ⟨fun j j1 j2 => absurd j1 (by omega), fun he => ?_⟩
      unfold ins
      rw [hpb _ (by omega), Nat.add_sub_cancel]
      have hl' : isL (c q) = false := by simpa using hl
      have hd' : isD (c q) = false := by simpa using hd
      rw [hl', hd']
      simp
theorem ins_bl {x y : Nat} (hy : y < 256) (h : isBl y = true) : ins x y = false := by
  obtain ⟨_, _, _, _, _, x2, _⟩ := lt_x hy
  unfold ins
  rw [(x2 h).1, (x2 h).2]
  simp
theorem cut_all (hN : 1000 ≤ N) : ∀ f p k (I : xc_M) (fu : Nat), 0 < fu → t - p ≤ f → p ≤ t → (p < t → ins (c p) (pb c p) = false) → TP t c I → I 132 2 = nI k → k ≤ p → ∃ I', lX6_cut_12 N (fu + (t - p)) (nI p) I = some (nI 0, I') ∧ I' 132 2 = nI (k + (lexF c t f p).length) ∧ k + (lexF c t f p).length ≤ t + 1 ∧ frC I I' ∧ tabs I' k (lexF c t f p) ∧ ∀ a, a = 133 ∨ a = 134 ∨ a = 135 → ∀ j, j < k → I' a j = I a j := by
  have hend : ∀ p k (I : xc_M) (fu : Nat), 0 < fu → t ≤ p → p ≤ t → TP t c I → I 132 2 = nI k → k ≤ p → ∃ I', lX6_cut_12 N (fu + (t - p)) (nI p) I = some (nI 0, I') ∧ I' 132 2 = nI (k + [(0, t, 0)].length) ∧ k + [(0, t, 0)].length ≤ t + 1 ∧ frC I I' ∧ tabs I' k [(0, t, 0)] ∧ ∀ a, a = 133 ∨ a = 134 ∨ a = 135 → ∀ j, j < k → I' a j = I a j := by
    intro p k I fu hfu htp hpt h hI hk
    have ht := h.2.1
    obtain ⟨g, rfl⟩ : ∃ g, fu = g + 1 := ⟨fu - 1, by omega⟩
    obtain ⟨I', a1, a2, a3, a4, a5, a6, a7⟩ := cv_addToken (by omega) hI 0 t 0
    refine ⟨I', ?_, a2, by show k + 1 ≤ t + 1; omega, a3, ⟨a4, a5, a6, trivial⟩, fun a ha j hj => a7 a ha j (by omega)⟩
    rw [show g + 1 + (t - p) = g + 1 by omega, lX6_cut_12, bX6_cut_12, h.1]
    exact e_t (by rw [xp_le (by omega) (by omega)]; exact htp) (e_cv a1 rfl)
  intro f
  induction f with
  | zero =>
    intro p k I fu hfu hf hpt hb h hI hk
    exact hend p k I fu hfu (by omega) hpt h hI hk
  | succ f ih =>
    intro p k I fu hfu hf hpt hb h hI hk
    have hsp := ruP_spec isBl c (t - p) p
    have hbl := cut_blank (N := N) h fu (t - p) p (by omega)
    show ∃ I', _ ∧ I' 132 2 = nI (k + (if t ≤ ruP isBl c (t - p) p then [(0, t, 0)] else (tkK c t (ruP isBl c (t - p) p), ruP isBl c (t - p) p, tkV c t (ruP isBl c (t - p) p)) :: lexF c t f (tkE c t (ruP isBl c (t - p) p))).length) ∧ k + (if t ≤ ruP isBl c (t - p) p then [(0, t, 0)] else (tkK c t (ruP isBl c (t - p) p), ruP isBl c (t - p) p, tkV c t (ruP isBl c (t - p) p)) :: lexF c t f (tkE c t (ruP isBl c (t - p) p))).length ≤ t + 1 ∧ frC I I' ∧ tabs I' k (if t ≤ ruP isBl c (t - p) p then [(0, t, 0)] else (tkK c t (ruP isBl c (t - p) p), ruP isBl c (t - p) p, tkV c t (ruP isBl c (t - p) p)) :: lexF c t f (tkE c t (ruP isBl c (t - p) p))) ∧ _
    rw [hbl]
    generalize hq : ruP isBl c (t - p) p = q at *
    by_cases htq : t ≤ q
    · rw [if_pos htq]
      exact hend q k I fu hfu htq (by omega) h hI (by omega)
    · rw [if_neg htq]
      have hqt : q < t := by omega
      have hc256 : ∀ j, j < t → c j < 256 := fun j hj => (h.2.2 j hj).1
      have hnb := hsp.2.2.2 (by omega)
      have hni : ins (c q) (pb c q) = false := by
        by_cases e : q = p
        · rw [e]
          exact hb (by omega)
        · have hpb : pb c q = c (q - 1) := by unfold pb; rw [if_neg (by omega)]
          rw [hpb]
          exact ins_bl (hc256 _ (by omega)) (hsp.2.2.1 (q - 1) (by omega) (by omega))
      obtain ⟨I1, s1, s2, s3, s4, s5, s6, s7⟩ := cut_tok (N := N) h hN hqt (by omega) hI hnb hni fu
      obtain ⟨e1, e2⟩ := tkE_gt c hqt
      obtain ⟨i1, i2⟩ := ins_tok hqt hc256
      have h1 : TP t c I1 := by
        refine ⟨by rw [s3.1 130 (by omega) (by omega) (by omega) (by omega)]; exact h.1, h.2.1, fun j hj => ⟨hc256 j hj, ?_⟩⟩
        rw [s3.1 131 (by omega) (by omega) (by omega) (by omega)]
        exact (h.2.2 j hj).2
      have hin := cut_in (N := N) h1 fu (tkE c t q - (q + 1)) (q + 1) (fun j j1 j2 => i1 j j1 (by omega))
      rw [show q + 1 + (tkE c t q - (q + 1)) = tkE c t q by omega] at hin
      obtain ⟨I', r1, r2, r3, r4, r5, r6⟩ := ih (tkE c t q) (k + 1) I1 fu hfu (by omega) e2 i2 h1 s2 (by omega)
      refine ⟨I', s1.trans (hin.trans r1), ?_, ?_, ⟨fun a a1 a2 a3 a4 => (r4.1 a a1 a2 a3 a4).trans (s3.1 a a1 a2 a3 a4), fun j hj => (r4.2 j hj).trans (s3.2 j hj)⟩, ⟨?_, ?_, ?_, r5⟩, fun a ha j hj => (r6 a ha j (by omega)).trans (s7 a ha j (by omega))⟩
      · rw [r2, List.length_cons]
        congr 1
        omega
      · rw [List.length_cons]
        omega
      · exact (r6 133 (by omega) k (by omega)).trans s4
      · exact (r6 134 (by omega) k (by omega)).trans s5
      · exact (r6 135 (by omega) k (by omega)).trans s6
theorem cv_cut (hN : 1000 ≤ N) (h : TP t c I) : ∃ I', fX6_cut N I = some (nI 0, I') ∧ I' 132 3 = nI 0 ∧ I' 132 2 = nI (lexF c t t 0).length ∧ (lexF c t t 0).length ≤ t + 1 ∧ (∀ a, a ≠ 132 → a ≠ 133 → a ≠ 134 → a ≠ 135 → I' a = I a) ∧ (∀ j, j ≠ 2 → j ≠ 3 → I' 132 j = I 132 j) ∧ tabs I' 0 (lexF c t t 0) := by
  have ht := h.2.1
  have h1 : TP t c (xc_wr (xc_wr I 132 2 (nI 0)) 132 3 (nI 0)) := by
    refine ⟨by rw [xp_wr_cell (by omega), xp_wr_cell (by omega)]; exact h.1, ht, fun j hj => ?_⟩
    rw [xp_wr_cell (by omega), xp_wr_cell (by omega)]
    exact h.2.2 j hj
  obtain ⟨I', r1, r2, r3, r4, r5, r6⟩ := cut_all (N := N) hN t 0 0 _ (N - t) (by omega) (by omega) (by omega) (fun h0 => by
    unfold ins pb
    rw [if_pos rfl]
    simp [isL, isD]) h1 (by rw [xp_wr_k (by omega), xp_wr_s]) (Nat.le_refl _)
  rw [Nat.zero_add] at r2 r3
  refine ⟨I', ?_, ?_, r2, r3, fun a a1 a2 a3 a4 => ?_, fun j j2 j3 => ?_, r5⟩
  · unfold fX6_cut
    refine e_mw rfl (e_mw rfl (e_lt rfl ?_))
    rw [show N - t + (t - 0) = N by omega] at r1
    exact r1
  · rw [r4.2 3 (by omega), xp_wr_s]
  · rw [r4.1 a a1 a2 a3 a4, xp_wr_cell a1, xp_wr_cell a1]
  · rw [r4.2 j j2, xp_wr_k j3, xp_wr_k j2]
end
