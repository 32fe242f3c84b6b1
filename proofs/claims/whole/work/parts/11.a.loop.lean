-- ===== the law goes round by round =====
theorem e_xl {α : Type} {L j : Nat} {xs : Nat → Int32} {i : Int32} {f : Int32 → Option α} {r : Option α} (hi : i = nI j) (hj : j < L ∧ L < 2 ^ 31) (h : f (xs j) = r) : xl_rd L xs i f = r := by
  rw [hi]
  unfold xl_rd
  rw [if_neg (nI_in hj.1 hj.2), nI_clamp (by omega)]
  exact h
section
variable {N M L i : Nat} {xs : Nat → Int32} {k18 : Int32 → xc_M × xc_M → Option Int32} {R : Option Int32} {I J : xc_M}
theorem l_1482 (hk : ∀ I' J', RR I' J' → k18 (nI (i + 6)) (I', J') = R) (h : RR I J) : bL_1482 N M L xs k18 (nI i) (I, J) = R := by
  unfold bL_1482
  exact e_lt (nI_add i 6) (hk I J h)
theorem cl_208 (hN : 100000 ≤ N) (hM : 60 ≤ M) (hL : L ≤ 3072) (hi : i + 6 ≤ L) (hk : ∀ I' J', RR I' J' → k18 (nI (i + 6)) (I', J') = R) (h : RR I J) : cL_208 N M L xs k18 (nI i) (I, J) = R := by
  obtain ⟨v, I', J', a, b, c⟩ := state_both h (xs (i + 1))
  unfold cL_208
  exact (e_xl (j := i + 1) (nI_add i 1) (by omega) (e_cl a (e_xl (j := i + 1) (nI_add i 1) (by omega) (e_cl b (e_t rfl (l_1482 hk c))))))
theorem cl_231 (hN : 100000 ≤ N) (hM : 60 ≤ M) (hL : L ≤ 3072) (hi : i + 6 ≤ L) (hk : ∀ I' J', RR I' J' → k18 (nI (i + 6)) (I', J') = R) (h : RR I J) : cL_231 N M L xs k18 (nI i) (I, J) = R := by
  obtain ⟨v, I', J', a, b, c⟩ := word_both h (xs (i + 1))
  unfold cL_231
  exact (e_xl (j := i + 1) (nI_add i 1) (by omega) (e_cl a (e_xl (j := i + 1) (nI_add i 1) (by omega) (e_cl b (e_t rfl (l_1482 hk c))))))
theorem cl_254 (hN : 100000 ≤ N) (hM : 60 ≤ M) (hL : L ≤ 3072) (hi : i + 6 ≤ L) (hk : ∀ I' J', RR I' J' → k18 (nI (i + 6)) (I', J') = R) (h : RR I J) : cL_254 N M L xs k18 (nI i) (I, J) = R := by
  obtain ⟨v, I', J', a, b, c⟩ := person_both h (xs (i + 1))
  unfold cL_254
  exact (e_xl (j := i + 1) (nI_add i 1) (by omega) (e_cl a (e_xl (j := i + 1) (nI_add i 1) (by omega) (e_cl b (e_t rfl (l_1482 hk c))))))
theorem cl_277 (hN : 100000 ≤ N) (hM : 60 ≤ M) (hL : L ≤ 3072) (hi : i + 6 ≤ L) (hk : ∀ I' J', RR I' J' → k18 (nI (i + 6)) (I', J') = R) (h : RR I J) : cL_277 N M L xs k18 (nI i) (I, J) = R := by
  obtain ⟨v, I', J', a, b, c⟩ := set_both h (xs (i + 1)) (xs (i + 2)) (xs (i + 3))
  unfold cL_277
  exact (e_xl (j := i + 1) (nI_add i 1) (by omega) (e_xl (j := i + 2) (nI_add i 2) (by omega) (e_xl (j := i + 3) (nI_add i 3) (by omega) (e_cl a (e_xl (j := i + 1) (nI_add i 1) (by omega) (e_xl (j := i + 2) (nI_add i 2) (by omega) (e_xl (j := i + 3) (nI_add i 3) (by omega) (e_cl b (e_t rfl (l_1482 hk c))))))))))
theorem cl_320 (hN : 100000 ≤ N) (hM : 60 ≤ M) (hL : L ≤ 3072) (hi : i + 6 ≤ L) (hk : ∀ I' J', RR I' J' → k18 (nI (i + 6)) (I', J') = R) (h : RR I J) : cL_320 N M L xs k18 (nI i) (I, J) = R := by
  have hL31 : L < 2 ^ 31 := by omega
  have key : ∀ s, (xs (i + 3) = 0 → s = 0) → (xs (i + 3) ≠ 0 → s = 1) → bL_344 N M L xs k18 (nI i) s (xs (i + 2)) (xs (i + 1)) (I, J) = R := by
    intro s s0 s1
    obtain ⟨v, I', J', a, b, c⟩ := kin_both h (xs (i + 1)) (xs (i + 2)) s
    unfold bL_344
    refine e_cl a (e_xl (j := i + 1) (nI_add i 1) (by omega) (e_xl (j := i + 2) (nI_add i 2) (by omega) (e_xl (j := i + 3) (nI_add i 3) (by omega) ?_)))
    by_cases z : xs (i + 3) = (0 : Int32)
    · refine e_t z ?_
      have e := s0 z
      subst e
      unfold bL_371
      exact e_cl b (e_t rfl (l_1482 hk c))
    · refine e_f z ?_
      have e := s1 z
      subst e
      unfold bL_371
      exact e_cl b (e_t rfl (l_1482 hk c))
  unfold cL_320
  refine e_xl (j := i + 1) (nI_add i 1) (by omega) (e_xl (j := i + 2) (nI_add i 2) (by omega) (e_xl (j := i + 3) (nI_add i 3) (by omega) ?_))
  by_cases z : xs (i + 3) = (0 : Int32)
  · exact e_t z (key 0 (fun _ => rfl) (fun q => absurd z q))
  · exact e_f z (key 1 (fun q => absurd q z) (fun _ => rfl))
theorem cl_379 (hN : 100000 ≤ N) (hM : 60 ≤ M) (hL : L ≤ 3072) (hi : i + 6 ≤ L) (hk : ∀ I' J', RR I' J' → k18 (nI (i + 6)) (I', J') = R) (h : RR I J) : cL_379 N M L xs k18 (nI i) (I, J) = R := by
  obtain ⟨v, I', J', a, b, c⟩ := miles_both h (xs (i + 1)) (xs (i + 2)) (xs (i + 3))
  unfold cL_379
  exact (e_xl (j := i + 1) (nI_add i 1) (by omega) (e_xl (j := i + 2) (nI_add i 2) (by omega) (e_xl (j := i + 3) (nI_add i 3) (by omega) (e_cl a (e_xl (j := i + 1) (nI_add i 1) (by omega) (e_xl (j := i + 2) (nI_add i 2) (by omega) (e_xl (j := i + 3) (nI_add i 3) (by omega) (e_cl b (e_t rfl (l_1482 hk c))))))))))
theorem cl_422 (hN : 100000 ≤ N) (hM : 60 ≤ M) (hL : L ≤ 3072) (hi : i + 6 ≤ L) (hk : ∀ I' J', RR I' J' → k18 (nI (i + 6)) (I', J') = R) (h : RR I J) : cL_422 N M L xs k18 (nI i) (I, J) = R := by
  obtain ⟨v, I', J', a, b, c⟩ := say_both (N := N) (by omega) h (xs (i + 1)) (xs (i + 2))
  unfold cL_422
  exact (e_xl (j := i + 1) (nI_add i 1) (by omega) (e_xl (j := i + 2) (nI_add i 2) (by omega) (e_cl a (e_xl (j := i + 1) (nI_add i 1) (by omega) (e_xl (j := i + 2) (nI_add i 2) (by omega) (e_cl b (e_t rfl (l_1482 hk c))))))))
theorem cl_455 (hN : 100000 ≤ N) (hM : 60 ≤ M) (hL : L ≤ 3072) (hi : i + 6 ≤ L) (hk : ∀ I' J', RR I' J' → k18 (nI (i + 6)) (I', J') = R) (h : RR I J) : cL_455 N M L xs k18 (nI i) (I, J) = R := by
  obtain ⟨v, I', J', a, b, c⟩ := move_both (N := N) (by omega) h (xs (i + 1)) (xs (i + 2))
  unfold cL_455
  exact (e_xl (j := i + 1) (nI_add i 1) (by omega) (e_xl (j := i + 2) (nI_add i 2) (by omega) (e_cl a (e_xl (j := i + 1) (nI_add i 1) (by omega) (e_xl (j := i + 2) (nI_add i 2) (by omega) (e_cl b (e_t rfl (l_1482 hk c))))))))
theorem cl_488 (hN : 100000 ≤ N) (hM : 60 ≤ M) (hL : L ≤ 3072) (hi : i + 6 ≤ L) (hk : ∀ I' J', RR I' J' → k18 (nI (i + 6)) (I', J') = R) (h : RR I J) : cL_488 N M L xs k18 (nI i) (I, J) = R := by
  obtain ⟨v, I', J', a, b, c⟩ := teach_both (N := N) (by omega) h (xs (i + 1)) (xs (i + 2))
  unfold cL_488
  exact (e_xl (j := i + 1) (nI_add i 1) (by omega) (e_xl (j := i + 2) (nI_add i 2) (by omega) (e_cl a (e_xl (j := i + 1) (nI_add i 1) (by omega) (e_xl (j := i + 2) (nI_add i 2) (by omega) (e_cl b (e_t rfl (l_1482 hk c))))))))
theorem cl_521 (hN : 100000 ≤ N) (hM : 60 ≤ M) (hL : L ≤ 3072) (hi : i + 6 ≤ L) (hk : ∀ I' J', RR I' J' → k18 (nI (i + 6)) (I', J') = R) (h : RR I J) : cL_521 N M L xs k18 (nI i) (I, J) = R := by
  obtain ⟨v, I', J', a, b, c⟩ := carve_both (N := N) (by omega) h (xs (i + 1))
  unfold cL_521
  exact (e_xl (j := i + 1) (nI_add i 1) (by omega) (e_cl a (e_xl (j := i + 1) (nI_add i 1) (by omega) (e_cl b (e_t rfl (l_1482 hk c))))))
theorem cl_544 (hN : 100000 ≤ N) (hM : 60 ≤ M) (hL : L ≤ 3072) (hi : i + 6 ≤ L) (hk : ∀ I' J', RR I' J' → k18 (nI (i + 6)) (I', J') = R) (h : RR I J) : cL_544 N M L xs k18 (nI i) (I, J) = R := by
  obtain ⟨v, I', J', a, b, c⟩ := days_both (N := N) (by omega) h (xs (i + 1))
  unfold cL_544
  exact (e_xl (j := i + 1) (nI_add i 1) (by omega) (e_cl a (e_xl (j := i + 1) (nI_add i 1) (by omega) (e_cl b (e_t rfl (l_1482 hk c))))))
theorem cl_567 (hN : 100000 ≤ N) (hM : 60 ≤ M) (hL : L ≤ 3072) (hi : i + 6 ≤ L) (hk : ∀ I' J', RR I' J' → k18 (nI (i + 6)) (I', J') = R) (h : RR I J) : cL_567 N M L xs k18 (nI i) (I, J) = R := by
  obtain ⟨v, I', J', a, b, c⟩ := feed_both (N := N) (by omega) h (xs (i + 1)) (xs (i + 2)) (xs (i + 3)) (xs (i + 4)) (xs (i + 5))
  unfold cL_567
  exact (e_xl (j := i + 1) (nI_add i 1) (by omega) (e_xl (j := i + 2) (nI_add i 2) (by omega) (e_xl (j := i + 3) (nI_add i 3) (by omega) (e_xl (j := i + 4) (nI_add i 4) (by omega) (e_xl (j := i + 5) (nI_add i 5) (by omega) (e_cl a (e_xl (j := i + 1) (nI_add i 1) (by omega) (e_xl (j := i + 2) (nI_add i 2) (by omega) (e_xl (j := i + 3) (nI_add i 3) (by omega) (e_xl (j := i + 4) (nI_add i 4) (by omega) (e_xl (j := i + 5) (nI_add i 5) (by omega) (e_cl b (e_t rfl (l_1482 hk c))))))))))))))
theorem cl_630 (hN : 100000 ≤ N) (hM : 60 ≤ M) (hL : L ≤ 3072) (hi : i + 6 ≤ L) (hk : ∀ I' J', RR I' J' → k18 (nI (i + 6)) (I', J') = R) (h : RR I J) : cL_630 N M L xs k18 (nI i) (I, J) = R := by
  obtain ⟨v, I', J', a, b, c⟩ := end_both h (xs (i + 1))
  unfold cL_630
  exact (e_xl (j := i + 1) (nI_add i 1) (by omega) (e_cl a (e_xl (j := i + 1) (nI_add i 1) (by omega) (e_cl b (e_t rfl (l_1482 hk c))))))
theorem cl_653 (hN : 100000 ≤ N) (hM : 60 ≤ M) (hL : L ≤ 3072) (hi : i + 6 ≤ L) (hk : ∀ I' J', RR I' J' → k18 (nI (i + 6)) (I', J') = R) (h : RR I J) : cL_653 N M L xs k18 (nI i) (I, J) = R := by
  obtain ⟨v, I', J', a, b, c⟩ := text_both (N := N) (M := M) (by omega) (by omega) h (xs (i + 1))
  unfold cL_653
  exact (e_xl (j := i + 1) (nI_add i 1) (by omega) (e_cl a (e_xl (j := i + 1) (nI_add i 1) (by omega) (e_cl b (e_t rfl (l_1482 hk c))))))
theorem cl_676 (hN : 100000 ≤ N) (hM : 60 ≤ M) (hL : L ≤ 3072) (hi : i + 6 ≤ L) (hk : ∀ I' J', RR I' J' → k18 (nI (i + 6)) (I', J') = R) (h : RR I J) : cL_676 N M L xs k18 (nI i) (I, J) = R := by
  obtain ⟨v, a, b⟩ := fault_both h (xs (i + 1))
  unfold cL_676
  exact (e_xl (j := i + 1) (nI_add i 1) (by omega) (e_cr a (e_xl (j := i + 1) (nI_add i 1) (by omega) (e_cr b (e_t rfl (l_1482 hk h))))))
theorem cl_699 (hN : 100000 ≤ N) (hM : 60 ≤ M) (hL : L ≤ 3072) (hi : i + 6 ≤ L) (hk : ∀ I' J', RR I' J' → k18 (nI (i + 6)) (I', J') = R) (h : RR I J) : cL_699 N M L xs k18 (nI i) (I, J) = R := by
  obtain ⟨v, I', J', a, b, c⟩ := of_both (N := N) (by omega) h (xs (i + 1)) (xs (i + 2))
  unfold cL_699
  exact (e_xl (j := i + 1) (nI_add i 1) (by omega) (e_xl (j := i + 2) (nI_add i 2) (by omega) (e_cl a (e_xl (j := i + 1) (nI_add i 1) (by omega) (e_xl (j := i + 2) (nI_add i 2) (by omega) (e_cl b (e_t rfl (l_1482 hk c))))))))
theorem cl_732 (hN : 100000 ≤ N) (hM : 60 ≤ M) (hL : L ≤ 3072) (hi : i + 6 ≤ L) (hk : ∀ I' J', RR I' J' → k18 (nI (i + 6)) (I', J') = R) (h : RR I J) : cL_732 N M L xs k18 (nI i) (I, J) = R := by
  obtain ⟨v, a, b⟩ := who_both h (xs (i + 1)) (xs (i + 2))
  unfold cL_732
  exact (e_xl (j := i + 1) (nI_add i 1) (by omega) (e_xl (j := i + 2) (nI_add i 2) (by omega) (e_cr a (e_xl (j := i + 1) (nI_add i 1) (by omega) (e_xl (j := i + 2) (nI_add i 2) (by omega) (e_cr b (e_t rfl (l_1482 hk h))))))))
theorem cl_765 (hN : 100000 ≤ N) (hM : 60 ≤ M) (hL : L ≤ 3072) (hi : i + 6 ≤ L) (hk : ∀ I' J', RR I' J' → k18 (nI (i + 6)) (I', J') = R) (h : RR I J) : cL_765 N M L xs k18 (nI i) (I, J) = R := by
  have hL31 : L < 2 ^ 31 := by omega
  have key : ∀ s, (xs (i + 3) = 0 → s = 0) → (xs (i + 3) ≠ 0 → s = 1) → bL_789 N M L xs k18 (nI i) s (xs (i + 2)) (xs (i + 1)) (I, J) = R := by
    intro s s0 s1
    obtain ⟨v, I', J', a, b, c⟩ := asks_both (N := N) (by omega) h (xs (i + 1)) (xs (i + 2)) s
    unfold bL_789
    refine e_cl a (e_xl (j := i + 1) (nI_add i 1) (by omega) (e_xl (j := i + 2) (nI_add i 2) (by omega) (e_xl (j := i + 3) (nI_add i 3) (by omega) ?_)))
    by_cases z : xs (i + 3) = (0 : Int32)
    · refine e_t z ?_
      have e := s0 z
      subst e
      unfold bL_816
      exact e_cl b (e_t rfl (l_1482 hk c))
    · refine e_f z ?_
      have e := s1 z
      subst e
      unfold bL_816
      exact e_cl b (e_t rfl (l_1482 hk c))
  unfold cL_765
  refine e_xl (j := i + 1) (nI_add i 1) (by omega) (e_xl (j := i + 2) (nI_add i 2) (by omega) (e_xl (j := i + 3) (nI_add i 3) (by omega) ?_))
  by_cases z : xs (i + 3) = (0 : Int32)
  · exact e_t z (key 0 (fun _ => rfl) (fun q => absurd z q))
  · exact e_f z (key 1 (fun q => absurd q z) (fun _ => rfl))
theorem cl_824 (hN : 100000 ≤ N) (hM : 60 ≤ M) (hL : L ≤ 3072) (hi : i + 6 ≤ L) (hk : ∀ I' J', RR I' J' → k18 (nI (i + 6)) (I', J') = R) (h : RR I J) : cL_824 N M L xs k18 (nI i) (I, J) = R := by
  obtain ⟨v, a, b⟩ := book_both h (xs (i + 1)) (xs (i + 2))
  unfold cL_824
  exact (e_xl (j := i + 1) (nI_add i 1) (by omega) (e_xl (j := i + 2) (nI_add i 2) (by omega) (e_cr a (e_xl (j := i + 1) (nI_add i 1) (by omega) (e_xl (j := i + 2) (nI_add i 2) (by omega) (e_cr b (e_t rfl (l_1482 hk h))))))))
theorem cl_857 (hN : 100000 ≤ N) (hM : 60 ≤ M) (hL : L ≤ 3072) (hi : i + 6 ≤ L) (hk : ∀ I' J', RR I' J' → k18 (nI (i + 6)) (I', J') = R) (h : RR I J) : cL_857 N M L xs k18 (nI i) (I, J) = R := by
  obtain ⟨v, I', J', a, b, c⟩ := goes_both (N := N) (by omega) h (xs (i + 1)) (xs (i + 2))
  unfold cL_857
  exact (e_xl (j := i + 1) (nI_add i 1) (by omega) (e_xl (j := i + 2) (nI_add i 2) (by omega) (e_cl a (e_xl (j := i + 1) (nI_add i 1) (by omega) (e_xl (j := i + 2) (nI_add i 2) (by omega) (e_cl b (e_t rfl (l_1482 hk c))))))))
theorem cl_890 (hN : 100000 ≤ N) (hM : 60 ≤ M) (hL : L ≤ 3072) (hi : i + 6 ≤ L) (hk : ∀ I' J', RR I' J' → k18 (nI (i + 6)) (I', J') = R) (h : RR I J) : cL_890 N M L xs k18 (nI i) (I, J) = R := by
  obtain ⟨v, I', J', a, b, c⟩ := misses_both (N := N) (by omega) h (xs (i + 1))
  unfold cL_890
  exact (e_xl (j := i + 1) (nI_add i 1) (by omega) (e_cl a (e_xl (j := i + 1) (nI_add i 1) (by omega) (e_cl b (e_t rfl (l_1482 hk c))))))
theorem cl_913 (hN : 100000 ≤ N) (hM : 60 ≤ M) (hL : L ≤ 3072) (hi : i + 6 ≤ L) (hk : ∀ I' J', RR I' J' → k18 (nI (i + 6)) (I', J') = R) (h : RR I J) : cL_913 N M L xs k18 (nI i) (I, J) = R := by
  obtain ⟨v, a, b⟩ := wording_both (N := N) (by omega) h (xs (i + 1)) (xs (i + 2))
  unfold cL_913
  exact (e_xl (j := i + 1) (nI_add i 1) (by omega) (e_xl (j := i + 2) (nI_add i 2) (by omega) (e_cr a (e_xl (j := i + 1) (nI_add i 1) (by omega) (e_xl (j := i + 2) (nI_add i 2) (by omega) (e_cr b (e_t rfl (l_1482 hk h))))))))
theorem cl_946 (hN : 100000 ≤ N) (hM : 60 ≤ M) (hL : L ≤ 3072) (hi : i + 6 ≤ L) (hk : ∀ I' J', RR I' J' → k18 (nI (i + 6)) (I', J') = R) (h : RR I J) : cL_946 N M L xs k18 (nI i) (I, J) = R := by
  obtain ⟨v, J', a, b, c⟩ := go_both (N := N) (by omega) h (xs (i + 1))
  unfold cL_946
  exact (e_xl (j := i + 1) (nI_add i 1) (by omega) (e_cr a (e_xl (j := i + 1) (nI_add i 1) (by omega) (e_cl b (e_t rfl (l_1482 hk c))))))
theorem cl_969 (hN : 100000 ≤ N) (hM : 60 ≤ M) (hL : L ≤ 3072) (hi : i + 6 ≤ L) (hk : ∀ I' J', RR I' J' → k18 (nI (i + 6)) (I', J') = R) (h : RR I J) : cL_969 N M L xs k18 (nI i) (I, J) = R := by
  obtain ⟨v, a, b⟩ := keepers_both (N := N) (by omega) h (xs (i + 1))
  unfold cL_969
  exact (e_xl (j := i + 1) (nI_add i 1) (by omega) (e_cr a (e_xl (j := i + 1) (nI_add i 1) (by omega) (e_cr b (e_t rfl (l_1482 hk h))))))
theorem cl_992 (hN : 100000 ≤ N) (hM : 60 ≤ M) (hL : L ≤ 3072) (hi : i + 6 ≤ L) (hk : ∀ I' J', RR I' J' → k18 (nI (i + 6)) (I', J') = R) (h : RR I J) : cL_992 N M L xs k18 (nI i) (I, J) = R := by
  obtain ⟨v, a, b⟩ := costs_both (N := N) (by omega) h (xs (i + 1))
  unfold cL_992
  exact (e_xl (j := i + 1) (nI_add i 1) (by omega) (e_cr a (e_xl (j := i + 1) (nI_add i 1) (by omega) (e_cr b (e_t rfl (l_1482 hk h))))))
theorem cl_1015 (hN : 100000 ≤ N) (hM : 60 ≤ M) (hL : L ≤ 3072) (hi : i + 6 ≤ L) (hk : ∀ I' J', RR I' J' → k18 (nI (i + 6)) (I', J') = R) (h : RR I J) : cL_1015 N M L xs k18 (nI i) (I, J) = R := by
  obtain ⟨v, J', a, b, c⟩ := round_both (N := N) (M := M) (by omega) (by omega) h (xs (i + 1)) (xs (i + 2)) (xs (i + 3))
  unfold cL_1015
  exact (e_xl (j := i + 1) (nI_add i 1) (by omega) (e_xl (j := i + 2) (nI_add i 2) (by omega) (e_xl (j := i + 3) (nI_add i 3) (by omega) (e_cr a (e_xl (j := i + 1) (nI_add i 1) (by omega) (e_xl (j := i + 2) (nI_add i 2) (by omega) (e_xl (j := i + 3) (nI_add i 3) (by omega) (e_cl b (e_t rfl (l_1482 hk c))))))))))
theorem cl_1058 (hN : 100000 ≤ N) (hM : 60 ≤ M) (hL : L ≤ 3072) (hi : i + 6 ≤ L) (hk : ∀ I' J', RR I' J' → k18 (nI (i + 6)) (I', J') = R) (h : RR I J) : cL_1058 N M L xs k18 (nI i) (I, J) = R := by
  obtain ⟨v, a, b⟩ := quarrel_both (N := N) (by omega) h (xs (i + 1)) (xs (i + 2)) (xs (i + 3)) (xs (i + 4))
  unfold cL_1058
  exact (e_xl (j := i + 1) (nI_add i 1) (by omega) (e_xl (j := i + 2) (nI_add i 2) (by omega) (e_xl (j := i + 3) (nI_add i 3) (by omega) (e_xl (j := i + 4) (nI_add i 4) (by omega) (e_cr a (e_xl (j := i + 1) (nI_add i 1) (by omega) (e_xl (j := i + 2) (nI_add i 2) (by omega) (e_xl (j := i + 3) (nI_add i 3) (by omega) (e_xl (j := i + 4) (nI_add i 4) (by omega) (e_cr b (e_t rfl (l_1482 hk h))))))))))))
theorem cl_1111 (hN : 100000 ≤ N) (hM : 60 ≤ M) (hL : L ≤ 3072) (hi : i + 6 ≤ L) (hk : ∀ I' J', RR I' J' → k18 (nI (i + 6)) (I', J') = R) (h : RR I J) : cL_1111 N M L xs k18 (nI i) (I, J) = R := by
  obtain ⟨v, I', J', a, b, c⟩ := talk_both h (xs (i + 1)) (xs (i + 2))
  unfold cL_1111
  exact (e_xl (j := i + 1) (nI_add i 1) (by omega) (e_xl (j := i + 2) (nI_add i 2) (by omega) (e_cl a (e_xl (j := i + 1) (nI_add i 1) (by omega) (e_xl (j := i + 2) (nI_add i 2) (by omega) (e_cl b (e_t rfl (l_1482 hk c))))))))
theorem cl_1144 (hN : 100000 ≤ N) (hM : 60 ≤ M) (hL : L ≤ 3072) (hi : i + 6 ≤ L) (hk : ∀ I' J', RR I' J' → k18 (nI (i + 6)) (I', J') = R) (h : RR I J) : cL_1144 N M L xs k18 (nI i) (I, J) = R := by
  have key : ∀ s, (xs (i + 1) = 0 → s = 0) → (xs (i + 1) ≠ 0 → s = 1) → bL_1158 N M L xs k18 (nI i) s (I, J) = R := by
    intro s s0 s1
    obtain ⟨v, a, b⟩ := spoke_both (N := N) (by omega) h s
    unfold bL_1158
    refine e_cr a (e_xl (j := i + 1) (nI_add i 1) (by omega) ?_)
    by_cases z : xs (i + 1) = (0 : Int32)
    · refine e_t z ?_
      have e := s0 z
      subst e
      unfold bL_1175
      exact e_cr b (e_t rfl (l_1482 hk h))
    · refine e_f z ?_
      have e := s1 z
      subst e
      unfold bL_1175
      exact e_cr b (e_t rfl (l_1482 hk h))
  unfold cL_1144
  refine e_xl (j := i + 1) (nI_add i 1) (by omega) ?_
  by_cases z : xs (i + 1) = (0 : Int32)
  · exact e_t z (key 0 (fun _ => rfl) (fun q => absurd z q))
  · exact e_f z (key 1 (fun q => absurd q z) (fun _ => rfl))
theorem cl_1183 (hN : 100000 ≤ N) (hM : 60 ≤ M) (hL : L ≤ 3072) (hi : i + 6 ≤ L) (hk : ∀ I' J', RR I' J' → k18 (nI (i + 6)) (I', J') = R) (h : RR I J) : cL_1183 N M L xs k18 (nI i) (I, J) = R := by
  obtain ⟨v, a, b⟩ := grasps_both (N := N) (by omega) h (xs (i + 1)) (xs (i + 2))
  unfold cL_1183
  exact (e_xl (j := i + 1) (nI_add i 1) (by omega) (e_xl (j := i + 2) (nI_add i 2) (by omega) (e_cr a (e_xl (j := i + 1) (nI_add i 1) (by omega) (e_xl (j := i + 2) (nI_add i 2) (by omega) (e_cr b (e_t rfl (l_1482 hk h))))))))
theorem cl_1216 (hN : 100000 ≤ N) (hM : 60 ≤ M) (hL : L ≤ 3072) (hi : i + 6 ≤ L) (hk : ∀ I' J', RR I' J' → k18 (nI (i + 6)) (I', J') = R) (h : RR I J) : cL_1216 N M L xs k18 (nI i) (I, J) = R := by
  obtain ⟨v, a, b⟩ := circle_both (N := N) (by omega) h (xs (i + 1))
  unfold cL_1216
  exact (e_xl (j := i + 1) (nI_add i 1) (by omega) (e_cr a (e_xl (j := i + 1) (nI_add i 1) (by omega) (e_cr b (e_t rfl (l_1482 hk h))))))
theorem cl_1239 (hN : 100000 ≤ N) (hM : 60 ≤ M) (hL : L ≤ 3072) (hi : i + 6 ≤ L) (hk : ∀ I' J', RR I' J' → k18 (nI (i + 6)) (I', J') = R) (h : RR I J) : cL_1239 N M L xs k18 (nI i) (I, J) = R := by
  obtain ⟨v, a, b⟩ := odds_both (N := N) (by omega) h (xs (i + 1)) (xs (i + 2))
  unfold cL_1239
  exact (e_xl (j := i + 1) (nI_add i 1) (by omega) (e_xl (j := i + 2) (nI_add i 2) (by omega) (e_cr a (e_xl (j := i + 1) (nI_add i 1) (by omega) (e_xl (j := i + 2) (nI_add i 2) (by omega) (e_cr b (e_t rfl (l_1482 hk h))))))))
theorem cl_1272 (hN : 100000 ≤ N) (hM : 60 ≤ M) (hL : L ≤ 3072) (hi : i + 6 ≤ L) (hk : ∀ I' J', RR I' J' → k18 (nI (i + 6)) (I', J') = R) (h : RR I J) : cL_1272 N M L xs k18 (nI i) (I, J) = R := by
  obtain ⟨v, J', a, b, c⟩ := school_both (N := N) (by omega) h (xs (i + 1)) (xs (i + 2))
  unfold cL_1272
  exact (e_xl (j := i + 1) (nI_add i 1) (by omega) (e_xl (j := i + 2) (nI_add i 2) (by omega) (e_cr a (e_xl (j := i + 1) (nI_add i 1) (by omega) (e_xl (j := i + 2) (nI_add i 2) (by omega) (e_cl b (e_t rfl (l_1482 hk c))))))))
theorem cl_1305 (hN : 100000 ≤ N) (hM : 60 ≤ M) (hL : L ≤ 3072) (hi : i + 6 ≤ L) (hk : ∀ I' J', RR I' J' → k18 (nI (i + 6)) (I', J') = R) (h : RR I J) : cL_1305 N M L xs k18 (nI i) (I, J) = R := by
  obtain ⟨v, a, b⟩ := verse_both (N := N) (by omega) h (xs (i + 1))
  unfold cL_1305
  exact (e_xl (j := i + 1) (nI_add i 1) (by omega) (e_cr a (e_xl (j := i + 1) (nI_add i 1) (by omega) (e_cr b (e_t rfl (l_1482 hk h))))))
theorem cl_1328 (hN : 100000 ≤ N) (hM : 60 ≤ M) (hL : L ≤ 3072) (hi : i + 6 ≤ L) (hk : ∀ I' J', RR I' J' → k18 (nI (i + 6)) (I', J') = R) (h : RR I J) : cL_1328 N M L xs k18 (nI i) (I, J) = R := by
  obtain ⟨v, a, b⟩ := boast_both (N := N) (by omega) h (xs (i + 1)) (xs (i + 2))
  unfold cL_1328
  exact (e_xl (j := i + 1) (nI_add i 1) (by omega) (e_xl (j := i + 2) (nI_add i 2) (by omega) (e_cr a (e_xl (j := i + 1) (nI_add i 1) (by omega) (e_xl (j := i + 2) (nI_add i 2) (by omega) (e_cr b (e_t rfl (l_1482 hk h))))))))
theorem cl_1361 (hN : 100000 ≤ N) (hM : 60 ≤ M) (hL : L ≤ 3072) (hi : i + 6 ≤ L) (hk : ∀ I' J', RR I' J' → k18 (nI (i + 6)) (I', J') = R) (h : RR I J) : cL_1361 N M L xs k18 (nI i) (I, J) = R := by
  obtain ⟨v, a, b⟩ := crowd_both (N := N) (by omega) h (xs (i + 1))
  unfold cL_1361
  exact (e_xl (j := i + 1) (nI_add i 1) (by omega) (e_cr a (e_xl (j := i + 1) (nI_add i 1) (by omega) (e_cr b (e_t rfl (l_1482 hk h))))))
theorem cl_1384 (hN : 100000 ≤ N) (hM : 60 ≤ M) (hL : L ≤ 3072) (hi : i + 6 ≤ L) (hk : ∀ I' J', RR I' J' → k18 (nI (i + 6)) (I', J') = R) (h : RR I J) : cL_1384 N M L xs k18 (nI i) (I, J) = R := by
  obtain ⟨v, a, b⟩ := silence_both (N := N) (by omega) h (xs (i + 1))
  unfold cL_1384
  exact (e_xl (j := i + 1) (nI_add i 1) (by omega) (e_cr a (e_xl (j := i + 1) (nI_add i 1) (by omega) (e_cr b (e_t rfl (l_1482 hk h))))))
theorem cl_1407 (hN : 100000 ≤ N) (hM : 60 ≤ M) (hL : L ≤ 3072) (hi : i + 6 ≤ L) (hk : ∀ I' J', RR I' J' → k18 (nI (i + 6)) (I', J') = R) (h : RR I J) : cL_1407 N M L xs k18 (nI i) (I, J) = R := by
  obtain ⟨v, I', J', a, b, c⟩ := undo_both (N := N) (by omega) h 
  unfold cL_1407
  exact (e_cl a (e_cl b (e_t rfl (l_1482 hk c))))
theorem cl_1420 (hN : 100000 ≤ N) (hM : 60 ≤ M) (hL : L ≤ 3072) (hi : i + 6 ≤ L) (hk : ∀ I' J', RR I' J' → k18 (nI (i + 6)) (I', J') = R) (h : RR I J) : cL_1420 N M L xs k18 (nI i) (I, J) = R := by
  have key : ∀ s, (xs (i + 1) = 0 → s = 0) → (xs (i + 1) ≠ 0 → s = 1) → bL_1434 N M L xs k18 (nI i) s (I, J) = R := by
    intro s s0 s1
    obtain ⟨v, I', J', a, b, c⟩ := image_both (N := N) (by omega) h s
    unfold bL_1434
    refine e_cl a (e_xl (j := i + 1) (nI_add i 1) (by omega) ?_)
    by_cases z : xs (i + 1) = (0 : Int32)
    · refine e_t z ?_
      have e := s0 z
      subst e
      unfold bL_1451
      exact e_cl b (e_t rfl (l_1482 hk c))
    · refine e_f z ?_
      have e := s1 z
      subst e
      unfold bL_1451
      exact e_cl b (e_t rfl (l_1482 hk c))
  unfold cL_1420
  refine e_xl (j := i + 1) (nI_add i 1) (by omega) ?_
  by_cases z : xs (i + 1) = (0 : Int32)
  · exact e_t z (key 0 (fun _ => rfl) (fun q => absurd z q))
  · exact e_f z (key 1 (fun q => absurd q z) (fun _ => rfl))
theorem cl_1459 (hN : 100000 ≤ N) (hM : 60 ≤ M) (hL : L ≤ 3072) (hi : i + 6 ≤ L) (hk : ∀ I' J', RR I' J' → k18 (nI (i + 6)) (I', J') = R) (h : RR I J) : cL_1459 N M L xs k18 (nI i) (I, J) = R := by
  obtain ⟨v, a, b⟩ := look_both (N := N) (by omega) h (xs (i + 1))
  unfold cL_1459
  exact (e_xl (j := i + 1) (nI_add i 1) (by omega) (e_cr a (e_xl (j := i + 1) (nI_add i 1) (by omega) (e_cr b (e_t rfl (l_1482 hk h))))))
theorem law_step (hN : 100000 ≤ N) (hM : 60 ≤ M) (hL : L ≤ 3072) (hi : i + 6 ≤ L) (hk : ∀ I' J', RR I' J' → k18 (nI (i + 6)) (I', J') = R) (h : RR I J) : bL_18 N M L xs k18 (nI i) (I, J) = R := by
  have h6 : ¬ nI L - 6 < nI i := by
    rw [show (6 : Int32) = nI 6 from rfl, pk_sub (by omega), xp_ltI (by omega) (by omega)]
    omega
  unfold bL_18
  refine e_f h6 (e_xl (j := i) rfl (by omega) ?_)
  by_cases c0 : (xs i &&& 63) = 0
  · exact e_t c0 (cl_208 hN hM hL hi hk h)
  refine e_f c0 ?_
  by_cases c1 : (xs i &&& 63) = 1
  · exact e_t c1 (cl_231 hN hM hL hi hk h)
  refine e_f c1 ?_
  by_cases c2 : (xs i &&& 63) = 2
  · exact e_t c2 (cl_254 hN hM hL hi hk h)
  refine e_f c2 ?_
  by_cases c3 : (xs i &&& 63) = 3
  · exact e_t c3 (cl_277 hN hM hL hi hk h)
  refine e_f c3 ?_
  by_cases c4 : (xs i &&& 63) = 4
  · exact e_t c4 (cl_320 hN hM hL hi hk h)
  refine e_f c4 ?_
  by_cases c5 : (xs i &&& 63) = 5
  · exact e_t c5 (cl_379 hN hM hL hi hk h)
  refine e_f c5 ?_
  by_cases c6 : (xs i &&& 63) = 6
  · exact e_t c6 (cl_422 hN hM hL hi hk h)
  refine e_f c6 ?_
  by_cases c7 : (xs i &&& 63) = 7
  · exact e_t c7 (cl_455 hN hM hL hi hk h)
  refine e_f c7 ?_
  by_cases c8 : (xs i &&& 63) = 8
  · exact e_t c8 (cl_488 hN hM hL hi hk h)
  refine e_f c8 ?_
  by_cases c9 : (xs i &&& 63) = 9
  · exact e_t c9 (cl_521 hN hM hL hi hk h)
  refine e_f c9 ?_
  by_cases c10 : (xs i &&& 63) = 10
  · exact e_t c10 (cl_544 hN hM hL hi hk h)
  refine e_f c10 ?_
  by_cases c11 : (xs i &&& 63) = 11
  · exact e_t c11 (cl_567 hN hM hL hi hk h)
  refine e_f c11 ?_
  by_cases c12 : (xs i &&& 63) = 12
  · exact e_t c12 (cl_630 hN hM hL hi hk h)
  refine e_f c12 ?_
  by_cases c13 : (xs i &&& 63) = 13
  · exact e_t c13 (cl_653 hN hM hL hi hk h)
  refine e_f c13 ?_
  by_cases c14 : (xs i &&& 63) = 14
  · exact e_t c14 (cl_676 hN hM hL hi hk h)
  refine e_f c14 ?_
  by_cases c15 : (xs i &&& 63) = 15
  · exact e_t c15 (cl_699 hN hM hL hi hk h)
  refine e_f c15 ?_
  by_cases c16 : (xs i &&& 63) = 16
  · exact e_t c16 (cl_732 hN hM hL hi hk h)
  refine e_f c16 ?_
  by_cases c17 : (xs i &&& 63) = 17
  · exact e_t c17 (cl_765 hN hM hL hi hk h)
  refine e_f c17 ?_
  by_cases c18 : (xs i &&& 63) = 18
  · exact e_t c18 (cl_824 hN hM hL hi hk h)
  refine e_f c18 ?_
  by_cases c19 : (xs i &&& 63) = 19
  · exact e_t c19 (cl_857 hN hM hL hi hk h)
  refine e_f c19 ?_
  by_cases c20 : (xs i &&& 63) = 20
  · exact e_t c20 (cl_890 hN hM hL hi hk h)
  refine e_f c20 ?_
  by_cases c21 : (xs i &&& 63) = 21
  · exact e_t c21 (cl_913 hN hM hL hi hk h)
  refine e_f c21 ?_
  by_cases c22 : (xs i &&& 63) = 22
  · exact e_t c22 (cl_946 hN hM hL hi hk h)
  refine e_f c22 ?_
  by_cases c23 : (xs i &&& 63) = 23
  · exact e_t c23 (cl_969 hN hM hL hi hk h)
  refine e_f c23 ?_
  by_cases c24 : (xs i &&& 63) = 24
  · exact e_t c24 (cl_992 hN hM hL hi hk h)
  refine e_f c24 ?_
  by_cases c25 : (xs i &&& 63) = 25
  · exact e_t c25 (cl_1015 hN hM hL hi hk h)
  refine e_f c25 ?_
  by_cases c26 : (xs i &&& 63) = 26
  · exact e_t c26 (cl_1058 hN hM hL hi hk h)
  refine e_f c26 ?_
  by_cases c27 : (xs i &&& 63) = 27
  · exact e_t c27 (cl_1111 hN hM hL hi hk h)
  refine e_f c27 ?_
  by_cases c28 : (xs i &&& 63) = 28
  · exact e_t c28 (cl_1144 hN hM hL hi hk h)
  refine e_f c28 ?_
  by_cases c29 : (xs i &&& 63) = 29
  · exact e_t c29 (cl_1183 hN hM hL hi hk h)
  refine e_f c29 ?_
  by_cases c30 : (xs i &&& 63) = 30
  · exact e_t c30 (cl_1216 hN hM hL hi hk h)
  refine e_f c30 ?_
  by_cases c31 : (xs i &&& 63) = 31
  · exact e_t c31 (cl_1239 hN hM hL hi hk h)
  refine e_f c31 ?_
  by_cases c32 : (xs i &&& 63) = 32
  · exact e_t c32 (cl_1272 hN hM hL hi hk h)
  refine e_f c32 ?_
  by_cases c33 : (xs i &&& 63) = 33
  · exact e_t c33 (cl_1305 hN hM hL hi hk h)
  refine e_f c33 ?_
  by_cases c34 : (xs i &&& 63) = 34
  · exact e_t c34 (cl_1328 hN hM hL hi hk h)
  refine e_f c34 ?_
  by_cases c35 : (xs i &&& 63) = 35
  · exact e_t c35 (cl_1361 hN hM hL hi hk h)
  refine e_f c35 ?_
  by_cases c36 : (xs i &&& 63) = 36
  · exact e_t c36 (cl_1384 hN hM hL hi hk h)
  refine e_f c36 ?_
  by_cases c37 : (xs i &&& 63) = 37
  · exact e_t c37 (cl_1407 hN hM hL hi hk h)
  refine e_f c37 ?_
  by_cases c38 : (xs i &&& 63) = 38
  · exact e_t c38 (cl_1420 hN hM hL hi hk h)
  refine e_f c38 ?_
  by_cases c39 : (xs i &&& 63) = 39
  · exact e_t c39 (cl_1459 hN hM hL hi hk h)
  refine e_f c39 ?_
  exact l_1482 hk h
theorem law_run (hN : 100000 ≤ N) (hM : 60 ≤ M) (hL : L ≤ 3072) : ∀ d i fu (I J : xc_M), L - i ≤ d → d < fu → i < 4000 → RR I J → lL_18 N M L xs fu (nI i) (I, J) = some 1 := by
  intro d
  induction d with
  | zero =>
    intro i fu I J hd hf hi4 h
    obtain ⟨g, rfl⟩ : ∃ g, fu = g + 1 := ⟨fu - 1, by omega⟩
    show bL_18 N M L xs (lL_18 N M L xs g) (nI i) (I, J) = some 1
    unfold bL_18
    refine e_t ?_ rfl
    rw [show (6 : Int32) = nI 6 from rfl, Int32.lt_iff_toInt_lt, pk_sub_toInt (by omega) (by omega), nI_toInt (by omega)]
    omega
  | succ d ih =>
    intro i fu I J hd hf hi4 h
    obtain ⟨g, rfl⟩ : ∃ g, fu = g + 1 := ⟨fu - 1, by omega⟩
    show bL_18 N M L xs (lL_18 N M L xs g) (nI i) (I, J) = some 1
    by_cases hi : i + 6 ≤ L
    · exact law_step hN hM hL hi (fun I' J' h' => ih (i + 6) g I' J' (by omega) (by omega) (by omega) h') h
    · unfold bL_18
      refine e_t ?_ rfl
      rw [show (6 : Int32) = nI 6 from rfl, Int32.lt_iff_toInt_lt, pk_sub_toInt (by omega) (by omega), nI_toInt (by omega)]
      omega
end
