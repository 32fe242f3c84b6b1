-- ===== the reference reads a condition =====
section
variable {N t : Nat} {c : Nat → Nat} {J J' : xc_M} {k v : Nat} {L : List (Nat × Nat)} {S : List (Nat × Int32)}
/-- what a reader of conditions leaves -/
def rcQ (c : Nat → Nat) (t : Nat) (J : xc_M) (S C : List (Nat × Int32)) (L : List (Nat × Nat)) (J2 : xc_M) : Prop := ∃ U, eS c t J2 (S ++ U) L ∧ U.map nrm = C ∧ J2 0 26 = J 0 26 ∧ frG J J2
theorem rdQ.toC {C : List (Nat × Int32)} {J2 : xc_M} (h : rdQ c t J S C L J2) : rcQ c t J S C L J2 := by
  obtain ⟨U, h1, h2, h3⟩ := h
  exact ⟨U, h1, h2, h3.2 26 (by omega) (by omega), frG_F h3⟩
theorem rcQ.trans {C D : List (Nat × Int32)} {L2 : List (Nat × Nat)} {U : List (Nat × Int32)} {J2 : xc_M} (h1 : U.map nrm = C) (h26 : J' 0 26 = J 0 26) (h2 : frG J J') (h : rcQ c t J' (S ++ U) D L2 J2) : rcQ c t J S (C ++ D) L2 J2 := by
  obtain ⟨V, q1, q2, q3, q4⟩ := h
  rw [List.append_assoc] at q1
  exact ⟨U ++ V, q1, by rw [List.map_append, h1, q2], q3.trans h26, frG_t h2 q4⟩
theorem frF.k26 (h : frF J J') : J' 0 26 = J 0 26 := h.2 26 (by omega) (by omega)
/-- a reader R of the tokens T leaves the steps C; bad: what may not stand behind; d brackets at most -/
def cdR (N : Nat) (c : Nat → Nat) (t : Nat) (R : xc_M → Option (Int32 × xc_M)) (T : List (Nat × Nat)) (C : List (Nat × Int32)) (d : Nat) (bad : Nat → Prop) : Prop := ∀ (J : xc_M) (S : List (Nat × Int32)) (k v op : Nat) (L : List (Nat × Nat)), ¬ bad k → S.length + C.length < 400 → J 0 26 = nI op → op + d ≤ 8 → eS c t J S (T ++ (k, v) :: L) → ∃ J2, R J = some (nI 1, J2) ∧ rcQ c t J S C ((k, v) :: L) J2
def badS (k : Nat) : Prop := k = 42 ∨ k = 47 ∨ k = 43 ∨ k = 45
theorem eS.need (hN : 1000 ≤ N) {a b : Nat} (hc : tmc 1 a b = true) (ha : a < 1000) (h : eS c t J S ((b, v) :: L)) (h0 : b ≠ 0) : ∃ J', fX10_need N (nI a) J = some (nI 1, J') ∧ eS c t J' S L ∧ frF J J' := by
  obtain ⟨ht, h200⟩ := psL_tok h.1
  obtain ⟨J1, g1, g2, g3⟩ := h.nx hN h0
  refine ⟨J1, ?_, g2, g3⟩
  unfold fX10_need
  exact e_t (tok_eq ht hc h200 ha rfl) (e_cv g1 rfl)
/-- two sums compared -/
theorem cmp_run (hN : 1000 ≤ N) (r0 r1 r2 : xc_M → Option (Int32 × xc_M)) {m1 m2 : Sm} (h1 : okM m1) (h2 : okM m2) (hh : ∀ L2 : List (Nat × Nat), ∃ k2 v2 L3, tM m1 ++ L2 = (k2, v2) :: L3 ∧ k2 ≠ 103 ∧ k2 ≠ 40) {op : Nat} (ho : op = 60 ∨ op = 61 ∨ op = 62) : cdR N c t (gX10_oneTest N r0 r1 r2) (tM m1 ++ (op, 0) :: tM m2) (cM m1 ++ (cM m2 ++ [(op - 33, 0)])) 0 badS := by
  intro J S k v ob L hb hl h26 hob h
  have el : (cM m1 ++ (cM m2 ++ [(op - 33, (0 : Int32))])).length = (cM m1).length + ((cM m2).length + 1) := by rw [List.length_append, List.length_append]; rfl
  rw [List.append_assoc, List.cons_append] at h
  obtain ⟨k2, v2, L3, e3, n1, n2⟩ := hh ((op, 0) :: (tM m2 ++ (k, v) :: L))
  have h3 := h
  rw [e3] at h3
  obtain ⟨ht, h200⟩ := psL_tok h3.1
  obtain ⟨J1, p1, U1, p2, p3, p4⟩ := sum_all hN (by omega) h1 (by omega) h
  have hU1 : U1.length = (cM m1).length := by rw [← p3, List.length_map]
  obtain ⟨ht1, h201⟩ := psL_tok p2.1
  obtain ⟨J2, q1, q2, q3⟩ := p2.nx hN (by omega)
  have hb' : (k ≠ 42 ∧ k ≠ 47) ∧ k ≠ 43 ∧ k ≠ 45 := ⟨⟨fun z => hb (Or.inl z), fun z => hb (Or.inr (Or.inl z))⟩, fun z => hb (Or.inr (Or.inr (Or.inl z))), fun z => hb (Or.inr (Or.inr (Or.inr z)))⟩
  obtain ⟨J3, r3, U2, r4, r5, r6⟩ := sum_all hN hb' h2 (by rw [List.length_append]; omega) q2
  have hU2 : U2.length = (cM m2).length := by rw [← r5, List.length_map]
  obtain ⟨J4, l1, l2, l3⟩ := r4.lay (op - 33) 0 (by rw [List.length_append, List.length_append]; omega)
  have hfr := frF_t p4 (frF_t q3 (frF_t r6 l3))
  refine ⟨J4, ?_, U1 ++ (U2 ++ [(op - 33, 0)]), ?_, ?_, hfr.k26, frG_F hfr⟩
  · have fin : ∀ x : Int32, x = nI (op - 33) → bX10_oneTest_147 N r0 r1 r2 x J1 = some (nI 1, J4) := by
      intro x hx
      subst hx
      unfold bX10_oneTest_147
      refine e_lt rfl (e_t ?_ (e_cv q1 (e_cl r3 (e_t (by decide) (e_cv l1 rfl)))))
      rcases ho with rfl | rfl | rfl <;> decide
    unfold gX10_oneTest
    refine e_t (tok_ne ht (a := 6) (b := 103) (by decide +kernel) h200 (by omega) n1) (e_t (tok_ne ht (a := 140) (b := 40) (by decide +kernel) h200 (by omega) n2) (e_cl p1 (e_t (by decide) ?_)))
    by_cases c1 : op = 60
    · exact e_f (fun z => z (tok_eq ht1 (a := 160) (b := 60) (by decide +kernel) h201 (by omega) c1)) (fin 27 (by rw [c1]; rfl))
    · refine e_t (tok_ne ht1 (a := 160) (b := 60) (by decide +kernel) h201 (by omega) c1) ?_
      by_cases c2 : op = 61
      · exact e_f (fun z => z (tok_eq ht1 (a := 161) (b := 61) (by decide +kernel) h201 (by omega) c2)) (fin 28 (by rw [c2]; rfl))
      · exact e_t (tok_ne ht1 (a := 161) (b := 61) (by decide +kernel) h201 (by omega) c2) (e_f (fun z => z (tok_eq ht1 (a := 162) (b := 62) (by decide +kernel) h201 (by omega) (by omega))) (fin 29 (by rw [show op = 62 by omega]; rfl)))
  · rw [List.append_assoc, List.append_assoc] at l2
    exact l2
  · rw [List.map_append, List.map_append, p3, r5]
    show _ ++ (_ ++ [nrm (op - 33, 0)]) = _
    rw [nrm_op (by omega) (by omega)]
theorem eS.opens (hN : 1000 ≤ N) {ob : Nat} (h : eS c t J S ((k, v) :: L)) (h0 : k ≠ 0) (h26 : J 0 26 = nI ob) (hob : ob < 8) : ∃ J', fX10_opens N J = some (nI 1, J') ∧ eS c t J' S L ∧ J' 0 26 = nI (ob + 1) ∧ frG J J' := by
  obtain ⟨x, r, h1, h2, h3, h4⟩ := psL_cons h.1
  obtain ⟨J', g1, g2, g3, g4, g5⟩ := rv_opens hN h1 (by rw [h2]; exact h0) h26 hob
  exact ⟨J', g1, ⟨⟨r, g2, h4⟩, g5 S h.2⟩, g3, g4⟩
theorem eS.w26 (h : eS c t J S L) (x : Int32) : eS c t (xc_wr J 0 26 x) S L := ⟨psL_keep h.1 (xp_wr_cell (by omega)) (fun k hk => xp_wr_k (by omega)), sS_keep (xp_wr_cell (by omega)) (xp_wr_k (by omega)) h.2⟩
/-- not -/
theorem not_run (hN : 1000 ≤ N) {r0 r1 r2 : xc_M → Option (Int32 × xc_M)} {T : List (Nat × Nat)} {C : List (Nat × Int32)} {d : Nat} {bad : Nat → Prop} (h2 : cdR N c t r2 T C d bad) : cdR N c t (gX10_oneTest N r0 r1 r2) ((103, 0) :: T) (C ++ [(30, 0)]) (d + 1) bad := by
  intro J S k v ob L hb hl h26 hob h
  rw [List.length_append] at hl
  have hl' : S.length + (C.length + 1) < 400 := hl
  obtain ⟨ht, h200⟩ := psL_tok h.1
  obtain ⟨J1, g1, g2, g3, g4⟩ := eS.opens hN h (by omega) h26 (by omega)
  obtain ⟨J2, p1, U, p2, p3, p4, p5⟩ := h2 J1 S k v (ob + 1) L hb (by omega) g3 (by omega) g2
  have hU : U.length = C.length := by rw [← p3, List.length_map]
  have p2' := p2.w26 (nI ob)
  obtain ⟨J3, l1, l2, l3⟩ := p2'.lay 30 0 (by rw [List.length_append]; omega)
  refine ⟨J3, ?_, U ++ [(30, 0)], ?_, ?_, ?_, frG_t g4 (frG_t p5 (frG_t (frG_26 J2 (nI ob)) (frG_F l3)))⟩
  · unfold gX10_oneTest
    refine e_f (fun z => z (tok_eq ht (a := 6) (b := 103) (by decide +kernel) h200 (by omega) rfl)) (e_cl g1 (e_f (by decide) (e_cl p1 (e_t (by decide) (e_mw (v := nI ob) ?_ (e_cv l1 rfl))))))
    rw [p4, g3]
    exact i_m1 ob
  · rw [List.append_assoc] at l2
    exact l2
  · rw [List.map_append, p3]
    rfl
  · rw [l3.k26, xp_wr_s, h26]
/-- in brackets -/
theorem par_run (hN : 1000 ≤ N) {r0 r1 r2 : xc_M → Option (Int32 × xc_M)} {T : List (Nat × Nat)} {C : List (Nat × Int32)} {d : Nat} {bad : Nat → Prop} (h41 : ¬ bad 41) (h0 : cdR N c t r0 T C d bad) : cdR N c t (gX10_oneTest N r0 r1 r2) ((40, 0) :: (T ++ [(41, 0)])) C (d + 1) (fun _ => False) := by
  intro J S k v ob L _ hl h26 hob h
  rw [List.cons_append, List.append_assoc] at h
  obtain ⟨ht, h200⟩ := psL_tok h.1
  obtain ⟨J1, g1, g2, g3, g4⟩ := eS.opens hN h (by omega) h26 (by omega)
  obtain ⟨J2, p1, U, p2, p3, p4, p5⟩ := h0 J1 S 41 0 (ob + 1) ((k, v) :: L) h41 hl g3 (by omega) g2
  obtain ⟨J3, n1, n2, n3⟩ := eS.need hN (a := 141) (b := 41) (by decide +kernel) (by omega) p2 (by omega)
  refine ⟨xc_wr J3 0 26 (nI ob), ?_, U, n2.w26 _, p3, ?_, frG_t g4 (frG_t p5 (frG_t (frG_F n3) (frG_26 J3 (nI ob))))⟩
  · unfold gX10_oneTest
    refine e_t (tok_ne ht (a := 6) (b := 103) (by decide +kernel) h200 (by omega) (by omega)) (e_f (fun z => z (tok_eq ht (a := 140) (b := 40) (by decide +kernel) h200 (by omega) rfl)) (e_cl g1 (e_f (by decide) (e_cl p1 (e_f (by decide) (e_cl n1 (e_t (by decide) (e_mw (v := nI ob) ?_ rfl))))))))
    rw [n3.k26, p4, g3]
    exact i_m1 ob
  · rw [xp_wr_s, h26]
/-- one test alone -/
theorem every_1 {n : Nat} (hn : n = N) (hN : 1000 ≤ N) {r0 r1 r2 : xc_M → Option (Int32 × xc_M)} {T : List (Nat × Nat)} {C : List (Nat × Int32)} {d : Nat} {bad : Nat → Prop} (h2 : cdR N c t r2 T C d bad) : cdR N c t (gX10_every N r0 r1 r2) T C d (fun k => bad k ∨ k = 102) := by
  intro J S k v ob L hb hl h26 hob h
  obtain ⟨J2, p1, U, p2, p3, p4, p5⟩ := h2 J S k v ob L (fun z => hb (Or.inl z)) hl h26 hob h
  obtain ⟨ht, h200⟩ := psL_tok p2.1
  refine ⟨J2, ?_, U, p2, p3, p4, p5⟩
  obtain ⟨f, rfl⟩ : ∃ f, N = f + 1 := ⟨N - 1, by omega⟩
  unfold gX10_every
  refine e_cl p1 (e_t (by decide) ?_)
  rw [lX10_every_9, bX10_every_9]
  exact e_t (tok_ne ht (a := 5) (b := 102) (by decide +kernel) h200 (by omega) (fun z => hb (Or.inr z))) rfl
/-- two tests -/
theorem every_2 (hN : 1000 ≤ N) {r0 r1 r2 : xc_M → Option (Int32 × xc_M)} {T1 T2 : List (Nat × Nat)} {C1 C2 : List (Nat × Int32)} {d : Nat} {bad1 bad2 : Nat → Prop} (hb1 : ¬ bad1 102) (h1 : cdR N c t r2 T1 C1 d bad1) (h2 : cdR N c t r2 T2 C2 d bad2) : cdR N c t (gX10_every N r0 r1 r2) (T1 ++ (102, 0) :: T2) (C1 ++ (C2 ++ [(31, 0)])) d (fun k => bad2 k ∨ k = 102) := by
  intro J S k v ob L hb hl h26 hob h
  have el : (C1 ++ (C2 ++ [(31, (0 : Int32))])).length = C1.length + (C2.length + 1) := by rw [List.length_append, List.length_append]; rfl
  rw [List.append_assoc, List.cons_append] at h
  obtain ⟨J1, p1, U1, p2, p3, p4, p5⟩ := h1 J S 102 0 ob _ hb1 (by omega) h26 hob h
  have hU1 : U1.length = C1.length := by rw [← p3, List.length_map]
  obtain ⟨ht, h200⟩ := psL_tok p2.1
  obtain ⟨J2, g1, g2, g3⟩ := p2.nx hN (by omega)
  obtain ⟨J3, q1, U2, q2, q3, q4, q5⟩ := h2 J2 (S ++ U1) k v ob L (fun z => hb (Or.inl z)) (by rw [List.length_append]; omega) (by rw [g3.k26, p4]; exact h26) hob g2
  have hU2 : U2.length = C2.length := by rw [← q3, List.length_map]
  obtain ⟨J4, l1, l2, l3⟩ := q2.lay 31 0 (by rw [List.length_append, List.length_append]; omega)
  obtain ⟨ht4, h204⟩ := psL_tok l2.1
  refine ⟨J4, ?_, U1 ++ (U2 ++ [(31, 0)]), ?_, ?_, ?_, frG_t p5 (frG_t (frG_F g3) (frG_t q5 (frG_F l3)))⟩
  · obtain ⟨f, rfl⟩ : ∃ f, N = f + 2 := ⟨N - 2, by omega⟩
    unfold gX10_every
    refine e_cl p1 (e_t (by decide) ?_)
    rw [lX10_every_9, bX10_every_9]
    refine e_f (fun z => z (tok_eq ht (a := 5) (b := 102) (by decide +kernel) h200 (by omega) rfl)) (e_cv g1 (e_cl q1 (e_t (by decide) (e_cv l1 ?_))))
    rw [lX10_every_9, bX10_every_9]
    exact e_t (tok_ne ht4 (a := 5) (b := 102) (by decide +kernel) h204 (by omega) (fun z => hb (Or.inr z))) rfl
  · rw [List.append_assoc, List.append_assoc] at l2
    exact l2
  · rw [List.map_append, List.map_append, p3, q3]
    rfl
  · rw [l3.k26, q4, g3.k26, p4]
theorem any_1 (hN : 1000 ≤ N) {r0 r1 r2 : xc_M → Option (Int32 × xc_M)} {T : List (Nat × Nat)} {C : List (Nat × Int32)} {d : Nat} {bad : Nat → Prop} (h1 : cdR N c t r1 T C d bad) : cdR N c t (gX10_any N r0 r1 r2) T C d (fun k => bad k ∨ k = 101) := by
  intro J S k v ob L hb hl h26 hob h
  obtain ⟨J2, p1, U, p2, p3, p4, p5⟩ := h1 J S k v ob L (fun z => hb (Or.inl z)) hl h26 hob h
  obtain ⟨ht, h200⟩ := psL_tok p2.1
  refine ⟨J2, ?_, U, p2, p3, p4, p5⟩
  obtain ⟨f, rfl⟩ : ∃ f, N = f + 1 := ⟨N - 1, by omega⟩
  unfold gX10_any
  refine e_cl p1 (e_t (by decide) ?_)
  rw [lX10_any_9, bX10_any_9]
  exact e_t (tok_ne ht (a := 4) (b := 101) (by decide +kernel) h200 (by omega) (fun z => hb (Or.inr z))) rfl
theorem any_2 (hN : 1000 ≤ N) {r0 r1 r2 : xc_M → Option (Int32 × xc_M)} {T1 T2 : List (Nat × Nat)} {C1 C2 : List (Nat × Int32)} {d : Nat} {bad1 bad2 : Nat → Prop} (hb1 : ¬ bad1 101) (h1 : cdR N c t r1 T1 C1 d bad1) (h2 : cdR N c t r1 T2 C2 d bad2) : cdR N c t (gX10_any N r0 r1 r2) (T1 ++ (101, 0) :: T2) (C1 ++ (C2 ++ [(32, 0)])) d (fun k => bad2 k ∨ k = 101) := by
  intro J S k v ob L hb hl h26 hob h
  have el : (C1 ++ (C2 ++ [(32, (0 : Int32))])).length = C1.length + (C2.length + 1) := by rw [List.length_append, List.length_append]; rfl
  rw [List.append_assoc, List.cons_append] at h
  obtain ⟨J1, p1, U1, p2, p3, p4, p5⟩ := h1 J S 101 0 ob _ hb1 (by omega) h26 hob h
  have hU1 : U1.length = C1.length := by rw [← p3, List.length_map]
  obtain ⟨ht, h200⟩ := psL_tok p2.1
  obtain ⟨J2, g1, g2, g3⟩ := p2.nx hN (by omega)
  obtain ⟨J3, q1, U2, q2, q3, q4, q5⟩ := h2 J2 (S ++ U1) k v ob L (fun z => hb (Or.inl z)) (by rw [List.length_append]; omega) (by rw [g3.k26, p4]; exact h26) hob g2
  have hU2 : U2.length = C2.length := by rw [← q3, List.length_map]
  obtain ⟨J4, l1, l2, l3⟩ := q2.lay 32 0 (by rw [List.length_append, List.length_append]; omega)
  obtain ⟨ht4, h204⟩ := psL_tok l2.1
  refine ⟨J4, ?_, U1 ++ (U2 ++ [(32, 0)]), ?_, ?_, ?_, frG_t p5 (frG_t (frG_F g3) (frG_t q5 (frG_F l3)))⟩
  · obtain ⟨f, rfl⟩ : ∃ f, N = f + 2 := ⟨N - 2, by omega⟩
    unfold gX10_any
    refine e_cl p1 (e_t (by decide) ?_)
    rw [lX10_any_9, bX10_any_9]
    refine e_f (fun z => z (tok_eq ht (a := 4) (b := 101) (by decide +kernel) h200 (by omega) rfl)) (e_cv g1 (e_cl q1 (e_t (by decide) (e_cv l1 ?_))))
    rw [lX10_any_9, bX10_any_9]
    exact e_t (tok_ne ht4 (a := 4) (b := 101) (by decide +kernel) h204 (by omega) (fun z => hb (Or.inr z))) rfl
  · rw [List.append_assoc, List.append_assoc] at l2
    exact l2
  · rw [List.map_append, List.map_append, p3, q3]
    rfl
  · rw [l3.k26, q4, g3.k26, p4]
end
