-- ===== the reference reads rows of numbers =====
section
variable {N t rd : Nat} {c : Nat → Nat} {J J' : xc_M} {k v R : Nat} {L : List (Nat × Nat)}
theorem fr3_t {J2 : xc_M} (h : fr3 J J') (h2 : fr3 J' J2) : fr3 J J2 := ⟨fun a a1 => (h2.1 a a1).trans (h.1 a a1), fun q q1 q2 => (h2.2 q q1 q2).trans (h.2 q q1 q2)⟩
theorem num_run (hN : 1000 ≤ N) (h : psL c t rd J ((2, v) :: L)) {lo hi : Int32} (hin : fX10_isIn (nI v) lo hi = some (nI 1)) : ∃ J', fX10_number N lo hi J = some (nI 1, J') ∧ psL c t rd J' L ∧ J' 0 28 = nI v ∧ fr3 J J' := by
  obtain ⟨ht, -⟩ := psL_tok h
  obtain ⟨hv, -⟩ := psL_val h
  have h8 : psL c t rd (xc_wr J 0 28 (nI v)) ((2, v) :: L) := psL_keep h (xp_wr_cell (by omega)) (fun q hq => xp_wr_k (by omega))
  obtain ⟨J1, n1, n2, n3⟩ := psL_nx hN h8 (by omega)
  refine ⟨J1, ?_, n3, ?_, ⟨fun a ha => by rw [n2.1 a ha, xp_wr_cell ha], fun q q1 q2 => by rw [n2.2 q (by omega) (by omega) (by omega) (by omega), xp_wr_k q1]⟩⟩
  · unfold fX10_number
    refine e_t (ht.trans rfl) (e_cr (v := nI 1) (by rw [hv]; exact hin) (e_t (by decide) (e_mw hv (e_cv n1 rfl))))
  · rw [n2.2 28 (by omega) (by omega) (by omega) (by omega), xp_wr_s]
theorem told_run (hN : 1000 ≤ N) (h : psL c t rd J ((2, v) :: L)) {lo hi : Int32} {p : Nat} (hp : p < 64) (hin : fX10_isIn (nI v) lo hi = some (nI 1)) : ∃ J', fX10_told N (nI p) lo hi J = some (nI 1, J') ∧ psL c t rd J' L ∧ J' 9 p = nI v ∧ fr5 J J' p := by
  obtain ⟨J1, g1, g2, g3, g4⟩ := num_run hN h hin
  refine ⟨xc_wr J1 9 p (nI v), ?_, psL_keep g2 (xp_wr_cell (by omega)) (fun q hq => by rw [xp_wr_cell (by omega)]), xp_wr_s _ _ _ _, ⟨fun a a1 a2 => by rw [xp_wr_cell a2, g4.1 a a1], fun q q1 q2 => by rw [xp_wr_cell (by omega), g4.2 q q1 q2], fun j hj => by rw [xp_wr_k hj, g4.1 9 (by omega)]⟩⟩
  unfold fX10_told
  exact e_cl g1 (e_t (by decide) (e_st (k := p) rfl (by omega) g3 rfl))
theorem need_run (hN : 1000 ≤ N) (h : psL c t rd J ((k, v) :: L)) (h0 : k ≠ 0) : ∃ J', fX10_need N (nI (tm rd k)) J = some (nI 1, J') ∧ psL c t rd J' L ∧ nfr J J' := by
  obtain ⟨ht, -⟩ := psL_tok h
  obtain ⟨J1, g1, g2, g3⟩ := psL_nx hN h h0
  refine ⟨J1, ?_, g3, g2⟩
  unfold fX10_need
  exact e_t ht (e_cv g1 rfl)
/-- but for the row R of w numbers and the count -/
def frR (w R : Nat) (J J' : xc_M) : Prop := (∀ a, a ≠ 0 → a ≠ 9 → J' a = J a) ∧ (∀ q, q ≠ 28 → q ≠ 17 → q < 19 ∨ 24 < q → J' 0 q = J 0 q) ∧ ∀ j, j < w * R → J' 9 j = J 9 j
theorem psL_w17 (h : psL c t rd J L) (x : Int32) : psL c t rd (xc_wr J 0 17 x) L := psL_keep h (xp_wr_cell (by omega)) (fun q hq => xp_wr_k (by omega))
theorem need_all (hN : 1000 ≤ N) {m d w nM : Nat} (hM : J 1 66 = nI nM) (hM2 : nM < 11) (hm : m < nM) (hd : d < 1000) (hw : 1 ≤ w ∧ w < 100) (hR : R < 12) (h17 : J 0 17 = nI R) (h : psL c t 3 J ((120, 0) :: (2, m) :: (121, 0) :: (2, d) :: (122, 0) :: (2, w) :: (59, 0) :: L)) : ∃ J', fX10_aNeed N J = some (nI 1, J') ∧ psL c t 3 J' L ∧ J' 0 17 = nI (R + 1) ∧ J' 9 (3 * R) = nI m ∧ J' 9 (3 * R + 1) = nI d ∧ J' 9 (3 * R + 2) = nI w ∧ frR 3 R J J' := by
  obtain ⟨ht, -⟩ := psL_tok h
  obtain ⟨J1, a1, a2, a3⟩ := psL_nx hN h (by omega)
  have e17 : J1 0 17 = nI R := (a2.2 17 (by omega) (by omega) (by omega) (by omega)).trans h17
  have e66 : J1 1 66 = nI nM := by rw [a2.1 1 (by omega)]; exact hM
  obtain ⟨J2, b1, b2, b3, b4⟩ := told_run hN a3 (lo := 0) (hi := nI nM - 1) (p := 3 * R) (by omega) (rv_isN_t (by omega) hm)
  obtain ⟨J3, c1, c2, c3⟩ := need_run hN b2 (by omega)
  obtain ⟨J4, d1, d2, d3, d4⟩ := told_run hN c2 (lo := 0) (hi := 999) (p := 3 * R + 1) (by omega) (rv_isIn_t (n := 999) (by omega) (by omega))
  obtain ⟨J5, f1, f2, f3⟩ := need_run hN d2 (by omega)
  have hin : fX10_isIn (nI w) (nI 1) (nI 99) = some (nI 1) := by
    have := rv_isIn (v := w) (a := 1) (c := 99) (by omega) (by omega) (by omega)
    rw [decide_eq_true (show 1 ≤ w ∧ w ≤ 99 by omega)] at this
    exact this
  obtain ⟨J6, g1, g2, g3, g4⟩ := told_run hN f2 (p := 3 * R + 2) (by omega) hin
  have h6 : J6 0 17 = nI R := by rw [g4.2.1 17 (by omega) (by omega), f3.2 17 (by omega) (by omega) (by omega) (by omega), d4.2.1 17 (by omega) (by omega), c3.2 17 (by omega) (by omega) (by omega) (by omega), b4.2.1 17 (by omega) (by omega)]; exact e17
  obtain ⟨J7, x1, x2, x3⟩ := need_run hN (psL_w17 g2 (nI (R + 1))) (by omega)
  have k9 : J7 9 = J6 9 := by rw [x3.1 9 (by omega), xp_wr_cell (by omega)]
  refine ⟨J7, ?_, x2, by rw [x3.2 17 (by omega) (by omega) (by omega) (by omega), xp_wr_s], ?_, ?_, ?_, ⟨fun a q1 q2 => ?_, fun q q1 q2 q3 => ?_, fun j hj => ?_⟩⟩
  · unfold fX10_aNeed
    refine e_t (ht.trans rfl) (e_t ?_ (e_cv a1 (e_lt (v := nI (3 * R)) (by rw [e17]; exact pk_mul 3 R) (e_rd (k := 66) rfl (by omega) e66 (e_cl b1 (e_f (by decide) (e_cl c1 (e_f (by decide) (e_cl (by rw [show (nI (3 * R) + 1 : Int32) = nI (3 * R + 1) from nI_add _ 1]; exact d1) (e_f (by decide) (e_cl f1 (e_f (by decide) (e_cl (by rw [show (nI (3 * R) + 2 : Int32) = nI (3 * R + 2) from nI_add _ 2]; exact g1) (e_t (by decide) (e_mw (by rw [h6]; exact nI_add R 1) (e_cl x1 rfl))))))))))))))))
    rw [h17, show (12 : Int32) = nI 12 from rfl, ne_eq, xp_eq (by omega) (by omega)]
    omega
  · rw [k9, g4.2.2 _ (by omega), f3.1 9 (by omega), d4.2.2 _ (by omega), c3.1 9 (by omega)]
    exact b3
  · rw [k9, g4.2.2 _ (by omega), f3.1 9 (by omega)]
    exact d3
  · rw [k9]
    exact g3
  · rw [x3.1 a q1, xp_wr_cell q1, g4.1 a q1 q2, f3.1 a q1, d4.1 a q1 q2, c3.1 a q1, b4.1 a q1 q2, a2.1 a q1]
  · rw [x3.2 q (by omega) (by omega) (by omega) (by omega), xp_wr_k q2, g4.2.1 q q1 q3, f3.2 q (by omega) (by omega) (by omega) (by omega), d4.2.1 q q1 q3, c3.2 q (by omega) (by omega) (by omega) (by omega), b4.2.1 q q1 q3, a2.2 q (by omega) (by omega) (by omega) (by omega)]
  · rw [k9, g4.2.2 _ (by omega), f3.1 9 (by omega), d4.2.2 _ (by omega), c3.1 9 (by omega), b4.2.2 _ (by omega), a2.1 9 (by omega)]
/-- a walk: kind 0 goes, 1 says, 2 rests -/
def wkTk (d p w x : Nat) : List (Nat × Nat) := (116, 0) :: (2, d) :: (2, p) :: (117 + w, 0) :: ((if w = 2 then [] else [(2, x)]) ++ [(59, 0)])
theorem walk_all (hN : 1000 ≤ N) {d p w x nW nP : Nat} (hW : J 1 62 = nI nW) (hP : J 1 63 = nI nP) (hW2 : nW < 15) (hP2 : nP < 11) (hd : d < 1000) (hp : p < nP) (hw : w < 3) (hx0 : w = 0 → x < 10) (hx1 : w = 1 → x < nW) (hx2 : w = 2 → x = 0) (hR : R < 16) (h17 : J 0 17 = nI R) (h : psL c t 2 J (wkTk d p w x ++ L)) : ∃ J', fX10_aWalk N J = some (nI 1, J') ∧ psL c t 2 J' L ∧ J' 0 17 = nI (R + 1) ∧ J' 9 (4 * R) = nI d ∧ J' 9 (4 * R + 1) = nI p ∧ J' 9 (4 * R + 2) = nI (9 + w) ∧ J' 9 (4 * R + 3) = nI x ∧ frR 4 R J J' := by
  have h' : psL c t 2 J ((116, 0) :: (2, d) :: (2, p) :: (117 + w, 0) :: ((if w = 2 then [] else [(2, x)]) ++ ((59, 0) :: L))) := by
    have e : wkTk d p w x ++ L = (116, 0) :: (2, d) :: (2, p) :: (117 + w, 0) :: ((if w = 2 then [] else [(2, x)]) ++ ((59, 0) :: L)) := by
      unfold wkTk
      simp only [List.cons_append, List.append_assoc, List.nil_append]
    rw [← e]
    exact h
  obtain ⟨ht, -⟩ := psL_tok h'
  obtain ⟨J1, a1, a2, a3⟩ := psL_nx hN h' (by omega)
  have e17 : J1 0 17 = nI R := (a2.2 17 (by omega) (by omega) (by omega) (by omega)).trans h17
  obtain ⟨J2, b1, b2, b3, b4⟩ := told_run hN a3 (lo := 0) (hi := 999) (p := 4 * R) (by omega) (rv_isIn_t (n := 999) (by omega) (by omega))
  have e63 : J2 1 63 = nI nP := by rw [b4.1 1 (by omega) (by omega), a2.1 1 (by omega)]; exact hP
  obtain ⟨J3, c1, c2, c3, c4⟩ := told_run hN b2 (lo := 0) (hi := nI nP - 1) (p := 4 * R + 1) (by omega) (rv_isN_t (by omega) hp)
  obtain ⟨ht3, -⟩ := psL_tok c2
  have htk : tm 2 (117 + w) = 9 + w := by
    have hc : w = 0 ∨ w = 1 ∨ w = 2 := by omega
    rcases hc with rfl | rfl | rfl <;> rfl
  rw [htk] at ht3
  -- the kind and a place for what
  have c2' : psL c t 2 (xc_wr J3 9 (4 * R + 2) (nI (9 + w))) ((117 + w, 0) :: ((if w = 2 then [] else [(2, x)]) ++ ((59, 0) :: L))) := psL_keep c2 (xp_wr_cell (by omega)) (fun q hq => by rw [xp_wr_cell (by omega)])
  obtain ⟨J4, d1, d2, d3⟩ := psL_nx hN c2' (by omega)
  obtain ⟨J5, hJ5⟩ : ∃ J5, xc_wr J4 9 (4 * R + 3) (nI 0) = J5 := ⟨_, rfl⟩
  have s5 : psL c t 2 J5 ((if w = 2 then [] else [(2, x)]) ++ ((59, 0) :: L)) := by rw [← hJ5]; exact psL_keep d3 (xp_wr_cell (by omega)) (fun q hq => by rw [xp_wr_cell (by omega)])
  have k5 : ∀ q, q < 19 ∨ 24 < q → q ≠ 28 → J5 0 q = J 0 q := fun q q1 q2 => by
    rw [← hJ5, xp_wr_cell (by omega), d2.2 q (by omega) (by omega) (by omega) (by omega), xp_wr_cell (by omega), c4.2.1 q q2 q1, b4.2.1 q q2 q1, a2.2 q (by omega) (by omega) (by omega) (by omega)]
  have m5 : ∀ a, a ≠ 0 → a ≠ 9 → J5 a = J a := fun a q1 q2 => by
    rw [← hJ5, xp_wr_cell q2, d2.1 a q1, xp_wr_cell q2, c4.1 a q1 q2, b4.1 a q1 q2, a2.1 a q1]
  have r0 : J5 9 (4 * R) = nI d := by
    rw [← hJ5, xp_wr_k (by omega), d2.1 9 (by omega), xp_wr_k (by omega), c4.2.2 _ (by omega)]
    exact b3
  have r1 : J5 9 (4 * R + 1) = nI p := by
    rw [← hJ5, xp_wr_k (by omega), d2.1 9 (by omega), xp_wr_k (by omega)]
    exact c3
  have r2 : J5 9 (4 * R + 2) = nI (9 + w) := by rw [← hJ5, xp_wr_k (by omega), d2.1 9 (by omega), xp_wr_s]
  have r3 : J5 9 (4 * R + 3) = nI 0 := by rw [← hJ5, xp_wr_s]
  have rl : ∀ j, j < 4 * R → J5 9 j = J 9 j := fun j hj => by
    rw [← hJ5, xp_wr_k (by omega), d2.1 9 (by omega), xp_wr_k (by omega), c4.2.2 _ (by omega), b4.2.2 _ (by omega), a2.1 9 (by omega)]
  -- the end
  have fin : ∀ (J6 : xc_M), psL c t 2 J6 ((59, 0) :: L) → (∀ a, a ≠ 0 → a ≠ 9 → J6 a = J5 a) → (∀ q, q ≠ 28 → q < 19 ∨ 24 < q → J6 0 q = J5 0 q) → (∀ j, j ≠ 4 * R + 3 → J6 9 j = J5 9 j) → J6 9 (4 * R + 3) = nI x → ∃ J', bX10_aWalk_183 N J6 = some (nI 1, J') ∧ psL c t 2 J' L ∧ J' 0 17 = nI (R + 1) ∧ J' 9 (4 * R) = nI d ∧ J' 9 (4 * R + 1) = nI p ∧ J' 9 (4 * R + 2) = nI (9 + w) ∧ J' 9 (4 * R + 3) = nI x ∧ frR 4 R J J' := by
    intro J6 z1 z2 z3 z4 z5
    have h6 : J6 0 17 = nI R := by rw [z3 17 (by omega) (by omega), k5 17 (by omega) (by omega)]; exact h17
    obtain ⟨J7, x1, x2, x3⟩ := need_run hN (psL_w17 z1 (nI (R + 1))) (by omega)
    have k9 : J7 9 = J6 9 := by rw [x3.1 9 (by omega), xp_wr_cell (by omega)]
    refine ⟨J7, ?_, x2, by rw [x3.2 17 (by omega) (by omega) (by omega) (by omega), xp_wr_s], ?_, ?_, ?_, ?_, ⟨fun a q1 q2 => ?_, fun q q1 q2 q3 => ?_, fun j hj => ?_⟩⟩
    · unfold bX10_aWalk_183
      exact e_mw (by rw [h6]; exact nI_add R 1) (e_cl x1 rfl)
    · rw [k9, z4 _ (by omega)]
      exact r0
    · rw [k9, z4 _ (by omega)]
      exact r1
    · rw [k9, z4 _ (by omega)]
      exact r2
    · rw [k9]
      exact z5
    · rw [x3.1 a q1, xp_wr_cell q1, z2 a q1 q2, m5 a q1 q2]
    · rw [x3.2 q (by omega) (by omega) (by omega) (by omega), xp_wr_k q2, z3 q q1 q3, k5 q q3 q1]
    · rw [k9, z4 _ (by omega), rl j hj]
  have e62 : J5 1 62 = nI nW := by rw [m5 1 (by omega) (by omega)]; exact hW
  have hd' : ∀ J', (if nI (9 + w) ≠ (9 : Int32) then (bX10_aWalk_148 N (nI (4 * R)) J5) else xc_cl (fX10_told N (nI (4 * R) + 3) 0 9 J5) fun x13 I14 => (if x13 ≠ (0 : Int32) then (bX10_aWalk_148 N (nI (4 * R)) I14) else some (0, I14))) = some (nI 1, J') → fX10_aWalk N J = some (nI 1, J') := by
    intro J' hJ'
    have hin := rv_isIn (v := 9 + w) (a := 9) (c := 11) (by omega) (by omega) (by omega)
    rw [decide_eq_true (show 9 ≤ 9 + w ∧ 9 + w ≤ 11 by omega)] at hin
    unfold fX10_aWalk
    refine e_t (ht.trans rfl) (e_t ?_ (e_cv a1 (e_lt (v := nI (4 * R)) (by rw [e17]; exact pk_mul 4 R) (e_cl b1 (e_f (by decide) (e_rd (k := 63) rfl (by omega) e63 (e_cl (by rw [show (nI (4 * R) + 1 : Int32) = nI (4 * R + 1) from nI_add _ 1]; exact c1) (e_t (by decide) (e_cr (v := nI 1) (by rw [ht3]; exact hin) (e_t (by decide) (e_st (k := 4 * R + 2) (nI_add _ 2) (by omega) ht3 (e_cv d1 (e_st (k := 4 * R + 3) (v := nI 0) (nI_add _ 3) (by omega) rfl ?_)))))))))))))
    · rw [h17, show (16 : Int32) = nI 16 from rfl, ne_eq, xp_eq (by omega) (by omega)]
      omega
    · rw [hJ5]
      exact e_rd (k := 4 * R + 2) (nI_add _ 2) (by omega) r2 hJ'
  have h148 : ∀ (J6 : xc_M) (R' : Option (Int32 × xc_M)), J6 9 (4 * R + 2) = nI (9 + w) → w ≠ 1 → bX10_aWalk_183 N J6 = R' → bX10_aWalk_148 N (nI (4 * R)) J6 = R' := by
    intro J6 R' z1 z2 z3
    unfold bX10_aWalk_148
    refine e_rd (k := 4 * R + 2) (nI_add _ 2) (by omega) z1 (e_t ?_ z3)
    rw [show (10 : Int32) = nI 10 from rfl, ne_eq, xp_eq (by omega) (by omega)]
    omega
  have hc : w = 0 ∨ w = 1 ∨ w = 2 := by omega
  rcases hc with e0 | e1 | e2
  · rw [if_neg (by omega)] at s5
    have s5' : psL c t 2 J5 ((2, x) :: ((59, 0) :: L)) := s5
    obtain ⟨J6, y1, y2, y3, y4⟩ := told_run hN s5' (lo := 0) (hi := 9) (p := 4 * R + 3) (by omega) (rv_isIn_t (n := 9) (by have := hx0 e0; omega) (by omega))
    obtain ⟨J', q1, q2⟩ := fin J6 y2 (fun a b1 b2 => y4.1 a b1 b2) (fun q b1 b2 => y4.2.1 q b1 b2) (fun j hj => y4.2.2 j hj) y3
    refine ⟨J', hd' J' (e_f ?_ (e_cl (by rw [show (nI (4 * R) + 3 : Int32) = nI (4 * R + 3) from nI_add _ 3]; exact y1) (e_t (by decide) (h148 J6 _ ?_ (by omega) q1)))), q2⟩
    · rw [e0]
      exact fun z => z rfl
    · rw [y4.2.2 _ (by omega)]
      exact r2
  · rw [if_neg (by omega)] at s5
    have s5' : psL c t 2 J5 ((2, x) :: ((59, 0) :: L)) := s5
    obtain ⟨J6, y1, y2, y3, y4⟩ := told_run hN s5' (lo := 0) (hi := nI nW - 1) (p := 4 * R + 3) (by omega) (rv_isN_t (by omega) (hx1 e1))
    obtain ⟨J', q1, q2⟩ := fin J6 y2 (fun a b1 b2 => y4.1 a b1 b2) (fun q b1 b2 => y4.2.1 q b1 b2) (fun j hj => y4.2.2 j hj) y3
    refine ⟨J', hd' J' (e_t ?_ ?_), q2⟩
    · rw [e1]
      decide
    · unfold bX10_aWalk_148
      refine e_rd (k := 4 * R + 2) (nI_add _ 2) (by omega) r2 (e_f ?_ (e_rd (k := 62) rfl (by omega) e62 (e_cl (by rw [show (nI (4 * R) + 3 : Int32) = nI (4 * R + 3) from nI_add _ 3]; exact y1) (e_t (by decide) q1))))
      rw [e1]
      exact fun z => z rfl
  · rw [if_pos e2] at s5
    obtain ⟨J', q1, q2⟩ := fin J5 s5 (fun _ _ _ => rfl) (fun _ _ _ => rfl) (fun _ _ => rfl) (by rw [hx2 e2]; exact r3)
    refine ⟨J', hd' J' (e_t ?_ (h148 J5 _ r2 (by omega) q1)), q2⟩
    rw [e2]
    decide
end
