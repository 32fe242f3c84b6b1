-- ===== the law's text is read =====
section
variable {N M t : Nat} {c : Nat → Nat} {I J J' : xc_M} {k v : Nat} {L : List (Nat × Nat)} {S : List (Nat × Int32)} {s : List Nat} {P : List Pc}
/-- the reader's first token -/
theorem tx_pre (hN : 1000 ≤ N) (hk : k < 4) (hs : s = rnd P) (hw : wfB 0 P = true) (hn : nmB P) (hT : TQ s.length (txc s) J) : ∃ J7, (∀ R, (if nI k ≠ (1 : Int32) then xc_cl (fX10_readsRows N J7) fun x8 I9 => (bX10_text_61 N M (nI k) x8 I9) else xc_cl (fX10_readsLaw N M J7) fun x10 I11 => (bX10_text_61 N M (nI k) x10 I11)) = R → fX10_text N M (nI k) J = R) ∧ psL (txc s) s.length k J7 (tks P ++ [(0, 0)]) ∧ preJ J J7 := by
  obtain ⟨J6, hJ6⟩ : ∃ J6, xc_wr (xc_wr (xc_wr (xc_wr (xc_wr J 0 25 (nI 0)) 0 27 mI) 0 23 (nI 0)) 0 19 (nI 0)) 0 14 (nI k) = J6 := ⟨_, rfl⟩
  have h18 : J6 0 18 = J 0 18 := by rw [← hJ6, xp_wr_k (by omega), xp_wr_k (by omega), xp_wr_k (by omega), xp_wr_k (by omega), xp_wr_k (by omega)]
  have ha : ∀ a, a ≠ 0 → J6 a = J a := fun a ha => by rw [← hJ6, xp_wr_cell ha, xp_wr_cell ha, xp_wr_cell ha, xp_wr_cell ha, xp_wr_cell ha]
  have hT6 : TQ s.length (txc s) J6 := ⟨h18.trans hT.1, hT.2.1, fun j hj => ⟨(hT.2.2 j hj).1, by rw [ha 10 (by omega)]; exact (hT.2.2 j hj).2⟩⟩
  have h14 : J6 0 14 = nI k := by rw [← hJ6, xp_wr_s]
  have h19 : J6 0 19 = nI 0 := by rw [← hJ6, xp_wr_k (by omega), xp_wr_s]
  obtain ⟨J7, g1, g2, g3⟩ := psJ_first (f := s.length) hN hT6 h14 hk h19 (Nat.zero_le _) (by omega)
  have hx := lx_all P 0 hw hn [] s.length (by rw [← hs]; exact Nat.le_refl _)
  rw [← hs] at hx
  refine ⟨J7, fun R hR => ?_, ⟨_, g3, hx⟩, fun a a0 => (g2.1 a a0).trans (ha a a0), fun q q1 q2 q3 => ?_, ?_, ?_⟩
  · unfold fX10_text
    refine e_mw rfl (e_mw rfl (e_cr (rv_isIn_t (k := k) (n := 3) (by omega) (by omega)) (e_t (by decide) (e_mw rfl (e_mw rfl (e_mw rfl ?_))))))
    have hJ6' : xc_wr (xc_wr (xc_wr (xc_wr (xc_wr J 0 25 0) 0 27 (-1)) 0 23 0) 0 19 0) 0 14 (nI k) = J6 := hJ6
    rw [hJ6']
    exact e_cv g1 hR
  · rw [g2.2 q (by omega) (by omega) (by omega) (by omega), ← hJ6, xp_wr_k (by omega), xp_wr_k (by omega), xp_wr_k (by omega), xp_wr_k (by omega), xp_wr_k (by omega)]
  · rw [g2.2 25 (by omega) (by omega) (by omega) (by omega), ← hJ6, xp_wr_k (by omega), xp_wr_k (by omega), xp_wr_k (by omega), xp_wr_k (by omega), xp_wr_s]
  · rw [g2.2 27 (by omega) (by omega) (by omega) (by omega), ← hJ6, xp_wr_k (by omega), xp_wr_k (by omega), xp_wr_k (by omega), xp_wr_s]
theorem zX_0 (m : Nat) : zX10_any N (m + 1) 0 = gX10_any N (zX10_any N m 0) (zX10_any N m 1) (zX10_any N m 2) := rfl
theorem zX_1 (m : Nat) : zX10_any N (m + 1) 1 = gX10_every N (zX10_any N m 0) (zX10_any N m 1) (zX10_any N m 2) := rfl
theorem zX_2 (m : Nat) : zX10_any N (m + 1) 2 = gX10_oneTest N (zX10_any N m 0) (zX10_any N m 1) (zX10_any N m 2) := rfl
/-- a sum of one number or fact -/
def s1 (u : Un) : Sm := ((u, []), [])
theorem s1_ok {u : Un} (h : okU u) : okM (s1 u) := ⟨⟨h, fun x hx => absurd hx (List.not_mem_nil)⟩, by simp [s1], fun x hx => absurd hx (List.not_mem_nil), by simp [s1]⟩
theorem s1_hd {u : Un} (h : u.1 ≠ 103 ∧ u.1 ≠ 40) (L2 : List (Nat × Nat)) : ∃ k2 v2 L3, tM (s1 u) ++ L2 = (k2, v2) :: L3 ∧ k2 ≠ 103 ∧ k2 ≠ 40 := ⟨u.1, u.2, L2, rfl, h.1, h.2⟩
theorem okn (d : Nat) : okU (2, d) := Or.inl rfl
theorem okf {k : Nat} (h : 108 ≤ k ∧ k < 116) (x : Nat) : okU (k, x) := Or.inr h
/-- the sums of the five lines -/
def lm1 (d : Nat) : Sm := (((2, d), []), [(43, ((112, 0), [(42, (2, 5))]))])
def lm2 (d : Nat) : Sm := (((2, d), []), [(43, ((111, 0), [])), (45, ((115, 0), [])), (43, ((115, 0), [(47, (2, 3)), (42, (2, 3))]))])
def lm3 : Sm := (((113, 0), [(47, (2, 2))]), [])
def lm5 (d : Nat) : Sm := (((109, 0), []), [(43, ((2, d), [])), (45, ((110, 0), [(47, (2, 5))]))])
theorem lm1_ok (d : Nat) : okM (lm1 d) := by
  refine ⟨⟨okn d, fun x hx => absurd hx (List.not_mem_nil)⟩, by simp [lm1], fun x hx => ?_, by simp [lm1]⟩
  have e := List.mem_singleton.mp hx
  subst e
  refine ⟨Or.inl rfl, ⟨okf (by decide) 0, fun y hy => ?_⟩, by decide⟩
  have e := List.mem_singleton.mp hy
  subst e
  exact Or.inl ⟨rfl, okn 5⟩
theorem lm2_ok (d : Nat) : okM (lm2 d) := by
  refine ⟨⟨okn d, fun x hx => absurd hx (List.not_mem_nil)⟩, by simp [lm2], fun x hx => ?_, by simp [lm2]⟩
  have hx' : x ∈ [(43, ((111, 0), [])), (45, ((115, 0), [])), (43, ((115, 0), [((47, (2, 3)) : Fac), (42, (2, 3))]))] := hx
  simp only [List.mem_cons, List.not_mem_nil, or_false] at hx'
  rcases hx' with rfl | rfl | rfl
  · exact ⟨Or.inl rfl, ⟨okf (by decide) 0, fun y hy => absurd hy (List.not_mem_nil)⟩, by decide⟩
  · exact ⟨Or.inr rfl, ⟨okf (by decide) 0, fun y hy => absurd hy (List.not_mem_nil)⟩, by decide⟩
  · refine ⟨Or.inl rfl, ⟨okf (by decide) 0, fun y hy => ?_⟩, by decide⟩
    have hy' : y ∈ [((47, (2, 3)) : Fac), (42, (2, 3))] := hy
    simp only [List.mem_cons, List.not_mem_nil, or_false] at hy'
    rcases hy' with rfl | rfl
    · exact Or.inr ⟨rfl, rfl, by decide⟩
    · exact Or.inl ⟨rfl, okn 3⟩
theorem lm3_ok : okM lm3 := by
  refine ⟨⟨okf (by decide) 0, fun x hx => ?_⟩, by decide, fun x hx => absurd hx (List.not_mem_nil), by decide⟩
  have e := List.mem_singleton.mp hx
  subst e
  exact Or.inr ⟨rfl, rfl, by decide⟩
theorem lm5_ok (d : Nat) : okM (lm5 d) := by
  refine ⟨⟨okf (by decide) 0, fun x hx => absurd hx (List.not_mem_nil)⟩, by simp [lm5], fun x hx => ?_, by simp [lm5]⟩
  have hx' : x ∈ [((43, ((2, d), [])) : Sgp), (45, ((110, 0), [(47, (2, 5))]))] := hx
  simp only [List.mem_cons, List.not_mem_nil, or_false] at hx'
  rcases hx' with rfl | rfl
  · exact ⟨Or.inl rfl, ⟨okn d, fun y hy => absurd hy (List.not_mem_nil)⟩, by simp⟩
  · refine ⟨Or.inr rfl, ⟨okf (by decide) 0, fun y hy => ?_⟩, by decide⟩
    have e := List.mem_singleton.mp hy
    subst e
    exact Or.inr ⟨rfl, rfl, by decide⟩
/-- the two conditions: tokens, steps -/
def lb1T (d0 d1 : Nat) : List (Nat × Nat) := [(109, 0), (62, 0), (2, d0), (102, 0), (103, 0), (40, 0), (113, 0), (60, 0), (2, 3), (101, 0), (108, 0), (61, 0), (2, d1), (41, 0)]
def lb1C (d0 d1 : Nat) : List (Nat × Int32) := [(2, 0), (0, nI d0), (29, 0), (6, 0), (0, nI 3), (27, 0), (1, 0), (0, nI d1), (28, 0), (32, 0), (30, 0), (31, 0)]
def lb2T (d4 : Nat) : List (Nat × Nat) := [(110, 0), (62, 0), (2, d4), (101, 0), (114, 0), (61, 0), (2, 3)]
def lb2C (d4 : Nat) : List (Nat × Int32) := [(3, 0), (0, nI d4), (29, 0), (7, 0), (0, nI 3), (28, 0), (32, 0)]
theorem lb1_run (hN : 1000 ≤ N) (hM : 60 ≤ M) (d0 d1 : Nat) : ∃ bad : Nat → Prop, cdR N c t (fX10_any N M) (lb1T d0 d1) (lb1C d0 d1) 2 bad ∧ ¬ bad 59 := by
  obtain ⟨m, rfl⟩ : ∃ m, M = m + 8 := ⟨M - 8, by omega⟩
  have t1 := cmp_run (t := t) (c := c) hN (zX10_any N (m + 5) 0) (zX10_any N (m + 5) 1) (zX10_any N (m + 5) 2) (s1_ok (okf (k := 109) (by decide) 0)) (s1_ok (okn d0)) (s1_hd (by decide)) (op := 62) (by decide)
  have t2 := cmp_run (t := t) (c := c) hN (zX10_any N (m + 1) 0) (zX10_any N (m + 1) 1) (zX10_any N (m + 1) 2) (s1_ok (okf (k := 113) (by decide) 0)) (s1_ok (okn 3)) (s1_hd (by decide)) (op := 60) (by decide)
  have t3 := cmp_run (t := t) (c := c) hN (zX10_any N (m + 1) 0) (zX10_any N (m + 1) 1) (zX10_any N (m + 1) 2) (s1_ok (okf (k := 108) (by decide) 0)) (s1_ok (okn d1)) (s1_hd (by decide)) (op := 61) (by decide)
  rw [← zX_2] at t1 t2 t3
  have e2 := every_1 rfl hN (r0 := zX10_any N (m + 2) 0) (r1 := zX10_any N (m + 2) 1) t2
  have e3 := every_1 rfl hN (r0 := zX10_any N (m + 2) 0) (r1 := zX10_any N (m + 2) 1) t3
  rw [← zX_1] at e2 e3
  have a1 := any_2 hN (r0 := zX10_any N (m + 3) 0) (r2 := zX10_any N (m + 3) 2) (by unfold badS; omega) e2 e3
  rw [← zX_0] at a1
  have p1 := par_run hN (r1 := zX10_any N (m + 4) 1) (r2 := zX10_any N (m + 4) 2) (by unfold badS; omega) a1
  rw [← zX_2] at p1
  have n1 := not_run hN (r0 := zX10_any N (m + 5) 0) (r1 := zX10_any N (m + 5) 1) p1
  rw [← zX_2] at n1
  have t1' : cdR N c t (zX10_any N (m + 6) 2) (tM (s1 (109, 0)) ++ (62, 0) :: tM (s1 (2, d0))) (cM (s1 (109, 0)) ++ (cM (s1 (2, d0)) ++ [(62 - 33, 0)])) (0 + 1 + 1) badS := fun J S k v op L b1 b2 b3 b4 b5 => t1 J S k v op L b1 b2 b3 (by omega) b5
  have v1 := every_2 hN (r0 := zX10_any N (m + 6) 0) (r1 := zX10_any N (m + 6) 1) (by unfold badS; omega) t1' n1
  rw [← zX_1] at v1
  have y1 := any_1 hN (r0 := zX10_any N (m + 7) 0) (r2 := zX10_any N (m + 7) 2) v1
  rw [← zX_0] at y1
  refine ⟨_, y1, ?_⟩
  simp
theorem lb2_run (hN : 1000 ≤ N) (hM : 60 ≤ M) (d4 : Nat) : ∃ bad : Nat → Prop, cdR N c t (fX10_any N M) (lb2T d4) (lb2C d4) 0 bad ∧ ¬ bad 59 := by
  obtain ⟨m, rfl⟩ : ∃ m, M = m + 8 := ⟨M - 8, by omega⟩
  have t2 := cmp_run (t := t) (c := c) hN (zX10_any N (m + 5) 0) (zX10_any N (m + 5) 1) (zX10_any N (m + 5) 2) (s1_ok (okf (k := 110) (by decide) 0)) (s1_ok (okn d4)) (s1_hd (by decide)) (op := 62) (by decide)
  have t3 := cmp_run (t := t) (c := c) hN (zX10_any N (m + 5) 0) (zX10_any N (m + 5) 1) (zX10_any N (m + 5) 2) (s1_ok (okf (k := 114) (by decide) 0)) (s1_ok (okn 3)) (s1_hd (by decide)) (op := 61) (by decide)
  rw [← zX_2] at t2 t3
  have e2 := every_1 rfl hN (r0 := zX10_any N (m + 6) 0) (r1 := zX10_any N (m + 6) 1) t2
  have e3 := every_1 rfl hN (r0 := zX10_any N (m + 6) 0) (r1 := zX10_any N (m + 6) 1) t3
  rw [← zX_1] at e2 e3
  have a1 := any_2 hN (r0 := zX10_any N (m + 7) 0) (r2 := zX10_any N (m + 7) 2) (by unfold badS; omega) e2 e3
  rw [← zX_0] at a1
  refine ⟨_, a1, ?_⟩
  unfold badS
  omega
end
