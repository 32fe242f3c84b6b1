-- ===== the law's text is read, whole =====
section
variable {N M t : Nat} {c : Nat → Nat} {I J J' : xc_M} {k v : Nat} {L : List (Nat × Nat)} {S : List (Nat × Int32)} {s : List Nat} {P : List Pc}
def lwP (d : Nat → Nat) : List Pc := pc11 ++ ((1, d 2, []) :: (pc12 ++ ((1, d 0, []) :: (pc13 ++ ((1, d 1, []) :: (pc14 ++ ((1, d 3, []) :: (pc15 ++ ((1, d 4, []) :: (pc16 ++ ((1, d 5, []) :: (pc17 ++ ((1, d 6, []) :: pc18)))))))))))))
def lwS2 (d : Nat → Nat) : List Nat := ykb 11 ++ (dec (d 2) ++ (ykb 12 ++ (dec (d 0) ++ (ykb 13 ++ (dec (d 1) ++ (ykb 14 ++ (dec (d 3) ++ (ykb 15 ++ (dec (d 4) ++ (ykb 16 ++ (dec (d 5) ++ (ykb 17 ++ (dec (d 6) ++ ykb 18)))))))))))))
theorem rnd_num (d : Nat) (Q : List Pc) : rnd ((1, d, []) :: Q) = dec d ++ rnd Q := rfl
theorem tks_num (d : Nat) (Q : List Pc) : tks ((1, d, []) :: Q) = (2, d) :: tks Q := rfl
theorem lw_rnd (d : Nat → Nat) : lwS2 d = rnd (lwP d) := by
  unfold lwS2 lwP
  rw [rnd_a, rnd_num, rnd_a, rnd_num, rnd_a, rnd_num, rnd_a, rnd_num, rnd_a, rnd_num, rnd_a, rnd_num, rnd_a, rnd_num, pc11_r, pc12_r, pc13_r, pc14_r, pc15_r, pc16_r, pc17_r, pc18_r]
theorem lw_wf (d : Nat → Nat) : wfB 0 (lwP d) = true := by
  unfold lwP
  exact wf_app pc11_w0 pc11_s0 (wf_num (by decide) (wf_app pc12_w2 pc12_s2 (wf_num (by decide) (wf_app pc13_w2 pc13_s2 (wf_num (by decide) (wf_app pc14_w2 pc14_s2 (wf_num (by decide) (wf_app pc15_w2 pc15_s2 (wf_num (by decide) (wf_app pc16_w2 pc16_s2 (wf_num (by decide) (wf_app pc17_w2 pc17_s2 (wf_num (by decide) pc18_w2)))))))))))))
theorem lw_nm {d : Nat → Nat} (hd : ∀ i, i < 7 → d i < 1000) : nmB (lwP d) := by
  unfold lwP
  exact nm_app pc11_n (nm_num (hd 2 (by omega)) (nm_app pc12_n (nm_num (hd 0 (by omega)) (nm_app pc13_n (nm_num (hd 1 (by omega)) (nm_app pc14_n (nm_num (hd 3 (by omega)) (nm_app pc15_n (nm_num (hd 4 (by omega)) (nm_app pc16_n (nm_num (hd 5 (by omega)) (nm_app pc17_n (nm_num (hd 6 (by omega)) pc18_n)))))))))))))
def lwT (d : Nat → Nat) (L : List (Nat × Nat)) : List (Nat × Nat) := (104, 0) :: (tM (lm1 (d 2)) ++ (((107, 0) :: lb1T (d 0) (d 1)) ++ (59, 0) :: ((104, 0) :: (tM (lm2 (d 3)) ++ (([] : List (Nat × Nat)) ++ (59, 0) :: ((105, 0) :: (tM lm3 ++ (((107, 0) :: lb2T (d 4)) ++ (59, 0) :: ((105, 0) :: (tM (s1 (2, d 5)) ++ (([] : List (Nat × Nat)) ++ (59, 0) :: ((106, 0) :: (tM (lm5 (d 6)) ++ (([] : List (Nat × Nat)) ++ (59, 0) :: L))))))))))))))
theorem lw_tks (d : Nat → Nat) : tks (lwP d) ++ [(0, 0)] = lwT d [(0, 0)] := by
  unfold lwP
  rw [tks_a, tks_num, tks_a, tks_num, tks_a, tks_num, tks_a, tks_num, tks_a, tks_num, tks_a, tks_num, tks_a, tks_num, pc11_t, pc12_t, pc13_t, pc14_t, pc15_t, pc16_t, pc17_t, pc18_t]
  rfl
def lwD (d : Nat → Nat) : List LLine := [(20, cM (lm1 (d 2)), lb1C (d 0) (d 1)), (20, cM (lm2 (d 3)), []), (21, cM lm3, lb2C (d 4)), (21, cM (s1 (2, d 5)), []), (22, cM (lm5 (d 6)), [])]
theorem lw_read (hN : 1000 ≤ N) (hM : 60 ≤ M) (d : Nat → Nat) (h : psL c t 1 J (lwT d [(0, 0)])) : ∃ J', fX10_readsLaw N M J = some (nI 1, J') ∧ lwJ c t J' (lwD d) [(0, 0)] ∧ frM J J' := by
  obtain ⟨J0, hJ0⟩ : ∃ J0, xc_wr (xc_wr J 0 15 (nI 0)) 0 16 (nI 0) = J0 := ⟨_, rfl⟩
  have f0 : frM J J0 := by
    rw [← hJ0]
    exact ⟨fun a a1 _ _ => by rw [xp_wr_cell a1, xp_wr_cell a1], fun k k1 k2 _ _ => by rw [xp_wr_k k2, xp_wr_k k1]⟩
  have h0 : lwJ c t J0 [] (lwT d [(0, 0)]) := by
    refine ⟨[], rfl, ⟨psL_keep h ?_ (fun k hk => ?_), ?_, trivial⟩, ?_, fun i k E B hi => by simp at hi⟩
    · rw [← hJ0, xp_wr_cell (by omega), xp_wr_cell (by omega)]
    · rw [← hJ0, xp_wr_k (by omega), xp_wr_k (by omega)]
    · rw [← hJ0, xp_wr_s]
      rfl
    · rw [← hJ0, xp_wr_k (by omega), xp_wr_s]
      rfl
  obtain ⟨bad1, b1, b12⟩ := lb1_run (c := c) (t := t) hN hM (d 0) (d 1)
  obtain ⟨bad2, b2, b22⟩ := lb2_run (c := c) (t := t) hN hM (d 4)
  obtain ⟨n, rfl⟩ : ∃ n, N = n + 6 := ⟨N - 6, by omega⟩
  obtain ⟨J1, x1, y1, z1⟩ := line_run hN (Or.inl ⟨rfl, rfl⟩) (lm1_ok (d 2)) (Or.inr ⟨_, _, _, rfl, b1, b12, by omega⟩) (by decide) (by simp [sgs, cM, cP, cG, cF, lm1, lb1C]) h0 (by simp) (n + 5)
  obtain ⟨J2, x2, y2, z2⟩ := line_run hN (Or.inl ⟨rfl, rfl⟩) (lm2_ok (d 3)) (Or.inl ⟨rfl, rfl⟩) (by simp) (by simp [sgs, cM, cP, cG, cF, lm1, lm2, lb1C]) y1 (by simp) (n + 4)
  obtain ⟨J3, x3, y3, z3⟩ := line_run hN (Or.inr (Or.inl ⟨rfl, rfl⟩)) lm3_ok (Or.inr ⟨_, _, _, rfl, b2, b22, by omega⟩) (by simp) (by simp [sgs, cM, cP, cG, cF, lm1, lm2, lm3, lb1C, lb2C]) y2 (by simp) (n + 3)
  obtain ⟨J4, x4, y4, z4⟩ := line_run hN (Or.inr (Or.inl ⟨rfl, rfl⟩)) (s1_ok (okn (d 5))) (Or.inl ⟨rfl, rfl⟩) (by simp) (by simp [sgs, cM, cP, cG, cF, lm1, lm2, lm3, lb1C, lb2C, s1]) y3 (by simp) (n + 2)
  obtain ⟨J5, x5, y5, z5⟩ := line_run hN (Or.inr (Or.inr ⟨rfl, rfl⟩)) (lm5_ok (d 6)) (Or.inl ⟨rfl, rfl⟩) (by simp) (by simp [sgs, cM, cP, cG, cF, lm1, lm2, lm3, lm5, lb1C, lb2C, s1]) y4 (by simp) (n + 1)
  obtain ⟨ls, e1, e2, e3, e4⟩ := id y5
  obtain ⟨ht, h200⟩ := psL_tok e2.1
  refine ⟨J5, ?_, y5, frM_t f0 (frM_t z1 (frM_t z2 (frM_t z3 (frM_t z4 z5))))⟩
  unfold fX10_readsLaw
  refine e_mw rfl (e_mw rfl (e_lt rfl ?_))
  have hJ0' : xc_wr (xc_wr J 0 15 0) 0 16 0 = J0 := hJ0
  rw [hJ0']
  refine x1.trans (x2.trans (x3.trans (x4.trans (x5.trans ?_))))
  rw [lX10_readsLaw_12, bX10_readsLaw_12]
  exact e_f (by decide) (e_t (ht.trans rfl) rfl)
end
