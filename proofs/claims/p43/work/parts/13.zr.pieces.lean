-- ===== the law's constants as pieces; the keywords =====
def pc0 : List Pc := [(0, 0, [109, 101, 97, 110, 115])]
def pc1 : List Pc := [(2, 32, []), (0, 0, [111, 114])]
def pc2 : List Pc := [(2, 32, [])]
def pc3 : List Pc := [(2, 59, [])]
def pc4 : List Pc := [(0, 0, [110, 101, 101, 100]), (2, 32, [])]
def pc5 : List Pc := [(2, 32, []), (0, 0, [98, 121]), (2, 32, [])]
def pc6 : List Pc := [(2, 32, []), (0, 0, [119, 111, 114, 116, 104]), (2, 32, [])]
def pc7 : List Pc := [(0, 0, [111, 110]), (2, 32, [])]
def pc8 : List Pc := [(2, 32, []), (0, 0, [103, 111, 101, 115]), (2, 32, [])]
def pc9 : List Pc := [(2, 32, []), (0, 0, [115, 97, 121, 115]), (2, 32, [])]
def pc10 : List Pc := [(2, 32, []), (0, 0, [114, 101, 115, 116, 115])]
def pc11 : List Pc := [(0, 0, [107, 101, 101, 112]), (2, 32, [])]
def pc12 : List Pc := [(2, 43, []), (0, 0, [107, 105, 110]), (2, 42, []), (1, 5, []), (2, 32, []), (0, 0, [119, 104, 101, 110]), (2, 32, []), (0, 0, [108, 111, 110, 103]), (2, 62, [])]
def pc13 : List Pc := [(2, 32, []), (0, 0, [97, 110, 100]), (2, 32, []), (0, 0, [110, 111, 116]), (2, 32, []), (2, 40, []), (0, 0, [107, 110, 111, 119, 115]), (2, 60, []), (1, 3, []), (2, 32, []), (0, 0, [111, 114]), (2, 32, []), (0, 0, [119, 111, 114, 100]), (2, 61, [])]
def pc14 : List Pc := [(2, 41, []), (2, 59, []), (0, 0, [107, 101, 101, 112]), (2, 32, [])]
def pc15 : List Pc := [(2, 43, []), (0, 0, [115, 97, 105, 100]), (2, 45, []), (0, 0, [100, 97, 121]), (2, 43, []), (0, 0, [100, 97, 121]), (2, 47, []), (1, 3, []), (2, 42, []), (1, 3, []), (2, 59, []), (0, 0, [104, 101, 97, 114]), (2, 32, []), (0, 0, [107, 110, 111, 119, 115]), (2, 47, []), (1, 2, []), (2, 32, []), (0, 0, [119, 104, 101, 110]), (2, 32, []), (0, 0, [117, 110, 115, 97, 105, 100]), (2, 62, [])]
def pc16 : List Pc := [(2, 32, []), (0, 0, [111, 114]), (2, 32, []), (0, 0, [97, 116]), (2, 61, []), (1, 3, []), (2, 59, []), (0, 0, [104, 101, 97, 114]), (2, 32, [])]
def pc17 : List Pc := [(2, 59, []), (0, 0, [116, 105, 114, 101]), (2, 32, []), (0, 0, [108, 111, 110, 103]), (2, 43, [])]
def pc18 : List Pc := [(2, 45, []), (0, 0, [117, 110, 115, 97, 105, 100]), (2, 47, []), (1, 5, []), (2, 59, [])]
theorem pc0_r : ykb 0 = rnd pc0 := by decide +kernel
theorem pc1_r : ykb 1 = rnd pc1 := by decide +kernel
theorem pc2_r : ykb 2 = rnd pc2 := by decide +kernel
theorem pc3_r : ykb 3 = rnd pc3 := by decide +kernel
theorem pc4_r : ykb 4 = rnd pc4 := by decide +kernel
theorem pc5_r : ykb 5 = rnd pc5 := by decide +kernel
theorem pc6_r : ykb 6 = rnd pc6 := by decide +kernel
theorem pc7_r : ykb 7 = rnd pc7 := by decide +kernel
theorem pc8_r : ykb 8 = rnd pc8 := by decide +kernel
theorem pc9_r : ykb 9 = rnd pc9 := by decide +kernel
theorem pc10_r : ykb 10 = rnd pc10 := by decide +kernel
theorem pc11_r : ykb 11 = rnd pc11 := by decide +kernel
theorem pc12_r : ykb 12 = rnd pc12 := by decide +kernel
theorem pc13_r : ykb 13 = rnd pc13 := by decide +kernel
theorem pc14_r : ykb 14 = rnd pc14 := by decide +kernel
theorem pc15_r : ykb 15 = rnd pc15 := by decide +kernel
theorem pc16_r : ykb 16 = rnd pc16 := by decide +kernel
theorem pc17_r : ykb 17 = rnd pc17 := by decide +kernel
theorem pc18_r : ykb 18 = rnd pc18 := by decide +kernel
theorem kwd_means : kwd [109, 101, 97, 110, 115] = 100 := by decide +kernel
theorem kwd_or : kwd [111, 114] = 101 := by decide +kernel
theorem kwd_and : kwd [97, 110, 100] = 102 := by decide +kernel
theorem kwd_not : kwd [110, 111, 116] = 103 := by decide +kernel
theorem kwd_keep : kwd [107, 101, 101, 112] = 104 := by decide +kernel
theorem kwd_hear : kwd [104, 101, 97, 114] = 105 := by decide +kernel
theorem kwd_tire : kwd [116, 105, 114, 101] = 106 := by decide +kernel
theorem kwd_when : kwd [119, 104, 101, 110] = 107 := by decide +kernel
theorem kwd_word : kwd [119, 111, 114, 100] = 108 := by decide +kernel
theorem kwd_long : kwd [108, 111, 110, 103] = 109 := by decide +kernel
theorem kwd_unsaid : kwd [117, 110, 115, 97, 105, 100] = 110 := by decide +kernel
theorem kwd_said : kwd [115, 97, 105, 100] = 111 := by decide +kernel
theorem kwd_kin : kwd [107, 105, 110] = 112 := by decide +kernel
theorem kwd_knows : kwd [107, 110, 111, 119, 115] = 113 := by decide +kernel
theorem kwd_at : kwd [97, 116] = 114 := by decide +kernel
theorem kwd_day : kwd [100, 97, 121] = 115 := by decide +kernel
theorem kwd_on : kwd [111, 110] = 116 := by decide +kernel
theorem kwd_goes : kwd [103, 111, 101, 115] = 117 := by decide +kernel
theorem kwd_says : kwd [115, 97, 121, 115] = 118 := by decide +kernel
theorem kwd_rests : kwd [114, 101, 115, 116, 115] = 119 := by decide +kernel
theorem kwd_need : kwd [110, 101, 101, 100] = 120 := by decide +kernel
theorem kwd_by : kwd [98, 121] = 121 := by decide +kernel
theorem kwd_worth : kwd [119, 111, 114, 116, 104] = 122 := by decide +kernel
/-- how a text of pieces ends: 1 with letters, 2 with digits -/
def stB : Nat → List Pc → Nat
  | l, [] => l
  | _, p :: P => stB (if p.1 = 0 then 1 else if p.1 = 1 then 2 else 0) P
theorem wf_app : ∀ {P Q : List Pc} {l l2 : Nat}, wfB l P = true → stB l P = l2 → wfB l2 Q = true → wfB l (P ++ Q) = true := by
  intro P
  induction P with
  | nil =>
    intro Q l l2 _ h2 h3
    have e : l = l2 := h2
    rw [e]
    exact h3
  | cons p P ih =>
    intro Q l l2 h1 h2 h3
    rw [List.cons_append]
    unfold wfB at h1 ⊢
    rw [Bool.and_eq_true] at h1 ⊢
    exact ⟨h1.1, ih h1.2 h2 h3⟩
theorem st_app : ∀ (P Q : List Pc) (l : Nat), stB l (P ++ Q) = stB (stB l P) Q := by
  intro P
  induction P with
  | nil => exact fun _ _ => rfl
  | cons p P ih => exact fun Q l => ih Q _
theorem wf_num {Q : List Pc} {l d : Nat} (hl : l ≠ 2) (h : wfB 2 Q = true) : wfB l ((1, d, []) :: Q) = true := by
  show ((!decide (l = 2)) && wfB 2 Q) = true
  rw [decide_eq_false hl, h]
  rfl
theorem nm_app {P Q : List Pc} (h1 : nmB P) (h2 : nmB Q) : nmB (P ++ Q) := fun p hp => (List.mem_append.mp hp).elim (h1 p) (h2 p)
theorem nm_num {Q : List Pc} {d : Nat} (hd : d < 1000) (h : nmB Q) : nmB ((1, d, []) :: Q) := fun p hp e => by
  rcases List.mem_cons.mp hp with rfl | hp
  · exact hd
  · exact h p hp e
theorem nm_all {P : List Pc} (h : P.all (fun p => !decide (p.1 = 1) || decide (p.2.1 < 1000)) = true) : nmB P := fun p hp e => by
  have := List.all_eq_true.mp h p hp
  rw [decide_eq_true e, Bool.not_true, Bool.false_or] at this
  exact of_decide_eq_true this
theorem pc0_t : tks pc0 = [(100, 0)] := by decide +kernel
theorem pc0_w0 : wfB 0 pc0 = true := by decide +kernel
theorem pc0_s0 : stB 0 pc0 = 1 := by decide +kernel
theorem pc0_w2 : wfB 2 pc0 = true := by decide +kernel
theorem pc0_s2 : stB 2 pc0 = 1 := by decide +kernel
theorem pc0_n : nmB pc0 := nm_all (by decide +kernel)
theorem pc1_t : tks pc1 = [(101, 0)] := by decide +kernel
theorem pc1_w0 : wfB 0 pc1 = true := by decide +kernel
theorem pc1_s0 : stB 0 pc1 = 1 := by decide +kernel
theorem pc1_w1 : wfB 1 pc1 = true := by decide +kernel
theorem pc1_s1 : stB 1 pc1 = 1 := by decide +kernel
theorem pc1_w2 : wfB 2 pc1 = true := by decide +kernel
theorem pc1_s2 : stB 2 pc1 = 1 := by decide +kernel
theorem pc1_n : nmB pc1 := nm_all (by decide +kernel)
theorem pc2_t : tks pc2 = [] := by decide +kernel
theorem pc2_w0 : wfB 0 pc2 = true := by decide +kernel
theorem pc2_s0 : stB 0 pc2 = 0 := by decide +kernel
theorem pc2_w1 : wfB 1 pc2 = true := by decide +kernel
theorem pc2_s1 : stB 1 pc2 = 0 := by decide +kernel
theorem pc2_w2 : wfB 2 pc2 = true := by decide +kernel
theorem pc2_s2 : stB 2 pc2 = 0 := by decide +kernel
theorem pc2_n : nmB pc2 := nm_all (by decide +kernel)
theorem pc3_t : tks pc3 = [(59, 0)] := by decide +kernel
theorem pc3_w0 : wfB 0 pc3 = true := by decide +kernel
theorem pc3_s0 : stB 0 pc3 = 0 := by decide +kernel
theorem pc3_w1 : wfB 1 pc3 = true := by decide +kernel
theorem pc3_s1 : stB 1 pc3 = 0 := by decide +kernel
theorem pc3_w2 : wfB 2 pc3 = true := by decide +kernel
theorem pc3_s2 : stB 2 pc3 = 0 := by decide +kernel
theorem pc3_n : nmB pc3 := nm_all (by decide +kernel)
theorem pc4_t : tks pc4 = [(120, 0)] := by decide +kernel
theorem pc4_w0 : wfB 0 pc4 = true := by decide +kernel
theorem pc4_s0 : stB 0 pc4 = 0 := by decide +kernel
theorem pc4_w2 : wfB 2 pc4 = true := by decide +kernel
theorem pc4_s2 : stB 2 pc4 = 0 := by decide +kernel
theorem pc4_n : nmB pc4 := nm_all (by decide +kernel)
theorem pc5_t : tks pc5 = [(121, 0)] := by decide +kernel
theorem pc5_w0 : wfB 0 pc5 = true := by decide +kernel
theorem pc5_s0 : stB 0 pc5 = 0 := by decide +kernel
theorem pc5_w1 : wfB 1 pc5 = true := by decide +kernel
theorem pc5_s1 : stB 1 pc5 = 0 := by decide +kernel
theorem pc5_w2 : wfB 2 pc5 = true := by decide +kernel
theorem pc5_s2 : stB 2 pc5 = 0 := by decide +kernel
theorem pc5_n : nmB pc5 := nm_all (by decide +kernel)
theorem pc6_t : tks pc6 = [(122, 0)] := by decide +kernel
theorem pc6_w0 : wfB 0 pc6 = true := by decide +kernel
theorem pc6_s0 : stB 0 pc6 = 0 := by decide +kernel
theorem pc6_w1 : wfB 1 pc6 = true := by decide +kernel
theorem pc6_s1 : stB 1 pc6 = 0 := by decide +kernel
theorem pc6_w2 : wfB 2 pc6 = true := by decide +kernel
theorem pc6_s2 : stB 2 pc6 = 0 := by decide +kernel
theorem pc6_n : nmB pc6 := nm_all (by decide +kernel)
theorem pc7_t : tks pc7 = [(116, 0)] := by decide +kernel
theorem pc7_w0 : wfB 0 pc7 = true := by decide +kernel
theorem pc7_s0 : stB 0 pc7 = 0 := by decide +kernel
theorem pc7_w2 : wfB 2 pc7 = true := by decide +kernel
theorem pc7_s2 : stB 2 pc7 = 0 := by decide +kernel
theorem pc7_n : nmB pc7 := nm_all (by decide +kernel)
theorem pc8_t : tks pc8 = [(117, 0)] := by decide +kernel
theorem pc8_w0 : wfB 0 pc8 = true := by decide +kernel
theorem pc8_s0 : stB 0 pc8 = 0 := by decide +kernel
theorem pc8_w1 : wfB 1 pc8 = true := by decide +kernel
theorem pc8_s1 : stB 1 pc8 = 0 := by decide +kernel
theorem pc8_w2 : wfB 2 pc8 = true := by decide +kernel
theorem pc8_s2 : stB 2 pc8 = 0 := by decide +kernel
theorem pc8_n : nmB pc8 := nm_all (by decide +kernel)
theorem pc9_t : tks pc9 = [(118, 0)] := by decide +kernel
theorem pc9_w0 : wfB 0 pc9 = true := by decide +kernel
theorem pc9_s0 : stB 0 pc9 = 0 := by decide +kernel
theorem pc9_w1 : wfB 1 pc9 = true := by decide +kernel
theorem pc9_s1 : stB 1 pc9 = 0 := by decide +kernel
theorem pc9_w2 : wfB 2 pc9 = true := by decide +kernel
theorem pc9_s2 : stB 2 pc9 = 0 := by decide +kernel
theorem pc9_n : nmB pc9 := nm_all (by decide +kernel)
theorem pc10_t : tks pc10 = [(119, 0)] := by decide +kernel
theorem pc10_w0 : wfB 0 pc10 = true := by decide +kernel
theorem pc10_s0 : stB 0 pc10 = 1 := by decide +kernel
theorem pc10_w1 : wfB 1 pc10 = true := by decide +kernel
theorem pc10_s1 : stB 1 pc10 = 1 := by decide +kernel
theorem pc10_w2 : wfB 2 pc10 = true := by decide +kernel
theorem pc10_s2 : stB 2 pc10 = 1 := by decide +kernel
theorem pc10_n : nmB pc10 := nm_all (by decide +kernel)
theorem pc11_t : tks pc11 = [(104, 0)] := by decide +kernel
theorem pc11_w0 : wfB 0 pc11 = true := by decide +kernel
theorem pc11_s0 : stB 0 pc11 = 0 := by decide +kernel
theorem pc11_w2 : wfB 2 pc11 = true := by decide +kernel
theorem pc11_s2 : stB 2 pc11 = 0 := by decide +kernel
theorem pc11_n : nmB pc11 := nm_all (by decide +kernel)
theorem pc12_t : tks pc12 = [(43, 0), (112, 0), (42, 0), (2, 5), (107, 0), (109, 0), (62, 0)] := by decide +kernel
theorem pc12_w0 : wfB 0 pc12 = true := by decide +kernel
theorem pc12_s0 : stB 0 pc12 = 0 := by decide +kernel
theorem pc12_w1 : wfB 1 pc12 = true := by decide +kernel
theorem pc12_s1 : stB 1 pc12 = 0 := by decide +kernel
theorem pc12_w2 : wfB 2 pc12 = true := by decide +kernel
theorem pc12_s2 : stB 2 pc12 = 0 := by decide +kernel
theorem pc12_n : nmB pc12 := nm_all (by decide +kernel)
theorem pc13_t : tks pc13 = [(102, 0), (103, 0), (40, 0), (113, 0), (60, 0), (2, 3), (101, 0), (108, 0), (61, 0)] := by decide +kernel
theorem pc13_w0 : wfB 0 pc13 = true := by decide +kernel
theorem pc13_s0 : stB 0 pc13 = 0 := by decide +kernel
theorem pc13_w1 : wfB 1 pc13 = true := by decide +kernel
theorem pc13_s1 : stB 1 pc13 = 0 := by decide +kernel
theorem pc13_w2 : wfB 2 pc13 = true := by decide +kernel
theorem pc13_s2 : stB 2 pc13 = 0 := by decide +kernel
theorem pc13_n : nmB pc13 := nm_all (by decide +kernel)
theorem pc14_t : tks pc14 = [(41, 0), (59, 0), (104, 0)] := by decide +kernel
theorem pc14_w0 : wfB 0 pc14 = true := by decide +kernel
theorem pc14_s0 : stB 0 pc14 = 0 := by decide +kernel
theorem pc14_w1 : wfB 1 pc14 = true := by decide +kernel
theorem pc14_s1 : stB 1 pc14 = 0 := by decide +kernel
theorem pc14_w2 : wfB 2 pc14 = true := by decide +kernel
theorem pc14_s2 : stB 2 pc14 = 0 := by decide +kernel
theorem pc14_n : nmB pc14 := nm_all (by decide +kernel)
theorem pc15_t : tks pc15 = [(43, 0), (111, 0), (45, 0), (115, 0), (43, 0), (115, 0), (47, 0), (2, 3), (42, 0), (2, 3), (59, 0), (105, 0), (113, 0), (47, 0), (2, 2), (107, 0), (110, 0), (62, 0)] := by decide +kernel
theorem pc15_w0 : wfB 0 pc15 = true := by decide +kernel
theorem pc15_s0 : stB 0 pc15 = 0 := by decide +kernel
theorem pc15_w1 : wfB 1 pc15 = true := by decide +kernel
theorem pc15_s1 : stB 1 pc15 = 0 := by decide +kernel
theorem pc15_w2 : wfB 2 pc15 = true := by decide +kernel
theorem pc15_s2 : stB 2 pc15 = 0 := by decide +kernel
theorem pc15_n : nmB pc15 := nm_all (by decide +kernel)
theorem pc16_t : tks pc16 = [(101, 0), (114, 0), (61, 0), (2, 3), (59, 0), (105, 0)] := by decide +kernel
theorem pc16_w0 : wfB 0 pc16 = true := by decide +kernel
theorem pc16_s0 : stB 0 pc16 = 0 := by decide +kernel
theorem pc16_w1 : wfB 1 pc16 = true := by decide +kernel
theorem pc16_s1 : stB 1 pc16 = 0 := by decide +kernel
theorem pc16_w2 : wfB 2 pc16 = true := by decide +kernel
theorem pc16_s2 : stB 2 pc16 = 0 := by decide +kernel
theorem pc16_n : nmB pc16 := nm_all (by decide +kernel)
theorem pc17_t : tks pc17 = [(59, 0), (106, 0), (109, 0), (43, 0)] := by decide +kernel
theorem pc17_w0 : wfB 0 pc17 = true := by decide +kernel
theorem pc17_s0 : stB 0 pc17 = 0 := by decide +kernel
theorem pc17_w1 : wfB 1 pc17 = true := by decide +kernel
theorem pc17_s1 : stB 1 pc17 = 0 := by decide +kernel
theorem pc17_w2 : wfB 2 pc17 = true := by decide +kernel
theorem pc17_s2 : stB 2 pc17 = 0 := by decide +kernel
theorem pc17_n : nmB pc17 := nm_all (by decide +kernel)
theorem pc18_t : tks pc18 = [(45, 0), (110, 0), (47, 0), (2, 5), (59, 0)] := by decide +kernel
theorem pc18_w0 : wfB 0 pc18 = true := by decide +kernel
theorem pc18_s0 : stB 0 pc18 = 0 := by decide +kernel
theorem pc18_w1 : wfB 1 pc18 = true := by decide +kernel
theorem pc18_s1 : stB 1 pc18 = 0 := by decide +kernel
theorem pc18_w2 : wfB 2 pc18 = true := by decide +kernel
theorem pc18_s2 : stB 2 pc18 = 0 := by decide +kernel
theorem pc18_n : nmB pc18 := nm_all (by decide +kernel)
