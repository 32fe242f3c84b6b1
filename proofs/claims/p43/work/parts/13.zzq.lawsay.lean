section
variable {σ τ ρ σ0 τ0 : xd_S} {fr fr2 fr3 : xd_M} {tg tg2 : lTg} {i t : Nat} {ta ta2 : Nat → Option Nat} {X X2 : lX} {N M : Nat} {K : xd_K} {n k j e p b13 b10 C S r m q : Nat} {J : xc_M} {w w2 : Nat → Int32} {Sc : Nat × Nat × (Nat → Int32)} {ce c8 c : xd_C} {V : Nat → Int32}
/-- the law's text is told, from the builder on -/
theorem lw_say {d : Nat → Nat} {v4 : Int32} (hd : ∀ i, i < 7 → d i < 1000) (hN : 1000 ≤ N) (hM : 60 ≤ M) (hRR : RR σ.2.1 J) (h18 : J 0 18 = nI 0) (hc : σ.1 b10 = some c) (c1 : c.1 = 0) (c2 : c.2.1 = 7) (c3 : ∀ i, i < 7 → c.2.2.1 i = nI (d i)) (hC : 60 ≤ σ.2.2.1) (hS : 8000 ≤ σ.2.2.2) (hK : ∀ τ J', (∀ x, σ.1 x ≠ none → τ.1 x = σ.1 x) → RR τ.2.1 J' → (∀ j, j ≠ 65 → j < 1348 → J' 1 j = J 1 j) → lawT (J' 1) (fun i => nI (d i)) → J' 0 18 = nI 0 → σ.2.2.1 ≤ τ.2.2.1 + 60 → σ.2.2.2 ≤ τ.2.2.2 + 8000 → hbL_talk_252 N M Sc K 0 t v4 τ) : xd_nw (15, 0, fun _ => 0, fun _ => none) 4 σ fun b34 τ35 => xd_ca (fun τ K => hJ4_init_da8c8 b34 τ K) τ35 fun _ _ τ36 => (xd_is 15 b34 τ36 (xd_ca (fun τ K => hJ4_append_15ec4_k b34 11 τ K) τ36 fun _ r38 τ37 => xd_nn r38 fun b39 => xd_aI 0 b10 2 τ37 fun x40 => (xd_is 15 b39 τ37 (xd_ca (fun τ K => hJ4_append_bf812 N b39 x40 τ K) τ37 fun _ r42 τ41 => xd_nn r42 fun b43 => (xd_is 15 b43 τ41 (xd_ca (fun τ K => hJ4_append_15ec4_k b43 12 τ K) τ41 fun _ r45 τ44 => xd_nn r45 fun b46 => xd_aI 0 b10 0 τ44 fun x47 => (xd_is 15 b46 τ44 (xd_ca (fun τ K => hJ4_append_bf812 N b46 x47 τ K) τ44 fun _ r49 τ48 => xd_nn r49 fun b50 => (xd_is 15 b50 τ48 (xd_ca (fun τ K => hJ4_append_15ec4_k b50 13 τ K) τ48 fun _ r52 τ51 => xd_nn r52 fun b53 => xd_aI 0 b10 1 τ51 fun x54 => (xd_is 15 b53 τ51 (xd_ca (fun τ K => hJ4_append_bf812 N b53 x54 τ K) τ51 fun _ r56 τ55 => xd_nn r56 fun b57 => (xd_is 15 b57 τ55 (xd_ca (fun τ K => hJ4_append_15ec4_k b57 14 τ K) τ55 fun _ r59 τ58 => xd_nn r59 fun b60 => xd_aI 0 b10 3 τ58 fun x61 => (xd_is 15 b60 τ58 (xd_ca (fun τ K => hJ4_append_bf812 N b60 x61 τ K) τ58 fun _ r63 τ62 => xd_nn r63 fun b64 => (xd_is 15 b64 τ62 (xd_ca (fun τ K => hJ4_append_15ec4_k b64 15 τ K) τ62 fun _ r66 τ65 => xd_nn r66 fun b67 => xd_aI 0 b10 4 τ65 fun x68 => (xd_is 15 b67 τ65 (xd_ca (fun τ K => hJ4_append_bf812 N b67 x68 τ K) τ65 fun _ r70 τ69 => xd_nn r70 fun b71 => (xd_is 15 b71 τ69 (xd_ca (fun τ K => hJ4_append_15ec4_k b71 16 τ K) τ69 fun _ r73 τ72 => xd_nn r73 fun b74 => xd_aI 0 b10 5 τ72 fun x75 => (xd_is 15 b74 τ72 (xd_ca (fun τ K => hJ4_append_bf812 N b74 x75 τ K) τ72 fun _ r77 τ76 => xd_nn r77 fun b78 => (xd_is 15 b78 τ76 (xd_ca (fun τ K => hJ4_append_15ec4_k b78 17 τ K) τ76 fun _ r80 τ79 => xd_nn r80 fun b81 => xd_aI 0 b10 6 τ79 fun x82 => (xd_is 15 b81 τ79 (xd_ca (fun τ K => hJ4_append_bf812 N b81 x82 τ K) τ79 fun _ r84 τ83 => xd_nn r84 fun b85 => (xd_is 15 b85 τ83 (xd_ca (fun τ K => hJ4_append_15ec4_k b85 18 τ K) τ83 fun _ r87 τ86 => xd_nn r87 fun b88 => (xd_is 15 b88 τ86 (xd_ca (fun τ K => hJ4_toString_0e30d b88 τ K) τ86 fun _ r90 τ89 => xd_nn r90 fun b91 => xd_ca (fun τ K => hL_say N b91 τ K) τ89 fun _ _ τ92 => xd_xc (fX9_text N M 1 τ92.2.1) τ92 fun x93 τ94 => (if x93 = (5 : Int32) then (hbL_talk_252 N M Sc K 0 t v4 τ94) else K 0 none τ94))))))))))))))))))))))))))))))))) := by
  have l3 : ∀ y, (dec y).length ≤ 3 := fun y => dec_l
  have ly11 : (ykb 11).length = 5 := by decide
  have ly12 : (ykb 12).length = 17 := by decide
  have ly13 : (ykb 13).length = 26 := by decide
  have ly14 : (ykb 14).length = 7 := by decide
  have ly15 : (ykb 15).length = 43 := by decide
  have ly16 : (ykb 16).length = 14 := by decide
  have ly17 : (ykb 17).length = 11 := by decide
  have ly18 : (ykb 18).length = 10 := by decide
  have dl0 := l3 (d 0)
  have dl1 := l3 (d 1)
  have dl2 := l3 (d 2)
  have dl3 := l3 (d 3)
  have dl4 := l3 (d 4)
  have dl5 := l3 (d 5)
  have dl6 := l3 (d 6)
  refine t_new (by omega) (by omega) (fun b34 vb τ5 g0 y0 => ?_)
  obtain ⟨y0a, y0b⟩ := y0
  have rd : ∀ (τ2 : xd_S) (vb2 : Nat) (sb : List Nat) (q : Nat) (f : Int32 → Prop), tb σ τ2 b34 vb2 sb → q < 7 → f (nI (d q)) → xd_aI 0 b10 (nI q) τ2 f := fun τ2 vb2 sb q f h1 h2 h3 => w_aI (c := c) (n := q) (h1.at hc) c1 (Eq.refl _) ⟨by omega, by omega⟩ (c3 q h2) h3
  refine x_appk 400 (by omega) g0.2.2.1 (by simp [ly11, ly12, ly13, ly14, ly15, ly16, ly17, ly18] <;> omega) (by omega) (by omega) (by simp [ly11, ly12, ly13, ly14, ly15, ly16, ly17, ly18] <;> omega) (fun τa1 va1 ha1 xa1 ya1 => ?_)
  obtain ⟨ya1a, ya1b⟩ := ya1
  have g1 := g0.ex ha1 xa1
  refine rd τa1 _ _ 2 _ g1 (by omega) ?_
  refine x_appn 400 (Eq.refl _) (hd 2 (by omega)) (by omega) g1.2.2.1 (by simp [ly11, ly12, ly13, ly14, ly15, ly16, ly17, ly18] <;> omega) (by omega) (by omega) (by simp [ly11, ly12, ly13, ly14, ly15, ly16, ly17, ly18] <;> omega) (fun τa2 va2 ha2 xa2 ya2 => ?_)
  obtain ⟨ya2a, ya2b⟩ := ya2
  have g2 := g1.ex ha2 xa2
  refine x_appk 400 (by omega) g2.2.2.1 (by simp [ly11, ly12, ly13, ly14, ly15, ly16, ly17, ly18] <;> omega) (by omega) (by omega) (by simp [ly11, ly12, ly13, ly14, ly15, ly16, ly17, ly18] <;> omega) (fun τa3 va3 ha3 xa3 ya3 => ?_)
  obtain ⟨ya3a, ya3b⟩ := ya3
  have g3 := g2.ex ha3 xa3
  refine rd τa3 _ _ 0 _ g3 (by omega) ?_
  refine x_appn 400 (Eq.refl _) (hd 0 (by omega)) (by omega) g3.2.2.1 (by simp [ly11, ly12, ly13, ly14, ly15, ly16, ly17, ly18] <;> omega) (by omega) (by omega) (by simp [ly11, ly12, ly13, ly14, ly15, ly16, ly17, ly18] <;> omega) (fun τa4 va4 ha4 xa4 ya4 => ?_)
  obtain ⟨ya4a, ya4b⟩ := ya4
  have g4 := g3.ex ha4 xa4
  refine x_appk 400 (by omega) g4.2.2.1 (by simp [ly11, ly12, ly13, ly14, ly15, ly16, ly17, ly18] <;> omega) (by omega) (by omega) (by simp [ly11, ly12, ly13, ly14, ly15, ly16, ly17, ly18] <;> omega) (fun τa5 va5 ha5 xa5 ya5 => ?_)
  obtain ⟨ya5a, ya5b⟩ := ya5
  have g5 := g4.ex ha5 xa5
  refine rd τa5 _ _ 1 _ g5 (by omega) ?_
  refine x_appn 400 (Eq.refl _) (hd 1 (by omega)) (by omega) g5.2.2.1 (by simp [ly11, ly12, ly13, ly14, ly15, ly16, ly17, ly18] <;> omega) (by omega) (by omega) (by simp [ly11, ly12, ly13, ly14, ly15, ly16, ly17, ly18] <;> omega) (fun τa6 va6 ha6 xa6 ya6 => ?_)
  obtain ⟨ya6a, ya6b⟩ := ya6
  have g6 := g5.ex ha6 xa6
  refine x_appk 400 (by omega) g6.2.2.1 (by simp [ly11, ly12, ly13, ly14, ly15, ly16, ly17, ly18] <;> omega) (by omega) (by omega) (by simp [ly11, ly12, ly13, ly14, ly15, ly16, ly17, ly18] <;> omega) (fun τa7 va7 ha7 xa7 ya7 => ?_)
  obtain ⟨ya7a, ya7b⟩ := ya7
  have g7 := g6.ex ha7 xa7
  refine rd τa7 _ _ 3 _ g7 (by omega) ?_
  refine x_appn 400 (Eq.refl _) (hd 3 (by omega)) (by omega) g7.2.2.1 (by simp [ly11, ly12, ly13, ly14, ly15, ly16, ly17, ly18] <;> omega) (by omega) (by omega) (by simp [ly11, ly12, ly13, ly14, ly15, ly16, ly17, ly18] <;> omega) (fun τa8 va8 ha8 xa8 ya8 => ?_)
  obtain ⟨ya8a, ya8b⟩ := ya8
  have g8 := g7.ex ha8 xa8
  refine x_appk 400 (by omega) g8.2.2.1 (by simp [ly11, ly12, ly13, ly14, ly15, ly16, ly17, ly18] <;> omega) (by omega) (by omega) (by simp [ly11, ly12, ly13, ly14, ly15, ly16, ly17, ly18] <;> omega) (fun τa9 va9 ha9 xa9 ya9 => ?_)
  obtain ⟨ya9a, ya9b⟩ := ya9
  have g9 := g8.ex ha9 xa9
  refine rd τa9 _ _ 4 _ g9 (by omega) ?_
  refine x_appn 400 (Eq.refl _) (hd 4 (by omega)) (by omega) g9.2.2.1 (by simp [ly11, ly12, ly13, ly14, ly15, ly16, ly17, ly18] <;> omega) (by omega) (by omega) (by simp [ly11, ly12, ly13, ly14, ly15, ly16, ly17, ly18] <;> omega) (fun τa10 va10 ha10 xa10 ya10 => ?_)
  obtain ⟨ya10a, ya10b⟩ := ya10
  have g10 := g9.ex ha10 xa10
  refine x_appk 400 (by omega) g10.2.2.1 (by simp [ly11, ly12, ly13, ly14, ly15, ly16, ly17, ly18] <;> omega) (by omega) (by omega) (by simp [ly11, ly12, ly13, ly14, ly15, ly16, ly17, ly18] <;> omega) (fun τa11 va11 ha11 xa11 ya11 => ?_)
  obtain ⟨ya11a, ya11b⟩ := ya11
  have g11 := g10.ex ha11 xa11
  refine rd τa11 _ _ 5 _ g11 (by omega) ?_
  refine x_appn 400 (Eq.refl _) (hd 5 (by omega)) (by omega) g11.2.2.1 (by simp [ly11, ly12, ly13, ly14, ly15, ly16, ly17, ly18] <;> omega) (by omega) (by omega) (by simp [ly11, ly12, ly13, ly14, ly15, ly16, ly17, ly18] <;> omega) (fun τa12 va12 ha12 xa12 ya12 => ?_)
  obtain ⟨ya12a, ya12b⟩ := ya12
  have g12 := g11.ex ha12 xa12
  refine x_appk 400 (by omega) g12.2.2.1 (by simp [ly11, ly12, ly13, ly14, ly15, ly16, ly17, ly18] <;> omega) (by omega) (by omega) (by simp [ly11, ly12, ly13, ly14, ly15, ly16, ly17, ly18] <;> omega) (fun τa13 va13 ha13 xa13 ya13 => ?_)
  obtain ⟨ya13a, ya13b⟩ := ya13
  have g13 := g12.ex ha13 xa13
  refine rd τa13 _ _ 6 _ g13 (by omega) ?_
  refine x_appn 400 (Eq.refl _) (hd 6 (by omega)) (by omega) g13.2.2.1 (by simp [ly11, ly12, ly13, ly14, ly15, ly16, ly17, ly18] <;> omega) (by omega) (by omega) (by simp [ly11, ly12, ly13, ly14, ly15, ly16, ly17, ly18] <;> omega) (fun τa14 va14 ha14 xa14 ya14 => ?_)
  obtain ⟨ya14a, ya14b⟩ := ya14
  have g14 := g13.ex ha14 xa14
  refine x_appk 400 (by omega) g14.2.2.1 (by simp [ly11, ly12, ly13, ly14, ly15, ly16, ly17, ly18] <;> omega) (by omega) (by omega) (by simp [ly11, ly12, ly13, ly14, ly15, ly16, ly17, ly18] <;> omega) (fun τa15 va15 ha15 xa15 ya15 => ?_)
  obtain ⟨ya15a, ya15b⟩ := ya15
  have g15 := g14.ex ha15 xa15
  have ee : [] ++ ykb 11 ++ dec (d 2) ++ ykb 12 ++ dec (d 0) ++ ykb 13 ++ dec (d 1) ++ ykb 14 ++ dec (d 3) ++ ykb 15 ++ dec (d 4) ++ ykb 16 ++ dec (d 5) ++ ykb 17 ++ dec (d 6) ++ ykb 18 = lwS2 d := by
    unfold lwS2
    simp only [List.nil_append, List.append_assoc]
  rw [ee] at g15
  have hlen : (lwS2 d).length ≤ 154 := by
    rw [← ee]
    simp [ly11, ly12, ly13, ly14, ly15, ly16, ly17, ly18]
    omega
  have hasc : ∀ (j y : Nat), (lwS2 d)[j]? = some y → y < 128 := fun j y hy => by
    have hm := List.mem_of_getElem? hy
    rw [lw_rnd] at hm
    exact rnd_asc _ 0 (lw_wf d) (lw_nm hd) y hm
  refine x_str 160 g15.2.2.1 (by omega) (by omega) (by omega) (by omega) (fun τ1 a' w g1' g2' g3' g4' g5' g6' => ?_)
  obtain ⟨q1, q2⟩ := g6'
  refine w_cc 20 100 (by omega) (by omega) (w_say (σ := (τ1.1, τ1.2.1, 20, 100)) (J := J) g1' hasc (by omega) (by show RR τ1.2.1 J; rw [g5', g15.2.1]; exact hRR) h18 hN (Nat.le_refl _) (Nat.le_refl _) (fun τ2 J2 k1 k2 k3 => ?_))
  have e1 : J2 1 = J 1 := k3.2.1 1 (by omega) (by omega)
  obtain ⟨I3, J3, w1, w2, w3, w4, w5, w6, w7, w8⟩ := c_text1 (M := M) (d := d) hN hM k2 hd (k3.TQ (by omega) hasc)
  refine w_xc w1 (w_t (Eq.refl _) ?_)
  refine hK _ J3 (fun x hx => ?_) w2 (fun j j1 j2 => by rw [w3 j j1 j2, e1]) w5 w6 ?_ ?_
  · have a1 := g15.1 x hx
    have a2 := g4' x (by rw [a1]; exact hx)
    exact (k1 x (by show τ1.1 x ≠ none; rw [a2, a1]; exact hx)).trans (a2.trans a1)
  · show σ.2.2.1 ≤ τ1.2.2.1 - 20 + 60
    omega
  · show σ.2.2.2 ≤ τ1.2.2.2 - 100 + 8000
    omega
end
