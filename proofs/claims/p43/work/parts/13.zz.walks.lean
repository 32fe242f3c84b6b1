-- ===== the law tells a walk =====
section
variable {σ τ ρ σ0 : xd_S} {fr : xd_M} {tg : lTg} {i t : Nat} {d : lD} {ta : Nat → Option Nat} {X : lX} {N M : Nat} {K : xd_K} {b5 v b8 r n k : Nat} {s : List Nat}
theorem wkPc_len {dd p w x : Nat} : (rnd (wkPc dd p w x)).length ≤ 20 := by
  have l1 : ∀ y, (dec y).length ≤ 3 := fun y => dec_l
  have h7 : (rnd pc7).length = 3 := rfl
  have h2 : (rnd pc2).length = 1 := rfl
  have h3 : (rnd pc3).length = 1 := rfl
  have h8 : (rnd pc8).length = 6 := rfl
  have h9 : (rnd pc9).length = 6 := rfl
  have h10 : (rnd pc10).length = 6 := rfl
  have a1 := l1 dd
  have a2 := l1 p
  have a3 := l1 x
  unfold wkPc
  rw [rnd_a, rnd_num, rnd_a, rnd_num, rnd_a, List.length_append, List.length_append, List.length_append, List.length_append, List.length_append]
  split
  · rw [rnd_a, List.length_append]
    have e : (rnd [(1, x, [])]).length = (dec x).length := by
      show (dec x ++ []).length = _
      rw [List.append_nil]
    omega
  · split
    · rw [rnd_a, List.length_append]
      have e : (rnd [(1, x, [])]).length = (dec x).length := by
        show (dec x ++ []).length = _
        rw [List.append_nil]
      omega
    · omega
theorem tb.at {b vb : Nat} {sb : List Nat} {x : Nat} {c : xd_C} (h : tb σ0 τ b vb sb) (hx : σ0.1 x = some c) : τ.1 x = some c := (h.1 x (nsome hx)).trans hx
theorem wk_183 {dd p w x : Nat} {v2 v3 v7 vs0 : Int32} {cb c : xd_C} {k41 : Nat → Int32 → Int32 → Nat → Int32 → xd_S → Prop} (hN : 100 ≤ N) (he : env σ fr tg i t d ta X τ) (hta : ta 10 = some b8) (hsb : sbT τ.1 b5 v s s.length) (hb5 : σ.1 b5 = none) (hv : σ.1 v = none) (hcb : τ.1 b8 = some cb) (cb1 : cb.1 = 2) (cb2 : cb.2.1 = n) (hk : k < n ∧ n ≤ 12) (h8 : σ.1 b8 = none) (hc : τ.1 r = some c) (c1 : c.1 = 0) (c2 : c.2.1 = 4) (r0 : c.2.2.1 0 = nI dd) (r1 : c.2.2.1 1 = nI p) (hr : σ.1 r = none) (hx : vs0 = nI x) (h7 : v7 = nI w) (hw : w < 3) (bd : dd < 1000 ∧ p < 1000 ∧ x < 1000) (hs : s.length ≤ 360) (hC : 25 ≤ τ.2.2.1) (hS : 3000 ≤ τ.2.2.2) (hK : ∀ τ' v', env σ fr tg i t d ta X τ' → sbT τ'.1 b5 v' (s ++ rnd (wkPc dd p w x)) (s ++ rnd (wkPc dd p w x)).length → σ.1 v' = none → τ'.1 b8 = some (2, n, cb.2.2.1, va_up cb.2.2.2 k (some r)) → τ'.1 r = some (0, 4, upd c.2.2.1 3 (nI x), c.2.2.2) → (∀ y cy, τ.1 y = some cy → y ≠ r → y ≠ b8 → cy.1 ≠ 15 → cy.1 ≠ 1 → τ'.1 y = some cy) → τ'.2.1 = τ.2.1 → τ.2.2.1 ≤ τ'.2.2.1 + 25 → τ.2.2.2 ≤ τ'.2.2.2 + 3000 → k41 t v2 v3 b5 (nI (k + 1)) τ') : hbL_walks_183 N M K k41 t v2 v3 b5 (nI k) v7 vs0 3 r r (nI k) b8 τ := by
  have hrb : r ≠ b8 := fun e => by
    rw [e, hcb] at hc
    have := Option.some.inj hc
    rw [← this] at c1
    omega
  unfold hbL_walks_183
  refine w_sI (n := 3) hc c1 rfl ⟨by omega, by omega⟩ hx (w_sR (n := k) (c := cb) (e := (0, c.2.1, upd c.2.2.1 3 (nI x), c.2.2.2)) ((xu_n _ _ hrb.symm).trans hcb) cb1 (xu_s _ _ _) rfl rfl ⟨by omega, by omega⟩ ?_)
  generalize hσb : (xd_up (xd_up τ.1 r (0, c.2.1, upd c.2.2.1 3 (nI x), c.2.2.2), τ.2).1 b8 (2, cb.2.1, cb.2.2.1, va_up cb.2.2.2 k (some r)), (xd_up τ.1 r (0, c.2.1, upd c.2.2.1 3 (nI x), c.2.2.2), τ.2).2) = σb
  have eb8 : σb.1 b8 = some (2, n, cb.2.2.1, va_up cb.2.2.2 k (some r)) := by rw [← hσb, ← cb2]; exact xu_s _ _ _
  have er : σb.1 r = some (0, 4, upd c.2.2.1 3 (nI x), c.2.2.2) := by rw [← hσb, ← c2]; exact (xu_n _ _ hrb).trans (xu_s _ _ _)
  have eo : ∀ y, y ≠ r → y ≠ b8 → σb.1 y = τ.1 y := fun y y1 y2 => by rw [← hσb]; exact (xu_n _ _ y2).trans (xu_n _ _ y1)
  have e2 : σb.2 = τ.2 := by rw [← hσb]
  have heb : env σ fr tg i t d ta X σb := he.new (fun y hy => eo y (fun e => hy (by rw [e]; exact hr)) (fun e => hy (by rw [e]; exact h8)))
  have hsbb : sbT σb.1 b5 v s s.length := by
    obtain ⟨ca, cv, ⟨q1, q2, q3, q4, q5⟩, u1, u2, u3⟩ := id hsb
    have n1 : b5 ≠ r := fun e => by
      rw [e, hc] at q1
      have := Option.some.inj q1
      rw [← this] at q2
      omega
    have n2 : b5 ≠ b8 := fun e => by
      rw [e, hcb] at q1
      have := Option.some.inj q1
      rw [← this] at q2
      omega
    have n3 : v ≠ r := fun e => by
      rw [e, hc] at u1
      have := Option.some.inj u1
      rw [← this] at u2
      omega
    have n4 : v ≠ b8 := fun e => by
      rw [e, hcb] at u1
      have := Option.some.inj u1
      rw [← this] at u2
      omega
    exact ⟨ca, cv, ⟨(eo b5 n1 n2).trans q1, q2, q3, q4, q5⟩, (eo v n3 n4).trans u1, u2, u3⟩
  have hCb : 25 ≤ σb.2.2.1 := by rw [e2]; exact hC
  have hSb : 3000 ≤ σb.2.2.2 := by rw [e2]; exact hS
  obtain ⟨hT0, -⟩ := id heb
  refine t_gT hT0.T (Or.inl rfl) hta (w_aR (n := k) eb8 rfl rfl ⟨hk.1, by show n < 2 ^ 31; omega⟩ (vup_s _ _ _) ?_)
  refine t_new (by omega) (by omega) (fun b45 vb τ1 g1 g2 => ?_)
  obtain ⟨g2a, g2b⟩ := g2
  have rd : ∀ (τ2 : xd_S) (vb2 : Nat) (sb : List Nat) (q : Nat) (z : Nat) (f : Int32 → Prop), tb σb τ2 b45 vb2 sb → q < 4 → upd c.2.2.1 3 (nI x) q = nI z → f (nI z) → xd_aI 0 r (nI q) τ2 f := fun τ2 vb2 sb q z f h1 h2 h3 h4 => w_aI (c := (0, 4, upd c.2.2.1 3 (nI x), c.2.2.2)) (n := q) (h1.at er) rfl rfl ⟨h2, by show 4 < 2 ^ 31; decide⟩ h3 h4
  have l3 : ∀ y, (dec y).length ≤ 3 := fun y => dec_l
  have ly7 : (ykb 7).length = 3 := rfl
  have ly2 : (ykb 2).length = 1 := rfl
  have ly3 : (ykb 3).length = 1 := rfl
  have ly8 : (ykb 8).length = 6 := rfl
  have ly9 : (ykb 9).length = 6 := rfl
  have ly10 : (ykb 10).length = 6 := rfl
  have d1 := l3 dd
  have d2 := l3 p
  have d3 := l3 x
  refine x_appk 60 (by omega) g1.2.2.1 (by rw [ly7]; decide) (by omega) (by omega) (by rw [ly7]; decide) (fun τ2 vb2 h2 x2 y2 => ?_)
  obtain ⟨y2a, y2b⟩ := y2
  have g2' := g1.ex h2 x2
  refine rd τ2 _ _ 0 dd _ g2' (by omega) ((upd_n _ _ (by omega)).trans r0) ?_
  refine x_appn 60 rfl bd.1 hN g2'.2.2.1 (by simp [ly7]) (by omega) (by omega) (by simp [ly7]) (fun τ3 vb3 h3 x3 y3 => ?_)
  obtain ⟨y3a, y3b⟩ := y3
  have g3 := g2'.ex h3 x3
  refine x_appk 60 (by omega) g3.2.2.1 (by simp [ly7, ly2]; omega) (by omega) (by omega) (by simp [ly7, ly2]; omega) (fun τ4 vb4 h4 x4 y4 => ?_)
  obtain ⟨y4a, y4b⟩ := y4
  have g4 := g3.ex h4 x4
  refine rd τ4 _ _ 1 p _ g4 (by omega) ((upd_n _ _ (by omega)).trans r1) ?_
  refine x_appn 60 rfl bd.2.1 hN g4.2.2.1 (by simp [ly7, ly2]; omega) (by omega) (by omega) (by simp [ly7, ly2]; omega) (fun τ5 vb5 h5 x5 y5 => ?_)
  obtain ⟨y5a, y5b⟩ := y5
  have g5 := g4.ex h5 x5
  -- behind the whole text of the row
  have fin : ∀ (τ8 : xd_S) (vb8 : Nat) (st : List Nat), tb σb τ8 b45 vb8 st → st = rnd (wkPc dd p w x) → σb.2.2.1 ≤ τ8.2.2.1 + 20 → σb.2.2.2 ≤ τ8.2.2.2 + 800 → xd_is 15 b45 τ8 (xd_ca (fun τ K => hJ4_toString_0e30d b45 τ K) τ8 (fun _ r2 τ1 => xd_nn r2 fun b3 => xd_is 15 b5 τ1 (xd_ca (fun τ K => hJ4_append_15ec4_d b5 b3 τ K) τ1 (fun _ r5 τ4 => xd_nn r5 fun b6 => xd_lt (nI k + 1) fun v5_74 => (k41 t v2 v3 b5 v5_74 τ4))))) := by
    intro τ8 vb8 st z1 z2 z3 z4
    subst z2
    have hl := wkPc_len (dd := dd) (p := p) (w := w) (x := x)
    refine z1.put (f := fun _ τ4 => xd_lt (nI k + 1) fun v5_74 => (k41 t v2 v3 b5 v5_74 τ4)) 60 800 hsbb (by omega) (by omega) (by omega) (by omega) (by omega) (fun τ9 v9 a1 a2 a3 => ?_)
    obtain ⟨a3a, a3b⟩ := a3
    obtain ⟨e9, hv9⟩ := heb.ex hb5 hv a2
    refine w_lt (nI_add k 1) (hK τ9 v9 e9 a1 hv9 (a2.at hsbb eb8 (by show (2 : Nat) ≠ 15; decide) (by show (2 : Nat) ≠ 1; decide)) (a2.at hsbb er (by show (0 : Nat) ≠ 15; decide) (by show (0 : Nat) ≠ 1; decide)) (fun y cy q1 q2 q3 q4 q5 => a2.at hsbb ((eo y q2 q3).trans q1) q4 q5) (a2.2.2.1.trans (by rw [e2])) ?_ ?_)
    · rw [← e2]
      omega
    · rw [← e2]
      omega
  have hc3 : w = 0 ∨ w = 1 ∨ w = 2 := by omega
  rcases hc3 with e0 | e1 | e2w
  · subst e0
    refine w_f (by rw [h7]; exact fun z => z rfl) ?_
    refine t_new (by omega) (by omega) (fun b75 vb6 τ6 g6 y6 => ?_)
    obtain ⟨y6a, y6b⟩ := y6
    refine x_appk 60 (by omega) g6.2.2.1 (by rw [ly8]; decide) (by omega) (by omega) (by rw [ly8]; decide) (fun τ7 vb7 h7' x7 y7 => ?_)
    obtain ⟨y7a, y7b⟩ := y7
    have g7 := g6.ex h7' x7
    have er7 : τ7.1 r = some (0, 4, upd c.2.2.1 3 (nI x), c.2.2.2) := g7.at (g5.at er)
    refine w_aI (c := (0, 4, upd c.2.2.1 3 (nI x), c.2.2.2)) (n := 3) er7 rfl rfl ⟨by show 3 < 4; decide, by show 4 < 2 ^ 31; decide⟩ (show upd c.2.2.1 3 (nI x) 3 = nI x from upd_s _ _ _) ?_
    refine x_appn 60 rfl bd.2.2 hN g7.2.2.1 (by simp [ly8]) (by omega) (by omega) (by simp [ly8]) (fun τ8 vb8 h8' x8 y8 => ?_)
    obtain ⟨y8a, y8b⟩ := y8
    have g8 := g7.ex h8' x8
    refine g8.put 60 100 g5.2.2.1 (by simp [ly7, ly2, ly8]; omega) (by omega) (by omega) (by simp [ly8]; omega) (by simp [ly7, ly2, ly8]; omega) (fun τ9 vb9 h9 x9 y9 => ?_)
    obtain ⟨y9a, y9b⟩ := y9
    have g9 := g5.ex h9 x9
    refine x_appk 100 (by omega) g9.2.2.1 (by simp [ly7, ly2, ly8, ly3]; omega) (by omega) (by omega) (by simp [ly7, ly2, ly8, ly3]; omega) (fun τ10 vb10 h10 x10 y10 => ?_)
    obtain ⟨y10a, y10b⟩ := y10
    refine fin τ10 vb10 _ (g9.ex h10 x10) ?_ (by omega) (by omega)
    show _ = rnd (pc7 ++ ((1, dd, []) :: (pc2 ++ ((1, p, []) :: ((pc8 ++ [(1, x, [])]) ++ pc3)))))
    rw [rnd_a, rnd_num, rnd_a, rnd_num, rnd_a, rnd_a, rnd_num, pc7_r, pc2_r, pc8_r, pc3_r]
    simp [rnd]
  · subst e1
    refine w_t (by rw [h7]; decide) (w_f (by rw [h7]; exact fun z => z rfl) ?_)
    refine t_new (by omega) (by omega) (fun b75 vb6 τ6 g6 y6 => ?_)
    obtain ⟨y6a, y6b⟩ := y6
    refine x_appk 60 (by omega) g6.2.2.1 (by rw [ly9]; decide) (by omega) (by omega) (by rw [ly9]; decide) (fun τ7 vb7 h7' x7 y7 => ?_)
    obtain ⟨y7a, y7b⟩ := y7
    have g7 := g6.ex h7' x7
    have er7 : τ7.1 r = some (0, 4, upd c.2.2.1 3 (nI x), c.2.2.2) := g7.at (g5.at er)
    refine w_aI (c := (0, 4, upd c.2.2.1 3 (nI x), c.2.2.2)) (n := 3) er7 rfl rfl ⟨by show 3 < 4; decide, by show 4 < 2 ^ 31; decide⟩ (show upd c.2.2.1 3 (nI x) 3 = nI x from upd_s _ _ _) ?_
    refine x_appn 60 rfl bd.2.2 hN g7.2.2.1 (by simp [ly9]) (by omega) (by omega) (by simp [ly9]) (fun τ8 vb8 h8' x8 y8 => ?_)
    obtain ⟨y8a, y8b⟩ := y8
    have g8 := g7.ex h8' x8
    refine g8.put 60 100 g5.2.2.1 (by simp [ly7, ly2, ly9]; omega) (by omega) (by omega) (by simp [ly9]; omega) (by simp [ly7, ly2, ly9]; omega) (fun τ9 vb9 h9 x9 y9 => ?_)
    obtain ⟨y9a, y9b⟩ := y9
    have g9 := g5.ex h9 x9
    refine x_appk 100 (by omega) g9.2.2.1 (by simp [ly7, ly2, ly9, ly3]; omega) (by omega) (by omega) (by simp [ly7, ly2, ly9, ly3]; omega) (fun τ10 vb10 h10 x10 y10 => ?_)
    obtain ⟨y10a, y10b⟩ := y10
    refine fin τ10 vb10 _ (g9.ex h10 x10) ?_ (by omega) (by omega)
    show _ = rnd (pc7 ++ ((1, dd, []) :: (pc2 ++ ((1, p, []) :: ((pc9 ++ [(1, x, [])]) ++ pc3)))))
    rw [rnd_a, rnd_num, rnd_a, rnd_num, rnd_a, rnd_a, rnd_num, pc7_r, pc2_r, pc9_r, pc3_r]
    simp [rnd]
  · subst e2w
    refine w_t (by rw [h7]; decide) (w_t (by rw [h7]; decide) ?_)
    refine x_appk 100 (by omega) g5.2.2.1 (by simp [ly7, ly2, ly10]; omega) (by omega) (by omega) (by simp [ly7, ly2, ly10]; omega) (fun τ9 vb9 h9 x9 y9 => ?_)
    obtain ⟨y9a, y9b⟩ := y9
    have g9 := g5.ex h9 x9
    refine x_appk 100 (by omega) g9.2.2.1 (by simp [ly7, ly2, ly10, ly3]; omega) (by omega) (by omega) (by simp [ly7, ly2, ly10, ly3]; omega) (fun τ10 vb10 h10 x10 y10 => ?_)
    obtain ⟨y10a, y10b⟩ := y10
    refine fin τ10 vb10 _ (g9.ex h10 x10) ?_ (by omega) (by omega)
    show _ = rnd (pc7 ++ ((1, dd, []) :: (pc2 ++ ((1, p, []) :: (pc10 ++ pc3)))))
    rw [rnd_a, rnd_num, rnd_a, rnd_num, rnd_a, pc7_r, pc2_r, pc10_r, pc3_r]
    simp
end
