-- ===== the law tells its needs =====
abbrev W3 : Type := Nat × Nat × Nat
def ndI (F : Nat → W3) (l : Nat) : List Pc := ndPc (F l).1 (F l).2.1 (F l).2.2
def ndB (J : xc_M) (x : W3) : Prop := x.1 < xr (J 1) 66 ∧ x.2.1 < 1000 ∧ 1 ≤ x.2.2 ∧ x.2.2 < 100
section
variable {σ τ ρ σ0 : xd_S} {fr fr2 fr3 : xd_M} {tg : lTg} {i t : Nat} {d : lD} {ta : Nat → Option Nat} {X X2 : lX} {N M : Nat} {K : xd_K} {b5 v b8 r n k j : Nat} {s : List Nat} {J : xc_M}
theorem env.tb {b vb : Nat} {sb : List Nat} (he : env σ fr tg i t d ta X τ) (h : tb τ ρ b vb sb) : env σ fr tg i t d ta X ρ := he.new (fun x hx => h.1 x (he.2.2.2 x hx))
theorem ndPc_len {m dd w : Nat} : (rnd (ndPc m dd w)).length ≤ 26 := by
  have l1 : ∀ y, (dec y).length ≤ 3 := fun y => dec_l
  have h4 : (rnd pc4).length = 5 := rfl
  have h5 : (rnd pc5).length = 4 := rfl
  have h6 : (rnd pc6).length = 7 := rfl
  have h3 : (rnd pc3).length = 1 := rfl
  have a1 := l1 m
  have a2 := l1 dd
  have a3 := l1 w
  unfold ndPc
  rw [rnd_a, rnd_num, rnd_a, rnd_num, rnd_a, rnd_num, List.length_append, List.length_append, List.length_append, List.length_append, List.length_append, List.length_append]
  omega
/-- k needs are drawn -/
def NI (J : xc_M) (σ : xd_S) (fr : xd_M) (tg : lTg) (i t : Nat) (d : lD) (ta : Nat → Option Nat) (X : lX) (b5 b8 n : Nat) (C S : Nat) (k : Nat) (τ : xd_S) : Prop := ∃ (v : Nat) (F : Nat → W3) (cb : xd_C), env σ fr tg i t d ta X τ ∧ sbT τ.1 b5 v (rnd (remT (ndI F) 0 k)) (rnd (remT (ndI F) 0 k)).length ∧ (rnd (remT (ndI F) 0 k)).length ≤ 26 * k ∧ σ.1 v = none ∧ τ.1 b8 = some cb ∧ cb.1 = 2 ∧ cb.2.1 = n ∧ (∀ l, l < k → ndB J (F l)) ∧ τ.2.1 = σ.2.1 ∧ C ≤ τ.2.2.1 + 26 * k ∧ S ≤ τ.2.2.2 + 3010 * k
theorem remT_snocN (F : Nat → W3) (k : Nat) (x : W3) : rnd (remT (ndI (fun l => if l = k then x else F l)) 0 (k + 1)) = rnd (remT (ndI F) 0 k) ++ rnd (ndPc x.1 x.2.1 x.2.2) := by
  rw [remT_s, rnd_a, remT_cong (n := k) (g := ndI F) (fun l hl => ?_) k 0 (by omega)]
  · congr 1
    have e : (if 0 + k = k then x else F (0 + k)) = x := if_pos (by omega)
    unfold ndI
    dsimp only
    rw [e]
  · have e : (if l = k then x else F l) = F l := if_neg (by omega)
    unfold ndI
    dsimp only
    rw [e]
theorem ndI_ok {F : Nat → W3} (h : ∀ l, l < n → ndB J (F l)) (hm : xr (J 1) 66 < 1000) : ∀ l, l < n → wfB 0 (ndI F l) = true ∧ stB 0 (ndI F l) = 0 ∧ nmB (ndI F l) := fun l hl => by
  obtain ⟨h1, h2, h3, h4⟩ := h l hl
  exact ⟨(nd_wf _ _ _).1, (nd_wf _ _ _).2, nd_nm (by omega) h2 (by omega)⟩
theorem w_sRg {k kv a : Nat} {c e : xd_C} {i : Int32} {b : Nat} {f : xd_S → Prop} (hc : σ.1 a = some c) (hk : c.1 = k) (he : σ.1 b = some e) (hk2 : e.1 = kv) (hi : i = nI n) (hn : n < c.2.1 ∧ c.2.1 < 2 ^ 31) (h : ∀ σb : xd_S, σb.1 = xd_up σ.1 a (k, c.2.1, c.2.2.1, va_up c.2.2.2 n (some b)) → σb.2 = σ.2 → f σb) : xd_sR k kv a i b σ f := w_sR hc hk he hk2 hi hn (h _ (Eq.refl _) (Eq.refl _))
/-- a need is drawn -/
theorem nd_step {C S m3 : Nat} {v2 : Int32} {k322 : Nat → Int32 → Int32 → Nat → Int32 → Int32 → xd_S → Prop} (hN : 100 ≤ N) (hw : XW X (J 1)) (hi : iW (J 1)) (hd : xr (J 1) 0 + 30 < 1000) (hm : 0 < m3 ∧ m3 ≤ xr (J 1) 66 ∧ m3 < 8) (h : NI J σ fr tg i t d ta X b5 b8 n C S k τ) (hta : ta 11 = some b8) (hb5 : σ.1 b5 = none) (h8 : σ.1 b8 = none) (hk : k < n ∧ n ≤ 10) (hC : C ≥ 26 * n + 30) (hS : S ≥ 3010 * n + 500) (hK : ∀ τ', NI J σ fr tg i t d ta X b5 b8 n C S (k + 1) τ' → k322 t v2 (nI m3) b5 (nI n) (nI (k + 1)) τ') : hbL_meanings_322 N M K k322 t v2 (nI m3) b5 (nI n) (nI k) τ := by
  obtain ⟨v, F, cb, he, hsb, hsl, hv, hcb, cb1, cb2, hrow, hI, hCk, hSk⟩ := h
  have hkn : k + 1 ≤ n := by omega
  have hm1 : 26 * (k + 1) ≤ 26 * n := Nat.mul_le_mul_left _ hkn
  have hm2 : 3010 * (k + 1) ≤ 3010 * n := Nat.mul_le_mul_left _ hkn
  have hT := he.1.T
  have e1 : X.1 1 = nI (xr (J 1) 0) := hw.day.trans hi.day
  unfold hbL_meanings_322
  refine w_f (by rw [xp_le (by omega) (by omega)]; omega) (w_lt (Eq.refl _) (t_gT hT (Or.inr (Or.inl (Eq.refl _))) hta (w_na (n := 3) (by decide) (by omega) (by omega) (by omega) (fun r hr => ?_))))
  have hrS := he.nn hr
  have hTb : ∀ (Cx : xd_C) (rest : xc_M × Nat × Nat), tG (xd_up τ.1 r Cx, rest) fr tg i t d ta X := fun Cx rest => he.1.off hr (fun a ha => xu_n _ _ ha)
  refine w_c0 (w_between _ (lo := 0) (hi := m3 - 1) (by omega) (by omega) (by decide) (by rw [show (1 : Int32) = nI 1 from Eq.refl _, pk_sub (by omega)]) (fun r1 _ hr1 => ?_))
  refine w_sV (n := 0) (y := nI r1) (Eq.refl _) (by decide) ⟨by show 0 < 3; decide, by show 3 < 2 ^ 31; decide⟩ (Eq.refl _) ?_
  refine t_gI (hTb _ _).T (by omega) (w_c0 (w_between _ (lo := 0) (hi := 30) (by omega) (by omega) (by decide) (by decide) (fun r2 _ hr2 => ?_)))
  refine w_sV (n := 1) (y := nI (xr (J 1) 0 + r2)) (Eq.refl _) (by decide) ⟨by show 1 < 3; decide, by show 3 < 2 ^ 31; decide⟩ (by rw [e1, nI_add]) ?_
  refine w_c0 (w_between _ (lo := 1) (hi := 99) (by omega) (by omega) (by decide) (by decide) (fun r3 hl3 hr3 => ?_))
  refine w_sV (n := 2) (y := nI r3) (Eq.refl _) (by decide) ⟨by show 2 < 3; decide, by show 3 < 2 ^ 31; decide⟩ (Eq.refl _) ?_
  have hrb : b8 ≠ r := fun e => by rw [e, hr] at hcb; exact nomatch hcb
  refine w_sRg (n := k) (c := cb) ((xu_n _ _ hrb).trans hcb) cb1 (xu_s _ _ _) (Eq.refl _) (Eq.refl _) ⟨by omega, by omega⟩ (fun σb fa fb => ?_)
  have V0 : upd (upd (upd (fun _ => (0 : Int32)) 0 (nI r1)) 1 (nI (xr (J 1) 0 + r2))) 2 (nI r3) 0 = nI r1 := by rw [upd_n _ _ (by omega), upd_n _ _ (by omega), upd_s]
  have V1 : upd (upd (upd (fun _ => (0 : Int32)) 0 (nI r1)) 1 (nI (xr (J 1) 0 + r2))) 2 (nI r3) 1 = nI (xr (J 1) 0 + r2) := by rw [upd_n _ _ (by omega), upd_s]
  have V2 : upd (upd (upd (fun _ => (0 : Int32)) 0 (nI r1)) 1 (nI (xr (J 1) 0 + r2))) 2 (nI r3) 2 = nI r3 := by rw [upd_s]
  have f2 : σb.2.1 = τ.2.1 := by rw [fb]
  have f3 : σb.2.2.1 = τ.2.2.1 - 1 := by rw [fb]
  have f4 : σb.2.2.2 = τ.2.2.2 - 3 := by rw [fb]
  generalize upd (upd (upd (fun _ => (0 : Int32)) 0 (nI r1)) 1 (nI (xr (J 1) 0 + r2))) 2 (nI r3) = V at V0 V1 V2 fa
  have eb8 : σb.1 b8 = some (2, n, cb.2.2.1, va_up cb.2.2.2 k (some r)) := by rw [fa, ← cb2]; exact xu_s _ _ _
  have er : σb.1 r = some (0, 3, V, fun _ => none) := by rw [fa]; exact (xu_n _ _ hrb.symm).trans (xu_s _ _ _)
  have eo : ∀ y, y ≠ r → y ≠ b8 → σb.1 y = τ.1 y := fun y y1 y2 => by rw [fa]; exact (xu_n _ _ y2).trans (xu_n _ _ y1)
  have heb : env σ fr tg i t d ta X σb := he.new (fun y hy => eo y (fun e => hy (by rw [e]; exact hrS)) (fun e => hy (by rw [e]; exact h8)))
  have hsbb : sbT σb.1 b5 v (rnd (remT (ndI F) 0 k)) (rnd (remT (ndI F) 0 k)).length := by
    obtain ⟨ca, cv, ⟨q1, q2, q3, q4, q5⟩, u1, u2, u3⟩ := id hsb
    have n1 : b5 ≠ r := fun e => by
      rw [e, hr] at q1
      exact nomatch q1
    have n2 : b5 ≠ b8 := fun e => by
      rw [e, hcb] at q1
      have := Option.some.inj q1
      rw [← this] at q2
      omega
    have n3 : v ≠ r := fun e => by
      rw [e, hr] at u1
      exact nomatch u1
    have n4 : v ≠ b8 := fun e => by
      rw [e, hcb] at u1
      have := Option.some.inj u1
      rw [← this] at u2
      omega
    exact ⟨ca, cv, ⟨(eo b5 n1 n2).trans q1, q2, q3, q4, q5⟩, (eo v n3 n4).trans u1, u2, u3⟩
  have hCb : 25 ≤ σb.2.2.1 := by omega
  have hSb : 3000 ≤ σb.2.2.2 := by omega
  refine t_new (by omega) (by omega) (fun b45 vb τ1 g1 g2 => ?_)
  obtain ⟨g2a, g2b⟩ := g2
  have rd : ∀ (τ2 : xd_S) (vb2 : Nat) (sb : List Nat) (q : Nat) (z : Nat) (f : Int32 → Prop), tb σb τ2 b45 vb2 sb → q < 3 → V q = nI z → f (nI z) → xd_gR 14 t 11 τ2 (fun b => xd_aR 2 b (nI k) τ2 (fun b2 => xd_aI 0 b2 (nI q) τ2 f)) := fun τ2 vb2 sb q z f h1 h2 h3 h4 => t_gT (heb.tb h1).1.T (Or.inr (Or.inl (Eq.refl _))) hta (w_aR (n := k) (h1.at eb8) (Eq.refl _) (Eq.refl _) ⟨hk.1, by show n < 2 ^ 31; omega⟩ (vup_s _ _ _) (w_aI (c := (0, 3, V, fun _ => none)) (n := q) (h1.at er) (Eq.refl _) (Eq.refl _) ⟨h2, by show 3 < 2 ^ 31; decide⟩ h3 h4))
  have l3 : ∀ y, (dec y).length ≤ 3 := fun y => dec_l
  have ly4 : (ykb 4).length = 5 := by decide
  have ly5 : (ykb 5).length = 4 := by decide
  have ly6 : (ykb 6).length = 7 := by decide
  have ly3 : (ykb 3).length = 1 := by decide
  have d1 := l3 r1
  have d2 := l3 (xr (J 1) 0 + r2)
  have d3 := l3 r3
  refine x_appk 60 (by omega) g1.2.2.1 (by simp [ly4]) (by omega) (by omega) (by simp [ly4]) (fun τ2 vb2 h2 x2 y2 => ?_)
  obtain ⟨y2a, y2b⟩ := y2
  have g2' := g1.ex h2 x2
  refine rd τ2 _ _ 0 r1 _ g2' (by omega) V0 ?_
  refine x_appn 60 (Eq.refl _) (by omega) hN g2'.2.2.1 (by simp [ly4]) (by omega) (by omega) (by simp [ly4]) (fun τ3 vb3 h3 x3 y3 => ?_)
  obtain ⟨y3a, y3b⟩ := y3
  have g3 := g2'.ex h3 x3
  refine x_appk 60 (by omega) g3.2.2.1 (by simp [ly4, ly5]; omega) (by omega) (by omega) (by simp [ly4, ly5]; omega) (fun τ4 vb4 h4 x4 y4 => ?_)
  obtain ⟨y4a, y4b⟩ := y4
  have g4 := g3.ex h4 x4
  refine rd τ4 _ _ 1 (xr (J 1) 0 + r2) _ g4 (by omega) V1 ?_
  refine x_appn 60 (Eq.refl _) (by omega) hN g4.2.2.1 (by simp [ly4, ly5]; omega) (by omega) (by omega) (by simp [ly4, ly5]; omega) (fun τ5 vb5 h5 x5 y5 => ?_)
  obtain ⟨y5a, y5b⟩ := y5
  have g5 := g4.ex h5 x5
  refine x_appk 60 (by omega) g5.2.2.1 (by simp [ly4, ly5, ly6]; omega) (by omega) (by omega) (by simp [ly4, ly5, ly6]; omega) (fun τ6 vb6 h6 x6 y6 => ?_)
  obtain ⟨y6a, y6b⟩ := y6
  have g6 := g5.ex h6 x6
  refine rd τ6 _ _ 2 r3 _ g6 (by omega) V2 ?_
  refine x_appn 60 (Eq.refl _) (by omega) hN g6.2.2.1 (by simp [ly4, ly5, ly6]; omega) (by omega) (by omega) (by simp [ly4, ly5, ly6]; omega) (fun τ7 vb7 h7 x7 y7 => ?_)
  obtain ⟨y7a, y7b⟩ := y7
  have g7 := g6.ex h7 x7
  refine x_appk 60 (by omega) g7.2.2.1 (by simp [ly4, ly5, ly6, ly3]; omega) (by omega) (by omega) (by simp [ly4, ly5, ly6, ly3]; omega) (fun τ8 vb8 h8' x8 y8 => ?_)
  obtain ⟨y8a, y8b⟩ := y8
  have g8 := g7.ex h8' x8
  have hl := ndPc_len (m := r1) (dd := xr (J 1) 0 + r2) (w := r3)
  have ee : [] ++ ykb 4 ++ dec r1 ++ ykb 5 ++ dec (xr (J 1) 0 + r2) ++ ykb 6 ++ dec r3 ++ ykb 3 = rnd (ndPc r1 (xr (J 1) 0 + r2) r3) := by
    show _ = rnd (pc4 ++ ((1, r1, []) :: (pc5 ++ ((1, xr (J 1) 0 + r2, []) :: (pc6 ++ ((1, r3, []) :: pc3))))))
    rw [rnd_a, rnd_num, rnd_a, rnd_num, rnd_a, rnd_num, pc4_r, pc5_r, pc6_r, pc3_r]
    simp
  rw [ee] at g8
  have hln : (rnd (remT (ndI F) 0 k)).length ≤ 260 := Nat.le_trans hsl (by omega)
  refine g8.put (f := fun _ τ4 => xd_lt (nI k + 1) fun v6_118 => (k322 t v2 (nI m3) b5 (nI n) v6_118 τ4)) 60 800 hsbb (by omega) (by omega) (by omega) (by omega) (by omega) (fun τ9 v9 a1 a2 a3 => ?_)
  obtain ⟨a3a, a3b⟩ := a3
  obtain ⟨e9, hv9⟩ := heb.ex hb5 hv a2
  refine w_lt (nI_add k 1) (hK τ9 ⟨v9, fun l => if l = k then (r1, xr (J 1) 0 + r2, r3) else F l, _, e9, ?_, ?_, hv9, a2.at hsbb eb8 (by show (2 : Nat) ≠ 15; decide) (by show (2 : Nat) ≠ 1; decide), Eq.refl _, Eq.refl _, fun l hl => ?_, a2.2.2.1.trans (f2.trans hI), by omega, by omega⟩)
  · rw [remT_snocN]
    exact a1
  · rw [remT_snocN, List.length_append]
    show _ + (rnd (ndPc r1 (xr (J 1) 0 + r2) r3)).length ≤ _
    omega
  · dsimp only
    by_cases e : l = k
    · rw [if_pos e]
      exact ⟨by show r1 < _; omega, by show xr (J 1) 0 + r2 < 1000; omega, hl3, by show r3 < 100; omega⟩
    · rw [if_neg e]
      exact hrow l (by omega)
end
