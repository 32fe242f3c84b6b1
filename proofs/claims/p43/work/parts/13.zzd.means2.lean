-- ===== the law tells its meanings =====
theorem dec_2 {x : Nat} (h : x < 100) : (dec x).length ≤ 2 := by
  unfold dec
  by_cases h1 : x < 10
  · rw [if_pos h1]
    show 1 ≤ 2
    decide
  · rw [if_neg h1, if_pos h]
    exact Nat.le_refl 2
def wqPc (w : Nat → Nat) (q : Nat) : List Pc := pc2 ++ [(1, w q, [])]
/-- cells but for one, and but for builders and bytes, are as they were -/
def kpE (g : Nat) (τ0 τ : xd_S) : Prop := ∀ y cy, τ0.1 y = some cy → y ≠ g → cy.1 ≠ 15 → cy.1 ≠ 1 → τ.1 y = some cy
section
variable {σ τ ρ σ0 τ0 : xd_S} {fr fr2 fr3 : xd_M} {tg : lTg} {i t : Nat} {d : lD} {ta : Nat → Option Nat} {X X2 : lX} {N M : Nat} {K : xd_K} {a v b8 e g m n k j c1 c2 nM nw many : Nat} {s : List Nat} {J : xc_M} {R0 : Nat → Option Nat}
theorem kpE.rfl : kpE g τ τ := fun _ _ h _ _ _ => h
theorem kpE.trans (h : kpE g τ0 τ) (h2 : kpE g τ ρ) : kpE g τ0 ρ := fun y cy q1 q2 q3 q4 => h2 y cy (h y cy q1 q2 q3 q4) q2 q3 q4
theorem wq_snoc (w : Nat → Nat) (k x : Nat) : rnd (remT (wqPc (fun l => if l = k then x else w l)) 0 (k + 1)) = rnd (remT (wqPc w) 0 k) ++ (ykb 2 ++ dec x) := by
  rw [remT_s, rnd_a, remT_cong (n := k) (g := wqPc w) (fun l hl => ?_) k 0 (by omega)]
  · congr 1
    have e : (if 0 + k = k then x else w (0 + k)) = x := if_pos (by omega)
    unfold wqPc
    dsimp only
    rw [e, rnd_a, pc2_r]
    congr 1
    show dec x ++ [] = _
    rw [List.append_nil]
  · have e : (if l = k then x else w l) = w l := if_neg (by omega)
    unfold wqPc
    dsimp only
    rw [e]
/-- k words of a wording are drawn -/
def QI (J : xc_M) (σ : xd_S) (fr : xd_M) (tg : lTg) (i t : Nat) (d : lD) (ta : Nat → Option Nat) (X : lX) (a g many : Nat) (R0 : Nat → Option Nat) (s : List Nat) (τ0 : xd_S) (k : Nat) (τ : xd_S) : Prop := ∃ (v : Nat) (w : Nat → Nat) (V : Nat → Int32), env σ fr tg i t d ta X τ ∧ sbT τ.1 a v (s ++ rnd (remT (wqPc w) 0 k)) (s ++ rnd (remT (wqPc w) 0 k)).length ∧ (rnd (remT (wqPc w) 0 k)).length ≤ 3 * k ∧ σ.1 v = none ∧ τ.1 g = some (0, many, V, R0) ∧ (∀ q, q < k → w q < xr (J 1) 62 ∧ V q = nI (w q)) ∧ kpE g τ0 τ ∧ τ.2.1 = τ0.2.1 ∧ τ0.2.2.1 ≤ τ.2.2.1 + 8 * k ∧ τ0.2.2.2 ≤ τ.2.2.2 + 1000 * k
/-- where the table of a wording stands -/
def tab3 (M : xd_M) (b8 e g nM nw m j : Nat) : Prop := ∃ cb ce : xd_C, M b8 = some cb ∧ cb.1 = 3 ∧ cb.2.1 = nM ∧ cb.2.2.2 m = some e ∧ M e = some ce ∧ ce.1 = 2 ∧ ce.2.1 = nw ∧ ce.2.2.2 j = some g
theorem tab3.kp (h : tab3 τ0.1 b8 e g nM nw m j) (hk : kpE g τ0 τ) (hg : ∃ c : xd_C, τ0.1 g = some c ∧ c.1 = 0) : tab3 τ.1 b8 e g nM nw m j := by
  obtain ⟨cb, ce, h1, h2, h3, h4, h5, h6, h7, h8⟩ := h
  obtain ⟨c, k1, k2⟩ := hg
  have n1 : b8 ≠ g := fun z => by
    rw [z, k1] at h1
    have := Option.some.inj h1
    rw [← this] at h2
    omega
  have n2 : e ≠ g := fun z => by
    rw [z, k1] at h5
    have := Option.some.inj h5
    rw [← this] at h6
    omega
  exact ⟨cb, ce, hk b8 cb h1 n1 (by omega) (by omega), h2, h3, h4, hk e ce h5 n2 (by omega) (by omega), h6, h7, h8⟩
theorem tab3.rd (h : tab3 τ.1 b8 e g nM nw m j) (hm : m < nM ∧ nM < 8) (hj : j < nw ∧ nw < 4) (he : env σ fr tg i t d ta X τ) (hta : ta 14 = some b8) {f : Nat → Prop} (hf : f g) : xd_gR 14 t 14 τ (fun b => xd_aR 3 b (nI m) τ (fun b2 => xd_aR 2 b2 (nI j) τ f)) := by
  obtain ⟨cb, ce, h1, h2, h3, h4, h5, h6, h7, h8⟩ := h
  exact t_gT he.1.T (Or.inr (Or.inr (Or.inr (Or.inl (Eq.refl _))))) hta (w_aR (n := m) h1 h2 (Eq.refl _) ⟨by omega, by omega⟩ h4 (w_aR (n := j) h5 h6 (Eq.refl _) ⟨by omega, by omega⟩ h8 hf))
theorem w_sIg {p : Nat} {c : xd_C} {i u v : Int32} {f : xd_S → Prop} (hc : σ.1 p = some c) (hk : c.1 = k) (hi : i = nI n) (hn : n < c.2.1 ∧ c.2.1 < 2 ^ 31) (hv : u = v) (h : ∀ σb : xd_S, σb.1 = xd_up σ.1 p (k, c.2.1, upd c.2.2.1 n v, c.2.2.2) → σb.2 = σ.2 → f σb) : xd_sI k p i u σ f := w_sI hc hk hi hn hv (h _ (Eq.refl _) (Eq.refl _))
/-- a builder stands though a cell of another kind is changed -/
theorem sbT.up {M M2 : xd_M} {L x : Nat} {c : xd_C} (h : sbT M a v s L) (hx : M x = some c) (h15 : c.1 ≠ 15) (h1 : c.1 ≠ 1) (ho : ∀ y, y ≠ x → M2 y = M y) : sbT M2 a v s L := by
  obtain ⟨ca, cv, ⟨q1, q2, q3⟩, u1, u2, u3⟩ := h
  refine ⟨ca, cv, ⟨(ho a (fun z => ?_)).trans q1, q2, q3⟩, (ho v (fun z => ?_)).trans u1, u2, u3⟩
  · rw [z, hx] at q1
    exact h15 (by rw [Option.some.inj q1]; exact q2)
  · rw [z, hx] at u1
    exact h1 (by rw [Option.some.inj u1]; exact u2)
theorem wq_step {v2 v3 v6 v8 : Int32} {k41 : Nat → Int32 → Int32 → Nat → Int32 → xd_S → Prop} {k92 : Nat → Int32 → Int32 → Nat → Int32 → Int32 → Int32 → xd_S → Prop} {k162 : Nat → Int32 → Int32 → Nat → Int32 → Int32 → Int32 → Int32 → Int32 → Int32 → xd_S → Prop} (hN : 100 ≤ N) (hw : XW X (J 1)) (hi : iW (J 1)) (h62 : 0 < xr (J 1) 62) (hta : ta 14 = some b8) (ha : σ.1 a = none) (hg : σ.1 g = none) (hT3 : tab3 τ0.1 b8 e g nM nw m j) (hm : m < nM ∧ nM < 8) (hj : j < nw ∧ nw < 4) (hg0 : ∃ c : xd_C, τ0.1 g = some c ∧ c.1 = 0) (h : QI J σ fr tg i t d ta X a g many R0 s τ0 k τ) (hk : k < many ∧ many ≤ 4) (hs : s.length ≤ 380) (hC : 32 ≤ τ0.2.2.1) (hS : 4000 ≤ τ0.2.2.2) (hK : ∀ τ', QI J σ fr tg i t d ta X a g many R0 s τ0 (k + 1) τ' → k162 t v2 v3 a (nI m) v6 (nI j) v8 (nI many) (nI (k + 1)) τ') : hbL_meanings_162 N M K k41 k92 k162 t v2 v3 a (nI m) v6 (nI j) v8 (nI many) (nI k) τ := by
  have hWB := hi.nWB
  obtain ⟨v, w, V, he, hsb, hsl, hv, hgc, hV, hkp, hI, hCk, hSk⟩ := h
  have e3 : X.1 3 = nI (xr (J 1) 62) := hw.nw.trans hi.nW
  unfold hbL_meanings_162
  refine w_f (by rw [xp_le (by omega) (by omega)]; omega) ((hT3.kp hkp hg0).rd hm hj he hta (t_gI he.1.T (by omega) ?_))
  refine w_c0 (w_between _ (lo := 0) (hi := xr (J 1) 62 - 1) (by omega) (by omega) (by decide) (by rw [e3, show (1 : Int32) = nI 1 from Eq.refl _, pk_sub (by omega)]) (fun x _ hx => ?_))
  refine w_sIg (n := k) hgc (Eq.refl _) (Eq.refl _) ⟨hk.1, by show many < 2 ^ 31; omega⟩ (Eq.refl _) (fun σb fa fb => ?_)
  have f2 : σb.2.1 = τ.2.1 := by rw [fb]
  have f3 : σb.2.2.1 = τ.2.2.1 := by rw [fb]
  have f4 : σb.2.2.2 = τ.2.2.2 := by rw [fb]
  have eg : σb.1 g = some (0, many, upd V k (nI x), R0) := by rw [fa]; exact xu_s _ _ _
  have eo : ∀ y, y ≠ g → σb.1 y = τ.1 y := fun y y1 => by rw [fa]; exact xu_n _ _ y1
  have heb : env σ fr tg i t d ta X σb := he.new (fun y hy => eo y (fun e => hy (by rw [e]; exact hg)))
  have hsbb := hsb.up (M2 := σb.1) hgc (by show (0 : Nat) ≠ 15; decide) (by show (0 : Nat) ≠ 1; decide) eo
  have hkb : kpE g τ0 σb := fun y cy q1 q2 q3 q4 => (eo y q2).trans (hkp y cy q1 q2 q3 q4)
  have hT3b := hT3.kp hkb hg0
  refine t_new (by omega) (by omega) (fun b45 vb τ1 g1 g2 => ?_)
  obtain ⟨g2a, g2b⟩ := g2
  have l2 := dec_2 (x := x) (by omega)
  have ly2 : (ykb 2).length = 1 := by decide
  refine x_appk 60 (by omega) g1.2.2.1 (by simp [ly2]) (by omega) (by omega) (by simp [ly2]) (fun τ2 vb2 h2 x2 y2 => ?_)
  obtain ⟨y2a, y2b⟩ := y2
  have g2' := g1.ex h2 x2
  have hT32 : tab3 τ2.1 b8 e g nM nw m j := by
    obtain ⟨cb, ce, w1, w2, w3, w4, w5, w6⟩ := hT3b
    exact ⟨cb, ce, g2'.at w1, w2, w3, w4, g2'.at w5, w6⟩
  refine hT32.rd hm hj (heb.tb g2') hta (w_aI (c := (0, many, upd V k (nI x), R0)) (n := k) (g2'.at eg) (Eq.refl _) (Eq.refl _) ⟨hk.1, by show many < 2 ^ 31; omega⟩ (show upd V k (nI x) k = nI x from upd_s _ _ _) ?_)
  refine x_appn 60 (Eq.refl _) (by omega) hN g2'.2.2.1 (by simp [ly2]) (by omega) (by omega) (by simp [ly2]) (fun τ3 vb3 h3 x3 y3 => ?_)
  obtain ⟨y3a, y3b⟩ := y3
  have g3 := g2'.ex h3 x3
  have hln : (s ++ rnd (remT (wqPc w) 0 k)).length ≤ 392 := by rw [List.length_append]; omega
  refine g3.put (f := fun _ τ4 => xd_lt (nI k + 1) fun v10_147 => (k162 t v2 v3 a (nI m) v6 (nI j) v8 (nI many) v10_147 τ4)) 8 800 hsbb (by simp [ly2]; omega) (by omega) (by omega) (by simp [ly2]; omega) (by simp [ly2]; omega) (fun τ9 v9 a1 a2 a3 => ?_)
  obtain ⟨a3a, a3b⟩ := a3
  obtain ⟨e9, hv9⟩ := heb.ex ha hv a2
  refine w_lt (nI_add k 1) (hK τ9 ⟨v9, fun l => if l = k then x else w l, upd V k (nI x), e9, ?_, ?_, hv9, a2.at hsbb eg (by show (0 : Nat) ≠ 15; decide) (by show (0 : Nat) ≠ 1; decide), fun q hq => ?_, hkb.trans (fun y cy q1 q2 q3 q4 => a2.at hsbb q1 q3 q4), a2.2.2.1.trans (f2.trans hI), by omega, by omega⟩)
  · rw [wq_snoc, ← List.append_assoc]
    exact a1
  · rw [wq_snoc, List.length_append, List.length_append]
    omega
  · dsimp only
    by_cases e : q = k
    · rw [if_pos e, e]
      exact ⟨by omega, upd_s _ _ _⟩
    · rw [if_neg e, upd_n _ _ e]
      exact hV q (by omega)
end
