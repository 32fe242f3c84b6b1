-- ===== a builder apart from what stood =====
/-- since σ0 nothing that stood has changed, and the builder b with its array v is new -/
def tb (σ0 τ : xd_S) (b v : Nat) (s : List Nat) : Prop := (∀ x, σ0.1 x ≠ none → τ.1 x = σ0.1 x) ∧ τ.2.1 = σ0.2.1 ∧ sbT τ.1 b v s s.length ∧ σ0.1 b = none ∧ σ0.1 v = none
/-- how much may be made yet -/
def bg (τ τ' : xd_S) (c q : Nat) : Prop := τ'.2.2.1 + c = τ.2.2.1 ∧ τ'.2.2.2 + q = τ.2.2.2
theorem bg.mk {τ : xd_S} {M : xd_M} {I : xc_M} {c q : Nat} (h1 : c ≤ τ.2.2.1) (h2 : q ≤ τ.2.2.2) : bg τ (M, I, τ.2.2.1 - c, τ.2.2.2 - q) c q := ⟨Nat.sub_add_cancel h1, Nat.sub_add_cancel h2⟩
section
variable {σ τ ρ σ0 : xd_S} {a v v' b w k x N : Nat} {s t : List Nat}
theorem tb.ex {τ' : xd_S} {s2 : List Nat} (h : tb σ0 τ b v s) (h2 : sbT τ'.1 b v' s2 s2.length) (hx : exB τ b v τ' v') : tb σ0 τ' b v' s2 := by
  obtain ⟨h1, h3, h4, h5, h6⟩ := h
  obtain ⟨x1, x2, x3, x4⟩ := hx
  refine ⟨fun x hx0 => ?_, x3.trans h3, h2, h5, ?_⟩
  · have e := h1 x hx0
    rw [← e]
    exact x1 x (fun z => hx0 (by rw [z]; exact h5)) (fun z => hx0 (by rw [z]; exact h6)) (by rw [e]; exact hx0)
  · rcases x4 with q | q
    · rw [q]
      exact h6
    · exact Classical.byContradiction fun z => z (by rw [← h1 v' z]; exact q)
theorem t_new {f : Nat → xd_S → Prop} (hC : 2 ≤ σ.2.2.1) (hS : 20 ≤ σ.2.2.2) (hf : ∀ b v τ, tb σ τ b v [] → bg σ τ 2 20 → f b τ) : xd_nw (15, 0, fun _ => 0, fun _ => none) 4 σ (fun b τ2 => xd_ca (fun τ K => hJ4_init_da8c8 b τ K) τ2 (fun _ _ τ3 => f b τ3)) := by
  refine ⟨by omega, by omega, fun b hb => ?_⟩
  refine w_cc 1 16 (by show 1 ≤ σ.2.2.1 - 1; omega) (by show 16 ≤ σ.2.2.2 - 4; omega) (w_newsb (xu_s _ _ _) (Nat.le_refl _) (Nat.le_refl _) (fun τ v h1 h2 h3 h4 => ?_))
  have hx : ∀ x, σ.1 x ≠ none → x ≠ b := fun x hx e => hx (by rw [e]; exact hb)
  have hvb : v ≠ b := fun e => by
    have h2' : xd_up σ.1 b (15, 0, fun _ => 0, fun _ => none) v = none := h2
    rw [e, xu_s] at h2'
    exact nomatch h2'
  refine hf b v _ ⟨fun x h0 => ?_, h4, h1, hb, (xu_n _ _ hvb).symm.trans h2⟩ ⟨?_, ?_⟩
  · exact (h3 x (hx x h0) (by show xd_up σ.1 b _ x ≠ none; rw [xu_n _ _ (hx x h0)]; exact h0)).trans (xu_n _ _ (hx x h0))
  · show σ.2.2.1 - 1 - 1 + 2 = σ.2.2.1
    omega
  · show σ.2.2.2 - 4 - 16 + 20 = σ.2.2.2
    omega
theorem sbT.is {M : xd_M} {L : Nat} (h : sbT M b v s L) : ∃ c : xd_C, M b = some c ∧ c.1 = 15 := by
  obtain ⟨c, cv, ⟨c1, c2, -⟩, -⟩ := h
  exact ⟨c, c1, c2⟩
/-- at any builder -/
theorem x_appk {f : Nat → xd_S → Prop} (Q : Nat) (hk : k < 19) (h : sbT τ.1 b v s s.length) (hm : s.length + (ykb k).length < 4000) (hC : 1 ≤ τ.2.2.1) (hS : Q ≤ τ.2.2.2) (hQ : 2 * (s.length + (ykb k).length) ≤ Q) (hf : ∀ τ' v', sbT τ'.1 b v' (s ++ ykb k) (s ++ ykb k).length → exB τ b v τ' v' → bg τ τ' 1 Q → f b τ') : xd_is 15 b τ (xd_ca (fun τ K => hJ4_append_15ec4_k b k τ K) τ (fun _ r2 τ1 => xd_nn r2 fun b3 => f b3 τ1)) := by
  obtain ⟨c, c1, c2⟩ := h.is
  refine w_is c1 c2 (w_cc 1 Q hC hS (w_appk (σ := (τ.1, τ.2.1, 1, Q)) hk h hm (Nat.le_refl _) (Nat.le_refl _) hQ (fun τ' v' h1 h2 => ?_)))
  show xd_nn (some b) _
  exact w_nn (hf _ v' h1 h2.b0.b (bg.mk hC hS))
theorem x_appn {f : Nat → xd_S → Prop} {y : Int32} (Q : Nat) (hy : y = nI x) (hx : x < 1000) (hN : 100 ≤ N) (h : sbT τ.1 b v s s.length) (hm : s.length < 3900) (hC : 1 ≤ τ.2.2.1) (hS : Q ≤ τ.2.2.2) (hQ : 2 * (s.length + 3) ≤ Q) (hf : ∀ τ' v', sbT τ'.1 b v' (s ++ dec x) (s ++ dec x).length → exB τ b v τ' v' → bg τ τ' 1 Q → f b τ') : xd_is 15 b τ (xd_ca (fun τ K => hJ4_append_bf812 N b y τ K) τ (fun _ r2 τ1 => xd_nn r2 fun b3 => f b3 τ1)) := by
  subst hy
  obtain ⟨c, c1, c2⟩ := h.is
  refine w_is c1 c2 (w_cc 1 Q hC hS (w_appn (σ := (τ.1, τ.2.1, 1, Q)) hx hN h hm (Nat.le_refl _) (Nat.le_refl _) hQ (fun τ' v' h1 h2 => ?_)))
  show xd_nn (some b) _
  exact w_nn (hf _ v' h1 h2.b0.b (bg.mk hC hS))
theorem x_apps {f : Nat → xd_S → Prop} {a' : Nat} (Q : Nat) (ht : stT τ.1 a' w t) (hwv : w ≠ v) (h : sbT τ.1 b v s s.length) (hm : s.length + t.length < 3900) (hC : 1 ≤ τ.2.2.1) (hS : Q ≤ τ.2.2.2) (hQ : 2 * (s.length + t.length) ≤ Q) (hf : ∀ τ' v', sbT τ'.1 b v' (s ++ t) (s ++ t).length → exB τ b v τ' v' → bg τ τ' 1 Q → f b τ') : xd_is 15 b τ (xd_ca (fun τ K => hJ4_append_15ec4_d b a' τ K) τ (fun _ r2 τ1 => xd_nn r2 fun b3 => f b3 τ1)) := by
  obtain ⟨c, c1, c2⟩ := h.is
  refine w_is c1 c2 (w_cc 1 Q hC hS (w_apps (σ := (τ.1, τ.2.1, 1, Q)) ht hwv h hm (Nat.le_refl _) (Nat.le_refl _) hQ (fun τ' v' h1 h2 => ?_)))
  show xd_nn (some b) _
  exact w_nn (hf _ v' h1 h2.b0.b (bg.mk hC hS))
theorem x_str {f : Nat → xd_S → Prop} (Q : Nat) (h : sbT τ.1 b v s s.length) (hm : s.length < 3900) (hC : 2 ≤ τ.2.2.1) (hS : Q + 4 ≤ τ.2.2.2) (hQ : s.length ≤ Q) (hf : ∀ τ' a' w, stT τ'.1 a' w s → τ.1 a' = none → τ.1 w = none → (∀ x, τ.1 x ≠ none → τ'.1 x = τ.1 x) → τ'.2.1 = τ.2.1 → bg τ τ' 2 (Q + 4) → f a' τ') : xd_is 15 b τ (xd_ca (fun τ K => hJ4_toString_0e30d b τ K) τ (fun _ r2 τ1 => xd_nn r2 fun b3 => f b3 τ1)) := by
  obtain ⟨c, c1, c2⟩ := h.is
  refine w_is c1 c2 (w_cc 2 (Q + 4) hC hS (w_str (σ := (τ.1, τ.2.1, 2, Q + 4)) h hm (Nat.le_refl _) (Nat.le_refl _) hQ (fun τ' a' w h1 h2 h3 h4 h5 => ?_)))
  show xd_nn (some a') _
  exact w_nn (hf _ a' w h1 h2 h3 h4 h5 (bg.mk hC hS))
/-- a builder apart is made a string and put behind the text of the builder a, that stood -/
theorem tb.put {f : Nat → xd_S → Prop} {M : List Nat} (Q1 Q2 : Nat) (h : tb σ0 τ b v s) (ha : sbT σ0.1 a v' M M.length) (hm : M.length + s.length < 3900) (hC : 3 ≤ τ.2.2.1) (hS : Q1 + 4 + Q2 ≤ τ.2.2.2) (hQ1 : s.length ≤ Q1) (hQ2 : 2 * (M.length + s.length) ≤ Q2) (hf : ∀ τ' v2, sbT τ'.1 a v2 (M ++ s) (M ++ s).length → exB σ0 a v' τ' v2 → bg τ τ' 3 (Q1 + 4 + Q2) → f a τ') : xd_is 15 b τ (xd_ca (fun τ K => hJ4_toString_0e30d b τ K) τ (fun _ r2 τ1 => xd_nn r2 fun b3 => xd_is 15 a τ1 (xd_ca (fun τ K => hJ4_append_15ec4_d a b3 τ K) τ1 (fun _ r5 τ4 => xd_nn r5 fun b6 => f b6 τ4)))) := by
  obtain ⟨h1, h2, h3, h4, h5⟩ := h
  refine x_str Q1 h3 (by omega) (by omega) (by omega) hQ1 (fun τ1 a' w g1 g2 g3 g4 g5 g6 => ?_)
  obtain ⟨c, cv, ⟨c1, c2, c3, c4, c5⟩, v1, v2⟩ := id ha
  have n0 : ∀ x, σ0.1 x ≠ none → τ1.1 x = σ0.1 x := fun x hx => (g4 x (by rw [h1 x hx]; exact hx)).trans (h1 x hx)
  have ha1 : sbT τ1.1 a v' M M.length := ⟨c, cv, ⟨(n0 a (nsome c1)).trans c1, c2, c3, c4, c5⟩, (n0 v' (nsome v1)).trans v1, v2⟩
  have hw0 : σ0.1 w = none := Classical.byContradiction fun z => z (by rw [← h1 w z]; exact g3)
  have hwv : w ≠ v' := fun e => by rw [e, v1] at hw0; exact nomatch hw0
  obtain ⟨b1, b2⟩ := g6
  refine x_apps Q2 g1 hwv ha1 hm (by omega) (by omega) hQ2 (fun τ2 v2' k1 k2 k3 => ?_)
  obtain ⟨b3, b4⟩ := k3
  refine hf τ2 v2' k1 ⟨fun x x1 x2 x3 => ?_, fun x x3 => ?_, k2.2.2.1.trans (g5.trans h2), ?_⟩ ⟨by omega, by omega⟩
  · rw [k2.1 x x1 x2 (by rw [n0 x x3]; exact x3), n0 x x3]
  · exact k2.2.1 x (by rw [n0 x x3]; exact x3)
  · rcases k2.2.2.2 with q | q
    · exact Or.inl q
    · exact Or.inr (Classical.byContradiction fun z => z (by rw [← n0 v2' z]; exact q))
/-- a builder's changes leave other cells -/
theorem exB.at {τ' : xd_S} {c : xd_C} {L : Nat} (h : exB τ b v τ' v') (hb : sbT τ.1 b v s L) (hx : τ.1 x = some c) (h15 : c.1 ≠ 15) (h1 : c.1 ≠ 1) : τ'.1 x = some c := by
  obtain ⟨cb, cv, ⟨c1, c2, -⟩, v1, v2, -⟩ := hb
  refine (h.1 x (fun e => ?_) (fun e => ?_) (nsome hx)).trans hx
  · rw [e, c1] at hx
    exact h15 (by rw [← Option.some.inj hx]; exact c2)
  · rw [e, v1] at hx
    exact h1 (by rw [← Option.some.inj hx]; exact v2)
end
-- ===== the talk beside a builder =====
section
variable {σ τ ρ : xd_S} {fr : xd_M} {tg : lTg} {i t : Nat} {d : lD} {ta : Nat → Option Nat} {X : lX} {a v v' : Nat}
/-- since σ only the talk's own cells have changed, and new ones were made -/
def env (σ : xd_S) (fr : xd_M) (tg : lTg) (i t : Nat) (d : lD) (ta : Nat → Option Nat) (X : lX) (τ : xd_S) : Prop := tG τ fr tg i t d ta X ∧ gI σ.1 fr tg ∧ (∀ x, (tg x).1 ≠ i → σ.1 x ≠ none → τ.1 x = σ.1 x) ∧ ∀ x, σ.1 x ≠ none → τ.1 x ≠ none
theorem env.of (h : tG σ fr tg i t d ta X) : env σ fr tg i t d ta X σ := ⟨h, h.2.1, fun _ _ _ => Eq.refl _, fun _ h => h⟩
theorem env.b (h : env σ fr tg i t d ta X τ) {x y : Nat} {I : xc_M} : env σ fr tg i t d ta X (τ.1, I, x, y) := h
theorem env.t0 (h : env σ fr tg i t d ta X τ) {x : Nat} (hx : σ.1 x = none) : (tg x).1 = 0 ∧ fr x = none := by
  refine ⟨h.2.1.tag0 hx, ?_⟩
  cases hf : fr x with
  | none => rfl
  | some c =>
    have := (h.2.1.1 x c hf).1
    rw [hx] at this
    exact nomatch this
theorem env.nn (h : env σ fr tg i t d ta X τ) {x : Nat} (hx : τ.1 x = none) : σ.1 x = none := Classical.byContradiction fun z => h.2.2.2 x z hx
/-- cells that are new since σ may change as they like -/
theorem env.new {τ' : xd_S} (h : env σ fr tg i t d ta X τ) (h1 : ∀ x, σ.1 x ≠ none → τ'.1 x = τ.1 x) : env σ fr tg i t d ta X τ' := by
  obtain ⟨⟨hi, hg, hT⟩, h2, h3, h4⟩ := id h
  have ht : ∀ x, (tg x).1 ≠ 0 → τ'.1 x = τ.1 x := fun x hx => h1 x (h2.2 x hx)
  refine ⟨⟨hi, ⟨fun x c hc => ?_, fun x hx => ?_⟩, hT.keep (fun x hx => ht x (by rw [hx]; exact hi)) (fun _ _ q => q)⟩, h2, fun x x1 x2 => (h1 x x2).trans (h3 x x1 x2), fun x x1 => by rw [h1 x x1]; exact h4 x x1⟩
  · obtain ⟨z1, z2⟩ := h2.1 x c hc
    exact ⟨(h1 x (nsome z1)).trans (hg.1 x c hc).1, z2⟩
  · rw [ht x hx]
    exact hg.2 x hx
theorem env.ex {τ' : xd_S} (h : env σ fr tg i t d ta X τ) (ha : σ.1 a = none) (hv : σ.1 v = none) (hx : exB τ a v τ' v') : env σ fr tg i t d ta X τ' ∧ σ.1 v' = none := by
  refine ⟨h.new (fun x x0 => hx.1 x (fun e => x0 (by rw [e]; exact ha)) (fun e => x0 (by rw [e]; exact hv)) (h.2.2.2 x x0)), ?_⟩
  rcases hx.2.2.2 with q | q
  · rw [q]
    exact hv
  · exact h.nn q
end
