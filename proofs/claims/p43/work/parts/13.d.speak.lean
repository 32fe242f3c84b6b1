-- ===== the law's talk and the room around it =====
def tG (σ : xd_S) (fr : xd_M) (tg : lTg) (i t : Nat) (d : lD) (ta : Nat → Option Nat) (X : lX) : Prop := i ≠ 0 ∧ gI σ.1 fr tg ∧ tT σ.1 fr tg i t d ta X
/-- from σ to τ: nothing of others is touched, nothing is lost, what is frozen stays so -/
def fwd (tg : lTg) (i : Nat) (σ : xd_S) (fr : xd_M) (τ : xd_S) (fr2 : xd_M) : Prop := (∀ a, (tg a).1 ≠ i → σ.1 a ≠ none → τ.1 a = σ.1 a) ∧ (∀ a, σ.1 a ≠ none → τ.1 a ≠ none) ∧ (∀ a c, fr a = some c → fr2 a = some c) ∧ τ.2.1 = σ.2.1
section
variable {σ τ ρ : xd_S} {fr fr2 fr3 : xd_M} {tg : lTg} {i t : Nat} {d : lD} {ta : Nat → Option Nat} {X X2 : lX} {j k p : Nat} {v v2 : Int32} {w w2 : Nat → Int32} {N : Nat} {K : xd_K}
theorem fwd.rfl : fwd tg i σ fr σ fr := ⟨fun _ _ _ => Eq.refl _, fun _ h => h, fun _ _ h => h, Eq.refl _⟩
theorem fwd.trans (h : fwd tg i σ fr τ fr2) (g : fwd tg i τ fr2 ρ fr3) : fwd tg i σ fr ρ fr3 := ⟨fun a h1 h2 => (g.1 a h1 (h.2.1 a h2)).trans (h.1 a h1 h2), fun a h1 => g.2.1 a (h.2.1 a h1), fun a c h1 => g.2.2.1 a c (h.2.2.1 a c h1), g.2.2.2.trans h.2.2.2⟩
theorem fwd.of (h : mvd tg i σ τ) (hn : ∀ a, σ.1 a ≠ none → τ.1 a ≠ none) : fwd tg i σ fr τ fr := ⟨fun a h1 _ => h.2 a h1, hn, fun _ _ q => q, by rw [h.1]⟩
theorem tG.T (h : tG σ fr tg i t d ta X) : tT σ.1 fr tg i t d ta X := h.2.2
theorem tG.mv (h : tG σ fr tg i t d ta X) (hm : mvd tg i σ τ) (hn : ∀ a, σ.1 a ≠ none → τ.1 a ≠ none) (ht : tT τ.1 fr tg i t d ta X2) : tG τ fr tg i t d ta X2 := ⟨h.1, h.2.1.mv h.1 hm.2 (fun a ha => hn a (h.2.1.2 a (by rw [ha]; exact h.1))), ht⟩
theorem g_wS {f : xd_S → Prop} (h : tG σ fr tg i t d ta X) (hk : k < X.2.2.2.2.1) {u : Int32} (hv : v = nI j) (hj : j < 5) (hu : u = v2) (hf : ∀ τ, τ.2 = σ.2 → fwd tg i σ fr τ fr → tG τ fr tg i t d ta (X.1, up2 X.2.1 k j v2, X.2.2) → f τ) : xd_sI 0 (d.2.1 k) v u σ f :=
  t_wS h.2.2 hk hv hj hu (fun τ h1 h2 h3 => hf τ h1.1 (fwd.of h1 h2) (h.mv h1 h2 h3))
theorem g_mS {f : xd_S → Prop} (h : tG σ fr tg i t d ta X) (hk : k < X.2.2.2.2.2.1) {u : Int32} (hv : v = nI j) (hj : j < 3) (hu : u = v2) (hf : ∀ τ, τ.2 = σ.2 → fwd tg i σ fr τ fr → tG τ fr tg i t d ta (X.1, X.2.1, up2 X.2.2.1 k j v2, X.2.2.2) → f τ) : xd_sI 0 (d.2.2 k) v u σ f :=
  t_mS h.2.2 hk hv hj hu (fun τ h1 h2 h3 => hf τ h1.1 (fwd.of h1 h2) (h.mv h1 h2 h3))
theorem g_pI {f : xd_S → Prop} (h : tG σ fr tg i t d ta X) {u : Int32} (hu : u = v2) (hf : ∀ τ, τ.2 = σ.2 → fwd tg i σ fr τ fr → tG τ fr tg i t d ta (upd X.1 j v2, X.2) → f τ) : xd_pI 14 t j u σ f :=
  t_pI h.2.2 hu (fun τ h1 h2 h3 => hf τ h1.1 (fwd.of h1 h2) (h.mv h1 h2 h3))
-- ===== the row, written =====
theorem XW.row {W M : Nat → Nat → Int32} (h : XW X w) (hb : ∀ j, j = 0 ∨ j = 1 ∨ j = 2 ∨ 62 ≤ j → w2 j = w j) (hW : ∀ k, k < xr w 62 → W k 0 = w (70 + k) ∧ W k 1 = w2 (4 + k) ∧ W k 2 = nI ((xr w2 3).testBit k).toNat ∧ W k 3 = w2 (18 + k) ∧ W k 4 = w (84 + k)) (hM : ∀ p, p < xr w 63 → M p 0 = w2 (32 + p) ∧ M p 1 = w2 (42 + p) ∧ M p 2 = w2 (52 + p)) : XW (X.1, W, M, X.2.2.2) w2 := by
  have e62 : xr w2 62 = xr w 62 := xr_eq (hb 62 (by omega))
  have e63 : xr w2 63 = xr w 63 := xr_eq (hb 63 (by omega))
  have e2 : xr w2 2 = xr w 2 := xr_eq (hb 2 (by omega))
  unfold XW
  rw [e62, e63, e2, hb 0 (by omega), hb 1 (by omega), hb 2 (by omega), hb 62 (by omega), hb 63 (by omega), hb 64 (by omega)]
  refine ⟨h.state, h.day, h.chat, h.nw, h.np, h.nl, h.nW, h.nP, h.nL, fun k hk => ?_, hM, fun j hj q hq => (h.line hj hq).trans (hb _ (by omega)).symm⟩
  obtain ⟨a1, a2, a3, a4, a5⟩ := hW k hk
  exact ⟨a1.trans (hb _ (by omega)).symm, a2, a3, a4, a5.trans (hb _ (by omega)).symm⟩
theorem XW.wds (h : XW X w) : ∀ k, k < xr w 62 → X.2.1 k 0 = w (70 + k) ∧ X.2.1 k 1 = w (4 + k) ∧ X.2.1 k 2 = nI ((xr w 3).testBit k).toNat ∧ X.2.1 k 3 = w (18 + k) ∧ X.2.1 k 4 = w (84 + k) := h.2.2.2.2.2.2.2.2.2.1
theorem XW.mns (h : XW X w) : ∀ p, p < xr w 63 → X.2.2.1 p 0 = w (32 + p) ∧ X.2.2.1 p 1 = w (42 + p) ∧ X.2.2.1 p 2 = w (52 + p) := h.2.2.2.2.2.2.2.2.2.2.1
theorem XW.uU (h : XW X w) (hi : iW w) (hk : k < xr w 62) : XW (X.1, up2 X.2.1 k 1 v, X.2.2) (upd w (4 + k) v) := by
  have hW := hi.nWB
  have hP := hi.nPB
  have e : ∀ j, j ≠ 4 + k → upd w (4 + k) v j = w j := fun j hj => upd_n _ _ hj
  refine h.row (fun j hj => e j (by omega)) (fun q hq => ?_) (fun q hq => ?_)
  · rw [e (18 + q) (by omega), xr_eq (e 3 (by omega))]
    obtain ⟨a1, a2, a3, a4, a5⟩ := h.wds q hq
    refine ⟨by simpa [up2] using a1, ?_, by simpa [up2] using a3, by simpa [up2] using a4, by simpa [up2] using a5⟩
    by_cases eq : q = k
    · subst eq
      simp [up2, upd]
    · rw [e _ (by omega)]
      simpa [up2, eq] using a2
  · rw [e _ (by omega), e _ (by omega), e _ (by omega)]
    exact h.mns q hq
theorem XW.uS (h : XW X w) (hi : iW w) (hk : k < xr w 62) : XW (X.1, up2 X.2.1 k 3 v, X.2.2) (upd w (18 + k) v) := by
  have hW := hi.nWB
  have hP := hi.nPB
  have e : ∀ j, j ≠ 18 + k → upd w (18 + k) v j = w j := fun j hj => upd_n _ _ hj
  refine h.row (fun j hj => e j (by omega)) (fun q hq => ?_) (fun q hq => ?_)
  · rw [e (4 + q) (by omega), xr_eq (e 3 (by omega))]
    obtain ⟨a1, a2, a3, a4, a5⟩ := h.wds q hq
    refine ⟨by simpa [up2] using a1, by simpa [up2] using a2, by simpa [up2] using a3, ?_, by simpa [up2] using a5⟩
    by_cases eq : q = k
    · subst eq
      simp [up2, upd]
    · rw [e _ (by omega)]
      simpa [up2, eq] using a4
  · rw [e _ (by omega), e _ (by omega), e _ (by omega)]
    exact h.mns q hq
theorem XW.uL {m : Nat} (h : XW X w) (hi : iW w) (hm : ∀ q, q < xr w 62 → q ≠ k → m.testBit q = (xr w 3).testBit q) (hv : v = nI (m.testBit k).toNat) (hmb : m < 2 ^ 31) : XW (X.1, up2 X.2.1 k 2 v, X.2.2) (upd w 3 (nI m)) := by
  have hW := hi.nWB
  have hP := hi.nPB
  have e : ∀ j, j ≠ 3 → upd w 3 (nI m) j = w j := fun j hj => upd_n _ _ hj
  have e3 : xr (upd w 3 (nI m)) 3 = m := by
    unfold xr
    rw [upd_s, nI_clamp hmb]
  refine h.row (fun j hj => e j (by omega)) (fun q hq => ?_) (fun q hq => ?_)
  · rw [e (4 + q) (by omega), e (18 + q) (by omega), e3]
    obtain ⟨a1, a2, a3, a4, a5⟩ := h.wds q hq
    refine ⟨by simpa [up2] using a1, by simpa [up2] using a2, ?_, by simpa [up2] using a4, by simpa [up2] using a5⟩
    by_cases eq : q = k
    · subst eq
      simpa [up2] using hv
    · rw [hm q hq eq]
      simpa [up2, eq] using a3
  · rw [e _ (by omega), e _ (by omega), e _ (by omega)]
    exact h.mns q hq
theorem XW.uM (h : XW X w) (hi : iW w) (hp : p < xr w 63) (hj : j < 3) : XW (X.1, X.2.1, up2 X.2.2.1 p j v, X.2.2.2) (upd w (32 + 10 * j + p) v) := by
  have hW := hi.nWB
  have hP := hi.nPB
  have e : ∀ q, q ≠ 32 + 10 * j + p → upd w (32 + 10 * j + p) v q = w q := fun q hq => upd_n _ _ hq
  refine h.row (fun j hj => e j (by omega)) (fun q hq => ?_) (fun q hq => ?_)
  · rw [e (4 + q) (by omega), e (18 + q) (by omega), xr_eq (e 3 (by omega))]
    exact h.wds q hq
  · obtain ⟨a1, a2, a3⟩ := h.mns q hq
    have b1 : upd w (32 + 10 * j + p) v (32 + q) = if q = p ∧ 0 = j then v else w (32 + q) := by
      by_cases c : q = p ∧ 0 = j
      · obtain ⟨rfl, rfl⟩ := c
        simp [upd]
      · rw [if_neg c, e _ (by omega)]
    have b2 : upd w (32 + 10 * j + p) v (42 + q) = if q = p ∧ 1 = j then v else w (42 + q) := by
      by_cases c : q = p ∧ 1 = j
      · obtain ⟨rfl, rfl⟩ := c
        simp [upd]
      · rw [if_neg c, e _ (by omega)]
    have b3 : upd w (32 + 10 * j + p) v (52 + q) = if q = p ∧ 2 = j then v else w (52 + q) := by
      by_cases c : q = p ∧ 2 = j
      · obtain ⟨rfl, rfl⟩ := c
        simp [upd]
      · rw [if_neg c, e _ (by omega)]
    rw [b1, b2, b3]
    unfold up2
    refine ⟨?_, ?_, ?_⟩
    · split
      · rfl
      · exact a1
    · split
      · rfl
      · exact a2
    · split
      · rfl
      · exact a3
theorem XW.num (h : XW X w) (hi : iW w) {q : Nat} (hq : (j = 0 ∧ q = 1) ∨ (j = 1 ∧ q = 0) ∨ (j = 2 ∧ q = 64)) : XW (upd X.1 j v, X.2) (upd w q v) := by
  have hW := hi.nWB
  have hP := hi.nPB
  have e : ∀ i, i ≠ q → upd w q v i = w i := fun i hi => upd_n _ _ hi
  have e62 : xr (upd w q v) 62 = xr w 62 := xr_eq (e 62 (by omega))
  have e63 : xr (upd w q v) 63 = xr w 63 := xr_eq (e 63 (by omega))
  have e2 : xr (upd w q v) 2 = xr w 2 := xr_eq (e 2 (by omega))
  have e3 : xr (upd w q v) 3 = xr w 3 := xr_eq (e 3 (by omega))
  unfold XW
  rw [e62, e63, e2, e3, e 2 (by omega), e 62 (by omega), e 63 (by omega)]
  refine ⟨?_, ?_, ?_, ?_, ?_, ?_, h.nW, h.nP, h.nL, fun k hk => ?_, fun p hp => ?_, fun b hb r hr => (h.line hb hr).trans (e _ (by omega)).symm⟩
  · rcases hq with ⟨rfl, rfl⟩ | ⟨rfl, rfl⟩ | ⟨rfl, rfl⟩ <;> simpa [upd] using h.state
  · rcases hq with ⟨rfl, rfl⟩ | ⟨rfl, rfl⟩ | ⟨rfl, rfl⟩ <;> simpa [upd] using h.day
  · rcases hq with ⟨rfl, rfl⟩ | ⟨rfl, rfl⟩ | ⟨rfl, rfl⟩ <;> simpa [upd] using h.chat
  · show upd X.1 j v 3 = _
    rw [upd_n _ _ (by omega)]
    exact h.nw
  · show upd X.1 j v 4 = _
    rw [upd_n _ _ (by omega)]
    exact h.np
  · show upd X.1 j v 5 = _
    rw [upd_n _ _ (by omega)]
    exact h.nl
  · rw [e _ (by omega), e _ (by omega), e _ (by omega), e _ (by omega)]
    exact h.wds k hk
  · rw [e _ (by omega), e _ (by omega), e _ (by omega)]
    exact h.mns p hp
-- ===== a line of the book =====
theorem XW.nt {a b c : Int32} (h : XW X w) (hi : iW w) (hn : xr w 2 ≠ 150) : XW (upd X.1 5 (nI (xr w 2 + 1)), X.2.1, X.2.2.1, (fun l q => if l = xr w 2 then (if q = 0 then w 0 else if q = 1 then a else if q = 2 then b else c) else X.2.2.2.1 l q), X.2.2.2.2.1, X.2.2.2.2.2.1, xr w 2 + 1) (ntw w a b c) := by
  have hW := hi.nWB
  have hP := hi.nPB
  have hB := hi.bookB
  have e : ∀ j, j ≠ 2 → j < 748 → ntw w a b c j = w j := fun j h1 h2 => ntw_o h1 (by omega)
  have v2 : ntw w a b c 2 = nI (xr w 2 + 1) := by
    unfold ntw
    rw [if_neg hn, if_neg (by omega), if_neg (by omega), if_neg (by omega), if_neg (by omega), if_pos rfl]
  have e2 : xr (ntw w a b c) 2 = xr w 2 + 1 := by
    unfold xr
    rw [v2, nI_clamp (by omega)]
    rfl
  have e62 : xr (ntw w a b c) 62 = xr w 62 := xr_eq (e 62 (by omega) (by omega))
  have e63 : xr (ntw w a b c) 63 = xr w 63 := xr_eq (e 63 (by omega) (by omega))
  have e3 : xr (ntw w a b c) 3 = xr w 3 := xr_eq (e 3 (by omega) (by omega))
  unfold XW
  rw [e62, e63, e2, v2, e3, e 0 (by omega) (by omega), e 1 (by omega) (by omega), e 64 (by omega) (by omega), e 62 (by omega) (by omega), e 63 (by omega) (by omega)]
  refine ⟨?_, ?_, ?_, ?_, ?_, by simp [upd], h.nW, h.nP, rfl, fun k hk => ?_, fun p hp => ?_, fun l hl q hq => ?_⟩
  · simpa [upd] using h.state
  · simpa [upd] using h.day
  · simpa [upd] using h.chat
  · simpa [upd] using h.nw
  · simpa [upd] using h.np
  · rw [e _ (by omega) (by omega), e _ (by omega) (by omega), e _ (by omega) (by omega), e _ (by omega) (by omega)]
    exact h.wds k hk
  · rw [e _ (by omega) (by omega), e _ (by omega) (by omega), e _ (by omega) (by omega)]
    exact h.mns p hp
  · by_cases hl2 : l = xr w 2
    · subst hl2
      show (if xr w 2 = xr w 2 then _ else _) = _
      rw [if_pos rfl]
      unfold ntw
      rw [if_neg hn]
      have : q = 0 ∨ q = 1 ∨ q = 2 ∨ q = 3 := by omega
      rcases this with rfl | rfl | rfl | rfl
      · simp
      · simp
      · simp
      · simp
    · show (if l = xr w 2 then _ else _) = _
      rw [if_neg hl2, h.line (by omega) hq, ntw_o (by omega) (by omega)]
/-- a write into a cell just made -/
theorem w_sU {M : xd_M} {s : xc_M × Nat × Nat} {b n : Nat} {c : xd_C} {u : Int32} {f : xd_S → Prop} (hk : c.1 = 0) (hv : v = nI n) (hn : n < c.2.1 ∧ c.2.1 < 2 ^ 31) (hu : u = v2) (h : f (xd_up M b (0, c.2.1, upd c.2.2.1 n v2, c.2.2.2), s)) : xd_sI 0 b v u (xd_up M b c, s) f := by
  refine w_sI (xu_s _ _ _) hk hv hn hu ?_
  have e : xd_up (xd_up M b c) b (0, c.2.1, upd c.2.2.1 n v2, c.2.2.2) = xd_up M b (0, c.2.1, upd c.2.2.1 n v2, c.2.2.2) := by
    funext a
    by_cases ha : a = b <;> simp [xd_up, ha]
  show f (xd_up (xd_up M b c) b _, s)
  rw [e]
  exact h
theorem w_notes {a b c v4 : Int32} (h : tG σ fr tg i t d ta X) (hw : XW X w) (hi : iW w) (h4 : v4 = 1) (hc : 1 ≤ σ.2.2.1) (hs : 4 ≤ σ.2.2.2) (hK : ∀ τ fr2 X2, fwd tg i σ fr τ fr2 → tG τ fr2 tg i t d ta X2 → XW X2 (ntw w a b c) → K 0 none τ) : hX10_notes t a b c v4 σ K := by
  have hB := hi.bookB
  obtain ⟨hi0, hg, hT⟩ := id h
  unfold hX10_notes
  refine w_f (by rw [h4]; decide) ?_
  refine t_gI hT (by omega) ?_
  rw [hw.nl, hi.book]
  by_cases hn : xr w 2 = 150
  · refine w_t (by rw [hn]; decide) (hK σ fr X fwd.rfl h ?_)
    unfold ntw
    rw [if_pos hn]
    exact hw
  · refine w_f (by rw [show (150 : Int32) = nI 150 from rfl, xp_le (by omega) (by omega)]; omega) ?_
    refine t_g12 hT (t_gI hT (by omega) ?_)
    rw [hw.nl, hi.book]
    refine g_pI h (v2 := nI (xr w 2 + 1)) (nI_succ _).symm (fun σ1 q1 q2 h1 => ?_)
    obtain ⟨-, hg1, hT1⟩ := id h1
    refine ⟨by decide, by decide, by rw [q1]; exact hc, by rw [q1]; exact hs, fun b0 hb0 => ?_⟩
    have tb0 : (tg b0).1 = 0 := Classical.byContradiction fun z => hg1.2 b0 z hb0
    have hT2 : ∀ c2, tT (xd_up σ1.1 b0 c2) fr tg i t d ta (upd X.1 5 (nI (xr w 2 + 1)), X.2) := fun c2 => hT1.keep (fun z hz => xu_n _ _ (by intro e; rw [e] at hz; rw [tb0] at hz; exact hi0 hz.symm)) (fun _ _ q => q)
    refine t_gI (σ := (xd_up σ1.1 b0 (0, nI 4 |>.toNatClampNeg, fun _ => 0, fun _ => none), σ1.2.1, σ1.2.2.1 - 1, σ1.2.2.2 - 4)) (hT2 _) (j := 1) (by omega) ?_
    have e1 : upd X.1 5 (nI (xr w 2 + 1)) 1 = w 0 := by rw [upd_n _ _ (by omega)]; exact hw.day
    show xd_sI 0 b0 0 (upd X.1 5 (nI (xr w 2 + 1)) 1) _ _
    rw [e1]
    refine w_sU rfl (n := 0) rfl ⟨by show 0 < Int32.toNatClampNeg 4; decide, by show Int32.toNatClampNeg 4 < 2 ^ 31; decide⟩ rfl ?_
    refine w_sU rfl (n := 1) rfl ⟨by show 1 < Int32.toNatClampNeg 4; decide, by show Int32.toNatClampNeg 4 < 2 ^ 31; decide⟩ rfl ?_
    refine w_sU rfl (n := 2) rfl ⟨by show 2 < Int32.toNatClampNeg 4; decide, by show Int32.toNatClampNeg 4 < 2 ^ 31; decide⟩ rfl ?_
    refine w_sU rfl (n := 3) rfl ⟨by show 3 < Int32.toNatClampNeg 4; decide, by show Int32.toNatClampNeg 4 < 2 ^ 31; decide⟩ rfl ?_
    obtain ⟨cl, l1, l2, l3, l4, l5⟩ := (hT2 (0, 4, upd (upd (upd (upd (fun _ => 0) 0 (w 0)) 1 a) 2 b) 3 c, fun _ => none)).2.2.2.1
    refine w_sR (n := xr w 2) l1 l2 (xu_s _ _ _) rfl rfl ⟨by omega, by omega⟩ ?_
    have hl0 : d.1.2.2 ≠ b0 := fun e => by rw [e] at l5; rw [l5] at tb0; exact hi0 tb0
    have hne : ∀ z, tg z ≠ (i, 3, 0) → z ≠ d.1.2.2 := fun z hz e => hz (by rw [e]; exact l5)
    generalize hrow : upd (upd (upd (upd (fun _ => (0 : Int32)) 0 (w 0)) 1 a) 2 b) 3 c = row at l1
    have hT3 := hT2 (0, 4, row, fun _ => none)
    have hM : ∀ z, z ≠ b0 → z ≠ d.1.2.2 → xd_up (xd_up σ1.1 b0 (0, 4, row, fun _ => none)) d.1.2.2 (2, cl.2.1, cl.2.2.1, va_up cl.2.2.2 (xr w 2) (some b0)) z = σ1.1 z := fun z z1 z2 => by rw [xu_n _ _ z2, xu_n _ _ z1]
    have hMf : ∀ z cz, fr z = some cz → xd_up (xd_up σ1.1 b0 (0, 4, row, fun _ => none)) d.1.2.2 (2, cl.2.1, cl.2.2.1, va_up cl.2.2.2 (xr w 2) (some b0)) z = some cz ∧ z ≠ b0 := fun z cz hz => by
      obtain ⟨f1, f2⟩ := hg1.1 z cz hz
      have z1 : z ≠ b0 := fun e => by rw [e, hb0] at f1; exact nomatch f1
      exact ⟨by rw [hM z z1 (hne z (by intro e; rw [e] at f2; exact hi0 f2))]; exact f1, z1⟩
    refine hK _ (xd_up fr b0 (0, 4, row, fun _ => none)) (upd X.1 5 (nI (xr w 2 + 1)), X.2.1, X.2.2.1, (fun l q => if l = xr w 2 then (if q = 0 then w 0 else if q = 1 then a else if q = 2 then b else c) else X.2.2.2.1 l q), X.2.2.2.2.1, X.2.2.2.2.2.1, xr w 2 + 1) (q2.trans ⟨fun z z1 z2 => ?_, fun z z1 => ?_, fun z cz hz => ?_, rfl⟩) ⟨hi0, ⟨fun z cz hz => ?_, fun z hz => ?_⟩, ?_⟩ (hw.nt hi hn)
    · exact hM z (fun e => z2 (by rw [e]; exact hb0)) (hne z (fun e => z1 (by rw [e])))
    · by_cases e : z = d.1.2.2
      · rw [e]
        simp [xd_up]
      · show xd_up (xd_up _ _ _) _ _ z ≠ none
        rw [xu_n _ _ e]
        by_cases e2 : z = b0
        · rw [e2]
          simp [xd_up]
        · rw [xu_n _ _ e2]
          exact z1
    · rw [xu_n _ _ (hMf z cz hz).2]
      exact hz
    · by_cases e : z = b0
      · rw [e, xu_s] at hz
        refine ⟨?_, by rw [e]; exact tb0⟩
        show xd_up (xd_up _ _ _) _ _ z = _
        rw [e, xu_n _ _ hl0.symm, xu_s]
        exact hz
      · rw [xu_n _ _ e] at hz
        exact ⟨(hMf z cz hz).1, (hg1.1 z cz hz).2⟩
    · have h2 := hg1.2 z hz
      by_cases e : z = d.1.2.2
      · show xd_up (xd_up _ _ _) _ _ z ≠ none
        rw [e]
        simp [xd_up]
      · exact fun hh => h2 ((hM z (fun e => h2 (by rw [e]; exact hb0)) e).symm.trans hh)
    · refine ⟨hT3.1.keep (xu_n _ _ (hne _ (by rw [hT1.tgO]; simp))), hT3.2.1.keep (xu_n _ _ (hne _ (by rw [hT1.tgA]; simp))), hT3.2.2.1.keep (xu_n _ _ (hne _ (by rw [hT1.tgB]; simp))), ?_, hT3.2.2.2.2.1.keep (fun k2 hk2 => xu_n _ _ (hne _ (by rw [hT1.tgW hk2]; simp))), hT3.2.2.2.2.2.keep (fun k2 hk2 => xu_n _ _ (hne _ (by rw [hT1.tgM hk2]; simp)))⟩
      refine ⟨_, xu_s _ _ _, rfl, l3, fun l hl => ?_, l5⟩
      have hl' : l < xr w 2 + 1 := hl
      by_cases e : l = xr w 2
      · refine ⟨b0, by simp [va_up, e], ⟨_, xu_s _ _ _, rfl, rfl, fun q hq => ?_⟩⟩
        show row q = if l = xr w 2 then _ else _
        rw [if_pos e, ← hrow]
        have : q = 0 ∨ q = 1 ∨ q = 2 ∨ q = 3 := by omega
        rcases this with rfl | rfl | rfl | rfl <;> simp [upd]
      · obtain ⟨b2, f1, f2⟩ := l4 l (by show l < X.2.2.2.2.2.2; rw [hw.nL]; omega)
        refine ⟨b2, by simpa [va_up, e] using f1, ?_⟩
        have f3 : frow fr b2 4 (fun q => if l = xr w 2 then (if q = 0 then w 0 else if q = 1 then a else if q = 2 then b else c) else X.2.2.2.1 l q) := by
          simp only [if_neg e]
          exact f2
        refine f3.mono (fun z cz hz => ?_)
        rw [xu_n _ _ (hMf z cz hz).2]
        exact hz
end
