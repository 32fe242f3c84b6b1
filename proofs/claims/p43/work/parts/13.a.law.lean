-- ===== the law's talk in its memory =====
/-- the tables of words, people, lines; the words' rows, the people's rows -/
abbrev lD : Type := (Nat × Nat × Nat) × (Nat → Nat) × (Nat → Nat)
/-- what a talk holds: its numbers, words, people, lines; how many words, people, lines -/
abbrev lX : Type := (Nat → Int32) × (Nat → Nat → Int32) × (Nat → Nat → Int32) × (Nat → Nat → Int32) × Nat × Nat × Nat
abbrev lTg : Type := Nat → Nat × Nat × Nat
/-- fr: cells that nobody writes any more; tg: whose a cell is -/
def gI (M fr : xd_M) (tg : lTg) : Prop := (∀ a c, fr a = some c → M a = some c ∧ (tg a).1 = 0) ∧ ∀ a, (tg a).1 ≠ 0 → M a ≠ none
def tO (M : xd_M) (tg : lTg) (i t : Nat) (d : lD) (ta : Nat → Option Nat) (X : lX) : Prop := ∃ c : xd_C, M t = some c ∧ c.1 = 14 ∧ (∀ j, j < 6 → c.2.2.1 j = X.1 j) ∧ c.2.2.2 8 = some d.1.1 ∧ c.2.2.2 9 = some d.1.2.1 ∧ c.2.2.2 12 = some d.1.2.2 ∧ (∀ j, j = 10 ∨ j = 11 ∨ j = 13 ∨ j = 14 ∨ j = 15 → c.2.2.2 j = ta j) ∧ tg t = (i, 0, 0)
def tTab (M : xd_M) (tg : lTg) (i s a len n : Nat) (r : Nat → Nat) : Prop := ∃ c : xd_C, M a = some c ∧ c.1 = 2 ∧ c.2.1 = len ∧ (∀ k, k < n → c.2.2.2 k = some (r k)) ∧ tg a = (i, s, 0)
def tRow (M : xd_M) (tg : lTg) (i s len n : Nat) (r : Nat → Nat) (V : Nat → Nat → Int32) : Prop := ∀ k, k < n → ∃ c : xd_C, M (r k) = some c ∧ c.1 = 0 ∧ c.2.1 = len ∧ (∀ j, j < len → c.2.2.1 j = V k j) ∧ tg (r k) = (i, s, k)
def frow (fr : xd_M) (b len : Nat) (V : Nat → Int32) : Prop := ∃ c : xd_C, fr b = some c ∧ c.1 = 0 ∧ c.2.1 = len ∧ ∀ q, q < len → c.2.2.1 q = V q
def tLin (M fr : xd_M) (tg : lTg) (i a n : Nat) (L : Nat → Nat → Int32) : Prop := ∃ c : xd_C, M a = some c ∧ c.1 = 2 ∧ c.2.1 = 150 ∧ (∀ j, j < n → ∃ b, c.2.2.2 j = some b ∧ frow fr b 4 (L j)) ∧ tg a = (i, 3, 0)
def tT (M fr : xd_M) (tg : lTg) (i t : Nat) (d : lD) (ta : Nat → Option Nat) (X : lX) : Prop := tO M tg i t d ta X ∧ tTab M tg i 1 d.1.1 14 X.2.2.2.2.1 d.2.1 ∧ tTab M tg i 2 d.1.2.1 10 X.2.2.2.2.2.1 d.2.2 ∧ tLin M fr tg i d.1.2.2 X.2.2.2.2.2.2 X.2.2.2.1 ∧ tRow M tg i 4 5 X.2.2.2.2.1 d.2.1 X.2.1 ∧ tRow M tg i 5 3 X.2.2.2.2.2.1 d.2.2 X.2.2.1
theorem frow.mono {fr fr2 : xd_M} {b len : Nat} {V : Nat → Int32} (h : frow fr b len V) (hf : ∀ a c, fr a = some c → fr2 a = some c) : frow fr2 b len V := by
  obtain ⟨c, h1, h2⟩ := h
  exact ⟨c, hf _ _ h1, h2⟩
-- what a step leaves: all cells but those of the talk i
theorem tO.keep {M M2 : xd_M} {tg : lTg} {i t : Nat} {d : lD} {ta : Nat → Option Nat} {X : lX} (h : tO M tg i t d ta X) (hm : M2 t = M t) : tO M2 tg i t d ta X := by
  obtain ⟨c, h1, h2⟩ := h
  exact ⟨c, hm.trans h1, h2⟩
theorem tTab.keep {M M2 : xd_M} {tg : lTg} {i s a len n : Nat} {r : Nat → Nat} (h : tTab M tg i s a len n r) (hm : M2 a = M a) : tTab M2 tg i s a len n r := by
  obtain ⟨c, h1, h2⟩ := h
  exact ⟨c, hm.trans h1, h2⟩
theorem tRow.keep {M M2 : xd_M} {tg : lTg} {i s len n : Nat} {r : Nat → Nat} {V : Nat → Nat → Int32} (h : tRow M tg i s len n r V) (hm : ∀ k, k < n → M2 (r k) = M (r k)) : tRow M2 tg i s len n r V := fun k hk => by
  obtain ⟨c, h1, h2⟩ := h k hk
  exact ⟨c, (hm k hk).trans h1, h2⟩
theorem tLin.keep {M M2 fr fr2 : xd_M} {tg : lTg} {i a n : Nat} {L : Nat → Nat → Int32} (h : tLin M fr tg i a n L) (hm : M2 a = M a) (hf : ∀ a c, fr a = some c → fr2 a = some c) : tLin M2 fr2 tg i a n L := by
  obtain ⟨c, h1, h2, h3, h4, h5⟩ := h
  refine ⟨c, hm.trans h1, h2, h3, fun j hj => ?_, h5⟩
  obtain ⟨b, g1, g2⟩ := h4 j hj
  exact ⟨b, g1, g2.mono hf⟩
section
variable {M M2 fr fr2 : xd_M} {tg tg2 : lTg} {i t : Nat} {d : lD} {ta : Nat → Option Nat} {X : lX}
theorem tT.tgO (h : tT M fr tg i t d ta X) : tg t = (i, 0, 0) := by obtain ⟨c, _, _, _, _, _, _, _, q⟩ := h.1; exact q
theorem tT.tgA (h : tT M fr tg i t d ta X) : tg d.1.1 = (i, 1, 0) := by obtain ⟨c, _, _, _, _, q⟩ := h.2.1; exact q
theorem tT.tgB (h : tT M fr tg i t d ta X) : tg d.1.2.1 = (i, 2, 0) := by obtain ⟨c, _, _, _, _, q⟩ := h.2.2.1; exact q
theorem tT.tgL (h : tT M fr tg i t d ta X) : tg d.1.2.2 = (i, 3, 0) := by obtain ⟨c, _, _, _, _, q⟩ := h.2.2.2.1; exact q
theorem tT.tgW (h : tT M fr tg i t d ta X) {k : Nat} (hk : k < X.2.2.2.2.1) : tg (d.2.1 k) = (i, 4, k) := by obtain ⟨c, _, _, _, _, q⟩ := h.2.2.2.2.1 k hk; exact q
theorem tT.tgM (h : tT M fr tg i t d ta X) {k : Nat} (hk : k < X.2.2.2.2.2.1) : tg (d.2.2 k) = (i, 5, k) := by obtain ⟨c, _, _, _, _, q⟩ := h.2.2.2.2.2 k hk; exact q
/-- the talk stays, if its cells stay -/
theorem tT.keep (h : tT M fr tg i t d ta X) (hm : ∀ a, (tg a).1 = i → M2 a = M a) (hf : ∀ a c, fr a = some c → fr2 a = some c) : tT M2 fr2 tg i t d ta X :=
  ⟨h.1.keep (hm _ (by rw [h.tgO])), h.2.1.keep (hm _ (by rw [h.tgA])), h.2.2.1.keep (hm _ (by rw [h.tgB])), h.2.2.2.1.keep (hm _ (by rw [h.tgL])) hf, h.2.2.2.2.1.keep (fun k hk => hm _ (by rw [h.tgW hk])), h.2.2.2.2.2.keep (fun k hk => hm _ (by rw [h.tgM hk]))⟩
/-- the talk stays under another marking that marks its cells alike -/
theorem tT.mark (h : tT M fr tg i t d ta X) (hm : ∀ a, (tg a).1 = i → tg2 a = tg a) : tT M fr tg2 i t d ta X := by
  have eO : tg2 t = (i, 0, 0) := (hm _ (by rw [h.tgO])).trans h.tgO
  have eA : tg2 d.1.1 = (i, 1, 0) := (hm _ (by rw [h.tgA])).trans h.tgA
  have eB : tg2 d.1.2.1 = (i, 2, 0) := (hm _ (by rw [h.tgB])).trans h.tgB
  have eL : tg2 d.1.2.2 = (i, 3, 0) := (hm _ (by rw [h.tgL])).trans h.tgL
  refine ⟨?_, ?_, ?_, ?_, fun k hk => ?_, fun k hk => ?_⟩
  · obtain ⟨c, q1, q2, q3, q4, q5, q6, q7, _⟩ := h.1
    exact ⟨c, q1, q2, q3, q4, q5, q6, q7, eO⟩
  · obtain ⟨c, q1, q2, q3, q4, _⟩ := h.2.1
    exact ⟨c, q1, q2, q3, q4, eA⟩
  · obtain ⟨c, q1, q2, q3, q4, _⟩ := h.2.2.1
    exact ⟨c, q1, q2, q3, q4, eB⟩
  · obtain ⟨c, q1, q2, q3, q4, _⟩ := h.2.2.2.1
    exact ⟨c, q1, q2, q3, q4, eL⟩
  · obtain ⟨c, q1, q2, q3, q4, q5⟩ := h.2.2.2.2.1 k hk
    exact ⟨c, q1, q2, q3, q4, (hm _ (by rw [q5])).trans q5⟩
  · obtain ⟨c, q1, q2, q3, q4, q5⟩ := h.2.2.2.2.2 k hk
    exact ⟨c, q1, q2, q3, q4, (hm _ (by rw [q5])).trans q5⟩
end
-- ===== steps of the law's programs, from the head =====
section
variable {σ : xd_S} {k a j n : Nat} {c : xd_C}
theorem w_lt {x v : Int32} {f : Int32 → Prop} (hx : x = v) (h : f v) : xd_lt x f := by rw [hx]; exact h
theorem w_gI {v : Int32} {f : Int32 → Prop} (hc : σ.1 a = some c) (hk : c.1 = k) (hv : c.2.2.1 j = v) (h : f v) : xd_gI k a j σ f := ⟨c, hc, hk, by rw [hv]; exact h⟩
theorem w_gR {b : Nat} {f : Nat → Prop} (hc : σ.1 a = some c) (hk : c.1 = k) (hv : c.2.2.2 j = some b) (h : f b) : xd_gR k a j σ f := ⟨c, b, hc, hk, hv, h⟩
theorem w_gO {r : Option Nat} {f : Option Nat → Prop} (hc : σ.1 a = some c) (hk : c.1 = k) (hv : c.2.2.2 j = r) (h : f r) : xd_gO k a j σ f := ⟨c, hc, hk, by rw [hv]; exact h⟩
theorem vpn {m n : Nat} (h : n < m) (hm : m < 2 ^ 31) : vp_in (nI n) m := by
  unfold vp_in
  rw [nI_clamp (by omega)]
  rintro (h1 | h1)
  · exact nI_pos (by omega) h1
  · omega
theorem w_aI {i v : Int32} {f : Int32 → Prop} (hc : σ.1 a = some c) (hk : c.1 = k) (hi : i = nI n) (hn : n < c.2.1 ∧ c.2.1 < 2 ^ 31) (hv : c.2.2.1 n = v) (h : f v) : xd_aI k a i σ f := by
  subst hi
  exact ⟨c, hc, hk, vpn hn.1 hn.2, by rw [nI_clamp (by omega), hv]; exact h⟩
theorem w_aR {i : Int32} {b : Nat} {f : Nat → Prop} (hc : σ.1 a = some c) (hk : c.1 = k) (hi : i = nI n) (hn : n < c.2.1 ∧ c.2.1 < 2 ^ 31) (hv : c.2.2.2 n = some b) (h : f b) : xd_aR k a i σ f := by
  subst hi
  exact ⟨c, b, hc, hk, vpn hn.1 hn.2, by rw [nI_clamp (by omega), hv], h⟩
theorem w_sI {i u v : Int32} {f : xd_S → Prop} (hc : σ.1 a = some c) (hk : c.1 = k) (hi : i = nI n) (hn : n < c.2.1 ∧ c.2.1 < 2 ^ 31) (hv : u = v) (h : f (xd_up σ.1 a (k, c.2.1, upd c.2.2.1 n v, c.2.2.2), σ.2)) : xd_sI k a i u σ f := by
  subst hi hv
  exact ⟨c, hc, hk, vpn hn.1 hn.2, by rw [nI_clamp (by omega)]; exact h⟩
theorem w_sR {i : Int32} {b kv : Nat} {e : xd_C} {f : xd_S → Prop} (hc : σ.1 a = some c) (hk : c.1 = k) (he : σ.1 b = some e) (hk2 : e.1 = kv) (hi : i = nI n) (hn : n < c.2.1 ∧ c.2.1 < 2 ^ 31) (h : f (xd_up σ.1 a (k, c.2.1, c.2.2.1, va_up c.2.2.2 n (some b)), σ.2)) : xd_sR k kv a i b σ f := by
  subst hi
  exact ⟨c, e, hc, hk, he, hk2, vpn hn.1 hn.2, by rw [nI_clamp (by omega)]; exact h⟩
theorem w_pI {u v : Int32} {f : xd_S → Prop} (hc : σ.1 a = some c) (hk : c.1 = k) (hv : u = v) (h : f (xd_up σ.1 a (k, c.2.1, upd c.2.2.1 j v, c.2.2.2), σ.2)) : xd_pI k a j u σ f := by
  subst hv
  exact ⟨c, hc, hk, h⟩
theorem w_pR {u : Option Nat} {f : xd_S → Prop} (hc : σ.1 a = some c) (hk : c.1 = k) (h : f (xd_up σ.1 a (k, c.2.1, c.2.2.1, va_up c.2.2.2 j u), σ.2)) : xd_pR k a j u σ f := ⟨c, hc, hk, h⟩
theorem w_al {f : Int32 → Prop} (hc : σ.1 a = some c) (hk : c.1 = k) (hn : c.2.1 = n) (h : f (nI n)) : xd_al k a σ f := ⟨c, hc, hk, by rw [hn]; exact h⟩
theorem w_is {t : Prop} (hc : σ.1 a = some c) (hk : c.1 = k) (h : t) : xd_is k a σ t := ⟨⟨c, hc, hk⟩, h⟩
theorem w_t {c : Prop} {d : Decidable c} {A B : Prop} (hc : c) (h : A) : @ite _ c d A B := by rw [if_pos hc]; exact h
theorem w_f {c : Prop} {d : Decidable c} {A B : Prop} (hc : ¬ c) (h : B) : @ite _ c d A B := by rw [if_neg hc]; exact h
theorem w_rb {x : Int32} {K : xd_K} (hx : x = 0 ∨ x = 1) (h : K x none σ) : xd_rb x K σ := ⟨hx, h⟩
theorem w_dv {x y v : Int32} {f : Int32 → Prop} (hy : ¬ y = 0) (hv : x / y = v) (h : f v) : xd_dv x y f := ⟨hy, by rw [hv]; exact h⟩
theorem w_rem {x y v : Int32} {f : Int32 → Prop} (hy : ¬ y = 0) (hv : x - x / y * y = v) (h : f v) : xd_rem x y f := ⟨hy, by rw [hv]; exact h⟩
theorem w_xr {t : Option Int32} {v : Int32} {f : Int32 → Prop} (ht : t = some v) (h : f v) : xd_xr t f := ⟨v, ht, h⟩
theorem w_xc {t : Option (Int32 × xc_M)} {v : Int32} {J : xc_M} {f : Int32 → xd_S → Prop} (ht : t = some (v, J)) (h : f v (σ.1, J, σ.2.2)) : xd_xc t σ f := ⟨v, J, ht, h⟩
theorem w_nn {b : Nat} {f : Nat → Prop} (h : f b) : xd_nn (some b) f := ⟨b, rfl, h⟩
/-- a call that makes nothing -/
theorem w_c0 {p : xd_S → xd_K → Prop} {f : xd_K} (h : p (σ.1, σ.2.1, 0, 0) (fun r ro τ => f r ro (τ.1, τ.2.1, σ.2.2.1, σ.2.2.2))) : xd_ca p σ f := ⟨0, 0, Nat.zero_le _, Nat.zero_le _, h⟩
end
-- ===== reading a talk =====
section
variable {σ : xd_S} {fr : xd_M} {tg : lTg} {i t : Nat} {d : lD} {ta : Nat → Option Nat} {X : lX} {j k : Nat} {v v2 : Int32}
theorem t_is {g : Prop} (h : tT σ.1 fr tg i t d ta X) (hg : g) : xd_is 14 t σ g := by
  obtain ⟨c, h1, h2, _⟩ := h.1
  exact w_is h1 h2 hg
theorem t_gI {f : Int32 → Prop} (h : tT σ.1 fr tg i t d ta X) (hj : j < 6) (hf : f (X.1 j)) : xd_gI 14 t j σ f := by
  obtain ⟨c, h1, h2, h3, _⟩ := h.1
  exact w_gI h1 h2 (h3 j hj) hf
theorem t_g8 {f : Nat → Prop} (h : tT σ.1 fr tg i t d ta X) (hf : f d.1.1) : xd_gR 14 t 8 σ f := by
  obtain ⟨c, h1, h2, h3, h4, _⟩ := h.1
  exact w_gR h1 h2 h4 hf
theorem t_g9 {f : Nat → Prop} (h : tT σ.1 fr tg i t d ta X) (hf : f d.1.2.1) : xd_gR 14 t 9 σ f := by
  obtain ⟨c, h1, h2, h3, h4, h5, _⟩ := h.1
  exact w_gR h1 h2 h5 hf
theorem t_g12 {f : Nat → Prop} (h : tT σ.1 fr tg i t d ta X) (hf : f d.1.2.2) : xd_gR 14 t 12 σ f := by
  obtain ⟨c, h1, h2, h3, h4, h5, h6, _⟩ := h.1
  exact w_gR h1 h2 h6 hf
theorem t_gT {f : Nat → Prop} {b : Nat} (h : tT σ.1 fr tg i t d ta X) (hj : j = 10 ∨ j = 11 ∨ j = 13 ∨ j = 14 ∨ j = 15) (hb : ta j = some b) (hf : f b) : xd_gR 14 t j σ f := by
  obtain ⟨c, h1, h2, h3, h4, h5, h6, h7, _⟩ := h.1
  exact w_gR h1 h2 ((h7 j hj).trans hb) hf
theorem t_gO {f : Option Nat → Prop} (h : tT σ.1 fr tg i t d ta X) (hf : f (ta 15)) : xd_gO 14 t 15 σ f := by
  obtain ⟨c, h1, h2, h3, h4, h5, h6, h7, _⟩ := h.1
  exact w_gO h1 h2 (h7 15 (by omega)) hf
theorem t_aW {f : Nat → Prop} (h : tT σ.1 fr tg i t d ta X) (hv : v = nI k) (hk : k < X.2.2.2.2.1 ∧ X.2.2.2.2.1 ≤ 14) (hf : f (d.2.1 k)) : xd_aR 2 d.1.1 v σ f := by
  obtain ⟨c, h1, h2, h3, h4, _⟩ := h.2.1
  exact w_aR h1 h2 hv (by omega) (h4 k hk.1) hf
theorem t_aM {f : Nat → Prop} (h : tT σ.1 fr tg i t d ta X) (hv : v = nI k) (hk : k < X.2.2.2.2.2.1 ∧ X.2.2.2.2.2.1 ≤ 10) (hf : f (d.2.2 k)) : xd_aR 2 d.1.2.1 v σ f := by
  obtain ⟨c, h1, h2, h3, h4, _⟩ := h.2.2.1
  exact w_aR h1 h2 hv (by omega) (h4 k hk.1) hf
theorem t_wI {f : Int32 → Prop} (h : tT σ.1 fr tg i t d ta X) (hk : k < X.2.2.2.2.1) (hv : v = nI j) (hj : j < 5) (hf : f (X.2.1 k j)) : xd_aI 0 (d.2.1 k) v σ f := by
  obtain ⟨c, h1, h2, h3, h4, _⟩ := h.2.2.2.2.1 k hk
  exact w_aI h1 h2 hv (by omega) (h4 j hj) hf
theorem t_mI {f : Int32 → Prop} (h : tT σ.1 fr tg i t d ta X) (hk : k < X.2.2.2.2.2.1) (hv : v = nI j) (hj : j < 3) (hf : f (X.2.2.1 k j)) : xd_aI 0 (d.2.2 k) v σ f := by
  obtain ⟨c, h1, h2, h3, h4, _⟩ := h.2.2.2.2.2 k hk
  exact w_aI h1 h2 hv (by omega) (h4 j hj) hf
-- ===== writing a talk =====
def up2 (V : Nat → Nat → Int32) (k j : Nat) (v : Int32) : Nat → Nat → Int32 := fun a b => if a = k ∧ b = j then v else V a b
/-- what a write of a talk's own cell leaves -/
def mvd (tg : lTg) (i : Nat) (σ τ : xd_S) : Prop := τ.2 = σ.2 ∧ ∀ a, (tg a).1 ≠ i → τ.1 a = σ.1 a
theorem gI.mv {M M2 fr : xd_M} (h : gI M fr tg) (hi : i ≠ 0) (hm : ∀ a, (tg a).1 ≠ i → M2 a = M a) (hn : ∀ a, (tg a).1 = i → M2 a ≠ none) : gI M2 fr tg := by
  refine ⟨fun a c hc => ?_, fun a ha => ?_⟩
  · obtain ⟨h1, h2⟩ := h.1 a c hc
    exact ⟨(hm a (by omega)).trans h1, h2⟩
  · by_cases e : (tg a).1 = i
    · exact hn a e
    · rw [hm a e]
      exact h.2 a ha
theorem up_ne {M : xd_M} {a : Nat} {c : xd_C} (hn : ∀ b, (tg b).1 = i → M b ≠ none) : ∀ b, (tg b).1 = i → xd_up M a c b ≠ none := by
  intro b hb
  by_cases e : b = a
  · rw [e]
    simp [xd_up]
  · simp only [xd_up, if_neg e]
    exact hn b hb
theorem xu_s (M : xd_M) (a : Nat) (c : xd_C) : xd_up M a c a = some c := by simp [xd_up]
theorem xu_n (M : xd_M) {a b : Nat} (c : xd_C) (h : b ≠ a) : xd_up M a c b = M b := by simp [xd_up, h]
theorem t_wS {f : xd_S → Prop} (h : tT σ.1 fr tg i t d ta X) (hk : k < X.2.2.2.2.1) {u : Int32} (hv : v = nI j) (hj : j < 5) (hu : u = v2) (hf : ∀ τ, mvd tg i σ τ → (∀ a, σ.1 a ≠ none → τ.1 a ≠ none) → tT τ.1 fr tg i t d ta (X.1, up2 X.2.1 k j v2, X.2.2) → f τ) : xd_sI 0 (d.2.1 k) v u σ f := by
  obtain ⟨c, h1, h2, h3, h4, h5⟩ := h.2.2.2.2.1 k hk
  have ne : ∀ b, tg b ≠ (i, 4, k) → b ≠ d.2.1 k := fun b hb e => hb (by rw [e]; exact h5)
  refine w_sI h1 h2 hv (by omega) hu (hf _ ⟨rfl, fun a ha => xu_n _ _ (ne a (by intro e; rw [e] at ha; exact ha rfl))⟩ (fun a ha => ?_) ⟨h.1.keep (xu_n _ _ (ne _ (by rw [h.tgO]; simp))), h.2.1.keep (xu_n _ _ (ne _ (by rw [h.tgA]; simp))), h.2.2.1.keep (xu_n _ _ (ne _ (by rw [h.tgB]; simp))), h.2.2.2.1.keep (xu_n _ _ (ne _ (by rw [h.tgL]; simp))) (fun _ _ q => q), fun k2 hk2 => ?_, h.2.2.2.2.2.keep (fun k2 hk2 => xu_n _ _ (ne _ (by rw [h.tgM hk2]; simp)))⟩)
  · by_cases e : a = d.2.1 k
    · rw [e]
      simp [xd_up]
    · show xd_up _ _ _ a ≠ none
      rw [xu_n _ _ e]
      exact ha
  · by_cases e : k2 = k
    · subst e
      refine ⟨_, xu_s _ _ _, rfl, h3, fun q hq => ?_, h5⟩
      show upd c.2.2.1 j v2 q = up2 X.2.1 k2 j v2 k2 q
      by_cases e : q = j
      · simp [upd, up2, e]
      · simp only [upd, up2, e, if_false, and_false]
        exact h4 q hq
    · obtain ⟨c2, q1, q2, q3, q4, q5⟩ := h.2.2.2.2.1 k2 hk2
      refine ⟨c2, ?_, q2, q3, fun q hq => ?_, q5⟩
      · show xd_up _ _ _ (d.2.1 k2) = _
        rw [xu_n _ _ (ne _ (by rw [q5]; simp [e]))]
        exact q1
      · show c2.2.2.1 q = up2 X.2.1 k j v2 k2 q
        simp only [up2, e, false_and, if_false]
        exact q4 q hq
theorem t_mS {f : xd_S → Prop} (h : tT σ.1 fr tg i t d ta X) (hk : k < X.2.2.2.2.2.1) {u : Int32} (hv : v = nI j) (hj : j < 3) (hu : u = v2) (hf : ∀ τ, mvd tg i σ τ → (∀ a, σ.1 a ≠ none → τ.1 a ≠ none) → tT τ.1 fr tg i t d ta (X.1, X.2.1, up2 X.2.2.1 k j v2, X.2.2.2) → f τ) : xd_sI 0 (d.2.2 k) v u σ f := by
  obtain ⟨c, h1, h2, h3, h4, h5⟩ := h.2.2.2.2.2 k hk
  have ne : ∀ b, tg b ≠ (i, 5, k) → b ≠ d.2.2 k := fun b hb e => hb (by rw [e]; exact h5)
  refine w_sI h1 h2 hv (by omega) hu (hf _ ⟨rfl, fun a ha => xu_n _ _ (ne a (by intro e; rw [e] at ha; exact ha rfl))⟩ (fun a ha => ?_) ⟨h.1.keep (xu_n _ _ (ne _ (by rw [h.tgO]; simp))), h.2.1.keep (xu_n _ _ (ne _ (by rw [h.tgA]; simp))), h.2.2.1.keep (xu_n _ _ (ne _ (by rw [h.tgB]; simp))), h.2.2.2.1.keep (xu_n _ _ (ne _ (by rw [h.tgL]; simp))) (fun _ _ q => q), h.2.2.2.2.1.keep (fun k2 hk2 => xu_n _ _ (ne _ (by rw [h.tgW hk2]; simp))), fun k2 hk2 => ?_⟩)
  · by_cases e : a = d.2.2 k
    · rw [e]
      simp [xd_up]
    · show xd_up _ _ _ a ≠ none
      rw [xu_n _ _ e]
      exact ha
  · by_cases e : k2 = k
    · subst e
      refine ⟨_, xu_s _ _ _, rfl, h3, fun q hq => ?_, h5⟩
      show upd c.2.2.1 j v2 q = up2 X.2.2.1 k2 j v2 k2 q
      by_cases e : q = j
      · simp [upd, up2, e]
      · simp only [upd, up2, e, if_false, and_false]
        exact h4 q hq
    · obtain ⟨c2, q1, q2, q3, q4, q5⟩ := h.2.2.2.2.2 k2 hk2
      refine ⟨c2, ?_, q2, q3, fun q hq => ?_, q5⟩
      · show xd_up _ _ _ (d.2.2 k2) = _
        rw [xu_n _ _ (ne _ (by rw [q5]; simp [e]))]
        exact q1
      · show c2.2.2.1 q = up2 X.2.2.1 k j v2 k2 q
        simp only [up2, e, false_and, if_false]
        exact q4 q hq
theorem t_pI {f : xd_S → Prop} (h : tT σ.1 fr tg i t d ta X) {u : Int32} (hu : u = v2) (hf : ∀ τ, mvd tg i σ τ → (∀ a, σ.1 a ≠ none → τ.1 a ≠ none) → tT τ.1 fr tg i t d ta (upd X.1 j v2, X.2) → f τ) : xd_pI 14 t j u σ f := by
  obtain ⟨c, h1, h2, h3, h4, h5, h6, h7, h8⟩ := h.1
  have ne : ∀ b, tg b ≠ (i, 0, 0) → b ≠ t := fun b hb e => hb (by rw [e]; exact h8)
  refine w_pI h1 h2 hu (hf _ ⟨rfl, fun a ha => xu_n _ _ (ne a (by intro e; rw [e] at ha; exact ha rfl))⟩ (fun a ha => ?_) ⟨⟨_, xu_s _ _ _, rfl, fun q hq => ?_, h4, h5, h6, h7, h8⟩, h.2.1.keep (xu_n _ _ (ne _ (by rw [h.tgA]; simp))), h.2.2.1.keep (xu_n _ _ (ne _ (by rw [h.tgB]; simp))), h.2.2.2.1.keep (xu_n _ _ (ne _ (by rw [h.tgL]; simp))) (fun _ _ q => q), h.2.2.2.2.1.keep (fun k2 hk2 => xu_n _ _ (ne _ (by rw [h.tgW hk2]; simp))), h.2.2.2.2.2.keep (fun k2 hk2 => xu_n _ _ (ne _ (by rw [h.tgM hk2]; simp)))⟩)
  · by_cases e : a = t
    · rw [e]
      simp [xd_up]
    · show xd_up _ _ _ a ≠ none
      rw [xu_n _ _ e]
      exact ha
  · show upd c.2.2.1 j v2 q = upd X.1 j v2 q
    by_cases e : q = j
    · simp [upd, e]
    · simp only [upd, e, if_false]
      exact h3 q hq
end
