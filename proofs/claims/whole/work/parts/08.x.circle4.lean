-- ===== circle: the reference's rounds =====
theorem itr_ext {f : Nat → Nat → Nat} {S n : Nat} (hf : ∀ i, i < n → ∀ T j, T.testBit j = true → (f i T).testBit j = true) : ∀ k d, k + d = n → ∀ j, (itr f S k).testBit j = true → (itr f S n).testBit j = true := by
  intro k d
  induction d generalizing k with
  | zero =>
    intro e j hj
    have : k = n := by omega
    rw [← this]
    exact hj
  | succ d ih =>
    intro e j hj
    refine ih (k + 1) (by omega) j ?_
    exact hf k (by omega) _ j hj
theorem itr_fix {f : Nat → Nat → Nat} {S n : Nat} (hf : ∀ i, i < n → ∀ T j, T.testBit j = true → (f i T).testBit j = true) (he : itr f S n = S) {k : Nat} (hk : k < n) : f k S = S := by
  have key : ∀ m, m ≤ n → itr f S m = S := by
    intro m hm
    apply Nat.eq_of_testBit_eq
    intro j
    have a := itr_ext (S := S) hf m (n - m) (by omega) j
    have b : S.testBit j = true → (itr f S m).testBit j = true := by
      have := itr_ext (f := f) (S := S) (n := m) (fun i hi => hf i (by omega)) 0 m (by omega) j
      exact this
    rw [he] at a
    cases hs : S.testBit j with
    | true => exact b hs
    | false =>
      cases ht : (itr f S m).testBit j with
      | false => rfl
      | true =>
        have := a ht
        rw [hs] at this
        cases this
  have h1 := key k (by omega)
  have h2 := key (k + 1) (by omega)
  have h3 : itr f S (k + 1) = f k (itr f S k) := rfl
  rw [h3, h1] at h2
  exact h2
def rcF (w : Nat → Int32) (p q S : Nat) : Nat := if S.testBit p = true ∧ 0 < sGr w p q then S ||| 2 ^ q else S
def rcP (w : Nat → Int32) (p S : Nat) : Nat := itr (rcF w p) S (xr w 63)
def rcR (w : Nat → Int32) (S : Nat) : Nat := itr (rcP w) S (xr w 63)
theorem rcF_lt {w : Nat → Int32} {p q S m : Nat} (hS : S < 2 ^ m) (hq : q < m) : rcF w p q S < 2 ^ m := by
  unfold rcF
  split
  · exact Nat.or_lt_two_pow hS (p2_lt hq)
  · exact hS
theorem rcF_up {w : Nat → Int32} {p q S j : Nat} (h : S.testBit j = true) : (rcF w p q S).testBit j = true := by
  unfold rcF
  split
  · rw [Nat.testBit_or, h]
    rfl
  · exact h
theorem rcF_in {w : Nat → Int32} {p q S C n : Nat} (hp : p < n) (hq : q < n) (hC : clG (fun p q => decide (0 < sGr w p q)) n C) (hS : ∀ i, S.testBit i = true → C.testBit i = true) : ∀ i, (rcF w p q S).testBit i = true → C.testBit i = true := by
  intro i hi
  unfold rcF at hi
  split at hi
  · rename_i hc
    rw [Nat.testBit_or, Bool.or_eq_true, Nat.testBit_two_pow, decide_eq_true_iff] at hi
    rcases hi with z | z
    · exact hS i z
    · rw [← z]
      exact hC p q hp hq (hS p hc.1) (decide_eq_true hc.2)
  · exact hS i hi
theorem itr_inv {Q : Nat → Prop} {f : Nat → Nat → Nat} {S n : Nat} (h0 : Q S) (hf : ∀ i T, i < n → Q T → Q (f i T)) : Q (itr f S n) := by
  induction n with
  | zero => exact h0
  | succ n ih => exact hf n _ (by omega) (ih (fun i T hi => hf i T (by omega)))
theorem rcR_lst {w : Nat → Int32} (h : iW w) {p0 : Nat} (hp : p0 < xr w 63) : lstC (fun p q => decide (0 < sGr w p q)) (xr w 63) p0 (itr (fun _ S => rcR w S) (2 ^ p0) 10) := by
  have hP := h.nPB
  have up1 : ∀ p T j, T.testBit j = true → (rcP w p T).testBit j = true := fun p T j hj => itr_inv (Q := fun T => T.testBit j = true) hj (fun i T _ hT => rcF_up hT)
  refine close_it (R := rcR w) (by omega) hp ?_ ?_ ?_ ?_ (by omega)
  · exact fun S hS => itr_inv (Q := fun T => T < 2 ^ xr w 63) hS (fun p T _ hT => itr_inv (Q := fun T => T < 2 ^ xr w 63) hT (fun q T hq hT => rcF_lt hT hq))
  · exact fun S _ i hi => itr_inv (Q := fun T => T.testBit i = true) hi (fun p T _ hT => up1 p T i hT)
  · intro S _ hR p q hp hq hb hg
    have e1 : rcP w p S = S := itr_fix (fun i _ T j hj => up1 i T j hj) hR hp
    have e2 : rcF w p q S = S := itr_fix (fun i _ T j hj => rcF_up hj) e1 hq
    unfold rcF at e2
    rw [if_pos ⟨hb, of_decide_eq_true hg⟩] at e2
    rw [← e2, Nat.testBit_or]
    simp
  · exact fun S _ C hC hS => itr_inv (Q := fun T => ∀ i, T.testBit i = true → C.testBit i = true) hS (fun p T hp hT => itr_inv (Q := fun T => ∀ i, T.testBit i = true → C.testBit i = true) hT (fun q T hq hT => rcF_in hp hq hC hT))
