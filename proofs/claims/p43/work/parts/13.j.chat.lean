-- ===== chat =====
def drW (w : Nat → Int32) : Nat → Int32 := upd w 1 (1664525 * w 1 + 1013904223)
def drQ (w : Nat → Int32) : Nat := (drW w 1).toBitVec.toNat / 2 ^ 8 % 1000
def chW (p : Nat) (w : Nat → Int32) : Nat → Int32 := if drQ w < xr w 64 then (match sLU (drW w) (sTg (drW w) p) (xr w 62) with
  | none => drW w
  | some k => if sCan (drW w) p k then saW (drW w) p k else drW w) else drW w
def chsW (w : Nat → Int32) : Nat → Int32 := if xr w 64 = 0 then w else itr chW w (xr w 63)
theorem itr_s {S : Type} (f : Nat → S → S) (s : S) (n : Nat) : itr f s (n + 1) = f n (itr f s n) := rfl
theorem ntw_q {w : Nat → Int32} {a b c : Int32} {j : Nat} (hB : xr w 2 < 151) (h2 : j ≠ 2) (h : j < 748 ∨ 1348 ≤ j) : ntw w a b c j = w j := by
  by_cases e : xr w 2 = 150
  · unfold ntw
    rw [if_pos e]
  · exact ntw_o h2 (by omega)
theorem drW_o (w : Nat → Int32) {j : Nat} (h : j ≠ 1) : drW w j = w j := upd_n _ _ h
theorem iW.dr {w : Nat → Int32} (h : iW w) : iW (drW w) := h.up (by omega) (by omega) (by omega) (by omega) (by omega) (by omega) (by omega) (by omega)
theorem saW_o {w : Nat → Int32} (h : iW w) {p k j : Nat} (hp : p < xr w 63) (hk : k < xr w 62) (hj : j < 2 ∨ j = 3 ∨ (32 ≤ j ∧ j < 42) ∨ (62 ≤ j ∧ j < 748) ∨ 1348 ≤ j) : saW w p k j = w j := by
  have hW := h.nWB
  have hP := h.nPB
  have hB := h.bookB
  have e : ∀ q, q ≠ 52 + p → brW w p k q = w q := fun q hq => upd_n _ _ hq
  have ex : ∀ q, q ≠ 52 + p → xr (brW w p k) q = xr w q := fun q hq => xr_eq (e q hq)
  have o : ∀ q, q < 4 ∨ (32 ≤ q ∧ q < 42) ∨ 52 ≤ q → heW (brW w p k) p k q = brW w p k q := by
    intro q hq
    unfold heW
    rw [ex 62 (by omega), ex 63 (by omega)]
    rw [itr_o _ (fun i v hi => tgW_o v (by omega)) _ (Nat.le_refl _), itr_o _ (fun i v hi => hvW_o v (by omega)) _ (Nat.le_refl _), h0W_o _ (by omega) (by omega)]
  unfold saW
  split
  · rw [ntw_q (by rw [xr_eq (o 2 (by omega)), ex 2 (by omega)]; omega) (by omega) (by omega), o j (by omega), e j (by omega)]
  · rw [ntw_q (by rw [ex 2 (by omega)]; omega) (by omega) (by omega), e j (by omega)]
theorem iW.ch {w : Nat → Int32} (h : iW w) {p : Nat} (hp : p < xr w 63) : iW (chW p w) := by
  have h62 : xr (drW w) 62 = xr w 62 := xr_eq (drW_o w (by omega))
  have h63 : xr (drW w) 63 = xr w 63 := xr_eq (drW_o w (by omega))
  unfold chW
  split
  · cases hq : sLU (drW w) (sTg (drW w) p) (xr w 62) with
    | none => exact h.dr
    | some k =>
      have hk := (sLU_lt _ _ _ k hq).1
      show iW (if sCan (drW w) p k then saW (drW w) p k else drW w)
      split
      · rename_i hc
        exact h.dr.sa (by rw [h63]; exact hp) (by rw [h62]; exact hk) hc
      · exact h.dr
  · exact h.dr
theorem chW_o {w : Nat → Int32} (h : iW w) {p j : Nat} (hp : p < xr w 63) (hj : j = 0 ∨ j = 3 ∨ (32 ≤ j ∧ j < 42) ∨ (62 ≤ j ∧ j < 748) ∨ 1348 ≤ j) : chW p w j = w j := by
  have h62 : xr (drW w) 62 = xr w 62 := xr_eq (drW_o w (by omega))
  have h63 : xr (drW w) 63 = xr w 63 := xr_eq (drW_o w (by omega))
  have hd : drW w j = w j := drW_o w (by omega)
  unfold chW
  split
  · cases hq : sLU (drW w) (sTg (drW w) p) (xr w 62) with
    | none => exact hd
    | some k =>
      have hk := (sLU_lt _ _ _ k hq).1
      show (if sCan (drW w) p k then saW (drW w) p k else drW w) j = w j
      split
      · rw [saW_o h.dr (by rw [h63]; exact hp) (by rw [h62]; exact hk) (by omega)]
        exact hd
      · exact hd
  · exact hd
theorem chs_inv {w : Nat → Int32} (h : iW w) : ∀ n, n ≤ xr w 63 → iW (itr chW w n) ∧ ∀ j, j = 0 ∨ j = 3 ∨ (32 ≤ j ∧ j < 42) ∨ (62 ≤ j ∧ j < 748) ∨ 1348 ≤ j → itr chW w n j = w j := by
  intro n
  induction n with
  | zero => intro _; exact ⟨h, fun _ _ => rfl⟩
  | succ n ih =>
    intro hn
    obtain ⟨h1, h2⟩ := ih (by omega)
    have e : xr (itr chW w n) 63 = xr w 63 := xr_eq (h2 63 (by omega))
    rw [itr_s]
    exact ⟨h1.ch (by rw [e]; omega), fun j hj => (chW_o h1 (by rw [e]; omega) hj).trans (h2 j hj)⟩
-- the stalest, from above
def dnS (w : Nat → Int32) (P : Nat → Bool) (k : Nat) (b : Option Nat) : Option Nat := if P k then (match b with
  | none => some k
  | some j => if xr w (4 + k) < xr w (4 + j) then some j else some k) else b
def dnL (w : Nat → Int32) (P : Nat → Bool) : Nat → Option Nat → Option Nat
  | 0, b => b
  | n + 1, b => dnL w P n (dnS w P n b)
def mrg (w : Nat → Int32) : Option Nat → Option Nat → Option Nat
  | none, b => b
  | some a, none => some a
  | some a, some b => if xr w (4 + a) < xr w (4 + b) then some b else some a
theorem dnL_eq (w : Nat → Int32) (P : Nat → Bool) : ∀ n b, dnL w P n b = mrg w (sLU w P n) b := by
  intro n
  induction n with
  | zero => intro b; rfl
  | succ n ih =>
    intro b
    show dnL w P n (dnS w P n b) = mrg w (if P n then (match sLU w P n with
      | none => some n
      | some j => if xr w (4 + j) < xr w (4 + n) then some n else some j) else sLU w P n) b
    rw [ih]
    unfold dnS
    by_cases hP : P n = true
    · rw [if_pos hP, if_pos hP]
      cases sLU w P n with
      | none => cases b <;> rfl
      | some j =>
        cases b with
        | none =>
          show mrg w (some j) (some n) = mrg w (if xr w (4 + j) < xr w (4 + n) then some n else some j) none
          by_cases c2 : xr w (4 + j) < xr w (4 + n)
          · rw [if_pos c2]
            simp only [mrg, if_pos c2]
          · rw [if_neg c2]
            simp only [mrg, if_neg c2]
        | some b =>
          show mrg w (some j) (if xr w (4 + n) < xr w (4 + b) then some b else some n) = mrg w (if xr w (4 + j) < xr w (4 + n) then some n else some j) (some b)
          by_cases c1 : xr w (4 + n) < xr w (4 + b)
          · rw [if_pos c1]
            by_cases c2 : xr w (4 + j) < xr w (4 + n)
            · rw [if_pos c2]
              simp only [mrg, if_pos c1, if_pos (show xr w (4 + j) < xr w (4 + b) by omega)]
            · rw [if_neg c2]
          · rw [if_neg c1]
            by_cases c2 : xr w (4 + j) < xr w (4 + n)
            · rw [if_pos c2]
              simp only [mrg, if_neg c1, if_pos c2]
            · rw [if_neg c2]
              simp only [mrg, if_neg c2, if_neg (show ¬ xr w (4 + j) < xr w (4 + b) by omega)]
    · rw [if_neg hP, if_neg hP]
theorem dnL_sLU (w : Nat → Int32) (P : Nat → Bool) (n : Nat) : dnL w P n none = sLU w P n := by
  rw [dnL_eq]
  cases sLU w P n <;> rfl
section
variable {σ σ0 τ : xd_S} {fr fr0 : xd_M} {tg : lTg} {i t : Nat} {d : lD} {ta : Nat → Option Nat} {X : lX} {k p a : Nat} {w : Nat → Int32} {N : Nat} {K : xd_K}
theorem w_draw (h : tG σ fr tg i t d ta X) (hw : XW X w) (hi : iW w) (hK : ∀ τ X2, fwd tg i σ fr τ fr → τ.2 = σ.2 → tG τ fr tg i t d ta X2 → XW X2 (drW w) → K (nI (drQ w)) none τ) : hX10_draw t 1000 σ K := by
  unfold hX10_draw
  refine t_gI h.T (by omega) ?_
  rw [hw.state]
  refine g_pI h (v2 := drW w 1) (by unfold drW; rw [upd_s]) (fun τ q1 q2 q3 => ?_)
  have hw2 : XW (upd X.1 0 (drW w 1), X.2) (drW w) := by
    have := hw.num hi (j := 0) (q := 1) (v := drW w 1) (by omega)
    have e : upd w 1 (drW w 1) = drW w := by unfold drW; rw [upd_s]
    rw [e] at this
    exact this
  refine t_gI q3.T (by omega) ?_
  rw [hw2.state, drw_n]
  have hb : (drW w 1).toBitVec.toNat / 2 ^ 8 < 2 ^ 24 := by
    have := (drW w 1).toBitVec.isLt
    omega
  refine w_rem (v := nI (drQ w)) (by decide) ?_ (hK τ _ q2 q1 q3 hw2)
  show nI _ - nI _ / nI 1000 * nI 1000 = _
  rw [pk_rem (by omega) (by omega) (by omega)]
  rfl
end
