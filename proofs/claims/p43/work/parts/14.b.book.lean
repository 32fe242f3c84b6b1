-- ===== the book grows: what was noted stays =====
section
variable {w w2 w3 : Nat → Int32} {p k n j i : Nat}
def bk (w w2 : Nat → Int32) : Prop := xr w 2 ≤ xr w2 2 ∧ ∀ j, 748 ≤ j → j < 748 + 4 * xr w 2 → w2 j = w j
theorem bk.rfl : bk w w := ⟨Nat.le_refl _, fun _ _ _ => Eq.refl _⟩
theorem bk.trans (h : bk w w2) (g : bk w2 w3) : bk w w3 := ⟨Nat.le_trans h.1 g.1, fun j h1 h2 => (g.2 j h1 (by have := h.1; omega)).trans (h.2 j h1 h2)⟩
theorem bk.of (h2 : w2 2 = w 2) (hb : ∀ j, 748 ≤ j → w2 j = w j) : bk w w2 := ⟨by rw [xr_eq h2]; exact Nat.le_refl _, fun j h1 _ => hb j h1⟩
theorem bk.nt (h : xr w 2 < 151) (a b c : Int32) : bk w (ntw w a b c) := by
  by_cases e : xr w 2 = 150
  · have z : ntw w a b c = w := by
      unfold ntw
      rw [if_pos e]
    rw [z]
    exact bk.rfl
  · have e2 : ntw w a b c 2 = nI (xr w 2 + 1) := by
      unfold ntw
      rw [if_neg e, if_neg (by omega), if_neg (by omega), if_neg (by omega), if_neg (by omega), if_pos (Eq.refl _)]
    have e3 : xr (ntw w a b c) 2 = xr w 2 + 1 := by
      show (ntw w a b c 2).toNatClampNeg = _
      rw [e2, nI_clamp (by omega)]
    exact ⟨by omega, fun j h1 h2 => ntw_o (by omega) (by omega)⟩
theorem bk.sa (h : iW w) (hp : p < xr w 63) (hk : k < xr w 62) : bk w (saW w p k) := by
  have hW := h.nWB
  have hP := h.nPB
  have hB := h.bookB
  have e : ∀ q, q ≠ 52 + p → brW w p k q = w q := fun q hq => upd_n _ _ hq
  have ex : ∀ q, q ≠ 52 + p → xr (brW w p k) q = xr w q := fun q hq => xr_eq (e q hq)
  have o : ∀ q, q < 4 ∨ (32 ≤ q ∧ q < 42) ∨ 52 ≤ q → heW (brW w p k) p k q = brW w p k q := by
    intro q hq
    unfold heW
    rw [ex 62 (by omega), ex 63 (by omega)]
    rw [itr_o _ (fun i v hi => tgW_o v (by omega)) _ (Nat.le_refl _), itr_o _ (fun i v hi => hvW_o v (by omega)) _ (Nat.le_refl _), h0W_o _ (by omega) (by omega)]
  have b1 : bk w (brW w p k) := bk.of (e 2 (by omega)) (fun j hj => e j (by omega))
  have b2 : bk w (heW (brW w p k) p k) := b1.trans (bk.of (o 2 (by omega)) (fun j hj => o j (by omega)))
  unfold saW
  split
  · exact b2.trans (bk.nt (by rw [xr_eq (o 2 (by omega)), ex 2 (by omega)]; exact hB) _ _ _)
  · exact b1.trans (bk.nt (by rw [ex 2 (by omega)]; exact hB) _ _ _)
theorem bk.wk (h : iW w) (hi : i < xr w 67) : bk w (wkW i w) := by
  have hW := h.nWB
  have hP := h.nPB
  have hB := h.bookB
  obtain ⟨⟨-, d2⟩, ⟨-, p2⟩, ⟨-, k2⟩, k9, kg, ks⟩ := h.walks i hi
  unfold wkW
  split
  · split
    · split
      · exact bk.rfl
      · have b1 : bk w (upd w (32 + xr w (629 + 4 * i)) (nI (xr w (631 + 4 * i)))) := bk.of (upd_n _ _ (by omega)) (fun j hj => upd_n _ _ (by omega))
        exact b1.trans (bk.nt (by rw [xr_eq (upd_n w _ (show 2 ≠ 32 + xr w (629 + 4 * i) by omega))]; exact hB) _ _ _)
    · split
      · rename_i hk
        obtain ⟨-, g2⟩ := ks hk
        split
        · exact bk.sa h p2 g2
        · exact bk.rfl
      · exact bk.of (upd_n _ _ (by omega)) (fun j hj => upd_n _ _ (by omega))
  · exact bk.rfl
theorem bk.wks (h : iW w) : ∀ n, n ≤ xr w 67 → bk w (itr wkW w n) := by
  intro n
  induction n with
  | zero => exact fun _ => bk.rfl
  | succ n ih =>
    intro hn
    obtain ⟨h1, h2⟩ := wks_inv h n (by omega)
    have e : xr (itr wkW w n) 67 = xr w 67 := xr_eq (h2 67 (by omega))
    rw [itr_s]
    exact (ih (by omega)).trans (bk.wk h1 (by rw [e]; omega))
theorem bk.dr : bk w (drW w) := bk.of (drW_o w (by omega)) (fun j hj => drW_o w (by omega))
theorem bk.ch (h : iW w) (hp : p < xr w 63) : bk w (chW p w) := by
  have h62 : xr (drW w) 62 = xr w 62 := xr_eq (drW_o w (by omega))
  have h63 : xr (drW w) 63 = xr w 63 := xr_eq (drW_o w (by omega))
  unfold chW
  split
  · cases hq : sLU (drW w) (sTg (drW w) p) (xr w 62) with
    | none => exact bk.dr
    | some k =>
      have hk := (sLU_lt _ _ _ k hq).1
      show bk w (if sCan (drW w) p k then saW (drW w) p k else drW w)
      split
      · exact bk.dr.trans (bk.sa h.dr (by rw [h63]; exact hp) (by rw [h62]; exact hk))
      · exact bk.dr
  · exact bk.dr
theorem bk.chs (h : iW w) : bk w (chsW w) := by
  have key : ∀ n, n ≤ xr w 63 → bk w (itr chW w n) := by
    intro n
    induction n with
    | zero => exact fun _ => bk.rfl
    | succ n ih =>
      intro hn
      obtain ⟨h1, h2⟩ := chs_inv h n (by omega)
      have e : xr (itr chW w n) 63 = xr w 63 := xr_eq (h2 63 (by omega))
      rw [itr_s]
      exact (ih (by omega)).trans (bk.ch h1 (by rw [e]; omega))
  unfold chsW
  split
  · exact bk.rfl
  · exact key _ (Nat.le_refl _)
theorem bk.lp (h : iW w) (hk : k < xr w 62) : bk w (lpW k w) := by
  have hB := h.bookB
  have h1 := h.l3 hk
  have e63 : xr (upd w 3 (nI (xr w 3 ||| 2 ^ k))) 63 = xr w 63 := xr_eq (upd_n _ _ (by omega))
  have o := (cl_inv h1 k (xr w 63) (by rw [e63]; omega)).2
  have b1 : bk w (upd w 3 (nI (xr w 3 ||| 2 ^ k))) := bk.of (upd_n _ _ (by omega)) (fun j hj => upd_n _ _ (by omega))
  unfold lpW
  exact (b1.trans (bk.of (o 2 (by omega)) (fun j hj => o j (by omega)))).trans (bk.nt (by rw [xr_eq (o 2 (by omega)), xr_eq (upd_n w _ (show 2 ≠ 3 by omega))]; exact hB) _ _ _)
theorem bk.ag (h : iW w) (c : Nat) : ∀ n, n ≤ xr w 62 → bk w (itr agW (c, w) n).2 := by
  have hW := h.nWB
  intro n
  induction n with
  | zero => exact fun _ => bk.rfl
  | succ n ih =>
    intro hn
    obtain ⟨h1, h2, -⟩ := ag_inv h c n (by omega)
    have b := ih (by omega)
    rw [itr_s]
    generalize itr agW (c, w) n = s at h1 h2 b
    have e62 : xr s.2 62 = xr w 62 := xr_eq (h2 62 (by omega))
    have hu := h1.un (k := n) (by omega)
    have eu : ∀ j, j ≠ 4 + n → unW n s.2 j = s.2 j := fun j hj => upd_n _ _ hj
    have u62 : xr (unW n s.2) 62 = xr w 62 := (xr_eq (eu 62 (by omega))).trans e62
    have bu : bk w (unW n s.2) := b.trans (bk.of (eu 2 (by omega)) (fun j hj => eu j (by omega)))
    unfold agW
    split
    · exact b
    · split
      · exact bu.trans (bk.lp hu (by rw [u62]; omega))
      · exact bu
/-- what a day leaves of a row -/
theorem bk.day (h : iW w) : bk w (edW (psW w).2) ∧ ∀ j, (62 ≤ j ∧ j < 748) ∨ 1348 ≤ j → edW (psW w).2 j = w j := by
  obtain ⟨i1, o1⟩ := wks_inv h (xr w 67) (Nat.le_refl _)
  have b1 := bk.wks h (xr w 67) (Nat.le_refl _)
  have i2 : iW (chsW (itr wkW w (xr w 67))) ∧ ∀ j, (62 ≤ j ∧ j < 748) ∨ 1348 ≤ j → chsW (itr wkW w (xr w 67)) j = itr wkW w (xr w 67) j := by
    unfold chsW
    split
    · exact ⟨i1, fun _ _ => Eq.refl _⟩
    · obtain ⟨z1, z2⟩ := chs_inv i1 (xr (itr wkW w (xr w 67)) 63) (Nat.le_refl _)
      exact ⟨z1, fun j hj => z2 j (by omega)⟩
  obtain ⟨i3, o3⟩ := i2
  have b2 := b1.trans (bk.chs i1)
  have e62 : xr (chsW (itr wkW w (xr w 67))) 62 = xr w 62 := by rw [xr_eq (o3 62 (by omega)), xr_eq (o1 62 (by omega))]
  obtain ⟨i4, o4, -⟩ := ag_inv i3 0 (xr w 62) (by rw [e62]; exact Nat.le_refl _)
  have b3 : bk w (psW w).2 := b2.trans (bk.ag i3 0 (xr w 62) (by rw [e62]; exact Nat.le_refl _))
  have i4' : iW (psW w).2 := i4
  have o4' : ∀ j, (62 ≤ j ∧ j < 748) ∨ 1348 ≤ j → (psW w).2 j = w j := fun j hj => (o4 j (by omega)).trans ((o3 j hj).trans (o1 j (by omega)))
  obtain ⟨i5, o5⟩ := en_inv i4' (xr (psW w).2 63) (Nat.le_refl _)
  have oE : ∀ j, j = 2 ∨ 62 ≤ j → edW (psW w).2 j = (psW w).2 j := fun j hj => by
    unfold edW
    rw [upd_n _ _ (by omega)]
    exact o5 j (by omega)
  exact ⟨b3.trans (bk.of (oE 2 (by omega)) (fun j hj => oE j (by omega))), fun j hj => (oE j (by omega)).trans (o4' j hj)⟩
end
