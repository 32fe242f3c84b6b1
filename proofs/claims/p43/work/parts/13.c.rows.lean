-- ===== what the deeds do to a row =====
theorem upd_s (f : Nat → Int32) (j : Nat) (v : Int32) : upd f j v j = v := by simp [upd]
theorem upd_n (f : Nat → Int32) {j i : Nat} (v : Int32) (h : i ≠ j) : upd f j v i = f i := by simp [upd, h]
theorem wr_upd (w : Nat → Int32) (j : Nat) (v : Int32) : xc_wr (fun _ => w) 1 j v 1 = upd w j v := by
  funext i
  by_cases h : i = j
  · rw [h, upd_s, xp_wr_s]
  · rw [upd_n _ _ h, xp_wr_k h]
theorem wr_updJ (J : xc_M) (j : Nat) (v : Int32) : xc_wr J 1 j v 1 = upd (J 1) j v := by
  funext i
  by_cases h : i = j
  · rw [h, upd_s, xp_wr_s]
  · rw [upd_n _ _ h, xp_wr_k h]
theorem iW.up {w : Nat → Int32} (h : iW w) {j : Nat} {v : Int32} (hj : j < 62) (h0 : j = 0 → vOK v (2 ^ 30)) (h2 : j = 2 → vOK v 151) (h3 : j = 3 → vOK v (2 ^ xr w 62)) (hu : 4 ≤ j → j < 18 → vOK v 10000) (ha : 32 ≤ j → j < 42 → vOK v 10) (ht : 42 ≤ j → j < 52 → vOK v (2 ^ xr w 62)) (hb : 52 ≤ j → vOK v 100) : iW (upd w j v) := by
  have e := wr_upd w j v
  have e62 : xr (upd w j v) 62 = xr w 62 := xr_eq (upd_n _ _ (by omega))
  refine ⟨?_, cI_c (w := w) (fun i h1 _ => upd_n _ _ (by omega)) h.2⟩
  rw [e62, ← e]
  exact bI_wr (J := fun _ => w) h.1 h.nWB h0 h2 h3 hu ha ht (fun a _ => hb a)
/-- a line of the book -/
def ntw (w : Nat → Int32) (a b c : Int32) : Nat → Int32 := if xr w 2 = 150 then w else fun j => if j = 748 + 4 * xr w 2 then w 0 else if j = 748 + 4 * xr w 2 + 1 then a else if j = 748 + 4 * xr w 2 + 2 then b else if j = 748 + 4 * xr w 2 + 3 then c else if j = 2 then nI (xr w 2 + 1) else w j
theorem ntw_o {w : Nat → Int32} {a b c : Int32} {j : Nat} (h2 : j ≠ 2) (h : j < 748 ∨ 748 + 4 * xr w 2 + 4 ≤ j ∨ j < 748 + 4 * xr w 2) : ntw w a b c j = w j := by
  unfold ntw
  split
  · rfl
  · simp only [if_neg (show ¬ j = 748 + 4 * xr w 2 by omega), if_neg (show ¬ j = 748 + 4 * xr w 2 + 1 by omega), if_neg (show ¬ j = 748 + 4 * xr w 2 + 2 by omega), if_neg (show ¬ j = 748 + 4 * xr w 2 + 3 by omega), if_neg h2]
theorem ntw_c {w : Nat → Int32} (a b c : Int32) (hB : xr w 2 < 151) : ceq w (ntw w a b c) := by
  intro j h1 h2
  by_cases e : xr w 2 = 150
  · unfold ntw
    rw [if_pos e]
  · exact ntw_o (by omega) (by omega)
theorem iW.nt {w : Nat → Int32} (h : iW w) (a b c : Int32) : iW (ntw w a b c) := by
  have hB := h.bookB
  have e : ∀ j, j ≠ 2 → j < 748 → ntw w a b c j = w j := fun j h1 h2 => ntw_o h1 (by omega)
  refine ⟨?_, cI_c (ntw_c a b c hB) h.2⟩
  rw [xr_eq (e 62 (by omega) (by omega))]
  obtain ⟨c0, c2, c3, cu, ca, ct, cb⟩ := h.1
  refine ⟨vN_eq (e _ (by omega) (by omega)) c0, ?_, vN_eq (e _ (by omega) (by omega)) c3, fun k hk => vN_eq (e _ (by omega) (by omega)) (cu k hk), fun k hk => vN_eq (e _ (by omega) (by omega)) (ca k hk), fun k hk => vN_eq (e _ (by omega) (by omega)) (ct k hk), fun k hk => vN_eq (e _ (by omega) (by omega)) (cb k hk)⟩
  by_cases e : xr w 2 = 150
  · unfold ntw
    rw [if_pos e]
    exact c2
  · refine vN_mk (v := xr w 2 + 1) ?_ (by omega) (by omega)
    unfold ntw
    rw [if_neg e, if_neg (by omega), if_neg (by omega), if_neg (by omega), if_neg (by omega), if_pos rfl]
/-- the book of another row -/
def mixB (w v : Nat → Int32) : Nat → Int32 := fun j => if j = 2 ∨ (748 ≤ j ∧ j < 1348) then v j else w j
theorem ntw_mix (w : Nat → Int32) (a b c : Int32) (hB : xr w 2 < 151) : ntw w a b c = mixB w (ntw w a b c) := by
  funext j
  unfold mixB
  split
  · rfl
  · by_cases e : xr w 2 = 150
    · unfold ntw
      rw [if_pos e]
    · exact ntw_o (by omega) (by omega)
theorem mixB_upd (w v : Nat → Int32) {j : Nat} (x : Int32) (h2 : j ≠ 2) (hj : j < 748) : mixB (upd w j x) v = upd (mixB w v) j x := by
  funext i
  unfold mixB
  by_cases e : i = j
  · rw [e, upd_s, upd_s, if_neg (by omega)]
  · rw [upd_n _ _ e, upd_n _ _ e]
theorem mixB_o {w v : Nat → Int32} {j : Nat} (h2 : j ≠ 2) (hj : j < 748) : mixB w v j = w j := if_neg (by omega)
theorem mixB_x {w v : Nat → Int32} {j : Nat} (h2 : j ≠ 2) (hj : j < 748) : xr (mixB w v) j = xr w j := xr_eq (mixB_o h2 hj)
/-- the book of a line noted behind or before a change elsewhere -/
theorem mix_nt {w v : Nat → Int32} (a b c : Int32) (hB : xr w 2 < 151) (h0 : v 0 = w 0) (h2 : v 2 = w 2) (hb : ∀ j, 748 ≤ j → j < 1348 → v j = w j) : mixB v (ntw w a b c) = ntw v a b c := by
  have e2 : xr v 2 = xr w 2 := xr_eq h2
  funext j
  unfold mixB ntw
  rw [e2, h0]
  by_cases e : xr w 2 = 150
  · simp only [e, if_true]
    split
    · rename_i hj
      rcases hj with hj | hj
      · rw [hj, h2]
      · rw [hb j hj.1 hj.2]
    · rfl
  · simp only [e, if_false]
    by_cases hj : j = 2 ∨ (748 ≤ j ∧ j < 1348)
    · rw [if_pos hj]
      rcases hj with hj | hj
      · subst hj
        simp only [if_neg (show ¬ 2 = 748 + 4 * xr w 2 by omega), if_neg (show ¬ 2 = 748 + 4 * xr w 2 + 1 by omega), if_neg (show ¬ 2 = 748 + 4 * xr w 2 + 2 by omega), if_neg (show ¬ 2 = 748 + 4 * xr w 2 + 3 by omega), if_true]
      · rw [hb j hj.1 hj.2]
    · rw [if_neg hj, if_neg (by omega), if_neg (by omega), if_neg (by omega), if_neg (by omega), if_neg (by omega)]
theorem itr_mix {F : Nat → (Nat → Int32) → Nat → Int32} {v : Nat → Int32} (n : Nat) (hF : ∀ i w, i < n → F i (mixB w v) = mixB (F i w) v) (w : Nat → Int32) : itr F (mixB w v) n = mixB (itr F w n) v := by
  have key : ∀ k, k ≤ n → itr F (mixB w v) k = mixB (itr F w k) v := by
    intro k
    induction k with
    | zero => intro _; rfl
    | succ k ih =>
      intro hk
      show F k (itr F (mixB w v) k) = mixB (F k (itr F w k)) v
      rw [ih (by omega), hF k _ (by omega)]
  exact key n (Nat.le_refl n)
-- what a word heard does
def hvW (k u : Nat) (w : Nat → Int32) : Nat → Int32 := if (xdf (xr w (84 + k)) (xr w 3)).testBit u then upd w (4 + u) (nI (xr w (4 + u) / 2)) else w
def tgW (a k q : Nat) (w : Nat → Int32) : Nat → Int32 := if xr w (32 + q) = a then upd w (42 + q) (nI (xr w (42 + q) ||| 2 ^ k)) else w
def h0W (w : Nat → Int32) (k : Nat) : Nat → Int32 := upd (upd w (4 + k) (nI 0)) (18 + k) (w (18 + k) + 1)
def heW (w : Nat → Int32) (p k : Nat) : Nat → Int32 := itr (tgW (xr w (32 + p)) k) (itr (hvW k) (h0W w k) (xr w 62)) (xr w 63)
def brW (w : Nat → Int32) (p k : Nat) : Nat → Int32 := upd w (52 + p) (w (52 + p) - sTire w k (xr w (32 + p)))
def sHd (w : Nat → Int32) (p k : Nat) : Bool := !decide (nI (sOt w p k) < sHear w k (xr w (32 + p)))
def saW (w : Nat → Int32) (p k : Nat) : Nat → Int32 := if sHd w p k then ntw (heW (brW w p k) p k) 0 (nI p) (nI k) else ntw (brW w p k) 1 (nI p) (nI k)
theorem h0W_o (w : Nat → Int32) {k j : Nat} (h1 : j ≠ 4 + k) (h2 : j ≠ 18 + k) : h0W w k j = w j := by
  unfold h0W
  rw [upd_n _ _ h2, upd_n _ _ h1]
theorem hvW_o (w : Nat → Int32) {k u j : Nat} (h : j ≠ 4 + u) : hvW k u w j = w j := by
  unfold hvW
  split
  · exact upd_n _ _ h
  · rfl
theorem tgW_o (w : Nat → Int32) {a k q j : Nat} (h : j ≠ 42 + q) : tgW a k q w j = w j := by
  unfold tgW
  split
  · exact upd_n _ _ h
  · rfl
theorem itr_o {F : Nat → (Nat → Int32) → Nat → Int32} {j n : Nat} (w : Nat → Int32) (hF : ∀ i v, i < n → F i v j = v j) : ∀ i, i ≤ n → itr F w i j = w j := by
  intro i
  induction i with
  | zero => intro _; rfl
  | succ i ih =>
    intro hi
    show F i (itr F w i) j = w j
    rw [hF i _ (by omega), ih (by omega)]
/-- but for words' silence and people's tongues, and how often k was said, nothing -/
theorem heW_o {w : Nat → Int32} (h : iW w) {p k j : Nat} (hk : k < xr w 62) (hj : j < 4 ∨ (32 ≤ j ∧ j < 42) ∨ 52 ≤ j) : heW w p k j = w j := by
  have hW := h.nWB
  have hP := h.nPB
  unfold heW
  rw [itr_o _ (fun i v hi => tgW_o v (by omega)) _ (Nat.le_refl _), itr_o _ (fun i v hi => hvW_o v (by omega)) _ (Nat.le_refl _), h0W_o _ (by omega) (by omega)]
