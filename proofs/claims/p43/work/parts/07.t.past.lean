-- ===== copies; all that is on both sides; what can be undone =====
theorem cpy_in {I : xc_M} {a b n j : Nat} (h : j < n) : xc_cpy I a 0 b 0 n b j = I a j := by
  unfold xc_cpy
  rw [if_pos ⟨rfl, Nat.zero_le _, by omega⟩]
  congr 1
  omega
theorem cpy_out {I : xc_M} {a b n c : Nat} (h : c ≠ b) : xc_cpy I a 0 b 0 n c = I c := by
  funext j
  unfold xc_cpy
  rw [if_neg (fun z => h z.1)]
theorem e_cp {α : Type} {n0 a0 n1 a1 m : Nat} {s0 s1 mm : Int32} {I : xc_M} {f : xc_M → Option α} {r : Option α} (h0 : s0 = 0) (h1 : s1 = 0) (hs : mm = nI m) (hm : m ≤ n0 ∧ m ≤ n1 ∧ m < 2 ^ 31) (h : f (xc_cpy I a0 0 a1 0 m) = r) : xc_cp n0 a0 s0 n1 a1 s1 mm I f = r := by
  subst h0 h1 hs
  unfold xc_cp
  rw [if_neg, sb_cl0, nI_clamp hm.2.2]
  · exact h
  · rw [sb_cl0, nI_clamp hm.2.2]
    have h1 : ¬ (0 : Int32) < 0 := by decide
    have h2 := nI_pos hm.2.2
    simp only [h1, h2, false_or]
    omega
theorem itr_copy {n a o : Nat} {J : xc_M} {f : Nat → xc_M → xc_M} (g : Nat → Int32) (hf : ∀ k K, k < n → (∀ c, c ≠ a → K c = J c) → (∀ j, o + k ≤ j → K a j = J a j) → f k K = xc_wr K a (o + k) (g k)) : ∀ i, i ≤ n → (∀ c, c ≠ a → itr f J i c = J c) ∧ (∀ j, itr f J i a j = if o ≤ j ∧ j < o + i then g (j - o) else J a j) := by
  intro i
  induction i with
  | zero => exact fun _ => ⟨fun _ _ => rfl, fun j => by rw [if_neg (by omega)]; rfl⟩
  | succ i ih =>
    intro hi
    obtain ⟨h1, h2⟩ := ih (by omega)
    have e : itr f J (i + 1) = xc_wr (itr f J i) a (o + i) (g i) := hf i _ (by omega) h1 (fun j hj => by rw [h2 j, if_neg (by omega)])
    rw [e]
    refine ⟨fun c hc => by rw [xp_wr_cell hc]; exact h1 c hc, fun j => ?_⟩
    by_cases hj : j = o + i
    · subst hj
      rw [xp_wr_s, if_pos (by omega)]
      congr 1
      omega
    · rw [xp_wr_k hj, h2 j]
      by_cases hc : o ≤ j ∧ j < o + i
      · rw [if_pos hc, if_pos (by omega)]
      · rw [if_neg hc, if_neg (by omega)]
theorem become0 {c c2 : Nat} (hd : c + 6 ≤ c2 ∨ c2 + 6 ≤ c) (I : xc_M) : ∃ I', fX0_become c c2 I = some (nI 0, I') ∧ (∀ w, bR c2 I w → bR c I' w) ∧ (∀ a, a < c ∨ c + 6 ≤ a → I' a = I a) := by
  refine ⟨xc_cpy (xc_cpy (xc_cpy (xc_cpy (xc_cpy (xc_wr (xc_wr (xc_wr I c 0 (I c2 0)) c 1 (I c2 1)) c 2 (I c2 2)) (c2 + 1) 0 (c + 1) 0 14) (c2 + 2) 0 (c + 2) 0 14) (c2 + 3) 0 (c + 3) 0 10) (c2 + 4) 0 (c + 4) 0 10) (c2 + 5) 0 (c + 5) 0 10, ?_, ?_, ?_⟩
  · unfold fX0_become
    refine e_mw rfl ?_
    refine e_mw (xp_wr_c (by omega)) ?_
    refine e_mw ((xp_wr_c (by omega)).trans (xp_wr_c (by omega))) ?_
    refine e_cp rfl rfl (m := 14) rfl (by omega) ?_
    refine e_cp rfl rfl (m := 14) rfl (by omega) ?_
    refine e_cp rfl rfl (m := 10) rfl (by omega) ?_
    refine e_cp rfl rfl (m := 10) rfl (by omega) ?_
    refine e_cp rfl rfl (m := 10) rfl (by omega) ?_
    rfl
  · rintro w ⟨h1, h2, h3, h4, h5, h6, h7, h8⟩
    refine ⟨?_, ?_, ?_, fun k hk => ?_, fun k hk => ?_, fun k hk => ?_, fun k hk => ?_, fun k hk => ?_⟩
    · rw [cpy_out (by omega), cpy_out (by omega), cpy_out (by omega), cpy_out (by omega), cpy_out (by omega), xp_wr_k (by omega), xp_wr_k (by omega), xp_wr_s]; exact h1
    · rw [cpy_out (by omega), cpy_out (by omega), cpy_out (by omega), cpy_out (by omega), cpy_out (by omega), xp_wr_k (by omega), xp_wr_s]; exact h2
    · rw [cpy_out (by omega), cpy_out (by omega), cpy_out (by omega), cpy_out (by omega), cpy_out (by omega), xp_wr_s]; exact h3
    · rw [cpy_out (by omega), cpy_out (by omega), cpy_out (by omega), cpy_out (by omega), cpy_in hk, xp_wr_c (by omega), xp_wr_c (by omega), xp_wr_c (by omega)]; exact h4 k hk
    · rw [cpy_out (by omega), cpy_out (by omega), cpy_out (by omega), cpy_in hk, cpy_out (by omega), xp_wr_c (by omega), xp_wr_c (by omega), xp_wr_c (by omega)]; exact h5 k hk
    · rw [cpy_out (by omega), cpy_out (by omega), cpy_in hk, cpy_out (by omega), cpy_out (by omega), xp_wr_c (by omega), xp_wr_c (by omega), xp_wr_c (by omega)]; exact h6 k hk
    · rw [cpy_out (by omega), cpy_in hk, cpy_out (by omega), cpy_out (by omega), cpy_out (by omega), xp_wr_c (by omega), xp_wr_c (by omega), xp_wr_c (by omega)]; exact h7 k hk
    · rw [cpy_in hk, cpy_out (by omega), cpy_out (by omega), cpy_out (by omega), cpy_out (by omega), xp_wr_c (by omega), xp_wr_c (by omega), xp_wr_c (by omega)]; exact h8 k hk
  · intro a ha
    rw [cpy_out (by omega), cpy_out (by omega), cpy_out (by omega), cpy_out (by omega), cpy_out (by omega), xp_wr_cell (by omega), xp_wr_cell (by omega), xp_wr_cell (by omega)]
def bRow (J : xc_M) (t : Nat) : Nat → Int32 := fun j => J 3 (62 * t + j)
def pSlot (l t : Nat) : Nat := (l + 6 - t) % 6
def pastE (I J : xc_M) (n l : Nat) : Prop := n ≤ 6 ∧ l < 6 ∧ I 91 0 = nI n ∧ J 0 4 = nI n ∧ I 91 1 = nI l ∧ ∀ t, t < n → bR (94 + 6 * pSlot l t) I (bRow J (n - 1 - t)) ∧ I 93 (pSlot l t) = bRow J (n - 1 - t) 2 ∧ bI (xr (J 1) 62) (bRow J (n - 1 - t)) ∧ xr (bRow J (n - 1 - t)) 0 < 10000
def pastR (I J : xc_M) : Prop := ∃ n l, pastE I J n l
def tapR (I J : xc_M) : Prop := ∃ t, t ≤ 400 ∧ I 130 0 = nI t ∧ J 0 18 = nI t ∧ ∀ j, j < t → ∃ c, c < 256 ∧ J 10 j = nI c ∧ I 131 j &&& 255 = nI c
def fauR (I J : xc_M) : Prop := I 132 0 = J 0 25 ∧ I 132 1 = J 0 27
def imgR (I J : xc_M) : Prop := (I 0 6 = nI 0 ∧ J 0 5 = nI 0) ∨ (I 0 6 = nI 1 ∧ J 0 5 = nI 1 ∧ xW true 31 I (J 2) ∧ xr (J 2) 0 < 10000)
/-- both sides hold the same -/
def RR (I J : xc_M) : Prop := xW true 1 I (J 1) ∧ xr (J 1) 0 < 10000 ∧ pastR I J ∧ tapR I J ∧ fauR I J ∧ imgR I J
theorem pSlot_lt (l t : Nat) : pSlot l t < 6 := Nat.mod_lt _ (by decide)
theorem pastR_keep {I J I' J' : xc_M} (hI : ∀ a, 91 ≤ a → a < 130 → I' a = I a) (hJ4 : J' 0 4 = J 0 4) (hJ3 : J' 3 = J 3) (hW : xr (J' 1) 62 = xr (J 1) 62) (h : pastR I J) : pastR I' J' := by
  obtain ⟨n, l, h1, h2, h3, h4, h5, h6⟩ := h
  have hb : ∀ t, bRow J' t = bRow J t := fun t => by unfold bRow; rw [hJ3]
  refine ⟨n, l, h1, h2, by rw [hI 91 (by omega) (by omega)]; exact h3, hJ4.trans h4, by rw [hI 91 (by omega) (by omega)]; exact h5, fun t ht => ?_⟩
  obtain ⟨a1, a2, a3, a4⟩ := h6 t ht
  have hs := pSlot_lt l t
  rw [hb, hW, hI 93 (by omega) (by omega)]
  refine ⟨?_, a2, a3, a4⟩
  unfold bR at a1 ⊢
  rw [hI _ (by omega) (by omega), hI _ (by omega) (by omega), hI _ (by omega) (by omega), hI _ (by omega) (by omega), hI _ (by omega) (by omega), hI _ (by omega) (by omega)]
  exact a1
theorem imgR_keep {I J I' J' : xc_M} (hI : ∀ a, 31 ≤ a → a < 59 → I' a = I a) (hI0 : I' 0 6 = I 0 6) (hJ : J' 0 5 = J 0 5) (hJ2 : J' 2 = J 2) (h : imgR I J) : imgR I' J' := by
  rcases h with ⟨h1, h2⟩ | ⟨h1, h2, h3, h4⟩
  · exact Or.inl ⟨hI0.trans h1, hJ.trans h2⟩
  · exact Or.inr ⟨hI0.trans h1, hJ.trans h2, by rw [hJ2]; exact xW_frame (fun a a1 a2 => hI a a1 (by omega)) h3, by rw [hJ2]; exact h4⟩
theorem tapR_keep {I J I' J' : xc_M} (hI : I' 130 = I 130) (hI1 : I' 131 = I 131) (hJ : J' 0 18 = J 0 18) (hJ2 : J' 10 = J 10) (h : tapR I J) : tapR I' J' := by
  obtain ⟨t, h1, h2, h3, h4⟩ := h
  exact ⟨t, h1, by rw [hI]; exact h2, hJ.trans h3, fun j hj => by rw [hJ2, hI1]; exact h4 j hj⟩
theorem fauR_keep {I J I' J' : xc_M} (hI : I' 132 = I 132) (hJ : J' 0 25 = J 0 25) (hJ2 : J' 0 27 = J 0 27) (h : fauR I J) : fauR I' J' := ⟨by rw [hI, hJ]; exact h.1, by rw [hI, hJ2]; exact h.2⟩
theorem RR_xS {I0 J0 I J : xc_M} (h : xS true 1 I0 J0 I J) (hd : xr (J 1) 0 < 10000) (hp : pastR I0 J0) (ht : tapR I0 J0) (hf : fauR I0 J0) (hi : imgR I0 J0) : RR I J := by
  obtain ⟨h1, h2, h3, h4, h5, h6, h7⟩ := h
  exact ⟨h1, hd, pastR_keep (fun a _ _ => h3 a (by omega)) (h5 4 (by omega) (by omega)) (h4 3 (by omega) (by omega) (by omega) (by omega)) (h6.x (by omega) (by omega)) hp, tapR_keep (h3 130 (by omega)) (h3 131 (by omega)) (h5 18 (by omega) (by omega)) (h4 10 (by omega) (by omega) (by omega) (by omega)) ht, fauR_keep (h3 132 (by omega)) (h5 25 (by omega) (by omega)) (h5 27 (by omega) (by omega)) hf, imgR_keep (fun a _ _ => h3 a (by omega)) (by rw [h3 0 (by omega)]) (h5 5 (by omega) (by omega)) (h4 2 (by omega) (by omega) (by omega) (by omega)) hi⟩
theorem xS_refl {I J : xc_M} (h : xW true 1 I (J 1)) (h29 : J 0 29 = nI 1) : xS true 1 I J I J := ⟨h, h29, fun _ _ => rfl, fun _ _ _ _ _ => rfl, fun _ _ _ => rfl, fun _ _ _ => rfl, fun _ _ _ => rfl⟩
