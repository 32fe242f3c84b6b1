-- ===== can, and to say =====
theorem cntP_but (Q : Nat → Bool) {p n : Nat} (hp : p < n) (hQ : Q p = true) : cntP Q n = cntP (fun o => !decide (o = p) && Q o) n + 1 := by
  have key : ∀ k, k ≤ n → cntP Q k = cntP (fun o => !decide (o = p) && Q o) k + (if p < k then 1 else 0) := by
    intro k
    induction k with
    | zero => intro _; rfl
    | succ k ih =>
      intro hk
      show cntP Q k + (Q k).toNat = (cntP (fun o => !decide (o = p) && Q o) k + (!decide (k = p) && Q k).toNat) + _
      rw [ih (by omega)]
      by_cases e : k = p
      · subst e
        rw [hQ, if_neg (Nat.lt_irrefl k), if_pos (Nat.lt_succ_self k)]
        simp
      · have e1 : (!decide (k = p) && Q k) = Q k := by simp [e]
        rw [e1]
        by_cases c : p < k
        · rw [if_pos c, if_pos (by omega)]
          omega
        · rw [if_neg c, if_neg (by omega)]
          omega
  rw [key n (Nat.le_refl n), if_pos hp]
theorem i_m1 (a : Nat) : nI (a + 1) - 1 = nI a := by
  rw [show (1 : Int32) = nI 1 from rfl, pk_sub (by omega)]
  rfl
/-- a call that makes no more than c cells of s slots -/
theorem w_cc {σ : xd_S} {p : xd_S → xd_K → Prop} {f : xd_K} (c s : Nat) (hc : c ≤ σ.2.2.1) (hs : s ≤ σ.2.2.2) (h : p (σ.1, σ.2.1, c, s) (fun r ro τ => f r ro (τ.1, τ.2.1, σ.2.2.1 - c, σ.2.2.2 - s))) : xd_ca p σ f := ⟨c, s, hc, hs, h⟩
section
variable {σ σ0 τ : xd_S} {fr fr0 : xd_M} {tg : lTg} {i t : Nat} {d : lD} {ta : Nat → Option Nat} {X : lX} {k p : Nat} {w : Nat → Int32} {N : Nat} {K : xd_K}
theorem tG.b (h : tG σ fr tg i t d ta X) {c s : Nat} : tG (σ.1, σ.2.1, c, s) fr tg i t d ta X := h
theorem fwd.b {fr2 : xd_M} (h : fwd tg i σ fr τ fr2) {c s : Nat} : fwd tg i σ fr (τ.1, τ.2.1, c, s) fr2 := h
theorem fwd.b0 {fr2 : xd_M} {c s : Nat} (h : fwd tg i (σ.1, σ.2.1, c, s) fr τ fr2) : fwd tg i σ fr τ fr2 := h
theorem w_can (h : tG σ fr tg i t d ta X) (hw : XW X w) (hi : iW w) (hl : lawR fr (ta 15) w) (hN : 100 ≤ N) (hp : p < 2 ^ 31) (hk : k < 2 ^ 31) (hK : K (nI (decide (p < xr w 63) && (decide (k < xr w 62) && sCan w p k)).toNat) none σ) : hX10_can N t (nI p) (nI k) σ K := by
  have hW := hi.nWB
  have hP := hi.nPB
  obtain ⟨-, hg, hT⟩ := id h
  unfold hX10_can
  refine t_gI hT (by omega) ?_
  rw [hw.np, hi.nP]
  by_cases c1 : p < xr w 63
  · rw [decide_eq_true c1, Bool.true_and] at hK
    refine w_f (by rw [xp_le (by omega) (by omega)]; omega) (t_gI hT (by omega) ?_)
    rw [hw.nw, hi.nW]
    have hpP : p < X.2.2.2.2.2.1 ∧ X.2.2.2.2.2.1 ≤ 10 := by rw [hw.nP]; omega
    by_cases c2 : k < xr w 62
    · rw [decide_eq_true c2, Bool.true_and] at hK
      have hkW : k < X.2.2.2.2.1 ∧ X.2.2.2.2.1 ≤ 14 := by rw [hw.nW]; omega
      refine w_f (by rw [xp_le (by omega) (by omega)]; omega) (t_g9 hT (t_aM hT rfl hpP (t_mI hT hpP.1 (j := 1) rfl (by omega) ?_)))
      rw [hw.tongue c1, hi.tongue (by omega), show (31 : Int32) = nI 31 from rfl, show (1 : Int32) = nI 1 from rfl, xp_tb (by have := hi.tongueB (p := p) (by omega); omega) (by omega)]
      unfold sCan at hK
      by_cases c3 : (xr w (42 + p)).testBit k = true
      · rw [c3, Bool.true_and] at hK
        rw [c3]
        refine w_f (by simp) (t_g8 hT (t_aW hT rfl hkW (t_wI hT hkW.1 (j := 2) rfl (by omega) ?_)))
        rw [hw.lapsed c2]
        by_cases c4 : (xr w 3).testBit k = true
        · rw [c4] at hK ⊢
          exact w_t (by decide) (w_rb (Or.inl rfl) hK)
        · have c4' : (xr w 3).testBit k = false := by simpa using c4
          rw [c4', Bool.not_false, Bool.true_and] at hK
          rw [c4']
          refine w_f (by decide) (t_g9 hT (t_aM hT rfl hpP (t_mI hT hpP.1 (j := 2) rfl (by omega) ?_)))
          refine t_g9 hT (t_aM hT rfl hpP (t_mI hT hpP.1 (j := 0) rfl (by omega) ?_))
          rw [hw.breath c1, hw.at c1, hi.at (by omega)]
          refine t_is hT (w_c0 (w_says (σ := (σ.1, σ.2.1, 0, 0)) (m := 2) h.b hw hi hl hN c2 (hi.atB (p := p) (by omega)) (by omega) rfl rfl (fun z => absurd z (by omega)) ?_))
          show ite (w (52 + p) < sTire w k (xr w (32 + p))) _ _
          by_cases c5 : w (52 + p) < sTire w k (xr w (32 + p))
          · rw [decide_eq_true c5] at hK
            exact w_t c5 (w_rb (Or.inl rfl) hK)
          · rw [decide_eq_false c5] at hK
            exact w_f c5 (w_rb (Or.inr rfl) hK)
      · have c3' : (xr w (42 + p)).testBit k = false := by simpa using c3
        rw [c3'] at hK ⊢
        exact w_t (by decide) (w_rb (Or.inl rfl) hK)
    · rw [decide_eq_false c2] at hK
      exact w_t (by rw [xp_le (by omega) (by omega)]; omega) (w_rb (Or.inl rfl) hK)
  · rw [decide_eq_false c1] at hK
    exact w_t (by rw [xp_le (by omega) (by omega)]; omega) (w_rb (Or.inl rfl) hK)
-- what stays in a row
theorem iW.br {w : Nat → Int32} (h : iW w) (hp : p < 10) (hk : k < 14) (hc : sCan w p k = true) : iW (brW w p k) := by
  have hb := h.breathB hp
  obtain ⟨m, hm, he⟩ := sTire_n h (xr w (32 + p)) hk
  unfold sCan at hc
  rw [Bool.and_eq_true, Bool.and_eq_true, Bool.not_eq_true', Bool.not_eq_true'] at hc
  have hti := of_decide_eq_false hc.2.2
  rw [he, h.breath hp, nI_ltI (by omega) (by omega)] at hti
  refine h.up (by omega) (by omega) (by omega) (by omega) (by omega) (by omega) (by omega) (fun _ => ⟨xr w (52 + p) - m, by omega, ?_⟩)
  rw [h.breath hp, he, pk_sub (by omega)]
theorem iW.h0 {w : Nat → Int32} (h : iW w) (hk : k < 14) : iW (h0W w k) := (h.up (j := 4 + k) (v := nI 0) (by omega) (by omega) (by omega) (by omega) (fun _ _ => ⟨0, by omega, rfl⟩) (by omega) (by omega) (by omega)).up (by omega) (by omega) (by omega) (by omega) (by omega) (by omega) (by omega) (by omega)
theorem iW.hv {w : Nat → Int32} (h : iW w) {u : Nat} (hu : u < 14) : iW (hvW k u w) := by
  unfold hvW
  split
  · have := h.unsaidB hu
    exact h.up (by omega) (by omega) (by omega) (by omega) (fun _ _ => ⟨xr w (4 + u) / 2, by omega, rfl⟩) (by omega) (by omega) (by omega)
  · exact h
theorem iW.tw {w : Nat → Int32} (h : iW w) {a q : Nat} (hq : q < 10) (hk : k < xr w 62) : iW (tgW a k q w) := by
  unfold tgW
  split
  · exact h.up (by omega) (by omega) (by omega) (by omega) (by omega) (by omega) (fun _ _ => ⟨xr w (42 + q) ||| 2 ^ k, Nat.or_lt_two_pow (h.tongueP hq) (p2_lt hk), rfl⟩) (by omega)
  · exact h
theorem iW.hvs {w : Nat → Int32} (h : iW w) : ∀ n, n ≤ xr w 62 → iW (itr (hvW k) w n) := by
  have hW := h.nWB
  intro n
  induction n with
  | zero => intro _; exact h
  | succ n ih => intro hn; exact (ih (by omega)).hv (by omega)
theorem iW.tgs {w : Nat → Int32} (h : iW w) {a : Nat} (hk : k < xr w 62) : ∀ n, n ≤ xr w 63 → iW (itr (tgW a k) w n) := by
  have hP := h.nPB
  intro n
  induction n with
  | zero => intro _; exact h
  | succ n ih =>
    intro hn
    refine (ih (by omega)).tw (by omega) ?_
    rw [xr_eq (itr_o w (fun i v hi => tgW_o v (by omega)) n (Nat.le_refl n))]
    exact hk
theorem iW.he {w : Nat → Int32} (h : iW w) (hk : k < xr w 62) : iW (heW w p k) := by
  have hW := h.nWB
  have hP := h.nPB
  have h1 := h.h0 (k := k) (by omega)
  have e62 : xr (h0W w k) 62 = xr w 62 := xr_eq (h0W_o w (by omega) (by omega))
  have e63 : xr (h0W w k) 63 = xr w 63 := xr_eq (h0W_o w (by omega) (by omega))
  have h2 := h1.hvs (k := k) (xr w 62) (by rw [e62]; omega)
  have g62 : xr (itr (hvW k) (h0W w k) (xr w 62)) 62 = xr w 62 := (xr_eq (itr_o _ (fun i v hi => hvW_o v (by omega)) _ (Nat.le_refl _))).trans e62
  have g63 : xr (itr (hvW k) (h0W w k) (xr w 62)) 63 = xr w 63 := (xr_eq (itr_o _ (fun i v hi => hvW_o v (by omega)) _ (Nat.le_refl _))).trans e63
  exact h2.tgs (by rw [g62]; exact hk) _ (by rw [g63]; omega)
theorem iW.sa {w : Nat → Int32} (h : iW w) (hp : p < xr w 63) (hk : k < xr w 62) (hc : sCan w p k = true) : iW (saW w p k) := by
  have hW := h.nWB
  have hP := h.nPB
  have h1 := h.br (by omega) (by omega) hc
  have e62 : xr (brW w p k) 62 = xr w 62 := xr_eq (upd_n _ _ (by omega))
  unfold saW
  split
  · exact (h1.he (by rw [e62]; exact hk)).nt _ _ _
  · exact h1.nt _ _ _
theorem he_nt {w : Nat → Int32} (h : iW w) (hp : p < xr w 63) (hk : k < xr w 62) (a b c : Int32) : heW (ntw w a b c) p k = ntw (heW w p k) a b c := by
  have hW := h.nWB
  have hP := h.nPB
  have hB := h.bookB
  have e0 : heW w p k 0 = w 0 := heW_o h hk (by omega)
  have e2 : heW w p k 2 = w 2 := heW_o h hk (by omega)
  have eb : ∀ j, 748 ≤ j → j < 1348 → heW w p k j = w j := fun j h1 h2 => heW_o h hk (by omega)
  rw [← mix_nt a b c hB e0 e2 eb]
  have e1 : ntw w a b c = mixB w (ntw w a b c) := ntw_mix w a b c hB
  generalize hv : ntw w a b c = v at e1 ⊢
  rw [e1]
  unfold heW
  have m : ∀ (u : Nat → Int32) (j : Nat), j ≠ 2 → j < 748 → xr (mixB u v) j = xr u j := fun u j h1 h2 => mixB_x h1 h2
  rw [m w 62 (by omega) (by omega), m w 63 (by omega) (by omega)]
  rw [m w (32 + p) (by omega) (by omega)]
  have s1 : h0W (mixB w v) k = mixB (h0W w k) v := by
    unfold h0W
    rw [mixB_upd _ _ _ (by omega) (by omega), mixB_upd _ _ _ (by omega) (by omega), mixB_o (by omega) (by omega)]
  have s2 := itr_mix (F := hvW k) (v := v) (xr w 62) (fun i u hi => by
    unfold hvW
    rw [m u _ (by omega) (by omega), m u _ (by omega) (by omega), m u _ (by omega) (by omega)]
    split
    · rw [mixB_upd _ _ _ (by omega) (by omega)]
    · rfl) (h0W w k)
  have s3 := itr_mix (F := tgW (xr w (32 + p)) k) (v := v) (xr w 63) (fun i u hi => by
    unfold tgW
    rw [m u _ (by omega) (by omega), m u _ (by omega) (by omega)]
    split
    · rw [mixB_upd _ _ _ (by omega) (by omega)]
    · rfl) (itr (hvW k) (h0W w k) (xr w 62))
  rw [s1, s2, s3, ← e1]
end
