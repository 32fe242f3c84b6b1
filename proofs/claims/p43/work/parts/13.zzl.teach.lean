section
variable {σ τ ρ σ0 τ0 : xd_S} {fr fr2 fr3 : xd_M} {tg tg2 : lTg} {i t : Nat} {d : lD} {ta ta2 : Nat → Option Nat} {X X2 : lX} {N M : Nat} {K : xd_K} {n k j e p b13 C S : Nat} {J : xc_M} {w w2 : Nat → Int32} {Sc : Nat × Nat × (Nat → Int32)} {ce : xd_C}
/-- while a person's words are taught: up to the word k -/
def TLI (tg : lTg) (i t : Nat) (d : lD) (ta : Nat → Option Nat) (b13 n p C S k : Nat) (τ : xd_S) : Prop := ∃ (fr : xd_M) (X : lX) (J : xc_M), TS τ fr tg i t d ta X J ∧ mlT tg i τ.1 b13 ∧ xr (J 1) 62 = n ∧ xr (J 1) 63 = p + 1 ∧ xr (J 1) 3 = 0 ∧ xr (J 1) (42 + p) < 2 ^ k ∧ C ≤ τ.2.2.1 + k ∧ S ≤ τ.2.2.2 + 4 * k
theorem te_step {v4 v5 v8 : Int32} {k560 : Int32 → Nat → Int32 → Int32 → Int32 → Int32 → xd_S → Prop} {k692 : Int32 → Nat → Int32 → Int32 → Int32 → Int32 → Int32 → Int32 → xd_S → Prop} (hN : 1000 ≤ N) (hk : k < n) (hC : 100 ≤ C) (hS : 1000 ≤ S) (h : TLI tg i t d ta b13 n p C S k τ) (hK : ∀ τ', TLI tg i t d ta b13 n p C S (k + 1) τ' → k692 0 t v4 v5 (nI n) v8 (nI p) (nI (k + 1)) τ') : hbL_talk_692 N M Sc K k560 k692 0 t v4 v5 (nI n) v8 (nI p) (nI k) τ := by
  obtain ⟨fr, X, J, ⟨hG, hw, hRR, h18, hl, h0, e13, hbt⟩, hml, h62, h63, h3, h42, hCk, hSk⟩ := h
  have hi := hRR.1.i
  have hWB := hi.nWB
  have hPB := hi.nPB
  have hpk : 2 ^ k < 2 ^ (k + 1) := p2_lt (by omega)
  unfold hbL_talk_692
  refine w_f (by rw [xp_le (by omega) (by omega)]; omega) ?_
  by_cases hb : ((v5 >>> ((nI k + 2) &&& 31)) &&& 1) = 1
  · refine w_f (fun z => z hb) ?_
    have hjP : p < X.2.2.2.2.2.1 ∧ X.2.2.2.2.2.1 ≤ 10 := by rw [hw.nP]; omega
    have hp : p < xr (J 1) 63 := by omega
    refine t_g9 hG.T (t_aM hG.T (Eq.refl _) hjP (t_mI hG.T hjP.1 (j := 1) (Eq.refl _) (by omega) ?_))
    rw [hw.tongue hp, hi.tongue (by omega), show (31 : Int32) = nI 31 from rfl, show (1 : Int32) = nI 1 from rfl, xp_bs (by omega), xp_or]
    refine g_mS hG hjP.1 (j := 1) (Eq.refl _) (by omega) (Eq.refl _) (fun τ1 q1 q2 q3 => ?_)
    have hXu := hw.uM hi hp (j := 1) (v := nI (xr (J 1) (42 + p) ||| 2 ^ k)) (by omega)
    have hiu : iW (upd (J 1) (42 + p) (nI (xr (J 1) (42 + p) ||| 2 ^ k))) := hi.up (by omega) (by omega) (by omega) (by omega) (by omega) (by omega) (fun _ _ => ⟨xr (J 1) (42 + p) ||| 2 ^ k, Nat.or_lt_two_pow (hi.tongueP (by omega)) (p2_lt (by omega)), rfl⟩) (by omega)
    have c1 : τ1.2.2.1 = τ.2.2.1 := by rw [q1]
    have c2 : τ1.2.2.2 = τ.2.2.2 := by rw [q1]
    refine t_is q3.T (w_cc 1 4 (by omega) (by omega) (w_notes (σ := (τ1.1, τ1.2.1, 1, 4)) (w := upd (J 1) (42 + p) (nI (xr (J 1) (42 + p) ||| 2 ^ k))) q3.st hXu hiu (Eq.refl _) (Nat.le_refl _) (Nat.le_refl _) (fun τ2 fr2 X2 a1 a2 a3 => ?_)))
    obtain ⟨m, R, hPA⟩ : ∃ m R, PA J m R := by
      obtain ⟨m, hm⟩ := RR_pa hRR
      exact ⟨m, _, hm⟩
    have hlt : (xr (J 1) 3).testBit k = false := by rw [h3]; exact Nat.zero_testBit k
    have htt : (xr (J 1) (42 + p)).testBit k = false := Nat.testBit_lt_two_pow h42
    obtain ⟨I3, J3, s1, s2, s3, s4, s5⟩ := c_teach hRR hPA hN hp (by rw [h62]; exact hk) hlt htt
    have eI : τ2.2.1 = τ.2.1 := by
      have := a1.2.2.2
      rw [this]
      show τ1.2.1 = _
      rw [q1]
    refine w_xc (v := 1) (J := I3) (by rw [eI]; exact s1) (w_t (by decide) ?_)
    have hB : xr (upd (J 1) (42 + p) (nI (xr (J 1) (42 + p) ||| 2 ^ k))) 2 < 151 := hiu.bookB
    have u0 : ∀ j, j ≠ 2 → j < 748 → j ≠ 42 + p → J3 1 j = J 1 j := fun j h2 h7 h4 => by
      rw [s3, ntw_x hB _ _ _ h2 h7]
      exact upd_n _ _ h4
    have u13 : ∀ j, 1348 ≤ j → J3 1 j = J 1 j := fun j hj => by
      rw [s3]
      by_cases h150 : xr (upd (J 1) (42 + p) (nI (xr (J 1) (42 + p) ||| 2 ^ k))) 2 = 150
      · unfold ntw
        rw [if_pos h150]
        exact upd_n _ _ (by omega)
      · rw [ntw_o (by omega) (by omega)]
        exact upd_n _ _ (by omega)
    have e42 : J3 1 (42 + p) = nI (xr (J 1) (42 + p) ||| 2 ^ k) := by
      rw [s3, ntw_x hB _ _ _ (by omega) (by omega)]
      exact upd_s _ _ _
    have hlt2 : xr (J 1) (42 + p) ||| 2 ^ k < 2 ^ (k + 1) := Nat.or_lt_two_pow (by omega) hpk
    have hml3 : mlT tg i τ2.1 b13 := (hml.of (fun x x1 x2 => ⟨q2.1 x x1 x2, Eq.refl _⟩) : mlT tg i τ1.1 b13).of (fun x x1 x2 => ⟨a1.1 x x1 x2, Eq.refl _⟩)
    unfold hbL_talk_751
    refine w_lt (nI_add k 1) (hK _ ⟨fr2, X2, J3, ⟨a2.st, by rw [s3]; exact a3, s2, s5.trans h18, hl.c (fun x c hc => a1.2.2.1 x c (q2.2.2.1 x c hc)) (u0 65 (by omega) (by omega) (by omega)) u13, ?_, e13, hbt⟩, hml3, ?_, ?_, ?_, ?_, ?_, ?_⟩)
    · rw [xr_eq (u0 0 (by omega) (by omega) (by omega))]
      exact h0
    · rw [xr_eq (u0 62 (by omega) (by omega) (by omega))]
      exact h62
    · rw [xr_eq (u0 63 (by omega) (by omega) (by omega))]
      exact h63
    · rw [xr_eq (u0 3 (by omega) (by omega) (by omega))]
      exact h3
    · have hb31 : xr (J 1) (42 + p) ||| 2 ^ k < 2 ^ 31 := Nat.lt_of_lt_of_le hlt2 (Nat.pow_le_pow_right (by decide) (by omega))
      unfold xr
      rw [e42, nI_clamp hb31]
      exact hlt2
    · show C ≤ τ1.2.2.1 - 1 + (k + 1)
      omega
    · show S ≤ τ1.2.2.2 - 4 + 4 * (k + 1)
      omega
  · refine w_t hb ?_
    unfold hbL_talk_751
    exact w_lt (nI_add k 1) (hK τ ⟨fr, X, J, ⟨hG, hw, hRR, h18, hl, h0, e13, hbt⟩, hml, h62, h63, h3, by omega, by omega, by omega⟩)
theorem te_all {v4 v5 v8 : Int32} {k560 : Int32 → Nat → Int32 → Int32 → Int32 → Int32 → xd_S → Prop} (hN : 1000 ≤ N) (hn : n ≤ 14) (hC : 100 ≤ C) (hS : 1000 ≤ S) (h : TLI tg i t d ta b13 n p C S 0 τ) (hK : ∀ τ', TLI tg i t d ta b13 n p C S n τ' → k560 0 t v4 (nI n) v8 (nI (p + 1)) τ') : hlL_talk_692 N M Sc K k560 N 0 t v4 v5 (nI n) v8 (nI p) 0 τ := by
  refine w_loop (S := xd_S) (fun fu k τ => hlL_talk_692 N M Sc K k560 fu 0 t v4 v5 (nI n) v8 (nI p) (nI k) τ) n (fun k τ => TLI tg i t d ta b13 n p C S k τ) (fun fu τ hI => ?_) (fun fu k τ hk hI ih => ?_) N 0 τ (by omega) (Nat.zero_le _) h
  · show hbL_talk_692 N M Sc K k560 _ 0 t v4 v5 (nI n) v8 (nI p) (nI n) τ
    unfold hbL_talk_692
    exact w_t (Int32.le_refl _) (w_lt (nI_add p 1) (hK τ hI))
  · exact te_step hN hk hC hS hI ih
end
