-- ===== to say, whole =====
section
variable {σ σ0 τ : xd_S} {fr fr0 : xd_M} {tg : lTg} {i t : Nat} {d : lD} {ta : Nat → Option Nat} {X : lX} {k p a : Nat} {w : Nat → Int32} {N : Nat} {K : xd_K}
theorem ntw_x {w : Nat → Int32} (hB : xr w 2 < 151) (x y z : Int32) {j : Nat} (h2 : j ≠ 2) (h : j < 748) : ntw w x y z j = w j := ntw_o h2 (by omega)
theorem w_saysD (h : tG σ fr tg i t d ta X) (hw : XW X w) (hi : iW w) (hl : lawR fr (ta 15) w) (hN : 100 ≤ N) (hp : p < xr w 63) (hk : k < xr w 62) (hc : sCan w p k = true) (h1 : 1 ≤ σ.2.2.1) (h4 : 4 ≤ σ.2.2.2) (hK : ∀ τ fr2 X2, fwd tg i σ fr τ fr2 → tG τ fr2 tg i t d ta X2 → XW X2 (saW w p k) → K (nI (sHd w p k).toNat) none τ) : hX10_says_ N t (nI p) (nI k) 1 σ K := by
  have hW := hi.nWB
  have hP := hi.nPB
  have ha := hi.atB (p := p) (by omega)
  obtain ⟨-, hg, hT⟩ := id h
  have hpP : p < X.2.2.2.2.2.1 ∧ X.2.2.2.2.2.1 ≤ 10 := by rw [hw.nP]; omega
  have ht : (xr w (42 + p)).testBit k = true := by
    unfold sCan at hc
    rw [Bool.and_eq_true] at hc
    exact hc.1
  unfold hX10_says_
  refine t_g9 hT (t_aM hT rfl hpP (t_mI hT hpP.1 (j := 0) rfl (by omega) ?_))
  rw [hw.at hp, hi.at (by omega)]
  unfold xd_lt
  have key := w_itr (fun fu j (c : Nat) => hlX10_says__16 N K fu t (nI p) (nI k) 1 (nI (xr w (32 + p))) (nI c - 1) (nI j) σ) (xr w 63) (fun o c => c + (decide (xr w (32 + o) = xr w (32 + p)) && (xr w (42 + o)).testBit k).toNat) 0 (fun fu => ?_) (fun fu j hj hk2 => ?_) (fu := N) (by omega)
  · exact key
  · show hbX10_says__16 N K (hlX10_says__16 N K fu) t (nI p) (nI k) 1 _ _ _ σ
    refine t_gI hT (by omega) ?_
    rw [hw.np, hi.nP]
    refine w_t (by rw [xp_le (by omega) (by omega)]; omega) ?_
    have hcn : itr (fun o c => c + (decide (xr w (32 + o) = xr w (32 + p)) && (xr w (42 + o)).testBit k).toNat) 0 (xr w 63) = sOt w p k + 1 := cntP_but (fun o => decide (xr w (32 + o) = xr w (32 + p)) && (xr w (42 + o)).testBit k) hp (by simp [ht])
    rw [hcn, i_m1]
    refine t_is hT (w_c0 (w_says (σ := (σ.1, σ.2.1, 0, 0)) (m := 1) h.b hw hi hl hN hk ha (by omega) rfl rfl (fun _ => rfl) ?_))
    -- behind the hearing
    have hI1 := hi.br (p := p) (k := k) (by omega) (by omega) hc
    have hx : ∀ (hd : Bool), hd = sHd w p k → hbX10_says__83 N K t (nI p) (nI k) 1 (nI (xr w (32 + p))) (nI hd.toNat) σ := by
      intro hd hhd
      unfold hbX10_says__83 xd_lt
      refine t_g9 hT (t_aM hT rfl hpP (t_mI hT hpP.1 (j := 2) rfl (by omega) ?_))
      rw [hw.breath hp]
      refine t_is hT (w_c0 (w_says (σ := (σ.1, σ.2.1, 0, 0)) (m := 2) h.b hw hi hl hN hk ha (by omega) rfl rfl (fun z => absurd z (by omega)) ?_))
      refine g_mS h hpP.1 (j := 2) rfl (by omega) rfl (fun τ q1 q2 q3 => ?_)
      have hw1 := hw.uM hi hp (j := 2) (v := w (52 + p) - sTire w k (xr w (32 + p))) (by omega)
      have eB : ∀ j, j ≠ 52 + p → brW w p k j = w j := fun j hj => upd_n _ _ hj
      have eat : xr (brW w p k) (32 + p) = xr w (32 + p) := xr_eq (eB _ (by omega))
      have hKK : ∀ τ2 fr2 X2, fwd tg i τ fr τ2 fr2 → tG τ2 fr2 tg i t d ta X2 → XW X2 (if hd then ntw (heW (brW w p k) p k) 0 (nI p) (nI k) else ntw (brW w p k) 1 (nI p) (nI k)) → K (nI hd.toNat) none τ2 := by
        intro τ2 fr2 X2 s1 s2 s3
        rw [hhd] at s3 ⊢
        exact hK τ2 fr2 X2 (q2.trans s1) s2 s3
      have b1 : 1 ≤ τ.2.2.1 := by rw [q1]; exact h1
      have b4 : 4 ≤ τ.2.2.2 := by rw [q1]; exact h4
      cases hd with
      | false =>
        refine w_t (by decide) ?_
        have := says_115 (hd := false) (v6 := nI 0) (vs := 1) hI1 (p := p) (k := k) (by rw [xr_eq (eB 63 (by omega))]; exact hp) (by rw [xr_eq (eB 62 (by omega))]; exact hk) hN q3 hw1 rfl rfl b1 b4 hKK
        rw [eat] at this
        exact this
      | true =>
        refine w_f (by decide) ?_
        have := says_115 (hd := true) (v6 := nI 1) (vs := 0) hI1 (p := p) (k := k) (by rw [xr_eq (eB 63 (by omega))]; exact hp) (by rw [xr_eq (eB 62 (by omega))]; exact hk) hN q3 hw1 rfl rfl b1 b4 hKK
        rw [eat] at this
        exact this
    show ite (nI (sOt w p k) < sHear w k (xr w (32 + p))) _ _
    by_cases c : nI (sOt w p k) < sHear w k (xr w (32 + p))
    · exact w_t c (hx false (by unfold sHd; rw [decide_eq_true c]; rfl))
    · exact w_f c (hx true (by unfold sHd; rw [decide_eq_false c]; rfl))
  · show hbX10_says__16 N K (hlX10_says__16 N K fu) t (nI p) (nI k) 1 _ _ _ σ
    refine t_gI hT (by omega) ?_
    rw [hw.np, hi.nP]
    have hjP : j < X.2.2.2.2.2.1 ∧ X.2.2.2.2.2.1 ≤ 10 := by rw [hw.nP]; omega
    have haj := hi.atB (p := j) (by omega)
    refine w_f (by rw [xp_le (by omega) (by omega)]; omega) (t_g9 hT (t_aM hT rfl hjP (t_mI hT hjP.1 (j := 0) rfl (by omega) ?_)))
    rw [hw.at hj, hi.at (by omega)]
    have fin : ∀ c : Nat, hlX10_says__16 N K fu t (nI p) (nI k) 1 (nI (xr w (32 + p))) (nI c - 1) (nI (j + 1)) σ → hbX10_says__59 N K (hlX10_says__16 N K fu) t (nI p) (nI k) 1 (nI (xr w (32 + p))) (nI c - 1) (nI j) σ := by
      intro c hc2
      unfold hbX10_says__59 xd_lt
      rw [show (nI j + 1) = nI (j + 1) from (nI_succ j).symm]
      exact hc2
    generalize itr (fun o c => c + (decide (xr w (32 + o) = xr w (32 + p)) && (xr w (42 + o)).testBit k).toNat) 0 j = c at hk2 ⊢
    by_cases c1 : xr w (32 + j) = xr w (32 + p)
    · refine w_f (fun z => z (by rw [c1])) (t_g9 hT (t_aM hT rfl hjP (t_mI hT hjP.1 (j := 1) rfl (by omega) ?_)))
      rw [hw.tongue hj, hi.tongue (by omega), show (31 : Int32) = nI 31 from rfl, show (1 : Int32) = nI 1 from rfl, xp_tb (by have := hi.tongueB (p := j) (by omega); omega) (by omega)]
      by_cases c2 : (xr w (42 + j)).testBit k = true
      · rw [c2]
        refine w_f (by simp) ?_
        unfold xd_lt
        have e1 : nI c - nI 1 + nI 1 = nI (c + 1) - 1 := by
          rw [Int32.sub_add_cancel, i_m1]
        rw [e1]
        refine fin (c + 1) ?_
        simpa [c1, c2] using hk2
      · have c2' : (xr w (42 + j)).testBit k = false := by simpa using c2
        rw [c2']
        refine w_t (by decide) (fin c ?_)
        simpa [c2'] using hk2
    · refine w_t (by rw [ne_eq, xp_eq (by omega) (by omega)]; exact c1) (fin c ?_)
      simpa [c1] using hk2
end
