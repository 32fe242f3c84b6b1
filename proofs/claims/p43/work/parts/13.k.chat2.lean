-- ===== the law's chat =====
section
variable {σ σ0 τ : xd_S} {fr fr0 : xd_M} {tg : lTg} {i t : Nat} {d : lD} {ta : Nat → Option Nat} {X : lX} {k p a : Nat} {w : Nat → Int32} {N : Nat} {K : xd_K}
theorem i_am1 (a : Nat) : nI a + (-1) = nI a - 1 := by
  rw [Int32.sub_eq_add_neg]
theorem nn_f {a : Nat} (h : a < 2 ^ 31) : ¬ nI a < 0 := fun z => nI_pos (by omega) z
theorem w_stal (h : tT σ.1 fr tg i t d ta X) (hw : XW X w) (hi : iW w) (hp : p < xr w 63) {k170 : Nat → Int32 → Int32 → Int32 → xd_S → Prop} {v1 v2 : Int32} : ∀ n fu b, n ≤ xr w 62 → n < fu → (∀ j, b = some j → j < xr w 62) → (∀ kk, hbX10_passes_217 N K k170 kk t v1 v2 (nI p) (oI (dnL w (sTg w p) n b)) (-1) σ) → hlX10_passes_217 N K k170 fu t v1 v2 (nI p) (oI b) (nI n - 1) σ := by
  have hW := hi.nWB
  have hP := hi.nPB
  have hpP : p < X.2.2.2.2.2.1 ∧ X.2.2.2.2.2.1 ≤ 10 := by rw [hw.nP]; omega
  intro n
  induction n with
  | zero =>
    intro fu b _ hf _ hfin
    obtain ⟨g, rfl⟩ : ∃ g, fu = g + 1 := ⟨fu - 1, by omega⟩
    exact hfin _
  | succ n ih =>
    intro fu b hn hf hb hfin
    obtain ⟨g, rfl⟩ : ∃ g, fu = g + 1 := ⟨fu - 1, by omega⟩
    rw [i_m1]
    have hnW : n < X.2.2.2.2.1 ∧ X.2.2.2.2.1 ≤ 14 := by rw [hw.nW]; omega
    show hbX10_passes_217 N K k170 (hlX10_passes_217 N K k170 g) t v1 v2 (nI p) (oI b) (nI n) σ
    have go : ∀ b2, (∀ j, b2 = some j → j < xr w 62) → dnL w (sTg w p) (n + 1) b = dnL w (sTg w p) n b2 → hbX10_passes_281 N K k170 (hlX10_passes_217 N K k170 g) t v1 v2 (nI p) (oI b2) (nI n) σ := by
      intro b2 hb2 he
      unfold hbX10_passes_281 xd_lt
      rw [i_am1]
      refine ih g b2 (by omega) (by omega) hb2 (fun kk => ?_)
      rw [← he]
      exact hfin kk
    refine w_f (nn_f (by omega)) (t_g9 h (t_aM h rfl hpP (t_mI h hpP.1 (j := 1) rfl (by omega) ?_)))
    rw [hw.tongue hp, hi.tongue (by omega), show (31 : Int32) = nI 31 from rfl, show (1 : Int32) = nI 1 from rfl, xp_tb (by have := hi.tongueB (p := p) (by omega); omega) (by omega)]
    by_cases c1 : (xr w (42 + p)).testBit n = true
    · rw [c1]
      refine w_f (by simp) (t_g8 h (t_aW h rfl hnW (t_wI h hnW.1 (j := 2) rfl (by omega) ?_)))
      rw [hw.lapsed (by omega)]
      by_cases c2 : (xr w 3).testBit n = true
      · rw [c2]
        refine w_t (by decide) (go b hb ?_)
        show dnL w _ n (dnS w _ n b) = _
        unfold dnS
        rw [if_neg (by simp [sTg, c2])]
      · have c2' : (xr w 3).testBit n = false := by simpa using c2
        have hP : sTg w p n = true := by simp [sTg, c1, c2']
        rw [c2']
        refine w_f (by decide) ?_
        cases b with
        | none =>
          refine w_t (by decide) ?_
          unfold hbX10_passes_277 xd_lt
          refine go (some n) (fun j hj => by rw [Option.some.injEq] at hj; omega) ?_
          show dnL w _ n (dnS w _ n none) = _
          unfold dnS
          rw [if_pos hP]
        | some j =>
          have hj := hb j rfl
          have hjW : j < X.2.2.2.2.1 ∧ X.2.2.2.2.1 ≤ 14 := by rw [hw.nW]; omega
          have u1 := hi.unsaidB (k := n) (by omega)
          have u2 := hi.unsaidB (k := j) (by omega)
          refine w_f (nn_f (by omega)) (t_g8 h (t_aW h rfl hnW (t_wI h hnW.1 (j := 1) rfl (by omega) ?_)))
          refine t_g8 h (t_aW h (v := oI (some j)) rfl hjW (t_wI h hjW.1 (j := 1) rfl (by omega) ?_))
          rw [hw.unsaid (by omega), hw.unsaid hj, hi.unsaid (by omega), hi.unsaid (by omega)]
          by_cases c3 : xr w (4 + n) < xr w (4 + j)
          · refine w_t (by rw [xp_ltI (by omega) (by omega)]; exact c3) (go (some j) hb ?_)
            show dnL w _ n (dnS w _ n (some j)) = _
            unfold dnS
            rw [if_pos hP]
            show dnL w _ n (if xr w (4 + n) < xr w (4 + j) then some j else some n) = _
            rw [if_pos c3]
          · refine w_f (by rw [xp_ltI (by omega) (by omega)]; exact c3) ?_
            unfold hbX10_passes_277 xd_lt
            refine go (some n) (fun q hq => by rw [Option.some.injEq] at hq; omega) ?_
            show dnL w _ n (dnS w _ n (some j)) = _
            unfold dnS
            rw [if_pos hP]
            show dnL w _ n (if xr w (4 + n) < xr w (4 + j) then some j else some n) = _
            rw [if_neg c3]
    · have c1' : (xr w (42 + p)).testBit n = false := by simpa using c1
      rw [c1']
      refine w_t (by decide) (go b hb ?_)
      show dnL w _ n (dnS w _ n b) = _
      unfold dnS
      rw [if_neg (by simp [sTg, c1'])]
theorem w_chats {v2 : Int32} {C S : Nat} (h : tG σ fr tg i t d ta X) (hw : XW X w) (hi : iW w) (hl : lawR fr (ta 15) w) (hN : 100 ≤ N) (hC : C + 10 ≤ σ.2.2.1) (hS : S + 40 ≤ σ.2.2.2) (hK : ∀ τ fr2 X2, fwd tg i σ fr τ fr2 → tG τ fr2 tg i t d ta X2 → XW X2 (chsW w) → C ≤ τ.2.2.1 → S ≤ τ.2.2.2 → hbX10_passes_317 N K t 1 v2 τ) : hlX10_passes_170 N K N t 1 v2 (nI 0) σ := by
  have hW := hi.nWB
  have hP := hi.nPB
  by_cases hch : xr w 64 = 0
  · have hK' : hbX10_passes_317 N K t 1 v2 σ := hK σ fr X fwd.rfl h (by unfold chsW; rw [if_pos hch]; exact hw) (by omega) (by omega)
    obtain ⟨g, rfl⟩ : ∃ g, N = g + 1 := ⟨N - 1, by omega⟩
    show hbX10_passes_170 (g + 1) K (hlX10_passes_170 (g + 1) K g) t 1 v2 (nI 0) σ
    refine t_gI h.T (by omega) ?_
    rw [hw.np, hi.nP]
    by_cases c0 : nI (xr w 63) ≤ nI 0
    · exact w_t c0 hK'
    · refine w_f c0 (w_f (by decide) (t_gI h.T (by omega) ?_))
      rw [hw.chat, hi.chat, hch]
      exact w_t (by decide) hK'
  · have hchB := hi.chatB
    refine w_loop (fun fu j (τ : xd_S) => hlX10_passes_170 N K fu t 1 v2 (nI j) τ) (xr w 63) (fun j τ => ∃ fr2 X2, fwd tg i σ fr τ fr2 ∧ tG τ fr2 tg i t d ta X2 ∧ XW X2 (itr chW w j) ∧ C + (10 - j) ≤ τ.2.2.1 ∧ S + 4 * (10 - j) ≤ τ.2.2.2) (fun fu τ hh => ?_) (fun fu j τ hj hh hn => ?_) N 0 σ (by omega) (by omega) ⟨fr, X, fwd.rfl, h, hw, by omega, by omega⟩
    · obtain ⟨fr2, X2, h1, h2, h3, h4, h5⟩ := hh
      show hbX10_passes_170 N K (hlX10_passes_170 N K fu) t 1 v2 _ τ
      refine t_gI h2.T (by omega) ?_
      rw [h3.np, (chs_inv hi _ (Nat.le_refl _)).2 63 (by omega), hi.nP]
      refine w_t (by rw [xp_le (by omega) (by omega)]; omega) (hK τ fr2 X2 h1 h2 ?_ (by omega) (by omega))
      unfold chsW
      rw [if_neg hch]
      exact h3
    · obtain ⟨fr2, X2, h1, h2, h3, h4, h5⟩ := hh
      obtain ⟨hI, ho⟩ := chs_inv hi j (by omega)
      have hnext := itr_s chW w j
      generalize itr chW w j = row at h3 hI ho hnext
      have e62 : xr row 62 = xr w 62 := xr_eq (ho 62 (by omega))
      have e63 : xr row 63 = xr w 63 := xr_eq (ho 63 (by omega))
      have e64 : xr row 64 = xr w 64 := xr_eq (ho 64 (by omega))
      have hjr : j < xr row 63 := by omega
      show hbX10_passes_170 N K (hlX10_passes_170 N K fu) t 1 v2 (nI j) τ
      have fin : ∀ τ2 fr3 X3, fwd tg i τ fr2 τ2 fr3 → tG τ2 fr3 tg i t d ta X3 → XW X3 (chW j row) → τ.2.2.1 ≤ τ2.2.2.1 + 1 → τ.2.2.2 ≤ τ2.2.2.2 + 4 → hbX10_passes_311 N K (hlX10_passes_170 N K fu) t 1 v2 (nI j) τ2 := by
        intro τ2 fr3 X3 g1 g2 g3 g4 g5
        unfold hbX10_passes_311 xd_lt
        rw [show (nI j + 1) = nI (j + 1) from (nI_succ j).symm]
        exact hn τ2 ⟨fr3, X3, h1.trans g1, g2, by rw [hnext]; exact g3, by omega, by omega⟩
      refine t_gI h2.T (by omega) ?_
      rw [h3.np, ho 63 (by omega), hi.nP]
      refine w_f (by rw [xp_le (by omega) (by omega)]; omega) (w_f (by decide) (t_gI h2.T (by omega) ?_))
      rw [h3.chat, ho 64 (by omega), hi.chat]
      refine w_f (by show ¬ nI (xr w 64) ≤ nI 0; rw [xp_le (by omega) (by omega)]; omega) (t_is h2.T (w_c0 (w_draw (σ := (τ.1, τ.2.1, 0, 0)) h2.b h3 hI (fun τ2 X3 g1 g2 g3 g4 => ?_))))
      -- a draw
      have hD := hI.dr
      have d62 : xr (drW row) 62 = xr row 62 := xr_eq (drW_o row (by omega))
      have d63 : xr (drW row) 63 = xr row 63 := xr_eq (drW_o row (by omega))
      have hq : drQ row < 1000 := Nat.mod_lt _ (by decide)
      have hσ : fwd tg i τ fr2 (τ2.1, τ2.2.1, τ.2.2.1, τ.2.2.2) fr2 := g1.b0.b
      have hG : tG (τ2.1, τ2.2.1, τ.2.2.1, τ.2.2.2) fr2 tg i t d ta X3 := g3.b
      generalize hρ : ((τ2.1, τ2.2.1, τ.2.2.1, τ.2.2.2) : xd_S) = ρ at hσ hG
      have hρ1 : ρ.2.2.1 = τ.2.2.1 := by rw [← hρ]
      have hρ2 : ρ.2.2.2 = τ.2.2.2 := by rw [← hρ]
      refine t_gI hG.T (by omega) ?_
      rw [g4.chat, drW_o row (by omega), ho 64 (by omega), hi.chat]
      have hlD : lawR fr2 (ta 15) (drW row) := (hl.c (w2 := drW row) h1.2.2.1 ((drW_o row (by omega)).trans (ho 65 (by omega))) (fun q hq => (drW_o row (by omega)).trans (ho q (by omega))))
      by_cases c : drQ row < xr w 64
      · have hch2 : chW j row = match sLU (drW row) (sTg (drW row) j) (xr row 62) with
          | none => drW row
          | some k => if sCan (drW row) j k then saW (drW row) j k else drW row := by
          unfold chW
          rw [e64, if_pos c]
          cases sLU (drW row) (sTg (drW row) j) (xr row 62) <;> rfl
        refine w_t (by rw [xp_ltI (by omega) (by omega)]; exact c) ?_
        unfold xd_lt
        refine t_gI hG.T (by omega) ?_
        rw [g4.nw, drW_o row (by omega), ho 62 (by omega), hi.nW]
        refine w_stal hG.T g4 hD (by rw [d63]; exact hjr) (xr w 62) N none (by rw [d62, e62]; omega) (by omega) (fun q hq => nomatch hq) (fun kk => ?_)
        rw [dnL_sLU]
        rw [e62] at hch2
        have hlt := sLU_lt (drW row) (sTg (drW row) j) (xr w 62)
        cases hb : sLU (drW row) (sTg (drW row) j) (xr w 62) with
        | none =>
          rw [hb] at hch2
          refine w_t (by decide) (w_t (by decide) (fin ρ fr2 X3 hσ hG (by rw [hch2]; exact g4) (by omega) (by omega)))
        | some k =>
          rw [hb] at hch2
          have hk := (hlt k hb).1
          refine w_t (by decide) (w_f (nn_f (by omega)) (t_is hG.T (w_c0 (w_can (σ := (ρ.1, ρ.2.1, 0, 0)) hG.b g4 hD hlD hN (p := j) (k := k) (by omega) (by omega) ?_))))
          rw [d63, e63, d62, e62, decide_eq_true hj, decide_eq_true hk, Bool.true_and, Bool.true_and]
          by_cases hc : sCan (drW row) j k = true
          · rw [hc]
            have hch3 : chW j row = saW (drW row) j k := by rw [hch2]; simp only [hc, if_true]
            refine w_f (by decide) (t_is hG.T (w_cc 1 4 (by show 1 ≤ ρ.2.2.1; omega) (by show 4 ≤ ρ.2.2.2; omega) (w_saysD (σ := (ρ.1, ρ.2.1, 1, 4)) hG.b g4 hD hlD hN (by rw [d63]; exact hjr) (by rw [d62, e62]; exact hk) hc (Nat.le_refl _) (Nat.le_refl _) (fun τ3 fr3 X4 s1 s2 s3 => ?_))))
            exact fin _ fr3 X4 (hσ.trans (s1.b0.b)) s2.b (by rw [hch3]; exact s3) (by show τ.2.2.1 ≤ ρ.2.2.1 - 1 + 1; omega) (by show τ.2.2.2 ≤ ρ.2.2.2 - 4 + 4; omega)
          · have hc' : sCan (drW row) j k = false := by simpa using hc
            rw [hc']
            have hch3 : chW j row = drW row := by rw [hch2]; simp only [hc']; rfl
            exact w_t (by decide) (fin ρ fr2 X3 hσ hG (by rw [hch3]; exact g4) (by omega) (by omega))
      · have hch2 : chW j row = drW row := by
          unfold chW
          rw [e64, if_neg c]
        exact w_f (by rw [xp_ltI (by omega) (by omega)]; exact c) (fin ρ fr2 X3 hσ hG (by rw [hch2]; exact g4) (by omega) (by omega))
end
