-- ===== to say =====
section
variable {σ σ0 τ : xd_S} {fr fr0 : xd_M} {tg : lTg} {i t : Nat} {d : lD} {ta : Nat → Option Nat} {X : lX} {k p a : Nat} {w : Nat → Int32} {N : Nat} {K : xd_K}
/-- the tongues of who hears -/
theorem says_212 (hw0 : iW w) (hk : k < xr w 62) (ha : a < 10) (hN : 100 ≤ N) (h : tG σ fr tg i t d ta X) (hw : XW X w) (hK : ∀ τ X2, fwd tg i σ fr τ fr → tG τ fr tg i t d ta X2 → XW X2 (itr (tgW a k) w (xr w 63)) → K 1 none τ) : hlX10_says__212 N K N t (nI k) (nI a) (nI 0) σ := by
  have hW := hw0.nWB
  have hP := hw0.nPB
  refine w_loop (fun fu j (τ : xd_S) => hlX10_says__212 N K fu t (nI k) (nI a) (nI j) τ) (xr w 63) (fun j τ => ∃ X2, fwd tg i σ fr τ fr ∧ tG τ fr tg i t d ta X2 ∧ XW X2 (itr (tgW a k) w j)) (fun fu τ hh => ?_) (fun fu j τ hj hh hn => ?_) N 0 σ (by omega) (by omega) ⟨X, fwd.rfl, h, hw⟩
  · obtain ⟨X2, h1, h2, h3⟩ := hh
    show hbX10_says__212 N K (hlX10_says__212 N K fu) t (nI k) (nI a) _ τ
    refine t_gI h2.T (by omega) ?_
    rw [h3.np, itr_o w (fun i v hi => tgW_o v (by omega)) _ (Nat.le_refl _), hw0.nP]
    exact w_t (by rw [xp_le (by omega) (by omega)]; omega) (w_rb (Or.inr rfl) (hK τ X2 h1 h2 h3))
  · obtain ⟨X2, h1, h2, h3⟩ := hh
    have e : ∀ q, q < 42 + 0 ∨ 52 ≤ q → itr (tgW a k) w j q = w q := fun q hq => itr_o (n := xr w 63) w (fun i v hi => tgW_o v (by omega)) _ (by omega)
    have hI := hw0.tgs (a := a) hk j (by omega)
    have e63 : xr (itr (tgW a k) w j) 63 = xr w 63 := xr_eq (e 63 (by omega))
    generalize hr : itr (tgW a k) w j = row at h3 e e63 hI
    have hnext : itr (tgW a k) w (j + 1) = tgW a k j row := by rw [← hr]; rfl
    show hbX10_says__212 N K (hlX10_says__212 N K fu) t (nI k) (nI a) (nI j) τ
    have hjP : j < X2.2.2.2.2.2.1 ∧ X2.2.2.2.2.2.1 ≤ 10 := by rw [h3.nP, e63]; omega
    have hj3 : j < xr row 63 := by omega
    refine t_gI h2.T (by omega) ?_
    rw [h3.np, e 63 (by omega), hw0.nP]
    refine w_f (by rw [xp_le (by omega) (by omega)]; omega) (t_g9 h2.T (t_aM h2.T rfl hjP (t_mI h2.T hjP.1 (j := 0) rfl (by omega) ?_)))
    rw [h3.at hj3, hI.at (by omega)]
    have haj := hI.atB (p := j) (by omega)
    by_cases c : xr row (32 + j) = a
    · refine w_f (fun z => z (by rw [c])) (t_g9 h2.T (t_aM h2.T rfl hjP (t_mI h2.T hjP.1 (j := 1) rfl (by omega) ?_)))
      rw [h3.tongue hj3, hI.tongue (by omega), show (31 : Int32) = nI 31 from rfl, show (1 : Int32) = nI 1 from rfl, xp_bs (by omega), xp_or]
      refine g_mS h2 hjP.1 (j := 1) rfl (by omega) rfl (fun τ2 q1 q2 q3 => ?_)
      show hbX10_says__250 N K _ t (nI k) (nI a) (nI j) τ2
      unfold hbX10_says__250 xd_lt
      rw [show (nI j + 1) = nI (j + 1) from (nI_succ j).symm]
      refine hn τ2 ⟨_, h1.trans q2, q3, ?_⟩
      rw [hnext]
      have := h3.uM hI hj3 (j := 1) (v := nI (xr row (42 + j) ||| 2 ^ k)) (by omega)
      unfold tgW
      rw [if_pos c]
      exact this
    · refine w_t (by rw [ne_eq, xp_eq (by omega) (by omega)]; exact c) ?_
      show hbX10_says__250 N K _ t (nI k) (nI a) (nI j) τ
      unfold hbX10_says__250 xd_lt
      rw [show (nI j + 1) = nI (j + 1) from (nI_succ j).symm]
      refine hn τ ⟨X2, h1, h2, ?_⟩
      rw [hnext]
      unfold tgW
      rw [if_neg c]
      exact h3
theorem says_152 (hw0 : iW w) (hk : k < xr w 62) (ha : a < 10) (hN : 100 ≤ N) (h : tG σ fr tg i t d ta X) (hw : XW X w) (hK : ∀ τ X2, fwd tg i σ fr τ fr → tG τ fr tg i t d ta X2 → XW X2 (itr (tgW a k) (itr (hvW k) w (xr w 62)) (xr w 63)) → K 1 none τ) : hlX10_says__152 N K N t (nI k) (nI a) (nI 0) σ := by
  have hW := hw0.nWB
  have hP := hw0.nPB
  refine w_loop (fun fu j (τ : xd_S) => hlX10_says__152 N K fu t (nI k) (nI a) (nI j) τ) (xr w 62) (fun j τ => ∃ X2, fwd tg i σ fr τ fr ∧ tG τ fr tg i t d ta X2 ∧ XW X2 (itr (hvW k) w j)) (fun fu τ hh => ?_) (fun fu j τ hj hh hn => ?_) N 0 σ (by omega) (by omega) ⟨X, fwd.rfl, h, hw⟩
  · obtain ⟨X2, h1, h2, h3⟩ := hh
    show hbX10_says__152 N K (hlX10_says__152 N K fu) t (nI k) (nI a) _ τ
    have e : ∀ q, 18 ≤ q → itr (hvW k) w (xr w 62) q = w q := fun q hq => itr_o (n := xr w 62) w (fun i v hi => hvW_o v (by omega)) _ (Nat.le_refl _)
    have hI := hw0.hvs (k := k) (xr w 62) (Nat.le_refl _)
    refine t_gI h2.T (by omega) ?_
    rw [h3.nw, e 62 (by omega), hw0.nW]
    refine w_t (by rw [xp_le (by omega) (by omega)]; omega) ?_
    have e63 : xr (itr (hvW k) w (xr w 62)) 63 = xr w 63 := xr_eq (e 63 (by omega))
    refine says_212 hI (by rw [xr_eq (e 62 (by omega))]; exact hk) ha hN h2 h3 (fun τ2 X3 g1 g2 g3 => hK τ2 X3 (h1.trans g1) g2 ?_)
    rw [e63] at g3
    exact g3
  · obtain ⟨X2, h1, h2, h3⟩ := hh
    have e : ∀ q, q < 4 ∨ 18 ≤ q → itr (hvW k) w j q = w q := fun q hq => itr_o (n := xr w 62) w (fun i v hi => hvW_o v (by omega)) _ (by omega)
    have hI := hw0.hvs (k := k) j (by omega)
    have e62 : xr (itr (hvW k) w j) 62 = xr w 62 := xr_eq (e 62 (by omega))
    generalize hr : itr (hvW k) w j = row at h3 e e62 hI
    have hnext : itr (hvW k) w (j + 1) = hvW k j row := by rw [← hr]; rfl
    show hbX10_says__152 N K (hlX10_says__152 N K fu) t (nI k) (nI a) (nI j) τ
    have hjW : j < X2.2.2.2.2.1 ∧ X2.2.2.2.2.1 ≤ 14 := by rw [h3.nW, e62]; omega
    have hkW : k < X2.2.2.2.2.1 ∧ X2.2.2.2.2.1 ≤ 14 := by rw [h3.nW, e62]; omega
    have hj3 : j < xr row 62 := by omega
    have skip : hvW k j row = row → hbX10_says__203 N K (hlX10_says__152 N K fu) t (nI k) (nI a) (nI j) τ := by
      intro hs
      unfold hbX10_says__203 xd_lt
      rw [show (nI j + 1) = nI (j + 1) from (nI_succ j).symm]
      refine hn τ ⟨X2, h1, h2, ?_⟩
      rw [hnext, hs]
      exact h3
    refine t_gI h2.T (by omega) ?_
    rw [h3.nw, e 62 (by omega), hw0.nW]
    refine w_f (by rw [xp_le (by omega) (by omega)]; omega) (t_g8 h2.T (t_aW h2.T rfl hkW (t_wI h2.T hkW.1 (j := 4) rfl (by omega) ?_)))
    have hkr : k < xr row 62 := by omega
    rw [h3.kin hkr, hI.kin (by omega), show (31 : Int32) = nI 31 from rfl, show (1 : Int32) = nI 1 from rfl, xp_tb (by have := hI.kinB (k := k) (by omega); omega) (by omega)]
    by_cases c1 : (xr row (84 + k)).testBit j = true
    · rw [c1]
      refine w_f (by simp) (t_g8 h2.T (t_aW h2.T rfl hjW (t_wI h2.T hjW.1 (j := 2) rfl (by omega) ?_)))
      rw [h3.lapsed hj3]
      by_cases c2 : (xr row 3).testBit j = true
      · rw [c2]
        refine w_t (by decide) (skip ?_)
        unfold hvW
        rw [if_neg (by rw [xdf_tb, c2]; simp)]
      · have c2' : (xr row 3).testBit j = false := by simpa using c2
        rw [c2']
        refine w_f (by decide) (t_g8 h2.T (t_aW h2.T rfl hjW (t_wI h2.T hjW.1 (j := 1) rfl (by omega) ?_)))
        have hu := hI.unsaidB (k := j) (by omega)
        rw [h3.unsaid hj3, hI.unsaid (by omega)]
        refine w_dv (v := nI (xr row (4 + j) / 2)) (by decide) (by show nI (xr row (4 + j)) / nI 2 = _; exact nI_div (a := xr row (4 + j)) (b := 2) (by omega) (by omega) (by omega)) ?_
        refine g_wS h2 hjW.1 (j := 1) rfl (by omega) rfl (fun τ2 q1 q2 q3 => ?_)
        show hbX10_says__203 N K _ t (nI k) (nI a) (nI j) τ2
        unfold hbX10_says__203 xd_lt
        rw [show (nI j + 1) = nI (j + 1) from (nI_succ j).symm]
        refine hn τ2 ⟨_, h1.trans q2, q3, ?_⟩
        rw [hnext]
        unfold hvW
        rw [if_pos (by rw [xdf_tb, c1, c2']; rfl)]
        exact h3.uU hI hj3
    · have c1' : (xr row (84 + k)).testBit j = false := by simpa using c1
      rw [c1']
      refine w_t (by decide) (skip ?_)
      unfold hvW
      rw [if_neg (by rw [xdf_tb, c1']; simp)]
/-- behind the breath -/
theorem says_115 {hd : Bool} {v6 vs : Int32} (hw0 : iW w) (hp : p < xr w 63) (hk : k < xr w 62) (hN : 100 ≤ N) (h : tG σ fr tg i t d ta X) (hw : XW X w) (h6 : v6 = nI hd.toNat) (hvs : vs = nI (1 - hd.toNat)) (hc : 1 ≤ σ.2.2.1) (hs : 4 ≤ σ.2.2.2) (hK : ∀ τ fr2 X2, fwd tg i σ fr τ fr2 → tG τ fr2 tg i t d ta X2 → XW X2 (if hd then ntw (heW w p k) 0 (nI p) (nI k) else ntw w 1 (nI p) (nI k)) → K (nI hd.toNat) none τ) : hbX10_says__115 N K t (nI p) (nI k) 1 (nI (xr w (32 + p))) v6 vs t σ := by
  have hW := hw0.nWB
  have hP := hw0.nPB
  have hB := hw0.bookB
  have ha := hw0.atB (p := p) (by omega)
  subst h6 hvs
  unfold hbX10_says__115
  refine t_is h.T (w_cc 1 4 hc hs (w_notes h.b hw hw0 rfl (Nat.le_refl _) (Nat.le_refl _) (fun τ fr2 X2 g1 g2 g3 => ?_)))
  cases hd with
  | false =>
    refine w_f (by decide) (w_rb (Or.inl rfl) (hK _ fr2 X2 g1.b0.b g2.b g3))
  | true =>
    refine w_t (by decide) ?_
    have hK' : ∀ τ fr2 X2, fwd tg i σ fr τ fr2 → tG τ fr2 tg i t d ta X2 → XW X2 (ntw (heW w p k) 0 (nI p) (nI k)) → K 1 none τ := hK
    have hI2 := hw0.nt 0 (nI p) (nI k)
    have e : ∀ q, q ≠ 2 → q < 748 → ntw w 0 (nI p) (nI k) q = w q := fun q h1 h2 => ntw_o h1 (by omega)
    have g3' : XW X2 (ntw w 0 (nI p) (nI k)) := g3
    rw [← he_nt hw0 hp hk] at hK'
    have e62 : xr (ntw w 0 (nI p) (nI k)) 62 = xr w 62 := xr_eq (e _ (by omega) (by omega))
    have e63 : xr (ntw w 0 (nI p) (nI k)) 63 = xr w 63 := xr_eq (e _ (by omega) (by omega))
    have ea : xr (ntw w 0 (nI p) (nI k)) (32 + p) = xr w (32 + p) := xr_eq (e _ (by omega) (by omega))
    rw [← ea] at ha ⊢
    rw [← e62] at hk
    generalize ntw w 0 (nI p) (nI k) = u at g3' hI2 hK' e62 e63 ea ha hk ⊢
    have hkW : k < X2.2.2.2.2.1 ∧ X2.2.2.2.2.1 ≤ 14 := by rw [g3'.nW]; omega
    refine t_g8 g2.T (t_aW g2.T rfl hkW (g_wS g2.b hkW.1 (j := 1) rfl (by omega) (v2 := nI 0) rfl (fun τ2 q1 q2 q3 => ?_)))
    have hk14 : k < 14 := by omega
    have w1 := g3'.uU hI2 hk (v := nI 0)
    have I1 := hI2.up (j := 4 + k) (v := nI 0) (by omega) (by omega) (by omega) (by omega) (fun _ _ => ⟨0, by omega, rfl⟩) (by omega) (by omega) (by omega)
    have f62 : xr (upd u (4 + k) (nI 0)) 62 = xr u 62 := xr_eq (upd_n _ _ (by omega))
    refine t_g8 q3.T (t_aW q3.T rfl hkW (t_wI q3.T hkW.1 (j := 3) rfl (by omega) ?_))
    rw [w1.said (by rw [f62]; exact hk), upd_n u _ (show 18 + k ≠ 4 + k by omega)]
    refine g_wS q3 hkW.1 (j := 3) rfl (by omega) (v2 := u (18 + k) + 1) rfl (fun τ3 r1 r2 r3 => ?_)
    have w2 := w1.uS I1 (by rw [f62]; exact hk) (v := u (18 + k) + 1)
    have I2 := hI2.h0 hk14
    have k62 : xr (h0W u k) 62 = xr u 62 := xr_eq (h0W_o u (by omega) (by omega))
    have k63 : xr (h0W u k) 63 = xr u 63 := xr_eq (h0W_o u (by omega) (by omega))
    refine says_152 (w := h0W u k) I2 (by rw [k62]; exact hk) ha hN r3 w2 (fun τ4 X4 s1 s2 s3 => hK' τ4 fr2 X4 (g1.b0.trans ((fwd.b0 (fwd.b q2)).trans (r2.trans s1))) s2 ?_)
    rw [k62, k63] at s3
    exact s3
end
