-- ===== walks =====
def wkW (i : Nat) (w : Nat → Int32) : Nat → Int32 := if xr w (628 + 4 * i) = xr w 0 then (if xr w (630 + 4 * i) = 9 then (if xr w (32 + xr w (629 + 4 * i)) = xr w (631 + 4 * i) then w else ntw (upd w (32 + xr w (629 + 4 * i)) (nI (xr w (631 + 4 * i)))) 3 (nI (xr w (629 + 4 * i))) (nI (xr w (631 + 4 * i)))) else if xr w (630 + 4 * i) = 10 then (if sCan w (xr w (629 + 4 * i)) (xr w (631 + 4 * i)) then saW w (xr w (629 + 4 * i)) (xr w (631 + 4 * i)) else w) else upd w (52 + xr w (629 + 4 * i)) (nI (min 99 (xr w (52 + xr w (629 + 4 * i)) + 20)))) else w
def wkT (fr : xd_M) (r : Option Nat) (w : Nat → Int32) : Prop := ∃ b c, r = some b ∧ fr b = some c ∧ c.1 = 2 ∧ c.2.1 = xr w 67 ∧ ∀ i, i < xr w 67 → ∃ e V, c.2.2.2 i = some e ∧ frow fr e 4 V ∧ V 0 = w (628 + 4 * i) ∧ V 1 = w (629 + 4 * i) ∧ V 2 = nI (xr w (630 + 4 * i) - 9) ∧ (xr w (630 + 4 * i) ≠ 11 → V 3 = w (631 + 4 * i))
theorem wkT.c {fr fr2 : xd_M} {r : Option Nat} {w w2 : Nat → Int32} (h : wkT fr r w) (hf : ∀ a c, fr a = some c → fr2 a = some c) (hw : ∀ j, 62 ≤ j → j < 748 → w2 j = w j) (hK : xr w 67 < 17) : wkT fr2 r w2 := by
  obtain ⟨b, c, h1, h2, h3, h4, h5⟩ := h
  have e67 : xr w2 67 = xr w 67 := xr_eq (hw 67 (by omega) (by omega))
  refine ⟨b, c, h1, hf _ _ h2, h3, by rw [e67]; exact h4, fun i hi => ?_⟩
  rw [e67] at hi
  obtain ⟨e, V, g1, g2, g3, g4, g5, g6⟩ := h5 i hi
  have e630 : xr w2 (630 + 4 * i) = xr w (630 + 4 * i) := xr_eq (hw _ (by omega) (by omega))
  refine ⟨e, V, g1, g2.mono hf, by rw [hw _ (by omega) (by omega)]; exact g3, by rw [hw _ (by omega) (by omega)]; exact g4, by rw [e630]; exact g5, fun hz => ?_⟩
  rw [e630] at hz
  rw [hw _ (by omega) (by omega)]
  exact g6 hz
theorem iW.wk {w : Nat → Int32} (h : iW w) {i : Nat} (hi : i < xr w 67) : iW (wkW i w) := by
  have hW := h.nWB
  have hP := h.nPB
  obtain ⟨⟨-, d2⟩, ⟨-, p2⟩, ⟨-, k2⟩, k9, kg, ks⟩ := h.walks i hi
  unfold wkW
  split
  · split
    · rename_i hk
      obtain ⟨-, g2⟩ := kg hk
      split
      · exact h
      · exact (h.up (by omega) (by omega) (by omega) (by omega) (by omega) (fun _ _ => ⟨xr w (631 + 4 * i), g2, rfl⟩) (by omega) (by omega)).nt _ _ _
    · split
      · rename_i hk
        obtain ⟨-, g2⟩ := ks hk
        split
        · rename_i hc
          exact h.sa p2 g2 hc
        · exact h
      · exact h.up (by omega) (by omega) (by omega) (by omega) (by omega) (by omega) (by omega) (fun _ => ⟨min 99 (xr w (52 + xr w (629 + 4 * i)) + 20), by omega, rfl⟩)
  · exact h
theorem wkW_o {w : Nat → Int32} (h : iW w) {i j : Nat} (hi : i < xr w 67) (hj : j < 2 ∨ j = 3 ∨ (62 ≤ j ∧ j < 748) ∨ 1348 ≤ j) : wkW i w j = w j := by
  have hW := h.nWB
  have hP := h.nPB
  have hB := h.bookB
  obtain ⟨⟨-, d2⟩, ⟨-, p2⟩, ⟨-, k2⟩, k9, kg, ks⟩ := h.walks i hi
  unfold wkW
  split
  · split
    · split
      · rfl
      · rw [ntw_q (by rw [xr_eq (upd_n _ _ (show 2 ≠ 32 + xr w (629 + 4 * i) by omega))]; exact hB) (by omega) (by omega), upd_n _ _ (by omega)]
    · split
      · rename_i hk
        obtain ⟨-, g2⟩ := ks hk
        split
        · exact saW_o h p2 g2 (by omega)
        · rfl
      · exact upd_n _ _ (by omega)
  · rfl
theorem wks_inv {w : Nat → Int32} (h : iW w) : ∀ n, n ≤ xr w 67 → iW (itr wkW w n) ∧ ∀ j, j < 2 ∨ j = 3 ∨ (62 ≤ j ∧ j < 748) ∨ 1348 ≤ j → itr wkW w n j = w j := by
  intro n
  induction n with
  | zero => intro _; exact ⟨h, fun _ _ => rfl⟩
  | succ n ih =>
    intro hn
    obtain ⟨h1, h2⟩ := ih (by omega)
    have e : xr (itr wkW w n) 67 = xr w 67 := xr_eq (h2 67 (by omega))
    rw [itr_s]
    exact ⟨h1.wk (by rw [e]; omega), fun j hj => (wkW_o h1 (by rw [e]; omega) hj).trans (h2 j hj)⟩
section
variable {σ σ0 τ : xd_S} {fr fr0 : xd_M} {tg : lTg} {i t : Nat} {d : lD} {ta : Nat → Option Nat} {X : lX} {k p a : Nat} {w : Nat → Int32} {N : Nat} {K : xd_K}
theorem aR_f {b n e : Nat} {c : xd_C} {v : Int32} {f : Nat → Prop} (hg : gI σ.1 fr tg) (h : fr b = some c) (hk : c.1 = 2) (hv : v = nI n) (hn : n < c.2.1 ∧ c.2.1 < 2 ^ 31) (he : c.2.2.2 n = some e) (hf : f e) : xd_aR 2 b v σ f := w_aR (hg.1 b c h).1 hk hv hn he hf
theorem w_lines {b : Nat} {c : xd_C} {v2 : Int32} {C S : Nat} (h : tG σ fr tg i t d ta X) (hw : XW X w) (hi : iW w) (hl : lawR fr (ta 15) w) (hwk : wkT fr (some b) w) (hb : fr b = some c) (hN : 100 ≤ N) (hC : C + 16 ≤ σ.2.2.1) (hS : S + 64 ≤ σ.2.2.2) (hK : ∀ τ fr2 X2, fwd tg i σ fr τ fr2 → tG τ fr2 tg i t d ta X2 → XW X2 (itr wkW w (xr w 67)) → C ≤ τ.2.2.1 → S ≤ τ.2.2.2 → hlX10_passes_170 N K N t 1 v2 (nI 0) τ) : hlX10_passes_14 N K N t 1 v2 b (nI c.2.1) (nI 0) σ := by
  have hW := hi.nWB
  have hP := hi.nPB
  have hKB := hi.nKB
  obtain ⟨b', c', h0, hb', hc1, hc2, hrows⟩ := hwk
  rw [Option.some.injEq] at h0
  subst h0
  rw [hb] at hb'
  rw [Option.some.injEq] at hb'
  subst hb'
  rw [hc2]
  refine w_loop (fun fu j (τ : xd_S) => hlX10_passes_14 N K fu t 1 v2 b (nI (xr w 67)) (nI j) τ) (xr w 67) (fun j τ => ∃ fr2 X2, fwd tg i σ fr τ fr2 ∧ tG τ fr2 tg i t d ta X2 ∧ XW X2 (itr wkW w j) ∧ C + (16 - j) ≤ τ.2.2.1 ∧ S + 4 * (16 - j) ≤ τ.2.2.2) (fun fu τ hh => ?_) (fun fu j τ hj hh hn => ?_) N 0 σ (by omega) (by omega) ⟨fr, X, fwd.rfl, h, hw, by omega, by omega⟩
  · obtain ⟨fr2, X2, h1, h2, h3, h4, h5⟩ := hh
    show hbX10_passes_14 N K (hlX10_passes_14 N K fu) t 1 v2 b _ _ τ
    exact w_t (by rw [xp_le (by omega) (by omega)]; omega) (hK τ fr2 X2 h1 h2 h3 (by omega) (by omega))
  · obtain ⟨fr2, X2, h1, h2, h3, h4, h5⟩ := hh
    obtain ⟨hI, ho⟩ := wks_inv hi j (by omega)
    have hnext := itr_s wkW w j
    generalize itr wkW w j = row at h3 hI ho hnext
    have e62 : xr row 62 = xr w 62 := xr_eq (ho 62 (by omega))
    have e63 : xr row 63 = xr w 63 := xr_eq (ho 63 (by omega))
    have e67 : xr row 67 = xr w 67 := xr_eq (ho 67 (by omega))
    obtain ⟨e, V, r1, r2, r3, r4, r5, r6⟩ := hrows j hj
    obtain ⟨⟨d1, d2⟩, ⟨p1, p2⟩, ⟨k1, k2⟩, k9, kg, ks⟩ := hI.walks j (by rw [e67]; exact hj)
    rw [← ho (628 + 4 * j) (by omega)] at r3
    rw [← ho (629 + 4 * j) (by omega)] at r4
    rw [← ho (631 + 4 * j) (by omega)] at r6
    rw [← xr_eq (ho (630 + 4 * j) (by omega))] at r5 r6
    have hlR : lawR fr2 (ta 15) row := hl.c h1.2.2.1 (ho 65 (by omega)) (fun q hq => ho q (by omega))
    have hgI := h2.2.1
    have re : ∀ (n : Nat) (v : Int32) (g : Int32 → Prop), v = nI n → n < 4 → g (V n) → xd_aI 0 e v τ g := fun n v g hv hn hg => aI_f hgI (r2.mono h1.2.2.1) hv ⟨hn, by decide⟩ hg
    have hstep : wkW j row = if xr row (628 + 4 * j) = xr row 0 then (if xr row (630 + 4 * j) = 9 then (if xr row (32 + xr row (629 + 4 * j)) = xr row (631 + 4 * j) then row else ntw (upd row (32 + xr row (629 + 4 * j)) (nI (xr row (631 + 4 * j)))) 3 (nI (xr row (629 + 4 * j))) (nI (xr row (631 + 4 * j)))) else if xr row (630 + 4 * j) = 10 then (if sCan row (xr row (629 + 4 * j)) (xr row (631 + 4 * j)) then saW row (xr row (629 + 4 * j)) (xr row (631 + 4 * j)) else row) else upd row (52 + xr row (629 + 4 * j)) (nI (min 99 (xr row (52 + xr row (629 + 4 * j)) + 20)))) else row := rfl
    have hd1 : row (628 + 4 * j) = nI (xr row (628 + 4 * j)) := d1
    have hp1 : row (629 + 4 * j) = nI (xr row (629 + 4 * j)) := p1
    generalize hpp : xr row (629 + 4 * j) = p at p2 hp1 hstep
    rw [hp1] at r4
    generalize hkk : xr row (630 + 4 * j) = kd at k2 k9 kg ks r5 r6 hstep
    have fin : ∀ τ2 fr3 X3, fwd tg i τ fr2 τ2 fr3 → tG τ2 fr3 tg i t d ta X3 → XW X3 (wkW j row) → τ.2.2.1 ≤ τ2.2.2.1 + 1 → τ.2.2.2 ≤ τ2.2.2.2 + 4 → hbX10_passes_162 N K (hlX10_passes_14 N K fu) t 1 v2 b (nI (xr w 67)) (nI j) τ2 := by
      intro τ2 fr3 X3 g1 g2 g3 g4 g5
      unfold hbX10_passes_162 xd_lt
      rw [show (nI j + 1) = nI (j + 1) from (nI_succ j).symm]
      exact hn τ2 ⟨fr3, X3, h1.trans g1, g2, by rw [hnext]; exact g3, by omega, by omega⟩
    show hbX10_passes_14 N K (hlX10_passes_14 N K fu) t 1 v2 b (nI (xr w 67)) (nI j) τ
    refine w_f (by rw [xp_le (by omega) (by omega)]; omega) (aR_f hgI (h1.2.2.1 b c hb) hc1 rfl ⟨by rw [hc2]; exact hj, by omega⟩ r1 (re 0 0 _ rfl (by omega) ?_))
    refine t_gI h2.T (by omega) ?_
    rw [h3.day, hI.day, r3, hd1]
    have hdB := hI.dayB
    have hpP : p < X2.2.2.2.2.2.1 ∧ X2.2.2.2.2.2.1 ≤ 10 := by rw [h3.nP]; omega
    have hbr := hI.breathB (p := p) (by omega)
    have hatB := hI.atB (p := p) (by omega)
    by_cases cd : xr row (628 + 4 * j) = xr row 0
    · rw [if_pos cd] at hstep
      refine w_t (by rw [cd]) (re 1 1 _ rfl (by omega) ?_)
      rw [r4]
      unfold xd_lt
      refine re 2 2 _ rfl (by omega) ?_
      rw [r5]
      -- behind the going
      have b128 : ∀ τ2 fr3 X3, fwd tg i τ fr2 τ2 fr3 → tG τ2 fr3 tg i t d ta X3 → XW X3 (wkW j row) → kd ≠ 11 → τ.2.2.1 ≤ τ2.2.2.1 + 1 → τ.2.2.2 ≤ τ2.2.2.2 + 4 → hbX10_passes_128 N K (hlX10_passes_14 N K fu) t 1 v2 b (nI (xr w 67)) (nI j) e (nI p) τ2 := by
        intro τ2 fr3 X3 g1 g2 g3 hk g4 g5
        refine aI_f g2.2.1 ((r2.mono h1.2.2.1).mono g1.2.2.1) (n := 2) rfl ⟨by omega, by decide⟩ ?_
        rw [r5]
        exact w_t (by show nI (kd - 9) ≠ nI 2; rw [ne_eq, xp_eq (by omega) (by omega)]; omega) (fin τ2 fr3 X3 g1 g2 g3 g4 g5)
      by_cases c9 : kd = 9
      · subst c9
        obtain ⟨z1, z2⟩ := kg rfl
        have r6' := (r6 (by decide)).trans z1
        rw [if_pos rfl] at hstep
        have b95 : ∀ τ2 fr3 X3, fwd tg i τ fr2 τ2 fr3 → tG τ2 fr3 tg i t d ta X3 → XW X3 (wkW j row) → τ.2.2.1 ≤ τ2.2.2.1 + 1 → τ.2.2.2 ≤ τ2.2.2.2 + 4 → hbX10_passes_95 N K (hlX10_passes_14 N K fu) t 1 v2 b (nI (xr w 67)) (nI j) e (nI p) τ2 := by
          intro τ2 fr3 X3 g1 g2 g3 g4 g5
          refine aI_f g2.2.1 ((r2.mono h1.2.2.1).mono g1.2.2.1) (n := 2) rfl ⟨by omega, by decide⟩ ?_
          rw [r5]
          exact w_t (by decide) (b128 τ2 fr3 X3 g1 g2 g3 (by decide) g4 g5)
        refine w_f (by decide) (t_g9 h2.T (t_aM h2.T rfl hpP (t_mI h2.T hpP.1 (j := 0) rfl (by omega) (re 3 3 _ rfl (by omega) ?_))))
        rw [h3.at (by omega), hI.at (by omega), r6']
        by_cases ca : xr row (32 + p) = xr row (631 + 4 * j)
        · rw [if_pos ca] at hstep
          exact w_t (by rw [ca]) (b95 τ fr2 X2 fwd.rfl h2 (by rw [hstep]; exact h3) (by omega) (by omega))
        · rw [if_neg ca] at hstep
          refine w_f (by rw [xp_eq (by omega) (by omega)]; exact ca) (t_g9 h2.T (t_aM h2.T rfl hpP (re 3 3 _ rfl (by omega) ?_)))
          rw [r6']
          refine g_mS h2 hpP.1 (j := 0) rfl (by omega) rfl (fun τ2 q1 q2 q3 => ?_)
          have hw2 := h3.uM hI (p := p) (by omega) (j := 0) (v := nI (xr row (631 + 4 * j))) (by omega)
          have hI2 := hI.up (j := 32 + p) (v := nI (xr row (631 + 4 * j))) (by omega) (by omega) (by omega) (by omega) (by omega) (fun _ _ => ⟨xr row (631 + 4 * j), z2, rfl⟩) (by omega) (by omega)
          refine aI_f q3.2.1 (r2.mono h1.2.2.1) (n := 3) rfl ⟨by omega, by decide⟩ ?_
          rw [r6']
          refine t_is q3.T (w_cc 1 4 (by rw [q1]; omega) (by rw [q1]; omega) (w_notes (σ := (τ2.1, τ2.2.1, 1, 4)) q3.b hw2 hI2 rfl (Nat.le_refl _) (Nat.le_refl _) (fun τ3 fr3 X3 s1 s2 s3 => ?_)))
          exact b95 _ fr3 X3 (q2.trans s1.b0.b) s2.b (by rw [hstep]; exact s3) (by show τ.2.2.1 ≤ τ2.2.2.1 - 1 + 1; rw [q1]; omega) (by show τ.2.2.2 ≤ τ2.2.2.2 - 4 + 4; rw [q1]; omega)
      · rw [if_neg c9] at hstep
        refine w_t (by show nI (kd - 9) ≠ nI 0; rw [ne_eq, xp_eq (by omega) (by omega)]; omega) ?_
        refine re 2 2 _ rfl (by omega) ?_
        rw [r5]
        by_cases c10 : kd = 10
        · subst c10
          obtain ⟨z1, z2⟩ := ks rfl
          have r6' := (r6 (by decide)).trans z1
          rw [if_pos rfl] at hstep
          refine w_f (by decide) (re 3 3 _ rfl (by omega) ?_)
          rw [r6']
          refine t_is h2.T (w_c0 (w_can (σ := (τ.1, τ.2.1, 0, 0)) h2.b h3 hI hlR hN (p := p) (k := xr row (631 + 4 * j)) (by omega) (by omega) ?_))
          rw [decide_eq_true p2, decide_eq_true z2, Bool.true_and, Bool.true_and]
          by_cases hc : sCan row p (xr row (631 + 4 * j)) = true
          · rw [if_pos hc] at hstep
            rw [hc]
            refine w_f (by decide) (re 3 3 _ rfl (by omega) ?_)
            rw [r6']
            refine t_is h2.T (w_cc 1 4 (by show 1 ≤ τ.2.2.1; omega) (by show 4 ≤ τ.2.2.2; omega) (w_saysD (σ := (τ.1, τ.2.1, 1, 4)) h2.b h3 hI hlR hN p2 z2 hc (Nat.le_refl _) (Nat.le_refl _) (fun τ3 fr3 X4 s1 s2 s3 => ?_)))
            exact b128 _ fr3 X4 s1.b0.b s2.b (by rw [hstep]; exact s3) (by decide) (by show τ.2.2.1 ≤ τ.2.2.1 - 1 + 1; omega) (by show τ.2.2.2 ≤ τ.2.2.2 - 4 + 4; omega)
          · have hc' : sCan row p (xr row (631 + 4 * j)) = false := by simpa using hc
            rw [if_neg hc] at hstep
            rw [hc']
            exact w_t (by decide) (b128 τ fr2 X2 fwd.rfl h2 (by rw [hstep]; exact h3) (by decide) (by omega) (by omega))
        · rw [if_neg c10] at hstep
          have c11 : kd = 11 := by omega
          subst c11
          refine w_t (by decide) (re 2 2 _ rfl (by omega) ?_)
          rw [r5]
          refine w_f (by decide) (t_g9 h2.T (t_aM h2.T rfl hpP (t_g9 h2.T (t_aM h2.T rfl hpP (t_mI h2.T hpP.1 (j := 2) rfl (by omega) ?_)))))
          rw [h3.breath (by omega), hI.breath (by omega)]
          unfold xd_lt
          rw [show (nI (xr row (52 + p)) + 20) = nI (xr row (52 + p) + 20) from nI_add _ 20, show (if nI (xr row (52 + p) + 20) < 99 then nI (xr row (52 + p) + 20) else 99) = nI (min 99 (xr row (52 + p) + 20)) from ?_]
          · refine g_mS h2 hpP.1 (j := 2) rfl (by omega) rfl (fun τ2 q1 q2 q3 => ?_)
            have hw2 := h3.uM hI (p := p) (by omega) (j := 2) (v := nI (min 99 (xr row (52 + p) + 20))) (by omega)
            exact fin τ2 fr2 _ q2 q3 (by rw [hstep]; exact hw2) (by rw [q1]; omega) (by rw [q1]; omega)
          · show (if nI (xr row (52 + p) + 20) < nI 99 then nI (xr row (52 + p) + 20) else nI 99) = _
            by_cases c : xr row (52 + p) + 20 < 99
            · rw [if_pos (nI_lt c (by omega)), Nat.min_eq_right (by omega)]
            · rw [if_neg (nI_nlt (by omega) (by omega)), Nat.min_eq_left (by omega)]
    · rw [if_neg cd] at hstep
      exact w_f (by rw [xp_eq (by omega) (by omega)]; exact cd) (fin τ fr2 X2 fwd.rfl h2 (by rw [hstep]; exact h3) (by omega) (by omega))
end
