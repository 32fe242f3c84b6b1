-- ===== a day of the law's loop =====
section
variable {σ σ1 τ ρ : xd_S} {fr fr2 : xd_M} {tg tg2 : lTg} {i t b6 a10 : Nat} {d d2 : lD} {ta ta2 : Nat → Option Nat} {X X2 : lX} {N M : Nat} {K : xd_K} {m n n2 k j r B B2 I2 T2 dd q c : Nat} {I3 J J2 : xc_M} {w w2 w0 : Nat → Int32} {R : Nat → Nat → Int32} {Sc : Nat × Nat × (Nat → Int32)} {V0 V1 : Nat → Option Nat} {g0 : Nat → Int32} {v11 v12 v13 v14 : Int32}
theorem mixP_self (w : Nat → Int32) : mixP w w = w := by
  funext j
  by_cases h : j < 62
  · exact mixP_lo h
  · exact mixP_hi (by omega)
theorem cnX_of (hw : XW X w) (hi : iW w) : cnX X := ⟨by rw [hw.nw, hw.nW]; exact hi.nW, by rw [hw.np, hw.nP]; exact hi.nP, by rw [hw.nl, hw.nL]; exact hi.book, by rw [hw.nW]; have := hi.nWB; omega, by rw [hw.nP]; have := hi.nPB; omega, by rw [hw.nL]; have := hi.bookB; omega⟩
/-- six kept talks are moved by one, on a day -/
theorem law_179 {k41 : Nat → Nat → Int32 → Int32 → xd_S → Prop} {k162 : Nat → Nat → Int32 → Int32 → Nat → Int32 → Int32 → Int32 → Int32 → xd_S → Prop} (hN : 100 ≤ N) (hcell : σ.1 b6 = some (4, 6, g0, V0)) (hV : ∀ s, s < 6 → ∃ T c, V0 s = some T ∧ σ.1 T = some c ∧ c.1 = 14) (hK : ∀ τ, τ.1 = xd_up σ.1 b6 (4, 6, g0, shV V0 6) → τ.2 = σ.2 → hbL_law_205 N M Sc K k41 k162 t b6 (nI 5) (nI r) a10 v11 v12 v13 v14 τ) : hlL_law_179 N M Sc K k41 k162 N t b6 (nI 6) (nI r) a10 v11 v12 v13 v14 1 σ := by
  refine w_loop (S := xd_S) (fun fu j τ => hlL_law_179 N M Sc K k41 k162 fu t b6 (nI 6) (nI r) a10 v11 v12 v13 v14 (nI j) τ) 6 (fun j τ => 1 ≤ j ∧ τ.1 = xd_up σ.1 b6 (4, 6, g0, shV V0 j) ∧ τ.2 = σ.2) (fun fu τ hI => ?_) (fun fu j τ hj hI ih => ?_) N 1 σ (by omega) (by omega) ⟨Nat.le_refl _, by rw [shV_1, xu_id hcell], Eq.refl _⟩
  · show hbL_law_179 N M Sc K k41 k162 _ t b6 (nI 6) (nI r) a10 v11 v12 v13 v14 (nI 6) τ
    unfold hbL_law_179
    exact w_t (by decide) (w_lt (v := nI 5) (by decide) (hK τ hI.2.1 hI.2.2))
  · obtain ⟨i1, i2, i3⟩ := hI
    obtain ⟨T, c, v1, v2, v3⟩ := hV j hj
    have nT : T ≠ b6 := fun z => by
      rw [z, hcell] at v2
      rw [← Option.some.inj v2] at v3
      exact absurd v3 (by show ¬ (4 : Nat) = 14; decide)
    have e6 : τ.1 b6 = some (4, 6, g0, shV V0 j) := by rw [i2]; exact xu_s _ _ _
    have eT : τ.1 T = some c := by rw [i2, xu_n _ _ nT]; exact v2
    have ej : shV V0 j j = some T := by
      unfold shV
      rw [if_neg (by omega)]
      exact v1
    show hbL_law_179 N M Sc K k41 k162 _ t b6 (nI 6) (nI r) a10 v11 v12 v13 v14 (nI j) τ
    unfold hbL_law_179
    refine w_f (by rw [show (6 : Int32) = nI 6 from rfl, xp_le (by omega) (by omega)]; omega) (w_aR (n := j) e6 (Eq.refl _) (Eq.refl _) ⟨hj, by show 6 < 2 ^ 31; decide⟩ ej ?_)
    refine w_sRg (n := j - 1) (c := (4, 6, g0, shV V0 j)) e6 (Eq.refl _) eT v3 (by rw [show (1 : Int32) = nI 1 from rfl, pk_sub i1]) ⟨by show j - 1 < 6; omega, by show 6 < 2 ^ 31; decide⟩ (fun σb fa fb => ?_)
    refine w_lt (nI_add j 1) (ih σb ⟨by omega, ?_, fb.trans i3⟩)
    rw [fa, i2, xu_u, ← v1]
    show xd_up σ.1 b6 (4, 6, g0, va_up (shV V0 j) (j - 1) (V0 j)) = _
    rw [shV_s V0 i1]
/-- the talk's copy is kept and a day passes -/
theorem law_205 {k41 : Nat → Nat → Int32 → Int32 → xd_S → Prop} {k162 : Nat → Nat → Int32 → Int32 → Nat → Int32 → Int32 → Int32 → Int32 → xd_S → Prop} (hN : 1000 ≤ N) (hG : tG σ fr tg i t d ta X) (hw : XW X (J 1)) (hi : iW (J 1)) (ht : lawR fr (ta 15) (J 1) ∧ mnT fr (ta 14) (J 1) ∧ ndT fr (ta 11) (J 1) ∧ wkT fr (ta 10) (J 1)) (h13 : ∃ e, ta 13 = some e) (hi2 : i ≠ 2) (hB : ∀ a, (tg a).1 < B) (hWAS : WAS σ fr tg b6 i ta J n R B) (hn : n ≤ 6) (hcell : σ.1 b6 = some (4, 6, g0, V0)) (y1 : σ1.1 = xd_up σ.1 b6 (4, 6, g0, V1)) (y2 : σ1.2 = σ.2) (y3 : n2 + 1 = min 6 (n + 1)) (y4 : ∀ s, s < n2 → V1 s = if n < 6 then V0 s else V0 (s + 1)) (hC : 82 ≤ σ.2.2.1) (hS : 560 ≤ σ.2.2.2) (hK : ∀ τ fr2 tg2 X2, tG τ fr2 tg2 i t d ta X2 → XW X2 (edW (psW (J 1)).2) → (∀ a, (tg2 a).1 < B + 1) → WAS τ fr2 tg2 b6 i ta (fun _ => edW (psW (J 1)).2) (min 6 (n + 1)) (pushR n R (J 1)) (B + 1) → (∀ x c, fr x = some c → fr2 x = some c) → τ.2.1 = σ.2.1 → τ.2.2.1 + 82 = σ.2.2.1 → τ.2.2.2 + 560 = σ.2.2.2 → k162 t b6 (nI (min 6 (n + 1))) (nI r) a10 v11 v12 (nI (c + (psW (J 1)).1)) (nI (q + 1)) τ) : hbL_law_205 N M Sc K k41 k162 t b6 (nI n2) (nI r) a10 v11 v12 (nI c) (nI q) σ1 := by
  obtain ⟨cb0, -, -, -, -, ⟨c1, c2, c3, c4⟩, -⟩ := id hWAS
  obtain ⟨hl, hmn, hnd, hwk⟩ := id ht
  obtain ⟨e13, q13⟩ := h13
  obtain ⟨e14, -, q14, -⟩ := id hmn
  obtain ⟨e11, -, q11, -⟩ := id hnd
  obtain ⟨e10, -, q10, -⟩ := id hwk
  have h2B : 2 < B := by have := hB b6; omega
  have hiB : i < B := by have := hB t; rw [hG.2.2.tgO] at this; exact this
  have row : ∀ (ρ : xd_S) (tg2 : lTg) (V2 : Nat → Option Nat) (ρ2 : xd_S), tG ρ fr tg2 i t d ta X → (tg2 b6).1 = 2 → ρ2.1 = xd_up ρ.1 b6 (4, 6, g0, V2) → tG ρ2 fr tg2 i t d ta X := fun ρ tg2 V2 ρ2 h1 h2 h3 => by
    have h4 := h1.row (e := b6) (ce := (4, 6, g0, V2)) (s := ρ2.2) (by rw [h2]; decide) (by rw [h2]; exact fun z => hi2 z.symm)
    rw [← h3] at h4
    exact h4
  have hG1 : tG σ1 fr tg i t d ta X := row σ tg V1 σ1 hG c4 y1
  have k1 : σ1.2.1 = σ.2.1 := by rw [y2]
  have k2 : σ1.2.2.1 = σ.2.2.1 := by rw [y2]
  have k3 : σ1.2.2.2 = σ.2.2.2 := by rw [y2]
  unfold hbL_law_205
  refine w_lt (nI_add n2 1) (t_is hG1.T (w_cc 42 400 (by omega) (by omega) (w_copy (σ := (σ1.1, σ1.2.1, 42, 400)) (B := B) hG1.st (cnX_of hw hi) (by omega) (fun a => by have := hB a; omega) q10 q11 q13 q14 (by omega) (Nat.le_refl _) (Nat.le_refl _) (fun ρ tg2 t2 d2 z1 z2 z3 z4 => ?_))))
  have eb6 : ρ.1 b6 = some (4, 6, g0, V1) ∧ (tg2 b6).1 = 2 := by
    obtain ⟨a1, a2⟩ := z1.1 b6 (by show σ1.1 b6 ≠ none; rw [y1]; exact nsome (xu_s _ _ _))
    exact ⟨a1.trans (by show σ1.1 b6 = _; rw [y1]; exact xu_s _ _ _), by rw [a2]; exact c4⟩
  obtain ⟨ct, t1, t2', -⟩ := z3.1
  have nt2 : t2 ≠ b6 := fun z => by
    rw [z, eb6.1] at t1
    rw [← Option.some.inj t1] at t2'
    exact absurd t2' (by show ¬ (4 : Nat) = 14; decide)
  have hGρ : tG ρ fr tg2 i t d ta X := ⟨hG1.1, z2, hG1.2.2.ext hG1.1 hG1.2.1 z1⟩
  refine w_nn (w_sRg (n := n2) (c := (4, 6, g0, V1)) (e := ct) eb6.1 (Eq.refl _) t1 t2' (Eq.refl _) ⟨by show n2 < 6; omega, by show 6 < 2 ^ 31; decide⟩ (fun σb fa fb => ?_))
  have hBt : ∀ a, (tg2 a).1 < B + 1 := fun a => by
    by_cases ha : σ1.1 a = none
    · rcases z4 a ha with h | h <;> omega
    · rw [(z1.1 a ha).2]
      have := hB a
      omega
  -- the state before the shift, with the copy
  obtain ⟨τs, hτs⟩ : ∃ τs : xd_S, τs = (xd_up ρ.1 b6 (4, 6, g0, V0), σ.2) := ⟨_, rfl⟩
  have τs6 : τs.1 b6 = some (4, 6, g0, V0) := by rw [hτs]; exact xu_s _ _ _
  have τsn : ∀ x, x ≠ b6 → τs.1 x = ρ.1 x := fun x hx => by rw [hτs]; exact xu_n _ _ hx
  have exs : ext σ tg τs tg2 := by
    refine ⟨fun a ha => ?_, by rw [hτs]⟩
    by_cases za : a = b6
    · rw [za, τs6, hcell]
      refine ⟨Eq.refl _, ?_⟩
      exact (z1.1 b6 (by show σ1.1 b6 ≠ none; rw [y1]; exact nsome (xu_s _ _ _))).2
    · have h1 : σ1.1 a = σ.1 a := by rw [y1]; exact xu_n _ _ za
      obtain ⟨a1, a2⟩ := z1.1 a (by show σ1.1 a ≠ none; rw [h1]; exact ha)
      exact ⟨(τsn a za).trans (a1.trans h1), a2⟩
  have hWs : WAS τs fr tg2 b6 i ta J n R B := hWAS.ext hG.2.1 exs (Nat.le_refl _)
  have hTs : tT τs.1 fr tg2 B t2 d2 ta X := z3.keep (fun x hx => τsn x (fun z => by rw [z, eb6.2] at hx; omega)) (fun _ _ h => h)
  have fa' : σb.1 = xd_up τs.1 b6 (4, 6, g0, va_up V1 n2 (some t2)) := by rw [fa, hτs, xu_u]
  have hp := hWs.push (ρ := σb) (w0 := J 1) (T2 := t2) (d2 := d2) (X2 := X) (B2 := B + 1) hn τs6 fa' (fun s hs1 => by
    by_cases z : s = min 6 (n + 1) - 1
    · rw [if_pos z, z, show min 6 (n + 1) - 1 = n2 by omega, vup_s]
    · rw [if_neg z, vup_n _ _ (by omega)]
      exact y4 s (by omega)) hTs ⟨by omega, by omega, by omega⟩ (Nat.le_refl _) (Nat.lt_succ_self _) (by rw [mixP_self]; exact hw) (Nat.le_refl _) hWAS.le
  have hGb : tG σb fr tg2 i t d ta X := row ρ tg2 _ σb hGρ eb6.2 fa
  have fb1 : σb.2.1 = σ.2.1 := by rw [fb]; exact z1.2.trans k1
  have fb2 : σb.2.2.1 = σ.2.2.1 - 42 := by rw [fb]; show σ1.2.2.1 - 42 = _; rw [k2]
  have fb3 : σb.2.2.2 = σ.2.2.2 - 400 := by rw [fb]; show σ1.2.2.2 - 400 = _; rw [k3]
  refine t_is hGb.T (w_cc 40 160 (by omega) (by omega) (w_passes (σ := (σb.1, σb.2.1, 40, 160)) (w := J 1) hGb.st hw hi hl hwk (by omega) (Nat.le_refl _) (Nat.le_refl _) (fun τ' fr2 X2 u1 u2 u3 => ?_)))
  have hbd := bk.day hi
  refine w_lt (nI_add c _) (w_lt (nI_add q 1) ?_)
  rw [y3]
  refine hK _ fr2 tg2 X2 u2.st u3 hBt (was_rw (J2 := fun _ => edW (psW (J 1)).2) hp hi2 hi (fun x h1 h2 => u1.1 x h1 h2) hGb.2.1 u1.2.2.1 hbd) u1.2.2.1 (u1.2.2.2.trans fb1) ?_ ?_
  · show σb.2.2.1 - 40 + 82 = σ.2.2.1
    omega
  · show σb.2.2.2 - 160 + 560 = σ.2.2.2
    omega
end
