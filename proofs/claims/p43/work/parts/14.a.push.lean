section
variable {σ τ ρ : xd_S} {fr fr2 : xd_M} {tg tg2 : lTg} {i t b6 a10 : Nat} {d d2 : lD} {ta ta2 : Nat → Option Nat} {X X2 : lX} {N M : Nat} {K : xd_K} {m n k j r B B2 I2 T2 : Nat} {J J2 : xc_M} {w w2 w0 : Nat → Int32} {R : Nat → Nat → Int32} {Sc : Nat × Nat × (Nat → Int32)} {V0 : Nat → Option Nat} {g0 : Nat → Int32}
/-- the talk before a deed is kept -/
theorem law_1050 {k41 : Nat → Nat → Int32 → Int32 → xd_S → Prop} (hN : 1000 ≤ N) (h : SAM σ fr tg i t d ta X J) (hi2 : i ≠ 2) (hWAS : WAS σ fr tg b6 i ta J n R B) (hn : n ≤ 6) (hT : tT σ.1 fr tg I2 a10 d2 ta X2) (h0 : I2 ≠ 0 ∧ I2 ≠ 2 ∧ I2 ≠ i) (hB : B ≤ I2) (hB2 : I2 < B2) (hX : XW X2 (mixP w0 (J 1))) (hb : xr w0 2 ≤ xr (J 1) 2) (hm2 : ∀ s, s < n → xr (R s) 2 ≤ xr w0 2) (h4 : J 0 4 = nI (min 6 (n + 1))) (hC : 1 ≤ σ.2.2.1) (hS : 8 ≤ σ.2.2.2) (hK : ∀ τ' J', SAM τ' fr tg i t d ta X J' → smJ J J' → WAS τ' fr tg b6 i ta J (min 6 (n + 1)) (pushR n R w0) B2 → τ'.2.2.1 + 1 = σ.2.2.1 → τ'.2.2.2 + 8 = σ.2.2.2 → k41 t b6 (nI (min 6 (n + 1))) (nI (r + 1)) τ') : hbL_law_1050 N M Sc K k41 t b6 (nI n) (nI r) a10 1 σ := by
  obtain ⟨cb, I, T, D, Y, ⟨c1, c2, c3, c4⟩, hs, -⟩ := id hWAS
  obtain ⟨hG, hw, hRR, h18, hl, hmn, hd, hk⟩ := h
  obtain ⟨ck, cn, g0, V0⟩ := cb
  have e1 : ck = 4 := c2
  have e2 : cn = 6 := c3
  subst e1
  subst e2
  obtain ⟨ct, t1, t2, -⟩ := hT.1
  have nab : a10 ≠ b6 := fun z => by
    rw [z, c1] at t1
    rw [← Option.some.inj t1] at t2
    exact absurd t2 (by show ¬ (4 : Nat) = 14; decide)
  have put : ∀ (σ1 : xd_S) (V1 : Nat → Option Nat) (n2 : Nat), σ1.1 = xd_up σ.1 b6 (4, 6, g0, V1) → σ1.2 = σ.2 → n2 + 1 = min 6 (n + 1) → (∀ s, s < n2 → V1 s = if n < 6 then V0 s else V0 (s + 1)) → hbL_law_1091 N M Sc K k41 t b6 (nI n2) (nI r) a10 σ1 := by
    intro σ1 V1 n2 y1 y2 y3 y4
    unfold hbL_law_1091
    refine w_lt (nI_add n2 1) (w_sRg (n := n2) (c := (4, 6, g0, V1)) (e := ct) (by rw [y1]; exact xu_s _ _ _) (Eq.refl _) (by rw [y1, xu_n _ _ nab]; exact t1) t2 (Eq.refl _) ⟨by show n2 < 6; omega, by show 6 < 2 ^ 31; decide⟩ (fun σb fa fb => ?_))
    have fa' : σb.1 = xd_up σ.1 b6 (4, 6, g0, va_up V1 n2 (some a10)) := by rw [fa, y1, xu_u]
    have hp := hWAS.push (ρ := σb) (w0 := w0) (T2 := a10) (d2 := d2) (B2 := B2) hn c1 fa' (fun s hs1 => by
      by_cases z : s = min 6 (n + 1) - 1
      · rw [if_pos z, z, show min 6 (n + 1) - 1 = n2 by omega, vup_s]
      · rw [if_neg z, vup_n _ _ (by omega)]
        exact y4 s (by omega)) hT h0 hB hB2 hX hb hm2
    have hGb : tG σb fr tg i t d ta X := by
      have h3 := hG.row (e := b6) (ce := (4, 6, g0, va_up V1 n2 (some a10))) (s := σb.2) (by rw [c4]; decide) (by rw [c4]; exact fun z => hi2 z.symm)
      rw [← fa'] at h3
      exact h3
    have eI : σb.2 = σ.2 := fb.trans y2
    rw [y3]
    refine law_1100 hN ⟨hGb, hw, by rw [eI]; exact hRR, h18, hl, hmn, hd, hk⟩ h4 (by rw [eI]; exact hC) (by rw [eI]; exact hS) (fun τ' J' z1 z2 z3 z4 z5 => hK τ' J' z1 z2 ?_ (by rw [z4, eI]) (by rw [z5, eI]))
    have hi := hRR.1.i
    exact hp.of hi2 hi (fun x _ hx => z3 x hx) hGb.2.1 (fun _ _ q => q) (fun _ _ => Eq.refl _) (fun _ _ _ _ _ => Eq.refl _) (by
      obtain ⟨cb', I', T', D', Y', -, hs', -⟩ := hp
      exact fun s hs0 => (hs' s hs0).2.2.2.2)
  unfold hbL_law_1050
  refine w_f (by decide) ?_
  by_cases h6 : n = 6
  · subst h6
    refine w_f (fun z => z (by decide)) (w_lt (Eq.refl _) (law_1065 (by omega) c1 (fun s hs0 => ?_) (fun τ p1 p2 => put τ _ 5 p1 p2 (by decide) (fun s hs0 => ?_))))
    · obtain ⟨s1, -, s5, -⟩ := hs s hs0
      obtain ⟨c, q1, q2, -⟩ := s5.1
      exact ⟨T s, c, s1, q1, q2⟩
    · unfold shV
      rw [if_pos (by omega), if_neg (by omega)]
  · refine w_t (fun z => h6 (by have := congrArg Int32.toNatClampNeg z; rw [nI_clamp (by omega)] at this; exact this)) (put σ V0 n (by rw [xu_id c1]) (Eq.refl _) (by omega) (fun s _ => by rw [if_pos (by omega)]))
end
