-- ===== the days of a step =====
section
variable {σ σ1 τ ρ : xd_S} {fr fr2 : xd_M} {tg tg2 : lTg} {i t b6 a10 : Nat} {d d2 : lD} {ta ta2 : Nat → Option Nat} {X X2 : lX} {N M : Nat} {K : xd_K} {m n n2 k j r B B2 I2 T2 dd q c : Nat} {I3 J J2 : xc_M} {w w2 w3 w0 : Nat → Int32} {R : Nat → Nat → Int32} {Sc : Nat × Nat × (Nat → Int32)} {V0 V1 : Nat → Option Nat} {g0 : Nat → Int32} {v11 v12 v13 v14 : Int32}
theorem rwk.trans (h : rwk w w2) (g : rwk w2 w3) : rwk w w3 := ⟨h.1.trans g.1, fun j hj => (g.2 j hj).trans (h.2 j hj)⟩
/-- up to a day: the kept talks and the talk are the rows' -/
def DI (b6 i t : Nat) (d : lD) (ta : Nat → Option Nat) (fr : xd_M) (J : xc_M) (r : Nat) (σ : xd_S) (u : dyT) (j : Nat) (s : Nat × Nat × xd_S) : Prop := s.1 = u.1.1 ∧ s.2.1 = u.2.1 ∧ ∃ (fr2 : xd_M) (tg2 : lTg) (X2 : lX) (B2 : Nat), tG s.2.2 fr2 tg2 i t d ta X2 ∧ XW X2 u.2.2 ∧ (∀ a, (tg2 a).1 < B2) ∧ WAS s.2.2 fr2 tg2 b6 i ta (fun _ => u.2.2) u.1.1 u.1.2 B2 ∧ (∀ x c, fr x = some c → fr2 x = some c) ∧ s.2.2.2.1 = σ.2.1 ∧ rwk (J 1) u.2.2 ∧ σ.2.2.1 ≤ s.2.2.2.2.1 + 82 * j ∧ σ.2.2.2 ≤ s.2.2.2.2.2 + 560 * j ∧ ∀ q, q < u.1.1 → xr (u.1.2 q) 0 ≤ 15 * r + j
theorem law_162 {k41 : Nat → Nat → Int32 → Int32 → xd_S → Prop} (hN : 1000 ≤ N) (h : MID b6 r t n a10 σ fr tg i d d2 ta X J B R) (h1 : 1 ≤ dd) (h15 : dd ≤ 15) (hK : ∀ t' n' σ', LI b6 (r + 1) t' n' σ' → k41 t' b6 (nI n') (nI (r + 1)) σ') : hlL_law_162 N M Sc K k41 N t b6 (nI n) (nI r) a10 0 (nI dd) 0 0 σ := by
  obtain ⟨⟨hG, hw, hRR, h18, ht⟩, ⟨hi2, h13⟩, hB, hWAS, hPA, ⟨hd, hd2⟩, hT, ⟨hiB, h2B⟩, hC, hS, hr⟩ := h
  have hi := hRR.1.i
  have hinv := dy_inv hi (n, R) hPA.1 (d := dd) (by omega)
  refine w_loop (S := Nat × Nat × xd_S) (fun fu j s => hlL_law_162 N M Sc K k41 fu t b6 (nI s.1) (nI r) a10 0 (nI dd) (nI s.2.1) (nI j) s.2.2) dd (fun j s => DI b6 i t d ta fr J r σ (itr dyF ((n, R), (0, J 1)) j) j s) (fun fu s hI => ?_) (fun fu j s hj hI ih => ?_) N 0 (n, 0, σ) (by omega) (by omega) ⟨Eq.refl _, Eq.refl _, fr, tg, X, B + 1, hG, hw, hB, (hWAS.ext hG.2.1 ext.rfl (by omega)).jj (J2 := fun _ => J 1) (Eq.refl _), fun _ _ h => h, Eq.refl _, rwk.rfl, Nat.le_refl _, Nat.le_refl _, fun q hq => hd2 q hq⟩
  · obtain ⟨n', c', τ⟩ := s
    obtain ⟨I2, J2, s1, s2, s3, s4, s5⟩ := c_days hRR hPA hN (d := dd) h1 (by omega) (by omega)
    obtain ⟨a1, a2, a3, a4⟩ := hinv dd (Nat.le_refl _)
    generalize itr dyF ((n, R), (0, J 1)) dd = u at hI s1 s3 s4 a1 a2 a3 a4
    obtain ⟨b1, b2, fr2, tg2, X2, B2, g1, g2, g3, g4, g5, g6, g7, g8, g9, g10⟩ := hI
    have b1' : n' = u.1.1 := b1
    have b2' : c' = u.2.1 := b2
    subst b1' b2'
    show hbL_law_162 N M Sc K k41 _ t b6 (nI u.1.1) (nI r) a10 0 (nI dd) (nI u.2.1) (nI dd) τ
    unfold hbL_law_162
    have g6' : τ.2.1 = σ.2.1 := g6
    have g8' : σ.2.2.1 ≤ τ.2.2.1 + 82 * dd := g8
    have g9' : σ.2.2.2 ≤ τ.2.2.2 + 560 * dd := g9
    refine w_t (by rw [xp_le (by omega) (by omega)]; omega) (w_xc (by rw [g6']; exact s1) (w_t (Eq.refl _) ?_))
    refine fin0 (σ := (τ.1, I2, τ.2.2)) (d := d) (J := J2) (R := u.1.2) hN ⟨g1.st, by rw [s3]; exact g2, s2, s5.trans h18, ?_⟩ hi2 h13 g3 ?_ s4 (by rw [s3, a2]; omega) (fun q hq => by have := g10 q hq; omega) hr (by show 597000 ≤ τ.2.2.1 + _ + _; omega) (by show 7033000 ≤ τ.2.2.2 + _ + _; omega) hK
    · exact told_c ht hi g5 (fun j hj => by rw [s3]; exact g7.2 j (by omega))
    · exact g4.jj s3
  · obtain ⟨n', c', τ⟩ := s
    obtain ⟨a1, a2, a3, a4⟩ := hinv j (by omega)
    have ih' : ∀ s2, DI b6 i t d ta fr J r σ (dyF j (itr dyF ((n, R), (0, J 1)) j)) (j + 1) s2 → hlL_law_162 N M Sc K k41 fu t b6 (nI s2.1) (nI r) a10 0 (nI dd) (nI s2.2.1) (nI (j + 1)) s2.2.2 := fun s2 hs2 => ih s2 (by rw [itr_s]; exact hs2)
    clear ih
    generalize itr dyF ((n, R), (0, J 1)) j = u at hI ih' a1 a2 a3 a4
    obtain ⟨b1, b2, fr2, tg2, X2, B2, g1, g2, g3, g4, g5, g6, g7, g8, g9, g10⟩ := hI
    have b1' : n' = u.1.1 := b1
    have b2' : c' = u.2.1 := b2
    subst b1' b2'
    have g6' : τ.2.1 = σ.2.1 := g6
    have g8' : σ.2.2.1 ≤ τ.2.2.1 + 82 * j := g8
    have g9' : σ.2.2.2 ≤ τ.2.2.2 + 560 * j := g9
    show hbL_law_162 N M Sc K k41 (hlL_law_162 N M Sc K k41 fu) t b6 (nI u.1.1) (nI r) a10 0 (nI dd) (nI u.2.1) (nI j) τ
    unfold hbL_law_162
    refine w_f (by rw [xp_le (by omega) (by omega)]; omega) ?_
    obtain ⟨⟨ck, cn, g0, V0⟩, I, T, D, Y, ⟨c1, c2, c3, c4⟩, hs, -⟩ := id g4
    have e1 : ck = 4 := c2
    have e2 : cn = 6 := c3
    subst e1
    subst e2
    have ht2 := told_c ht hi g5 (fun j hj => g7.2 j (by omega))
    have put : ∀ (σ1 : xd_S) (V1 : Nat → Option Nat) (n2 : Nat), σ1.1 = xd_up τ.1 b6 (4, 6, g0, V1) → σ1.2 = τ.2 → n2 + 1 = min 6 (u.1.1 + 1) → (∀ s, s < n2 → V1 s = if u.1.1 < 6 then V0 s else V0 (s + 1)) → hbL_law_205 N M Sc K k41 (hlL_law_162 N M Sc K k41 fu) t b6 (nI n2) (nI r) a10 0 (nI dd) (nI u.2.1) (nI j) σ1 := by
      intro σ1 V1 n2 y1 y2 y3 y4
      refine law_205 (J := fun _ => u.2.2) hN g1 g2 a1 ht2 h13 hi2 g3 g4 a4 c1 y1 y2 y3 y4 (by omega) (by omega) (fun τ' fr3 tg3 X3 z1 z2 z3 z4 z5 z6 z7 z8 => ?_)
      refine ih' (min 6 (u.1.1 + 1), u.2.1 + (psW u.2.2).1, τ') ⟨Eq.refl _, Eq.refl _, fr3, tg3, X3, B2 + 1, z1, z2, z3, z4, fun x c hc => z5 x c (g5 x c hc), z6.trans g6', g7.trans (bk.day a1), ?_, ?_, fun q hq => ?_⟩
      · show σ.2.2.1 ≤ τ'.2.2.1 + 82 * (j + 1)
        omega
      · show σ.2.2.2 ≤ τ'.2.2.2 + 560 * (j + 1)
        omega
      · have hq' : q < min 6 (u.1.1 + 1) := hq
        show xr (pushR u.1.1 u.1.2 u.2.2 q) 0 ≤ _
        unfold pushR
        by_cases q1 : q = min 6 (u.1.1 + 1) - 1
        · rw [if_pos q1, a2]
          omega
        · rw [if_neg q1]
          by_cases q2 : u.1.1 < 6
          · rw [if_pos q2]
            have := g10 q (by omega)
            omega
          · rw [if_neg q2]
            have := g10 (q + 1) (by omega)
            omega
    by_cases h6 : u.1.1 = 6
    · refine w_f (fun z => z (by rw [h6]; decide)) (w_lt (Eq.refl _) ?_)
      rw [h6]
      refine law_179 (by omega) c1 (fun s hs0 => ?_) (fun τ p1 p2 => put τ _ 5 p1 p2 (by omega) (fun s hs0 => ?_))
      · obtain ⟨s1, -, s5, -⟩ := hs s (by omega)
        obtain ⟨c, q1, q2, -⟩ := s5.1
        exact ⟨T s, c, s1, q1, q2⟩
      · unfold shV
        rw [if_pos (by omega), if_neg (by omega)]
    · refine w_t (fun z => h6 (by have := congrArg Int32.toNatClampNeg z; rw [nI_clamp (by omega)] at this; exact this)) (put τ V0 u.1.1 (by rw [xu_id c1]) (Eq.refl _) (by omega) (fun s _ => by rw [if_pos (by omega)]))
theorem law_151 {k41 : Nat → Nat → Int32 → Int32 → xd_S → Prop} {x : Int32} (hN : 1000 ≤ N) (h : MID b6 r t n a10 σ fr tg i d d2 ta X J B R) (h1 : 1 ≤ dd) (h15 : dd ≤ 15) (hv : v12 = nI dd) (hK : ∀ t' n' σ', LI b6 (r + 1) t' n' σ' → k41 t' b6 (nI n') (nI (r + 1)) σ') : hbL_law_151 N M Sc K k41 t b6 (nI n) (nI r) a10 0 v12 1 x σ := by
  unfold hbL_law_151
  refine w_c0 (w_between _ (lo := 1) (hi := dd) h1 (by omega) (by decide) hv (fun q q1 q2 => w_lt (Eq.refl _) (w_lt (Eq.refl _) (w_lt (Eq.refl _) (law_162 hN h q1 (by omega) hK)))))
end
