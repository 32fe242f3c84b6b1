-- ===== a step: meanings told anew, of the kept talks too =====
section
variable {σ σ1 τ ρ : xd_S} {fr fr2 : xd_M} {tg tg2 : lTg} {i t b6 a10 : Nat} {d d2 : lD} {ta ta2 : Nat → Option Nat} {tf : Nat → Nat → Option Nat} {X X2 : lX} {N M : Nat} {K : xd_K} {m n n2 k p a j r b b2 B B2 I2 T2 dd q c : Nat} {I3 J J2 : xc_M} {w w2 w3 w0 : Nat → Int32} {R : Nat → Nat → Int32} {Sc : Nat × Nat × (Nat → Int32)}
/-- kept talks, each with what it holds of what is told -/
def WASf (τ : xd_S) (fr : xd_M) (tg : lTg) (b6 i : Nat) (tf : Nat → Nat → Option Nat) (J : xc_M) (n : Nat) (R : Nat → Nat → Int32) (B : Nat) : Prop := ∃ (cb : xd_C) (I T : Nat → Nat) (D : Nat → lD) (Y : Nat → lX), (τ.1 b6 = some cb ∧ cb.1 = 4 ∧ cb.2.1 = 6 ∧ (tg b6).1 = 2) ∧ (∀ s, s < n → cb.2.2.2 s = some (T s) ∧ (I s ≠ 0 ∧ I s ≠ 2 ∧ I s ≠ i ∧ I s < B) ∧ tT τ.1 fr tg (I s) (T s) (D s) (tf s) (Y s) ∧ XW (Y s) (mixP (R s) (J 1)) ∧ xr (R s) 2 ≤ xr (J 1) 2) ∧ (∀ s s', s < n → s' < n → I s = I s' → s = s') ∧ ∀ s s', s ≤ s' → s' < n → xr (R s) 2 ≤ xr (R s') 2
theorem WASf_w (h : WASf τ fr tg b6 i tf J n R B) (e : ∀ s, s < n → tf s = ta) : WAS τ fr tg b6 i ta J n R B := by
  obtain ⟨cb, I, T, D, Y, c, hs, h1, h2⟩ := h
  refine ⟨cb, I, T, D, Y, c, fun s hs0 => ?_, h1, h2⟩
  have := hs s hs0
  rw [e s hs0] at this
  exact this
theorem law_980 {k41 : Nat → Nat → Int32 → Int32 → xd_S → Prop} (hN : 1000 ≤ N) (hn : n ≤ 6) (hi2 : i ≠ 2) (hG : tG σ fr tg i t d ta2 X) (hW : WASf σ fr tg b6 i (fun _ => ta) J n R B) (hta : ta2 = fun q => if q = 11 then some b2 else if q = 14 then some b else ta q) (hK : ∀ τ, tG τ fr tg i t d ta2 X → WAS τ fr tg b6 i ta2 J n R B → τ.2 = σ.2 → hbL_law_1050 N M Sc K k41 t b6 (nI n) (nI r) a10 0 τ) : hlL_law_980 N M Sc K k41 N t b6 (nI n) (nI r) a10 0 0 σ := by
  refine w_loop (S := xd_S) (fun fu j τ => hlL_law_980 N M Sc K k41 fu t b6 (nI n) (nI r) a10 0 (nI j) τ) n (fun j τ => tG τ fr tg i t d ta2 X ∧ WASf τ fr tg b6 i (fun s => if s < j then ta2 else ta) J n R B ∧ τ.2 = σ.2) (fun fu τ hI => ?_) (fun fu j τ hj hI ih => ?_) N 0 σ (by omega) (by omega) ⟨hG, ?_, Eq.refl _⟩
  · obtain ⟨i1, i2, i3⟩ := hI
    show hbL_law_980 N M Sc K k41 _ t b6 (nI n) (nI r) a10 0 (nI n) τ
    unfold hbL_law_980
    exact w_t (by rw [xp_le (by omega) (by omega)]; omega) (hK τ i1 (WASf_w i2 (fun s hs => if_pos hs)) i3)
  · obtain ⟨i1, ⟨cb, I, T, D, Y, ⟨c1, c2, c3, c4⟩, hs, hinj, hmon⟩, i3⟩ := hI
    obtain ⟨s1, ⟨s2, s3, s4, s8⟩, s5, s6, s7⟩ := hs j hj
    have e0 : (fun s => if s < j then ta2 else ta) j = ta := if_neg (by omega)
    rw [e0] at s5
    have tT0 : tg (T j) = (I j, 0, 0) := s5.tgO
    have hGj : tG τ fr tg (I j) (T j) (D j) ta (Y j) := ⟨s2, i1.2.1, s5⟩
    have e14 : ta2 14 = some b := by rw [hta]; rfl
    have e11 : ta2 11 = some b2 := by rw [hta]; rfl
    have nb6 : b6 ≠ T j := fun z => by
      obtain ⟨ct, t1, t2, -⟩ := s5.1
      rw [← z, c1] at t1
      rw [← Option.some.inj t1, c2] at t2
      exact absurd t2 (by decide)
    have ne : ∀ (I' x : Nat), I' ≠ I j → (tg x).1 = I' → x ≠ T j := fun I' x h1 h2 z => h1 (by rw [← h2, z, tT0])
    show hbL_law_980 N M Sc K k41 (hlL_law_980 N M Sc K k41 fu) t b6 (nI n) (nI r) a10 0 (nI j) τ
    unfold hbL_law_980
    refine w_f (by rw [xp_le (by omega) (by omega)]; omega) (w_aR (n := j) c1 c2 (Eq.refl _) ⟨by omega, by omega⟩ s1 (t_gT i1.T (by omega) e14 ?_))
    refine g_pR (u := some b) hGj (by omega) (fun τ1 q1 q2 q3 q4 => ?_)
    have hT1 : tT τ1.1 fr tg i t d ta2 X := i1.2.2.keep (fun x hx => q2 x (ne i x s4.symm hx)) (fun _ _ h => h)
    refine w_aR (n := j) ((q2 b6 nb6).trans c1) c2 (Eq.refl _) ⟨by omega, by omega⟩ s1 (t_gT hT1 (by omega) e11 ?_)
    refine g_pR (u := some b2) q4 (by omega) (fun τ2 p1 p2 p3 p4 => ?_)
    have hm : ∀ x, x ≠ T j → τ2.1 x = τ.1 x := fun x hx => (p2 x hx).trans (q2 x hx)
    refine w_lt (nI_add j 1) (ih τ2 ⟨⟨hG.1, p4.2.1, i1.2.2.keep (fun x hx => hm x (ne i x s4.symm hx)) (fun _ _ h => h)⟩, ⟨cb, I, T, D, Y, ⟨(hm b6 nb6).trans c1, c2, c3, c4⟩, fun s hs0 => ?_, hinj, hmon⟩, p1.trans (q1.trans i3)⟩)
    obtain ⟨g1, g2, g3, g4, g5⟩ := hs s hs0
    refine ⟨g1, g2, ?_, g4, g5⟩
    show tT τ2.1 fr tg (I s) (T s) (D s) (if s < j + 1 then ta2 else ta) (Y s)
    by_cases z : s = j
    · rw [if_pos (by omega), z, hta]
      exact p4.2.2
    · have g3' : tT τ.1 fr tg (I s) (T s) (D s) (if s < j then ta2 else ta) (Y s) := g3
      have e1 : (if s < j + 1 then ta2 else ta) = (if s < j then ta2 else ta) := by
        by_cases z2 : s < j
        · rw [if_pos z2, if_pos (by omega)]
        · rw [if_neg z2, if_neg (by omega)]
      rw [e1]
      exact g3'.keep (fun x hx => hm x (ne (I s) x (fun z3 => z (hinj s j hs0 hj z3)) hx)) (fun _ _ h => h)
  · obtain ⟨cb, I, T, D, Y, c, hs, h1, h2⟩ := hW
    exact ⟨cb, I, T, D, Y, c, hs, h1, h2⟩
theorem law_mn {k41 : Nat → Nat → Int32 → Int32 → xd_S → Prop} {x : Int32} (hN : 1000 ≤ N) (hM : 60 ≤ M) (h : MID b6 r t n a10 σ fr tg i d d2 ta X J B R) (hK : ∀ t' n' σ', LI b6 (r + 1) t' n' σ' → k41 t' b6 (nI n') (nI (r + 1)) σ') : xd_ca (fun τ K => hL_meanings N M t x τ K) σ (fun x70 _ τ69 => (if x70 ≠ (0 : Int32) then xd_lt 0 fun v12_71 => (hlL_law_980 N M Sc K k41 N t b6 (nI n) (nI r) a10 0 v12_71 τ69) else xd_rl 0 K τ69)) := by
  obtain ⟨⟨hG, hw, hRR, h18, ht⟩, ⟨hi2, ⟨e13, h13⟩⟩, hB, hWAS, hPA, ⟨hd, hd2⟩, hT, ⟨hiB, h2B⟩, hC, hS, hr⟩ := id h
  have hi := hRR.1.i
  refine w_cc 1300 160000 (by omega) (by omega) (w_meanings (σ := (σ.1, σ.2.1, 1300, 160000)) (J := J) hN hM hG.b hw hRR h18 (by omega) (Nat.le_refl _) (Nat.le_refl _) (fun τ' fr' b b2 J' f1 f2 f3 f4 f5 f6 f7 f8 f9 => ?_))
  refine w_t (by decide) (w_lt (Eq.refl _) ?_)
  have hw' : XW X (J' 1) := hw.eqv hi (fun j hj => f4 j (by omega) (by omega) (by omega))
  have hle := hWAS.le
  have e2 : xr (J' 1) 2 = xr (J 1) 2 := xr_eq (f4 2 (by omega) (by omega) (by omega))
  have hW' : WAS (τ'.1, τ'.2.1, σ.2.2.1 - 1300, σ.2.2.2 - 160000) fr' tg b6 i ta J' n R B := hWAS.of hi2 hi (fun x y z => f1.1 x y z) hG.2.1 f1.2.2 (fun j hj => f4 j (by omega) (by omega) (by omega)) (fun s hs j h1 h2 => f4 j (by omega) (by omega) (by omega)) (fun s hs => by rw [e2]; exact hle s hs)
  refine law_980 (σ := (τ'.1, τ'.2.1, σ.2.2.1 - 1300, σ.2.2.2 - 160000)) (b := b) (b2 := b2) (ta := ta) (J := J') (R := R) (B := B) hN hPA.1 hi2 f2.st hW' (Eq.refl _) (fun ρ g1 g2 g3 => ?_)
  refine fin0 (J := J') (R := R) (B := B + 1) hN ⟨g1, hw', by rw [g3]; exact f3, f7, ?_, f5, f6, ?_⟩ hi2 ⟨e13, h13⟩ hB (g2.ext g1.2.1 ext.rfl (by omega)) (hPA.keep f9 f8) ?_ (fun q hq => by have := hd2 q hq; omega) hr (by rw [g3]; show 597000 ≤ σ.2.2.1 - 1300 + _ + _; omega) (by rw [g3]; show 7033000 ≤ σ.2.2.2 - 160000 + _ + _; omega) hK
  · exact ht.1.c f1.2.2 (f4 65 (by omega) (by omega) (by omega)) (fun j hj => f4 j (by omega) (by omega) (by omega))
  · exact ht.2.2.2.off hi f1.2.2 (fun j hj => f4 j (by omega) (by omega) (by omega))
  · rw [xr_eq (f4 0 (by omega) (by omega) (by omega))]
    omega
end
