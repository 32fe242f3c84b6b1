section
variable {σ τ ρ σ0 τ0 : xd_S} {fr fr2 fr3 : xd_M} {tg tg2 : lTg} {i t : Nat} {ta ta2 : Nat → Option Nat} {X X2 : lX} {N M : Nat} {K : xd_K} {n k j e p b13 C S r m q : Nat} {J : xc_M} {w w2 : Nat → Int32} {Sc : Nat × Nat × (Nat → Int32)} {ce c8 c : xd_C} {V : Nat → Int32}
theorem w_sVg {b : Nat} {Mm : xd_M} {s : xc_M × Nat × Nat} {i u y : Int32} {f : xd_S → Prop} (hk : c.1 = k) (hi : i = nI n) (hn : n < c.2.1 ∧ c.2.1 < 2 ^ 31) (hu : u = y) (h : ∀ σb : xd_S, σb.1 = xd_up Mm b (k, c.2.1, upd c.2.2.1 n y, c.2.2.2) → σb.2 = s → f σb) : xd_sI k b i u (xd_up Mm b c, s) f := w_sV hk hi hn hu (h _ (Eq.refl _) (Eq.refl _))
/-- a drawn talk is told: it is then what the class holds -/
theorem w_talk (hN : 1000 ≤ N) (hM : 60 ≤ M) (hSc : Sc.2.1 < 2 ^ 31) (hRR : RR σ.2.1 J) (h18 : J 0 18 = nI 0) (hz : ∀ j, j < 66 → J 1 j = nI 0) (hC : 2700 ≤ σ.2.2.1) (hS : 262000 ≤ σ.2.2.2) (hF : ∀ τ fr2 tg2 t2 d2 ta2 X2 J2, TS τ fr2 tg2 1 t2 d2 ta2 X2 J2 → mnT fr2 (ta2 14) (J2 1) → ndT fr2 (ta2 11) (J2 1) → wkT fr2 (ta2 10) (J2 1) → J2 0 4 = nI 0 → K 0 (some t2) τ) : hL_talk N M Sc 0 σ K := by
  unfold hL_talk
  refine ⟨by omega, by omega, fun t ht => ?_⟩
  refine w_cc 17 284 (by show 17 ≤ σ.2.2.1 - 1; omega) (by show 284 ≤ σ.2.2.2 - 16; omega) (w_initm (σ := (xd_up σ.1 t (14, 0, fun _ => 0, fun _ => none), σ.2.1, 17, 284)) (by omega) (xu_s _ _ _) (Eq.refl _) (Nat.le_refl _) (Nat.le_refl _) (fun τ1 b8 b9 b10' b11 b12 b13 b14 g1 g2 g3 => ?_))
  obtain ⟨tg, d, ta, X, hTS, hml, h13⟩ := fr_talk (J := J) g2 g3 (fun _ => Eq.refl _) (Eq.refl _) (by rw [g1.2.2]; exact hRR) h18 hz
  obtain ⟨hG, hw, hRR1, -, hl, h0, e13, hbt⟩ := hTS
  have hi := hRR1.1.i
  have xz : ∀ j, j < 66 → xr (J 1) j = 0 := fun j hj => by
    unfold xr
    rw [hz j hj]
    decide
  refine w_c0 (w_cell (k := 0) (by decide) (by omega) hSc (fun x0 => w_lt (Eq.refl _) ?_))
  refine w_c0 (w_cell (k := 1) (by decide) (by omega) hSc (fun x1 => w_lt (Eq.refl _) ?_))
  refine w_na (n := 7) (by decide) (by omega) (by show 1 ≤ σ.2.2.1 - 1 - 17; omega) (by show 7 ≤ σ.2.2.2 - 16 - 284; omega) (fun b10 hb10n => ?_)
  have hb10 : τ1.1 b10 = none := hb10n
  refine w_c0 (w_between _ (lo := 0) (hi := 15) (by omega) (by omega) (by decide) (by decide) (fun r0 _ hr0 => ?_))
  refine w_sV (n := 0) (y := nI r0) (Eq.refl _) (by decide) ⟨by show 0 < 7; decide, by show 7 < 2 ^ 31; decide⟩ (Eq.refl _) ?_
  refine w_c0 (w_between _ (lo := 0) (hi := 13) (by omega) (by omega) (by decide) (by decide) (fun r1 _ hr1 => ?_))
  refine w_sV (n := 1) (y := nI r1) (Eq.refl _) (by decide) ⟨by show 1 < 7; decide, by show 7 < 2 ^ 31; decide⟩ (Eq.refl _) ?_
  refine w_c0 (w_between _ (lo := 1) (hi := 40) (by omega) (by omega) (by decide) (by decide) (fun r2 _ hr2 => ?_))
  refine w_sV (n := 2) (y := nI r2) (Eq.refl _) (by decide) ⟨by show 2 < 7; decide, by show 7 < 2 ^ 31; decide⟩ (Eq.refl _) ?_
  refine w_c0 (w_between _ (lo := 0) (hi := 30) (by omega) (by omega) (by decide) (by decide) (fun r3 _ hr3 => ?_))
  refine w_sV (n := 3) (y := nI r3) (Eq.refl _) (by decide) ⟨by show 3 < 7; decide, by show 7 < 2 ^ 31; decide⟩ (Eq.refl _) ?_
  refine w_c0 (w_between _ (lo := 0) (hi := 9) (by omega) (by omega) (by decide) (by decide) (fun r4 _ hr4 => ?_))
  refine w_sV (n := 4) (y := nI r4) (Eq.refl _) (by decide) ⟨by show 4 < 7; decide, by show 7 < 2 ^ 31; decide⟩ (Eq.refl _) ?_
  refine w_c0 (w_between _ (lo := 0) (hi := 3) (by omega) (by omega) (by decide) (by decide) (fun r5 _ hr5 => ?_))
  refine w_sV (n := 5) (y := nI r5) (Eq.refl _) (by decide) ⟨by show 5 < 7; decide, by show 7 < 2 ^ 31; decide⟩ (Eq.refl _) ?_
  refine w_c0 (w_between _ (lo := 0) (hi := 9) (by omega) (by omega) (by decide) (by decide) (fun r6 _ hr6 => ?_))
  refine w_sVg (n := 6) (y := nI r6) (Eq.refl _) (by decide) ⟨by show 6 < 7; decide, by show 7 < 2 ^ 31; decide⟩ (Eq.refl _) (fun σb fa fb => ?_)
  obtain ⟨V, hV⟩ : ∃ V, V = (upd (upd (upd (upd (upd (upd (upd (fun _ => (0 : Int32)) 0 (nI r0)) 1 (nI r1)) 2 (nI r2)) 3 (nI r3)) 4 (nI r4)) 5 (nI r5)) 6 (nI r6)) := ⟨_, rfl⟩
  have V0 : V 0 = nI r0 := by rw [hV, upd_n _ _ (by omega), upd_n _ _ (by omega), upd_n _ _ (by omega), upd_n _ _ (by omega), upd_n _ _ (by omega), upd_n _ _ (by omega), upd_s]
  have V1 : V 1 = nI r1 := by rw [hV, upd_n _ _ (by omega), upd_n _ _ (by omega), upd_n _ _ (by omega), upd_n _ _ (by omega), upd_n _ _ (by omega), upd_s]
  have V2 : V 2 = nI r2 := by rw [hV, upd_n _ _ (by omega), upd_n _ _ (by omega), upd_n _ _ (by omega), upd_n _ _ (by omega), upd_s]
  have V3 : V 3 = nI r3 := by rw [hV, upd_n _ _ (by omega), upd_n _ _ (by omega), upd_n _ _ (by omega), upd_s]
  have V4 : V 4 = nI r4 := by rw [hV, upd_n _ _ (by omega), upd_n _ _ (by omega), upd_s]
  have V5 : V 5 = nI r5 := by rw [hV, upd_n _ _ (by omega), upd_s]
  have V6 : V 6 = nI r6 := by rw [hV, upd_s]
  have fa' : σb.1 = xd_up τ1.1 b10 (0, 7, V, fun _ => none) := by rw [hV]; exact fa
  have f2 : σb.2.1 = τ1.2.1 := by rw [fb]
  have f3 : σb.2.2.1 = σ.2.2.1 - 1 - 17 - 1 := by rw [fb]
  have f4 : σb.2.2.2 = σ.2.2.2 - 16 - 284 - 7 := by rw [fb]
  clear fa fb
  have hGb : tG σb (fun _ => none) tg 1 t d ta X := hG.off hb10 (fun a ha => by rw [fa']; exact xu_n _ _ ha)
  have hmlb : mlT tg 1 σb.1 b13 := hml.of (fun x x1 x2 => ⟨by rw [fa']; exact xu_n _ _ (fun z => x2 (by rw [z]; exact hb10)), Eq.refl _⟩)
  by_cases hlaw : (x0 >>> (5 &&& 31)) &&& 7 ≤ 0
  · refine w_t hlaw ?_
    exact wo_all (C := σb.2.2.1) (S := σb.2.2.2) hN hM hSc h13 (by omega) (by omega) ⟨_, tg, d, X, J, ⟨hGb, hw, by rw [f2]; exact hRR1, h18, hl, h0, e13, hbt⟩, hmlb, xz 62 (by omega), xz 63 (by omega), xz 3 (by omega), Nat.le_add_right _ _, Nat.le_add_right _ _⟩ (fun τ fr2 tg2 d2 ta2 X2 J2 => hF τ fr2 tg2 t d2 ta2 X2 J2)
  · refine w_f hlaw (g_pR (u := some b10) hGb (Or.inr (Or.inr (Or.inr (Or.inr (Eq.refl _))))) (fun τ3 y1 y2 y3 y4 => ?_))
    have tgt : tg t = (1, 0, 0) := by
      obtain ⟨c, c1, -, -, -, -, -, -, c8⟩ := hGb.2.2.1
      exact c8
    have nbt : b10 ≠ t := fun z => by
      obtain ⟨c, c1, -⟩ := hG.2.2.1
      rw [← z, hb10] at c1
      exact nomatch c1
    have e10 : τ3.1 b10 = some (0, 7, V, fun _ => none) := (y2 b10 nbt).trans (by rw [fa']; exact xu_s _ _ _)
    have hml3 : mlT tg 1 τ3.1 b13 := hmlb.of (fun x x1 x2 => ⟨y2 x (fun z => x1 (by rw [z, tgt])), Eq.refl _⟩)
    have k1 : τ3.2.1 = τ1.2.1 := by rw [y1]; exact f2
    have k2 : τ3.2.2.1 = σ.2.2.1 - 1 - 17 - 1 := by rw [y1]; exact f3
    have k3 : τ3.2.2.2 = σ.2.2.2 - 16 - 284 - 7 := by rw [y1]; exact f4
    have hc7 : ∀ i, i < 7 → i = 0 ∨ i = 1 ∨ i = 2 ∨ i = 3 ∨ i = 4 ∨ i = 5 ∨ i = 6 := fun i hi => by omega
    have hVd : ∀ i, i < 7 → V i = nI ([r0, r1, r2, r3, r4, r5, r6].getD i 0) := fun i hi => by
      rcases hc7 i hi with z | z | z | z | z | z | z
      · rw [z]; exact V0
      · rw [z]; exact V1
      · rw [z]; exact V2
      · rw [z]; exact V3
      · rw [z]; exact V4
      · rw [z]; exact V5
      · rw [z]; exact V6
    refine lw_say (σ := τ3) (J := J) (c := (0, 7, V, fun _ => none)) (b10 := b10) (d := fun i => [r0, r1, r2, r3, r4, r5, r6].getD i 0) (fun i hi => ?_) hN hM (by rw [k1]; exact hRR1) h18 e10 (Eq.refl _) (Eq.refl _) (fun i hi => ?_) (by omega) (by omega) (fun τ4 J4 a1 a2 a3 a4 a5 a6 a7 => ?_)
    · rcases hc7 i hi with z | z | z | z | z | z | z
      · rw [z]; show r0 < 1000; omega
      · rw [z]; show r1 < 1000; omega
      · rw [z]; show r2 < 1000; omega
      · rw [z]; show r3 < 1000; omega
      · rw [z]; show r4 < 1000; omega
      · rw [z]; show r5 < 1000; omega
      · rw [z]; show r6 < 1000; omega
    · exact hVd i hi
    · obtain ⟨he4, -, -, -⟩ := (env.of y4).new a1
      obtain ⟨P, hP⟩ := bool_of (fun x => x = b10)
      obtain ⟨z1, z2⟩ := he4.freeze P (fun x hx => by rw [(hP x).mp hx]; exact hG.2.1.tag0 hb10)
      have hfz : frz P τ4.1 (fun _ => none) b10 = some (0, 7, V, fun _ => none) := frz_p ((hP b10).mpr (Eq.refl _)) ((a1 b10 (nsome e10)).trans e10)
      have hml4 : mlT tg 1 τ4.1 b13 := hml3.of (fun x x1 x2 => ⟨a1 x x2, Eq.refl _⟩)
      have xs : ∀ j, j < 65 → xr (J4 1) j = 0 := fun j hj => by rw [xr_eq (a3 j (by omega) (by omega))]; exact xz j (by omega)
      refine wo_all (C := τ4.2.2.1) (S := τ4.2.2.2) (b13 := b13) hN hM hSc ((if_neg (by decide)).trans h13) (by omega) (by omega) ⟨_, tg, d, X, J4, ⟨z1, ?_, a2, a5, ?_, xs 0 (by omega), ⟨b13, (if_neg (by decide)).trans h13⟩, hbt⟩, hml4, xs 62 (by omega), xs 63 (by omega), xs 3 (by omega), Nat.le_add_right _ _, Nat.le_add_right _ _⟩ (fun τ fr2 tg2 d2 ta2 X2 J2 => hF τ fr2 tg2 t d2 ta2 X2 J2)
      · exact hw.eqv hi (fun j hj => a3 j (by omega) (by omega))
      · exact Or.inr ⟨b10, fun i => nI ([r0, r1, r2, r3, r4, r5, r6].getD i 0), if_pos (Eq.refl _), ⟨_, hfz, Eq.refl _, Eq.refl _, fun q hq => hVd q hq⟩, a4⟩
end
