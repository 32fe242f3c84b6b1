-- ===== the law tells its walks =====
/-- from σ to τ, whatever became of the class: the talk's own cells alone have changed, more is frozen -/
def fwm (tg : lTg) (i : Nat) (σ : xd_S) (fr : xd_M) (τ : xd_S) (fr2 : xd_M) : Prop := (∀ x, (tg x).1 ≠ i → σ.1 x ≠ none → τ.1 x = σ.1 x) ∧ (∀ x, σ.1 x ≠ none → τ.1 x ≠ none) ∧ ∀ x c, fr x = some c → fr2 x = some c
section
variable {σ τ ρ σ0 : xd_S} {fr fr2 fr3 : xd_M} {tg : lTg} {i t : Nat} {d : lD} {ta : Nat → Option Nat} {X X2 : lX} {N M : Nat} {K : xd_K} {b5 v b8 r n k j : Nat} {s : List Nat} {J : xc_M}
theorem fwm.rfl : fwm tg i σ fr σ fr := ⟨fun _ _ _ => Eq.refl _, fun _ h => h, fun _ _ h => h⟩
theorem fwm.trans (h : fwm tg i σ fr τ fr2) (g : fwm tg i τ fr2 ρ fr3) : fwm tg i σ fr ρ fr3 := ⟨fun x h1 h2 => (g.1 x h1 (h.2.1 x h2)).trans (h.1 x h1 h2), fun x h1 => g.2.1 x (h.2.1 x h1), fun x c h1 => g.2.2 x c (h.2.2 x c h1)⟩
theorem fwd.m (h : fwd tg i σ fr τ fr2) : fwm tg i σ fr τ fr2 := ⟨h.1, h.2.1, h.2.2.1⟩
/-- a table of the talk's is another one -/
theorem g_pR {f : xd_S → Prop} {u : Option Nat} (h : tG σ fr tg i t d ta X) (hj : j = 10 ∨ j = 11 ∨ j = 13 ∨ j = 14 ∨ j = 15) (hf : ∀ τ, τ.2 = σ.2 → (∀ x, x ≠ t → τ.1 x = σ.1 x) → (∀ x, σ.1 x ≠ none → τ.1 x ≠ none) → tG τ fr tg i t d (fun q => if q = j then u else ta q) X → f τ) : xd_pR 14 t j u σ f := by
  obtain ⟨hi, hg, hT⟩ := id h
  obtain ⟨c, h1, h2, h3, h4, h5, h6, h7, h8⟩ := hT.1
  have ne : ∀ b, tg b ≠ (i, 0, 0) → b ≠ t := fun b hb e => hb (by rw [e]; exact h8)
  have nn : ∀ x, σ.1 x ≠ none → xd_up σ.1 t (14, c.2.1, c.2.2.1, va_up c.2.2.2 j u) x ≠ none := fun x hx => by
    by_cases e : x = t
    · rw [e, xu_s]
      simp
    · rw [xu_n _ _ e]
      exact hx
  refine w_pR h1 h2 (hf _ (Eq.refl _) (fun x hx => xu_n _ _ hx) nn ⟨hi, hg.mv hi (fun x hx => xu_n _ _ (ne x (fun e => hx (by rw [e])))) (fun x hx => nn x (hg.2 x (by rw [hx]; exact hi))), ⟨⟨_, xu_s _ _ _, Eq.refl _, h3, ?_, ?_, ?_, fun q hq => ?_, h8⟩, hT.2.1.keep (xu_n _ _ (ne _ (by rw [hT.tgA]; simp))), hT.2.2.1.keep (xu_n _ _ (ne _ (by rw [hT.tgB]; simp))), hT.2.2.2.1.keep (xu_n _ _ (ne _ (by rw [hT.tgL]; simp))) (fun _ _ q => q), hT.2.2.2.2.1.keep (fun q hq => xu_n _ _ (ne _ (by rw [hT.tgW hq]; simp))), hT.2.2.2.2.2.keep (fun q hq => xu_n _ _ (ne _ (by rw [hT.tgM hq]; simp)))⟩⟩)
  · exact (vup_n _ _ (by omega)).trans h4
  · exact (vup_n _ _ (by omega)).trans h5
  · exact (vup_n _ _ (by omega)).trans h6
  · show va_up c.2.2.2 j u q = if q = j then u else ta q
    by_cases e : q = j
    · rw [e, vup_s, if_pos (Eq.refl j)]
    · rw [vup_n _ _ e, if_neg e]
      exact h7 q hq
/-- cells that nobody marks are frozen -/
def frz (P : Nat → Bool) (M fr : xd_M) : xd_M := fun x => if P x = true then M x else fr x
theorem tG.freeze (h : tG σ fr tg i t d ta X) (P : Nat → Bool) (hP : ∀ x, P x = true → (tg x).1 = 0) : tG σ (frz P σ.1 fr) tg i t d ta X ∧ ∀ x c, fr x = some c → frz P σ.1 fr x = some c := by
  obtain ⟨hi, hg, hT⟩ := h
  have hf : ∀ x c, fr x = some c → frz P σ.1 fr x = some c := fun x c hc => by
    unfold frz
    by_cases e : P x = true
    · rw [if_pos e]
      exact (hg.1 x c hc).1
    · rw [if_neg e]
      exact hc
  refine ⟨⟨hi, ⟨fun x c hc => ?_, hg.2⟩, hT.keep (fun _ _ => Eq.refl _) hf⟩, hf⟩
  unfold frz at hc
  by_cases e : P x = true
  · rw [if_pos e] at hc
    exact ⟨hc, hP x e⟩
  · rw [if_neg e] at hc
    exact hg.1 x c hc
theorem frz_p {P : Nat → Bool} {M : xd_M} {x : Nat} {c : xd_C} (h : P x = true) (hx : M x = some c) : frz P M fr x = some c := by
  unfold frz
  rw [if_pos h]
  exact hx
theorem and_1 (x : Int32) : ∃ b, b < 2 ∧ x &&& 1 = nI b := by
  refine ⟨x.toBitVec.toNat % 2, Nat.mod_lt _ (by decide), ?_⟩
  apply xp_inj
  rw [Int32.toBitVec_and, xp_bv]
  apply BitVec.eq_of_toNat_eq
  have e : (1 : Int32).toBitVec = 1#32 := by decide
  rw [e, BitVec.toNat_and, BitVec.toNat_ofNat, BitVec.toNat_ofNat, show (1 : Nat) % 2 ^ 32 = 2 ^ 1 - 1 by decide, Nat.and_two_pow_sub_one_eq_mod, Nat.pow_one]
  exact (Nat.mod_eq_of_lt (by omega)).symm
abbrev W4 : Type := Nat × Nat × Nat × Nat
def wkI (F : Nat → W4) (l : Nat) : List Pc := wkPc (F l).1 (F l).2.1 (F l).2.2.1 (F l).2.2.2
def wkB (J : xc_M) (x : W4) : Prop := x.1 < 1000 ∧ x.2.1 < xr (J 1) 63 ∧ x.2.2.1 < 3 ∧ (x.2.2.1 = 0 → x.2.2.2 < 10) ∧ (x.2.2.1 = 1 → x.2.2.2 < xr (J 1) 62) ∧ (x.2.2.1 = 2 → x.2.2.2 = 0)
def wkR (M : xd_M) (e : Nat) (x : W4) : Prop := ∃ c : xd_C, M e = some c ∧ c.1 = 0 ∧ c.2.1 = 4 ∧ c.2.2.1 0 = nI x.1 ∧ c.2.2.1 1 = nI x.2.1 ∧ c.2.2.1 2 = nI x.2.2.1 ∧ c.2.2.1 3 = nI x.2.2.2
/-- k walks are drawn -/
def WI (J : xc_M) (σ : xd_S) (fr : xd_M) (tg : lTg) (i t : Nat) (d : lD) (ta : Nat → Option Nat) (X : lX) (b5 b8 n : Nat) (C S : Nat) (k : Nat) (τ : xd_S) : Prop := ∃ (v : Nat) (F : Nat → W4) (cb : xd_C), env σ fr tg i t d ta X τ ∧ sbT τ.1 b5 v (rnd (remT (wkI F) 0 k)) (rnd (remT (wkI F) 0 k)).length ∧ (rnd (remT (wkI F) 0 k)).length ≤ 20 * k ∧ σ.1 v = none ∧ τ.1 b8 = some cb ∧ cb.1 = 2 ∧ cb.2.1 = n ∧ (∀ l, l < k → wkB J (F l) ∧ ∃ e, cb.2.2.2 l = some e ∧ wkR τ.1 e (F l) ∧ σ.1 e = none) ∧ τ.2.1 = σ.2.1 ∧ C ≤ τ.2.2.1 + 26 * k ∧ S ≤ τ.2.2.2 + 3010 * k
theorem remT_snoc (F : Nat → W4) (k : Nat) (x : W4) : rnd (remT (wkI (fun l => if l = k then x else F l)) 0 (k + 1)) = rnd (remT (wkI F) 0 k) ++ rnd (wkPc x.1 x.2.1 x.2.2.1 x.2.2.2) := by
  rw [remT_s, rnd_a, remT_cong (n := k) (g := wkI F) (fun l hl => ?_) k 0 (by omega)]
  · congr 1
    have e : (if 0 + k = k then x else F (0 + k)) = x := if_pos (by omega)
    unfold wkI
    dsimp only
    rw [e]
  · have e : (if l = k then x else F l) = F l := if_neg (by omega)
    unfold wkI
    dsimp only
    rw [e]
/-- a walk is drawn -/
theorem wk_89 {C S w : Nat} {v2 v3 v6 vs0 : Int32} {k41 : Nat → Int32 → Int32 → Nat → Int32 → xd_S → Prop} (hN : 100 ≤ N) (hw : XW X (J 1)) (hi : iW (J 1)) (hd : xr (J 1) 0 + 8 < 1000) (hP : 0 < xr (J 1) 63) (h : WI J σ fr tg i t d ta X b5 b8 n C S k τ) (hta : ta 10 = some b8) (hb5 : σ.1 b5 = none) (h8 : σ.1 b8 = none) (hk : k < n ∧ n ≤ 12) (hvs : vs0 = nI w) (hww : w < 3) (hw1 : w = 1 → 0 < xr (J 1) 62) (hC : C ≥ 26 * n + 10) (hS : S ≥ 3010 * n + 10) (hK : ∀ τ', WI J σ fr tg i t d ta X b5 b8 n C S (k + 1) τ' → k41 t v2 v3 b5 (nI (k + 1)) τ') : hbL_walks_89 N M K k41 t v2 v3 b5 (nI k) v6 vs0 τ := by
  have hWB := hi.nWB
  have hPB := hi.nPB
  obtain ⟨v, F, cb, he, hsb, hsl, hv, hcb, cb1, cb2, hrow, hI, hCk, hSk⟩ := h
  have hkn : k + 1 ≤ n := by omega
  have hm1 : 26 * (k + 1) ≤ 26 * n := Nat.mul_le_mul_left _ hkn
  have hm2 : 3010 * (k + 1) ≤ 3010 * n := Nat.mul_le_mul_left _ hkn
  have hT := he.1.T
  unfold hbL_walks_89
  refine w_lt hvs (t_gT hT (Or.inl (Eq.refl _)) hta (w_na (n := 4) (by decide) (by omega) (by omega) (by omega) (fun r hr => ?_)))
  have hrS := he.nn hr
  have hTb : ∀ (Cx : xd_C) (rest : xc_M × Nat × Nat), tG (xd_up τ.1 r Cx, rest) fr tg i t d ta X := fun Cx rest => he.1.off hr (fun a ha => xu_n _ _ ha)
  have e1 : X.1 1 = nI (xr (J 1) 0) := hw.day.trans hi.day
  have e4 : X.1 4 = nI (xr (J 1) 63) := hw.np.trans hi.nP
  have e3 : X.1 3 = nI (xr (J 1) 62) := hw.nw.trans hi.nW
  have m1 : ∀ m : Nat, 0 < m → nI m - 1 = nI (m - 1) := fun m hm => by rw [show (1 : Int32) = nI 1 from Eq.refl _, pk_sub (by omega)]
  refine t_gI (hTb _ _).T (by omega) (w_c0 (w_between _ (lo := 0) (hi := 8) (by omega) (by omega) (by decide) (by decide) (fun r1 _ hr1 => ?_)))
  refine w_sV (n := 0) (y := nI (xr (J 1) 0 + r1)) (Eq.refl _) (by decide) ⟨by show 0 < 4; decide, by show 4 < 2 ^ 31; decide⟩ (by rw [e1, nI_add]) ?_
  refine t_gI (hTb _ _).T (by omega) (w_c0 (w_between _ (lo := 0) (hi := xr (J 1) 63 - 1) (by omega) (by omega) (by decide) (by rw [e4, m1 _ hP]) (fun r2 _ hr2 => ?_)))
  refine w_sV (n := 1) (y := nI r2) (Eq.refl _) (by decide) ⟨by show 1 < 4; decide, by show 4 < 2 ^ 31; decide⟩ (Eq.refl _) ?_
  refine w_sV (n := 2) (y := nI w) (Eq.refl _) (by decide) ⟨by show 2 < 4; decide, by show 4 < 2 ^ 31; decide⟩ (Eq.refl _) ?_
  have key : ∀ (x : Nat) (vsx : Int32) (σ4 : xd_S), σ4.1 = xd_up τ.1 r (0, 4, upd (upd (upd (fun _ => 0) 0 (nI (xr (J 1) 0 + r1))) 1 (nI r2)) 2 (nI w), fun _ => none) → σ4.2.1 = τ.2.1 → σ4.2.2.1 + 1 = τ.2.2.1 → σ4.2.2.2 + 4 = τ.2.2.2 → vsx = nI x → (w = 0 → x < 10) → (w = 1 → x < xr (J 1) 62) → (w = 2 → x = 0) → hbL_walks_183 N M K k41 t v2 v3 b5 (nI k) (nI w) vsx 3 r r (nI k) b8 σ4 := by
    intro x vsx σ4 f1 f2 f3 f4 f5 x0 x1 x2
    have hxx : x < 1000 := by
      have hc : w = 0 ∨ w = 1 ∨ w = 2 := by omega
      rcases hc with q | q | q
      · have := x0 q
        omega
      · have := x1 q
        omega
      · have := x2 q
        omega
    have o4 : ∀ y, y ≠ r → σ4.1 y = τ.1 y := fun y hy => by rw [f1]; exact xu_n _ _ hy
    have r4 : σ4.1 r = some (0, 4, upd (upd (upd (fun _ => 0) 0 (nI (xr (J 1) 0 + r1))) 1 (nI r2)) 2 (nI w), fun _ => none) := by rw [f1]; exact xu_s _ _ _
    have he4 : env σ fr tg i t d ta X σ4 := he.new (fun y hy => o4 y (fun e => hy (by rw [e]; exact hrS)))
    have hb4 : b8 ≠ r := fun e => by rw [e, hr] at hcb; exact nomatch hcb
    have hsb4 : sbT σ4.1 b5 v (rnd (remT (wkI F) 0 k)) (rnd (remT (wkI F) 0 k)).length := by
      obtain ⟨ca, cv, ⟨q1, q2, q3, q4, q5⟩, u1, u2, u3⟩ := id hsb
      exact ⟨ca, cv, ⟨(o4 b5 (fun e => by rw [e, hr] at q1; exact nomatch q1)).trans q1, q2, q3, q4, q5⟩, (o4 v (fun e => by rw [e, hr] at u1; exact nomatch u1)).trans u1, u2, u3⟩
    refine wk_183 (dd := xr (J 1) 0 + r1) (p := r2) (w := w) (x := x) (n := n) hN he4 hta hsb4 hb5 hv ((o4 b8 hb4).trans hcb) cb1 cb2 hk h8 r4 (Eq.refl _) (Eq.refl _) ?_ ?_ hrS f5 (Eq.refl _) hww ⟨by omega, by omega, hxx⟩ (by omega) (by omega) (by omega) (fun τ' v' g1 g2 g3 g4 g5 g6 g7 g8 g9 => ?_)
    · show upd (upd (upd (fun _ => 0) 0 (nI (xr (J 1) 0 + r1))) 1 (nI r2)) 2 (nI w) 0 = _
      rw [upd_n _ _ (by omega), upd_n _ _ (by omega), upd_s]
    · show upd (upd (upd (fun _ => 0) 0 (nI (xr (J 1) 0 + r1))) 1 (nI r2)) 2 (nI w) 1 = _
      rw [upd_n _ _ (by omega), upd_s]
    · refine hK τ' ⟨v', fun l => if l = k then (xr (J 1) 0 + r1, r2, w, x) else F l, _, g1, ?_, ?_, g3, g4, Eq.refl _, Eq.refl _, fun l hl => ?_, g7.trans (f2.trans hI), by omega, by omega⟩
      · rw [remT_snoc]
        exact g2
      · rw [remT_snoc, List.length_append]
        have := wkPc_len (dd := xr (J 1) 0 + r1) (p := r2) (w := w) (x := x)
        show _ + (rnd (wkPc (xr (J 1) 0 + r1) r2 w x)).length ≤ _
        omega
      · dsimp only
        by_cases e : l = k
        · rw [if_pos e]
          refine ⟨⟨by show xr (J 1) 0 + r1 < 1000; omega, by show r2 < _; omega, hww, x0, x1, x2⟩, r, ?_, ⟨_, g5, Eq.refl _, Eq.refl _, ?_, ?_, ?_, ?_⟩, hrS⟩
          · show va_up cb.2.2.2 k (some r) l = some r
            rw [e, vup_s]
          · show upd (upd (upd (upd (fun _ => 0) 0 (nI (xr (J 1) 0 + r1))) 1 (nI r2)) 2 (nI w)) 3 (nI x) 0 = _
            rw [upd_n _ _ (by omega), upd_n _ _ (by omega), upd_n _ _ (by omega), upd_s]
          · show upd (upd (upd (upd (fun _ => 0) 0 (nI (xr (J 1) 0 + r1))) 1 (nI r2)) 2 (nI w)) 3 (nI x) 1 = _
            rw [upd_n _ _ (by omega), upd_n _ _ (by omega), upd_s]
          · show upd (upd (upd (upd (fun _ => 0) 0 (nI (xr (J 1) 0 + r1))) 1 (nI r2)) 2 (nI w)) 3 (nI x) 2 = _
            rw [upd_n _ _ (by omega), upd_s]
          · show upd (upd (upd (upd (fun _ => 0) 0 (nI (xr (J 1) 0 + r1))) 1 (nI r2)) 2 (nI w)) 3 (nI x) 3 = _
            rw [upd_s]
        · rw [if_neg e]
          obtain ⟨u1, e', u2, ⟨c', w1, w2, w3⟩, u4⟩ := hrow l (by omega)
          have ner : e' ≠ r := fun z => by rw [z, hr] at w1; exact nomatch w1
          have neb : e' ≠ b8 := fun z => by
            rw [z, hcb] at w1
            have := Option.some.inj w1
            rw [← this] at w2
            omega
          refine ⟨u1, e', ?_, ⟨c', g6 e' c' ((o4 e' ner).trans w1) ner neb (by omega) (by omega), w2, w3⟩, u4⟩
          show va_up cb.2.2.2 k (some r) l = _
          rw [vup_n _ _ e]
          exact u2
  have b1 : τ.2.2.1 - 1 + 1 = τ.2.2.1 := Nat.sub_add_cancel (by omega)
  have b2 : τ.2.2.2 - 4 + 4 = τ.2.2.2 := Nat.sub_add_cancel (by omega)
  have hc3 : w = 0 ∨ w = 1 ∨ w = 2 := by omega
  rcases hc3 with q | q | q
  · refine w_f (by rw [q]; exact fun z => z (Eq.refl _)) (w_c0 (w_between _ (lo := 0) (hi := 3) (by omega) (by omega) (by decide) (by decide) (fun r3 _ hr3 => ?_)))
    exact key r3 _ _ (Eq.refl _) (Eq.refl _) b1 b2 (Eq.refl _) (fun _ => by omega) (fun z => by omega) (fun z => by omega)
  · have h62 := hw1 q
    refine w_t (by rw [q]; decide) (w_f (by rw [q]; exact fun z => z (Eq.refl _)) (t_gI (hTb _ _).T (by omega) (w_c0 (w_between _ (lo := 0) (hi := xr (J 1) 62 - 1) (by omega) (by omega) (by decide) (by rw [e3, m1 _ h62]) (fun r3 _ hr3 => ?_)))))
    exact key r3 _ _ (Eq.refl _) (Eq.refl _) b1 b2 (Eq.refl _) (fun z => by omega) (fun _ => by omega) (fun z => by omega)
  · refine w_t (by rw [q]; decide) (w_t (by rw [q]; decide) ?_)
    exact key 0 _ _ (Eq.refl _) (Eq.refl _) b1 b2 (by decide) (fun z => by omega) (fun z => by omega) (fun _ => Eq.refl _)
end
