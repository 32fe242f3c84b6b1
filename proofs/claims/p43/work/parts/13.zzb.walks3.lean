section
variable {σ τ ρ σ0 : xd_S} {fr fr2 fr3 : xd_M} {tg : lTg} {i t : Nat} {d : lD} {ta : Nat → Option Nat} {X X2 : lX} {N M : Nat} {K : xd_K} {b5 v b8 r n k j : Nat} {s : List Nat} {J : xc_M}
theorem wkI_ok {F : Nat → W4} (h : ∀ l, l < n → wkB J (F l)) (hP : xr (J 1) 63 < 11) (hW : xr (J 1) 62 < 15) : ∀ l, l < n → wfB 0 (wkI F l) = true ∧ stB 0 (wkI F l) = 0 ∧ nmB (wkI F l) := fun l hl => by
  obtain ⟨h1, h2, h3, h4, h5, h6⟩ := h l hl
  have h0 : (F l).2.2.2 < 1000 := by
    have hc : (F l).2.2.1 = 0 ∨ (F l).2.2.1 = 1 ∨ (F l).2.2.1 = 2 := by omega
    rcases hc with q | q | q
    · have := h4 q
      omega
    · have := h5 q
      omega
    · have := h6 q
      omega
  exact ⟨(wk_wf _ _ _ _ h3).1, (wk_wf _ _ _ _ h3).2, wk_nm h1 (by omega) h0⟩
/-- the bytes of texts behind each other -/
theorem rem_asc {f : Nat → List Pc} : ∀ m o, (∀ l, l < o + m → wfB 0 (f l) = true ∧ stB 0 (f l) = 0 ∧ nmB (f l)) → ∀ c, c ∈ rnd (remT f o m) → c < 128
  | 0, _, _, c, hc => by
    have hc' : c ∈ ([] : List Nat) := hc
    exact nomatch hc'
  | m + 1, o, h, c, hc => by
    rw [remT_s, rnd_a, List.mem_append] at hc
    rcases hc with q | q
    · exact rem_asc m o (fun l hl => h l (by omega)) c q
    · obtain ⟨h1, -, h3⟩ := h (o + m) (by omega)
      exact rnd_asc _ 0 h1 h3 c q
/-- the walks are told -/
theorem wk_end {C S : Nat} {v2 : Int32} {k41 : Nat → Int32 → Int32 → Nat → Int32 → xd_S → Prop} (hN : 1000 ≤ N) (hM : 60 ≤ M) (hRR : RR σ.2.1 J) (h18 : J 0 18 = nI 0) (hta : ta 10 = some b8) (h : WI J σ fr tg i t d ta X b5 b8 n C S n τ) (h8 : σ.1 b8 = none) (hn : n ≤ 12) (hC : C ≥ 26 * n + 30) (hS : S ≥ 3010 * n + 500) (hK : ∀ τ' fr' J', fwm tg i σ fr τ' fr' → tG τ' fr' tg i t d ta X → RR τ'.2.1 J' → (∀ j, j ≠ 67 → j < 628 ∨ 692 ≤ j → J' 1 j = J 1 j) → wkT fr' (some b8) (J' 1) → J' 0 18 = nI 0 → J' 0 4 = nI 0 → K 1 none τ') : hbL_walks_41 N M K k41 t v2 (nI n) b5 (nI n) τ := by
  have hi := hRR.1.i
  obtain ⟨v, F, cb, he, hsb, hsl, hv, hcb, cb1, cb2, hrow, hI, hCk, hSk⟩ := h
  have hok := wkI_ok (n := n) (fun l hl => (hrow l hl).1) hi.nPB hi.nWB
  have hasc : ∀ c, c ∈ rnd (remT (wkI F) 0 n) → c < 128 := rem_asc n 0 (fun l hl => hok l (by omega))
  have hasc2 : ∀ (j y : Nat), (rnd (remT (wkI F) 0 n))[j]? = some y → y < 128 := fun j y hy => hasc y (List.mem_of_getElem? hy)
  have hl : (rnd (remT (wkI F) 0 n)).length ≤ 240 := Nat.le_trans hsl (by omega)
  unfold hbL_walks_41
  refine w_t (Int32.le_refl _) (x_str 240 hsb (by omega) (by omega) (by omega) hl (fun τ1 a' w g1 g2 g3 g4 g5 g6 => ?_))
  obtain ⟨q1, q2⟩ := g6
  refine w_cc 20 100 (by omega) (by omega) (w_say (σ := (τ1.1, τ1.2.1, 20, 100)) (J := J) g1 hasc2 (by omega) (by show RR τ1.2.1 J; rw [g5, hI]; exact hRR) h18 hN (Nat.le_refl _) (Nat.le_refl _) (fun τ2 J2 k1 k2 k3 => ?_))
  have e1 : J2 1 = J 1 := k3.2.1 1 (by omega) (by omega)
  obtain ⟨I3, J3, w1, w2, w3, w4, w5, w6, w7⟩ := c_text2 (M := M) (D := fun l => (F l).1) (P := fun l => (F l).2.1) (W := fun l => (F l).2.2.1) (X := fun l => (F l).2.2.2) hN hM k2 hn (fun l hl => by rw [e1]; exact (hrow l hl).1) (Eq.refl _) (k3.TQ (by show (rnd (remT (wkI F) 0 n)).length ≤ 400; omega) hasc2)
  refine w_xc w1 (w_f (fun z => z (Eq.refl _)) (w_rb (Or.inr (Eq.refl _)) ?_))
  have hs2 : ∀ x, τ.1 x ≠ none → τ2.1 x = τ.1 x := fun x hx => (k1 x (by rw [g4 x hx]; exact hx)).trans (g4 x hx)
  have he2 : env σ fr tg i t d ta X τ2 := he.new (fun x hx => hs2 x (he.2.2.2 x hx))
  have hx67 : xr (J3 1) 67 = n := by
    unfold xr
    rw [w4]
    exact nI_clamp (by omega)
  have hP : ∃ P : Nat → Bool, (∀ x, P x = true → σ.1 x = none) ∧ P b8 = true ∧ ∀ l e, l < n → cb.2.2.2 l = some e → P e = true := by
    refine ⟨fun x => x == b8 || (List.range n).any (fun l => cb.2.2.2 l == some x), fun x hx => ?_, by simp, fun l e hl he => ?_⟩
    · rw [Bool.or_eq_true] at hx
      rcases hx with q | q
      · rw [eq_of_beq q]
        exact h8
      · rw [List.any_eq_true] at q
        obtain ⟨l, hl, q⟩ := q
        obtain ⟨-, e, u1, -, u3⟩ := hrow l (List.mem_range.mp hl)
        have := eq_of_beq q
        rw [u1] at this
        rw [← Option.some.inj this]
        exact u3
    · rw [Bool.or_eq_true]
      right
      rw [List.any_eq_true]
      exact ⟨l, List.mem_range.mpr hl, by rw [he]; exact beq_self_eq_true _⟩
  obtain ⟨P, p1, p2, p3⟩ := hP
  obtain ⟨z1, z2⟩ := he2.1.freeze P (fun x hx => (he2.t0 (p1 x hx)).1)
  refine hK _ (frz P τ2.1 fr) J3 ⟨he2.2.2.1, he2.2.2.2, z2⟩ z1 w2 (fun j q1 q2 => by rw [w3 j q1 q2, e1]) ⟨b8, cb, Eq.refl _, frz_p p2 (by rw [hs2 b8 (nsome hcb)]; exact hcb), cb1, by rw [hx67]; exact cb2, fun l hl => ?_⟩ w6 w7
  rw [hx67] at hl
  obtain ⟨u1, e, u2, ⟨c, c1, c2, c3, c4, c5, c6, c7⟩, u3⟩ := hrow l hl
  obtain ⟨y1, y2, y3, y4⟩ := w5 l hl
  refine ⟨e, c.2.2.1, u2, ⟨c, frz_p (p3 l e hl u2) (by rw [hs2 e (nsome c1)]; exact c1), c2, c3, fun _ _ => Eq.refl _⟩, c4.trans y1.symm, c5.trans y2.symm, ?_, fun _ => c7.trans y4.symm⟩
  have e3 : xr (J3 1) (630 + 4 * l) = 9 + (F l).2.2.1 := by
    have h3 := u1.2.2.1
    unfold xr
    rw [y3]
    exact nI_clamp (by omega)
  rw [e3, c6]
  congr 1
  omega
/-- a step of the loop -/
theorem wk_step {C S : Nat} {v2 : Int32} {k41 : Nat → Int32 → Int32 → Nat → Int32 → xd_S → Prop} (hN : 100 ≤ N) (hw : XW X (J 1)) (hi : iW (J 1)) (hd : xr (J 1) 0 + 8 < 1000) (hP : 0 < xr (J 1) 63) (h : WI J σ fr tg i t d ta X b5 b8 n C S k τ) (hta : ta 10 = some b8) (hb5 : σ.1 b5 = none) (h8 : σ.1 b8 = none) (hk : k < n ∧ n ≤ 12) (hC : C ≥ 26 * n + 10) (hS : S ≥ 3010 * n + 10) (hK : ∀ τ', WI J σ fr tg i t d ta X b5 b8 n C S (k + 1) τ' → k41 t v2 (nI n) b5 (nI (k + 1)) τ') : hbL_walks_41 N M K k41 t v2 (nI n) b5 (nI k) τ := by
  have hW := hi.nWB
  have hT := h.choose_spec.choose_spec.choose_spec.1.1.T
  have e3 : X.1 3 = nI (xr (J 1) 62) := hw.nw.trans hi.nW
  unfold hbL_walks_41
  refine w_f (by rw [xp_le (by omega) (by omega)]; omega) (w_lt (Eq.refl _) (t_gI hT (by omega) ?_))
  by_cases h0 : xr (J 1) 62 = 0
  · refine w_f (fun z => z (by rw [e3, h0]; decide)) ?_
    obtain ⟨b, hb, eb⟩ := and_1 (v2 * (nI k + 3) + 293 * nI k)
    exact wk_89 (w := 2 * b) hN hw hi hd hP h hta hb5 h8 hk (by rw [eb, show (2 : Int32) = nI 2 from Eq.refl _, pk_mul]) (by omega) (fun q => by omega) hC hS hK
  · refine w_t (by rw [e3]; exact fun z => h0 (by have := congrArg Int32.toNatClampNeg z; rw [nI_clamp (by omega)] at this; exact this)) (w_c0 (w_between _ (lo := 0) (hi := 5) (by omega) (by omega) (by decide) (by decide) (fun r _ hr => ?_)))
    refine w_dv (by decide) (v := nI (r / 2)) (by rw [show (2 : Int32) = nI 2 from Eq.refl _, pk_div (by omega) (by omega) (by omega)]) ?_
    exact wk_89 (w := r / 2) (σ := σ) hN hw hi hd hP h hta hb5 h8 hk (Eq.refl _) (by omega) (fun q => by omega) hC hS hK
/-- drawn walks are told -/
theorem w_walks {v2 : Int32} (hN : 1000 ≤ N) (hM : 60 ≤ M) (h : tG σ fr tg i t d ta X) (hw : XW X (J 1)) (hRR : RR σ.2.1 J) (h18 : J 0 18 = nI 0) (hd : xr (J 1) 0 + 8 < 1000) (hC : 400 ≤ σ.2.2.1) (hS : 40000 ≤ σ.2.2.2) (hK : ∀ τ' fr' b J', fwm tg i σ fr τ' fr' → tG τ' fr' tg i t d (fun q => if q = 10 then some b else ta q) X → RR τ'.2.1 J' → (∀ j, j ≠ 67 → j < 628 ∨ 692 ≤ j → J' 1 j = J 1 j) → wkT fr' (some b) (J' 1) → J' 0 18 = nI 0 → J' 0 4 = nI 0 → K 1 none τ') : hL_walks N M t v2 σ K := by
  have hi := hRR.1.i
  have hPB := hi.nPB
  have e4 : X.1 4 = nI (xr (J 1) 63) := hw.np.trans hi.nP
  have key : ∀ (n : Nat) (vs0 : Int32), vs0 = nI n → n ≤ 12 → (0 < n → 0 < xr (J 1) 63) → hbL_walks_20 N M K t v2 vs0 σ := by
    intro n vs0 hv hn hP
    unfold hbL_walks_20
    refine w_lt hv (t_new (by omega) (by omega) (fun b5 v τ1 hb q1 => ?_))
    obtain ⟨q2, q3⟩ := q1
    obtain ⟨t1, t2, t3, t4, t5⟩ := hb
    have he1 : env σ fr tg i t d ta X τ1 := (env.of h).new t1
    refine w_na (n := n) (Eq.refl _) (by omega) (by omega) (by omega) (fun b8 h8 => ?_)
    have h8S := he1.nn h8
    have he2 : env σ fr tg i t d ta X (xd_up τ1.1 b8 (2, n, fun _ => 0, fun _ => none), τ1.2.1, τ1.2.2.1 - 1, τ1.2.2.2 - n) := he1.new (fun x hx => xu_n _ _ (fun e => hx (by rw [e]; exact h8S)))
    refine g_pR (u := some b8) he2.1 (Or.inl (Eq.refl _)) (fun τ3 y1 y2 y3 y4 => ?_)
    refine w_lt (v := nI 0) (Eq.refl _) ?_
    have ne5 : b5 ≠ b8 := fun e => by
      obtain ⟨c, cv, ⟨c1, -⟩, -⟩ := t3
      rw [e, h8] at c1
      exact nomatch c1
    have ht : σ.1 t ≠ none := by
      obtain ⟨c, c1, -⟩ := h.2.2.1
      exact nsome c1
    have tne : ∀ x, σ.1 x = none → x ≠ t := fun x hx e => ht (by rw [← e]; exact hx)
    have tgt : tg t = (i, 0, 0) := by
      obtain ⟨c, c1, -, -, -, -, -, -, c8⟩ := h.2.2.1
      exact c8
    have he3 : env σ fr tg i t d (fun q => if q = 10 then some b8 else ta q) X τ3 := ⟨y4, h.2.1, fun x x1 x2 => (y2 x (fun e => x1 (by rw [e, tgt]))).trans (he2.2.2.1 x x1 x2), fun x hx => y3 x (he2.2.2.2 x hx)⟩
    have b1 : τ3.2.2.1 = τ1.2.2.1 - 1 := by rw [y1]
    have b2 : τ3.2.2.2 = τ1.2.2.2 - n := by rw [y1]
    have b3 : τ3.2.1 = σ.2.1 := by rw [y1]; exact t2
    have h0 : WI J σ fr tg i t d (fun q => if q = 10 then some b8 else ta q) X b5 b8 n τ3.2.2.1 τ3.2.2.2 0 τ3 := by
      refine ⟨v, fun _ => (0, 0, 0, 0), (2, n, fun _ => 0, fun _ => none), he3, ?_, Nat.zero_le _, t5, (y2 b8 (tne b8 h8S)).trans (xu_s _ _ _), Eq.refl _, Eq.refl _, fun l hl => absurd hl (Nat.not_lt_zero l), b3, Nat.le_add_right _ _, Nat.le_add_right _ _⟩
      obtain ⟨c, cv, ⟨c1, c2, c3, c4, c5⟩, v1, v2⟩ := t3
      have nev : v ≠ b8 := fun e => by rw [e, h8] at v1; exact nomatch v1
      exact ⟨c, cv, ⟨((y2 b5 (tne b5 t4)).trans (xu_n _ _ ne5)).trans c1, c2, c3, c4, c5⟩, ((y2 v (tne v t5)).trans (xu_n _ _ nev)).trans v1, v2⟩
    have hX : (if (10 : Nat) = 10 then some b8 else ta 10) = some b8 := if_pos (Eq.refl _)
    refine w_loop (S := xd_S) (fun fu k τ => hlL_walks_41 N M K fu t v2 (nI n) b5 (nI k) τ) n (fun k τ => WI J σ fr tg i t d (fun q => if q = 10 then some b8 else ta q) X b5 b8 n τ3.2.2.1 τ3.2.2.2 k τ) (fun fu τ hI => ?_) (fun fu k τ hk hI ih => ?_) N 0 τ3 (by omega) (Nat.zero_le _) h0
    · exact wk_end hN hM hRR h18 hX hI h8S hn (by omega) (by omega) (fun τ' fr' J' z1 z2 z3 z4 z5 z6 z7 => hK τ' fr' b8 J' z1 z2 z3 z4 z5 z6 z7)
    · exact wk_step (by omega) hw hi hd (hP (by omega)) hI hX t4 h8S ⟨hk, hn⟩ (by omega) (by omega) ih
  unfold hL_walks
  refine t_gI h.T (by omega) ?_
  by_cases h0 : xr (J 1) 63 = 0
  · exact w_f (fun z => z (by rw [e4, h0]; decide)) (key 0 0 (by decide) (by omega) (by omega))
  · refine w_t (by rw [e4]; exact fun z => h0 (by have := congrArg Int32.toNatClampNeg z; rw [nI_clamp (by omega)] at this; exact this)) (w_c0 (w_between _ (lo := 0) (hi := 12) (by omega) (by omega) (by decide) (by decide) (fun r _ hr => ?_)))
    exact key r _ (Eq.refl _) hr (fun _ => by omega)
end
