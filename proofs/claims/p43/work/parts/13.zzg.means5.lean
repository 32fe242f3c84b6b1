section
variable {σ τ ρ σ0 τ0 : xd_S} {fr fr2 fr3 : xd_M} {tg : lTg} {i t : Nat} {d : lD} {ta : Nat → Option Nat} {X X2 : lX} {N M : Nat} {K : xd_K} {a v b5 b8 e g m n k j c1 c2 nM nw many : Nat} {s : List Nat} {J : xc_M} {R0 : Nat → Option Nat}
theorem bool_of (Q : Nat → Prop) : ∃ P : Nat → Bool, ∀ x, P x = true ↔ Q x := ⟨fun x => @decide (Q x) (Classical.propDecidable _), fun x => @decide_eq_true_iff (Q x) (Classical.propDecidable _)⟩
/-- the needs are told -/
theorem nd_end {C S m3 : Nat} {v2 : Int32} {k322 : Nat → Int32 → Int32 → Nat → Int32 → Int32 → xd_S → Prop} (hN : 1000 ≤ N) (hM : 60 ≤ M) (hRR : RR σ.2.1 J) (h18 : J 0 18 = nI 0) (h66 : xr (J 1) 66 < 1000) (h : NI J σ fr tg i t d ta X b5 b8 n C S n τ) (h8 : σ.1 b8 = none) (hn : n ≤ 10) (hC : C ≥ 26 * n + 30) (hS : S ≥ 3010 * n + 500) (hK : ∀ τ' fr' J', fwm tg i σ fr τ' fr' → tG τ' fr' tg i t d ta X → RR τ'.2.1 J' → (∀ j, j ≠ 68 → j < 692 ∨ 728 ≤ j → J' 1 j = J 1 j) → ndT fr' (some b8) (J' 1) → J' 0 18 = nI 0 → J' 0 4 = J 0 4 → J' 3 = J 3 → K 1 none τ') : hbL_meanings_322 N M K k322 t v2 (nI m3) b5 (nI n) (nI n) τ := by
  obtain ⟨v, F, cb, he, hsb, hsl, hv, hcb, cb1, cb2, hrow, hI, hCk, hSk⟩ := h
  have hok := ndI_ok (n := n) hrow h66
  have hasc : ∀ c, c ∈ rnd (remT (ndI F) 0 n) → c < 128 := rem_asc n 0 (fun l hl => hok l (by omega))
  have hasc2 : ∀ (j y : Nat), (rnd (remT (ndI F) 0 n))[j]? = some y → y < 128 := fun j y hy => hasc y (List.mem_of_getElem? hy)
  have hl : (rnd (remT (ndI F) 0 n)).length ≤ 260 := Nat.le_trans hsl (by omega)
  unfold hbL_meanings_322
  refine w_t (Int32.le_refl _) (x_str 260 hsb (by omega) (by omega) (by omega) hl (fun τ1 a' w g1 g2 g3 g4 g5 g6 => ?_))
  obtain ⟨q1, q2⟩ := g6
  refine w_cc 20 100 (by omega) (by omega) (w_say (σ := (τ1.1, τ1.2.1, 20, 100)) (J := J) g1 hasc2 (by omega) (by show RR τ1.2.1 J; rw [g5, hI]; exact hRR) h18 hN (Nat.le_refl _) (Nat.le_refl _) (fun τ2 J2 k1 k2 k3 => ?_))
  have e1 : J2 1 = J 1 := k3.2.1 1 (by omega) (by omega)
  obtain ⟨I3, J3, w1, w2, w3, w4, w6, w7, w8⟩ := c_text3 (M := M) (A := fun l => (F l).1) (D := fun l => (F l).2.1) (W := fun l => (F l).2.2) hN hM k2 hn (fun l hl => by rw [e1]; exact hrow l hl) (Eq.refl _) (k3.TQ (by show (rnd (remT (ndI F) 0 n)).length ≤ 400; omega) hasc2)
  refine w_xc w1 (w_f (fun z => z (Eq.refl _)) (w_rb (Or.inr (Eq.refl _)) ?_))
  have hs2 : ∀ x, τ.1 x ≠ none → τ2.1 x = τ.1 x := fun x hx => (k1 x (by rw [g4 x hx]; exact hx)).trans (g4 x hx)
  have he2 : env σ fr tg i t d ta X τ2 := he.new (fun x hx => hs2 x (he.2.2.2 x hx))
  have hx68 : xr (J3 1) 68 = n := by
    unfold xr
    rw [w4]
    exact nI_clamp (by omega)
  obtain ⟨P, hP⟩ := bool_of (fun x => x = b8)
  obtain ⟨z1, z2⟩ := he2.1.freeze P (fun x hx => by rw [(hP x).mp hx]; exact (he2.t0 h8).1)
  exact hK _ (frz P τ2.1 fr) J3 ⟨he2.2.2.1, he2.2.2.2, z2⟩ z1 w2 (fun j q1 q2 => by rw [w3 j q1 q2, e1]) ⟨b8, cb, Eq.refl _, frz_p ((hP b8).mpr (Eq.refl _)) (by rw [hs2 b8 (nsome hcb)]; exact hcb), cb1, by rw [hx68]; exact cb2⟩ w6 (w7.trans (k3.2.2.1 4 (by omega))) (w8.trans (k3.2.1 3 (by omega) (by omega)))
/-- a talk's table is made and set -/
theorem w_table {f : Nat → xd_S → Prop} {kd : Nat} {y : Int32} {b5 v : Nat} (hy : y = nI n) (hn : n < 13) (hj : j = 10 ∨ j = 11 ∨ j = 13 ∨ j = 14 ∨ j = 15) (h : tG σ fr tg i t d ta X) (hb : tb σ τ b5 v []) (hC : 1 ≤ τ.2.2.1) (hS : 13 ≤ τ.2.2.2) (hf : ∀ b8 τ3, env σ fr tg i t d (fun q => if q = j then some b8 else ta q) X τ3 → sbT τ3.1 b5 v [] ([] : List Nat).length → σ.1 b5 = none → σ.1 v = none → σ.1 b8 = none → τ3.1 b8 = some (kd, n, fun _ => 0, fun _ => none) → τ3.2.1 = σ.2.1 → τ3.2.2.1 + 1 = τ.2.2.1 → τ3.2.2.2 + n = τ.2.2.2 → f b8 τ3) : xd_na kd y τ (fun b8 τ9 => xd_pR 14 t j (some b8) τ9 (fun τ10 => f b8 τ10)) := by
  obtain ⟨t1, t2, t3, t4, t5⟩ := hb
  have he1 : env σ fr tg i t d ta X τ := (env.of h).new t1
  refine w_na (n := n) hy (by omega) (by omega) (by omega) (fun b8 h8 => ?_)
  have h8S := he1.nn h8
  have he2 : env σ fr tg i t d ta X (xd_up τ.1 b8 (kd, n, fun _ => 0, fun _ => none), τ.2.1, τ.2.2.1 - 1, τ.2.2.2 - n) := he1.new (fun x hx => xu_n _ _ (fun e => hx (by rw [e]; exact h8S)))
  refine g_pR (u := some b8) he2.1 hj (fun τ3 y1 y2 y3 y4 => ?_)
  have ne5 : b5 ≠ b8 := fun e => by
    obtain ⟨c, cv, ⟨c1, -⟩, -⟩ := t3
    rw [e, h8] at c1
    exact nomatch c1
  have ht : σ.1 t ≠ none := by
    obtain ⟨c, c1, -⟩ := h.2.2.1
    exact nsome c1
  have tne : ∀ x, σ.1 x = none → x ≠ t := fun x hx e => ht (by rw [← e]; exact hx)
  have tgt : tg t = (i, 0, 0) := by
    obtain ⟨c, c1, -, -, -, -, -, -, c8⟩ := h.2.2.1
    exact c8
  have he3 : env σ fr tg i t d (fun q => if q = j then some b8 else ta q) X τ3 := ⟨y4, h.2.1, fun x x1 x2 => (y2 x (fun e => x1 (by rw [e, tgt]))).trans (he2.2.2.1 x x1 x2), fun x hx => y3 x (he2.2.2.2 x hx)⟩
  refine hf b8 τ3 he3 ?_ t4 t5 h8S ((y2 b8 (tne b8 h8S)).trans (xu_s _ _ _)) (by rw [y1]; exact t2) ?_ ?_
  · obtain ⟨c, cv, ⟨c1, c2, c3, c4, c5⟩, v1, v2⟩ := t3
    have nev : v ≠ b8 := fun e => by rw [e, h8] at v1; exact nomatch v1
    exact ⟨c, cv, ⟨((y2 b5 (tne b5 t4)).trans (xu_n _ _ ne5)).trans c1, c2, c3, c4, c5⟩, ((y2 v (tne v t5)).trans (xu_n _ _ nev)).trans v1, v2⟩
  · have : τ3.2.2.1 = τ.2.2.1 - 1 := by rw [y1]
    omega
  · have : τ3.2.2.2 = τ.2.2.2 - n := by rw [y1]
    omega
/-- drawn needs are told -/
theorem w_needs {v2 vs0 : Int32} {m3 : Nat} (hN : 1000 ≤ N) (hM : 60 ≤ M) (h : tG σ fr tg i t d ta X) (hw : XW X (J 1)) (hRR : RR σ.2.1 J) (h18 : J 0 18 = nI 0) (hd : xr (J 1) 0 + 30 < 1000) (hv : vs0 = nI n) (hn : n ≤ 10) (h66 : xr (J 1) 66 < 1000) (hm : 0 < n → 0 < m3 ∧ m3 ≤ xr (J 1) 66 ∧ m3 < 8) (hC : 300 ≤ σ.2.2.1) (hS : 31000 ≤ σ.2.2.2) (hK : ∀ τ' fr' b J', fwm tg i σ fr τ' fr' → tG τ' fr' tg i t d (fun q => if q = 11 then some b else ta q) X → RR τ'.2.1 J' → (∀ j, j ≠ 68 → j < 692 ∨ 728 ≤ j → J' 1 j = J 1 j) → ndT fr' (some b) (J' 1) → J' 0 18 = nI 0 → J' 0 4 = J 0 4 → J' 3 = J 3 → K 1 none τ') : hbL_meanings_299 N M K t v2 (nI m3) vs0 σ := by
  have hi := hRR.1.i
  unfold hbL_meanings_299
  refine w_lt hv (t_new (by omega) (by omega) (fun b5 v τ1 hb q1 => ?_))
  obtain ⟨q2, q3⟩ := q1
  refine w_table (f := fun b35 τ37 => xd_lt 0 fun v6_38 => hlL_meanings_322 N M K N t v2 (nI m3) b5 (nI n) v6_38 τ37) (Eq.refl _) (by omega) (Or.inr (Or.inl (Eq.refl _))) h hb (by omega) (by omega) (fun b8 τ3 he3 h3b h5 hv5 h8S h38 h3I h3C h3S => ?_)
  refine w_lt (v := nI 0) (Eq.refl _) ?_
  have hX : (if (11 : Nat) = 11 then some b8 else ta 11) = some b8 := if_pos (Eq.refl _)
  refine w_loop (S := xd_S) (fun fu k τ => hlL_meanings_322 N M K fu t v2 (nI m3) b5 (nI n) (nI k) τ) n (fun k τ => NI J σ fr tg i t d (fun q => if q = 11 then some b8 else ta q) X b5 b8 n τ3.2.2.1 τ3.2.2.2 k τ) (fun fu τ hI => ?_) (fun fu k τ hk hI ih => ?_) N 0 τ3 (by omega) (Nat.zero_le _) ⟨v, fun _ => (0, 0, 0), _, he3, h3b, Nat.zero_le _, hv5, h38, Eq.refl _, Eq.refl _, fun l hl => absurd hl (Nat.not_lt_zero l), h3I, Nat.le_add_right _ _, Nat.le_add_right _ _⟩
  · exact nd_end hN hM hRR h18 h66 hI h8S hn (by omega) (by omega) (fun τ' fr' J' z1 z2 z3 z4 z5 z6 z7 z8 => hK τ' fr' b8 J' z1 z2 z3 z4 z5 z6 z7 z8)
  · exact nd_step (by omega) hw hi hd (hm (by omega)) hI hX h5 h8S ⟨hk, hn⟩ (by omega) (by omega) ih
end
