-- ===== the law's text is told =====
section
variable {N M t : Nat} {c : Nat → Nat} {I J J' : xc_M} {k v : Nat} {L : List (Nat × Nat)} {S : List (Nat × Int32)} {s : List Nat} {P : List Pc}
theorem lval_n (f : Nat → Int32) (S : List (Nat × Int32)) : lval f (S.map nrm) = lval f S := by
  unfold lval
  rw [lrun_n]
theorem nrm_1 (s : Nat × Int32) : (nrm s).1 = s.1 := by
  unfold nrm
  split <;> rfl
theorem n33 {E C : List (Nat × Int32)} (h : E.map nrm = C) (hC : ∀ s, s ∈ C → s.1 < 33) : ∀ s, s ∈ E → s.1 < 33 := by
  intro s hs
  rw [← nrm_1 s]
  refine hC _ ?_
  rw [← h]
  exact List.mem_map_of_mem hs
/-- what is left of the reading -/
def lwK (J : xc_M) (D : List LLine) : Prop := ∃ ls, ls.map nrL = D ∧ sS J (sgs ls) ∧ rwJ J ls
/-- a line of the row, by what was read -/
theorem ln_val {D : List LLine} {ns : Nat} (h : lwK J D) (hD : D.length ≤ 16) (h400 : (sgs D).length ≤ 400) (hp : plR J J' D.length ns) (hns : ns = (sgs D).length) {i kd : Nat} {C B : List (Nat × Int32)} (hi : D[i]? = some (kd, C, B)) (hkd : kd < 100) (hC : ∀ s, s ∈ C → s.1 < 33) (hB : ∀ s, s ∈ B → s.1 < 33) : xr (J' 1) (1396 + i) = kd ∧ (xr (J' 1) (1364 + i) = xr (J' 1) (1380 + i) ↔ B = []) ∧ (∀ f, lval f (lseg (J' 1) (xr (J' 1) (1348 + i)) (xr (J' 1) (1364 + i))) = lval f C) ∧ ∀ f, lval f (lseg (J' 1) (xr (J' 1) (1364 + i)) (xr (J' 1) (1380 + i))) = lval f B := by
  obtain ⟨ls, e1, e2, e4⟩ := h
  have hsl := sgs_len e1
  have hiD : i < D.length := (List.getElem?_eq_some_iff.mp hi).1
  rw [← e1, List.getElem?_map] at hi
  cases hl : ls[i]? with
  | none =>
    rw [hl] at hi
    exact nomatch hi
  | some l =>
    obtain ⟨k', E, B'⟩ := l
    rw [hl] at hi
    have hi' : nrL (k', E, B') = (kd, C, B) := Option.some.inj hi
    have a1 : k' = kd := congrArg Prod.fst hi'
    have a2 : E.map nrm = C := congrArg (fun z => z.2.1) hi'
    have a3 : B'.map nrm = B := congrArg (fun z => z.2.2) hi'
    subst a1
    obtain ⟨S1, S2, y1, y2, y3, y4, y5⟩ := e4 i k' E B' hl
    obtain ⟨p1, p2, p3, p4, p5⟩ := hp
    obtain ⟨r1, r2, r3, r4⟩ := p4 i hiD
    have hlen : (sgs ls).length = S1.length + (E.length + B'.length) + S2.length := by rw [y1, List.length_append, List.length_append, List.length_append]
    have x1 : xr (J' 1) (1348 + i) = S1.length := xr_of (r1.trans y2) (by omega)
    have x2 : xr (J' 1) (1364 + i) = S1.length + E.length := xr_of (r2.trans y3) (by omega)
    have x3 : xr (J' 1) (1380 + i) = S1.length + E.length + B'.length := xr_of (r3.trans y4) (by omega)
    have x4 : xr (J' 1) (1396 + i) = k' := xr_of (r4.trans y5) (by omega)
    have hw : ∀ j, j < 2 * (sgs ls).length → J' 1 (1412 + j) = J 6 j := fun j hj => p5 j (by rw [hns, ← hsl]; exact hj)
    obtain ⟨g1, -⟩ := seg_step e2 (S1 := S1) (B := E) (S2 := B' ++ S2) (by rw [y1]; simp) (n33 a2 hC) hw
    obtain ⟨g2, -⟩ := seg_step e2 (S1 := S1 ++ E) (B := B') (S2 := S2) (by rw [y1]; simp) (n33 a3 hB) hw
    rw [List.length_append] at g2
    refine ⟨x4, ?_, fun f => ?_, fun f => ?_⟩
    · rw [x2, x3]
      constructor
      · intro z
        have : B' = [] := List.length_eq_zero_iff.mp (by omega)
        rw [← a3, this]
        rfl
      · intro z
        rw [z] at a3
        have : B' = [] := List.map_eq_nil_iff.mp a3
        rw [this]
        rfl
    · rw [x1, x2, g1, ← a2, lval_n]
    · rw [x2, x3, g2, ← a3, lval_n]
theorem v_1 (f : Nat → Int32) (d : Nat) : lval f (cM (lm1 d)) = nI d + f 5 * 5 := lval_of (by rfl)
theorem v_2 (f : Nat → Int32) (d : Nat) : lval f (cM (lm2 d)) = nI d + f 4 - f 8 + f 8 / 3 * 3 := lval_of (by rfl)
theorem v_3 (f : Nat → Int32) : lval f (cM lm3) = f 6 / 2 := lval_of (by rfl)
theorem v_4 (f : Nat → Int32) (d : Nat) : lval f (cM (s1 (2, d))) = nI d := lval_of (by rfl)
theorem v_5 (f : Nat → Int32) (d : Nat) : lval f (cM (lm5 d)) = f 2 + nI d - f 3 / 5 := lval_of (by rfl)
theorem v_b1 (f : Nat → Int32) (d0 d1 : Nat) : (lval f (lb1C d0 d1) = 1) ↔ (nI d0 < f 2 ∧ ¬ (f 6 < 3 ∨ f 1 = nI d1)) := by
  have e : lval f (lb1C d0 d1) = (if nI d0 < f 2 then 1 else 0) &&& (1 - ((if f 6 < nI 3 then 1 else 0) ||| (if f 1 = nI d1 then 1 else 0))) := rfl
  rw [e, show (3 : Int32) = nI 3 from rfl]
  by_cases c1 : nI d0 < f 2
  · rw [if_pos c1]
    by_cases c2 : f 6 < nI 3
    · rw [if_pos c2]
      by_cases c3 : f 1 = nI d1
      · rw [if_pos c3]
        exact ⟨fun z => absurd z (by decide), fun z => absurd (Or.inl c2) z.2⟩
      · rw [if_neg c3]
        exact ⟨fun z => absurd z (by decide), fun z => absurd (Or.inl c2) z.2⟩
    · rw [if_neg c2]
      by_cases c3 : f 1 = nI d1
      · rw [if_pos c3]
        exact ⟨fun z => absurd z (by decide), fun z => absurd (Or.inr c3) z.2⟩
      · rw [if_neg c3]
        exact ⟨fun _ => ⟨c1, fun z => z.elim c2 c3⟩, fun _ => by decide⟩
  · rw [if_neg c1]
    refine ⟨fun z => ?_, fun z => absurd z.1 c1⟩
    by_cases c2 : f 6 < nI 3
    · rw [if_pos c2] at z
      by_cases c3 : f 1 = nI d1
      · rw [if_pos c3] at z
        exact absurd z (by decide)
      · rw [if_neg c3] at z
        exact absurd z (by decide)
    · rw [if_neg c2] at z
      by_cases c3 : f 1 = nI d1
      · rw [if_pos c3] at z
        exact absurd z (by decide)
      · rw [if_neg c3] at z
        exact absurd z (by decide)
theorem v_b2 (f : Nat → Int32) (d4 : Nat) : (lval f (lb2C d4) = 1) ↔ (nI d4 < f 3 ∨ f 7 = 3) := by
  have e : lval f (lb2C d4) = (if nI d4 < f 3 then 1 else 0) ||| (if f 7 = nI 3 then 1 else 0) := rfl
  rw [e, show (3 : Int32) = nI 3 from rfl]
  by_cases c1 : nI d4 < f 3
  · rw [if_pos c1]
    by_cases c2 : f 7 = nI 3
    · rw [if_pos c2]
      exact ⟨fun _ => Or.inl c1, fun _ => by decide⟩
    · rw [if_neg c2]
      exact ⟨fun _ => Or.inl c1, fun _ => by decide⟩
  · rw [if_neg c1]
    by_cases c2 : f 7 = nI 3
    · rw [if_pos c2]
      exact ⟨fun _ => Or.inr c2, fun _ => by decide⟩
    · rw [if_neg c2]
      exact ⟨fun z => absurd z (by decide), fun z => z.elim (fun q => absurd q c1) (fun q => absurd q c2)⟩
def al33 (C : List (Nat × Int32)) : Prop := ∀ s, s ∈ C → s.1 < 33
theorem al33_of {C : List (Nat × Int32)} (h : (C.map Prod.fst).all (fun a => decide (a < 33)) = true) : al33 C := fun s hs => of_decide_eq_true (List.all_eq_true.mp h s.1 (List.mem_map_of_mem hs))
theorem lw_told {d : Nat → Nat} {ns : Nat} (h : lwK J (lwD d)) (hp : plR J J' 5 ns) (hns : ns = (sgs (lwD d)).length) : lawT (J' 1) (fun i => nI (d i)) := by
  have hD : (lwD d).length = 5 := rfl
  have hs : (sgs (lwD d)).length ≤ 400 := by simp [lwD, sgs, cM, cP, cG, cF, lm1, lm2, lm3, lm5, lb1C, lb2C, s1]
  have h65 : xr (J' 1) 65 = 5 := xr_of hp.2.2.1 (by omega)
  have c1 : al33 (cM (lm1 (d 2))) := al33_of rfl
  have c2 : al33 (cM (lm2 (d 3))) := al33_of rfl
  have c3 : al33 (cM lm3) := al33_of rfl
  have c4 : al33 (cM (s1 (2, d 5))) := al33_of rfl
  have c5 : al33 (cM (lm5 (d 6))) := al33_of rfl
  have b1 : al33 (lb1C (d 0) (d 1)) := al33_of rfl
  have b2 : al33 (lb2C (d 4)) := al33_of rfl
  have b0 : al33 [] := fun s hs => absurd hs (List.not_mem_nil)
  obtain ⟨k0, m0, x0, z0⟩ := ln_val (i := 0) h (by rw [hD]; omega) hs hp hns rfl (by omega) c1 b1
  obtain ⟨k1, m1, x1, z1⟩ := ln_val (i := 1) h (by rw [hD]; omega) hs hp hns rfl (by omega) c2 b0
  obtain ⟨k2, m2, x2, z2⟩ := ln_val (i := 2) h (by rw [hD]; omega) hs hp hns rfl (by omega) c3 b2
  obtain ⟨k3, m3, x3, z3⟩ := ln_val (i := 3) h (by rw [hD]; omega) hs hp hns rfl (by omega) c4 b0
  obtain ⟨k4, m4, x4, z4⟩ := ln_val (i := 4) h (by rw [hD]; omega) hs hp hns rfl (by omega) c5 b0
  have skip : ∀ (f : Nat → Int32) (kd i n kk : Nat), xr (J' 1) (1396 + i) = kk → kk ≠ kd → lfst f (J' 1) kd (n + 1) i = lfst f (J' 1) kd n (i + 1) := by
    intro f kd i n kk h1 h2
    show (if _ then _ else _) = _
    rw [if_neg]
    rintro ⟨z, -⟩
    exact h2 (h1.symm.trans z)
  intro f
  rw [h65]
  refine ⟨?_, ?_, ?_⟩
  · show (if xr (J' 1) (1396 + 0) = 20 ∧ (xr (J' 1) (1364 + 0) = xr (J' 1) (1380 + 0) ∨ lval f (lseg (J' 1) (xr (J' 1) (1364 + 0)) (xr (J' 1) (1380 + 0))) = 1) then some (lval f (lseg (J' 1) (xr (J' 1) (1348 + 0)) (xr (J' 1) (1364 + 0)))) else lfst f (J' 1) 20 4 (0 + 1)) = _
    rw [z0 f, x0 f]
    unfold lkp
    by_cases cc : nI (d 0) < f 2 ∧ ¬ (f 6 < 3 ∨ f 1 = nI (d 1))
    · rw [if_pos ⟨k0, Or.inr ((v_b1 f _ _).mpr cc)⟩, if_pos cc, v_1]
    · rw [if_neg, if_neg cc]
      · show (if xr (J' 1) (1396 + 1) = 20 ∧ (xr (J' 1) (1364 + 1) = xr (J' 1) (1380 + 1) ∨ lval f (lseg (J' 1) (xr (J' 1) (1364 + 1)) (xr (J' 1) (1380 + 1))) = 1) then some (lval f (lseg (J' 1) (xr (J' 1) (1348 + 1)) (xr (J' 1) (1364 + 1)))) else lfst f (J' 1) 20 3 (1 + 1)) = _
        rw [if_pos ⟨k1, Or.inl (m1.mpr rfl)⟩, x1 f, v_2]
      · rintro ⟨-, z | z⟩
        · exact absurd (m0.mp z) (by simp [lb1C])
        · exact cc ((v_b1 f _ _).mp z)
  · rw [skip f 21 0 4 20 k0 (by omega), skip f 21 1 3 20 k1 (by omega)]
    show (if xr (J' 1) (1396 + 2) = 21 ∧ (xr (J' 1) (1364 + 2) = xr (J' 1) (1380 + 2) ∨ lval f (lseg (J' 1) (xr (J' 1) (1364 + 2)) (xr (J' 1) (1380 + 2))) = 1) then some (lval f (lseg (J' 1) (xr (J' 1) (1348 + 2)) (xr (J' 1) (1364 + 2)))) else lfst f (J' 1) 21 2 (2 + 1)) = _
    rw [z2 f, x2 f]
    unfold lhr
    by_cases cc : nI (d 4) < f 3 ∨ f 7 = 3
    · rw [if_pos ⟨k2, Or.inr ((v_b2 f _).mpr cc)⟩, if_pos cc, v_3]
    · rw [if_neg, if_neg cc]
      · show (if xr (J' 1) (1396 + 3) = 21 ∧ (xr (J' 1) (1364 + 3) = xr (J' 1) (1380 + 3) ∨ lval f (lseg (J' 1) (xr (J' 1) (1364 + 3)) (xr (J' 1) (1380 + 3))) = 1) then some (lval f (lseg (J' 1) (xr (J' 1) (1348 + 3)) (xr (J' 1) (1364 + 3)))) else lfst f (J' 1) 21 1 (3 + 1)) = _
        rw [if_pos ⟨k3, Or.inl (m3.mpr rfl)⟩, x3 f, v_4]
      · rintro ⟨-, z | z⟩
        · exact absurd (m2.mp z) (by simp [lb2C])
        · exact cc ((v_b2 f _).mp z)
  · rw [skip f 22 0 4 20 k0 (by omega), skip f 22 1 3 20 k1 (by omega), skip f 22 2 2 21 k2 (by omega), skip f 22 3 1 21 k3 (by omega)]
    show (if xr (J' 1) (1396 + 4) = 22 ∧ (xr (J' 1) (1364 + 4) = xr (J' 1) (1380 + 4) ∨ lval f (lseg (J' 1) (xr (J' 1) (1364 + 4)) (xr (J' 1) (1380 + 4))) = 1) then some (lval f (lseg (J' 1) (xr (J' 1) (1348 + 4)) (xr (J' 1) (1364 + 4)))) else lfst f (J' 1) 22 0 (4 + 1)) = _
    rw [if_pos ⟨k4, Or.inl (m4.mpr rfl)⟩, x4 f, v_5]
    unfold ltr
    rw [Int32.add_comm (f 2) (nI (d 6))]
theorem c_text1 (hN : 1000 ≤ N) (hM : 60 ≤ M) (h : RR I J) {d : Nat → Nat} (hd : ∀ i, i < 7 → d i < 1000) (hT : TQ (lwS2 d).length (txc (lwS2 d)) J) : ∃ I2 J2, fX9_text N M 1 I = some (5, I2) ∧ RR I2 J2 ∧ (∀ j, j ≠ 65 → j < 1348 → J2 1 j = J 1 j) ∧ J2 1 65 = nI 5 ∧ lawT (J2 1) (fun i => nI (d i)) ∧ J2 0 18 = nI 0 ∧ J2 0 4 = J 0 4 ∧ J2 3 = J 3 := by
  obtain ⟨v, I2, J2, g1, g2, g3⟩ := text_both hN hM h 1
  obtain ⟨J7, q1, q2, q3, q4, -⟩ := tx_pre (M := M) hN (show 1 < 4 by omega) (lw_rnd d) (lw_wf d) (lw_nm hd) hT
  rw [lw_tks] at q2
  obtain ⟨J8, r1, r2, r3⟩ := lw_read hN hM d q2
  obtain ⟨ls, e1, e2, e3, e4⟩ := id r2
  have hln : ls.length = 5 := by
    have := congrArg List.length e1
    rw [List.length_map] at this
    exact this
  rw [hln] at e3
  have hsl := sgs_len e1
  have hs : (sgs (lwD d)).length ≤ 400 := by simp [lwD, sgs, cM, cP, cG, cF, lm1, lm2, lm3, lm5, lb1C, lb2C, s1]
  obtain ⟨J9, y1, y2⟩ := rv_putsLaw (J := xc_wr J8 0 18 (nI 0)) hN (nl := 5) (ns := (sgs (lwD d)).length) (by omega) hs (by rw [xp_wr_k (by omega)]; exact e3) (by rw [xp_wr_k (by omega), ← hsl]; exact e2.2.1)
  have hq : fX10_text N M 1 J = some (5, J9) := by
    refine q1 _ ?_
    refine e_f (fun z => z rfl) (e_cl r1 ?_)
    unfold bX10_text_61
    refine e_lt rfl (e_mw rfl (e_f (by decide) (e_cl (v := 5) ?_ rfl)))
    unfold fX10_putsText
    exact e_f (by decide) (e_t rfl (e_cl y1 rfl))
  obtain ⟨z1, z2⟩ := some_det2 g2 hq
  subst z1 z2
  have w8 : J8 1 = J 1 := (r3.1 1 (by omega) (by omega) (by omega)).trans (q3 1 (by omega))
  have k1 : ∀ q, q ≠ 18 → J2 0 q = J8 0 q := fun q hq => by rw [y2.1 0 (by omega), xp_wr_k hq]
  refine ⟨I2, J2, g1, g3, fun j j1 j2 => ?_, y2.2.2.1, ?_, ?_, ?_, ?_⟩
  · rw [y2.2.1 j j1 j2, xp_wr_cell (by omega), w8]
  · refine lw_told (J := xc_wr J8 0 18 (nI 0)) ⟨ls, e1, sS_keep (xp_wr_cell (by omega)) (xp_wr_k (by omega)) e2.2, fun i k E B hi => ?_⟩ y2 rfl
    rw [xp_wr_cell (by omega)]
    exact e4 i k E B hi
  · rw [y2.1 0 (by omega), xp_wr_s]
  · rw [k1 4 (by omega), r3.2 4 (by omega) (by omega) (by omega) (by omega)]
    exact q4 4 (by omega) (by omega) (by omega)
  · rw [y2.1 3 (by omega), xp_wr_cell (by omega), r3.1 3 (by omega) (by omega) (by omega)]
    exact q3 3 (by omega)
end
