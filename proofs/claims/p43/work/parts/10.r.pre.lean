-- ===== texts: before and behind the reading =====
theorem past0 {I J I' J' : xc_M} (h : pastR I J) (h1 : I' 91 0 = nI 0) (h2 : J' 0 4 = nI 0) (h3 : I' 91 1 = I 91 1) : pastR I' J' := by
  obtain ⟨n, l, a1, a2, a3, a4, a5, a6⟩ := h
  exact ⟨0, l, by omega, a2, h1, h2, h3.trans a5, fun t ht => absurd ht (by omega)⟩
theorem RR_text {I J I' J' : xc_M} (h : RR I J) (hw : xW true 1 I' (J' 1)) (hd : J' 1 0 = J 1 0) (hp : pastR I' J') (hI : ∀ a, 31 ≤ a → a < 59 → I' a = I a) (hI0 : I' 0 6 = I 0 6) (hJ2 : J' 2 = J 2) (hJ5 : J' 0 5 = J 0 5) (h130 : I' 130 0 = nI 0) (h18 : J' 0 18 = nI 0) (hf : I' 132 0 = J' 0 25 ∧ I' 132 1 = J' 0 27) : RR I' J' := by
  obtain ⟨_, g2, _, _, _, g6⟩ := h
  exact ⟨hw, by rw [xr_eq hd]; exact g2, hp, ⟨0, by omega, h130, h18, fun j hj => absurd hj (by omega)⟩, hf, imgR_keep hI hI0 hJ5 hJ2 g6⟩
section
variable {N M : Nat} {I J : xc_M}
/-- the tape as bytes -/
theorem tap_c (h : tapR I J) : ∃ t c, TP t c I ∧ TQ t c J := by
  obtain ⟨t, t1, t2, t3, t4⟩ := h
  refine ⟨t, fun j => xr (J 10) j, ⟨t2, t1, fun j hj => ?_⟩, ⟨t3, t1, fun j hj => ?_⟩⟩
  · obtain ⟨v, v1, v2, v3⟩ := t4 j hj
    have e : xr (J 10) j = v := xr_of v2 (by omega)
    show xr (J 10) j < 256 ∧ _ = nI (xr (J 10) j)
    rw [e]
    exact ⟨v1, v3⟩
  · obtain ⟨v, v1, v2, v3⟩ := t4 j hj
    have e : xr (J 10) j = v := xr_of v2 (by omega)
    show xr (J 10) j < 256 ∧ _ = nI (xr (J 10) j)
    rw [e]
    exact ⟨v1, v2⟩
/-- what stands when the reading begins -/
def preI (I I7 : xc_M) : Prop := (∀ a, a ≠ 73 → a ≠ 75 → a ≠ 79 → a ≠ 83 → a < 132 → I7 a = I a) ∧ I7 73 0 = nI 0 ∧ I7 75 0 = nI 0 ∧ I7 79 0 = nI 0 ∧ I7 83 0 = nI 0 ∧ I7 83 1 = nI 0
def preJ (J J7 : xc_M) : Prop := (∀ a, a ≠ 0 → J7 a = J a) ∧ (∀ k, k ≠ 14 → k < 19 ∨ 25 < k → k ≠ 27 → J7 0 k = J 0 k) ∧ J7 0 25 = nI 0 ∧ J7 0 27 = mI
theorem text_pre (hN : 1000 ≤ N) (h : RR I J) {k : Nat} (hk : k < 4) : ∃ t c T I7 J7, psI I7 T ∧ psJ c t k J7 T ∧ T.length ≤ 401 ∧ preI I I7 ∧ preJ J J7 ∧ (∀ R, lX6_read_67 N M 1 61 N (nI k) (nI 0) (nI 0) I7 = R → fX6_read N M 1 61 (nI k) I = R) ∧ ∀ R, (if nI k ≠ (1 : Int32) then xc_cl (fX10_readsRows N J7) fun x8 I9 => (bX10_text_61 N M (nI k) x8 I9) else xc_cl (fX10_readsLaw N M J7) fun x10 I11 => (bX10_text_61 N M (nI k) x10 I11)) = R → fX10_text N M (nI k) J = R := by
  obtain ⟨t, c, hTP, hTQ⟩ := tap_c h.2.2.2.1
  have ht := hTP.2.1
  have hTP2 : TP t c (xc_wr (xc_wr I 132 0 (nI 0)) 132 1 mI) := ⟨by rw [xp_wr_cell (by omega), xp_wr_cell (by omega)]; exact hTP.1, ht, fun j hj => by rw [xp_wr_cell (by omega), xp_wr_cell (by omega)]; exact hTP.2.2 j hj⟩
  obtain ⟨I3, c1, c2, c3, c4, c5, c6, c7⟩ := cv_cut hN hTP2
  have hTQ2 : TQ t c (xc_wr (xc_wr (xc_wr (xc_wr (xc_wr J 0 25 (nI 0)) 0 27 mI) 0 23 (nI 0)) 0 19 (nI 0)) 0 14 (nI k)) := ⟨by rw [xp_wr_k (by omega), xp_wr_k (by omega), xp_wr_k (by omega), xp_wr_k (by omega), xp_wr_k (by omega)]; exact hTQ.1, ht, fun j hj => by rw [xp_wr_cell (by omega), xp_wr_cell (by omega), xp_wr_cell (by omega), xp_wr_cell (by omega), xp_wr_cell (by omega)]; exact hTQ.2.2 j hj⟩
  obtain ⟨J7, n1, n2, n3⟩ := psJ_first (N := N) (rd := k) (e := 0) (f := t) hN hTQ2 (xp_wr_s _ _ _ _) hk (by rw [xp_wr_k (by omega), xp_wr_s]) (by omega) (by omega)
  have hin := rv_isIn_t (k := k) (n := 3) (by omega) (by omega)
  refine ⟨t, c, lexF c t t 0, xc_wr (xc_wr (xc_wr (xc_wr (xc_wr I3 79 0 (nI 0)) 83 0 (nI 0)) 83 1 (nI 0)) 73 0 (nI 0)) 75 0 (nI 0), J7, ?_, n3, by omega, ⟨fun a a1 a2 a3 a4 a5 => ?_, ?_, ?_, ?_, ?_, ?_⟩, ⟨fun a ha => ?_, fun j j1 j2 j3 => ?_, ?_, ?_⟩, fun R hR => ?_, fun R hR => ?_⟩
  · refine psI_84 (by omega) (psI_84 (by omega) (psI_84 (by omega) (psI_84 (by omega) (psI_84 (by omega) ⟨⟨0, c2, ?_, ?_, c7⟩, ?_, ?_⟩))))
    · rw [Nat.zero_add]
      exact c3
    · omega
    · rw [c6 0 (by omega) (by omega), xp_wr_k (by omega), xp_wr_s]
    · rw [c6 1 (by omega) (by omega), xp_wr_s]
  · rw [xp_wr_cell a2, xp_wr_cell a1, xp_wr_cell a4, xp_wr_cell a4, xp_wr_cell a3, c5 a (by omega) (by omega) (by omega) (by omega), xp_wr_cell (by omega), xp_wr_cell (by omega)]
  · rw [xp_wr_cell (by omega), xp_wr_s]
  · rw [xp_wr_s]
  · rw [xp_wr_cell (by omega), xp_wr_cell (by omega), xp_wr_cell (by omega), xp_wr_cell (by omega), xp_wr_s]
  · rw [xp_wr_cell (by omega), xp_wr_cell (by omega), xp_wr_k (by omega), xp_wr_s]
  · rw [xp_wr_cell (by omega), xp_wr_cell (by omega), xp_wr_s]
  · rw [n2.1 a ha, xp_wr_cell ha, xp_wr_cell ha, xp_wr_cell ha, xp_wr_cell ha, xp_wr_cell ha]
  · rw [n2.2 j (by omega) (by omega) (by omega) (by omega), xp_wr_k j1, xp_wr_k (by omega), xp_wr_k (by omega), xp_wr_k j3, xp_wr_k (by omega)]
  · rw [n2.2 25 (by omega) (by omega) (by omega) (by omega), xp_wr_k (by omega), xp_wr_k (by omega), xp_wr_k (by omega), xp_wr_k (by omega), xp_wr_s]
  · rw [n2.2 27 (by omega) (by omega) (by omega) (by omega), xp_wr_k (by omega), xp_wr_k (by omega), xp_wr_k (by omega), xp_wr_s]
  · unfold fX6_read
    refine e_mw rfl (e_mw rfl (e_f (nI_pos (by omega)) (e_t ?_ (e_cv c1 (e_mw rfl (e_cv (v := nI 0) (J := xc_wr (xc_wr (xc_wr I3 79 0 (nI 0)) 83 0 (nI 0)) 83 1 (nI 0)) ?_ (e_mw rfl (e_mw rfl (e_lt rfl (e_lt rfl hR))))))))))
    · rw [show (3 : Int32) = nI 3 from rfl, xp_le (by omega) (by omega)]
      omega
    · unfold fX1_clear
      exact e_mw rfl (e_mw rfl rfl)
  · unfold fX10_text
    exact e_mw rfl (e_mw rfl (e_cr hin (e_t (by decide) (e_mw rfl (e_mw rfl (e_mw rfl (e_cv n1 hR)))))))
/-- a FAULT: nothing else stays -/
theorem text_fail (h : RR I J) {I8 J8 : xc_M} (hI : ∀ a, a < 61 ∨ (90 < a ∧ a < 132) → I8 a = I a) (hJ : ∀ a, a = 1 ∨ a = 2 ∨ a = 3 → J8 a = J a) (h4 : J8 0 4 = J 0 4) (h5 : J8 0 5 = J 0 5) (hf : flt I8 J8) (M : Nat) (v1 : Int32) : RR (xc_wr I8 130 0 (nI 0)) (xc_wr (xc_wr (xc_wr J8 0 18 (nI 0)) 0 25 (J8 0 23)) 0 27 (J8 0 24)) ∧ bX10_text_61 N M v1 (nI 0) J8 = some (mI, xc_wr (xc_wr (xc_wr J8 0 18 (nI 0)) 0 25 (J8 0 23)) 0 27 (J8 0 24)) := by
  have hJ' : ∀ a, a = 1 ∨ a = 2 ∨ a = 3 → (xc_wr (xc_wr (xc_wr J8 0 18 (nI 0)) 0 25 (J8 0 23)) 0 27 (J8 0 24)) a = J a := fun a ha => by rw [xp_wr_cell (by omega), xp_wr_cell (by omega), xp_wr_cell (by omega)]; exact hJ a ha
  constructor
  · refine RR_text h ?_ (by rw [hJ' 1 (by omega)]) (pastR_keep (fun a a1 a2 => by rw [xp_wr_cell (by omega)]; exact hI a (by omega)) (by rw [xp_wr_k (by omega), xp_wr_k (by omega), xp_wr_k (by omega)]; exact h4) (hJ' 3 (by omega)) (by rw [hJ' 1 (by omega)]) h.2.2.1) (fun a a1 a2 => by rw [xp_wr_cell (by omega)]; exact hI a (by omega)) (by rw [xp_wr_cell (by omega), hI 0 (by omega)]) (hJ' 2 (by omega)) (by rw [xp_wr_k (by omega), xp_wr_k (by omega), xp_wr_k (by omega)]; exact h5) (xp_wr_s _ _ _ _) (by rw [xp_wr_k (by omega), xp_wr_k (by omega), xp_wr_s]) ⟨by rw [xp_wr_cell (by omega), xp_wr_k (by omega), xp_wr_s]; exact hf.1, by rw [xp_wr_cell (by omega), xp_wr_s]; exact hf.2⟩
    rw [hJ' 1 (by omega)]
    exact xW_frame (fun a a1 a2 => by rw [xp_wr_cell (by omega)]; exact hI a (by omega)) h.1
  · rw [bX10_text_61]
    refine e_lt rfl (e_mw rfl (e_t rfl (e_mw ?_ (e_mw ?_ rfl))))
    · rw [xp_wr_k (by omega)]
    · rw [xp_wr_k (by omega), xp_wr_k (by omega)]
-- what THE LAW's rows say
theorem ltyp_33 : ∀ {S : List (Nat × Int32)} {st q : List Bool}, ltyp S st = some q → ∀ s, s ∈ S → s.1 < 33 := by
  intro S
  induction S with
  | nil => exact fun _ s hs => absurd hs (List.not_mem_nil)
  | cons x r ih =>
    intro st q h s hs
    obtain ⟨h1, h2⟩ := ltyp_inv (s := x.1) (v := x.2) (r := r) h
    rcases List.mem_cons.mp hs with e | e
    · rw [e]
      rcases h2 with z | z | z
      · omega
      · omega
      · revert z
        intro z
        by_cases hlt : x.1 < 33
        · exact hlt
        · exfalso
          rw [ltyp_step] at h
          have hn : ltyp [(x.1, x.2)] st = none := by
            have n0 : ¬ x.1 = 0 := by omega
            have n8 : ¬ x.1 ≤ 8 := by omega
            have n26 : ¬ x.1 = 26 := by omega
            have n30 : ¬ x.1 = 30 := by omega
            have na : ¬ (x.1 = 23 ∨ x.1 = 24 ∨ x.1 = 25) := by omega
            have nb : ¬ (x.1 = 27 ∨ x.1 = 28 ∨ x.1 = 29) := by omega
            have nc : ¬ (x.1 = 31 ∨ x.1 = 32) := by omega
            simp only [ltyp, n0, n8, n26, n30, na, nb, nc, if_false]
            split <;> rfl
          rw [hn] at h
          cases h
    · rw [ltyp_step] at h
      cases hq : ltyp [(x.1, x.2)] st with
      | none => rw [hq] at h; cases h
      | some q1 =>
        rw [hq] at h
        exact ih h s e
theorem lnR_get {I J : xc_M} : ∀ {L : List LLine} {i0 p0 q0 : Nat}, lnR I J i0 p0 q0 L → ∀ i, i < L.length → ∃ l S1 S2, sgs L = S1 ++ (l.2.1 ++ l.2.2) ++ S2 ∧ ln1 I J (i0 + i) (p0 + S1.length) (q0 + (S1.flatMap lenc).length) l := by
  intro L
  induction L with
  | nil => exact fun _ i hi => absurd hi (by show ¬ i < 0; omega)
  | cons x r ih =>
    intro i0 p0 q0 h i hi
    obtain ⟨a1, a2, a3, a4, a5, a6, a7, a8, a9, a10⟩ := h
    cases i with
    | zero => exact ⟨x, [], sgs r, rfl, a1, a2, a3, a4, a5, a6, a7, a8, a9⟩
    | succ i =>
      obtain ⟨l, S1, S2, e, g⟩ := ih a10 i (by rw [List.length_cons] at hi; omega)
      refine ⟨l, (x.2.1 ++ x.2.2) ++ S1, S2, ?_, ?_⟩
      · show (x.2.1 ++ x.2.2) ++ sgs r = _
        rw [e]
        simp only [List.append_assoc]
      · have e1 : p0 + x.2.1.length + x.2.2.length + S1.length = p0 + ((x.2.1 ++ x.2.2) ++ S1).length := by
          rw [List.length_append, List.length_append]
          omega
        have e2 : q0 + (x.2.1.flatMap lenc).length + (x.2.2.flatMap lenc).length + (S1.flatMap lenc).length = q0 + (((x.2.1 ++ x.2.2) ++ S1).flatMap lenc).length := by
          rw [List.flatMap_append, List.flatMap_append, List.length_append, List.length_append]
          omega
        rw [e1, e2, show i0 + 1 + i = i0 + (i + 1) by omega] at g
        exact g
theorem cel_get {I : xc_M} {D : List Int32} : ∀ {A B : List Int32} {k : Nat}, cel I k (A ++ (B ++ D)) → ∀ j, j < B.length → some (I 88 (k + A.length + j)) = B[j]? := by
  intro A
  induction A with
  | nil =>
    intro B
    induction B with
    | nil => exact fun _ j hj => absurd hj (by show ¬ j < 0; omega)
    | cons y s ih2 =>
      intro k h j hj
      cases j with
      | zero =>
        show some (I 88 k) = some y
        exact congrArg some h.1
      | succ j =>
        have := ih2 (k := k + 1) h.2 j (by rw [List.length_cons] at hj; omega)
        rw [List.getElem?_cons_succ, ← this, List.length_nil]
        congr 2
        omega
  | cons x r ih =>
    intro B k h j hj
    have := ih (k := k + 1) h.2 j hj
    rw [← this, List.length_cons]
    congr 2
    omega
theorem stp_get {J : xc_M} {D : List (Nat × Int32)} : ∀ {A B : List (Nat × Int32)} {k : Nat}, stpJ J k (A ++ (B ++ D)) → ∀ j, j < B.length → ∃ s, B[j]? = some s ∧ J 6 (2 * (k + A.length + j)) = nI s.1 ∧ J 6 (2 * (k + A.length + j) + 1) = s.2 := by
  intro A
  induction A with
  | nil =>
    intro B
    induction B with
    | nil => exact fun _ j hj => absurd hj (by show ¬ j < 0; omega)
    | cons y s ih2 =>
      intro k h j hj
      cases j with
      | zero => exact ⟨y, rfl, h.1, h.2.1⟩
      | succ j =>
        obtain ⟨z, z1, z2, z3⟩ := ih2 (k := k + 1) h.2.2 j (by rw [List.length_cons] at hj; omega)
        refine ⟨z, by rw [List.getElem?_cons_succ]; exact z1, ?_, ?_⟩
        · rw [show k + ([] : List (Nat × Int32)).length + (j + 1) = k + 1 + ([] : List (Nat × Int32)).length + j by omega]
          exact z2
        · rw [show k + ([] : List (Nat × Int32)).length + (j + 1) = k + 1 + ([] : List (Nat × Int32)).length + j by omega]
          exact z3
  | cons x r ih =>
    intro B k h j hj
    obtain ⟨z, z1, z2, z3⟩ := ih (k := k + 1) h.2.2 j hj
    refine ⟨z, z1, ?_, ?_⟩
    · rw [List.length_cons, show k + (r.length + 1) + j = k + 1 + r.length + j by omega]
      exact z2
    · rw [List.length_cons, show k + (r.length + 1) + j = k + 1 + r.length + j by omega]
      exact z3
theorem map_get {α : Type} {B : List α} {f : Nat → α} (h : ∀ j, j < B.length → some (f j) = B[j]?) : (List.range B.length).map f = B := by
  apply List.ext_getElem?
  intro j
  rw [List.getElem?_map]
  by_cases hj : j < B.length
  · rw [List.getElem?_range hj]
    exact h j hj
  · rw [List.getElem?_eq_none (l := B) (by omega), List.getElem?_eq_none (l := List.range B.length) (by rw [List.length_range]; omega)]
    rfl
end
