-- ===== texts: E =====
theorem ltyp_step (s : Nat) (v : Int32) (r : List (Nat × Int32)) (st : List Bool) : ltyp ((s, v) :: r) st = (ltyp [(s, v)] st).bind (ltyp r) := by
  simp only [ltyp]
  repeat' split
  all_goals first | rfl | simp_all
theorem ltyp_app {a b : List (Nat × Int32)} : ∀ {st st1 : List Bool}, ltyp a st = some st1 → ltyp (a ++ b) st = ltyp b st1 := by
  induction a with
  | nil =>
    intro st st1 h
    cases h
    rfl
  | cons x a ih =>
    intro st st1 h
    rw [ltyp_step] at h
    show ltyp ((x.1, x.2) :: (a ++ b)) st = _
    rw [ltyp_step]
    cases hq : ltyp [(x.1, x.2)] st with
    | none =>
      rw [hq] at h
      cases h
    | some q =>
      rw [hq] at h
      exact ih h
theorem lty_num {v : Nat} {st : List Bool} (h : st.length < 24) (hv : v < 10000) : ltyp [(0, nI v)] st = some (false :: st) := by
  have h1 : ¬ 24 ≤ st.length := by omega
  have h2 : (0 : Int32) ≤ nI v := by rw [show (0 : Int32) = nI 0 from rfl, xp_le (by omega) (by omega)]; omega
  have h3 : nI v ≤ (9999 : Int32) := by rw [show (9999 : Int32) = nI 9999 from rfl, xp_le (by omega) (by omega)]; omega
  simp only [ltyp, h1, h2, h3, if_false, if_true, and_self]
theorem lty_fact {s : Nat} {v : Int32} {st : List Bool} (h : st.length < 24) (h1 : 1 ≤ s) (h8 : s ≤ 8) : ltyp [(s, v)] st = some (false :: st) := by
  have h2 : ¬ 24 ≤ st.length := by omega
  have h3 : ¬ s = 0 := by omega
  simp only [ltyp, h2, h3, h8, if_false, if_true]
theorem lty_part {v : Nat} {q : List Bool} (h : q.length < 23) (h0 : v ≠ 0) (hv : v < 10000) : ltyp [(26, nI v)] (false :: q) = some (false :: q) := by
  have h1 : ¬ 24 ≤ (false :: q).length := by rw [List.length_cons]; omega
  have h2 : (0 : Int32) < nI v := by rw [show (0 : Int32) = nI 0 from rfl, xp_ltI (by omega) (by omega)]; omega
  have h3 : nI v ≤ (9999 : Int32) := by rw [show (9999 : Int32) = nI 9999 from rfl, xp_le (by omega) (by omega)]; omega
  have e0 : ¬ (26 = 0) := by decide
  have e8 : ¬ (26 ≤ 8) := by decide
  simp only [ltyp, h1, h2, h3, e0, e8, if_false, if_true, and_self]
theorem lty_ar {s : Nat} {v : Int32} {q : List Bool} (h : q.length < 22) (hs : s = 23 ∨ s = 24 ∨ s = 25) : ltyp [(s, v)] (false :: false :: q) = some (false :: q) := by
  have h1 : ¬ 24 ≤ (false :: false :: q).length := by rw [List.length_cons, List.length_cons]; omega
  rcases hs with z | z | z <;> subst z <;> simp [ltyp, h] <;> omega
-- code and steps
def cel (I : xc_M) : Nat → List Int32 → Prop
  | _, [] => True
  | k, v :: r => I 88 k = v ∧ cel I (k + 1) r
def cC (I : xc_M) (C : List Int32) : Prop := I 83 1 = nI C.length ∧ cel I 0 C
def stpJ (J : xc_M) : Nat → List (Nat × Int32) → Prop
  | _, [] => True
  | k, s :: r => J 6 (2 * k) = nI s.1 ∧ J 6 (2 * k + 1) = s.2 ∧ stpJ J (k + 1) r
def sS (J : xc_M) (S : List (Nat × Int32)) : Prop := J 0 16 = nI S.length ∧ stpJ J 0 S
theorem cel_app {I I' : xc_M} {v : Int32} : ∀ {C : List Int32} {k : Nat}, (∀ j, j < k + C.length → I' 88 j = I 88 j) → I' 88 (k + C.length) = v → cel I k C → cel I' k (C ++ [v]) := by
  intro C
  induction C with
  | nil => exact fun h1 h2 _ => ⟨h2, trivial⟩
  | cons x r ih =>
    intro k h1 h2 h3
    rw [List.length_cons] at h1 h2
    refine ⟨(h1 k (by omega)).trans h3.1, ih (k := k + 1) (fun j hj => h1 j (by omega)) ?_ h3.2⟩
    rw [show k + 1 + r.length = k + (r.length + 1) by omega]
    exact h2
theorem cel_keep {I I' : xc_M} (h : I' 88 = I 88) : ∀ {C : List Int32} {k : Nat}, cel I k C → cel I' k C := by
  intro C
  induction C with
  | nil => exact fun _ => trivial
  | cons x r ih => exact fun h3 => ⟨by rw [h]; exact h3.1, ih h3.2⟩
theorem stp_app {J J' : xc_M} {s : Nat × Int32} : ∀ {S : List (Nat × Int32)} {k : Nat}, (∀ j, j < 2 * (k + S.length) → J' 6 j = J 6 j) → J' 6 (2 * (k + S.length)) = nI s.1 → J' 6 (2 * (k + S.length) + 1) = s.2 → stpJ J k S → stpJ J' k (S ++ [s]) := by
  intro S
  induction S with
  | nil => exact fun h1 h2 h3 _ => ⟨h2, h3, trivial⟩
  | cons x r ih =>
    intro k h1 h2 h3 h4
    rw [List.length_cons] at h1 h2 h3
    refine ⟨(h1 _ (by omega)).trans h4.1, (h1 _ (by omega)).trans h4.2.1, ih (k := k + 1) (fun j hj => h1 j (by omega)) ?_ ?_ h4.2.2⟩
    · rw [show k + 1 + r.length = k + (r.length + 1) by omega]
      exact h2
    · rw [show k + 1 + r.length = k + (r.length + 1) by omega]
      exact h3
theorem stp_keep {J J' : xc_M} (h : J' 6 = J 6) : ∀ {S : List (Nat × Int32)} {k : Nat}, stpJ J k S → stpJ J' k S := by
  intro S
  induction S with
  | nil => exact fun _ => trivial
  | cons x r ih => exact fun h3 => ⟨by rw [h]; exact h3.1, by rw [h]; exact h3.2.1, ih h3.2.2⟩
theorem cC_keep {I I' : xc_M} {C : List Int32} (h : I' 88 = I 88) (h1 : I' 83 1 = I 83 1) (hc : cC I C) : cC I' C := ⟨h1.trans hc.1, cel_keep h hc.2⟩
theorem sS_keep {J J' : xc_M} {S : List (Nat × Int32)} (h : J' 6 = J 6) (h1 : J' 0 16 = J 0 16) (hs : sS J S) : sS J' S := ⟨h1.trans hs.1, stp_keep h hs.2⟩
def frE (I I' : xc_M) : Prop := (∀ a, a ≠ 83 → a ≠ 88 → a ≠ 132 → I' a = I a) ∧ I' 83 0 = I 83 0
def frF (J J' : xc_M) : Prop := (∀ a, a ≠ 0 → a ≠ 6 → J' a = J a) ∧ ∀ k, k ≠ 16 → k < 19 ∨ 24 < k → J' 0 k = J 0 k
theorem frE_r (I : xc_M) : frE I I := ⟨fun _ _ _ _ => rfl, rfl⟩
theorem frF_r (J : xc_M) : frF J J := ⟨fun _ _ _ => rfl, fun _ _ _ => rfl⟩
theorem frE_t {I K L : xc_M} (h : frE I K) (h2 : frE K L) : frE I L := ⟨fun a a1 a2 a3 => (h2.1 a a1 a2 a3).trans (h.1 a a1 a2 a3), h2.2.trans h.2⟩
theorem frF_t {I K L : xc_M} (h : frF I K) (h2 : frF K L) : frF I L := ⟨fun a a1 a2 => (h2.1 a a1 a2).trans (h.1 a a1 a2), fun k k1 k2 => (h2.2 k k1 k2).trans (h.2 k k1 k2)⟩
theorem frE_132 (I : xc_M) (j : Nat) (v : Int32) : frE I (xc_wr I 132 j v) := ⟨fun a _ _ a3 => xp_wr_cell a3, by rw [xp_wr_cell (by omega)]⟩
theorem frE_nx (I : xc_M) : frE I (nxI I) := frE_132 I 3 _
theorem frE_rf (I : xc_M) (v p : Nat) : frE I (rfI I v p) := frE_t (frE_132 I 0 _) (frE_132 _ 1 _)
theorem frF_n {J J' : xc_M} (h : nfr J J') : frF J J' := ⟨fun a a1 _ => h.1 a a1, fun k k1 k2 => h.2 k (by omega) (by omega) (by omega) (by omega)⟩
theorem frF_bd (J : xc_M) (v p : Nat) : frF J (bdJ J v p) := ⟨fun a a1 _ => by unfold bdJ; rw [xp_wr_cell a1, xp_wr_cell a1], fun k k1 k2 => by unfold bdJ; rw [xp_wr_k (by omega), xp_wr_k (by omega)]⟩
section
variable {N t : Nat} {c : Nat → Nat} {I J : xc_M} {x y : Tok} {r T : List Tok} {C : List Int32} {S : List (Nat × Int32)}
theorem cC_nx (h : cC I C) : cC (nxI I) C := cC_keep (xp_wr_cell (by omega)) (by unfold nxI; rw [xp_wr_cell (by omega)]) h
theorem sS_n {J' : xc_M} (h : nfr J J') (hs : sS J S) : sS J' S := sS_keep (h.1 6 (by omega)) (h.2 16 (by omega) (by omega) (by omega) (by omega)) hs
theorem cv_emit (v : Int32) (h : cC I C) (hl : C.length < 400) : ∃ I', fX1_emit 83 v I = some (nI 0, I') ∧ cC I' (C ++ [v]) ∧ frE I I' ∧ (∀ T, psI I T → psI I' T) := by
  refine ⟨xc_wr (xc_wr I 88 C.length v) 83 1 (nI (C.length + 1)), ?_, ⟨?_, ?_⟩, ⟨fun a a1 a2 _ => by rw [xp_wr_cell a1, xp_wr_cell a2], by rw [xp_wr_k (by omega), xp_wr_cell (by omega)]⟩, fun T hp => psI_keep hp (by rw [xp_wr_cell (by omega), xp_wr_cell (by omega)]) (fun a ha => by rw [xp_wr_cell (by omega), xp_wr_cell (by omega)])⟩
  · unfold fX1_emit
    rw [h.1]
    refine e_f (by rw [show (400 : Int32) = nI 400 from rfl, xp_le (by omega) (by omega)]; omega) (e_st (k := C.length) rfl (by omega) rfl (e_mw (v := nI (C.length + 1)) ?_ rfl))
    rw [xp_wr_cell (by omega), h.1]
    exact nI_add _ 1
  · rw [xp_wr_s, List.length_append]
    rfl
  · refine cel_app (I := I) (fun j hj => ?_) ?_ h.2
    · rw [Nat.zero_add] at hj
      rw [xp_wr_cell (by omega), xp_wr_k (by omega)]
    · rw [Nat.zero_add, xp_wr_cell (by omega), xp_wr_s]
theorem rv_lay (a : Nat) (v : Int32) (h : sS J S) (hl : S.length < 410) : ∃ J', fX10_lay (nI a) v J = some (nI 0, J') ∧ sS J' (S ++ [(a, v)]) ∧ frF J J' ∧ (∀ T, psJ c t 1 J T → psJ c t 1 J' T) := by
  have e1 : ((2 : Int32) * nI S.length) = nI (2 * S.length) := pk_mul 2 S.length
  refine ⟨xc_wr (xc_wr (xc_wr J 6 (2 * S.length) (nI a)) 6 (2 * S.length + 1) v) 0 16 (nI (S.length + 1)), ?_, ⟨?_, ?_⟩, ⟨fun b b1 b2 => by rw [xp_wr_cell b1, xp_wr_cell b2, xp_wr_cell b2], fun k k1 _ => by rw [xp_wr_k k1, xp_wr_cell (by omega), xp_wr_cell (by omega)]⟩, fun T hp => psJ_keep hp (by rw [xp_wr_cell (by omega), xp_wr_cell (by omega), xp_wr_cell (by omega)]) (fun k hk => by rw [xp_wr_k (by omega), xp_wr_cell (by omega), xp_wr_cell (by omega)])⟩
  · unfold fX10_lay
    refine e_st (k := 2 * S.length) (by rw [h.1]; exact e1) (by omega) rfl (e_st (k := 2 * S.length + 1) ?_ (by omega) rfl (e_mw (v := nI (S.length + 1)) ?_ rfl))
    · rw [xp_wr_cell (by omega), h.1, e1]
      exact nI_add _ 1
    · rw [xp_wr_cell (by omega), xp_wr_cell (by omega), h.1]
      exact nI_add _ 1
  · rw [xp_wr_s, List.length_append]
    rfl
  · refine stp_app (J := J) (fun j hj => ?_) ?_ ?_ h.2
    · rw [Nat.zero_add] at hj
      rw [xp_wr_cell (by omega), xp_wr_k (by omega), xp_wr_k (by omega)]
    · rw [Nat.zero_add, xp_wr_cell (by omega), xp_wr_k (by omega), xp_wr_s]
    · rw [Nat.zero_add, xp_wr_cell (by omega), xp_wr_s]
/-- the reference from here in a product: at its first (0), behind * or / -/
def rP (N f times : Nat) (J : xc_M) : Option (Int32 × xc_M) := if times = 0 then xc_cl (fX10_unit N J) fun x1 I2 => (if x1 ≠ (0 : Int32) then (lX10_product_9 N f I2) else some (0, I2)) else if times = 42 then xc_cl (fX10_unit N J) fun x5 I6 => (if x5 ≠ (0 : Int32) then xc_cv (fX10_lay 25 0 I6) fun I7 => (lX10_product_9 N f I7) else some (0, I6)) else xc_lt (J 0 22) fun v2_8 => (if (J 0 20) = (2 : Int32) then (if v2_8 ≠ (0 : Int32) then xc_cv (fX10_next0 N J) fun I9 => xc_cv (fX10_lay 26 v2_8 I9) fun I10 => (lX10_product_9 N f I10) else xc_cl (fX10_bad 2 J) fun x11 I12 => xc_rb x11 (x11, I12)) else xc_cl (fX10_bad 1 J) fun x13 I14 => xc_rb x13 (x13, I14))
/-- in a sum: its first (0), behind + or - -/
def rS (N f1 f2 times plus : Nat) (J : xc_M) : Option (Int32 × xc_M) := if plus = 0 then xc_cl (rP N f1 times J) fun x1 I2 => (if x1 ≠ (0 : Int32) then (lX10_sumUp_9 N f2 I2) else some (0, I2)) else xc_cl (rP N f1 times J) fun x5 I6 => (if x5 ≠ (0 : Int32) then xc_cv (fX10_lay (nI (if plus = 43 then 23 else 24)) 0 I6) fun I7 => (lX10_sumUp_9 N f2 I7) else some (0, I6))
theorem rS_sum (J : xc_M) : fX10_sumUp N J = rS N N N 0 0 J := rfl
theorem tk_fact : (List.range 200).all (fun k => decide (41 ≤ tm 1 k ∧ tm 1 k ≤ 48) == decide (108 ≤ k ∧ k < 116)) = true := by decide +kernel
theorem tk_f {k : Nat} (hk : k < 200) : (41 ≤ tm 1 k ∧ tm 1 k ≤ 48) ↔ (108 ≤ k ∧ k < 116) := decide_eq_decide.mp (eq_of_beq (List.all_eq_true.mp tk_fact k (List.mem_range.mpr hk)))
theorem tk_f2 {k : Nat} (h1 : 108 ≤ k) (h2 : k < 116) : tm 1 k = k - 67 := by
  have hc : k = 108 ∨ k = 109 ∨ k = 110 ∨ k = 111 ∨ k = 112 ∨ k = 113 ∨ k = 114 ∨ k = 115 := by omega
  rcases hc with z | z | z | z | z | z | z | z <;> subst z <;> rfl
/-- the step for a number or a fact -/
def uS (x : Tok) (w : Int32) : Nat × Int32 := if x.1 = 2 then (0, nI x.2.2) else (x.1 - 107, w)
def uC (x : Tok) : Int32 := if x.1 = 2 then nI x.2.2 else nI (9892 + x.1)
theorem uC_enc (x : Tok) (w : Int32) (h : x.1 = 2 ∨ (108 ≤ x.1 ∧ x.1 < 116)) : lenc (uS x w) = [uC x] := by
  unfold uS uC
  by_cases h2 : x.1 = 2
  · rw [if_pos h2, if_pos h2]
    rfl
  · rw [if_neg h2, if_neg h2]
    unfold lenc
    rw [if_neg (show ¬ x.1 - 107 = 0 by omega), if_pos (show x.1 - 107 ≤ 8 by omega)]
    congr 2
    omega
theorem uS_ty (x : Tok) (w : Int32) (h : x.1 = 2 ∨ (108 ≤ x.1 ∧ x.1 < 116)) (hv : x.2.2 < 10000) {st : List Bool} (hs : st.length < 24) : ltyp [uS x w] st = some (false :: st) := by
  unfold uS
  by_cases h2 : x.1 = 2
  · rw [if_pos h2]
    exact lty_num hs hv
  · rw [if_neg h2]
    exact lty_fact hs (by omega) (by omega)
/-- the reference's unit -/
theorem rv_unit (hN : 1000 ≤ N) (hp : psJ c t 1 J (x :: r)) (hs : sS J S) (hl : S.length < 410) (h : x.1 = 2 ∨ (108 ≤ x.1 ∧ x.1 < 116)) : ∃ J' w, fX10_unit N J = some (nI 1, J') ∧ psJ c t 1 J' r ∧ sS J' (S ++ [uS x w]) ∧ frF J J' := by
  have hk := psJ_k hp
  have htok := psJ_tok hp
  have h2q := tm_eq (rd := 1) (a := 2) (b := 2) (by decide +kernel) (by omega) hk (by omega)
  have hb := tm_b (rd := 1) (by omega) hk
  have hin := rv_isIn (v := tm 1 x.1) (a := 41) (c := 48) (by omega) (by omega) (by omega)
  have h0 : x.1 ≠ 0 := by omega
  obtain ⟨J1, l1, l2, l3, l4⟩ := rv_lay (c := c) (t := t) (if x.1 = 2 then 0 else x.1 - 107) (J 0 22) hs hl
  obtain ⟨J2, n1, n2, n3⟩ := psJ_nx hN (l4 _ hp) h0
  refine ⟨J2, J 0 22, ?_, n3, ?_, frF_t l3 (frF_n n2)⟩
  · unfold fX10_unit
    rw [htok]
    refine e_cr hin (e_lt rfl ?_)
    by_cases h2 : x.1 = 2
    · rw [if_pos h2] at l1
      refine e_t (by rw [show (2 : Int32) = nI 2 from rfl, h2q]; exact h2) ?_
      rw [bX10_unit_30]
      have hd : decide (41 ≤ tm 1 x.1 ∧ tm 1 x.1 ≤ 48) = false := decide_eq_false (fun z => by have := (tk_f hk).mp z; omega)
      rw [hd]
      refine e_t rfl ?_
      rw [bX10_unit_46]
      exact e_cv l1 (e_cv n1 rfl)
    · rw [if_neg h2] at l1
      refine e_f (by rw [show (2 : Int32) = nI 2 from rfl, h2q]; exact h2) ?_
      have hf : 108 ≤ x.1 ∧ x.1 < 116 := h.resolve_left h2
      rw [decide_eq_true ((tk_f hk).mpr hf)]
      refine e_t (by decide) ?_
      rw [bX10_unit_30]
      refine e_f (by decide) ?_
      rw [bX10_unit_46, htok, tk_f2 hf.1 hf.2, show (40 : Int32) = nI 40 from rfl, pk_sub (by omega), show x.1 - 67 - 40 = x.1 - 107 by omega]
      exact e_cv l1 (e_cv n1 rfl)
  · have e : uS x (J 0 22) = (if x.1 = 2 then 0 else x.1 - 107, J 0 22) := by
      unfold uS
      by_cases h2 : x.1 = 2
      · rw [if_pos h2, if_pos h2, psJ_val hp h2]
      · rw [if_neg h2, if_neg h2]
    rw [e]
    exact sS_n n2 l2
theorem rv_unit0 (hp : psJ c t 1 J (x :: r)) (h : ¬ (x.1 = 2 ∨ (108 ≤ x.1 ∧ x.1 < 116))) : fX10_unit N J = some (nI 0, bdJ J 1 x.2.1) := by
  have hk := psJ_k hp
  have htok := psJ_tok hp
  have h2q := tm_eq (rd := 1) (a := 2) (b := 2) (by decide +kernel) (by omega) hk (by omega)
  have hb := tm_b (rd := 1) (by omega) hk
  have hin := rv_isIn (v := tm 1 x.1) (a := 41) (c := 48) (by omega) (by omega) (by omega)
  rw [decide_eq_false (fun z => h (Or.inr ((tk_f hk).mp z)))] at hin
  unfold fX10_unit
  rw [htok]
  exact e_cr hin (e_lt rfl (e_f (by rw [show (2 : Int32) = nI 2 from rfl, h2q]; exact fun z => h (Or.inl z)) (e_f (fun z => z rfl) (e_cl (rv_bad hp 1) rfl))))
-- the class
theorem cs_65 (k7 : Int32 → Int32 → Int32 → xc_M → Option (Int32 × xc_M)) (hp : psI I (x :: r)) (hk : x.1 < 200) {times i4 : Nat} (plus : Int32) (hi : i4 ≤ 400) (htm : times < 100) (h : x.1 = 2 ∨ (108 ≤ x.1 ∧ x.1 < 116)) (hd : times = 47 → x.1 = 2 ∧ x.2.2 ≠ 0) (hv : x.2.2 < 10000) : bX6_readSum_7 N 83 k7 (nI times) plus (nI i4) I = bX6_readSum_112 N 83 k7 (nI times) plus (nI i4) (uC x) I := by
  have hkd := cv_kind hp
  have h65 : ∀ f, (f = 0 → x.1 = 2) → (f ≠ 0 → f = 1 ∧ 108 ≤ x.1 ∧ x.1 < 116) → bX6_readSum_65 N 83 k7 (nI times) plus (nI i4) (nI x.1) (nI f) I = bX6_readSum_112 N 83 k7 (nI times) plus (nI i4) (uC x) I := by
    intro f f1 f2
    have h92 : bX6_readSum_92 N 83 k7 (nI times) plus (nI i4) (nI x.1) (nI f) (nI x.2.2) I = bX6_readSum_112 N 83 k7 (nI times) plus (nI i4) (uC x) I := by
      rw [bX6_readSum_92]
      unfold uC
      by_cases hf : f = 0
      · rw [hf, if_pos (f1 hf)]
        exact e_t rfl rfl
      · obtain ⟨g1, g2, g3⟩ := f2 hf
        rw [g1, if_neg (show ¬ x.1 = 2 by omega)]
        refine e_f (by decide) ?_
        rw [show ((10000 : Int32) + nI x.1) - 108 = nI (9892 + x.1) by
          show nI 10000 + nI x.1 - nI 108 = _
          rw [nI_add, pk_sub (by omega)]
          congr 1
          omega]
    rw [bX6_readSum_65]
    refine e_cr (cv_tval hp) (e_lt rfl ?_)
    by_cases h47 : times = 47
    · obtain ⟨_, d2⟩ := hd h47
      refine e_f (by rw [h47]; exact fun z => z rfl) (e_t ?_ h92)
      rw [show (0 : Int32) = nI 0 from rfl, ne_eq, xp_eq (by omega) (by omega)]
      exact d2
    · refine e_t ?_ h92
      rw [show (47 : Int32) = nI 47 from rfl, ne_eq, xp_eq (by omega) (by omega)]
      exact h47
  rw [bX6_readSum_7]
  have e2 : (nI x.1 = (2 : Int32)) = (x.1 = 2) := xp_eq (b := 2) (by omega) (by omega)
  refine e_f (by rw [show (400 : Int32) = nI 400 from rfl, xp_ltI (by omega) (by omega)]; omega) (e_cr hkd (e_lt rfl ?_))
  rcases h with h2 | ⟨h3, h4⟩
  · refine e_t ?_ ?_
    · rw [show (108 : Int32) = nI 108 from rfl, xp_ltI (by omega) (by omega)]
      omega
    · rw [bX6_readSum_39, bX6_readSum_40]
      exact e_lt rfl (e_t (by rw [e2]; exact h2) (h65 0 (fun _ => h2) (fun z => absurd rfl z)))
  · refine e_f ?_ (e_f ?_ ?_)
    · rw [show (108 : Int32) = nI 108 from rfl, xp_ltI (by omega) (by omega)]
      omega
    · rw [show (116 : Int32) = nI 116 from rfl, xp_le (by omega) (by omega)]
      omega
    · rw [bX6_readSum_40]
      refine e_lt rfl (e_f (by rw [e2]; omega) (e_f (by decide) (e_t ?_ (h65 1 (fun z => by omega) (fun _ => ⟨rfl, h3, h4⟩)))))
      rw [show (47 : Int32) = nI 47 from rfl, ne_eq, xp_eq (by omega) (by omega)]
      intro z
      have := hd z
      omega
theorem cs_bad (k7 : Int32 → Int32 → Int32 → xc_M → Option (Int32 × xc_M)) (hp : psI I (x :: r)) (hk : x.1 < 200) {times i4 : Nat} (plus : Int32) (hi : i4 ≤ 400) (htm : times < 100) (h : ¬ (x.1 = 2 ∨ (108 ≤ x.1 ∧ x.1 < 116)) ∨ (times = 47 ∧ x.1 ≠ 2)) : bX6_readSum_7 N 83 k7 (nI times) plus (nI i4) I = some (nI 0, rfI I 1 x.2.1) := by
  have hkd := cv_kind hp
  have h59 : bX6_readSum_59 N 83 I = some (nI 0, rfI I 1 x.2.1) := by
    rw [bX6_readSum_59]
    exact e_cl (cv_refuse hp 1) rfl
  have e2 : (nI x.1 = (2 : Int32)) = (x.1 = 2) := xp_eq (b := 2) (by omega) (by omega)
  have hn2 : x.1 ≠ 2 := by omega
  rw [bX6_readSum_7]
  refine e_f (by rw [show (400 : Int32) = nI 400 from rfl, xp_ltI (by omega) (by omega)]; omega) (e_cr hkd (e_lt rfl ?_))
  by_cases hf : 108 ≤ x.1 ∧ x.1 < 116
  · refine e_f ?_ (e_f ?_ ?_)
    · rw [show (108 : Int32) = nI 108 from rfl, xp_ltI (by omega) (by omega)]
      omega
    · rw [show (116 : Int32) = nI 116 from rfl, xp_le (by omega) (by omega)]
      omega
    · rw [bX6_readSum_40]
      refine e_lt rfl (e_f (by rw [e2]; omega) (e_f (by decide) (e_f ?_ h59)))
      have h47 : times = 47 := by omega
      rw [h47]
      exact fun z => z rfl
  · have h39 : bX6_readSum_39 N 83 k7 (nI times) plus (nI i4) (nI x.1) I = some (nI 0, rfI I 1 x.2.1) := by
      rw [bX6_readSum_39, bX6_readSum_40]
      exact e_lt rfl (e_f (by rw [e2]; omega) (e_t rfl h59))
    by_cases h1 : x.1 < 108
    · refine e_t ?_ h39
      rw [show (108 : Int32) = nI 108 from rfl, xp_ltI (by omega) (by omega)]
      exact h1
    · refine e_f ?_ (e_t ?_ h39)
      · rw [show (108 : Int32) = nI 108 from rfl, xp_ltI (by omega) (by omega)]
        exact h1
      · rw [show (116 : Int32) = nI 116 from rfl, xp_le (by omega) (by omega)]
        omega
theorem cs_bad2 (k7 : Int32 → Int32 → Int32 → xc_M → Option (Int32 × xc_M)) (hp : psI I (x :: r)) {i4 : Nat} (plus : Int32) (hi : i4 ≤ 400) (h2 : x.1 = 2) (hv : x.2.2 = 0) : bX6_readSum_7 N 83 k7 (nI 47) plus (nI i4) I = some (nI 0, rfI I 2 x.2.1) := by
  have hkd := cv_kind hp
  have hvl := cv_tval hp
  rw [h2] at hkd
  rw [hv] at hvl
  rw [bX6_readSum_7]
  refine e_f (by rw [show (400 : Int32) = nI 400 from rfl, xp_ltI (by omega) (by omega)]; omega) (e_cr hkd (e_lt rfl (e_t (by decide) ?_)))
  rw [bX6_readSum_39, bX6_readSum_40]
  refine e_lt rfl (e_t rfl ?_)
  rw [bX6_readSum_65]
  exact e_cr hvl (e_lt rfl (e_f (by decide) (e_f (fun z => z rfl) (e_cl (cv_refuse hp 2) rfl))))
theorem cs_138 (k7 : Int32 → Int32 → Int32 → xc_M → Option (Int32 × xc_M)) (hp : psI I (y :: r)) (hk : y.1 < 200) (plus : Int32) {i4 : Nat} (h : y.1 = 42 ∨ y.1 = 47) : bX6_readSum_138 N 83 k7 plus (nI i4) I = k7 (nI y.1) plus (nI (i4 + 1)) (nxI I) := by
  have hkd := cv_kind hp
  have hne : nI y.1 ≠ (0 : Int32) := by
    rw [show (0 : Int32) = nI 0 from rfl, ne_eq, xp_eq (by omega) (by omega)]
    omega
  have h164 : bX6_readSum_164 N 83 k7 plus (nI i4) (nI y.1) I = k7 (nI y.1) plus (nI (i4 + 1)) (nxI I) := by
    rw [bX6_readSum_164]
    refine e_lt rfl (e_f hne (e_mw rfl ?_))
    rw [bX6_readSum_238]
    exact e_lt (nI_add i4 1) rfl
  have h156 : bX6_readSum_156 N 83 k7 plus (nI i4) I = k7 (nI y.1) plus (nI (i4 + 1)) (nxI I) := by
    rw [bX6_readSum_156]
    exact e_cr hkd h164
  rw [bX6_readSum_138]
  refine e_cr hkd ?_
  rcases h with z | z
  · exact e_t (by rw [z]; rfl) h156
  · exact e_f (by rw [z]; decide) (e_cr hkd (e_f (by rw [z]; exact fun q => q rfl) h156))
theorem cs_138n (k7 : Int32 → Int32 → Int32 → xc_M → Option (Int32 × xc_M)) (hp : psI I (y :: r)) (hk : y.1 < 200) (plus i4 : Int32) (h : ¬ (y.1 = 42 ∨ y.1 = 47)) : bX6_readSum_138 N 83 k7 plus i4 I = bX6_readSum_164 N 83 k7 plus i4 (nI 0) I := by
  have hkd := cv_kind hp
  have e42 : (nI y.1 = (42 : Int32)) = (y.1 = 42) := xp_eq (b := 42) (by omega) (by omega)
  have e47 : (nI y.1 = (47 : Int32)) = (y.1 = 47) := xp_eq (b := 47) (by omega) (by omega)
  rw [bX6_readSum_138]
  exact e_cr hkd (e_f (by rw [e42]; exact fun z => h (Or.inl z)) (e_cr hkd (e_t (by rw [ne_eq, e47]; exact fun z => h (Or.inr z)) rfl)))
theorem cs_195 (k7 : Int32 → Int32 → Int32 → xc_M → Option (Int32 × xc_M)) (hp : psI I (y :: r)) (hk : y.1 < 200) {i4 : Nat} : bX6_readSum_195 N 83 k7 (nI 0) (nI i4) I = if y.1 = 43 ∨ y.1 = 45 then k7 (nI 0) (nI y.1) (nI (i4 + 1)) (nxI I) else some (nI 1, I) := by
  have hkd := cv_kind hp
  have e43 : (nI y.1 = (43 : Int32)) = (y.1 = 43) := xp_eq (b := 43) (by omega) (by omega)
  have e45 : (nI y.1 = (45 : Int32)) = (y.1 = 45) := xp_eq (b := 45) (by omega) (by omega)
  have h213 : y.1 ≠ 0 → bX6_readSum_213 N 83 k7 (nI 0) (nI i4) I = k7 (nI 0) (nI y.1) (nI (i4 + 1)) (nxI I) := by
    intro hz
    rw [bX6_readSum_213]
    refine e_cr hkd ?_
    rw [bX6_readSum_221]
    refine e_lt rfl (e_t ?_ (e_mw rfl ?_))
    · rw [show (0 : Int32) = nI 0 from rfl, ne_eq, xp_eq (by omega) (by omega)]
      exact hz
    · rw [bX6_readSum_238]
      exact e_lt (nI_add i4 1) rfl
  rw [bX6_readSum_195]
  by_cases h43 : y.1 = 43
  · rw [if_pos (Or.inl h43)]
    exact e_cr hkd (e_t (by rw [e43]; exact h43) (h213 (by omega)))
  · by_cases h45 : y.1 = 45
    · rw [if_pos (Or.inr h45)]
      exact e_cr hkd (e_f (by rw [e43]; exact h43) (e_cr hkd (e_f (by rw [ne_eq, e45]; exact fun z => z h45) (h213 (by omega)))))
    · rw [if_neg (show ¬ (y.1 = 43 ∨ y.1 = 45) by omega)]
      refine e_cr hkd (e_f (by rw [e43]; exact h43) (e_cr hkd (e_t (by rw [ne_eq, e45]; exact h45) ?_)))
      rw [bX6_readSum_221]
      exact e_lt rfl (e_f (fun z => z rfl) rfl)
end
