-- ===== texts: a line of THE LAW =====
abbrev LLine : Type := Nat × List (Nat × Int32) × List (Nat × Int32)
def sgs (L : List LLine) : List (Nat × Int32) := L.flatMap (fun l => l.2.1 ++ l.2.2)
def lgd (l : LLine) : Prop := 20 ≤ l.1 ∧ l.1 ≤ 22 ∧ ltyp l.2.1 [] = some [false] ∧ (l.2.2 ≠ [] → ltyp l.2.2 [] = some [true])
def lnR (I J : xc_M) : Nat → Nat → Nat → List LLine → Prop
  | _, _, _, [] => True
  | i, p, q, l :: r => I 84 i = nI (l.1 + 84) ∧ I 85 i = nI q ∧ I 86 i = nI (q + (l.2.1.flatMap lenc).length) ∧ I 87 i = nI (q + (l.2.1.flatMap lenc).length + (l.2.2.flatMap lenc).length) ∧ J 5 (4 * i) = nI p ∧ J 5 (4 * i + 1) = nI (p + l.2.1.length) ∧ J 5 (4 * i + 2) = nI (p + l.2.1.length + l.2.2.length) ∧ J 5 (4 * i + 3) = nI l.1 ∧ lgd l ∧ lnR I J (i + 1) (p + l.2.1.length + l.2.2.length) (q + (l.2.1.flatMap lenc).length + (l.2.2.flatMap lenc).length) r
def ln1 (I J : xc_M) (i p q : Nat) (l : LLine) : Prop := I 84 i = nI (l.1 + 84) ∧ I 85 i = nI q ∧ I 86 i = nI (q + (l.2.1.flatMap lenc).length) ∧ I 87 i = nI (q + (l.2.1.flatMap lenc).length + (l.2.2.flatMap lenc).length) ∧ J 5 (4 * i) = nI p ∧ J 5 (4 * i + 1) = nI (p + l.2.1.length) ∧ J 5 (4 * i + 2) = nI (p + l.2.1.length + l.2.2.length) ∧ J 5 (4 * i + 3) = nI l.1 ∧ lgd l
theorem lnR_app {I J I' J' : xc_M} {l : LLine} : ∀ {L : List LLine} {i p q : Nat}, (∀ a, a = 84 ∨ a = 85 ∨ a = 86 ∨ a = 87 → ∀ j, j < i + L.length → I' a j = I a j) → (∀ j, j < 4 * (i + L.length) → J' 5 j = J 5 j) → lnR I J i p q L → ln1 I' J' (i + L.length) (p + (sgs L).length) (q + ((sgs L).flatMap lenc).length) l → lnR I' J' i p q (L ++ [l]) := by
  intro L
  induction L with
  | nil =>
    intro i p q h1 h2 h3 h4
    obtain ⟨a1, a2, a3, a4, a5, a6, a7, a8, a9⟩ := h4
    exact ⟨a1, a2, a3, a4, a5, a6, a7, a8, a9, trivial⟩
  | cons x r ih =>
    intro i p q h1 h2 h3 h4
    obtain ⟨a1, a2, a3, a4, a5, a6, a7, a8, a9, a10⟩ := h3
    rw [List.length_cons] at h1 h2 h4
    have e1 : (sgs (x :: r)).length = x.2.1.length + x.2.2.length + (sgs r).length := by
      show ((x.2.1 ++ x.2.2) ++ sgs r).length = _
      rw [List.length_append, List.length_append]
    have e2 : ((sgs (x :: r)).flatMap lenc).length = (x.2.1.flatMap lenc).length + (x.2.2.flatMap lenc).length + ((sgs r).flatMap lenc).length := by
      show (((x.2.1 ++ x.2.2) ++ sgs r).flatMap lenc).length = _
      rw [List.flatMap_append, List.flatMap_append, List.length_append, List.length_append]
    rw [e1, e2] at h4
    refine ⟨(h1 84 (by omega) i (by omega)).trans a1, (h1 85 (by omega) i (by omega)).trans a2, (h1 86 (by omega) i (by omega)).trans a3, (h1 87 (by omega) i (by omega)).trans a4, (h2 _ (by omega)).trans a5, (h2 _ (by omega)).trans a6, (h2 _ (by omega)).trans a7, (h2 _ (by omega)).trans a8, a9, ih (fun a ha j hj => h1 a ha j (by omega)) (fun j hj => h2 j (by omega)) a10 ?_⟩
    rw [show i + 1 + r.length = i + (r.length + 1) by omega, show p + x.2.1.length + x.2.2.length + (sgs r).length = p + (x.2.1.length + x.2.2.length + (sgs r).length) by omega, show q + (x.2.1.flatMap lenc).length + (x.2.2.flatMap lenc).length + ((sgs r).flatMap lenc).length = q + ((x.2.1.flatMap lenc).length + (x.2.2.flatMap lenc).length + ((sgs r).flatMap lenc).length) by omega]
    exact h4
theorem sgs_app (L : List LLine) (l : LLine) : sgs (L ++ [l]) = sgs L ++ l.2.1 ++ l.2.2 := by
  show (L ++ [l]).flatMap _ = L.flatMap _ ++ _ ++ _
  rw [List.flatMap_append, List.flatMap_cons, List.flatMap_nil, List.append_nil, List.append_assoc]
def frL (I I' : xc_M) : Prop := ∀ a, a < 83 ∨ 88 < a → a ≠ 132 → I' a = I a
def frM (J J' : xc_M) : Prop := (∀ a, a ≠ 0 → a ≠ 5 → a ≠ 6 → J' a = J a) ∧ ∀ k, k ≠ 15 → k ≠ 16 → k ≠ 26 → k < 19 ∨ 24 < k → J' 0 k = J 0 k
theorem frL_E {I I' : xc_M} (h : frE I I') : frL I I' := fun a ha h2 => h.1 a (by omega) (by omega) h2
theorem frL_t {I K L : xc_M} (h : frL I K) (h2 : frL K L) : frL I L := fun a h3 h4 => (h2 a h3 h4).trans (h a h3 h4)
theorem frL_wr {I : xc_M} {a j : Nat} {v : Int32} (ha : 83 ≤ a ∧ a ≤ 88) : frL I (xc_wr I a j v) := fun b hb _ => xp_wr_cell (by omega)
theorem frM_G {J J' : xc_M} (h : frG J J') : frM J J' := ⟨fun a a1 _ a3 => h.1 a a1 a3, fun k _ k2 k3 k4 => h.2 k k2 k3 k4⟩
theorem frM_t {I K L : xc_M} (h : frM I K) (h2 : frM K L) : frM I L := ⟨fun a a1 a2 a3 => (h2.1 a a1 a2 a3).trans (h.1 a a1 a2 a3), fun k k1 k3 k2 k4 => (h2.2 k k1 k3 k2 k4).trans (h.2 k k1 k3 k2 k4)⟩
theorem frM_5 {J : xc_M} {j : Nat} {v : Int32} : frM J (xc_wr J 5 j v) := ⟨fun a _ a2 _ => xp_wr_cell a2, fun k _ _ _ _ => by rw [xp_wr_cell (by omega)]⟩
section
variable {N M t : Nat} {c : Nat → Nat} {I J : xc_M} {x y : Tok} {r T : List Tok} {L : List LLine}
def lwS (L : List LLine) (I J : xc_M) : Prop := I 83 0 = nI L.length ∧ J 0 15 = nI L.length ∧ cC I ((sgs L).flatMap lenc) ∧ sS J (sgs L) ∧ lnR I J 0 0 0 L
theorem psI_84 {a j : Nat} {v : Int32} (ha : a < 132) (h : psI I T) : psI (xc_wr I a j v) T := psI_keep h (xp_wr_cell (by omega)) (fun b hb => xp_wr_cell (by omega))
theorem psJ_5 {rd a j : Nat} {v : Int32} (ha : a ≠ 0) (ha2 : a ≠ 10) (h : psJ c t rd J T) : psJ c t rd (xc_wr J a j v) T := psJ_keep h (xp_wr_cell (by omega)) (fun k _ => by rw [xp_wr_cell (by omega)])
theorem cC_84 {a j : Nat} {v : Int32} {C : List Int32} (ha : a ≠ 83) (ha2 : a ≠ 88) (h : cC I C) : cC (xc_wr I a j v) C := cC_keep (xp_wr_cell (by omega)) (by rw [xp_wr_cell (by omega)]) h
theorem sS_5 {a j : Nat} {v : Int32} {S : List (Nat × Int32)} (ha : a ≠ 0) (ha2 : a ≠ 6) (h : sS J S) : sS (xc_wr J a j v) S := sS_keep (xp_wr_cell (by omega)) (by rw [xp_wr_cell (by omega)]) h
theorem line_bad (hpI : psI I (x :: r)) (hpJ : psJ c t 1 J (x :: r)) (h : ¬ (104 ≤ x.1 ∧ x.1 ≤ 106)) : fX6_readLaw N M 83 I = some (nI 0, rfI I 1 x.2.1) ∧ fX10_aLine N M J = some (nI 0, bdJ J 1 x.2.1) := by
  have hk := psJ_k hpJ
  have htok := psJ_tok hpJ
  have q20 := tm_eq (rd := 1) (a := 20) (b := 104) (by decide +kernel) (by omega) hk (by omega)
  have q21 := tm_eq (rd := 1) (a := 21) (b := 105) (by decide +kernel) (by omega) hk (by omega)
  have q22 := tm_eq (rd := 1) (a := 22) (b := 106) (by decide +kernel) (by omega) hk (by omega)
  have hb := tm_b (rd := 1) (by omega) hk
  rw [xp_eq (by omega) (by omega)] at q20 q21 q22
  have e104 : (nI x.1 = (104 : Int32)) = (x.1 = 104) := xp_eq (b := 104) (by omega) (by omega)
  have e105 : (nI x.1 = (105 : Int32)) = (x.1 = 105) := xp_eq (b := 105) (by omega) (by omega)
  have e106 : (nI x.1 = (106 : Int32)) = (x.1 = 106) := xp_eq (b := 106) (by omega) (by omega)
  have hnin : ¬ (20 ≤ tm 1 x.1 ∧ tm 1 x.1 ≤ 22) := by
    intro z
    have hz : tm 1 x.1 = 20 ∨ tm 1 x.1 = 21 ∨ tm 1 x.1 = 22 := by omega
    rw [q20, q21, q22] at hz
    omega
  have hin := rv_isIn (v := tm 1 x.1) (a := 20) (c := 22) (by omega) (by omega) (by omega)
  rw [decide_eq_false hnin] at hin
  constructor
  · unfold fX6_readLaw
    exact e_cr (cv_kind hpI) (e_lt rfl (e_f (by rw [e104]; omega) (e_f (by rw [e105]; omega) (e_f (by rw [e106]; omega) (e_cl (cv_refuse hpI 1) rfl)))))
  · unfold fX10_aLine
    rw [htok]
    exact e_cr hin (e_f (fun z => z rfl) (e_cl (rv_bad hpJ 1) rfl))
/-- behind E and B: the line's end -/
theorem line_end (hN : 1000 ≤ N) {E B : List (Nat × Int32)} {Bd k : Nat} (hpI : psI I T) (hpJ : psJ c t 1 J T) (hL : L.length < 16) (h83 : I 83 0 = nI L.length) (h15 : J 0 15 = nI L.length) (hc : cC I ((sgs L ++ E ++ B).flatMap lenc)) (hs : sS J (sgs L ++ E ++ B)) {I0 J0 : xc_M} (hln : lnR I0 J0 0 0 0 L) (hI0 : ∀ a, a = 84 ∨ a = 85 ∨ a = 86 ∨ a = 87 → ∀ j, j < L.length → I a j = I0 a j) (hJ0 : ∀ j, j < 4 * L.length → J 5 j = J0 5 j) (h84 : I 84 L.length = nI (k + 84)) (h85 : I 85 L.length = nI ((sgs L).flatMap lenc).length) (h86 : I 86 L.length = nI (((sgs L).flatMap lenc).length + (E.flatMap lenc).length)) (g0 : J 5 (4 * L.length) = nI (sgs L).length) (g1 : J 5 (4 * L.length + 1) = nI ((sgs L).length + E.length)) (g3 : J 5 (4 * L.length + 3) = nI k) (hgd : lgd (k, E, B)) (hB : ((sgs L ++ E ++ B).flatMap lenc).length + T.length ≤ Bd) (hB2 : Bd ≤ 401) : ∃ (b : Bool) (I' J' : xc_M), bX6_readLaw_94 N M 83 I = some (nI b.toNat, I') ∧ bX10_aLine_123 N M J = some (nI b.toNat, J') ∧ frL I I' ∧ frM J J' ∧ (b = false → flt I' J') ∧ (b = true → ∃ T', T'.length < T.length ∧ psI I' T' ∧ psJ c t 1 J' T' ∧ I' 83 0 = nI (L.length + 1) ∧ J' 0 15 = nI L.length ∧ cC I' ((sgs (L ++ [(k, E, B)])).flatMap lenc) ∧ sS J' (sgs (L ++ [(k, E, B)])) ∧ lnR I' J' 0 0 0 (L ++ [(k, E, B)]) ∧ ((sgs (L ++ [(k, E, B)])).flatMap lenc).length + T'.length ≤ Bd) := by
  have hlen1 : ((sgs L ++ E ++ B).flatMap lenc).length = ((sgs L).flatMap lenc).length + (E.flatMap lenc).length + (B.flatMap lenc).length := by
    rw [List.flatMap_append, List.flatMap_append, List.length_append, List.length_append]
  have hlen2 : (sgs L ++ E ++ B).length = (sgs L).length + E.length + B.length := by
    rw [List.length_append, List.length_append]
  have hSl := enc_len (sgs L ++ E ++ B)
  have hclose : fX1_close 83 I = some (nI 0, xc_wr (xc_wr I 87 L.length (nI ((sgs L ++ E ++ B).flatMap lenc).length)) 83 0 (nI (L.length + 1))) := by
    unfold fX1_close
    rw [h83]
    refine e_f (by rw [show (16 : Int32) = nI 16 from rfl, xp_le (by omega) (by omega)]; omega) (e_st (k := L.length) rfl (by omega) hc.1 (e_mw (v := nI (L.length + 1)) ?_ rfl))
    rw [xp_wr_cell (by omega), h83]
    exact nI_add _ 1
  have hpI1 : psI (xc_wr (xc_wr I 87 L.length (nI ((sgs L ++ E ++ B).flatMap lenc).length)) 83 0 (nI (L.length + 1))) T := psI_84 (by omega) (psI_84 (by omega) hpI)
  have hpJ1 : psJ c t 1 (xc_wr J 5 (4 * L.length + 2) (nI (sgs L ++ E ++ B).length)) T := psJ_5 (by omega) (by omega) hpJ
  obtain ⟨b, I', J', t1, t2, t3, t4, t5, t6⟩ := take_sim hN (rd := 1) (a := 59) (a' := 159) (by decide +kernel) (by omega) (by omega) (by omega) hpI1 hpJ1
  refine ⟨b, I', J', ?_, ?_, fun a a1 a2 => ?_, ⟨fun a a1 a2 a3 => ?_, fun j j1 j2 j3 j4 => ?_⟩, t5, fun hb => ?_⟩
  · rw [bX6_readLaw_94]
    exact e_cv hclose (e_cl t1 (by cases b <;> rfl))
  · rw [bX10_aLine_123]
    refine e_st (k := 4 * L.length + 2) ?_ (by omega) hs.1 (e_cl t2 (by cases b <;> rfl))
    rw [h15]
    show nI 4 * nI L.length + nI 2 = _
    rw [pk_mul, nI_add]
  · rw [t3 a a2, xp_wr_cell (by omega), xp_wr_cell (by omega)]
  · rw [t4.1 a a1, xp_wr_cell a2]
  · rw [t4.2 j j4, xp_wr_cell (by omega)]
  · obtain ⟨y, r3, rfl, p1, p2⟩ := t6 hb
    rw [List.length_cons] at hB ⊢
    have w83 : I' 83 = _ := t3 83 (by omega)
    have hcell : ∀ a, a ≠ 132 → a ≠ 83 → a ≠ 87 → I' a = I a := fun a a1 a2 a3 => by rw [t3 a a1, xp_wr_cell a2, xp_wr_cell a3]
    have hJ5 : J' 5 = _ := t4.1 5 (by omega)
    refine ⟨r3, by omega, p1, p2, by rw [w83, xp_wr_s], by rw [t4.2 15 (by omega), xp_wr_cell (by omega)]; exact h15, ?_, ?_, ?_, ?_⟩
    · rw [sgs_app]
      exact cC_keep (hcell 88 (by omega) (by omega) (by omega)) (by rw [w83, xp_wr_k (by omega), xp_wr_cell (by omega)]) hc
    · rw [sgs_app]
      exact sS_keep (by rw [t4.1 6 (by omega), xp_wr_cell (by omega)]) (by rw [t4.2 16 (by omega), xp_wr_cell (by omega)]) hs
    · refine lnR_app (I := I0) (J := J0) (fun a ha j hj => ?_) (fun j hj => ?_) hln ⟨?_, ?_, ?_, ?_, ?_, ?_, ?_, ?_, hgd⟩
      · rw [Nat.zero_add] at hj
        by_cases h87 : a = 87
        · subst h87
          rw [t3 87 (by omega), xp_wr_cell (by omega), xp_wr_k (by omega)]
          exact hI0 87 (by omega) j hj
        · rw [hcell a (by omega) (by omega) h87]
          exact hI0 a ha j hj
      · rw [Nat.zero_add] at hj
        rw [hJ5, xp_wr_k (by omega)]
        exact hJ0 j hj
      · rw [Nat.zero_add, hcell 84 (by omega) (by omega) (by omega)]
        exact h84
      · rw [Nat.zero_add, Nat.zero_add, hcell 85 (by omega) (by omega) (by omega)]
        exact h85
      · rw [Nat.zero_add, Nat.zero_add, hcell 86 (by omega) (by omega) (by omega)]
        exact h86
      · rw [Nat.zero_add, Nat.zero_add, t3 87 (by omega), xp_wr_cell (by omega), xp_wr_s, hlen1]
      · rw [Nat.zero_add, Nat.zero_add, hJ5, xp_wr_k (by omega)]
        exact g0
      · rw [Nat.zero_add, Nat.zero_add, hJ5, xp_wr_k (by omega)]
        exact g1
      · rw [Nat.zero_add, Nat.zero_add, hJ5, xp_wr_s, hlen2]
      · rw [Nat.zero_add, hJ5, xp_wr_k (by omega)]
        exact g3
    · rw [sgs_app]
      show ((sgs L ++ E ++ B).flatMap lenc).length + r3.length ≤ Bd
      omega
end
