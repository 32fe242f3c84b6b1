-- ===== texts: both readers at a token =====
abbrev Tok : Type := Nat × Nat × Nat
def psA (I : xc_M) (T : List Tok) : Prop := ∃ i, I 132 3 = nI i ∧ I 132 2 = nI (i + T.length) ∧ i + T.length ≤ 401 ∧ tabs I i T
/-- no FAULT so far -/
def psI (I : xc_M) (T : List Tok) : Prop := psA I T ∧ I 132 0 = nI 0 ∧ I 132 1 = mI
def hdJ (c : Nat → Nat) (t rd : Nat) (J : xc_M) : List Tok → Prop
  | [] => False
  | x :: r => J 0 20 = nI (tm rd x.1) ∧ J 0 21 = nI x.2.1 ∧ (x.1 = 2 → J 0 22 = nI x.2.2) ∧ x.1 < 200 ∧ x.2.1 ≤ 400 ∧ x.2.2 < 10000 ∧ (x.1 = 0 → r = []) ∧ (x.1 ≠ 0 → ∃ e f, J 0 19 = nI e ∧ e ≤ t ∧ t - e ≤ f ∧ r = lexF c t f e)
def psJ (c : Nat → Nat) (t rd : Nat) (J : xc_M) (T : List Tok) : Prop := TQ t c J ∧ J 0 14 = nI rd ∧ rd < 4 ∧ hdJ c t rd J T
/-- one token on -/
def nxI (I : xc_M) : xc_M := xc_wr I 132 3 (I 132 3 + 1)
theorem tabs_132 {I : xc_M} {j : Nat} {v : Int32} {k : Nat} {T : List Tok} (h : tabs I k T) : tabs (xc_wr I 132 j v) k T := tabs_keep (fun a ha i _ => by rw [xp_wr_cell (by omega)]) h
section
variable {N t rd : Nat} {c : Nat → Nat} {I J : xc_M} {x : Tok} {r T : List Tok}
theorem psA_nx (h : psA I (x :: r)) : psA (nxI I) r := by
  obtain ⟨i, h1, h2, h3, h4⟩ := h
  rw [List.length_cons] at h2 h3
  refine ⟨i + 1, ?_, ?_, by omega, tabs_132 h4.2.2.2⟩
  · unfold nxI
    rw [xp_wr_s, h1]
    exact nI_add i 1
  · unfold nxI
    rw [xp_wr_k (by omega), h2]
    congr 1
    omega
theorem psI_nx (h : psI I (x :: r)) : psI (nxI I) r := ⟨psA_nx h.1, by unfold nxI; rw [xp_wr_k (by omega)]; exact h.2.1, by unfold nxI; rw [xp_wr_k (by omega)]; exact h.2.2⟩
theorem psA_keep {I' : xc_M} (h : psA I T) (h2 : I' 132 2 = I 132 2) (h3 : I' 132 3 = I 132 3) (ht : ∀ a, a = 133 ∨ a = 134 ∨ a = 135 → I' a = I a) : psA I' T := by
  obtain ⟨i, i1, i2, i3, i4⟩ := h
  exact ⟨i, h3.trans i1, h2.trans i2, i3, tabs_keep (fun a ha j _ => by rw [ht a ha]) i4⟩
theorem psI_keep {I' : xc_M} (h : psI I T) (h2 : I' 132 = I 132) (ht : ∀ a, a = 133 ∨ a = 134 ∨ a = 135 → I' a = I a) : psI I' T := ⟨psA_keep h.1 (by rw [h2]) (by rw [h2]) ht, by rw [h2]; exact h.2.1, by rw [h2]; exact h.2.2⟩
theorem psI_132 {j : Nat} {v : Int32} (h : psI I T) (hj : 3 < j) : psI (xc_wr I 132 j v) T := ⟨psA_keep h.1 (xp_wr_k (by omega)) (xp_wr_k (by omega)) (fun a ha => xp_wr_cell (by omega)), by rw [xp_wr_k (by omega)]; exact h.2.1, by rw [xp_wr_k (by omega)]; exact h.2.2⟩
theorem cv_kind (h : psI I (x :: r)) : fX6_kind I = some (nI x.1) := by
  obtain ⟨i, h1, h2, h3, h4⟩ := h.1
  rw [List.length_cons] at h2 h3
  unfold fX6_kind
  rw [h1, h2]
  refine e_f (nI_pos (by omega)) (e_f (by rw [xp_le (by omega) (by omega)]; omega) (e_t ?_ (e_rd (k := i) rfl (by omega) h4.1 rfl)))
  rw [show (400 : Int32) = nI 400 from rfl, xp_le (by omega) (by omega)]
  omega
theorem cv_place (h : psA I (x :: r)) : fX6_ofNext 134 I = some (nI x.2.1) := by
  obtain ⟨i, h1, h2, h3, h4⟩ := h
  rw [List.length_cons] at h2 h3
  unfold fX6_ofNext
  rw [h1, h2]
  refine e_f (nI_pos (by omega)) (e_f (by rw [xp_le (by omega) (by omega)]; omega) (e_t ?_ (e_rd (k := i) rfl (by omega) h4.2.1 rfl)))
  rw [xp_ltI (by omega) (by omega)]
  omega
theorem cv_tval (h : psI I (x :: r)) : fX6_ofNext 135 I = some (nI x.2.2) := by
  obtain ⟨i, h1, h2, h3, h4⟩ := h.1
  rw [List.length_cons] at h2 h3
  unfold fX6_ofNext
  rw [h1, h2]
  refine e_f (nI_pos (by omega)) (e_f (by rw [xp_le (by omega) (by omega)]; omega) (e_t ?_ (e_rd (k := i) rfl (by omega) h4.2.2.1 rfl)))
  rw [xp_ltI (by omega) (by omega)]
  omega
/-- where a FAULT is told -/
def rfI (I : xc_M) (v p : Nat) : xc_M := xc_wr (xc_wr I 132 0 (nI v)) 132 1 (nI p)
theorem cv_refuse (h : psI I (x :: r)) (v : Nat) : fX6_refuse (nI v) I = some (nI 0, rfI I v x.2.1) := by
  have h2 : psA (xc_wr I 132 0 (nI v)) (x :: r) := psA_keep h.1 (xp_wr_k (by omega)) (xp_wr_k (by omega)) (fun a ha => xp_wr_cell (by omega))
  unfold fX6_refuse
  exact e_mw rfl (e_cr (cv_place h2) (e_mw rfl rfl))
def bdJ (J : xc_M) (v p : Nat) : xc_M := xc_wr (xc_wr J 0 23 (nI v)) 0 24 (nI p)
theorem rv_bad (h : psJ c t rd J (x :: r)) (v : Nat) : fX10_bad (nI v) J = some (nI 0, bdJ J v x.2.1) := by
  unfold fX10_bad
  refine e_mw rfl (e_mw (v := nI x.2.1) ?_ rfl)
  rw [xp_wr_k (by omega)]
  exact h.2.2.2.2.1
theorem psJ_nx (hN : 1000 ≤ N) (h : psJ c t rd J (x :: r)) (h0 : x.1 ≠ 0) : ∃ J', fX10_next0 N J = some (nI 0, J') ∧ nfr J J' ∧ psJ c t rd J' r := by
  obtain ⟨h1, h2, h3, h4, h5, h6, h7, h8, h9, h10, h11⟩ := h
  obtain ⟨e, f, e1, e2, e3, e4⟩ := h11 h0
  obtain ⟨J', j1, j2, j3⟩ := rv_next (N := N) hN h3 h1 h2 e1 e2
  have ht := h1.2.1
  refine ⟨J', j1, j2, TQ_n h1 j2, (j2.2 14 (by omega) (by omega) (by omega) (by omega)).trans h2, h3, ?_⟩
  have hsp := ruP_spec isBl c (t - e) e
  have hend : ∀ q, q = ruP isBl c (t - e) e → t ≤ q → hdJ c t rd J' [(0, t, 0)] := by
    intro q hq htq
    have hqt : q = t := by omega
    obtain ⟨n1, n2, _⟩ := j3
    rw [← hq, hqt] at n1 n2
    exact ⟨n2 (Nat.le_refl _), n1, fun z => absurd z (show ¬ (0 : Nat) = 2 by decide), (show (0 : Nat) < 200 by decide), ht, (show (0 : Nat) < 10000 by decide), fun _ => rfl, fun z => absurd rfl z⟩
  subst e4
  cases f with
  | zero =>
    have hz : t - e = 0 := by omega
    refine hend _ rfl ?_
    rw [hz]
    show t ≤ e
    omega
  | succ f =>
    show hdJ c t rd J' (if t ≤ ruP isBl c (t - e) e then [(0, t, 0)] else (tkK c t (ruP isBl c (t - e) e), ruP isBl c (t - e) e, tkV c t (ruP isBl c (t - e) e)) :: lexF c t f (tkE c t (ruP isBl c (t - e) e)))
    by_cases htq : t ≤ ruP isBl c (t - e) e
    · rw [if_pos htq]
      exact hend _ rfl htq
    · rw [if_neg htq]
      obtain ⟨n1, _, n3⟩ := j3
      generalize ruP isBl c (t - e) e = q at *
      obtain ⟨a1, a2, a3⟩ := n3 (by omega)
      obtain ⟨k1, k2, k3⟩ := tkK_ok c (show q < t by omega) (h1.2.2 q (by omega)).1
      obtain ⟨g1, g2⟩ := tkE_gt c (show q < t by omega)
      have g3 : t - tkE c t q ≤ f := by clear h11; omega
      have g4 : q ≤ 400 := by clear h11; omega
      exact ⟨a1, n1, a3, k2, g4, k3, fun z => absurd z k1, fun _ => ⟨tkE c t q, f, a2, g2, g3, rfl⟩⟩
theorem psJ_first {e f : Nat} (hN : 1000 ≤ N) (h1 : TQ t c J) (h2 : J 0 14 = nI rd) (h3 : rd < 4) (e1 : J 0 19 = nI e) (e2 : e ≤ t) (e3 : t - e ≤ f) : ∃ J', fX10_next0 N J = some (nI 0, J') ∧ nfr J J' ∧ psJ c t rd J' (lexF c t f e) := by
  have hf2 := nfr_wr (v := nI (tm rd 1)) (nfr_wr (v := nI 0) (nfr_refl J) (show (21 : Nat) = 19 ∨ (21 : Nat) = 20 ∨ (21 : Nat) = 21 ∨ (21 : Nat) = 22 by omega)) (show (20 : Nat) = 19 ∨ (20 : Nat) = 20 ∨ (20 : Nat) = 21 ∨ (20 : Nat) = 22 by omega)
  obtain ⟨J', j1, j2, j3⟩ := rv_next (N := N) hN h3 h1 h2 e1 e2
  have ht := h1.2.1
  refine ⟨J', j1, j2, TQ_n h1 j2, (j2.2 14 (by omega) (by omega) (by omega) (by omega)).trans h2, h3, ?_⟩
  have hsp := ruP_spec isBl c (t - e) e
  have hend : ∀ q, q = ruP isBl c (t - e) e → t ≤ q → hdJ c t rd J' [(0, t, 0)] := by
    intro q hq htq
    have hqt : q = t := by omega
    obtain ⟨n1, n2, _⟩ := j3
    rw [← hq, hqt] at n1 n2
    exact ⟨n2 (Nat.le_refl _), n1, fun z => absurd z (show ¬ (0 : Nat) = 2 by decide), (show (0 : Nat) < 200 by decide), ht, (show (0 : Nat) < 10000 by decide), fun _ => rfl, fun z => absurd rfl z⟩
  cases f with
  | zero =>
    have hz : t - e = 0 := by omega
    refine hend _ rfl ?_
    rw [hz]
    show t ≤ e
    omega
  | succ f =>
    show hdJ c t rd J' (if t ≤ ruP isBl c (t - e) e then [(0, t, 0)] else (tkK c t (ruP isBl c (t - e) e), ruP isBl c (t - e) e, tkV c t (ruP isBl c (t - e) e)) :: lexF c t f (tkE c t (ruP isBl c (t - e) e)))
    by_cases htq : t ≤ ruP isBl c (t - e) e
    · rw [if_pos htq]
      exact hend _ rfl htq
    · rw [if_neg htq]
      obtain ⟨n1, _, n3⟩ := j3
      generalize ruP isBl c (t - e) e = q at *
      obtain ⟨a1, a2, a3⟩ := n3 (by omega)
      obtain ⟨k1, k2, k3⟩ := tkK_ok c (show q < t by omega) (h1.2.2 q (by omega)).1
      obtain ⟨g1, g2⟩ := tkE_gt c (show q < t by omega)
      have g3 : t - tkE c t q ≤ f := by omega
      have g4 : q ≤ 400 := by omega
      exact ⟨a1, n1, a3, k2, g4, k3, fun z => absurd z k1, fun _ => ⟨tkE c t q, f, a2, g2, g3, rfl⟩⟩
theorem psJ_r (h : psJ c t rd J (x :: r)) (h0 : x.1 ≠ 0) : r ≠ [] := by
  obtain ⟨h1, h2, h3, h4, h5, h6, h7, h8, h9, h10, h11⟩ := h
  obtain ⟨e, f, e1, e2, e3, e4⟩ := h11 h0
  rw [e4]
  cases f with
  | zero => exact fun z => by cases z
  | succ f =>
    show (if t ≤ ruP isBl c (t - e) e then [(0, t, 0)] else _) ≠ []
    split <;> exact fun z => by cases z
theorem psJ_keep {J' : xc_M} (h : psJ c t rd J T) (h10 : J' 10 = J 10) (hk : ∀ k, k = 14 ∨ k = 18 ∨ k = 19 ∨ k = 20 ∨ k = 21 ∨ k = 22 → J' 0 k = J 0 k) : psJ c t rd J' T := by
  obtain ⟨⟨a1, a2, a3⟩, h2, h3, h4⟩ := h
  refine ⟨⟨(hk 18 (by omega)).trans a1, a2, fun j hj => ⟨(a3 j hj).1, by rw [h10]; exact (a3 j hj).2⟩⟩, (hk 14 (by omega)).trans h2, h3, ?_⟩
  cases T with
  | nil => exact h4
  | cons x r =>
    obtain ⟨b1, b2, b3, b4, b5, b6, b7, b8⟩ := h4
    exact ⟨(hk 20 (by omega)).trans b1, (hk 21 (by omega)).trans b2, fun z => (hk 22 (by omega)).trans (b3 z), b4, b5, b6, b7, fun z => by
      obtain ⟨e, f, e1, e2⟩ := b8 z
      exact ⟨e, f, (hk 19 (by omega)).trans e1, e2⟩⟩
theorem psJ_tok (h : psJ c t rd J (x :: r)) : J 0 20 = nI (tm rd x.1) := h.2.2.2.1
theorem psJ_k (h : psJ c t rd J (x :: r)) : x.1 < 200 := h.2.2.2.2.2.2.1
theorem psJ_v (h : psJ c t rd J (x :: r)) : x.2.2 < 10000 := h.2.2.2.2.2.2.2.2.1
theorem psJ_val (h : psJ c t rd J (x :: r)) (h2 : x.1 = 2) : J 0 22 = nI x.2.2 := h.2.2.2.2.2.1 h2
theorem psJ_ne (h : psJ c t rd J T) : ∃ x r, T = x :: r := by
  cases T with
  | nil => exact absurd h.2.2.2 (fun z => z)
  | cons x r => exact ⟨x, r, rfl⟩
end
/-- in text rd the reference says a just where the class says b -/
def tmc (rd a b : Nat) : Bool := (List.range 200).all fun k => decide (tm rd k = a) == decide (k = b)
theorem tm_lt : (List.range 4).all (fun rd => (List.range 200).all fun k => decide (tm rd k < 1000)) = true := by decide +kernel
theorem tm_b {rd k : Nat} (hr : rd < 4) (hk : k < 200) : tm rd k < 1000 := of_decide_eq_true (List.all_eq_true.mp (List.all_eq_true.mp tm_lt rd (List.mem_range.mpr hr)) k (List.mem_range.mpr hk))
theorem tm_eq {rd a b k : Nat} (h : tmc rd a b = true) (hr : rd < 4) (hk : k < 200) (ha : a < 1000) : (nI (tm rd k) = nI a) = (k = b) := by
  have h1 := tm_b hr hk
  have h2 := eq_of_beq (List.all_eq_true.mp h k (List.mem_range.mpr hk))
  rw [xp_eq (by omega) (by omega)]
  exact propext (decide_eq_decide.mp h2)
/-- the FAULT is the same on both sides -/
def flt (I J : xc_M) : Prop := I 132 0 = J 0 23 ∧ I 132 1 = J 0 24
theorem flt_mk {I J : xc_M} (v p : Nat) : flt (rfI I v p) (bdJ J v p) := by
  unfold rfI bdJ
  exact ⟨by rw [xp_wr_k (by omega), xp_wr_s, xp_wr_k (by omega), xp_wr_s], by rw [xp_wr_s, xp_wr_s]⟩
