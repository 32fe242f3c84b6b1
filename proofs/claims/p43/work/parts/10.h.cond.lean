-- ===== texts: B, A, C =====
def fr1 (I I' : xc_M) : Prop := ∀ a, a ≠ 132 → I' a = I a
def fr2 (J J' : xc_M) : Prop := (∀ a, a ≠ 0 → J' a = J a) ∧ ∀ k, k < 19 ∨ 24 < k → J' 0 k = J 0 k
theorem fr1_E {I I' : xc_M} (h : fr1 I I') : frE I I' := ⟨fun a _ _ a3 => h a a3, by rw [h 83 (by omega)]⟩
theorem fr2_F {J J' : xc_M} (h : fr2 J J') : frF J J' := ⟨fun a a1 _ => h.1 a a1, fun k _ k2 => h.2 k k2⟩
theorem fr2_n {J J' : xc_M} (h : nfr J J') : fr2 J J' := ⟨h.1, fun k hk => h.2 k (by omega) (by omega) (by omega) (by omega)⟩
theorem fr2_bd (J : xc_M) (v p : Nat) : fr2 J (bdJ J v p) := ⟨fun a a1 => by unfold bdJ; rw [xp_wr_cell a1, xp_wr_cell a1], fun k k2 => by unfold bdJ; rw [xp_wr_k (by omega), xp_wr_k (by omega)]⟩
theorem fr1_rf (I : xc_M) (v p : Nat) : fr1 I (rfI I v p) := fun a ha => by unfold rfI; rw [xp_wr_cell ha, xp_wr_cell ha]
theorem fr1_nx (I : xc_M) : fr1 I (nxI I) := fun a ha => xp_wr_cell ha
theorem fr1_t {I K L : xc_M} (h : fr1 I K) (h2 : fr1 K L) : fr1 I L := fun a ha => (h2 a ha).trans (h a ha)
theorem fr2_t {I K L : xc_M} (h : fr2 I K) (h2 : fr2 K L) : fr2 I L := ⟨fun a ha => (h2.1 a ha).trans (h.1 a ha), fun k hk => (h2.2 k hk).trans (h.2 k hk)⟩
section
variable {N t rd : Nat} {c : Nat → Nat} {I J : xc_M} {x y : Tok} {r T : List Tok} {S : List (Nat × Int32)}
theorem take_sim (hN : 1000 ≤ N) {a a' : Nat} (ht : tmc rd a' a = true) (ha' : a' < 1000) (ha : a ≠ 0) (ha2 : a < 1000) (hpI : psI I T) (hpJ : psJ c t rd J T) : ∃ (b : Bool) (I' J' : xc_M), fX6_take (nI a) I = some (nI b.toNat, I') ∧ fX10_need N (nI a') J = some (nI b.toNat, J') ∧ fr1 I I' ∧ fr2 J J' ∧ (b = false → flt I' J') ∧ (b = true → ∃ x r, T = x :: r ∧ psI I' r ∧ psJ c t rd J' r) := by
  obtain ⟨x, r, rfl⟩ := psJ_ne hpJ
  have hk := psJ_k hpJ
  have htok := psJ_tok hpJ
  have hq := tm_eq ht hpJ.2.2.1 hk ha'
  have hkq : (nI x.1 = nI a) = (x.1 = a) := xp_eq (by omega) (by omega)
  unfold fX6_take fX10_need
  by_cases h : x.1 = a
  · obtain ⟨J', n1, n2, n3⟩ := psJ_nx hN hpJ (by omega)
    exact ⟨true, nxI I, J', e_cr (cv_kind hpI) (e_t (by rw [hkq]; exact h) (e_mw rfl rfl)), e_t (by rw [htok, hq]; exact h) (e_cv n1 rfl), fr1_nx _, fr2_n n2, (fun z => by cases z), fun _ => ⟨x, r, rfl, psI_nx hpI, n3⟩⟩
  · exact ⟨false, _, _, e_cr (cv_kind hpI) (e_f (by rw [hkq]; exact h) (e_cl (cv_refuse hpI 1) rfl)), e_f (by rw [htok, hq]; exact h) (e_cl (rv_bad hpJ 1) rfl), fr1_rf _ _ _, fr2_bd _ _ _, fun _ => flt_mk _ _, fun z => by cases z⟩
def frG (J J' : xc_M) : Prop := (∀ a, a ≠ 0 → a ≠ 6 → J' a = J a) ∧ ∀ k, k ≠ 16 → k ≠ 26 → k < 19 ∨ 24 < k → J' 0 k = J 0 k
theorem frG_F {J J' : xc_M} (h : frF J J') : frG J J' := ⟨h.1, fun k k1 _ k2 => h.2 k k1 k2⟩
theorem frG_t {I K L : xc_M} (h : frG I K) (h2 : frG K L) : frG I L := ⟨fun a a1 a2 => (h2.1 a a1 a2).trans (h.1 a a1 a2), fun k k1 k3 k2 => (h2.2 k k1 k3 k2).trans (h.2 k k1 k3 k2)⟩
theorem frG_26 (J : xc_M) (v : Int32) : frG J (xc_wr J 0 26 v) := ⟨fun a a1 _ => xp_wr_cell a1, fun k _ k2 _ => xp_wr_k k2⟩
theorem lty_cmp {s : Nat} {v : Int32} {q : List Bool} (h : q.length < 22) (hs : s = 27 ∨ s = 28 ∨ s = 29) : ltyp [(s, v)] (false :: false :: q) = some (true :: q) := by
  rcases hs with z | z | z <;> subst z <;> simp [ltyp, h] <;> omega
theorem lty_log {s : Nat} {v : Int32} {q : List Bool} (h : q.length < 22) (hs : s = 31 ∨ s = 32) : ltyp [(s, v)] (true :: true :: q) = some (true :: q) := by
  rcases hs with z | z <;> subst z <;> simp [ltyp, h] <;> omega
theorem lty_not {v : Int32} {q : List Bool} (h : q.length < 23) : ltyp [(30, v)] (true :: q) = some (true :: q) := by
  simp [ltyp, h]
/-- a reader of C -/
def cdS (c : Nat → Nat) (t N M1 M2 n op : Nat) : Prop := ∀ (T : List Tok) (I J : xc_M) (S : List (Nat × Int32)) (st0 : List Bool) (B : Nat), T.length ≤ n → psI I T → psJ c t 1 J T → cC I (S.flatMap lenc) → sS J S → J 0 26 = nI op → (S.flatMap lenc).length + T.length ≤ B → B ≤ 401 → st0.length ≤ 2 * op + 2 → ∃ (b : Bool) (I' J' : xc_M), zX6_readCondition N M1 0 83 (nI op) I = some (nI b.toNat, I') ∧ zX10_any N M2 2 J = some (nI b.toNat, J') ∧ frE I I' ∧ frG J J' ∧ (b = false → flt I' J') ∧ (b = true → J' 0 26 = nI op ∧ okE c t S B T.length st0 (true :: st0) I' J')
/-- a reader of B -/
def esS (c : Nat → Nat) (t N M1 M2 n op : Nat) : Prop := ∀ (T : List Tok) (I J : xc_M) (S : List (Nat × Int32)) (st0 : List Bool) (B : Nat), T.length ≤ n → psI I T → psJ c t 1 J T → cC I (S.flatMap lenc) → sS J S → J 0 26 = nI op → (S.flatMap lenc).length + T.length ≤ B → B ≤ 401 → st0.length ≤ 2 * op → ∃ (b : Bool) (I' J' : xc_M), zX6_readCondition N M1 1 83 (nI op) I = some (nI b.toNat, I') ∧ zX10_any N M2 0 J = some (nI b.toNat, J') ∧ frE I I' ∧ frG J J' ∧ (b = false → flt I' J') ∧ (b = true → J' 0 26 = nI op ∧ okE c t S B T.length st0 (true :: st0) I' J')
/-- one more cell, one more step -/
theorem emit_lay {cell : Int32} {s B m m' : Nat} {p q q' : List Bool} (h : okE c t S B m p q I J) (hle : lenc (s, 0) = [cell]) (hB : B ≤ 400) (hm : m ≤ m') (hty : ltyp [(s, (0 : Int32))] q = some q') : ∃ I1 J1, fX1_emit 83 cell I = some (nI 0, I1) ∧ fX10_lay (nI s) 0 J = some (nI 0, J1) ∧ frE I I1 ∧ frF J J1 ∧ okE c t S (B + 1) m' p q' I1 J1 := by
  obtain ⟨T', U, h1, h2, h3, h4, h5, h6, h7⟩ := h
  obtain ⟨x, r, rfl⟩ := psJ_ne h3
  rw [List.length_cons] at h7
  have hSl := enc_len (S ++ U)
  obtain ⟨I1, a1, a2, a3, a4⟩ := cv_emit cell h4 (by omega)
  obtain ⟨J1, b1, b2, b3, b4⟩ := rv_lay (c := c) (t := t) s 0 h5 (by omega)
  refine ⟨I1, J1, a1, b1, a3, b3, x :: r, U ++ [(s, 0)], by omega, a4 _ h2, b4 _ h3, ?_, ?_, ?_, ?_⟩
  · rw [← List.append_assoc, List.flatMap_append, List.flatMap_cons, hle]
    exact a2
  · rw [← List.append_assoc]
    exact b2
  · rw [ltyp_app h6]
    exact hty
  · rw [← List.append_assoc, List.flatMap_append, List.flatMap_cons, hle, List.length_append, List.length_cons]
    show (List.flatMap lenc (S ++ U)).length + ([].length + 1) + (r.length + 1) ≤ B + 1
    rw [List.length_nil]
    omega
theorem okE_B {B B' m m' : Nat} {p q : List Bool} (h : okE c t S B m p q I J) (hB : B ≤ B') (hm : m ≤ m') : okE c t S B' m' p q I J := by
  obtain ⟨T', U, h1, h2, h3, h4, h5, h6, h7⟩ := h
  exact ⟨T', U, by omega, h2, h3, h4, h5, h6, by omega⟩
/-- A: behind its first C -/
theorem every_loop (hN : 1000 ≤ N) {M1 M2 n op : Nat} (hC : cdS c t N M1 M2 n op) (hop : op ≤ 8) (k2 : Int32 → Int32 → xc_M → Option (Int32 × xc_M)) (rc re : Nat → Int32 → xc_M → Option (Int32 × xc_M)) (r0 r1 r2 : xc_M → Option (Int32 × xc_M)) (hrc : rc = zX6_readCondition N M1 0) (hr2 : r2 = zX10_any N M2 2) (v3 : Int32) : ∀ m (T : List Tok) (I J : xc_M) (S : List (Nat × Int32)) (st0 : List Bool) (B fu f v4 : Nat), T.length ≤ m → m ≤ n → psI I T → psJ c t 1 J T → cC I (S.flatMap lenc) → sS J S → J 0 26 = nI op → (S.flatMap lenc).length + T.length ≤ B → B ≤ 401 → st0.length ≤ 2 * op + 1 → v4 + T.length ≤ 401 → T.length < fu → T.length < f → ∃ (b : Bool) (I' J' : xc_M), lX6_readEither_23 N rc re 83 k2 fu (nI op) v3 (nI v4) I = (if b = true then bX6_readEither_74 N rc re 83 k2 (nI op) v3 I' else some (nI 0, I')) ∧ lX10_every_9 N r0 r1 r2 f J = some (nI b.toNat, J') ∧ frE I I' ∧ frG J J' ∧ (b = false → flt I' J') ∧ (b = true → J' 0 26 = nI op ∧ okE c t S B (T.length + 1) (true :: st0) (true :: st0) I' J') := by
  intro m
  induction m with
  | zero =>
    intro T I J S st0 B fu f v4 hm hmn hpI hpJ
    obtain ⟨x, r, rfl⟩ := psJ_ne hpJ
    rw [List.length_cons] at hm
    omega
  | succ m ih =>
    intro T I J S st0 B fu f v4 hm hmn hpI hpJ hc hs h26 hB hB2 hst hv4 hfu hf
    obtain ⟨x, r, rfl⟩ := psJ_ne hpJ
    obtain ⟨g, rfl⟩ : ∃ g, fu = g + 1 := ⟨fu - 1, by omega⟩
    obtain ⟨g2, rfl⟩ : ∃ g, f = g + 1 := ⟨f - 1, by omega⟩
    have hk := psJ_k hpJ
    have htok := psJ_tok hpJ
    rw [List.length_cons] at hm hB hv4 hfu hf
    have q5 := tq 5 102 (by decide +kernel) (by omega) hk
    have e102 : (nI x.1 = (102 : Int32)) = (x.1 = 102) := xp_eq (b := 102) (by omega) (by omega)
    rw [lX6_readEither_23, bX6_readEither_23, lX10_every_9, bX10_every_9, htok]
    have h400 : ¬ (400 : Int32) < nI v4 := by rw [show (400 : Int32) = nI 400 from rfl, xp_ltI (by omega) (by omega)]; omega
    by_cases h : x.1 = 102
    · obtain ⟨J1, n1, n2, n3⟩ := psJ_nx hN hpJ (by omega)
      obtain ⟨b, I2, J2, c1, c2, c3, c4, c5, c6⟩ := hC r (nxI I) J1 S (true :: st0) (B - 1) (by omega) (psI_nx hpI) n3 (cC_nx hc) (sS_n n2 hs) ((n2.2 26 (by omega) (by omega) (by omega) (by omega)).trans h26) (by omega) (by omega) (by rw [List.length_cons]; omega)
      have hR : lX10_every_9 N r0 r1 r2 (g2 + 1) J = lX10_every_9 N r0 r1 r2 (g2 + 1) J := rfl
      cases b with
      | false =>
        refine ⟨false, I2, J2, e_f h400 (e_cr (cv_kind hpI) (e_f (by rw [ne_eq, e102]; exact fun z => z h) (e_mw rfl (e_cl (by rw [hrc]; exact c1) (e_f (fun z => z rfl) rfl))))), e_f (by rw [show (5 : Int32) = nI 5 from rfl, ne_eq, q5]; exact fun z => z h) (e_cv n1 (e_cl (by rw [hr2]; exact c2) (e_f (fun z => z rfl) rfl))), frE_t (frE_nx _) c3, frG_t (frG_F (frF_n n2)) c4, c5, fun z => by cases z⟩
      | true =>
        obtain ⟨d26, hok⟩ := c6 rfl
        obtain ⟨I3, J3, e1, e2, e3, e4, e5⟩ := emit_lay (cell := 20102) (s := 31) (m' := r.length) hok rfl (by omega) (Nat.le_refl _) (lty_log (q := st0) (by omega) (by omega))
        obtain ⟨T3, U3, o1, o2, o3, o4, o5, o6, o7⟩ := e5
        have d26' : J3 0 26 = nI op := (e4.2 26 (by omega) (by omega)).trans d26
        obtain ⟨b, I4, J4, f1, f2, f3, f4, f5, f6⟩ := ih T3 I3 J3 (S ++ U3) st0 (B - 1 + 1) g g2 (v4 + 1) (by omega) (by omega) o2 o3 o4 o5 d26' o7 (by omega) hst (by omega) (by omega) (by omega)
        refine ⟨b, I4, J4, e_f h400 (e_cr (cv_kind hpI) (e_f (by rw [ne_eq, e102]; exact fun z => z h) (e_mw rfl (e_cl (by rw [hrc]; exact c1) (e_t (by decide) (e_cv e1 (e_lt (nI_add v4 1) f1))))))), e_f (by rw [show (5 : Int32) = nI 5 from rfl, ne_eq, q5]; exact fun z => z h) (e_cv n1 (e_cl (by rw [hr2]; exact c2) (e_t (by decide) (e_cv e2 f2)))), frE_t (frE_nx _) (frE_t c3 (frE_t e3 f3)), frG_t (frG_F (frF_n n2)) (frG_t c4 (frG_t (frG_F e4) f4)), f5, fun hb => ⟨(f6 hb).1, okE_B (okE_app (f6 hb).2 (Nat.le_refl _) o6) (by omega) (by rw [List.length_cons]; omega)⟩⟩
    · refine ⟨true, I, J, ?_, e_t (by rw [show (5 : Int32) = nI 5 from rfl, ne_eq, q5]; exact h) rfl, frE_r _, frG_F (frF_r _), (fun z => by cases z), fun _ => ⟨h26, x :: r, [], by rw [List.length_cons]; omega, hpI, hpJ, by rw [List.append_nil]; exact hc, by rw [List.append_nil]; exact hs, rfl, by rw [List.append_nil, List.length_cons]; exact hB⟩⟩
      rw [if_pos btt]
      exact e_f h400 (e_cr (cv_kind hpI) (e_t (by rw [ne_eq, e102]; exact h) rfl))
def pn' (k : Nat) (st : List Bool) : List Bool := if k = 0 then st else true :: st
/-- B from here: its first A (v3 = 0), or behind or -/
def rE (N f v3 : Nat) (r0 r1 r2 : xc_M → Option (Int32 × xc_M)) (J : xc_M) : Option (Int32 × xc_M) := xc_cl (r1 J) fun x1 I2 => (if x1 ≠ (0 : Int32) then (if v3 = 0 then (lX10_any_9 N r0 r1 r2 f I2) else xc_cv (fX10_lay 32 0 I2) fun I6 => (lX10_any_9 N r0 r1 r2 f I6)) else some (0, I2))
theorem either_loop (hN : 1000 ≤ N) {M1 M2 n op : Nat} (hC : cdS c t N M1 M2 n op) (hop : op ≤ 8) (re : Nat → Int32 → xc_M → Option (Int32 × xc_M)) (r0 r2' : xc_M → Option (Int32 × xc_M)) : ∀ m (T : List Tok) (I J : xc_M) (S : List (Nat × Int32)) (st0 : List Bool) (B fu f v3 : Nat), T.length ≤ m → m ≤ n → psI I T → psJ c t 1 J T → cC I (S.flatMap lenc) → sS J S → J 0 26 = nI op → (S.flatMap lenc).length + pc v3 + T.length ≤ B → B ≤ 401 → st0.length ≤ 2 * op → v3 + T.length ≤ 401 → T.length < fu → T.length < f → ∃ (b : Bool) (I' J' : xc_M), lX6_readEither_2 N (zX6_readCondition N M1 0) re 83 fu (nI op) (nI v3) I = some (nI b.toNat, I') ∧ rE N f v3 r0 (zX10_any N (M2 + 1) 1) r2' J = some (nI b.toNat, J') ∧ frE I I' ∧ frG J J' ∧ (b = false → flt I' J') ∧ (b = true → J' 0 26 = nI op ∧ okE c t S B T.length (pn' v3 st0) (true :: st0) I' J') := by
  intro m
  induction m with
  | zero =>
    intro T I J S st0 B fu f v3 hm hmn hpI hpJ
    obtain ⟨x, r, rfl⟩ := psJ_ne hpJ
    rw [List.length_cons] at hm
    omega
  | succ m ih =>
    intro T I J S st0 B fu f v3 hm hmn hpI hpJ hc hs h26 hB hB2 hst hv3 hfu hf
    obtain ⟨g, rfl⟩ : ∃ g, fu = g + 1 := ⟨fu - 1, by omega⟩
    have hT1 : 1 ≤ T.length := by
      obtain ⟨x, r, rfl⟩ := psJ_ne hpJ
      rw [List.length_cons]
      omega
    have h400 : ¬ (400 : Int32) < nI v3 := by rw [show (400 : Int32) = nI 400 from rfl, xp_ltI (by omega) (by omega)]; omega
    have hpcv : pc v3 ≤ 1 := by unfold pc; split <;> omega
    have hpnl : (pn' v3 st0).length ≤ 2 * op + 1 := by
      unfold pn'
      split
      · omega
      · rw [List.length_cons]
        omega
    have hr1 : ∀ K, zX10_any N (M2 + 1) 1 K = xc_cl (zX10_any N M2 2 K) fun x1 I2 => (if x1 ≠ (0 : Int32) then (lX10_every_9 N (zX10_any N M2 0) (zX10_any N M2 1) (zX10_any N M2 2) N I2) else some (0, I2)) := fun K => rfl
    obtain ⟨b, I1, J1, c1, c2, c3, c4, c5, c6⟩ := hC T I J S (pn' v3 st0) (B - pc v3) (by omega) hpI hpJ hc hs h26 (by omega) (by omega) (by omega)
    rw [lX6_readEither_2, bX6_readEither_2]
    cases b with
    | false =>
      refine ⟨false, I1, J1, e_f h400 (e_cl c1 (e_f (fun z => z rfl) rfl)), ?_, c3, c4, c5, fun z => by cases z⟩
      unfold rE
      rw [hr1]
      exact e_cl (e_cl c2 (e_f (fun z => z rfl) rfl)) (e_f (fun z => z rfl) rfl)
    | true =>
      obtain ⟨d26, T1, U1, o1, o2, o3, o4, o5, o6, o7⟩ := c6 rfl
      obtain ⟨b, I2, J2, f1, f2, f3, f4, f5, f6⟩ := every_loop hN hC hop (lX6_readEither_2 N (zX6_readCondition N M1 0) re 83 g) (zX6_readCondition N M1 0) re (zX10_any N M2 0) (zX10_any N M2 1) (zX10_any N M2 2) rfl rfl (nI v3) T1.length T1 I1 J1 (S ++ U1) (pn' v3 st0) (B - pc v3) N N 0 (Nat.le_refl _) (by omega) o2 o3 o4 o5 d26 o7 (by omega) hpnl (by omega) (by omega) (by omega)
      have hrf : ∀ v, zX10_any N (M2 + 1) 1 J = some (v, J2) ↔ some (nI b.toNat, J2) = some (v, J2) := by
        intro v
        rw [hr1, show zX10_any N M2 2 J = some (nI true.toNat, J1) from c2]
        show lX10_every_9 N (zX10_any N M2 0) (zX10_any N M2 1) (zX10_any N M2 2) N J1 = some (v, J2) ↔ _
        rw [f2]
      have hcl : ∀ R, (if b = true then bX6_readEither_74 N (zX6_readCondition N M1 0) re 83 (lX6_readEither_2 N (zX6_readCondition N M1 0) re 83 g) (nI op) (nI v3) I2 else some (nI 0, I2)) = R → (if (400 : Int32) < nI v3 then some (0, I) else xc_cl (zX6_readCondition N M1 0 83 (nI op) I) fun x2 I3 => (if x2 ≠ (0 : Int32) then xc_lt 0 fun v4_4 => (lX6_readEither_23 N (zX6_readCondition N M1 0) re 83 (lX6_readEither_2 N (zX6_readCondition N M1 0) re 83 g) N (nI op) (nI v3) v4_4 I3) else some (0, I3))) = R := by
        intro R hR
        exact e_f h400 (e_cl c1 (e_t (by decide) (e_lt rfl (f1.trans hR))))
      cases b with
      | false =>
        refine ⟨false, I2, J2, hcl _ (by rw [if_neg bff]; rfl), ?_, frE_t c3 f3, frG_t c4 f4, f5, fun z => by cases z⟩
        unfold rE
        exact e_cl ((hrf (nI 0)).mpr rfl) (e_f (fun z => z rfl) rfl)
      | true =>
        obtain ⟨e26, hok⟩ := f6 rfl
        have hok2 := okE_app hok (m := T1.length + 1) (Nat.le_refl _) o6
        -- the or that waits
        have hor : ∃ I3 J3, bX6_readEither_74 N (zX6_readCondition N M1 0) re 83 (lX6_readEither_2 N (zX6_readCondition N M1 0) re 83 g) (nI op) (nI v3) I2 = bX6_readEither_85 N (zX6_readCondition N M1 0) re 83 (lX6_readEither_2 N (zX6_readCondition N M1 0) re 83 g) (nI op) (nI v3) I3 ∧ rE N f v3 r0 (zX10_any N (M2 + 1) 1) r2' J = lX10_any_9 N r0 (zX10_any N (M2 + 1) 1) r2' f J3 ∧ frE I2 I3 ∧ frG J2 J3 ∧ J3 0 26 = nI op ∧ okE c t S B (T1.length + 1) (pn' v3 st0) (true :: st0) I3 J3 := by
          unfold rE
          by_cases h0 : v3 = 0
          · refine ⟨I2, J2, ?_, e_cl ((hrf (nI 1)).mpr rfl) (e_t (by decide) (e_t h0 rfl)), frE_r _, frG_F (frF_r _), e26, ?_⟩
            · rw [bX6_readEither_74, h0]
              exact e_t (by decide) rfl
            · have hp0 : pc v3 = 0 := by unfold pc; rw [if_pos h0]
              have hn0 : pn' v3 st0 = st0 := by unfold pn'; rw [if_pos h0]
              rw [hp0] at hok2
              rw [hn0] at hok2 ⊢
              exact hok2
          · have hp1 : pc v3 = 1 := by unfold pc; rw [if_neg h0]
            have hn1 : pn' v3 st0 = true :: st0 := by unfold pn'; rw [if_neg h0]
            rw [hp1] at hok2
            rw [hn1] at hok2
            obtain ⟨I3, J3, e1, e2, e3, e4, e5⟩ := emit_lay (cell := 20101) (s := 32) (m' := T1.length + 1) hok2 rfl (by omega) (Nat.le_refl _) (lty_log (q := st0) (by omega) (by omega))
            refine ⟨I3, J3, ?_, e_cl ((hrf (nI 1)).mpr rfl) (e_t (by decide) (e_f h0 (e_cv e2 rfl))), e3, frG_F e4, (e4.2 26 (by omega) (by omega)).trans e26, ?_⟩
            · rw [bX6_readEither_74]
              refine e_f ?_ (e_cv e1 rfl)
              rw [show (0 : Int32) = nI 0 from rfl, xp_le (by omega) (by omega)]
              omega
            · rw [hn1]
              exact okE_B e5 (by omega) (Nat.le_refl _)
        obtain ⟨I3, J3, k1, k2, k3, k4, k5, T3, U3, p1, p2, p3, p4, p5, p6, p7⟩ := hor
        obtain ⟨y, r3, rfl⟩ := psJ_ne p3
        have hky := psJ_k p3
        have htoky := psJ_tok p3
        have q4 := tq 4 101 (by decide +kernel) (by omega) hky
        have e101 : (nI y.1 = (101 : Int32)) = (y.1 = 101) := xp_eq (b := 101) (by omega) (by omega)
        obtain ⟨f', rfl⟩ : ∃ m, f = m + 1 := ⟨f - 1, by omega⟩
        rw [List.length_cons] at p1 p7
        rw [k2, lX10_any_9, bX10_any_9, htoky]
        by_cases hy : y.1 = 101
        · obtain ⟨J4, n1, n2, n3⟩ := psJ_nx hN p3 (by omega)
          have hpv : pc (v3 + 1) = 1 := by unfold pc; rw [if_neg (by omega)]
          have hpv2 : pn' (v3 + 1) st0 = true :: st0 := by unfold pn'; rw [if_neg (by omega)]
          obtain ⟨b, I5, J5, s1, s2, s3, s4, s5, s6⟩ := ih r3 (nxI I3) J4 (S ++ U3) st0 B g f' (v3 + 1) (by omega) (by omega) (psI_nx p2) n3 (cC_nx p4) (sS_n n2 p5) ((n2.2 26 (by omega) (by omega) (by omega) (by omega)).trans k5) (by omega) hB2 hst (by omega) (by omega) (by omega)
          rw [hpv2] at s6
          refine ⟨b, I5, J5, hcl _ ?_, ?_, frE_t c3 (frE_t f3 (frE_t k3 (frE_t (frE_nx _) s3))), frG_t c4 (frG_t f4 (frG_t k4 (frG_t (frG_F (frF_n n2)) s4))), s5, fun hb => ⟨(s6 hb).1, okE_app (s6 hb).2 (by omega) p6⟩⟩
          · rw [if_pos btt, k1, bX6_readEither_85]
            exact e_cr (cv_kind p2) (e_t (by rw [e101]; exact hy) (e_mw rfl (e_lt (nI_add v3 1) s1)))
          · refine e_f (by rw [show (4 : Int32) = nI 4 from rfl, ne_eq, q4]; exact fun z => z hy) (e_cv n1 ?_)
            unfold rE at s2
            cases hz : zX10_any N (M2 + 1) 1 J4 with
            | none =>
              rw [hz] at s2
              cases s2
            | some q =>
              rw [hz] at s2
              refine e_cl (v := q.1) (J := q.2) rfl ?_
              replace s2 : (if q.1 ≠ (0 : Int32) then (if v3 + 1 = 0 then (lX10_any_9 N r0 (zX10_any N (M2 + 1) 1) r2' f' q.2) else xc_cv (fX10_lay 32 0 q.2) fun I6 => (lX10_any_9 N r0 (zX10_any N (M2 + 1) 1) r2' f' I6)) else some (0, q.2)) = some (nI b.toNat, J5) := s2
              rw [if_neg (show ¬ v3 + 1 = 0 by omega)] at s2
              exact s2
        · refine ⟨true, I3, J3, hcl _ ?_, e_t (by rw [show (4 : Int32) = nI 4 from rfl, ne_eq, q4]; exact hy) rfl, frE_t c3 (frE_t f3 k3), frG_t c4 (frG_t f4 k4), (fun z => by cases z), fun _ => ⟨k5, y :: r3, U3, by rw [List.length_cons]; omega, p2, p3, p4, p5, p6, by rw [List.length_cons]; exact p7⟩⟩
          rw [if_pos btt, k1, bX6_readEither_85]
          exact e_cr (cv_kind p2) (e_f (by rw [e101]; exact hy) rfl)
end
