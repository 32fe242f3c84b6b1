-- ===== the reference reads a sum =====
/-- a step, but for what a fact's step carries along -/
def nrm (s : Nat × Int32) : Nat × Int32 := if s.1 = 0 ∨ s.1 = 26 then s else (s.1, 0)
theorem lrun_n (f : Nat → Int32) : ∀ (S : List (Nat × Int32)) (st : List Int32), lrun f (S.map nrm) st = lrun f S st := by
  intro S
  induction S with
  | nil => exact fun _ => rfl
  | cons s S ih =>
    intro st
    obtain ⟨a, v⟩ := s
    by_cases h0 : a = 0
    · subst h0
      show lrun f (S.map nrm) (v :: st) = lrun f S (v :: st)
      exact ih _
    · by_cases h26 : a = 26
      · subst h26
        cases st with
        | nil => rfl
        | cons x q => exact ih _
      · have e : nrm (a, v) = (a, 0) := by
          unfold nrm
          rw [if_neg]
          rintro (z | z)
          · exact h0 z
          · exact h26 z
        rw [List.map_cons, e]
        unfold lrun
        rw [if_neg h0, if_neg h0]
        by_cases h8 : a ≤ 8
        · rw [if_pos h8, if_pos h8]
          exact ih _
        · rw [if_neg h8, if_neg h8, if_neg h26, if_neg h26]
          by_cases h30 : a = 30
          · rw [if_pos h30, if_pos h30]
            cases st with
            | nil => rfl
            | cons x q => exact ih _
          · rw [if_neg h30, if_neg h30]
            cases st with
            | nil => rfl
            | cons y q =>
              cases q with
              | nil => rfl
              | cons x q => exact ih _
/-- steps S are laid (but for what facts carry) and L is ahead -/
def eS (c : Nat → Nat) (t : Nat) (J : xc_M) (S : List (Nat × Int32)) (L : List (Nat × Nat)) : Prop := psL c t 1 J L ∧ sS J S
section
variable {N t : Nat} {c : Nat → Nat} {J J' : xc_M} {k v : Nat} {L : List (Nat × Nat)} {S : List (Nat × Int32)}
theorem eS.nx (hN : 1000 ≤ N) (h : eS c t J S ((k, v) :: L)) (h0 : k ≠ 0) : ∃ J', fX10_next0 N J = some (nI 0, J') ∧ eS c t J' S L ∧ frF J J' := by
  obtain ⟨J', g1, g2, g3⟩ := psL_nx hN h.1 h0
  exact ⟨J', g1, ⟨g3, sS_n g2 h.2⟩, frF_n g2⟩
theorem eS.lay (a : Nat) (v : Int32) (h : eS c t J S L) (hl : S.length < 410) : ∃ J', fX10_lay (nI a) v J = some (nI 0, J') ∧ eS c t J' (S ++ [(a, v)]) L ∧ frF J J' := by
  obtain ⟨J', l1, l2, l3, l4⟩ := rv_lay (c := c) (t := t) a v h.2 hl
  obtain ⟨T, t1, t2⟩ := h.1
  exact ⟨J', l1, ⟨⟨T, l4 T t1, t2⟩, l2⟩, l3⟩
abbrev Un : Type := Nat × Nat
def okU (u : Un) : Prop := u.1 = 2 ∨ (108 ≤ u.1 ∧ u.1 < 116)
def cU (u : Un) : Nat × Int32 := if u.1 = 2 then (0, nI u.2) else (u.1 - 107, 0)
theorem eS.unit {u : Un} (hN : 1000 ≤ N) (h : eS c t J S (u :: L)) (hu : okU u) (hl : S.length < 410) : ∃ J' s, fX10_unit N J = some (nI 1, J') ∧ eS c t J' (S ++ [s]) L ∧ nrm s = cU u ∧ frF J J' := by
  obtain ⟨k, v⟩ := u
  obtain ⟨x, r, h1, h2, h3, h4⟩ := psL_cons h.1
  obtain ⟨J', w, g1, g2, g3, g4⟩ := rv_unit hN h1 h.2 hl (by rw [h2]; exact hu)
  refine ⟨J', uS x w, g1, ⟨⟨r, g2, h4⟩, g3⟩, ?_, g4⟩
  unfold uS cU
  rw [h2, h3]
  by_cases e : k = 2
  · rw [if_pos e, if_pos e]
    rfl
  · rw [if_neg e, if_neg e]
    have hk : 108 ≤ k ∧ k < 116 := hu.resolve_left e
    unfold nrm
    rw [if_neg]
    show ¬ (k - 107 = 0 ∨ k - 107 = 26)
    omega
abbrev Fac : Type := Nat × Un
def okF (x : Fac) : Prop := (x.1 = 42 ∧ okU x.2) ∨ (x.1 = 47 ∧ x.2.1 = 2 ∧ x.2.2 ≠ 0)
def tF (x : Fac) : List (Nat × Nat) := [(x.1, 0), x.2]
def cF (x : Fac) : List (Nat × Int32) := if x.1 = 42 then [cU x.2, (25, 0)] else [(26, nI x.2.2)]
/-- what a reader leaves -/
def rdQ (c : Nat → Nat) (t : Nat) (J : xc_M) (S C : List (Nat × Int32)) (L : List (Nat × Nat)) (J2 : xc_M) : Prop := ∃ U, eS c t J2 (S ++ U) L ∧ U.map nrm = C ∧ frF J J2
theorem rdQ.len {C : List (Nat × Int32)} {J2 : xc_M} (h : rdQ c t J S C L J2) : ∃ S', eS c t J2 S' L ∧ S'.length = S.length + C.length := by
  obtain ⟨U, h1, h2, h3⟩ := h
  refine ⟨S ++ U, h1, ?_⟩
  rw [List.length_append, ← h2, List.length_map]
theorem rdQ.trans {C D : List (Nat × Int32)} {L2 : List (Nat × Nat)} {U : List (Nat × Int32)} {J2 : xc_M} (h1 : U.map nrm = C) (h2 : frF J J') (h : rdQ c t J' (S ++ U) D L2 J2) : rdQ c t J S (C ++ D) L2 J2 := by
  obtain ⟨V, q1, q2, q3⟩ := h
  rw [List.append_assoc] at q1
  exact ⟨U ++ V, q1, by rw [List.map_append, h1, q2], frF_t h2 q3⟩
theorem nrm_op {a : Nat} (h0 : a ≠ 0) (h26 : a ≠ 26) : nrm (a, 0) = (a, 0) := by
  unfold nrm
  rw [if_neg]
  rintro (z | z)
  · exact h0 z
  · exact h26 z
theorem cF_len (x : Fac) : 1 ≤ (cF x).length := by
  unfold cF
  split <;> simp
theorem tok_ne {a b k : Nat} (ht : J 0 20 = nI (tm 1 k)) (hc : tmc 1 a b = true) (hk : k < 200) (ha : a < 1000) (h : k ≠ b) : ¬ J 0 20 = nI a := by
  rw [ht, tq a b hc ha hk]
  exact h
theorem tok_eq {a b k : Nat} (ht : J 0 20 = nI (tm 1 k)) (hc : tmc 1 a b = true) (hk : k < 200) (ha : a < 1000) (h : k = b) : J 0 20 = nI a := by
  rw [ht, tq a b hc ha hk]
  exact h
theorem prod_run (hN : 1000 ≤ N) (hk : k ≠ 42 ∧ k ≠ 47) : ∀ (fs : List Fac) (f : Nat) (J : xc_M) (S : List (Nat × Int32)), fs.length < f → (∀ x, x ∈ fs → okF x) → S.length + (fs.flatMap cF).length < 400 → eS c t J S (fs.flatMap tF ++ (k, v) :: L) → ∃ J2, lX10_product_9 N f J = some (nI 1, J2) ∧ rdQ c t J S (fs.flatMap cF) ((k, v) :: L) J2 := by
  intro fs
  induction fs with
  | nil =>
    intro f J S hf _ _ h
    obtain ⟨f, rfl⟩ : ∃ g, f = g + 1 := ⟨f - 1, by rw [List.length_nil] at hf; omega⟩
    have h' : eS c t J S ((k, v) :: L) := h
    obtain ⟨ht, h200⟩ := psL_tok h'.1
    refine ⟨J, ?_, [], by rw [List.append_nil]; exact h', rfl, frF_r J⟩
    rw [lX10_product_9, bX10_product_9]
    exact e_f (tok_ne ht (a := 142) (b := 42) (by decide +kernel) h200 (by omega) hk.1) (e_t (tok_ne ht (a := 147) (b := 47) (by decide +kernel) h200 (by omega) hk.2) rfl)
  | cons x fs ih =>
    intro f J S hf hok hl h
    obtain ⟨f, rfl⟩ : ∃ g, f = g + 1 := ⟨f - 1, by rw [List.length_cons] at hf; omega⟩
    rw [List.length_cons] at hf
    have hx := hok x List.mem_cons_self
    have hfs : ∀ y, y ∈ fs → okF y := fun y hy => hok y (List.mem_cons_of_mem _ hy)
    have ec : (x :: fs).flatMap cF = cF x ++ fs.flatMap cF := rfl
    rw [ec, List.length_append] at hl
    have h' : eS c t J S ((x.1, 0) :: (x.2 :: (fs.flatMap tF ++ (k, v) :: L))) := h
    obtain ⟨ht, h200⟩ := psL_tok h'.1
    rw [ec, lX10_product_9, bX10_product_9]
    rcases hx with ⟨e42, hu⟩ | ⟨e47, e2, e0⟩
    · obtain ⟨J1, g1, g2, g3⟩ := h'.nx hN (by omega)
      have hlc : (cF x).length = 2 := by unfold cF; rw [if_pos e42]; rfl
      obtain ⟨J2, s, u1, u2, u3, u4⟩ := g2.unit hN hu (by omega)
      obtain ⟨J3, l1, l2, l3⟩ := u2.lay 25 0 (by rw [List.length_append]; show S.length + 1 < 410; omega)
      rw [List.append_assoc] at l2
      obtain ⟨J4, p1, p2⟩ := ih f J3 (S ++ ([s] ++ [(25, 0)])) (by omega) hfs (by rw [List.length_append]; show S.length + 2 + _ < 400; omega) l2
      refine ⟨J4, ?_, rdQ.trans (U := [s] ++ [(25, 0)]) ?_ (frF_t g3 (frF_t u4 l3)) p2⟩
      · refine e_t (tok_eq ht (a := 142) (b := 42) (by decide +kernel) h200 (by omega) e42) ?_
        rw [bX10_product_29]
        refine e_t (tok_ne ht (a := 147) (b := 47) (by decide +kernel) h200 (by omega) (by omega)) ?_
        rw [bX10_product_44]
        refine e_lt rfl (e_cv g1 (e_t rfl (e_cl u1 (e_t (by decide) (e_cv l1 ?_)))))
        rw [bX10_product_112]
        exact p1
      · unfold cF
        rw [if_pos e42]
        show [nrm s, nrm (25, 0)] = _
        rw [u3, nrm_op (by omega) (by omega)]
    · obtain ⟨J1, g1, g2, g3⟩ := h'.nx hN (by omega)
      obtain ⟨u1, u2⟩ := x.2
      have hlc : (cF x).length = 1 := by unfold cF; rw [if_neg (by omega)]; rfl
      have g2' : eS c t J1 S ((2, x.2.2) :: (fs.flatMap tF ++ (k, v) :: L)) := by
        have : x.2 = (2, x.2.2) := by rw [← e2]
        rw [this] at g2
        exact g2
      obtain ⟨w1, w2⟩ := psL_val g2'.1
      obtain ⟨wt, -⟩ := psL_tok g2'.1
      obtain ⟨J2, n1, n2, n3⟩ := g2'.nx hN (by omega)
      obtain ⟨J3, l1, l2, l3⟩ := n2.lay 26 (nI x.2.2) (by omega)
      obtain ⟨J4, p1, p2⟩ := ih f J3 (S ++ [(26, nI x.2.2)]) (by omega) hfs (by rw [List.length_append]; show S.length + 1 + _ < 400; omega) l2
      refine ⟨J4, ?_, rdQ.trans (U := [(26, nI x.2.2)]) ?_ (frF_t g3 (frF_t n3 l3)) p2⟩
      · refine e_f (tok_ne ht (a := 142) (b := 42) (by decide +kernel) h200 (by omega) (by omega)) (e_f (fun z => z (tok_eq ht (a := 147) (b := 47) (by decide +kernel) h200 (by omega) e47)) ?_)
        rw [bX10_product_29]
        refine e_f (fun z => z (tok_eq ht (a := 147) (b := 47) (by decide +kernel) h200 (by omega) e47)) ?_
        rw [bX10_product_44]
        refine e_lt rfl (e_cv g1 (e_f (by decide) (e_lt w1 (e_t (wt.trans rfl) (e_t ?_ (e_cv n1 (e_cv l1 ?_)))))))
        · rw [show (0 : Int32) = nI 0 from rfl, ne_eq, xp_eq (by omega) (by omega)]
          exact e0
        · rw [bX10_product_112]
          exact p1
      · unfold cF
        rw [if_neg (by omega)]
        rfl
abbrev Prd : Type := Un × List Fac
def okP (p : Prd) : Prop := okU p.1 ∧ ∀ x, x ∈ p.2 → okF x
def tP (p : Prd) : List (Nat × Nat) := p.1 :: p.2.flatMap tF
def cP (p : Prd) : List (Nat × Int32) := cU p.1 :: p.2.flatMap cF
theorem prod_all (hN : 1000 ≤ N) (hk : k ≠ 42 ∧ k ≠ 47) {p : Prd} (hp : okP p) (hf : p.2.length < 900) (hl : S.length + (cP p).length < 400) (h : eS c t J S (tP p ++ (k, v) :: L)) : ∃ J2, fX10_product N J = some (nI 1, J2) ∧ rdQ c t J S (cP p) ((k, v) :: L) J2 := by
  have e : (cP p).length = (p.2.flatMap cF).length + 1 := rfl
  have h' : eS c t J S (p.1 :: (p.2.flatMap tF ++ (k, v) :: L)) := h
  obtain ⟨J1, s, u1, u2, u3, u4⟩ := h'.unit hN hp.1 (by omega)
  obtain ⟨J2, g1, g2⟩ := prod_run hN hk p.2 N J1 (S ++ [s]) (by omega) hp.2 (by rw [List.length_append]; show S.length + 1 + _ < 400; omega) u2
  have e2 : cP p = [cU p.1] ++ p.2.flatMap cF := rfl
  rw [e2]
  refine ⟨J2, ?_, rdQ.trans (U := [s]) ?_ u4 g2⟩
  · unfold fX10_product
    exact e_cl u1 (e_t (by decide) g1)
  · show [nrm s] = [cU p.1]
    rw [u3]
abbrev Sgp : Type := Nat × Prd
def okG (x : Sgp) : Prop := (x.1 = 43 ∨ x.1 = 45) ∧ okP x.2 ∧ x.2.2.length < 900
def tG2 (x : Sgp) : List (Nat × Nat) := (x.1, 0) :: tP x.2
def cG (x : Sgp) : List (Nat × Int32) := cP x.2 ++ [(if x.1 = 43 then 23 else 24, 0)]
theorem sum_run (hN : 1000 ≤ N) (hk : (k ≠ 42 ∧ k ≠ 47) ∧ k ≠ 43 ∧ k ≠ 45) : ∀ (gs : List Sgp) (f : Nat) (J : xc_M) (S : List (Nat × Int32)), gs.length < f → (∀ x, x ∈ gs → okG x) → S.length + (gs.flatMap cG).length < 400 → eS c t J S (gs.flatMap tG2 ++ (k, v) :: L) → ∃ J2, lX10_sumUp_9 N f J = some (nI 1, J2) ∧ rdQ c t J S (gs.flatMap cG) ((k, v) :: L) J2 := by
  intro gs
  induction gs with
  | nil =>
    intro f J S hf _ _ h
    obtain ⟨f, rfl⟩ : ∃ g, f = g + 1 := ⟨f - 1, by rw [List.length_nil] at hf; omega⟩
    have h' : eS c t J S ((k, v) :: L) := h
    obtain ⟨ht, h200⟩ := psL_tok h'.1
    refine ⟨J, ?_, [], by rw [List.append_nil]; exact h', rfl, frF_r J⟩
    rw [lX10_sumUp_9, bX10_sumUp_9]
    exact e_f (tok_ne ht (a := 143) (b := 43) (by decide +kernel) h200 (by omega) hk.2.1) (e_t (tok_ne ht (a := 145) (b := 45) (by decide +kernel) h200 (by omega) hk.2.2) rfl)
  | cons x gs ih =>
    intro f J S hf hok hl h
    obtain ⟨f, rfl⟩ : ∃ g, f = g + 1 := ⟨f - 1, by rw [List.length_cons] at hf; omega⟩
    rw [List.length_cons] at hf
    obtain ⟨hs, hp, hpl⟩ := hok x List.mem_cons_self
    have hgs : ∀ y, y ∈ gs → okG y := fun y hy => hok y (List.mem_cons_of_mem _ hy)
    have ec : (x :: gs).flatMap cG = cG x ++ gs.flatMap cG := rfl
    have el : (cG x).length = (cP x.2).length + 1 := by unfold cG; rw [List.length_append]; rfl
    rw [ec, List.length_append] at hl
    obtain ⟨k2, v2, L2, hL2, hk2⟩ : ∃ k2 v2 L2, gs.flatMap tG2 ++ (k, v) :: L = (k2, v2) :: L2 ∧ (k2 ≠ 42 ∧ k2 ≠ 47) := by
      cases gs with
      | nil => exact ⟨k, v, L, rfl, hk.1⟩
      | cons y gs =>
        have := (hgs y List.mem_cons_self).1
        exact ⟨y.1, 0, _, rfl, by omega, by omega⟩
    have h' : eS c t J S ((x.1, 0) :: (tP x.2 ++ (k2, v2) :: L2)) := by
      rw [← hL2, ← List.append_assoc]
      have e3 : (x :: gs).flatMap tG2 ++ (k, v) :: L = (x.1, 0) :: (tP x.2 ++ gs.flatMap tG2 ++ (k, v) :: L) := by
        show ((x.1, 0) :: tP x.2 ++ gs.flatMap tG2) ++ (k, v) :: L = _
        rfl
      rw [e3] at h
      exact h
    obtain ⟨ht, h200⟩ := psL_tok h'.1
    obtain ⟨J1, g1, g2, g3⟩ := h'.nx hN (by omega)
    obtain ⟨J2, p1, U, p2, p3, p4⟩ := prod_all hN hk2 hp hpl (by omega) g2
    have hU : U.length = (cP x.2).length := by rw [← p3, List.length_map]
    obtain ⟨J3, l1, l2, l3⟩ := p2.lay (if x.1 = 43 then 23 else 24) 0 (by rw [List.length_append]; omega)
    rw [List.append_assoc, ← hL2] at l2
    obtain ⟨J4, q1, q2⟩ := ih f J3 (S ++ (U ++ [(if x.1 = 43 then 23 else 24, 0)])) (by omega) hgs (by rw [List.length_append, List.length_append]; show S.length + (U.length + 1) + _ < 400; omega) l2
    refine ⟨J4, ?_, ?_⟩
    · rw [lX10_sumUp_9, bX10_sumUp_9]
      rcases hs with e43 | e45
      · rw [if_pos e43] at l1
        refine e_t (tok_eq ht (a := 143) (b := 43) (by decide +kernel) h200 (by omega) e43) ?_
        rw [bX10_sumUp_29]
        refine e_f (fun z => z (tok_eq ht (a := 143) (b := 43) (by decide +kernel) h200 (by omega) e43)) ?_
        rw [bX10_sumUp_46]
        exact e_lt rfl (e_cv g1 (e_cl p1 (e_t (by decide) (e_cv l1 q1))))
      · rw [if_neg (by omega)] at l1
        refine e_f (tok_ne ht (a := 143) (b := 43) (by decide +kernel) h200 (by omega) (by omega)) (e_f (fun z => z (tok_eq ht (a := 145) (b := 45) (by decide +kernel) h200 (by omega) e45)) ?_)
        rw [bX10_sumUp_29]
        refine e_t (tok_ne ht (a := 143) (b := 43) (by decide +kernel) h200 (by omega) (by omega)) ?_
        rw [bX10_sumUp_46]
        exact e_lt rfl (e_cv g1 (e_cl p1 (e_t (by decide) (e_cv l1 q1))))
    · rw [ec]
      refine rdQ.trans (U := U ++ [(if x.1 = 43 then 23 else 24, 0)]) ?_ (frF_t g3 (frF_t p4 l3)) q2
      unfold cG
      rw [List.map_append, p3]
      show _ ++ [nrm _] = _
      rw [nrm_op (by split <;> omega) (by split <;> omega)]
abbrev Sm : Type := Prd × List Sgp
def okM (m : Sm) : Prop := okP m.1 ∧ m.1.2.length < 900 ∧ (∀ x, x ∈ m.2 → okG x) ∧ m.2.length < 900
def tM (m : Sm) : List (Nat × Nat) := tP m.1 ++ m.2.flatMap tG2
def cM (m : Sm) : List (Nat × Int32) := cP m.1 ++ m.2.flatMap cG
theorem sum_all (hN : 1000 ≤ N) (hk : (k ≠ 42 ∧ k ≠ 47) ∧ k ≠ 43 ∧ k ≠ 45) {m : Sm} (hm : okM m) (hl : S.length + (cM m).length < 400) (h : eS c t J S (tM m ++ (k, v) :: L)) : ∃ J2, fX10_sumUp N J = some (nI 1, J2) ∧ rdQ c t J S (cM m) ((k, v) :: L) J2 := by
  obtain ⟨h1, h2, h3, h4⟩ := hm
  have el : (cM m).length = (cP m.1).length + (m.2.flatMap cG).length := by unfold cM; rw [List.length_append]
  obtain ⟨k2, v2, L2, hL2, hk2⟩ : ∃ k2 v2 L2, m.2.flatMap tG2 ++ (k, v) :: L = (k2, v2) :: L2 ∧ (k2 ≠ 42 ∧ k2 ≠ 47) := by
    cases hm2 : m.2 with
    | nil => exact ⟨k, v, L, rfl, hk.1⟩
    | cons y gs =>
      have := (h3 y (by rw [hm2]; exact List.mem_cons_self)).1
      exact ⟨y.1, 0, _, rfl, by omega, by omega⟩
  have h' : eS c t J S (tP m.1 ++ (k2, v2) :: L2) := by
    rw [← hL2, ← List.append_assoc]
    exact h
  obtain ⟨J1, p1, U, p2, p3, p4⟩ := prod_all hN hk2 h1 h2 (by omega) h'
  have hU : U.length = (cP m.1).length := by rw [← p3, List.length_map]
  rw [← hL2] at p2
  obtain ⟨J2, q1, q2⟩ := sum_run hN hk m.2 N J1 (S ++ U) (by omega) h3 (by rw [List.length_append]; omega) p2
  refine ⟨J2, ?_, rdQ.trans p3 p4 q2⟩
  unfold fX10_sumUp
  exact e_cl p1 (e_t (by decide) q1)
end
