-- ===== a text of pieces is cut so =====
theorem rnd_c (p : Pc) (P : List Pc) : rnd (p :: P) = rn1 p ++ rnd P := rfl
theorem tks_c (p : Pc) (P : List Pc) : tks (p :: P) = tk1 p ++ tks P := rfl
theorem rnd_a (P Q : List Pc) : rnd (P ++ Q) = rnd P ++ rnd Q := List.flatMap_append
theorem tks_a (P Q : List Pc) : tks (P ++ Q) = tks P ++ tks Q := List.flatMap_append
/-- what stands at the head of a piece -/
theorem rn1_hd {l : Nat} {p : Pc} {P : List Pc} (h : wfB l (p :: P) = true) (hn : p.1 = 1 → p.2.1 < 1000) : ∃ c, (rn1 p)[0]? = some c ∧ c < 128 ∧ ((p.1 = 0 ∧ l ≠ 1 ∧ isL c = true) ∨ (p.1 = 1 ∧ l ≠ 2 ∧ isD c = true) ∨ (p.1 ≠ 0 ∧ p.1 ≠ 1 ∧ isL c = false ∧ isD c = false)) := by
  unfold wfB at h
  rw [Bool.and_eq_true] at h
  have h1 := h.1
  by_cases c0 : p.1 = 0
  · rw [if_pos c0, Bool.and_eq_true, Bool.and_eq_true] at h1
    obtain ⟨⟨a1, a2⟩, a3⟩ := h1
    have e : rn1 p = p.2.2 := by unfold rn1; rw [if_pos c0]
    rw [e]
    cases hw : p.2.2 with
    | nil =>
      rw [hw] at a2
      exact absurd a2 (by decide)
    | cons x w =>
      rw [hw, List.all_cons, Bool.and_eq_true, Bool.and_eq_true] at a3
      refine ⟨x, rfl, of_decide_eq_true a3.1.2, Or.inl ⟨c0, fun z => ?_, a3.1.1⟩⟩
      rw [z] at a1
      exact absurd a1 (by decide)
  · rw [if_neg c0] at h1
    by_cases c1 : p.1 = 1
    · rw [if_pos c1] at h1
      have e : rn1 p = dec p.2.1 := by unfold rn1; rw [if_neg c0, if_pos c1]
      rw [e]
      have hwl : 0 < (dec p.2.1).length := List.length_pos_iff.mpr (dec_ne _)
      have hg : (dec p.2.1)[0]? = some ((dec p.2.1)[0]) := List.getElem?_eq_getElem hwl
      obtain ⟨d1, d2⟩ := dec_d (hn c1) (List.mem_of_getElem? hg)
      refine ⟨_, hg, d2, Or.inr (Or.inl ⟨c1, fun z => ?_, d1⟩)⟩
      rw [z] at h1
      exact absurd h1 (by decide)
    · rw [if_neg c1, Bool.or_eq_true, Bool.and_eq_true] at h1
      have e : rn1 p = [p.2.1] := by unfold rn1; rw [if_neg c0, if_neg c1]
      rw [e]
      rcases h1 with h1 | ⟨h1, h2⟩
      · have e32 := of_decide_eq_true h1
        rw [e32]
        exact ⟨32, rfl, by decide, Or.inr (Or.inr ⟨c0, c1, by decide, by decide⟩)⟩
      · have h128 := of_decide_eq_true h2
        obtain ⟨b1, b2, b3⟩ := (ld_c h128).2.2.1 h1
        exact ⟨p.2.1, rfl, h128, Or.inr (Or.inr ⟨c0, c1, b1, b2⟩)⟩
theorem rnd_nxt {P : List Pc} (hn : nmB P) : (wfB 1 P = true → nxt isL (rnd P)) ∧ (wfB 2 P = true → nxt isD (rnd P)) := by
  cases P with
  | nil => exact ⟨fun _ c hc => by simp [rnd] at hc, fun _ c hc => by simp [rnd] at hc⟩
  | cons p P =>
    have hp : p.1 = 1 → p.2.1 < 1000 := fun h => hn p List.mem_cons_self h
    refine ⟨fun h c hc => ?_, fun h c hc => ?_⟩
    · obtain ⟨x, x1, x2, x3⟩ := rn1_hd h hp
      rw [rnd_c, List.getElem?_append_left (List.getElem?_eq_some_iff.mp x1).1, x1] at hc
      rw [← Option.some.inj hc]
      rcases x3 with ⟨_, z, _⟩ | ⟨_, _, z⟩ | ⟨_, _, z, _⟩
      · exact absurd rfl z
      · exact ((ld_c x2).2.1 z).1
      · exact z
    · obtain ⟨x, x1, x2, x3⟩ := rn1_hd h hp
      rw [rnd_c, List.getElem?_append_left (List.getElem?_eq_some_iff.mp x1).1, x1] at hc
      rw [← Option.some.inj hc]
      rcases x3 with ⟨_, _, z⟩ | ⟨_, z, _⟩ | ⟨_, _, _, z⟩
      · exact ((ld_c x2).1 z).1
      · exact absurd rfl z
      · exact z
theorem lx_all : ∀ (P : List Pc) (l : Nat), wfB l P = true → nmB P → LX (rnd P) (tks P ++ [(0, 0)]) := by
  intro P
  induction P with
  | nil => exact fun _ _ _ => LX.nil
  | cons p P ih =>
    intro l h hn
    have hnP : nmB P := fun q hq => hn q (List.mem_cons_of_mem _ hq)
    have hp : p.1 = 1 → p.2.1 < 1000 := fun z => hn p List.mem_cons_self z
    have h' := h
    unfold wfB at h'
    rw [Bool.and_eq_true] at h'
    obtain ⟨h1, h2⟩ := h'
    have hI := ih _ h2 hnP
    rw [rnd_c, tks_c]
    by_cases c0 : p.1 = 0
    · rw [if_pos c0] at h1 h2
      rw [Bool.and_eq_true, Bool.and_eq_true] at h1
      obtain ⟨⟨a1, a2⟩, a3⟩ := h1
      have e : rn1 p = p.2.2 := by unfold rn1; rw [if_pos c0]
      have e2 : tk1 p = [(kwd p.2.2, 0)] := by unfold tk1; rw [if_pos c0]
      rw [e, e2]
      refine hI.word (fun z => ?_) (fun c hc => ?_) ((rnd_nxt hnP).1 h2)
      · rw [z] at a2
        exact absurd a2 (by decide)
      · have := List.all_eq_true.mp a3 c hc
        rw [Bool.and_eq_true] at this
        exact ⟨this.1, of_decide_eq_true this.2⟩
    · rw [if_neg c0] at h1 h2
      by_cases c1 : p.1 = 1
      · rw [if_pos c1] at h1 h2
        have e : rn1 p = dec p.2.1 := by unfold rn1; rw [if_neg c0, if_pos c1]
        have e2 : tk1 p = [(2, p.2.1)] := by unfold tk1; rw [if_neg c0, if_pos c1]
        rw [e, e2]
        exact hI.num (hp c1) ((rnd_nxt hnP).2 h2)
      · rw [if_neg c1] at h1 h2
        have e : rn1 p = [p.2.1] := by unfold rn1; rw [if_neg c0, if_neg c1]
        rw [e]
        by_cases c32 : p.2.1 = 32
        · have e2 : tk1 p = [] := by unfold tk1; rw [if_neg c0, if_neg c1, if_pos c32]
          rw [e2, c32]
          exact hI.bl
        · have e2 : tk1 p = [(p.2.1, 0)] := by unfold tk1; rw [if_neg c0, if_neg c1, if_neg c32]
          rw [e2]
          rw [Bool.or_eq_true, Bool.and_eq_true] at h1
          rcases h1 with h1 | ⟨h1, h3⟩
          · exact absurd (of_decide_eq_true h1) c32
          · exact hI.sgn h1 (of_decide_eq_true h3)
/-- all bytes are below 128 -/
theorem rnd_asc : ∀ (P : List Pc) (l : Nat), wfB l P = true → nmB P → ∀ c, c ∈ rnd P → c < 128 := by
  intro P
  induction P with
  | nil => exact fun _ _ _ c hc => by simp [rnd] at hc
  | cons p P ih =>
    intro l h hn c hc
    have hp : p.1 = 1 → p.2.1 < 1000 := fun z => hn p List.mem_cons_self z
    unfold wfB at h
    rw [Bool.and_eq_true] at h
    obtain ⟨h1, h2⟩ := h
    rw [rnd_c, List.mem_append] at hc
    rcases hc with hc | hc
    · by_cases c0 : p.1 = 0
      · rw [if_pos c0, Bool.and_eq_true, Bool.and_eq_true] at h1
        have e : rn1 p = p.2.2 := by unfold rn1; rw [if_pos c0]
        rw [e] at hc
        have := List.all_eq_true.mp h1.2 c hc
        rw [Bool.and_eq_true] at this
        exact of_decide_eq_true this.2
      · rw [if_neg c0] at h1
        by_cases c1 : p.1 = 1
        · have e : rn1 p = dec p.2.1 := by unfold rn1; rw [if_neg c0, if_pos c1]
          rw [e] at hc
          exact (dec_d (hp c1) hc).2
        · rw [if_neg c1, Bool.or_eq_true, Bool.and_eq_true] at h1
          have e : rn1 p = [p.2.1] := by unfold rn1; rw [if_neg c0, if_neg c1]
          rw [e, List.mem_singleton] at hc
          rw [hc]
          rcases h1 with h1 | ⟨_, h1⟩
          · rw [of_decide_eq_true h1]
            decide
          · exact of_decide_eq_true h1
    · exact ih _ h2 (fun q hq => hn q (List.mem_cons_of_mem _ hq)) c hc
theorem asc_get {s : List Nat} (h : ∀ c, c ∈ s → c < 128) : ∀ (j y : Nat), s[j]? = some y → y < 128 := fun _ y hy => h y (List.mem_of_getElem? hy)
/-- behind a sign anything may stand -/
theorem wfB_app : ∀ (P Q : List Pc) (l x : Nat), wfB l (P ++ [(2, x, [])]) = true → wfB 0 Q = true → wfB l ((P ++ [(2, x, [])]) ++ Q) = true := by
  intro P
  induction P with
  | nil =>
    intro Q l x h1 h2
    have e : wfB l ([] ++ [(2, x, [])]) = ((decide (x = 32) || (sgB x && decide (x < 128))) && true) := rfl
    rw [e, Bool.and_true] at h1
    show ((decide (x = 32) || (sgB x && decide (x < 128))) && wfB 0 Q) = true
    rw [h1, h2]
    rfl
  | cons p P ih =>
    intro Q l x h1 h2
    rw [List.cons_append] at h1
    rw [List.cons_append, List.cons_append]
    unfold wfB at h1 ⊢
    rw [Bool.and_eq_true] at h1 ⊢
    exact ⟨h1.1, ih Q _ x h1.2 h2⟩
-- ===== the reference's reader at a list of kinds and values =====
def psL (c : Nat → Nat) (t rd : Nat) (J : xc_M) (L : List (Nat × Nat)) : Prop := ∃ T, psJ c t rd J T ∧ T.map kv = L
section
variable {N t rd : Nat} {c : Nat → Nat} {J J' : xc_M} {k v : Nat} {L : List (Nat × Nat)}
theorem psL_cons (h : psL c t rd J ((k, v) :: L)) : ∃ x r, psJ c t rd J (x :: r) ∧ x.1 = k ∧ x.2.2 = v ∧ r.map kv = L := by
  obtain ⟨T, h1, h2⟩ := h
  cases T with
  | nil => exact absurd h2 (by simp)
  | cons x r =>
    rw [List.map_cons] at h2
    have e := List.cons.inj h2
    exact ⟨x, r, h1, congrArg Prod.fst e.1, congrArg Prod.snd e.1, e.2⟩
theorem psL_nx (hN : 1000 ≤ N) (h : psL c t rd J ((k, v) :: L)) (h0 : k ≠ 0) : ∃ J', fX10_next0 N J = some (nI 0, J') ∧ nfr J J' ∧ psL c t rd J' L := by
  obtain ⟨x, r, h1, h2, h3, h4⟩ := psL_cons h
  obtain ⟨J', g1, g2, g3⟩ := psJ_nx hN h1 (by rw [h2]; exact h0)
  exact ⟨J', g1, g2, r, g3, h4⟩
theorem psL_tok (h : psL c t rd J ((k, v) :: L)) : J 0 20 = nI (tm rd k) ∧ k < 200 := by
  obtain ⟨x, r, h1, h2, h3, h4⟩ := psL_cons h
  rw [← h2]
  exact ⟨psJ_tok h1, psJ_k h1⟩
theorem psL_val (h : psL c t rd J ((2, v) :: L)) : J 0 22 = nI v ∧ v < 10000 := by
  obtain ⟨x, r, h1, h2, h3, h4⟩ := psL_cons h
  rw [← h3]
  exact ⟨psJ_val h1 h2, psJ_v h1⟩
theorem psL_keep (h : psL c t rd J L) (h10 : J' 10 = J 10) (hk : ∀ k, k = 14 ∨ k = 18 ∨ k = 19 ∨ k = 20 ∨ k = 21 ∨ k = 22 → J' 0 k = J 0 k) : psL c t rd J' L := by
  obtain ⟨T, h1, h2⟩ := h
  exact ⟨T, psJ_keep h1 h10 hk, h2⟩
end
