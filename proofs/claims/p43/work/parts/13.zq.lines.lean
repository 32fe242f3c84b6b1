-- ===== the reference reads the law's lines =====
def nrL (l : LLine) : LLine := (l.1, l.2.1.map nrm, l.2.2.map nrm)
def rwJ (J : xc_M) (ls : List LLine) : Prop := ∀ (i k : Nat) (E B : List (Nat × Int32)), ls[i]? = some (k, E, B) → ∃ S1 S2, sgs ls = S1 ++ (E ++ B) ++ S2 ∧ J 5 (4 * i) = nI S1.length ∧ J 5 (4 * i + 1) = nI (S1.length + E.length) ∧ J 5 (4 * i + 2) = nI (S1.length + E.length + B.length) ∧ J 5 (4 * i + 3) = nI k
/-- the lines D are read, T is ahead -/
def lwJ (c : Nat → Nat) (t : Nat) (J : xc_M) (D : List LLine) (T : List (Nat × Nat)) : Prop := ∃ ls, ls.map nrL = D ∧ eS c t J (sgs ls) T ∧ J 0 15 = nI ls.length ∧ rwJ J ls
section
variable {N M t : Nat} {c : Nat → Nat} {J J' : xc_M} {k v : Nat} {L : List (Nat × Nat)} {S : List (Nat × Int32)}
theorem sgs_len : ∀ {ls D : List LLine}, ls.map nrL = D → (sgs ls).length = (sgs D).length := by
  intro ls
  induction ls with
  | nil => intro D h; rw [← h]; rfl
  | cons x ls ih =>
    intro D h
    rw [← h, List.map_cons]
    show ((x.2.1 ++ x.2.2) ++ sgs ls).length = ((x.2.1.map nrm ++ x.2.2.map nrm) ++ sgs (ls.map nrL)).length
    rw [List.length_append, List.length_append, List.length_append, List.length_append, List.length_map, List.length_map, ih rfl]
theorem eS.wr5 (h : eS c t J S L) (j : Nat) (x : Int32) : eS c t (xc_wr J 5 j x) S L := ⟨psL_keep h.1 (xp_wr_cell (by omega)) (fun k hk => by rw [xp_wr_cell (by omega)]), sS_keep (xp_wr_cell (by omega)) (by rw [xp_wr_cell (by omega)]) h.2⟩
/-- a line: its kind, its sum, its condition or none -/
theorem line_run (hN : 1000 ≤ N) {D : List LLine} {kw kd : Nat} (hkw : (kw = 104 ∧ kd = 20) ∨ (kw = 105 ∧ kd = 21) ∨ (kw = 106 ∧ kd = 22)) {m : Sm} (hm : okM m) {TB : List (Nat × Nat)} {CB : List (Nat × Int32)} (hB : (TB = [] ∧ CB = []) ∨ ∃ T d bad, TB = (107, 0) :: T ∧ cdR N c t (fX10_any N M) T CB d bad ∧ ¬ bad 59 ∧ d ≤ 8) (hlen : D.length < 16) (hl : (sgs D).length + (cM m).length + CB.length < 390) (h : lwJ c t J D ((kw, 0) :: (tM m ++ (TB ++ (59, 0) :: L)))) (hL : L ≠ []) (f : Nat) : ∃ J', lX10_readsLaw_12 N M (f + 1) (nI 1) J = lX10_readsLaw_12 N M f (nI 1) J' ∧ lwJ c t J' (D ++ [(kd, cM m, CB)]) L ∧ frM J J' := by
  obtain ⟨ls, e1, e2, e3, e4⟩ := h
  have hln : ls.length = D.length := by rw [← e1, List.length_map]
  have hsl := sgs_len e1
  obtain ⟨n, hn⟩ : ∃ n, ls.length = n := ⟨_, rfl⟩
  rw [hn] at e3 hln
  obtain ⟨ht, h200⟩ := psL_tok e2.1
  have htk : tm 1 kw = kd := by rcases hkw with ⟨rfl, rfl⟩ | ⟨rfl, rfl⟩ | ⟨rfl, rfl⟩ <;> rfl
  have hkd : 20 ≤ kd ∧ kd ≤ 22 := by omega
  rw [htk] at ht
  -- to the sum
  obtain ⟨J2, hJ2⟩ : ∃ J2, xc_wr (xc_wr J 0 26 (nI 0)) 5 (4 * n + 3) (nI kd) = J2 := ⟨_, rfl⟩
  have s2 : eS c t J2 (sgs ls) ((kw, 0) :: (tM m ++ (TB ++ (59, 0) :: L))) := by rw [← hJ2]; exact (e2.w26 _).wr5 _ _
  have k2 : ∀ q, q ≠ 26 → J2 0 q = J 0 q := fun q hq => by rw [← hJ2, xp_wr_cell (by omega), xp_wr_k hq]
  have r2 : ∀ q, q ≠ 4 * n + 3 → J2 5 q = J 5 q := fun q hq => by rw [← hJ2, xp_wr_k hq, xp_wr_cell (by omega)]
  have r23 : J2 5 (4 * n + 3) = nI kd := by rw [← hJ2, xp_wr_s]
  have z2 : J2 0 26 = nI 0 := by rw [← hJ2, xp_wr_cell (by omega), xp_wr_s]
  obtain ⟨J4, g1, g2, g3⟩ := s2.nx hN (by omega)
  have h15 : ∀ {K K' : xc_M}, frF K K' → K' 0 15 = K 0 15 := fun hf => hf.2 15 (by omega) (by omega)
  have h5 : ∀ {K K' : xc_M}, frF K K' → K' 5 = K 5 := fun hf => hf.1 5 (by omega) (by omega)
  have n4 : J4 0 15 = nI n := by rw [h15 g3, k2 15 (by omega)]; exact e3
  have l4 : J4 0 16 = nI (sgs ls).length := g2.2.1
  have s5 := g2.wr5 (4 * n) (nI (sgs ls).length)
  obtain ⟨k3, v3, L3, hL3, hk3⟩ : ∃ k3 v3 L3, TB ++ (59, 0) :: L = (k3, v3) :: L3 ∧ (k3 = 107 ∨ k3 = 59) := by
    rcases hB with ⟨rfl, -⟩ | ⟨T, d, bad, rfl, -⟩
    · exact ⟨59, 0, L, rfl, Or.inr rfl⟩
    · exact ⟨107, 0, _, rfl, Or.inl rfl⟩
  rw [hL3] at s5
  obtain ⟨J7, p1, U1, p2, p3, p4⟩ := sum_all hN (by omega) hm (by omega) s5
  rw [← hL3] at p2
  have hU1 : U1.length = (cM m).length := by rw [← p3, List.length_map]
  have n7 : J7 0 15 = nI n := by rw [h15 p4, xp_wr_cell (by omega)]; exact n4
  have l7 : J7 0 16 = nI ((sgs ls).length + U1.length) := by rw [p2.2.1, List.length_append]
  obtain ⟨J8, hJ8⟩ : ∃ J8, xc_wr J7 5 (4 * n + 1) (nI ((sgs ls).length + U1.length)) = J8 := ⟨_, rfl⟩
  have s8 : eS c t J8 (sgs ls ++ U1) (TB ++ (59, 0) :: L) := by rw [← hJ8]; exact p2.wr5 _ _
  have k8 : ∀ q, J8 0 q = J7 0 q := fun q => by rw [← hJ8, xp_wr_cell (by omega)]
  have r8 : ∀ q, q ≠ 4 * n → q ≠ 4 * n + 1 → J8 5 q = J2 5 q := fun q q1 q2 => by
    rw [← hJ8, xp_wr_k q2, h5 p4, xp_wr_k q1, h5 g3]
  have r80 : J8 5 (4 * n) = nI (sgs ls).length := by rw [← hJ8, xp_wr_k (by omega), h5 p4, xp_wr_s]
  have r81 : J8 5 (4 * n + 1) = nI ((sgs ls).length + U1.length) := by rw [← hJ8, xp_wr_s]
  have z8 : J8 0 26 = nI 0 := by rw [k8, p4.k26, xp_wr_cell (by omega), g3.k26]; exact z2
  have f8 : frM J J8 := by
    rw [← hJ8]
    refine frM_t (frM_t (K := J2) ?_ (frM_G (frG_F g3))) (frM_t frM_5 (frM_t (frM_G (frG_F p4)) frM_5))
    rw [← hJ2]
    exact frM_t (frM_G (frG_26 J (nI 0))) frM_5
  -- behind the condition
  have fin : ∀ (J9 : xc_M) (U2 : List (Nat × Int32)), eS c t J9 (sgs ls ++ (U1 ++ U2)) ((59, 0) :: L) → U2.map nrm = CB → frG J8 J9 → J9 0 26 = J8 0 26 → ∃ J', bX10_aLine_123 N M J9 = some (nI 1, J') ∧ lwJ c t (xc_wr J' 0 15 (nI (n + 1))) (D ++ [(kd, cM m, CB)]) L ∧ frM J J' ∧ J' 0 15 = nI n := by
    intro J9 U2 w1 w2 w3 w4
    have n9 : J9 0 15 = nI n := by rw [w3.2 15 (by omega) (by omega) (by omega), k8]; exact n7
    have l9 : J9 0 16 = nI ((sgs ls).length + U1.length + U2.length) := by rw [w1.2.1, List.length_append, List.length_append, Nat.add_assoc]
    have r9 : J9 5 = J8 5 := w3.1 5 (by omega) (by omega)
    obtain ⟨J10, x1, x2, x3⟩ := eS.need hN (a := 159) (b := 59) (by decide +kernel) (by omega) (w1.wr5 (4 * n + 2) (nI ((sgs ls).length + U1.length + U2.length))) (by omega)
    have n10 : J10 0 15 = nI n := by rw [h15 x3, xp_wr_cell (by omega)]; exact n9
    have r10 : ∀ q, q ≠ 4 * n + 2 → J10 5 q = J8 5 q := fun q hq => by rw [h5 x3, xp_wr_k hq, r9]
    have hsg : sgs (ls ++ [(kd, U1, U2)]) = sgs ls ++ (U1 ++ U2) := by rw [sgs_app, List.append_assoc]
    refine ⟨J10, ?_, ⟨ls ++ [(kd, U1, U2)], ?_, ?_, ?_, fun i k E B hi => ?_⟩, frM_t f8 (frM_t (frM_G w3) (frM_t frM_5 (frM_G (frG_F x3)))), n10⟩
    · unfold bX10_aLine_123
      refine e_st (k := 4 * n + 2) ?_ (by omega) l9 (e_cl x1 rfl)
      rw [n9, show ((4 : Int32) * nI n) = nI (4 * n) from pk_mul 4 n]
      exact nI_add _ 2
    · rw [List.map_append, e1]
      show D ++ [nrL (kd, U1, U2)] = _
      unfold nrL
      rw [p3, w2]
    · rw [hsg]
      exact ⟨psL_keep x2.1 (xp_wr_cell (by omega)) (fun k hk => xp_wr_k (by omega)), sS_keep (xp_wr_cell (by omega)) (xp_wr_k (by omega)) x2.2⟩
    · rw [xp_wr_s, List.length_append, hn]
      rfl
    · rw [xp_wr_cell (by omega), hsg]
      rw [List.getElem?_append, hn] at hi
      by_cases hin : i < n
      · rw [if_pos hin] at hi
        obtain ⟨S1, S2, y1, y2, y3, y4, y5⟩ := e4 i k E B hi
        refine ⟨S1, S2 ++ (U1 ++ U2), by rw [y1, List.append_assoc], ?_, ?_, ?_, ?_⟩
        · rw [r10 _ (by omega), r8 _ (by omega) (by omega), r2 _ (by omega)]
          exact y2
        · rw [r10 _ (by omega), r8 _ (by omega) (by omega), r2 _ (by omega)]
          exact y3
        · rw [r10 _ (by omega), r8 _ (by omega) (by omega), r2 _ (by omega)]
          exact y4
        · rw [r10 _ (by omega), r8 _ (by omega) (by omega), r2 _ (by omega)]
          exact y5
      · rw [if_neg hin] at hi
        have hin0 : i - n = 0 := by
          have := (List.getElem?_eq_some_iff.mp hi).1
          simp only [List.length_cons, List.length_nil] at this
          omega
        rw [hin0] at hi
        have hi' := Option.some.inj hi
        have ei : i = n := by omega
        subst ei
        have a1 : kd = k := congrArg Prod.fst hi'
        have a2 : U1 = E := congrArg (fun z => z.2.1) hi'
        have a3 : U2 = B := congrArg (fun z => z.2.2) hi'
        subst a1 a2 a3
        refine ⟨sgs ls, [], by rw [List.append_nil], ?_, ?_, ?_, ?_⟩
        · rw [r10 _ (by omega)]
          exact r80
        · rw [r10 _ (by omega)]
          exact r81
        · rw [h5 x3, xp_wr_s]
        · rw [r10 _ (by omega), r8 _ (by omega) (by omega)]
          exact r23
  -- the line's head
  have hd : ∀ (J' : xc_M), (if (J8 0 20) ≠ (3 : Int32) then (bX10_aLine_123 N M J8) else xc_cv (fX10_next0 N J8) fun I9 => xc_cl (fX10_any N M I9) fun x10 I11 => (if x10 ≠ (0 : Int32) then (bX10_aLine_123 N M I11) else some (0, I11))) = some (nI 1, J') → fX10_aLine N M J = some (nI 1, J') := by
    intro J' hJ'
    have hin := rv_isIn (v := kd) (a := 20) (c := 22) (by omega) (by omega) (by omega)
    rw [decide_eq_true hkd] at hin
    unfold fX10_aLine
    rw [ht]
    refine e_cr hin (e_t (by decide) (e_t ?_ (e_mw rfl (e_st (k := 4 * n + 3) (v := nI kd) ?_ (by omega) ?_ ?_))))
    · rw [e3, show (16 : Int32) = nI 16 from rfl, ne_eq, xp_eq (by omega) (by omega)]
      omega
    · rw [xp_wr_k (by omega), e3, show ((4 : Int32) * nI n) = nI (4 * n) from pk_mul 4 n]
      exact nI_add _ 3
    · rw [xp_wr_k (by omega)]
      exact ht
    · have hJ2' : xc_wr (xc_wr J 0 26 0) 5 (4 * n + 3) (nI kd) = J2 := hJ2
      rw [hJ2']
      refine e_cv g1 (e_st (k := 4 * n) ?_ (by omega) l4 (e_cl p1 (e_t (by decide) (e_st (k := 4 * n + 1) ?_ (by omega) l7 ?_))))
      · rw [n4]
        exact pk_mul 4 n
      · rw [n7, show ((4 : Int32) * nI n) = nI (4 * n) from pk_mul 4 n]
        exact nI_add _ 1
      · rw [hJ8]
        exact hJ'
  have loop : ∀ (J' : xc_M), fX10_aLine N M J = some (nI 1, J') → J' 0 15 = nI n → lX10_readsLaw_12 N M (f + 1) (nI 1) J = lX10_readsLaw_12 N M f (nI 1) (xc_wr J' 0 15 (nI (n + 1))) := by
    intro J' hJ' h15'
    rw [lX10_readsLaw_12, bX10_readsLaw_12]
    refine e_f (by decide) (e_f ?_ (e_cl hJ' (e_lt rfl (e_f (by decide) ?_))))
    · rw [ht, show (0 : Int32) = nI 0 from rfl, xp_eq (by omega) (by omega)]
      omega
    · rw [bX10_readsLaw_42, h15']
      exact e_mw (nI_add n 1) rfl
  obtain ⟨ht8, h208⟩ := psL_tok (hL3 ▸ s8.1)
  rcases hB with ⟨rfl, rfl⟩ | ⟨T, d, bad, rfl, hcd, hbad, hd8⟩
  · have ek : k3 = 59 := by
      have := List.cons.inj hL3
      exact (congrArg Prod.fst this.1).symm
    subst ek
    obtain ⟨J', q1, q2, q3, q4⟩ := fin J8 [] (by rw [List.append_nil]; exact s8) rfl (frG_F (frF_r J8)) rfl
    refine ⟨_, loop J' (hd J' (e_t ?_ q1)) q4, q2, frM_t q3 ⟨fun a a1 _ _ => xp_wr_cell a1, fun k k1 _ _ _ => xp_wr_k k1⟩⟩
    exact tok_ne ht8 (a := 3) (b := 107) (by decide +kernel) h208 (by omega) (by omega)
  · have ek : k3 = 107 := by
      have := List.cons.inj hL3
      exact (congrArg Prod.fst this.1).symm
    subst ek
    obtain ⟨J9, y1, y2, y3⟩ := s8.nx hN (by omega)
    obtain ⟨J11, w1, U2, w2, w3, w4, w5⟩ := hcd J9 (sgs ls ++ U1) 59 0 0 L hbad (by rw [List.length_append]; omega) (by rw [y3.k26]; exact z8) (by omega) y2
    rw [List.append_assoc] at w2
    obtain ⟨J', q1, q2, q3, q4⟩ := fin J11 U2 w2 w3 (frG_t (frG_F y3) w5) (by rw [w4, y3.k26])
    refine ⟨_, loop J' (hd J' (e_f ?_ (e_cv y1 (e_cl w1 (e_t (by decide) q1))))) q4, q2, frM_t q3 ⟨fun a a1 _ _ => xp_wr_cell a1, fun k k1 _ _ _ => xp_wr_k k1⟩⟩
    exact fun z => z (tok_eq ht8 (a := 3) (b := 107) (by decide +kernel) h208 (by omega) rfl)
end
