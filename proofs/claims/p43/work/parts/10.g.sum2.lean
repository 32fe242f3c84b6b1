-- ===== texts: E, the whole =====
theorem lenc_1 (s : Nat × Int32) : 1 ≤ (lenc s).length := by
  unfold lenc
  split
  · exact Nat.le_refl _
  · split
    · exact Nat.le_refl _
    · split
      · show 1 ≤ 2
        omega
      · exact Nat.le_refl _
theorem enc_len (S : List (Nat × Int32)) : S.length ≤ (S.flatMap lenc).length := by
  induction S with
  | nil => exact Nat.le_refl _
  | cons x r ih =>
    have := lenc_1 x
    rw [List.flatMap_cons, List.length_append, List.length_cons]
    omega
def pn (k : Nat) (st : List Bool) : List Bool := if k = 0 then st else false :: st
def pc (k : Nat) : Nat := if k = 0 then 0 else 1
/-- what a reader that went well leaves -/
def okE (c : Nat → Nat) (t : Nat) (S : List (Nat × Int32)) (B m : Nat) (p q : List Bool) (I' J' : xc_M) : Prop := ∃ T' U, T'.length < m ∧ psI I' T' ∧ psJ c t 1 J' T' ∧ cC I' ((S ++ U).flatMap lenc) ∧ sS J' (S ++ U) ∧ ltyp U p = some q ∧ ((S ++ U).flatMap lenc).length + T'.length ≤ B
section
variable {N t : Nat} {c : Nat → Nat} {I J : xc_M} {x y : Tok} {r T : List Tok} {S : List (Nat × Int32)}
theorem okE_app {U1 : List (Nat × Int32)} {B m m' : Nat} {p p1 q : List Bool} {I' J' : xc_M} (h : okE c t (S ++ U1) B m' p1 q I' J') (hm : m' ≤ m) (hl : ltyp U1 p = some p1) : okE c t S B m p q I' J' := by
  obtain ⟨T', U, h1, h2, h3, h4, h5, h6, h7⟩ := h
  rw [List.append_assoc] at h4 h5 h7
  exact ⟨T', U1 ++ U, by omega, h2, h3, h4, h5, by rw [ltyp_app hl]; exact h6, h7⟩
theorem cs_112 (k7 : Int32 → Int32 → Int32 → xc_M → Option (Int32 × xc_M)) {C : List Int32} (hp : psI I (x :: r)) (hc : cC I C) {times : Nat} (htm : times < 100) (hl : C.length + pc times < 400) (plus i4 u : Int32) : ∃ I1, bX6_readSum_112 N 83 k7 (nI times) plus i4 u I = bX6_readSum_138 N 83 k7 plus i4 I1 ∧ cC I1 (C ++ (u :: (if times = 0 then [] else [nI (20000 + times)]))) ∧ psI I1 r ∧ frE I I1 := by
  obtain ⟨I1, a1, a2, a3, a4⟩ := cv_emit u hc (by omega)
  have hp1 := psI_nx (a4 _ hp)
  rw [bX6_readSum_112]
  by_cases h0 : times = 0
  · rw [h0, if_pos rfl]
    exact ⟨nxI I1, e_cv a1 (e_mw rfl (e_t rfl rfl)), cC_nx a2, hp1, frE_t a3 (frE_nx _)⟩
  · rw [if_neg h0]
    unfold pc at hl
    rw [if_neg h0] at hl
    obtain ⟨I2, b1, b2, b3, b4⟩ := cv_emit (nI (20000 + times)) (cC_nx a2) (by rw [List.length_append]; show C.length + 1 < 400; omega)
    refine ⟨I2, e_cv a1 (e_mw rfl (e_f ?_ (e_cv (v := nI 0) ?_ rfl))), ?_, b4 _ hp1, frE_t a3 (frE_t (frE_nx _) b3)⟩
    · rw [show (0 : Int32) = nI 0 from rfl, xp_eq (by omega) (by omega)]
      exact h0
    · rw [show (20000 : Int32) = nI 20000 from rfl, nI_add]
      exact b1
    · rw [List.append_assoc] at b2
      exact b2
theorem tq (a b : Nat) (h : tmc 1 a b = true) (ha : a < 1000) {k : Nat} (hk : k < 200) : (nI (tm 1 k) = nI a) = (k = b) := tm_eq h (by omega) hk ha
/-- the reference's side of the same step -/
theorem rs_unit (hN : 1000 ≤ N) {times f1 : Nat} (hp : psJ c t 1 J (x :: r)) (hs : sS J S) (hl : S.length + pc times < 410) (ht : times = 0 ∨ times = 42 ∨ times = 47) (h : x.1 = 2 ∨ (108 ≤ x.1 ∧ x.1 < 116)) (hd : times = 47 → x.1 = 2 ∧ x.2.2 ≠ 0) : ∃ J1 U1, rP N f1 times J = lX10_product_9 N f1 J1 ∧ psJ c t 1 J1 r ∧ sS J1 (S ++ U1) ∧ U1.flatMap lenc = uC x :: (if times = 0 then [] else [nI (20000 + times)]) ∧ (∀ st : List Bool, st.length ≤ 21 → ltyp U1 (pn times st) = some (false :: st)) ∧ frF J J1 := by
  have hv := psJ_v hp
  rcases ht with z | z | z
  · subst z
    obtain ⟨J1, w, a1, a2, a3, a4⟩ := rv_unit hN hp hs (by omega) h
    refine ⟨J1, [uS x w], ?_, a2, a3, ?_, fun st hst => uS_ty (st := st) x w h hv (by omega), a4⟩
    · unfold rP
      rw [if_pos rfl]
      exact e_cl a1 (e_t (by decide) rfl)
    · rw [List.flatMap_cons, uC_enc x w h]
      rfl
  · subst z
    obtain ⟨J1, w, a1, a2, a3, a4⟩ := rv_unit hN hp hs (by omega) h
    obtain ⟨J2, b1, b2, b3, b4⟩ := rv_lay (c := c) (t := t) 25 0 a3 (by rw [List.length_append]; unfold pc at hl; rw [if_neg (by omega)] at hl; show S.length + 1 < 410; omega)
    refine ⟨J2, [uS x w, (25, 0)], ?_, b4 _ a2, ?_, ?_, fun st hst => ?_, frF_t a4 b3⟩
    · unfold rP
      rw [if_neg (by omega), if_pos rfl]
      exact e_cl a1 (e_t (by decide) (e_cv b1 rfl))
    · rw [List.append_assoc] at b2
      exact b2
    · rw [List.flatMap_cons, uC_enc x w h]
      rfl
    · show ltyp ([uS x w] ++ [(25, 0)]) (false :: st) = _
      rw [ltyp_app (uS_ty x w h hv (by rw [List.length_cons]; omega))]
      exact lty_ar (q := st) (by omega) (by omega)
  · subst z
    obtain ⟨d1, d2⟩ := hd rfl
    have hk := psJ_k hp
    have htok := psJ_tok hp
    have hval := psJ_val hp d1
    obtain ⟨J1, a1, a2, a3⟩ := psJ_nx hN hp (by omega)
    obtain ⟨J2, b1, b2, b3, b4⟩ := rv_lay (c := c) (t := t) 26 (nI x.2.2) (sS_n a2 hs) (by omega)
    refine ⟨J2, [(26, nI x.2.2)], ?_, b4 _ a3, b2, ?_, fun st hst => lty_part (by omega) d2 hv, frF_t (frF_n a2) b3⟩
    · unfold rP
      rw [if_neg (by omega), if_neg (by omega), hval]
      refine e_lt rfl (e_t ?_ (e_t ?_ (e_cv a1 (e_cv b1 rfl))))
      · rw [htok, show (2 : Int32) = nI 2 from rfl, tq 2 2 (by decide +kernel) (by omega) hk]
        exact d1
      · rw [show (0 : Int32) = nI 0 from rfl, ne_eq, xp_eq (by omega) (by omega)]
        exact d2
    · unfold uC
      rw [if_pos d1]
      rfl
theorem rs_bad {times f1 : Nat} (hp : psJ c t 1 J (x :: r)) (ht : times = 0 ∨ times = 42 ∨ times = 47) (h : ¬ (x.1 = 2 ∨ (108 ≤ x.1 ∧ x.1 < 116)) ∨ (times = 47 ∧ x.1 ≠ 2)) : rP N f1 times J = some (nI 0, bdJ J 1 x.2.1) := by
  have hk := psJ_k hp
  have htok := psJ_tok hp
  unfold rP
  rcases ht with z | z | z
  · subst z
    rw [if_pos rfl]
    exact e_cl (rv_unit0 hp (by omega)) (e_f (fun z => z rfl) rfl)
  · subst z
    rw [if_neg (by omega), if_pos rfl]
    exact e_cl (rv_unit0 hp (by omega)) (e_f (fun z => z rfl) rfl)
  · subst z
    rw [if_neg (by omega), if_neg (by omega)]
    refine e_lt rfl (e_f ?_ (e_cl (rv_bad hp 1) rfl))
    rw [htok, show (2 : Int32) = nI 2 from rfl, tq 2 2 (by decide +kernel) (by omega) hk]
    omega
theorem rs_bad2 {f1 : Nat} (hp : psJ c t 1 J (x :: r)) (h2 : x.1 = 2) (hv : x.2.2 = 0) : rP N f1 47 J = some (nI 0, bdJ J 2 x.2.1) := by
  have hk := psJ_k hp
  have htok := psJ_tok hp
  have hval := psJ_val hp h2
  rw [hv] at hval
  unfold rP
  rw [if_neg (by omega), if_neg (by omega), hval]
  refine e_lt rfl (e_t ?_ (e_f (fun z => z rfl) (e_cl (rv_bad hp 2) rfl)))
  rw [htok, show (2 : Int32) = nI 2 from rfl, tq 2 2 (by decide +kernel) (by omega) hk]
  exact h2
theorem rS_0 {f1 f2 times plus v p : Nat} (h : rP N f1 times J = some (nI 0, bdJ J v p)) : rS N f1 f2 times plus J = some (nI 0, bdJ J v p) := by
  unfold rS
  rw [h]
  by_cases h0 : plus = 0
  · rw [if_pos h0]
    exact e_cl rfl (e_f (fun z => z rfl) rfl)
  · rw [if_neg h0]
    exact e_cl rfl (e_f (fun z => z rfl) rfl)
theorem sum_sim (hN : 1000 ≤ N) : ∀ n (T : List Tok) (times plus f1 f2 fu i4 B : Nat) (I J : xc_M) (S : List (Nat × Int32)) (st0 : List Bool), T.length ≤ n → T.length < f1 → T.length < f2 → T.length < fu → psI I T → psJ c t 1 J T → cC I (S.flatMap lenc) → sS J S → (times = 0 ∨ times = 42 ∨ times = 47) → (plus = 0 ∨ plus = 43 ∨ plus = 45) → (S.flatMap lenc).length + pc times + pc plus + T.length ≤ B → B ≤ 401 → i4 + T.length ≤ 401 → st0.length ≤ 20 → ∃ (b : Bool) (I' J' : xc_M), lX6_readSum_7 N 83 fu (nI times) (nI plus) (nI i4) I = some (nI b.toNat, I') ∧ rS N f1 f2 times plus J = some (nI b.toNat, J') ∧ frE I I' ∧ frF J J' ∧ (b = false → flt I' J') ∧ (b = true → okE c t S B T.length (pn times (pn plus st0)) (false :: st0) I' J') := by
  intro n
  induction n with
  | zero =>
    intro T times plus f1 f2 fu i4 B I J S st0 hn hf1 hf2 hfu hpI hpJ
    obtain ⟨x, r, rfl⟩ := psJ_ne hpJ
    rw [List.length_cons] at hn
    omega
  | succ n ih =>
    intro T times plus f1 f2 fu i4 B I J S st0 hn hf1 hf2 hfu hpI hpJ hc hs htm hpl hB hB2 hi4 hst
    obtain ⟨x, r, rfl⟩ := psJ_ne hpJ
    obtain ⟨g, rfl⟩ : ∃ g, fu = g + 1 := ⟨fu - 1, by omega⟩
    have hk := psJ_k hpJ
    have hv := psJ_v hpJ
    rw [List.length_cons] at hn hf1 hf2 hfu hB hi4
    have hSl := enc_len S
    rw [lX6_readSum_7]
    by_cases hbad : ¬ (x.1 = 2 ∨ (108 ≤ x.1 ∧ x.1 < 116)) ∨ (times = 47 ∧ x.1 ≠ 2)
    · exact ⟨false, _, _, cs_bad _ hpI hk _ (by omega) (by omega) hbad, rS_0 (rs_bad hpJ htm hbad), frE_rf _ _ _, frF_bd _ _ _, fun _ => flt_mk _ _, fun z => by cases z⟩
    · by_cases hbad2 : times = 47 ∧ x.1 = 2 ∧ x.2.2 = 0
      · obtain ⟨d1, d2, d3⟩ := hbad2
        subst d1
        exact ⟨false, _, _, cs_bad2 _ hpI _ (by omega) d2 d3, rS_0 (rs_bad2 hpJ d2 d3), frE_rf _ _ _, frF_bd _ _ _, fun _ => flt_mk _ _, fun z => by cases z⟩
      · have hun : x.1 = 2 ∨ (108 ≤ x.1 ∧ x.1 < 116) := by
          by_cases h : x.1 = 2 ∨ (108 ≤ x.1 ∧ x.1 < 116)
          · exact h
          · exact absurd (Or.inl h) hbad
        have hd : times = 47 → x.1 = 2 ∧ x.2.2 ≠ 0 := fun h47 => by
          have h2 : x.1 = 2 := by
            by_cases h : x.1 = 2
            · exact h
            · exact absurd (Or.inr ⟨h47, h⟩) hbad
          exact ⟨h2, fun z => hbad2 ⟨h47, h2, z⟩⟩
        have hrne := psJ_r hpJ (by omega)
        obtain ⟨y, r', rfl⟩ : ∃ y r', r = y :: r' := by
          cases r with
          | nil => exact absurd rfl hrne
          | cons y r' => exact ⟨y, r', rfl⟩
        rw [List.length_cons] at hn hf1 hf2 hfu hB hi4
        have hpcp : pc plus ≤ 1 := by unfold pc; split <;> omega
        have hpct : pc times ≤ 1 := by unfold pc; split <;> omega
        obtain ⟨I1, a1, a2, a3, a4⟩ := cs_112 (N := N) (lX6_readSum_7 N 83 g) hpI hc (times := times) (by omega) (by omega) (nI plus) (nI i4) (uC x)
        obtain ⟨J1, U1, b1, b2, b3, b4, b5, b6⟩ := rs_unit (f1 := f1) hN hpJ hs (by omega) htm hun hd
        have hcl : bX6_readSum_7 N 83 (lX6_readSum_7 N 83 g) (nI times) (nI plus) (nI i4) I = bX6_readSum_138 N 83 (lX6_readSum_7 N 83 g) (nI plus) (nI i4) I1 := (cs_65 _ hpI hk _ (by omega) (by omega) hun hd hv).trans a1
        rw [← b4] at a2
        have hcode : cC I1 ((S ++ U1).flatMap lenc) := by
          rw [List.flatMap_append]
          exact a2
        have hlen : ((S ++ U1).flatMap lenc).length = (S.flatMap lenc).length + 1 + pc times := by
          rw [List.flatMap_append, List.length_append, b4]
          unfold pc
          by_cases h0 : times = 0
          · rw [if_pos h0, if_pos h0]
            rfl
          · rw [if_neg h0, if_neg h0]
            rfl
        have hky := psJ_k b2
        have htoky := psJ_tok b2
        obtain ⟨f1', rfl⟩ : ∃ m, f1 = m + 1 := ⟨f1 - 1, by omega⟩
        have q142 := tq 142 42 (by decide +kernel) (by omega) hky
        have q147 := tq 147 47 (by decide +kernel) (by omega) hky
        have hpnl : (pn plus st0).length ≤ 21 := by
          unfold pn
          split
          · omega
          · rw [List.length_cons]
            omega
        by_cases hy : y.1 = 42 ∨ y.1 = 47
        · obtain ⟨J2, n1, n2, n3⟩ := psJ_nx hN b2 (by omega)
          have hpi1 := psI_nx a3
          have hpy : pc y.1 = 1 := by unfold pc; rw [if_neg (by omega)]
          have hpny : pn y.1 (pn plus st0) = false :: pn plus st0 := by unfold pn; rw [if_neg (show ¬ y.1 = 0 by omega)]
          obtain ⟨b, I', J', r1, r2, r3, r4, r5, r6⟩ := ih r' y.1 plus f1' f2 g (i4 + 1) B (nxI I1) J2 (S ++ U1) st0 (by omega) (by omega) (by omega) (by omega) hpi1 n3 (cC_nx hcode) (sS_n n2 b3) (by omega) hpl (by omega) hB2 (by omega) hst
          rw [hpny] at r6
          refine ⟨b, I', J', hcl.trans ((cs_138 _ a3 hky _ hy).trans r1), ?_, frE_t a4 (frE_t (frE_nx _) r3), frF_t b6 (frF_t (frF_n n2) r4), r5, fun hb => okE_app (r6 hb) (by rw [List.length_cons, List.length_cons]; omega) (b5 _ hpnl)⟩
          have hP : rP N (f1' + 1) times J = rP N f1' y.1 J2 := by
            rw [b1, lX10_product_9, bX10_product_9, htoky]
            have h29 : bX10_product_29 N (lX10_product_9 N f1') J1 = rP N f1' y.1 J2 := by
              rw [bX10_product_29, htoky]
              rcases hy with z | z
              · refine e_t ?_ ?_
                · rw [show (147 : Int32) = nI 147 from rfl, ne_eq, q147]
                  omega
                · rw [bX10_product_44, z]
                  exact e_lt rfl (e_cv n1 (e_t rfl rfl))
              · refine e_f ?_ ?_
                · rw [show (147 : Int32) = nI 147 from rfl, ne_eq, q147]
                  exact fun q => q z
                · rw [bX10_product_44, z]
                  exact e_lt rfl (e_cv n1 (e_f (by decide) rfl))
            by_cases h42 : y.1 = 42
            · exact e_t (by rw [show (142 : Int32) = nI 142 from rfl, q142]; exact h42) h29
            · exact e_f (by rw [show (142 : Int32) = nI 142 from rfl, q142]; exact h42) (e_f (by rw [show (147 : Int32) = nI 147 from rfl, ne_eq, q147]; exact fun q => q (hy.resolve_left h42)) h29)
          have hS : rS N (f1' + 1) f2 times plus J = rS N f1' f2 y.1 plus J2 := by
            unfold rS
            rw [hP]
          rw [hS]
          exact r2
        · have hP : rP N (f1' + 1) times J = some (nI 1, J1) := by
            rw [b1, lX10_product_9, bX10_product_9, htoky]
            exact e_f (by rw [show (142 : Int32) = nI 142 from rfl, q142]; exact fun z => hy (Or.inl z)) (e_t (by rw [show (147 : Int32) = nI 147 from rfl, ne_eq, q147]; exact fun z => hy (Or.inr z)) rfl)
          -- the sum's own operator, if one waits
          have hop : ∃ I2 J2 U2, bX6_readSum_164 N 83 (lX6_readSum_7 N 83 g) (nI plus) (nI i4) (nI 0) I1 = bX6_readSum_195 N 83 (lX6_readSum_7 N 83 g) (nI 0) (nI i4) I2 ∧ rS N (f1' + 1) f2 times plus J = lX10_sumUp_9 N f2 J2 ∧ psI I2 (y :: r') ∧ psJ c t 1 J2 (y :: r') ∧ cC I2 ((S ++ U2).flatMap lenc) ∧ sS J2 (S ++ U2) ∧ ltyp U2 (pn times (pn plus st0)) = some (false :: st0) ∧ ((S ++ U2).flatMap lenc).length = (S.flatMap lenc).length + 1 + pc times + pc plus ∧ frE I1 I2 ∧ frF J1 J2 := by
            by_cases h0 : plus = 0
            · refine ⟨I1, J1, U1, ?_, ?_, a3, b2, hcode, b3, ?_, ?_, frE_r _, frF_r _⟩
              · rw [bX6_readSum_164, h0]
                exact e_lt rfl (e_t rfl (e_t rfl rfl))
              · unfold rS
                rw [if_pos h0, hP]
                exact e_cl rfl (e_t (by decide) rfl)
              · rw [b5 _ hpnl]
                unfold pn
                rw [if_pos h0]
              · have hp0 : pc plus = 0 := by unfold pc; rw [if_pos h0]
                omega
            · have hpp : pc plus = 1 := by unfold pc; rw [if_neg h0]
              have hS1l := enc_len (S ++ U1)
              obtain ⟨I2, c1, c2, c3, c4⟩ := cv_emit (nI (20000 + plus)) hcode (by rw [hlen]; omega)
              obtain ⟨J2, d1, d2, d3, d4⟩ := rv_lay (c := c) (t := t) (if plus = 43 then 23 else 24) 0 b3 (by rw [hlen] at hS1l; omega)
              have hle : lenc ((if plus = 43 then 23 else 24 : Nat), (0 : Int32)) = [nI (20000 + plus)] := by
                rcases hpl with z | z | z
                · exact absurd z h0
                · subst z; rfl
                · subst z; rfl
              have hfm : (S ++ (U1 ++ [((if plus = 43 then 23 else 24 : Nat), (0 : Int32))])).flatMap lenc = (S ++ U1).flatMap lenc ++ [nI (20000 + plus)] := by
                rw [← List.append_assoc, List.flatMap_append, List.flatMap_cons, hle]
                rfl
              refine ⟨I2, J2, U1 ++ [((if plus = 43 then 23 else 24 : Nat), (0 : Int32))], ?_, ?_, c4 _ a3, d4 _ b2, ?_, ?_, ?_, ?_, c3, d3⟩
              · rw [bX6_readSum_164]
                refine e_lt rfl (e_t rfl (e_f ?_ (e_cv (v := nI 0) ?_ rfl)))
                · rw [show (0 : Int32) = nI 0 from rfl, xp_eq (by omega) (by omega)]
                  exact h0
                · rw [show (20000 : Int32) = nI 20000 from rfl, nI_add]
                  exact c1
              · unfold rS
                rw [if_neg h0, hP]
                exact e_cl rfl (e_t (by decide) (e_cv d1 rfl))
              · rw [hfm]
                exact c2
              · rw [← List.append_assoc]
                exact d2
              · have e1 : pn plus st0 = false :: st0 := by unfold pn; rw [if_neg h0]
                have h5 := b5 _ hpnl
                rw [e1] at h5 ⊢
                rw [ltyp_app h5]
                exact lty_ar (by omega) (by split <;> omega)
              · rw [hfm, List.length_append, hlen, hpp]
                rfl
          obtain ⟨I2, J2, U2, o1, o2, o3, o4, o5, o6, o7, o8, o9, o10⟩ := hop
          have hcl2 := hcl.trans ((cs_138n _ a3 hky (nI plus) (nI i4) hy).trans (o1.trans (cs_195 _ o3 hky)))
          rw [hcl2, o2]
          obtain ⟨f2', rfl⟩ : ∃ m, f2 = m + 1 := ⟨f2 - 1, by omega⟩
          have htok2 := psJ_tok o4
          have q143 := tq 143 43 (by decide +kernel) (by omega) hky
          have q145 := tq 145 45 (by decide +kernel) (by omega) hky
          rw [lX10_sumUp_9, bX10_sumUp_9, htok2]
          by_cases hy2 : y.1 = 43 ∨ y.1 = 45
          · rw [if_pos hy2]
            obtain ⟨J3, n1, n2, n3⟩ := psJ_nx hN o4 (by omega)
            have hpi2 := psI_nx o3
            have hpy : pc y.1 = 1 := by unfold pc; rw [if_neg (by omega)]
            have hp0 : pc 0 = 0 := rfl
            have hpny : pn 0 (pn y.1 st0) = false :: st0 := by unfold pn; rw [if_pos rfl, if_neg (show ¬ y.1 = 0 by omega)]
            obtain ⟨b, I', J', r1, r2, r3, r4, r5, r6⟩ := ih r' 0 y.1 N f2' g (i4 + 1) B (nxI I2) J3 (S ++ U2) st0 (by omega) (by omega) (by omega) (by omega) hpi2 n3 (cC_nx o5) (sS_n n2 o6) (Or.inl rfl) (by omega) (by omega) hB2 (by omega) hst
            rw [hpny] at r6
            refine ⟨b, I', J', r1, ?_, frE_t a4 (frE_t o9 (frE_t (frE_nx _) r3)), frF_t b6 (frF_t o10 (frF_t (frF_n n2) r4)), r5, fun hb => okE_app (r6 hb) (by rw [List.length_cons, List.length_cons]; omega) o7⟩
            have h29 : bX10_sumUp_29 N (lX10_sumUp_9 N f2') J2 = rS N N f2' 0 y.1 J3 := by
              rw [bX10_sumUp_29, htok2]
              rcases hy2 with z | z
              · refine e_f ?_ ?_
                · rw [show (143 : Int32) = nI 143 from rfl, ne_eq, q143]
                  exact fun q => q z
                · rw [bX10_sumUp_46, z]
                  exact e_lt rfl (e_cv n1 rfl)
              · refine e_t ?_ ?_
                · rw [show (143 : Int32) = nI 143 from rfl, ne_eq, q143]
                  omega
                · rw [bX10_sumUp_46, z]
                  exact e_lt rfl (e_cv n1 rfl)
            by_cases h43 : y.1 = 43
            · exact e_t (by rw [show (143 : Int32) = nI 143 from rfl, q143]; exact h43) (h29.trans r2)
            · exact e_f (by rw [show (143 : Int32) = nI 143 from rfl, q143]; exact h43) (e_f (by rw [show (145 : Int32) = nI 145 from rfl, ne_eq, q145]; exact fun q => q (hy2.resolve_left h43)) (h29.trans r2))
          · rw [if_neg hy2]
            refine ⟨true, I2, J2, rfl, e_f (by rw [show (143 : Int32) = nI 143 from rfl, q143]; exact fun z => hy2 (Or.inl z)) (e_t (by rw [show (145 : Int32) = nI 145 from rfl, ne_eq, q145]; exact fun z => hy2 (Or.inr z)) rfl), frE_t a4 o9, frF_t b6 o10, (fun z => by cases z), fun _ => ⟨y :: r', U2, by rw [List.length_cons, List.length_cons, List.length_cons]; omega, o3, o4, o5, o6, o7, ?_⟩⟩
            rw [o8, List.length_cons]
            omega
end
