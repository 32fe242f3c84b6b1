-- ===== texts: THE LAW is told =====
section
variable {N M : Nat} {I J : xc_M}
theorem seg_code {I : xc_M} {S S1 B S2 : List (Nat × Int32)} (hc : cC I (S.flatMap lenc)) (hS : S = S1 ++ B ++ S2) : (List.range (B.flatMap lenc).length).map (fun j => I 88 ((S1.flatMap lenc).length + j)) = B.flatMap lenc := by
  have h := hc.2
  rw [hS, List.flatMap_append, List.flatMap_append, List.append_assoc] at h
  refine map_get (fun j hj => ?_)
  have := cel_get h j hj
  rw [Nat.zero_add] at this
  exact this
theorem seg_step {J J' : xc_M} {S S1 B S2 : List (Nat × Int32)} (hs : sS J S) (hS : S = S1 ++ B ++ S2) (h33 : ∀ s, s ∈ B → s.1 < 33) (hw : ∀ j, j < 2 * S.length → J' 1 (1412 + j) = J 6 j) : lseg (J' 1) S1.length (S1.length + B.length) = B ∧ ∀ j, j < B.length → vN (J' 1) (1412 + 2 * (S1.length + j)) 33 := by
  have h := hs.2
  rw [hS, List.append_assoc] at h
  have hl : S.length = S1.length + B.length + S2.length := by rw [hS, List.length_append, List.length_append]
  have hg : ∀ j, j < B.length → ∃ s, B[j]? = some s ∧ s.1 < 33 ∧ J' 1 (1412 + 2 * (S1.length + j)) = nI s.1 ∧ J' 1 (1412 + 2 * (S1.length + j) + 1) = s.2 := by
    intro j hj
    obtain ⟨s, s1, s2, s3⟩ := stp_get h j hj
    rw [Nat.zero_add] at s2 s3
    refine ⟨s, s1, h33 s (List.mem_of_getElem? s1), ?_, ?_⟩
    · rw [hw _ (by omega)]
      exact s2
    · rw [show 1412 + 2 * (S1.length + j) + 1 = 1412 + (2 * (S1.length + j) + 1) by omega, hw _ (by omega)]
      exact s3
  constructor
  · unfold lseg
    rw [show S1.length + B.length - S1.length = B.length by omega]
    refine map_get (fun j hj => ?_)
    obtain ⟨s, s1, s2, s3, s4⟩ := hg j hj
    rw [s1, xr_of s3 (by omega), s4]
  · intro j hj
    obtain ⟨s, s1, s2, s3, s4⟩ := hg j hj
    exact vN_mk s3 s2 (by omega)
/-- the law in both worlds, from what both have read -/
theorem law_fin {L : List LLine} {I I9 J J' : xc_M} (h : lwS L I J) (hL : L.length ≤ 16) (hlen : ((sgs L).flatMap lenc).length ≤ 400) (hp : plR J J' L.length (sgs L).length) (h9 : ∀ a k, 22 ≤ a → a < 28 → k < cLen a → I9 (1 + a) k = I (61 + a) k) : vN (J' 1) 65 17 ∧ lI (J' 1) ∧ lR 23 I9 (J' 1) := by
  obtain ⟨g83, g15, gc, gs, gl⟩ := h
  obtain ⟨_, _, p65, prow, pst⟩ := hp
  have hSl := enc_len (sgs L)
  have c65 : vN (J' 1) 65 17 := vN_mk p65 (by omega) (by omega)
  have x65 : xr (J' 1) 65 = L.length := xr_of p65 (by omega)
  have key : ∀ i, i < L.length → ∃ k E B S1 S2, lgd (k, E, B) ∧ sgs L = S1 ++ (E ++ B) ++ S2 ∧ ln1 I J i S1.length (S1.flatMap lenc).length (k, E, B) := by
    intro i hi
    obtain ⟨l, S1, S2, e, g⟩ := lnR_get gl i hi
    rw [Nat.zero_add, Nat.zero_add, Nat.zero_add] at g
    exact ⟨l.1, l.2.1, l.2.2, S1, S2, g.2.2.2.2.2.2.2.2, e, g⟩
  -- all steps are small
  have hall : ∀ s, s ∈ sgs L → s.1 < 33 := by
    have : ∀ (L : List LLine), (∀ l, l ∈ L → lgd l) → ∀ s, s ∈ sgs L → s.1 < 33 := by
      intro L hL s hs
      unfold sgs at hs
      obtain ⟨l, l1, l2⟩ := List.mem_flatMap.mp hs
      obtain ⟨_, _, d3, d4⟩ := hL l l1
      rcases List.mem_append.mp l2 with e | e
      · exact ltyp_33 d3 s e
      · have hne : l.2.2 ≠ [] := fun z => by rw [z] at e; exact absurd e (List.not_mem_nil)
        exact ltyp_33 (d4 hne) s e
    refine this L ?_
    have hln : ∀ {L : List LLine} {i p q : Nat}, lnR I J i p q L → ∀ l, l ∈ L → lgd l := by
      intro L
      induction L with
      | nil => exact fun _ l hl => absurd hl (List.not_mem_nil)
      | cons x r ih =>
        intro i p q h l hl
        obtain ⟨_, _, _, _, _, _, _, _, a9, a10⟩ := h
        rcases List.mem_cons.mp hl with e | e
        · rw [e]
          exact a9
        · exact ih a10 l e
    exact hln gl
  refine ⟨c65, fun i hi => ?_, ?_, fun i hi => ?_⟩
  · rw [x65] at hi
    obtain ⟨k, E, B, S1, S2, ⟨d1, d2, d3, d4⟩, e, g1, g2, g3, g4, g5, g6, g7, g8, _⟩ := key i hi
    obtain ⟨r1, r2, r3, r4⟩ := prow i hi
    have hl : (sgs L).length = S1.length + (E.length + B.length) + S2.length := by rw [e, List.length_append, List.length_append, List.length_append]
    replace g6 : J 5 (4 * i + 1) = nI (S1.length + E.length) := g6
    replace g7 : J 5 (4 * i + 2) = nI (S1.length + E.length + B.length) := g7
    replace g8 : J 5 (4 * i + 3) = nI k := g8
    replace d1 : 20 ≤ k := d1
    replace d2 : k ≤ 22 := d2
    replace d3 : ltyp E [] = some [false] := d3
    replace d4 : B ≠ [] → ltyp B [] = some [true] := d4
    have f1 := r1.trans g5
    have f2 := r2.trans g6
    have f3 := r3.trans g7
    have f4 := r4.trans g8
    have x1 := xr_of f1 (by omega)
    have x2 := xr_of f2 (by omega)
    have x3 := xr_of f3 (by omega)
    have x4 := xr_of f4 (by omega)
    have hE := seg_step (S := sgs L) (S1 := S1) (B := E) (S2 := B ++ S2) gs (by rw [e]; simp only [List.append_assoc]) (fun s hs => hall s (by rw [e]; exact List.mem_append_left _ (List.mem_append_right _ (List.mem_append_left _ hs)))) pst
    have hB := seg_step (S := sgs L) (S1 := S1 ++ E) (B := B) (S2 := S2) gs (by rw [e]; simp only [List.append_assoc]) (fun s hs => hall s (by rw [e]; exact List.mem_append_left _ (List.mem_append_right _ (List.mem_append_right _ hs)))) pst
    rw [List.length_append] at hB
    have hA := seg_step (S := sgs L) (S1 := []) (B := sgs L) (S2 := []) gs (by rw [List.append_nil]; rfl) hall pst
    rw [x1, x2, x3, x4]
    refine ⟨vN_mk f1 (by omega) (by omega), vN_mk f2 (by omega) (by omega), vN_mk f3 (by omega) (by omega), vN_mk f4 (by omega) (by omega), d1, by omega, by omega, fun j hj => ?_, ?_, fun hlt => ?_⟩
    · have := hA.2 j (by omega)
      rw [List.length_nil, Nat.zero_add] at this
      exact this
    · rw [hE.1]
      exact d3
    · rw [hB.1]
      exact d4 (fun z => by rw [z, List.length_nil] at hlt; omega)
  · show I9 23 0 = _
    rw [p65]
    exact (h9 22 0 (by omega) (by omega) (by decide)).trans g83
  · rw [x65] at hi
    obtain ⟨k, E, B, S1, S2, ⟨d1, d2, d3, d4⟩, e, g1, g2, g3, g4, g5, g6, g7, g8, _⟩ := key i hi
    obtain ⟨r1, r2, r3, r4⟩ := prow i hi
    have hl : (sgs L).length = S1.length + (E.length + B.length) + S2.length := by rw [e, List.length_append, List.length_append, List.length_append]
    have hlc : ((sgs L).flatMap lenc).length = (S1.flatMap lenc).length + ((E.flatMap lenc).length + (B.flatMap lenc).length) + (S2.flatMap lenc).length := by rw [e, List.flatMap_append, List.flatMap_append, List.flatMap_append, List.length_append, List.length_append, List.length_append]
    replace g3 : I 86 i = nI ((S1.flatMap lenc).length + (E.flatMap lenc).length) := g3
    replace g4 : I 87 i = nI ((S1.flatMap lenc).length + (E.flatMap lenc).length + (B.flatMap lenc).length) := g4
    replace g6 : J 5 (4 * i + 1) = nI (S1.length + E.length) := g6
    replace g7 : J 5 (4 * i + 2) = nI (S1.length + E.length + B.length) := g7
    replace g8 : J 5 (4 * i + 3) = nI k := g8
    replace g1 : I 84 i = nI (k + 84) := g1
    have x1 := xr_of (r1.trans g5) (by omega)
    have x2 := xr_of (r2.trans g6) (by omega)
    have x3 := xr_of (r3.trans g7) (by omega)
    have x4 := xr_of (r4.trans g8) (by have : k ≤ 22 := d2; omega)
    have hE := seg_step (S := sgs L) (S1 := S1) (B := E) (S2 := B ++ S2) gs (by rw [e]; simp only [List.append_assoc]) (fun s hs => hall s (by rw [e]; exact List.mem_append_left _ (List.mem_append_right _ (List.mem_append_left _ hs)))) pst
    have hB := seg_step (S := sgs L) (S1 := S1 ++ E) (B := B) (S2 := S2) gs (by rw [e]; simp only [List.append_assoc]) (fun s hs => hall s (by rw [e]; exact List.mem_append_left _ (List.mem_append_right _ (List.mem_append_right _ hs)))) pst
    rw [List.length_append] at hB
    have kE := seg_code (I := I) (S := sgs L) (S1 := S1) (B := E) (S2 := B ++ S2) gc (by rw [e]; simp only [List.append_assoc])
    have kB := seg_code (I := I) (S := sgs L) (S1 := S1 ++ E) (B := B) (S2 := S2) gc (by rw [e]; simp only [List.append_assoc])
    rw [List.flatMap_append, List.length_append] at kB
    have h28 : ∀ j, j < 400 → I9 28 j = I 88 j := fun j hj => h9 27 j (by omega) (by omega) hj
    have e24 : I9 24 i = I 84 i := h9 23 i (by omega) (by omega) (by show i < 16; omega)
    have e25 : I9 25 i = I 85 i := h9 24 i (by omega) (by omega) (by show i < 16; omega)
    have e26 : I9 26 i = I 86 i := h9 25 i (by omega) (by omega) (by show i < 16; omega)
    have e27 : I9 27 i = I 87 i := h9 26 i (by omega) (by omega) (by show i < 16; omega)
    rw [x1, x2, x3, x4]
    refine ⟨e24.trans g1, (S1.flatMap lenc).length, (S1.flatMap lenc).length + (E.flatMap lenc).length, (S1.flatMap lenc).length + (E.flatMap lenc).length + (B.flatMap lenc).length, e25.trans g2, e26.trans g3, e27.trans g4, by omega, by omega, by omega, ?_, ?_⟩
    · rw [hE.1]
      refine Eq.trans ?_ kE
      unfold lcod
      rw [Nat.add_sub_cancel_left]
      apply List.map_congr_left
      intro j hj
      have hj2 := List.mem_range.mp hj
      exact h28 _ (by omega)
    · rw [hB.1]
      refine Eq.trans ?_ kB
      unfold lcod
      rw [Nat.add_sub_cancel_left]
      apply List.map_congr_left
      intro j hj
      have hj2 := List.mem_range.mp hj
      exact h28 _ (by omega)
theorem text_law (hN : 1000 ≤ N) (hM : 60 ≤ M) (h : RR I J) : ∃ v I' J', fX9_text N M (nI 1) I = some (v, I') ∧ fX10_text N M (nI 1) J = some (v, J') ∧ RR I' J' := by
  have hw := h.1
  obtain ⟨t, c, T, I7, J7, p1, p2, p3, p4, p5, p6, p7⟩ := text_pre (M := M) hN h (k := 1) (by omega)
  obtain ⟨i1, i2, i3, i4, i5, i6⟩ := p4
  obtain ⟨j1, j2, j3, j4⟩ := p5
  obtain ⟨b, v, I8, J8, a1, a2, a3, a4, a5, a6⟩ := law_loop (c := c) (t := t) (M := M) hN hM T.length T I7 (xc_wr (xc_wr J7 0 15 (nI 0)) 0 16 (nI 0)) [] N N 0 (Nat.le_refl _) p1 (psJ_keep p2 (by rw [xp_wr_cell (by omega), xp_wr_cell (by omega)]) (fun k hk => by rw [xp_wr_k (by omega), xp_wr_k (by omega)])) ⟨i5, by rw [xp_wr_k (by omega), xp_wr_s]; rfl, ⟨i6, trivial⟩, ⟨xp_wr_s _ _ _ _, trivial⟩, trivial⟩ (by show 0 ≤ 16; omega) (by show 0 + T.length ≤ 401; omega) (by omega) (by omega) (by omega)
  have hI8 : ∀ a, a < 61 ∨ (90 < a ∧ a < 132) → I8 a = I a := fun a ha => (a3 a (by omega) (by omega)).trans (i1 a (by omega) (by omega) (by omega) (by omega) (by omega))
  have hJ8 : ∀ a, a ≠ 0 → a ≠ 5 → a ≠ 6 → J8 a = J a := fun a b1 b2 b3 => by rw [a4.1 a b1 b2 b3, xp_wr_cell b1, xp_wr_cell b1, j1 a b1]
  have hJ8k : ∀ k, k = 4 ∨ k = 5 → J8 0 k = J 0 k := fun k hk => by rw [a4.2 k (by omega) (by omega) (by omega) (by omega), xp_wr_k (by omega), xp_wr_k (by omega), j2 k (by omega) (by omega) (by omega)]
  have hread : fX6_read N M 1 61 (nI 1) I = some (v, I8) := p6 _ a1
  have hlaw : fX10_readsLaw N M J7 = some (nI b.toNat, J8) := by
    unfold fX10_readsLaw
    exact e_mw rfl (e_mw rfl (e_lt rfl a2))
  cases b with
  | false =>
    obtain ⟨hv, hf⟩ := a5 rfl
    obtain ⟨f1, f2⟩ := text_fail h hI8 (fun a ha => hJ8 a (by omega) (by omega) (by omega)) (hJ8k 4 (by omega)) (hJ8k 5 (by omega)) hf M (nI 1)
    refine ⟨mI, _, _, ?_, p7 _ (e_f (fun z => z rfl) (e_cl hlaw f2)), f1⟩
    unfold fX9_text
    rw [hv] at hread
    exact e_cl hread (e_lt rfl (e_mw rfl (e_f (fun z => z rfl) rfl)))
  | true =>
    obtain ⟨L, hv, hL, hL16, hlen, f0, f1⟩ := a6 rfl
    obtain ⟨I9, c1, c2, c3⟩ := cp_law (b := 61) (b' := 1) (Or.inl (by omega)) (xc_wr I8 130 0 (nI 0))
    have hSl := enc_len (sgs L)
    obtain ⟨J9, d1, d2⟩ := rv_putsLaw (N := N) (nl := L.length) (ns := (sgs L).length) (J := xc_wr J8 0 18 (nI 0)) hN hL16 (by omega) (by rw [xp_wr_k (by omega)]; exact hL.2.1) (by rw [xp_wr_k (by omega)]; exact hL.2.2.2.1.1)
    have hLw : lwS L (xc_wr I8 130 0 (nI 0)) (xc_wr J8 0 18 (nI 0)) := by
      obtain ⟨g1, g2, g3, g4, g5⟩ := hL
      exact ⟨by rw [xp_wr_cell (by omega)]; exact g1, by rw [xp_wr_k (by omega)]; exact g2, cC_keep (xp_wr_cell (by omega)) (by rw [xp_wr_cell (by omega)]) g3, sS_keep (xp_wr_cell (by omega)) (xp_wr_k (by omega)) g4, lnR_keep (fun a ha => xp_wr_cell (by omega)) (xp_wr_cell (by omega)) g5⟩
    obtain ⟨e1, e2, e3⟩ := law_fin hLw hL16 hlen d2 c2
    obtain ⟨d3, d4, d5, d6, d7⟩ := d2
    have hI9 : ∀ a, a < 23 ∨ (29 ≤ a ∧ a < 61) ∨ (90 < a ∧ a < 130) → I9 a = I a := fun a ha => by rw [c3 a (by omega), xp_wr_cell (by omega)]; exact hI8 a (by omega)
    have hw9 : ∀ j, j ≠ 65 → j < 1348 → J9 1 j = J 1 j := fun j q1 q2 => by rw [d4 j q1 q2, xp_wr_cell (by omega), hJ8 1 (by omega) (by omega) (by omega)]
    have hJ9 : ∀ a, a = 2 ∨ a = 3 → J9 a = J a := fun a ha => by rw [d3 a (by omega), xp_wr_cell (by omega), hJ8 a (by omega) (by omega) (by omega)]
    have hJ9k : ∀ k, k = 4 ∨ k = 5 → J9 0 k = J 0 k := fun k hk => by rw [d3 0 (by omega), xp_wr_k (by omega), hJ8k k hk]
    have hi := hw.i
    obtain ⟨_, _, _, _, _, _, _, m1, m2, m3, _⟩ := hw.2.2.1
    refine ⟨nI L.length, I9, J9, ?_, p7 _ (e_f (fun z => z rfl) (e_cl hlaw ?_)), ?_⟩
    · unfold fX9_text
      rw [hv] at hread
      refine e_cl hread (e_lt rfl (e_mw rfl (e_t ?_ (e_t (by decide) (e_f (fun z => z rfl) (e_cv c1 rfl))))))
      show nI L.length ≠ mI
      rw [ne_eq, xp_nm1 (by omega)]
      exact fun z => z
    · rw [bX10_text_61]
      refine e_lt rfl (e_mw rfl (e_f (by decide) (e_cl (v := nI L.length) (J := J9) ?_ rfl)))
      unfold fX10_putsText
      exact e_f (by decide) (e_t rfl (e_cl d1 rfl))
    · refine RR_text h ?_ (hw9 0 (by omega) (by omega)) (pastR_keep (fun a q1 q2 => hI9 a (by omega)) (hJ9k 4 (by omega)) (hJ9 3 (by omega)) (xr_eq (hw9 62 (by omega) (by omega))) h.2.2.1) (fun a q1 q2 => hI9 a (by omega)) (by rw [hI9 0 (by omega)]) (hJ9 2 (by omega)) (hJ9k 5 (by omega)) (by rw [c3 130 (by omega), xp_wr_s]) (by rw [d3 0 (by omega), xp_wr_s]) ⟨?_, ?_⟩
      · exact xW_txt hw (fun j hj => hw9 j (by omega) (by omega)) (fun a ha => hI9 a (by omega)) e1 (vN_eq (hw9 66 (by omega) (by omega)) hi.2.2.2.2.2.1) (vN_eq (hw9 67 (by omega) (by omega)) hi.2.2.2.2.2.2.1) (vN_eq (hw9 68 (by omega) (by omega)) hi.2.2.2.2.2.2.2.1) e2 (mIv_q (fun j hj => hw9 j (by omega) (by omega)) hi.nMB ⟨hi.means, hi.ways1⟩) (kIv_q (fun j hj => hw9 j (by omega) (by omega)) hi.nKB hi.walks) (nIv_q (fun j hj => hw9 j (by omega) (by omega)) hi.nNB hi.needs) e3 (mR_q (cc := 19) (fun j hj => hw9 j (by omega) (by omega)) (fun a q1 q2 => hI9 a (by omega)) hi.nMB hi.nWB hi.means m1) (kR_q (cc := 13) (fun j hj => hw9 j (by omega) (by omega)) (fun a q1 q2 => hI9 a (by omega)) hi.nKB m2) (nR_q (cc := 15) (fun j hj => hw9 j (by omega) (by omega)) (fun a q1 q2 => hI9 a (by omega)) hi.nNB m3)
      · rw [c3 132 (by omega), xp_wr_cell (by omega), f0, d3 0 (by omega), xp_wr_k (by omega), a4.2 25 (by omega) (by omega) (by omega) (by omega), xp_wr_k (by omega), xp_wr_k (by omega), j3]
      · rw [c3 132 (by omega), xp_wr_cell (by omega), f1, d3 0 (by omega), xp_wr_k (by omega), a4.2 27 (by omega) (by omega) (by omega) (by omega), xp_wr_k (by omega), xp_wr_k (by omega), j4]
end
