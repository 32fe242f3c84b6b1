-- ===== rows one behind another =====
def remT {α : Type} (f : Nat → List α) : Nat → Nat → List α
  | _, 0 => []
  | i, d + 1 => f i ++ remT f (i + 1) d
theorem remT_s {α : Type} (f : Nat → List α) : ∀ d i, remT f i (d + 1) = remT f i d ++ f (i + d) := by
  intro d
  induction d with
  | zero =>
    intro i
    show f i ++ [] = [] ++ f (i + 0)
    rw [List.append_nil, List.nil_append, Nat.add_zero]
  | succ d ih =>
    intro i
    show f i ++ remT f (i + 1) (d + 1) = (f i ++ remT f (i + 1) d) ++ f (i + (d + 1))
    rw [ih (i + 1), List.append_assoc, show i + 1 + d = i + (d + 1) by omega]
theorem rnd_rem (f : Nat → List Pc) : ∀ d i, rnd (remT f i d) = remT (fun q => rnd (f q)) i d := by
  intro d
  induction d with
  | zero => exact fun _ => rfl
  | succ d ih =>
    intro i
    show rnd (f i ++ remT f (i + 1) d) = _
    rw [rnd_a, ih]
    rfl
theorem tks_rem (f : Nat → List Pc) : ∀ d i, tks (remT f i d) = remT (fun q => tks (f q)) i d := by
  intro d
  induction d with
  | zero => exact fun _ => rfl
  | succ d ih =>
    intro i
    show tks (f i ++ remT f (i + 1) d) = _
    rw [tks_a, ih]
    rfl
theorem wf_rem {f : Nat → List Pc} {n : Nat} (h1 : ∀ i, i < n → wfB 0 (f i) = true) (h2 : ∀ i, i < n → stB 0 (f i) = 0) : ∀ d i, i + d ≤ n → wfB 0 (remT f i d) = true := by
  intro d
  induction d with
  | zero => exact fun _ _ => rfl
  | succ d ih =>
    intro i hi
    exact wf_app (h1 i (by omega)) (h2 i (by omega)) (ih (i + 1) (by omega))
theorem nm_rem {f : Nat → List Pc} {n : Nat} (h1 : ∀ i, i < n → nmB (f i)) : ∀ d i, i + d ≤ n → nmB (remT f i d) := by
  intro d
  induction d with
  | zero => exact fun _ _ p hp => absurd hp (List.not_mem_nil)
  | succ d ih =>
    intro i hi
    exact nm_app (h1 i (by omega)) (ih (i + 1) (by omega))
theorem remT_cong {α : Type} {f g : Nat → List α} {n : Nat} (h : ∀ i, i < n → f i = g i) : ∀ d i, i + d ≤ n → remT f i d = remT g i d := by
  intro d
  induction d with
  | zero => exact fun _ _ => rfl
  | succ d ih =>
    intro i hi
    show f i ++ remT f (i + 1) d = g i ++ remT g (i + 1) d
    rw [h i (by omega), ih (i + 1) (by omega)]
section
variable {N M t rd n : Nat} {c : Nat → Nat} {I J J' : xc_M} {s : List Nat}
def refR (N rd : Nat) : xc_M → Option (Int32 × xc_M) := if rd = 0 then fX10_aMeaning N else if rd = 2 then fX10_aWalk N else fX10_aNeed N
theorem psL_14 {L : List (Nat × Nat)} (h : psL c t rd J L) : J 0 14 = nI rd := by
  obtain ⟨T, h1, -⟩ := h
  exact h1.2.1
theorem rows_run2 (hrd : rd = 0 ∨ rd = 2 ∨ rd = 3) {k0 : Nat} (tk : Nat → List (Nat × Nat)) (hk : ∀ i, i < n → ∃ v r, tk i = (k0, v) :: r) (hk0 : tm rd k0 ≠ 0 ∧ tm rd k0 < 1000) (inv : Nat → xc_M → Prop) (hstep : ∀ i J L, i < n → psL c t rd J (tk i ++ L) → inv i J → ∃ J', refR N rd J = some (nI 1, J') ∧ psL c t rd J' L ∧ inv (i + 1) J') : ∀ d i f J, i + d = n → d < f → psL c t rd J (remT tk i d ++ [(0, 0)]) → inv i J → ∃ J', lX10_readsRows_7 N f (nI 1) J = some (nI 1, J') ∧ inv n J' := by
  intro d
  induction d with
  | zero =>
    intro i f J hi hf h hv
    obtain ⟨g, rfl⟩ : ∃ g, f = g + 1 := ⟨f - 1, by omega⟩
    have h' : psL c t rd J ((0, 0) :: []) := h
    obtain ⟨ht, -⟩ := psL_tok h'
    have e : i = n := by omega
    subst e
    refine ⟨J, ?_, hv⟩
    rw [lX10_readsRows_7, bX10_readsRows_7]
    refine e_f (by decide) (e_t ?_ rfl)
    rw [ht]
    rfl
  | succ d ih =>
    intro i f J hi hf h hv
    obtain ⟨g, rfl⟩ : ∃ g, f = g + 1 := ⟨f - 1, by omega⟩
    have h' : psL c t rd J (tk i ++ (remT tk (i + 1) d ++ [(0, 0)])) := by
      rw [← List.append_assoc]
      exact h
    obtain ⟨v, r, hvr⟩ := hk i (by omega)
    have h2 := h'
    rw [hvr] at h2
    obtain ⟨ht, -⟩ := psL_tok h2
    obtain ⟨J1, g1, g2, g3⟩ := hstep i J _ (by omega) h' hv
    obtain ⟨J2, q1, q2⟩ := ih (i + 1) g J1 (by omega) (by omega) g2 g3
    refine ⟨J2, ?_, q2⟩
    have h14 := psL_14 h'
    have h51 : bX10_readsRows_51 N (lX10_readsRows_7 N g) (nI 1) J1 = some (nI 1, J2) := by
      unfold bX10_readsRows_51
      exact e_lt rfl q1
    rw [lX10_readsRows_7, bX10_readsRows_7]
    refine e_f (by decide) (e_f ?_ ?_)
    · rw [ht, show (0 : Int32) = nI 0 from rfl, xp_eq (by omega) (by omega)]
      exact hk0.1
    · rw [h14]
      unfold refR at g1
      rcases hrd with rfl | rfl | rfl
      · exact e_f (fun z => z rfl) (e_cl g1 h51)
      · exact e_t (by decide) (e_f (fun z => z rfl) (e_cl g1 h51))
      · exact e_t (by decide) (e_t (by decide) (e_cl g1 h51))
-- walks
def wkPc (d p w x : Nat) : List Pc := pc7 ++ ((1, d, []) :: (pc2 ++ ((1, p, []) :: ((if w = 0 then pc8 ++ [(1, x, [])] else if w = 1 then pc9 ++ [(1, x, [])] else pc10) ++ pc3))))
theorem wk_tks (d p w x : Nat) (hw : w < 3) : tks (wkPc d p w x) = wkTk d p w x := by
  have hc : w = 0 ∨ w = 1 ∨ w = 2 := by omega
  rcases hc with rfl | rfl | rfl
  · show tks (pc7 ++ ((1, d, []) :: (pc2 ++ ((1, p, []) :: ((pc8 ++ [(1, x, [])]) ++ pc3))))) = _
    rw [tks_a, tks_num, tks_a, tks_num, tks_a, tks_a, pc7_t, pc2_t, pc8_t, pc3_t]
    rfl
  · show tks (pc7 ++ ((1, d, []) :: (pc2 ++ ((1, p, []) :: ((pc9 ++ [(1, x, [])]) ++ pc3))))) = _
    rw [tks_a, tks_num, tks_a, tks_num, tks_a, tks_a, pc7_t, pc2_t, pc9_t, pc3_t]
    rfl
  · show tks (pc7 ++ ((1, d, []) :: (pc2 ++ ((1, p, []) :: (pc10 ++ pc3))))) = _
    rw [tks_a, tks_num, tks_a, tks_num, tks_a, pc7_t, pc2_t, pc10_t, pc3_t]
    rfl
theorem wk_wf (d p w x : Nat) (hw : w < 3) : wfB 0 (wkPc d p w x) = true ∧ stB 0 (wkPc d p w x) = 0 := by
  have hc : w = 0 ∨ w = 1 ∨ w = 2 := by omega
  have hs : ∀ (Q : List Pc) (l : Nat), stB l (Q ++ pc3) = 0 := fun Q l => by
    rw [st_app]
    rfl
  rcases hc with rfl | rfl | rfl
  · refine ⟨?_, ?_⟩
    · show wfB 0 (pc7 ++ ((1, d, []) :: (pc2 ++ ((1, p, []) :: ((pc8 ++ [(1, x, [])]) ++ pc3))))) = true
      rw [List.append_assoc]
      exact wf_app pc7_w0 pc7_s0 (wf_num (by decide) (wf_app pc2_w2 pc2_s2 (wf_num (by decide) (wf_app pc8_w2 pc8_s2 (wf_num (by decide) pc3_w2)))))
    · show stB 0 (pc7 ++ ((1, d, []) :: (pc2 ++ ((1, p, []) :: ((pc8 ++ [(1, x, [])]) ++ pc3))))) = 0
      rw [st_app]
      show stB 2 (pc2 ++ ((1, p, []) :: ((pc8 ++ [(1, x, [])]) ++ pc3))) = 0
      rw [st_app]
      exact hs _ _
  · refine ⟨?_, ?_⟩
    · show wfB 0 (pc7 ++ ((1, d, []) :: (pc2 ++ ((1, p, []) :: ((pc9 ++ [(1, x, [])]) ++ pc3))))) = true
      rw [List.append_assoc]
      exact wf_app pc7_w0 pc7_s0 (wf_num (by decide) (wf_app pc2_w2 pc2_s2 (wf_num (by decide) (wf_app pc9_w2 pc9_s2 (wf_num (by decide) pc3_w2)))))
    · show stB 0 (pc7 ++ ((1, d, []) :: (pc2 ++ ((1, p, []) :: ((pc9 ++ [(1, x, [])]) ++ pc3))))) = 0
      rw [st_app]
      show stB 2 (pc2 ++ ((1, p, []) :: ((pc9 ++ [(1, x, [])]) ++ pc3))) = 0
      rw [st_app]
      exact hs _ _
  · refine ⟨?_, ?_⟩
    · show wfB 0 (pc7 ++ ((1, d, []) :: (pc2 ++ ((1, p, []) :: (pc10 ++ pc3))))) = true
      exact wf_app pc7_w0 pc7_s0 (wf_num (by decide) (wf_app pc2_w2 pc2_s2 (wf_num (by decide) (wf_app pc10_w2 pc10_s2 pc3_w1))))
    · show stB 0 (pc7 ++ ((1, d, []) :: (pc2 ++ ((1, p, []) :: (pc10 ++ pc3))))) = 0
      rw [st_app]
      show stB 2 (pc2 ++ ((1, p, []) :: (pc10 ++ pc3))) = 0
      rw [st_app]
      exact hs _ _
theorem wk_nm {d p w x : Nat} (hd : d < 1000) (hp : p < 1000) (hx : x < 1000) : nmB (wkPc d p w x) := by
  have n1 : nmB [(1, x, [])] := nm_num hx (fun q hq => absurd hq (List.not_mem_nil))
  unfold wkPc
  refine nm_app pc7_n (nm_num hd (nm_app pc2_n (nm_num hp (nm_app ?_ pc3_n))))
  split
  · exact nm_app pc8_n n1
  · split
    · exact nm_app pc9_n n1
    · exact pc10_n
theorem c_text2 (hN : 1000 ≤ N) (hM : 60 ≤ M) (h : RR I J) (hn : n ≤ 12) {D P W X : Nat → Nat} (hb : ∀ i, i < n → D i < 1000 ∧ P i < xr (J 1) 63 ∧ W i < 3 ∧ (W i = 0 → X i < 10) ∧ (W i = 1 → X i < xr (J 1) 62) ∧ (W i = 2 → X i = 0)) (hs : s = rnd (remT (fun i => wkPc (D i) (P i) (W i) (X i)) 0 n)) (hT : TQ s.length (txc s) J) : ∃ I2 J2, fX9_text N M 2 I = some (nI n, I2) ∧ RR I2 J2 ∧ (∀ j, j ≠ 67 → j < 628 ∨ 692 ≤ j → J2 1 j = J 1 j) ∧ J2 1 67 = nI n ∧ (∀ i, i < n → J2 1 (628 + 4 * i) = nI (D i) ∧ J2 1 (629 + 4 * i) = nI (P i) ∧ J2 1 (630 + 4 * i) = nI (9 + W i) ∧ J2 1 (631 + 4 * i) = nI (X i)) ∧ J2 0 18 = nI 0 ∧ J2 0 4 = nI 0 := by
  have hw := h.1.i
  have hW := hw.nWB
  have hP := hw.nPB
  obtain ⟨v, I2, J2, g1, g2, g3⟩ := text_both hN hM h 2
  have hx : ∀ i, i < n → X i < 1000 := fun i hi => by
    obtain ⟨-, -, b3, b4, b5, b6⟩ := hb i hi
    have hc : W i = 0 ∨ W i = 1 ∨ W i = 2 := by omega
    rcases hc with e | e | e
    · have := b4 e
      omega
    · have := b5 e
      omega
    · have := b6 e
      omega
  obtain ⟨J7, q1, q2, q3, q4, -⟩ := tx_pre (M := M) hN (show 2 < 4 by omega) hs (wf_rem (n := n) (fun i hi => (wk_wf _ _ _ _ (hb i hi).2.2.1).1) (fun i hi => (wk_wf _ _ _ _ (hb i hi).2.2.1).2) n 0 (by omega)) (nm_rem (n := n) (fun i hi => wk_nm (hb i hi).1 (by have := (hb i hi).2.1; omega) (hx i hi)) n 0 (by omega)) hT
  rw [tks_rem, remT_cong (n := n) (g := fun i => wkTk (D i) (P i) (W i) (X i)) (fun i hi => wk_tks _ _ _ _ (hb i hi).2.2.1) n 0 (by omega)] at q2
  have w7 : J7 1 = J 1 := q3 1 (by omega)
  obtain ⟨J8, r1, r2, r3, r4, r5⟩ := rows_run2 (N := N) (n := n) (Or.inr (Or.inl rfl)) (k0 := 116) (fun i => wkTk (D i) (P i) (W i) (X i)) (fun i _ => ⟨0, _, rfl⟩) ⟨by decide, by decide⟩ (fun i K => K 0 17 = nI i ∧ (∀ a, a ≠ 0 → a ≠ 9 → K a = J7 a) ∧ (∀ q, q ≠ 28 → q ≠ 17 → q < 19 ∨ 24 < q → K 0 q = J7 0 q) ∧ ∀ l, l < i → K 9 (4 * l) = nI (D l) ∧ K 9 (4 * l + 1) = nI (P l) ∧ K 9 (4 * l + 2) = nI (9 + W l) ∧ K 9 (4 * l + 3) = nI (X l)) (by
    intro i K L hi hL hv
    obtain ⟨v1, v2, v3, v4⟩ := hv
    obtain ⟨b1, b2, b3, b4, b5, b6⟩ := hb i hi
    have k1 : K 1 = J 1 := (v2 1 (by omega) (by omega)).trans w7
    obtain ⟨K', x1, x2, x3, x4, x5, x6, x7, x8, x9, x10⟩ := walk_all hN (nW := xr (J 1) 62) (nP := xr (J 1) 63) (by rw [k1]; exact hw.nW) (by rw [k1]; exact hw.nP) hW hP b1 b2 b3 b4 b5 b6 (R := i) (by omega) v1 hL
    refine ⟨K', x1, x2, x3, fun a a1 a2 => (x8 a a1 a2).trans (v2 a a1 a2), fun q y1 y2 y3 => (x9 q y1 y2 y3).trans (v3 q y1 y2 y3), fun l hl => ?_⟩
    by_cases e : l = i
    · subst e
      exact ⟨x4, x5, x6, x7⟩
    · rw [x10 _ (by omega), x10 _ (by omega), x10 _ (by omega), x10 _ (by omega)]
      exact v4 l (by omega)) n 0 N (xc_wr J7 0 17 (nI 0)) (by omega) (by omega) (psL_w17 q2 _) ⟨xp_wr_s _ _ _ _, fun a a1 _ => xp_wr_cell a1, fun q _ y2 _ => xp_wr_k y2, fun l hl => absurd hl (by omega)⟩
  obtain ⟨J9, y1, y2, y3, y4, y5⟩ := rv_puts (J := xc_wr (xc_wr J8 0 18 (nI 0)) 0 4 (nI 0)) hN (R := n) (p := 628) (e := 4) (m := 67) (Z := J8 9) (by rw [xp_wr_cell (by omega), xp_wr_cell (by omega)]) (by omega) (by omega) (by omega) (by omega) (by omega) (by omega) (by rw [xp_wr_k (by omega), xp_wr_k (by omega)]; exact r2)
  have hq : fX10_text N M 2 J = some (nI n, J9) := by
    refine q1 _ ?_
    refine e_t (by decide) (e_cl (v := nI 1) (J := J8) ?_ ?_)
    · unfold fX10_readsRows
      exact e_mw rfl (e_lt rfl r1)
    · unfold bX10_text_61
      refine e_lt rfl (e_mw rfl (e_f (by decide) (e_cl (v := nI n) (J := J9) ?_ rfl)))
      unfold fX10_putsText
      exact e_f (by decide) (e_f (by decide) (e_t rfl (e_cv (v := nI 0) (J := xc_wr (xc_wr J8 0 18 (nI 0)) 0 4 (nI 0)) rfl (e_cl y1 rfl))))
  obtain ⟨z1, z2⟩ := some_det2 g2 hq
  subst z1 z2
  have w8 : J8 1 = J 1 := (r3 1 (by omega) (by omega)).trans w7
  refine ⟨I2, J2, g1, g3, fun j j1 j2 => ?_, y4, fun i hi => ?_, ?_, ?_⟩
  · rw [y3 j j1 (by omega), xp_wr_cell (by omega), xp_wr_cell (by omega), w8]
  · obtain ⟨u1, u2, u3, u4⟩ := r5 i hi
    refine ⟨(y5 (4 * i) (by omega)).trans u1, ?_, ?_, ?_⟩
    · rw [show 629 + 4 * i = 628 + (4 * i + 1) by omega, y5 _ (by omega)]
      exact u2
    · rw [show 630 + 4 * i = 628 + (4 * i + 2) by omega, y5 _ (by omega)]
      exact u3
    · rw [show 631 + 4 * i = 628 + (4 * i + 3) by omega, y5 _ (by omega)]
      exact u4
  · rw [y2 0 (by omega), xp_wr_k (by omega), xp_wr_s]
  · rw [y2 0 (by omega), xp_wr_s]
-- needs
def ndPc (m d w : Nat) : List Pc := pc4 ++ ((1, m, []) :: (pc5 ++ ((1, d, []) :: (pc6 ++ ((1, w, []) :: pc3)))))
def ndTk (m d w : Nat) : List (Nat × Nat) := (120, 0) :: (2, m) :: (121, 0) :: (2, d) :: (122, 0) :: (2, w) :: (59, 0) :: []
theorem nd_tks (m d w : Nat) : tks (ndPc m d w) = ndTk m d w := by
  unfold ndPc
  rw [tks_a, tks_num, tks_a, tks_num, tks_a, tks_num, pc4_t, pc5_t, pc6_t, pc3_t]
  rfl
theorem nd_wf (m d w : Nat) : wfB 0 (ndPc m d w) = true ∧ stB 0 (ndPc m d w) = 0 := by
  refine ⟨wf_app pc4_w0 pc4_s0 (wf_num (by decide) (wf_app pc5_w2 pc5_s2 (wf_num (by decide) (wf_app pc6_w2 pc6_s2 (wf_num (by decide) pc3_w2))))), ?_⟩
  unfold ndPc
  rw [st_app]
  show stB 2 (pc5 ++ ((1, d, []) :: (pc6 ++ ((1, w, []) :: pc3)))) = 0
  rw [st_app]
  show stB 2 (pc6 ++ ((1, w, []) :: pc3)) = 0
  rw [st_app]
  rfl
theorem nd_nm {m d w : Nat} (hm : m < 1000) (hd : d < 1000) (hw : w < 1000) : nmB (ndPc m d w) := nm_app pc4_n (nm_num hm (nm_app pc5_n (nm_num hd (nm_app pc6_n (nm_num hw pc3_n)))))
theorem c_text3 (hN : 1000 ≤ N) (hM : 60 ≤ M) (h : RR I J) (hn : n ≤ 10) {A D W : Nat → Nat} (hb : ∀ i, i < n → A i < xr (J 1) 66 ∧ D i < 1000 ∧ 1 ≤ W i ∧ W i < 100) (hs : s = rnd (remT (fun i => ndPc (A i) (D i) (W i)) 0 n)) (hT : TQ s.length (txc s) J) : ∃ I2 J2, fX9_text N M 3 I = some (nI n, I2) ∧ RR I2 J2 ∧ (∀ j, j ≠ 68 → j < 692 ∨ 728 ≤ j → J2 1 j = J 1 j) ∧ J2 1 68 = nI n ∧ J2 0 18 = nI 0 ∧ J2 0 4 = J 0 4 ∧ J2 3 = J 3 := by
  have hw := h.1.i
  have hMB := hw.nMB
  obtain ⟨v, I2, J2, g1, g2, g3⟩ := text_both hN hM h 3
  obtain ⟨J7, q1, q2, q3, q4, -⟩ := tx_pre (M := M) hN (show 3 < 4 by omega) hs (wf_rem (n := n) (fun i _ => (nd_wf _ _ _).1) (fun i _ => (nd_wf _ _ _).2) n 0 (by omega)) (nm_rem (n := n) (fun i hi => nd_nm (by have := (hb i hi).1; omega) (hb i hi).2.1 (by have := (hb i hi).2.2.2; omega)) n 0 (by omega)) hT
  rw [tks_rem, remT_cong (n := n) (g := fun i => ndTk (A i) (D i) (W i)) (fun i hi => nd_tks _ _ _) n 0 (by omega)] at q2
  have w7 : J7 1 = J 1 := q3 1 (by omega)
  obtain ⟨J8, r1, r2, r3, r4⟩ := rows_run2 (N := N) (n := n) (Or.inr (Or.inr rfl)) (k0 := 120) (fun i => ndTk (A i) (D i) (W i)) (fun i _ => ⟨0, _, rfl⟩) ⟨by decide, by decide⟩ (fun i K => K 0 17 = nI i ∧ (∀ a, a ≠ 0 → a ≠ 9 → K a = J7 a) ∧ (∀ q, q ≠ 28 → q ≠ 17 → q < 19 ∨ 24 < q → K 0 q = J7 0 q)) (by
    intro i K L hi hL hv
    obtain ⟨v1, v2, v3⟩ := hv
    obtain ⟨b1, b2, b3, b4⟩ := hb i hi
    have k1 : K 1 = J 1 := (v2 1 (by omega) (by omega)).trans w7
    obtain ⟨K', x1, x2, x3, -, -, -, x8, x9, -⟩ := need_all hN (nM := xr (J 1) 66) (by rw [k1]; exact hw.nM) hMB b1 b2 ⟨b3, b4⟩ (R := i) (by omega) v1 hL
    exact ⟨K', x1, x2, x3, fun a a1 a2 => (x8 a a1 a2).trans (v2 a a1 a2), fun q y1 y2 y3 => (x9 q y1 y2 y3).trans (v3 q y1 y2 y3)⟩) n 0 N (xc_wr J7 0 17 (nI 0)) (by omega) (by omega) (psL_w17 q2 _) ⟨xp_wr_s _ _ _ _, fun a a1 _ => xp_wr_cell a1, fun q _ y2 _ => xp_wr_k y2⟩
  obtain ⟨J9, y1, y2, y3, y4, y5⟩ := rv_puts (J := xc_wr J8 0 18 (nI 0)) hN (R := n) (p := 692) (e := 3) (m := 68) (Z := J8 9) (by rw [xp_wr_cell (by omega)]) (by omega) (by omega) (by omega) (by omega) (by omega) (by omega) (by rw [xp_wr_k (by omega)]; exact r2)
  have hq : fX10_text N M 3 J = some (nI n, J9) := by
    refine q1 _ ?_
    refine e_t (by decide) (e_cl (v := nI 1) (J := J8) ?_ ?_)
    · unfold fX10_readsRows
      exact e_mw rfl (e_lt rfl r1)
    · unfold bX10_text_61
      refine e_lt rfl (e_mw rfl (e_f (by decide) (e_cl (v := nI n) (J := J9) ?_ rfl)))
      unfold fX10_putsText
      exact e_f (by decide) (e_f (by decide) (e_f (by decide) (e_cl y1 rfl)))
  obtain ⟨z1, z2⟩ := some_det2 g2 hq
  subst z1 z2
  have w8 : J8 1 = J 1 := (r3 1 (by omega) (by omega)).trans w7
  refine ⟨I2, J2, g1, g3, fun j j1 j2 => ?_, y4, ?_, ?_, ?_⟩
  · rw [y3 j j1 (by omega), xp_wr_cell (by omega), w8]
  · rw [y2 0 (by omega), xp_wr_s]
  · rw [y2 0 (by omega), xp_wr_k (by omega), r4 4 (by omega) (by omega) (by omega)]
    exact q4 4 (by omega) (by omega) (by omega)
  · rw [y2 3 (by omega), xp_wr_cell (by omega), r3 3 (by omega) (by omega)]
    exact q3 3 (by omega)
end
