-- ===== texts: strings, signs, keywords =====
def sL (k : Nat) : Nat := xk_len.getD k 0
def sB (k i : Nat) : Nat := ((xk_byt.getD k []).getD i 0).toNatClampNeg
theorem s_all : (List.range 25).all (fun k => decide (sL k < 200) && (List.range (sL k)).all (fun i => decide ((xk_byt.getD k []).getD i 0 = nI (sB k i)) && decide (sB k i < 128))) = true := by decide +kernel
theorem s_len {k : Nat} (hk : k < 25) : sL k < 200 := by
  have h := List.all_eq_true.mp s_all k (List.mem_range.mpr hk)
  rw [Bool.and_eq_true] at h
  exact of_decide_eq_true h.1
theorem s_byt {k i : Nat} (hk : k < 25) (hi : i < sL k) : (xk_byt.getD k []).getD i 0 = nI (sB k i) ∧ sB k i < 128 := by
  have h := List.all_eq_true.mp s_all k (List.mem_range.mpr hk)
  rw [Bool.and_eq_true] at h
  have h2 := List.all_eq_true.mp h.2 i (List.mem_range.mpr hi)
  rw [Bool.and_eq_true] at h2
  exact ⟨of_decide_eq_true h2.1, of_decide_eq_true h2.2⟩
theorem s_lat (k : Nat) : fJ0_isLatin1_aae02 k = some 1 := rfl
theorem s_length {k : Nat} (hk : k < 25) : fJ0_length_8abf5 k = some (nI (sL k)) := by
  have hl := s_len hk
  unfold fJ0_length_8abf5
  refine e_cr (v := nI 0) rfl ?_
  show some (nI (sL k) >>> (nI 0 &&& nI 31)) = _
  rw [xp_sr (by omega) (by omega), Nat.pow_zero, Nat.div_one]
theorem s_sc {k i : Nat} {f : Int32 → Option Int32} (hk : k < 25) (hi : i < sL k) : xc_sc k (nI i) f = f (nI (sB k i)) := by
  have hl := s_len hk
  unfold xc_sc
  rw [if_neg, nI_clamp (by omega), (s_byt hk hi).1]
  exact (nI_in (N := sL k) hi (by omega))
theorem s_c7 : ∀ b, b < 128 → (((nI b &&& 255) : Int32).toUInt32 % 65536).toInt32 = nI b ∧ ((nI b).toUInt32 % 65536).toInt32 = nI b := by decide
theorem s_charAt {k i : Nat} (hk : k < 25) (hi : i < sL k) : fJ0_charAt_5068e k (nI i) = some (nI (sB k i)) := by
  have hl := s_len hk
  obtain ⟨h1, h2⟩ := s_byt hk hi
  obtain ⟨h3, h4⟩ := s_c7 _ h2
  unfold fJ0_charAt_5068e
  refine e_cr (s_lat k) (e_f (by decide) (e_cr (v := nI (sB k i)) ?_ ?_))
  · unfold fJ1_charAt_3b067
    refine e_cr (v := 0) ?_ ?_
    · unfold fJ0_checkIndex_df160 fJ3_checkIndex_8e157
      refine e_cr (v := nI i) (e_f (nI_pos (by omega)) (e_t ?_ rfl)) rfl
      show nI i < nI (sL k)
      rw [xp_ltI (by omega) (by omega)]
      exact hi
    · rw [s_sc hk hi, h3]
  · unfold xc_rc
    rw [if_pos h4]
-- signs
def sgB (c : Nat) : Bool := anyB (fun i => decide (sB 1 i = c)) 10
theorem sg_8 : (List.range 256).all (fun c => decide (((nI c).toUInt32 % 65536).toInt32 = nI c) && (List.range 10).all (fun i => decide (nI (sB 1 i) = (nI c).toInt8.toInt32) == decide (sB 1 i = c))) = true := by decide +kernel
theorem sg_9 {c i : Nat} (hc : c < 256) (hi : i < 10) : (nI (sB 1 i) = (nI c).toInt8.toInt32) ↔ sB 1 i = c := by
  have h := List.all_eq_true.mp sg_8 c (List.mem_range.mpr hc)
  rw [Bool.and_eq_true] at h
  have h2 := eq_of_beq (List.all_eq_true.mp h.2 i (List.mem_range.mpr hi))
  exact decide_eq_decide.mp h2
theorem sg_7 {c : Nat} (hc : c < 256) : ((nI c).toUInt32 % 65536).toInt32 = nI c := by
  have h := List.all_eq_true.mp sg_8 c (List.mem_range.mpr hc)
  rw [Bool.and_eq_true] at h
  exact of_decide_eq_true h.1
theorem cv_isSign {N c : Nat} (hN : 1000 ≤ N) (hc : c < 256) : fX6_isSign N (nI c) = some (nI (sgB c).toNat) := by
  unfold fX6_isSign
  rw [sg_7 hc]
  have hfind : fJ1_indexOfChar_4cfef N 1 (nI c) 0 (nI 10) = (match fstP (fun i => decide (sB 1 i = c)) 10 with
    | some i => some (nI i)
    | none => some mI) := by
    unfold fJ1_indexOfChar_4cfef
    refine e_lt rfl (e_lt rfl ?_)
    refine xp_find (fun fu i => lJ1_indexOfChar_4cfef_7 N 1 fu (nI 10) (nI c).toInt8.toInt32 (nI i)) (fun i => decide (sB 1 i = c)) 10 (fun i => some (nI i)) (some mI) ?_ ?_ ?_ N (by omega)
    · intro fu
      show lJ1_indexOfChar_4cfef_7 N 1 (fu + 1) _ _ _ = _
      rw [lJ1_indexOfChar_4cfef_7, bJ1_indexOfChar_4cfef_7]
      exact e_t (by decide) rfl
    · intro fu i hi hp
      show lJ1_indexOfChar_4cfef_7 N 1 (fu + 1) _ _ _ = _
      rw [lJ1_indexOfChar_4cfef_7, bJ1_indexOfChar_4cfef_7, s_sc (by omega) (show i < sL 1 from hi)]
      refine e_f (by rw [xp_le (by omega) (by omega)]; omega) (e_t ?_ (e_lt (nI_add i 1) rfl))
      intro z
      exact of_decide_eq_false hp ((sg_9 hc hi).mp z)
    · intro fu i hi hp
      show lJ1_indexOfChar_4cfef_7 N 1 (fu + 1) _ _ _ = _
      rw [lJ1_indexOfChar_4cfef_7, bJ1_indexOfChar_4cfef_7, s_sc (by omega) (show i < sL 1 from hi)]
      refine e_f (by rw [xp_le (by omega) (by omega)]; omega) (e_f ?_ rfl)
      intro z
      exact z ((sg_9 hc hi).mpr (of_decide_eq_true hp))
  have hix : fJ0_indexOf_0f7a4 N 1 (nI c) = (match fstP (fun i => decide (sB 1 i = c)) 10 with
    | some i => some (nI i)
    | none => some mI) := by
    have h2 : fJ0_indexOf_7cf53 N 1 (nI c) 0 = (match fstP (fun i => decide (sB 1 i = c)) 10 with
      | some i => some (nI i)
      | none => some mI) := by
      unfold fJ0_indexOf_7cf53
      refine e_cr (s_lat 1) (e_f (by decide) (e_cr (s_length (by omega)) ?_))
      have h3 : fJ1_indexOf_4cfef N 1 (nI c) 0 (nI (sL 1)) = (match fstP (fun i => decide (sB 1 i = c)) 10 with
        | some i => some (nI i)
        | none => some mI) := by
        unfold fJ1_indexOf_4cfef
        refine e_cr (v := 1) ?_ (e_t (by decide) (e_lt (v := 0) rfl (e_lt rfl (e_lt (v := nI 10) rfl (e_lt rfl (e_t (by decide) ?_))))))
        · unfold fJ1_canEncode_9a6ad
          refine e_f (nI_pos (by omega)) (e_f ?_ rfl)
          rw [show (255 : Int32) = nI 255 from rfl, xp_ltI (by omega) (by omega)]
          omega
        · rw [hfind]
          cases fstP (fun i => decide (sB 1 i = c)) 10 <;> rfl
      rw [h3]
      cases fstP (fun i => decide (sB 1 i = c)) 10 <;> rfl
    unfold fJ0_indexOf_0f7a4
    rw [h2]
    cases fstP (fun i => decide (sB 1 i = c)) 10 <;> rfl
  rw [hix]
  have hsp := fstP_spec (fun i => decide (sB 1 i = c)) 10
  have hs : sgB c = (fstP (fun i => decide (sB 1 i = c)) 10).isSome := anyB_fst _ _
  rw [hs]
  cases hq : fstP (fun i => decide (sB 1 i = c)) 10 with
  | none =>
    show (if mI < (0 : Int32) then some (0 : Int32) else some 1) = some (nI 0)
    rw [if_pos (show mI < (0 : Int32) by decide)]
    rfl
  | some i =>
    rw [hq] at hsp
    exact e_f (nI_pos (by have := hsp.1; omega)) rfl
-- words of the text
def alF (P : Nat → Bool) : Nat → Nat → Bool
  | _, 0 => true
  | i, d + 1 => P i && alF P (i + 1) d
theorem alF_iff {P : Nat → Bool} : ∀ d i, alF P i d = true ↔ ∀ j, i ≤ j → j < i + d → P j = true := by
  intro d
  induction d with
  | zero => exact fun i => ⟨fun _ j h1 h2 => absurd h1 (by omega), fun _ => rfl⟩
  | succ d ih =>
    intro i
    show (P i && alF P (i + 1) d) = true ↔ _
    rw [Bool.and_eq_true, ih (i + 1)]
    constructor
    · intro h j h1 h2
      by_cases e : j = i
      · rw [e]
        exact h.1
      · exact h.2 j (by omega) (by omega)
    · intro h
      exact ⟨h i (by omega) (by omega), fun j h1 h2 => h j (by omega) (by omega)⟩
/-- the letters from q to e are the string k -/
def mB (c : Nat → Nat) (q e k : Nat) : Bool := decide (e - q = sL k) && alF (fun i => decide (c (q + i) = sB k i)) 0 (sL k)
section
variable {N : Nat} {I J : xc_M}
theorem rv_is {c : Nat → Nat} {q e k : Nat} (hN : 1000 ≤ N) (hk : k < 25) (h19 : J 0 19 = nI e) (h21 : J 0 21 = nI q) (hqe : q ≤ e) (he : e ≤ 400) (hb : ∀ j, q ≤ j → j < e → J 10 j = nI (c j) ∧ c j < 256) : fX10_is N k J = some (nI (mB c q e k).toNat) := by
  have hl := s_len hk
  have hz : ∀ fu i, lX10_is_24 N k J (fu + 1) (nI 0) (nI i) = some (nI 0) := by
    intro fu i
    rw [lX10_is_24, bX10_is_24]
    refine e_cr (s_length hk) ?_
    by_cases h : nI (sL k) ≤ nI i
    · exact e_t h rfl
    · exact e_f h (e_t rfl rfl)
  have hone : e - q = sL k → ∀ d i fu, i + d = sL k → d < fu → lX10_is_24 N k J fu (nI 1) (nI i) = some (nI (alF (fun i => decide (c (q + i) = sB k i)) i d).toNat) := by
    intro heq d
    induction d with
    | zero =>
      intro i fu hi hf
      obtain ⟨g, rfl⟩ : ∃ g, fu = g + 1 := ⟨fu - 1, by omega⟩
      rw [lX10_is_24, bX10_is_24]
      exact e_cr (s_length hk) (e_t (by rw [xp_le (by omega) (by omega)]; omega) rfl)
    | succ d ih =>
      intro i fu hi hf
      obtain ⟨g, rfl⟩ : ∃ g, fu = g + 1 := ⟨fu - 1, by omega⟩
      obtain ⟨b1, b2⟩ := hb (q + i) (by omega) (by omega)
      have hs := (s_byt hk (show i < sL k by omega)).2
      rw [lX10_is_24, bX10_is_24]
      refine e_cr (s_length hk) (e_f (by rw [xp_le (by omega) (by omega)]; omega) (e_f (by decide) (e_rd (k := q + i) ?_ (by omega) b1 (e_cr (s_charAt hk (by omega)) ?_))))
      · rw [h21]
        exact nI_add q i
      · show _ = some (nI (decide (c (q + i) = sB k i) && alF (fun i => decide (c (q + i) = sB k i)) (i + 1) d).toNat)
        by_cases hc : c (q + i) = sB k i
        · rw [decide_eq_true hc, Bool.true_and]
          refine e_f (by rw [hc]; exact fun z => z rfl) ?_
          rw [bX10_is_60]
          exact e_lt rfl (e_lt (nI_add i 1) (ih (i + 1) g (by omega) (by omega)))
        · rw [decide_eq_false hc, Bool.false_and]
          refine e_t (by rw [ne_eq, xp_eq (by omega) (by omega)]; exact hc) ?_
          rw [bX10_is_60]
          obtain ⟨g2, rfl⟩ : ∃ g2, g = g2 + 1 := ⟨g - 1, by omega⟩
          exact e_lt rfl (e_lt (nI_add i 1) (hz g2 (i + 1)))
  obtain ⟨M, rfl⟩ : ∃ M, N = M + 1 := ⟨N - 1, by omega⟩
  unfold fX10_is mB
  refine e_cr (s_length hk) ?_
  rw [h19, h21, pk_sub hqe]
  by_cases heq : e - q = sL k
  · rw [decide_eq_true heq, Bool.true_and]
    refine e_f (by rw [heq]; exact fun z => z rfl) ?_
    rw [bX10_is_21]
    exact e_lt rfl (e_lt rfl (hone heq (sL k) 0 (M + 1) (by omega) (by omega)))
  · rw [decide_eq_false heq, Bool.false_and]
    refine e_t (by rw [ne_eq, xp_eq (by omega) (by omega)]; exact heq) ?_
    rw [bX10_is_21]
    exact e_lt rfl (e_lt rfl (hz M 0))
-- the class
def TP (t : Nat) (c : Nat → Nat) (I : xc_M) : Prop := I 130 0 = nI t ∧ t ≤ 400 ∧ ∀ j, j < t → c j < 256 ∧ I 131 j &&& 255 = nI (c j)
theorem cv_at {t : Nat} {c : Nat → Nat} (h : TP t c I) {j : Nat} (hj : j < t) : fX5_at I (nI j) = some (nI (c j)) := by
  obtain ⟨h1, h2, h3⟩ := h
  unfold fX5_at
  rw [h1]
  refine e_f (nI_pos (by omega)) (e_f (by rw [xp_le (by omega) (by omega)]; omega) (e_t ?_ (e_rd (k := j) rfl (by omega) rfl (congrArg some (h3 j hj).2))))
  rw [show (400 : Int32) = nI 400 from rfl, xp_ltI (by omega) (by omega)]
  omega
/-- of the class's list: which string, where it starts -/
def sj (j : Nat) : Nat := [2, 3, 5, 6, 7, 8, 9, 4, 10, 11, 12, 13, 14, 15, 16, 17, 18, 19, 20, 21, 22, 23, 24].getD j 0
def kwS (j : Nat) : Nat := [0, 6, 9, 13, 17, 22, 27, 32, 37, 42, 47, 54, 59, 63, 69, 72, 76, 79, 84, 89, 95, 100, 103, 109].getD j 0
theorem kw_all : (List.range 23).all (fun j => decide (sj j < 25) && decide (kwS (j + 1) = kwS j + sL (sj j) + 1) && decide (kwS (j + 1) ≤ 109) && decide (sB 0 (kwS j + sL (sj j)) = 32) && (List.range (sL (sj j))).all (fun i => decide (sB 0 (kwS j + i) = sB (sj j) i) && decide (sB (sj j) i ≠ 32))) = true := by decide +kernel
theorem kw_j {j : Nat} (hj : j < 23) : sj j < 25 ∧ kwS (j + 1) = kwS j + sL (sj j) + 1 ∧ kwS (j + 1) ≤ 109 ∧ sB 0 (kwS j + sL (sj j)) = 32 ∧ ∀ i, i < sL (sj j) → sB 0 (kwS j + i) = sB (sj j) i ∧ sB (sj j) i ≠ 32 := by
  have h := List.all_eq_true.mp kw_all j (List.mem_range.mpr hj)
  rw [Bool.and_eq_true, Bool.and_eq_true, Bool.and_eq_true, Bool.and_eq_true] at h
  obtain ⟨⟨⟨⟨h1, h2⟩, h3⟩, h4⟩, h5⟩ := h
  refine ⟨of_decide_eq_true h1, of_decide_eq_true h2, of_decide_eq_true h3, of_decide_eq_true h4, fun i hi => ?_⟩
  have h6 := List.all_eq_true.mp h5 i (List.mem_range.mpr hi)
  rw [Bool.and_eq_true] at h6
  exact ⟨of_decide_eq_true h6.1, of_decide_eq_true h6.2⟩
theorem s_0 : sL 0 = 109 := rfl
theorem cv_isKeyword {t : Nat} {c : Nat → Nat} (h : TP t c I) (hN : 1000 ≤ N) {q e j : Nat} (hj : j < 23) (hqe : q ≤ e) (he : e ≤ t) (hl : e - q = sL (sj j)) : fX6_isKeyword N I (nI q) (nI e) (nI (kwS j)) = some (nI (alF (fun i => decide (c (q + i) = sB (sj j) i)) 0 (sL (sj j))).toNat) := by
  obtain ⟨k1, k2, k3, k4, k5⟩ := kw_j hj
  have ht := h.2.1
  have key : ∀ d i fu, i + d = sL (sj j) → d < fu → lX6_isKeyword_3 N I fu (nI q) (nI e) (nI (kwS j)) (nI (q + i)) = some (nI (alF (fun i => decide (c (q + i) = sB (sj j) i)) i d).toNat) := by
    intro d
    induction d with
    | zero =>
      intro i fu hi hf
      obtain ⟨g, rfl⟩ : ∃ g, fu = g + 1 := ⟨fu - 1, by omega⟩
      rw [lX6_isKeyword_3, bX6_isKeyword_3]
      exact e_t (by rw [xp_le (by omega) (by omega)]; omega) rfl
    | succ d ih =>
      intro i fu hi hf
      obtain ⟨g, rfl⟩ : ∃ g, fu = g + 1 := ⟨fu - 1, by omega⟩
      have hc256 := (h.2.2 (q + i) (by omega)).1
      have hs := (s_byt k1 (show i < sL (sj j) by omega)).2
      obtain ⟨m1, m2⟩ := k5 i (by omega)
      rw [lX6_isKeyword_3, bX6_isKeyword_3]
      refine e_f (by rw [xp_le (by omega) (by omega)]; omega) (e_lt (v := nI (kwS j + i)) ?_ (e_cr (s_length (by omega)) (e_f ?_ (e_cr (s_charAt (k := 0) (i := kwS j + i) (by omega) (by rw [s_0]; omega)) (e_cr (cv_at h (by omega)) ?_)))))
      · rw [nI_add, pk_sub (by omega)]
        congr 1
        omega
      · rw [s_0, xp_le (by omega) (by omega)]
        omega
      · rw [m1]
        show _ = some (nI (decide (c (q + i) = sB (sj j) i) && alF (fun i => decide (c (q + i) = sB (sj j) i)) (i + 1) d).toNat)
        by_cases hc : c (q + i) = sB (sj j) i
        · rw [decide_eq_true hc, Bool.true_and]
          refine e_t (by rw [hc]) (e_lt (v := nI (q + (i + 1))) (nI_add (q + i) 1) (ih (i + 1) g (by omega) (by omega)))
        · rw [decide_eq_false hc, Bool.false_and]
          refine e_f ?_ rfl
          rw [xp_eq (by omega) (by omega)]
          exact fun z => hc z.symm
  unfold fX6_isKeyword
  exact e_lt rfl (key (sL (sj j)) 0 N (by omega) (by have := s_len k1; omega))
def kwN (c : Nat → Nat) (q e : Nat) : Nat → Nat → Nat
  | _, 0 => 1
  | j, d + 1 => if mB c q e (sj j) = true then 100 + j else kwN c q e (j + 1) d
theorem kw_word {t : Nat} {c : Nat → Nat} (h : TP t c I) (hN : 1000 ≤ N) {q e j : Nat} (hj : j < 23) (hqe : q ≤ e) (he : e ≤ t) : ∀ d i fu, i + d = sL (sj j) → lX6_keyword_9 N I (fu + d + 1) (nI q) (nI e) (nI (100 + j)) (nI (kwS j)) (nI (kwS j + i)) = if mB c q e (sj j) = true then some (nI (100 + j)) else lX6_keyword_9 N I fu (nI q) (nI e) (nI (100 + (j + 1))) (nI (kwS (j + 1))) (nI (kwS (j + 1))) := by
  obtain ⟨k1, k2, k3, k4, k5⟩ := kw_j hj
  have ht := h.2.1
  have hl := s_len k1
  intro d
  induction d with
  | zero =>
    intro i fu hi
    have hi2 : i = sL (sj j) := by omega
    subst hi2
    rw [Nat.add_zero, lX6_keyword_9, bX6_keyword_9]
    refine e_cr (s_length (by omega)) (e_f ?_ (e_cr (s_charAt (k := 0) (i := kwS j + sL (sj j)) (by omega) (by rw [s_0]; omega)) (e_f ?_ ?_)))
    · rw [s_0, xp_le (by omega) (by omega)]
      omega
    · rw [k4]
      exact fun z => z rfl
    · rw [pk_sub (by omega), pk_sub hqe, show kwS j + sL (sj j) - kwS j = sL (sj j) by omega]
      have h55 : bX6_keyword_55 N I (lX6_keyword_9 N I fu) (nI q) (nI e) (nI (100 + j)) (nI (kwS j + sL (sj j))) = lX6_keyword_9 N I fu (nI q) (nI e) (nI (100 + (j + 1))) (nI (kwS (j + 1))) (nI (kwS (j + 1))) := by
        rw [bX6_keyword_55]
        refine e_lt (v := nI (100 + (j + 1))) (nI_add (100 + j) 1) (e_lt (v := nI (kwS (j + 1))) ?_ ?_)
        · rw [k2]
          exact nI_add _ 1
        · rw [bX6_keyword_64]
          refine e_lt (v := nI (kwS (j + 1))) ?_ rfl
          rw [k2]
          exact nI_add _ 1
      unfold mB
      by_cases heq : e - q = sL (sj j)
      · rw [decide_eq_true heq, Bool.true_and]
        refine e_f (by rw [heq]; exact fun z => z rfl) (e_cr (cv_isKeyword h hN hj hqe he heq) ?_)
        cases alF (fun i => decide (c (q + i) = sB (sj j) i)) 0 (sL (sj j)) with
        | true => exact e_f (by decide) rfl
        | false => exact e_t rfl h55
      · rw [decide_eq_false heq, Bool.false_and]
        refine e_t ?_ h55
        rw [ne_eq, xp_eq (by omega) (by omega)]
        exact fun z => heq z.symm
  | succ d ih =>
    intro i fu hi
    obtain ⟨m1, m2⟩ := k5 i (by omega)
    have hs := (s_byt k1 (show i < sL (sj j) by omega)).2
    rw [show fu + (d + 1) + 1 = (fu + d + 1) + 1 by omega, lX6_keyword_9, bX6_keyword_9]
    refine e_cr (s_length (by omega)) (e_f ?_ (e_cr (s_charAt (k := 0) (i := kwS j + i) (by omega) (by rw [s_0]; omega)) (e_t ?_ ?_)))
    · rw [s_0, xp_le (by omega) (by omega)]
      omega
    · rw [m1, show (32 : Int32) = nI 32 from rfl, ne_eq, xp_eq (by omega) (by omega)]
      exact m2
    · rw [bX6_keyword_64]
      exact e_lt (v := nI (kwS j + (i + 1))) (nI_add (kwS j + i) 1) (ih (i + 1) fu (by omega))
theorem kw_end {q e x : Int32} (hN : 1000 ≤ N) (fu : Nat) : lX6_keyword_9 N I (fu + 1) q e x (nI 109) (nI 109) = some (nI 1) := by
  rw [lX6_keyword_9, bX6_keyword_9]
  refine e_cr (s_length (by omega)) (e_t ?_ rfl)
  rw [s_0]
  decide
theorem cv_keyword {t : Nat} {c : Nat → Nat} (h : TP t c I) (hN : 1000 ≤ N) {q e : Nat} (hqe : q ≤ e) (he : e ≤ t) : fX6_keyword N I (nI q) (nI e) = some (nI (kwN c q e 0 23)) := by
  have key : ∀ d j fu, j + d = 23 → 109 - kwS j < fu → lX6_keyword_9 N I fu (nI q) (nI e) (nI (100 + j)) (nI (kwS j)) (nI (kwS j)) = some (nI (kwN c q e j d)) := by
    intro d
    induction d with
    | zero =>
      intro j fu hj hf
      obtain ⟨g, rfl⟩ : ∃ g, fu = g + 1 := ⟨fu - 1, by omega⟩
      have e : j = 23 := by omega
      subst e
      exact kw_end hN g
    | succ d ih =>
      intro j fu hj hf
      obtain ⟨k1, k2, k3, k4, k5⟩ := kw_j (show j < 23 by omega)
      obtain ⟨g, rfl⟩ : ∃ g, fu = g + sL (sj j) + 1 := ⟨fu - sL (sj j) - 1, by omega⟩
      have hw := kw_word (c := c) h hN (show j < 23 by omega) hqe he (sL (sj j)) 0 g (by omega)
      refine Eq.trans hw ?_
      show _ = some (nI (if mB c q e (sj j) = true then 100 + j else kwN c q e (j + 1) d))
      by_cases hm : mB c q e (sj j) = true
      · rw [if_pos hm, if_pos hm]
      · rw [if_neg hm, if_neg hm]
        exact ih (j + 1) g (by omega) (by omega)
  unfold fX6_keyword
  exact e_lt rfl (e_lt rfl (e_lt rfl (key 23 0 N (by omega) (by show 109 < N; omega))))
end
