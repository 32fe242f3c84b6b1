-- ===== texts: the tokens =====
theorem kw_ne : (List.range 23).all (fun a => (List.range 23).all (fun b => decide (a = b) || !(decide (sL (sj a) = sL (sj b)) && (List.range (sL (sj a))).all (fun i => decide (sB (sj a) i = sB (sj b) i))))) = true := by decide +kernel
theorem mB_iff {c : Nat → Nat} {q e k : Nat} : mB c q e k = true ↔ e - q = sL k ∧ ∀ i, i < sL k → c (q + i) = sB k i := by
  unfold mB
  rw [Bool.and_eq_true, alF_iff]
  constructor
  · rintro ⟨h1, h2⟩
    exact ⟨of_decide_eq_true h1, fun i hi => of_decide_eq_true (h2 i (by omega) (by omega))⟩
  · rintro ⟨h1, h2⟩
    exact ⟨decide_eq_true h1, fun j _ hj => decide_eq_true (h2 j (by omega))⟩
theorem mB_one {c : Nat → Nat} {q e a b : Nat} (ha : a < 23) (hb : b < 23) (h1 : mB c q e (sj a) = true) (h2 : mB c q e (sj b) = true) : a = b := by
  have h := List.all_eq_true.mp (List.all_eq_true.mp kw_ne a (List.mem_range.mpr ha)) b (List.mem_range.mpr hb)
  rw [Bool.or_eq_true] at h
  rcases h with h | h
  · exact of_decide_eq_true h
  · exfalso
    obtain ⟨a1, a2⟩ := mB_iff.mp h1
    obtain ⟨b1, b2⟩ := mB_iff.mp h2
    have e1 : sL (sj a) = sL (sj b) := a1.symm.trans b1
    have e2 : (List.range (sL (sj a))).all (fun i => decide (sB (sj a) i = sB (sj b) i)) = true := by
      apply List.all_eq_true.mpr
      intro i hi
      have hi2 := List.mem_range.mp hi
      exact decide_eq_true ((a2 i hi2).symm.trans (b2 i (by omega)))
    rw [decide_eq_true e1, e2] at h
    cases h
/-- which keyword of the class's list (23: none) -/
def kwJ (c : Nat → Nat) (q e : Nat) : Nat := if kwN c q e 0 23 = 1 then 23 else kwN c q e 0 23 - 100
theorem kwN_spec (c : Nat → Nat) (q e : Nat) : ∀ d j, (kwN c q e j d = 1 ∧ ∀ i, j ≤ i → i < j + d → mB c q e (sj i) = false) ∨ (∃ i, j ≤ i ∧ i < j + d ∧ kwN c q e j d = 100 + i ∧ mB c q e (sj i) = true) := by
  intro d
  induction d with
  | zero => exact fun j => Or.inl ⟨rfl, fun i h1 h2 => absurd h1 (by omega)⟩
  | succ d ih =>
    intro j
    show ((if mB c q e (sj j) = true then 100 + j else kwN c q e (j + 1) d) = 1 ∧ _) ∨ (∃ i, j ≤ i ∧ i < j + (d + 1) ∧ (if mB c q e (sj j) = true then 100 + j else kwN c q e (j + 1) d) = 100 + i ∧ mB c q e (sj i) = true)
    by_cases hm : mB c q e (sj j) = true
    · rw [if_pos hm]
      exact Or.inr ⟨j, by omega, by omega, rfl, hm⟩
    · rw [if_neg hm]
      rcases ih (j + 1) with ⟨h1, h2⟩ | ⟨i, h1, h2, h3, h4⟩
      · refine Or.inl ⟨h1, fun i i1 i2 => ?_⟩
        by_cases e : i = j
        · rw [e]
          simpa using hm
        · exact h2 i (by omega) (by omega)
      · exact Or.inr ⟨i, by omega, by omega, h3, h4⟩
theorem kwJ_spec (c : Nat → Nat) (q e : Nat) : kwJ c q e ≤ 23 ∧ (kwN c q e 0 23 = if kwJ c q e = 23 then 1 else 100 + kwJ c q e) ∧ ∀ i, i < 23 → mB c q e (sj i) = decide (i = kwJ c q e) := by
  rcases kwN_spec c q e 23 0 with ⟨h1, h2⟩ | ⟨i, h1, h2, h3, h4⟩
  · have e1 : kwJ c q e = 23 := by unfold kwJ; rw [if_pos h1]
    rw [e1]
    refine ⟨Nat.le_refl _, by rw [if_pos rfl]; exact h1, fun i hi => ?_⟩
    rw [h2 i (by omega) (by omega), decide_eq_false (by omega)]
  · have e1 : kwJ c q e = i := by
      unfold kwJ
      rw [if_neg (by omega), h3]
      omega
    rw [e1]
    refine ⟨by omega, by rw [if_neg (by omega)]; exact h3, fun k hk => ?_⟩
    by_cases ek : k = i
    · rw [ek, h4, decide_eq_true rfl]
    · rw [decide_eq_false ek]
      cases hm : mB c q e (sj k) with
      | false => rfl
      | true => exact absurd (mB_one hk (by omega) hm h4) ek
/-- what the reference calls a keyword of the class's list, in text rd -/
def tmW (rd j : Nat) : Nat := (([[7, 4], [1, 4, 5, 6, 20, 21, 22, 3, 41, 42, 43, 44, 45, 46, 47, 48], [1, 1, 1, 1, 1, 1, 1, 1, 1, 1, 1, 1, 1, 1, 1, 1, 8, 9, 10, 11], [1, 1, 1, 1, 1, 1, 1, 1, 1, 1, 1, 1, 1, 1, 1, 1, 1, 1, 1, 1, 12, 13, 14]] : List (List Nat)).getD rd []).getD j 1
def tm (rd k : Nat) : Nat := if 100 ≤ k then tmW rd (k - 100) else if k ≤ 2 then k else 100 + k
section
variable {N : Nat} {I J : xc_M}
theorem rv_word0 {c : Nat → Nat} {q e rd : Nat} (hN : 1000 ≤ N) (hrd : rd < 4) (h14 : J 0 14 = nI rd) (h19 : J 0 19 = nI e) (h21 : J 0 21 = nI q) (hqe : q ≤ e) (he : e ≤ 400) (hb : ∀ j, q ≤ j → j < e → J 10 j = nI (c j) ∧ c j < 256) : fX10_word0 N J = some (nI (tm rd (kwN c q e 0 23))) := by
  obtain ⟨k1, k2, k3⟩ := kwJ_spec c q e
  have hs : ∀ j, j < 23 → fX10_is N (sj j) J = some (nI (decide (j = kwJ c q e)).toNat) := by
    intro j hj
    rw [← k3 j hj]
    exact rv_is hN (kw_j hj).1 h19 h21 hqe he hb
  have a2 : fX10_is N 2 J = _ := hs 0 (by omega)
  have a3 : fX10_is N 3 J = _ := hs 1 (by omega)
  have a5 : fX10_is N 5 J = _ := hs 2 (by omega)
  have a6 : fX10_is N 6 J = _ := hs 3 (by omega)
  have a7 : fX10_is N 7 J = _ := hs 4 (by omega)
  have a8 : fX10_is N 8 J = _ := hs 5 (by omega)
  have a9 : fX10_is N 9 J = _ := hs 6 (by omega)
  have a4 : fX10_is N 4 J = _ := hs 7 (by omega)
  have a10 : fX10_is N 10 J = _ := hs 8 (by omega)
  have a11 : fX10_is N 11 J = _ := hs 9 (by omega)
  have a12 : fX10_is N 12 J = _ := hs 10 (by omega)
  have a13 : fX10_is N 13 J = _ := hs 11 (by omega)
  have a14 : fX10_is N 14 J = _ := hs 12 (by omega)
  have a15 : fX10_is N 15 J = _ := hs 13 (by omega)
  have a16 : fX10_is N 16 J = _ := hs 14 (by omega)
  have a17 : fX10_is N 17 J = _ := hs 15 (by omega)
  have a18 : fX10_is N 18 J = _ := hs 16 (by omega)
  have a19 : fX10_is N 19 J = _ := hs 17 (by omega)
  have a20 : fX10_is N 20 J = _ := hs 18 (by omega)
  have a21 : fX10_is N 21 J = _ := hs 19 (by omega)
  have a22 : fX10_is N 22 J = _ := hs 20 (by omega)
  have a23 : fX10_is N 23 J = _ := hs 21 (by omega)
  have a24 : fX10_is N 24 J = _ := hs 22 (by omega)
  rw [k2]
  clear hs k2 k3
  generalize kwJ c q e = jj at *
  have hrc : rd = 0 ∨ rd = 1 ∨ rd = 2 ∨ rd = 3 := by omega
  have hjc : jj = 0 ∨ jj = 1 ∨ jj = 2 ∨ jj = 3 ∨ jj = 4 ∨ jj = 5 ∨ jj = 6 ∨ jj = 7 ∨ jj = 8 ∨ jj = 9 ∨ jj = 10 ∨ jj = 11 ∨ jj = 12 ∨ jj = 13 ∨ jj = 14 ∨ jj = 15 ∨ jj = 16 ∨ jj = 17 ∨ jj = 18 ∨ jj = 19 ∨ jj = 20 ∨ jj = 21 ∨ jj = 22 ∨ jj = 23 := by omega
  unfold fX10_word0
  rw [h14]
  rcases hrc with z | z | z | z <;> subst z
  · refine e_t rfl ?_
    rw [a2, a3]
    rcases hjc with z | z | z | z | z | z | z | z | z | z | z | z | z | z | z | z | z | z | z | z | z | z | z | z <;> subst z <;> rfl
  · refine e_f (by decide) (e_t rfl ?_)
    unfold fX10_lawWord fX10_asked
    rw [a4, a3, a5, a6, a7, a8, a9, a10, a11, a12, a13, a14, a15, a16, a17]
    rcases hjc with z | z | z | z | z | z | z | z | z | z | z | z | z | z | z | z | z | z | z | z | z | z | z | z <;> subst z <;> rfl
  · refine e_f (by decide) (e_f (by decide) (e_t rfl ?_))
    unfold fX10_walkWord
    rw [a18, a19, a20, a21]
    rcases hjc with z | z | z | z | z | z | z | z | z | z | z | z | z | z | z | z | z | z | z | z | z | z | z | z <;> subst z <;> rfl
  · refine e_f (by decide) (e_f (by decide) (e_f (by decide) ?_))
    unfold fX10_needWord
    rw [a22, a23, a24]
    rcases hjc with z | z | z | z | z | z | z | z | z | z | z | z | z | z | z | z | z | z | z | z | z | z | z | z <;> subst z <;> rfl
end
-- the tokens, from the bytes alone
def isL (x : Nat) : Bool := (decide (97 ≤ x) && decide (x ≤ 122)) || (decide (65 ≤ x) && decide (x ≤ 90))
def isD (x : Nat) : Bool := decide (48 ≤ x) && decide (x ≤ 57)
def isBl (x : Nat) : Bool := decide (x = 32) || decide (x = 10)
def ruP (P : Nat → Bool) (c : Nat → Nat) : Nat → Nat → Nat
  | 0, p => p
  | d + 1, p => if P (c p) = true then ruP P c d (p + 1) else p
theorem ruP_spec (P : Nat → Bool) (c : Nat → Nat) : ∀ d p, p ≤ ruP P c d p ∧ ruP P c d p ≤ p + d ∧ (∀ j, p ≤ j → j < ruP P c d p → P (c j) = true) ∧ (ruP P c d p < p + d → P (c (ruP P c d p)) = false) := by
  intro d
  induction d with
  | zero => exact fun p => ⟨Nat.le_refl _, Nat.le_refl _, fun j h1 h2 => absurd h1 (by have : j < p := h2; omega), fun h => absurd h (Nat.lt_irrefl _)⟩
  | succ d ih =>
    intro p
    have e : ruP P c (d + 1) p = if P (c p) = true then ruP P c d (p + 1) else p := rfl
    rw [e]
    by_cases hp : P (c p) = true
    · rw [if_pos hp]
      obtain ⟨h1, h2, h3, h4⟩ := ih (p + 1)
      refine ⟨by omega, by omega, fun j j1 j2 => ?_, fun h => h4 (by omega)⟩
      by_cases ej : j = p
      · rw [ej]
        exact hp
      · exact h3 j (by omega) j2
    · rw [if_neg hp]
      exact ⟨by omega, by omega, fun j j1 j2 => absurd j1 (by omega), fun _ => by simpa using hp⟩
def numV (c : Nat → Nat) (q n : Nat) : Nat := itr (fun i v => v * 10 + c (q + i) - 48) 0 n
def tkE (c : Nat → Nat) (t q : Nat) : Nat := if isL (c q) = true then ruP isL c (t - (q + 1)) (q + 1) else if isD (c q) = true then ruP isD c (t - (q + 1)) (q + 1) else q + 1
def tkK (c : Nat → Nat) (t q : Nat) : Nat := if isL (c q) = true then kwN c q (tkE c t q) 0 23 else if isD (c q) = true then (if tkE c t q - q < 5 then 2 else 1) else if sgB (c q) = true then c q else 1
def tkV (c : Nat → Nat) (t q : Nat) : Nat := if isL (c q) = true then 0 else if isD (c q) = true then numV c q (min 4 (tkE c t q - q)) else 0
def lexF (c : Nat → Nat) (t : Nat) : Nat → Nat → List (Nat × Nat × Nat)
  | 0, _ => [(0, t, 0)]
  | f + 1, p => if t ≤ ruP isBl c (t - p) p then [(0, t, 0)] else (tkK c t (ruP isBl c (t - p) p), ruP isBl c (t - p) p, tkV c t (ruP isBl c (t - p) p)) :: lexF c t f (tkE c t (ruP isBl c (t - p) p))
theorem tkE_gt (c : Nat → Nat) {t q : Nat} (hq : q < t) : q < tkE c t q ∧ tkE c t q ≤ t := by
  unfold tkE
  have h1 := ruP_spec isL c (t - (q + 1)) (q + 1)
  have h2 := ruP_spec isD c (t - (q + 1)) (q + 1)
  split
  · omega
  · split
    · omega
    · omega
theorem sg_b : (List.range 256).all (fun x => !sgB x || (decide (3 ≤ x) && decide (x < 100) && !isL x && !isD x)) = true := by decide +kernel
theorem sg_x {x : Nat} (hx : x < 256) (h : sgB x = true) : 3 ≤ x ∧ x < 100 := by
  have := List.all_eq_true.mp sg_b x (List.mem_range.mpr hx)
  rw [h] at this
  simp only [Bool.not_true, Bool.false_or, Bool.and_eq_true, decide_eq_true_eq] at this
  omega
theorem numV_lt (c : Nat → Nat) (q : Nat) : ∀ n, (∀ i, i < n → isD (c (q + i)) = true) → numV c q n < 10 ^ n := by
  intro n
  induction n with
  | zero => exact fun _ => (by decide : 0 < 10 ^ 0)
  | succ n ih =>
    intro h
    have h1 := ih (fun i hi => h i (by omega))
    have h2 := h n (by omega)
    unfold isD at h2
    rw [Bool.and_eq_true, decide_eq_true_eq, decide_eq_true_eq] at h2
    show numV c q n * 10 + c (q + n) - 48 < 10 ^ (n + 1)
    rw [Nat.pow_succ]
    omega
theorem tkK_ok (c : Nat → Nat) {t q : Nat} (hq : q < t) (hc : c q < 256) : tkK c t q ≠ 0 ∧ tkK c t q < 200 ∧ tkV c t q < 10000 := by
  have h2 := ruP_spec isD c (t - (q + 1)) (q + 1)
  unfold tkK tkV
  by_cases hl : isL (c q) = true
  · rw [if_pos hl, if_pos hl]
    rcases kwN_spec c q (tkE c t q) 23 0 with ⟨h1, _⟩ | ⟨i, h1, h2, h3, _⟩
    · omega
    · omega
  · rw [if_neg hl, if_neg hl]
    by_cases hd : isD (c q) = true
    · rw [if_pos hd, if_pos hd]
      have he : tkE c t q = ruP isD c (t - (q + 1)) (q + 1) := by
        unfold tkE
        rw [if_neg hl, if_pos hd]
      have hv := numV_lt c q (min 4 (tkE c t q - q)) (fun i hi => by
        by_cases e : i = 0
        · rw [e]
          exact hd
        · exact h2.2.2.1 (q + i) (by omega) (by omega))
      have hp : 10 ^ min 4 (tkE c t q - q) ≤ 10 ^ 4 := Nat.pow_le_pow_right (by decide) (by omega)
      refine ⟨?_, ?_, by omega⟩
      · split <;> omega
      · split <;> omega
    · rw [if_neg hd, if_neg hd]
      by_cases hs : sgB (c q) = true
      · rw [if_pos hs]
        have := sg_x hc hs
        omega
      · rw [if_neg hs]
        omega
