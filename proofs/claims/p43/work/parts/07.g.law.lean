-- ===== the law's lines: both sides come to one value =====
def lop (s : Nat) (x y : Int32) : Int32 := if s = 23 then x + y else if s = 24 then x - y else if s = 25 then x * y else if s = 27 then (if x < y then 1 else 0) else if s = 28 then (if x = y then 1 else 0) else if s = 29 then (if y < x then 1 else 0) else if s = 31 then x &&& y else x ||| y
def lrun (f : Nat → Int32) : List (Nat × Int32) → List Int32 → List Int32
  | [], st => st
  | (s, v) :: r, st =>
    if s = 0 then lrun f r (v :: st)
    else if s ≤ 8 then lrun f r (f s :: st)
    else if s = 26 then match st with
      | x :: q => lrun f r (x / v :: q)
      | _ => []
    else if s = 30 then match st with
      | x :: q => lrun f r (((1 : Int32) - x) :: q)
      | _ => []
    else match st with
      | y :: x :: q => lrun f r (lop s x y :: q)
      | _ => []
def stk (g : Nat → Int32) : List Int32 → Prop
  | [] => True
  | x :: q => g q.length = x ∧ stk g q
def lok : List Int32 → List Bool → Prop
  | [], [] => True
  | x :: q, t :: ts => (t = true → x = 0 ∨ x = 1) ∧ lok q ts
  | [], _ :: _ => False
  | _ :: _, [] => False
theorem lok_len : ∀ {st : List Int32} {ty : List Bool}, lok st ty → st.length = ty.length
  | [], [], _ => rfl
  | _ :: q, _ :: ts, h => congrArg (· + 1) (lok_len (st := q) (ty := ts) h.2)
theorem lok_cons {st : List Int32} {t : Bool} {q : List Bool} (h : lok st (t :: q)) : ∃ x r, st = x :: r ∧ (t = true → x = 0 ∨ x = 1) ∧ lok r q := by
  cases st with
  | nil => exact absurd h id
  | cons x r => exact ⟨x, r, rfl, h.1, h.2⟩
theorem stk_keep {g g' : Nat → Int32} : ∀ {st : List Int32}, (∀ i, i < st.length → g' i = g i) → stk g st → stk g' st
  | [], _, _ => trivial
  | x :: q, h, hs => ⟨by rw [h q.length (by simp)]; exact hs.1, stk_keep (st := q) (fun i hi => h i (by simp; omega)) hs.2⟩
theorem xp_wr_cell {I : xc_M} {a b k : Nat} {v : Int32} (h : b ≠ a) : xc_wr I a k v b = I b := by
  funext j
  exact xp_wr_n I a k v b j (fun e => absurd e h)
theorem stk_push {I : xc_M} {c : Nat} {v : Int32} {st : List Int32} {n : Nat} (hn : n = st.length) (h : stk (I c) st) : stk (xc_wr I c n v c) (v :: st) := by
  subst hn
  exact ⟨xp_wr_s _ _ _ _, stk_keep (fun i hi => xp_wr_n _ _ _ _ _ _ (fun _ => by omega)) h⟩
theorem ltyp_inv {s : Nat} {v : Int32} {r : List (Nat × Int32)} {ty ty' : List Bool} (h : ltyp ((s, v) :: r) ty = some ty') : ty.length < 24 ∧ ((s = 0 ∧ 0 ≤ v ∧ v ≤ 9999 ∧ ltyp r (false :: ty) = some ty') ∨ (1 ≤ s ∧ s ≤ 8 ∧ ltyp r (false :: ty) = some ty') ∨ (s = 26 ∧ 0 < v ∧ v ≤ 9999 ∧ ∃ q, ty = false :: q ∧ ltyp r (false :: q) = some ty') ∨ (s = 30 ∧ ∃ q, ty = true :: q ∧ ltyp r (true :: q) = some ty') ∨ ((s = 23 ∨ s = 24 ∨ s = 25) ∧ ∃ q, ty = false :: false :: q ∧ ltyp r (false :: q) = some ty') ∨ ((s = 27 ∨ s = 28 ∨ s = 29) ∧ ∃ q, ty = false :: false :: q ∧ ltyp r (true :: q) = some ty') ∨ ((s = 31 ∨ s = 32) ∧ ∃ q, ty = true :: true :: q ∧ ltyp r (true :: q) = some ty')) := by
  unfold ltyp at h
  by_cases h0 : 24 ≤ ty.length
  · rw [if_pos h0] at h
    cases h
  rw [if_neg h0] at h
  refine ⟨by omega, ?_⟩
  by_cases h1 : s = 0
  · rw [if_pos h1] at h
    by_cases h2 : 0 ≤ v ∧ v ≤ 9999
    · rw [if_pos h2] at h
      exact Or.inl ⟨h1, h2.1, h2.2, h⟩
    · rw [if_neg h2] at h
      cases h
  rw [if_neg h1] at h
  by_cases h2 : s ≤ 8
  · rw [if_pos h2] at h
    exact Or.inr (Or.inl ⟨by omega, h2, h⟩)
  rw [if_neg h2] at h
  by_cases h3 : s = 26
  · rw [if_pos h3] at h
    by_cases h4 : 0 < v ∧ v ≤ 9999
    · rw [if_pos h4] at h
      split at h
      · exact Or.inr (Or.inr (Or.inl ⟨h3, h4.1, h4.2, _, rfl, h⟩))
      · cases h
    · rw [if_neg h4] at h
      cases h
  rw [if_neg h3] at h
  by_cases h4 : s = 30
  · rw [if_pos h4] at h
    split at h
    · exact Or.inr (Or.inr (Or.inr (Or.inl ⟨h4, _, rfl, h⟩)))
    · cases h
  rw [if_neg h4] at h
  by_cases h5 : s = 23 ∨ s = 24 ∨ s = 25
  · rw [if_pos h5] at h
    split at h
    · exact Or.inr (Or.inr (Or.inr (Or.inr (Or.inl ⟨h5, _, rfl, h⟩))))
    · cases h
  rw [if_neg h5] at h
  by_cases h6 : s = 27 ∨ s = 28 ∨ s = 29
  · rw [if_pos h6] at h
    split at h
    · exact Or.inr (Or.inr (Or.inr (Or.inr (Or.inr (Or.inl ⟨h6, _, rfl, h⟩)))))
    · cases h
  rw [if_neg h6] at h
  by_cases h7 : s = 31 ∨ s = 32
  · rw [if_pos h7] at h
    split at h
    · exact Or.inr (Or.inr (Or.inr (Or.inr (Or.inr (Or.inr ⟨h7, _, rfl, h⟩)))))
    · cases h
  rw [if_neg h7] at h
  cases h
theorem lseg_cons {w : Nat → Int32} {a b : Nat} (h : a < b) : lseg w a b = (xr w (1412 + 2 * a), w (1412 + 2 * a + 1)) :: lseg w (a + 1) b := by
  unfold lseg
  have e : b - a = (b - (a + 1)) + 1 := by omega
  rw [e, List.range_succ_eq_map, List.map_cons, List.map_map]
  congr 1
  apply List.map_congr_left
  intro j _
  have e2 : a + Nat.succ j = a + 1 + j := by omega
  show (xr w (1412 + 2 * (a + Nat.succ j)), w (1412 + 2 * (a + Nat.succ j) + 1)) = _
  rw [e2]
theorem lseg_nil {w : Nat → Int32} {a b : Nat} (h : b ≤ a) : lseg w a b = [] := by
  unfold lseg
  rw [Nat.sub_eq_zero_of_le h]
  rfl
theorem lcod_cons {I : xc_M} {c a b : Nat} (h : a < b) : lcod I c a b = I (c + 5) a :: lcod I c (a + 1) b := by
  unfold lcod
  have e : b - a = (b - (a + 1)) + 1 := by omega
  rw [e, List.range_succ_eq_map, List.map_cons, List.map_map]
  congr 1
  apply List.map_congr_left
  intro j _
  have e2 : a + Nat.succ j = a + 1 + j := by omega
  show I (c + 5) (a + Nat.succ j) = _
  rw [e2]
theorem lcod_nil {I : xc_M} {c a b : Nat} (h : b ≤ a) : lcod I c a b = [] := by
  unfold lcod
  rw [Nat.sub_eq_zero_of_le h]
  rfl
theorem lcod_head {I : xc_M} {c a b : Nat} {x : Int32} {r : List Int32} (h : lcod I c a b = x :: r) : a < b ∧ I (c + 5) a = x ∧ lcod I c (a + 1) b = r := by
  by_cases hab : a < b
  · rw [lcod_cons hab] at h
    injection h with h1 h2
    exact ⟨hab, h1, h2⟩
  · rw [lcod_nil (by omega)] at h
    cases h
theorem lcod_wr {I : xc_M} {c a b k : Nat} {v : Int32} : lcod (xc_wr I (c + 6) k v) c a b = lcod I c a b := by
  unfold lcod
  rw [xp_wr_cell (by omega)]
theorem lb_b1 (c : Prop) [Decidable c] : (if c then (1 : Int32) else 0) = 0 ∨ (if c then (1 : Int32) else 0) = 1 := by
  by_cases h : c
  · rw [if_pos h]
    exact Or.inr rfl
  · rw [if_neg h]
    exact Or.inl rfl
theorem lop_cmp {s : Nat} (h : s = 27 ∨ s = 28 ∨ s = 29) (x y : Int32) : lop s x y = 0 ∨ lop s x y = 1 := by
  rcases h with h | h | h <;> subst h
  · exact lb_b1 _
  · exact lb_b1 _
  · exact lb_b1 _
theorem lop_log {s : Nat} (h : s = 31 ∨ s = 32) {x y : Int32} (hx : x = 0 ∨ x = 1) (hy : y = 0 ∨ y = 1) : lop s x y = 0 ∨ lop s x y = 1 := by
  rcases h with h | h <;> subst h <;> rcases hx with hx | hx <;> subst hx <;> rcases hy with hy | hy <;> subst hy <;> decide
theorem lno {x : Int32} (hx : x = 0 ∨ x = 1) : (1 : Int32) - x = 0 ∨ (1 : Int32) - x = 1 := by
  rcases hx with hx | hx <;> subst hx <;> decide
theorem rv_both {s : Nat} (h : s = 23 ∨ s = 24 ∨ s = 25 ∨ s = 27 ∨ s = 28 ∨ s = 29 ∨ s = 31 ∨ s = 32) (x y : Int32) : fX10_both (nI s) x y = some (lop s x y) := by
  have hs : s < 2 ^ 31 := by omega
  unfold fX10_both
  rcases h with h | h | h | h | h | h | h | h <;> subst h <;> simp (disch := omega) only [show (31 : Int32) = nI 31 from rfl, ↓xl_m1, ↓xl_m2, xl_0, xl_1, xl_2, xl_3, xl_4, xl_5, xl_6, xl_7, xl_8, xl_9, xl_10, xl_11, xl_12, xl_13, xl_14, xl_15, xl_16, xl_17, xl_18, xl_19, xl_20, xl_21, xl_22, xl_23, xl_24, xl_25, xl_26, xl_27, xl_28, xl_29, xl_30, xl_32, xl_33, xl_34, xl_35, xl_36, xl_37, xl_38, xl_39, xl_40, xl_41, xl_42, xl_43, xl_44, xl_45, xl_46, xl_47, xl_48, xl_50, xl_52, xl_57, xl_59, xl_60, xl_61, xl_62, xl_63, xl_64, xl_65, xl_66, xl_67, xl_68, xl_69, xl_70, xl_73, xl_75, xl_79, xl_83, xl_84, xl_90, xl_91, xl_93, xl_94, xl_97, xl_98, xl_99, xl_100, xl_101, xl_102, xl_103, xl_104, xl_105, xl_106, xl_107, xl_108, xl_109, xl_110, xl_111, xl_112, xl_113, xl_114, xl_115, xl_116, xl_117, xl_118, xl_119, xl_120, xl_121, xl_122, xl_130, xl_131, xl_132, xl_133, xl_134, xl_135, xl_140, xl_141, xl_142, xl_143, xl_145, xl_147, xl_150, xl_159, xl_160, xl_161, xl_162, xl_198, xl_208, xl_255, xl_256, xl_310, xl_365, xl_372, xl_400, xl_401, xl_420, xl_600, xl_628, xl_692, xl_728, xl_748, xl_820, xl_999, xl_1000, xl_1023, xl_1024, xl_1348, xl_1364, xl_1380, xl_1396, xl_1412, xl_2232, xl_9999, xl_10000, xl_16383, xl_20000, xl_20101, xl_20102, xl_20103, xl_65536, xl_1000000, xp_lt, xp_mw, xp_cl, xp_cr, xp_cv, xp_ro, xp_rb0, xp_rb1, xp_mz0, xp_mz1, xp_rd, xp_st, xp_rdR, if_pos, if_neg, ite_not, ne_eq, not_true_eq_false, not_false_eq_true, if_true, if_false, ite_true, ite_false, xp_and, xp_or, xp_dfm, xp_k31, xp_shl, xp_shr, xp_tb1, xp_bz, xp_bo, xp_eq, xp_le, xp_ltI, xp_nm1, xp_nm2, xp_nm3, xp_nm4, xp_nm5, nI_add, pk_mul, pk_sub, xp_dv, xp_rem, Nat.zero_add, Nat.add_zero, Nat.not_lt_zero, Nat.zero_le, ne_eq, not_true_eq_false, not_false_eq_true, Nat.add_sub_cancel, Nat.mul_zero] <;> simp only [lop] <;> simp
  · by_cases h : x < y
    · have h2 : ¬ y ≤ x := Int32.not_le.mpr h
      simp [h, h2]
      rfl
    · have h2 : y ≤ x := Int32.not_lt.mp h
      simp [h, h2]
      rfl
  · by_cases h : x = y <;> simp [h] <;> rfl
  · by_cases h : y < x
    · have h2 : ¬ x ≤ y := Int32.not_le.mpr h
      simp [h, h2]
      rfl
    · have h2 : x ≤ y := Int32.not_lt.mp h
      simp [h, h2]
      rfl
