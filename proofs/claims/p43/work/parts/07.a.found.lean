-- ===== pure side: numbers, sets, reading and storing =====
theorem xp_lit (k : Nat) : (OfNat.ofNat k : Int32) = nI k := rfl
theorem xp_rd {α : Type} {n a k : Nat} {I : xc_M} {f : Int32 → Option α} (h : k < n) (hn : n < 2 ^ 31) : xc_rd n a (nI k) I f = f (I a k) := by
  unfold xc_rd
  rw [if_neg (nI_in h hn), nI_clamp (Nat.lt_trans h hn)]
theorem xp_st {α : Type} {n a k : Nat} {v : Int32} {I : xc_M} {f : xc_M → Option α} (h : k < n) (hn : n < 2 ^ 31) : xc_st n a (nI k) v I f = f (xc_wr I a k v) := by
  unfold xc_st
  rw [if_neg (nI_in h hn), nI_clamp (Nat.lt_trans h hn)]
theorem xp_rdR {α : Type} {n k : Nat} {f : Nat → Option α} (h : k < n) (hn : n < 2 ^ 31) : xc_rdR n (nI k) f = f k := by
  unfold xc_rdR
  rw [if_neg (nI_in h hn), nI_clamp (Nat.lt_trans h hn)]
theorem xp_lt {α : Type} (x : Int32) (f : Int32 → Option α) : xc_lt x f = f x := rfl
theorem xp_mw {α : Type} (I : xc_M) (a k : Nat) (v : Int32) (f : xc_M → Option α) : xc_mw I a k v f = f (xc_wr I a k v) := rfl
theorem xp_cl {α : Type} (r : Int32) (J : xc_M) (f : Int32 → xc_M → Option α) : xc_cl (some (r, J)) f = f r J := rfl
theorem xp_cr {α : Type} (r : Int32) (f : Int32 → Option α) : xc_cr (some r) f = f r := rfl
theorem xp_cv {α : Type} (r : Int32) (J : xc_M) (f : xc_M → Option α) : xc_cv (some (r, J)) f = f J := rfl
theorem xp_ro (r : Int32) (J : xc_M) : xc_ro (some r) J = some (r, J) := rfl
theorem xp_rb0 {α : Type} (v : α) : xc_rb (nI 0) v = some v := rfl
theorem xp_rb1 {α : Type} (v : α) : xc_rb (nI 1) v = some v := rfl
theorem xp_mz0 {α : Type} (I : xc_M) (a k : Nat) (f : xc_M → Option α) : xc_mz I a k (nI 0) f = f (xc_wr I a k (nI 0)) := rfl
theorem xp_mz1 {α : Type} (I : xc_M) (a k : Nat) (f : xc_M → Option α) : xc_mz I a k (nI 1) f = f (xc_wr I a k (nI 1)) := rfl
theorem xp_dv {α : Type} {a b : Nat} {f : Int32 → Option α} (ha : a < 2 ^ 31) (hb : 0 < b ∧ b < 2 ^ 31) : xc_dv (nI a) (nI b) f = f (nI (a / b)) := by
  unfold xc_dv
  rw [if_neg, pk_div ha hb.1 hb.2]
  exact nI_ne0 hb.1 hb.2
theorem xp_rem {α : Type} {a b : Nat} {f : Int32 → Option α} (ha : a < 2 ^ 31) (hb : 0 < b ∧ b < 2 ^ 31) : xc_rem (nI a) (nI b) f = f (nI (a % b)) := by
  unfold xc_rem
  rw [if_neg, pk_rem ha hb.1 hb.2]
  exact nI_ne0 hb.1 hb.2
theorem xp_bv (n : Nat) : (nI n).toBitVec = BitVec.ofNat 32 n := rfl
theorem xp_inj {x y : Int32} (h : x.toBitVec = y.toBitVec) : x = y := Int32.toBitVec_inj.mp h
theorem xp_and (a b : Nat) : nI a &&& nI b = nI (a &&& b) := by
  apply xp_inj
  rw [Int32.toBitVec_and, xp_bv, xp_bv, xp_bv, BitVec.ofNat_and]
theorem xp_or (a b : Nat) : nI a ||| nI b = nI (a ||| b) := by
  apply xp_inj
  rw [Int32.toBitVec_or, xp_bv, xp_bv, xp_bv, BitVec.ofNat_or]
theorem xp_xor (a b : Nat) : nI a ^^^ nI b = nI (a ^^^ b) := by
  apply xp_inj
  rw [Int32.toBitVec_xor, xp_bv, xp_bv, xp_bv, BitVec.ofNat_xor]
/-- of the numbers of a those that b hasn't -/
def xdf (a b : Nat) : Nat := a ^^^ (a &&& b)
theorem xdf_tb (a b i : Nat) : (xdf a b).testBit i = (a.testBit i && !b.testBit i) := by
  unfold xdf
  rw [Nat.testBit_xor, Nat.testBit_and]
  cases a.testBit i <;> cases b.testBit i <;> rfl
theorem xp_m1 : (-1 : Int32).toBitVec = BitVec.allOnes 32 := by decide
theorem xp_df (a b : Nat) : nI a &&& (nI b ^^^ (-1)) = nI (xdf a b) := by
  apply xp_inj
  rw [Int32.toBitVec_and, Int32.toBitVec_xor, xp_m1]
  apply BitVec.eq_of_getLsbD_eq
  intro i hi
  have h1 : ∀ n, (BitVec.ofNat 32 n).getLsbD i = n.testBit i := by
    intro n
    rw [BitVec.getLsbD_ofNat]
    simp [hi]
  rw [BitVec.getLsbD_and, BitVec.getLsbD_xor, xp_bv, xp_bv, xp_bv, h1, h1, h1, xdf_tb, BitVec.getLsbD_allOnes]
  simp [hi]
theorem xp_sl (n : Nat) (h : n < 32) : ((nI n &&& nI 31).toBitVec.smod 32).toNat = n := (by decide : ∀ n, n < 32 → ((nI n &&& nI 31).toBitVec.smod 32).toNat = n) n h
theorem xp_bs {k : Nat} (h : k < 31) : nI 1 <<< (nI k &&& nI 31) = nI (2 ^ k) := by
  have h2 : (2 : Nat) ^ k < 2 ^ 31 := Nat.pow_lt_pow_right (by decide) h
  rw [pk_shlN (nI k &&& nI 31) k (xp_sl k (by omega)) (by omega), Nat.one_mul]
theorem xp_sr {a k : Nat} (ha : a < 2 ^ 31) (h : k < 32) : nI a >>> (nI k &&& nI 31) = nI (a / 2 ^ k) := pk_shrN ha _ k (xp_sl k h)
theorem xp_tb1 (a k : Nat) : a / 2 ^ k &&& 1 = (a.testBit k).toNat := by
  rw [Nat.and_one_is_mod, Nat.testBit_eq_decide_div_mod_eq]
  by_cases h : a / 2 ^ k % 2 = 1
  · simp [h]
  · simp [h]
    omega
theorem xp_tb {a k : Nat} (ha : a < 2 ^ 31) (h : k < 32) : (nI a >>> (nI k &&& nI 31)) &&& nI 1 = nI (a.testBit k).toNat := by
  rw [xp_sr ha h, xp_and, xp_tb1]
theorem xp_eq {a b : Nat} (ha : a < 2 ^ 31) (hb : b < 2 ^ 31) : (nI a = nI b) = (a = b) := propext (nI_eq ha hb)
theorem xp_le {a b : Nat} (ha : a < 2 ^ 31) (hb : b < 2 ^ 31) : (nI a ≤ nI b) = (a ≤ b) := propext (nI_leI ha hb)
theorem xp_ltI {a b : Nat} (ha : a < 2 ^ 31) (hb : b < 2 ^ 31) : (nI a < nI b) = (a < b) := propext (nI_ltI ha hb)
theorem xp_tn (b : Bool) : (b.toNat = 0) = (b = false) := by cases b <;> simp
theorem xp_tn1 (b : Bool) : (b.toNat = 1) = (b = true) := by cases b <;> simp
theorem xp_wr_s (I : xc_M) (a k : Nat) (v : Int32) : xc_wr I a k v a k = v := by simp [xc_wr]
theorem xp_wr_n (I : xc_M) (a k : Nat) (v : Int32) (b j : Nat) (h : b = a → j ≠ k) : xc_wr I a k v b j = I b j := by
  unfold xc_wr
  rw [if_neg]
  rintro ⟨h1, h2⟩
  exact h h1 h2
theorem xp_wr_same (I : xc_M) (a k : Nat) : xc_wr I a k (I a k) = I := by
  funext b j
  unfold xc_wr
  split
  · rename_i h
    rw [h.1, h.2]
  · rfl
-- a loop by its counter
def itr {σ : Type} (f : Nat → σ → σ) (s : σ) : Nat → σ
  | 0 => s
  | n + 1 => f n (itr f s n)
theorem xp_loop {σ β : Type} (L : Nat → Nat → σ → Option β) (n : Nat) (f : Nat → σ → σ) (R : σ → Option β) (s0 : σ) (hx : ∀ fu, L (fu + 1) n (itr f s0 n) = R (itr f s0 n)) (hs : ∀ fu i, i < n → L (fu + 1) i (itr f s0 i) = L fu (i + 1) (f i (itr f s0 i))) : ∀ fu, n < fu → L fu 0 s0 = R (itr f s0 n) := by
  have key : ∀ d i fu, i + d = n → d < fu → L fu i (itr f s0 i) = R (itr f s0 n) := by
    intro d
    induction d with
    | zero =>
      intro i fu hi hf
      have hn : i = n := by omega
      obtain ⟨g, rfl⟩ : ∃ g, fu = g + 1 := ⟨fu - 1, by omega⟩
      subst hn
      exact hx g
    | succ d ih =>
      intro i fu hi hf
      obtain ⟨g, rfl⟩ : ∃ g, fu = g + 1 := ⟨fu - 1, by omega⟩
      rw [hs g i (by omega)]
      exact ih (i + 1) g (by omega) (by omega)
  intro fu hf
  exact key n 0 fu (by omega) hf
/-- the numbers below n of which P -/
def smk (P : Nat → Bool) (n : Nat) : Nat := itr (fun i acc => if P i then acc ||| 2 ^ i else acc) 0 n
theorem smk_lt (P : Nat → Bool) (n : Nat) : smk P n < 2 ^ n := by
  induction n with
  | zero => simp [smk, itr]
  | succ n ih =>
    have h1 : (2 : Nat) ^ n < 2 ^ (n + 1) := Nat.pow_lt_pow_right (by decide) (by omega)
    show (if P n then smk P n ||| 2 ^ n else smk P n) < 2 ^ (n + 1)
    split
    · exact Nat.or_lt_two_pow (by omega) h1
    · omega
theorem smk_tb (P : Nat → Bool) (n i : Nat) : (smk P n).testBit i = (decide (i < n) && P i) := by
  induction n with
  | zero => simp [smk, itr]
  | succ n ih =>
    show (if P n then smk P n ||| 2 ^ n else smk P n).testBit i = _
    by_cases hi : i = n
    · subst hi
      have h0 : (smk P i).testBit i = false := by rw [ih]; simp
      split
      · rename_i h
        rw [Nat.testBit_or, Nat.testBit_two_pow_self]
        simp [h]
      · rename_i h
        rw [h0]
        simp [h]
    · have h1 : decide (i < n + 1) = decide (i < n) := by
        apply decide_eq_decide.mpr
        omega
      split
      · rw [Nat.testBit_or, Nat.testBit_two_pow_of_ne (by omega), ih, h1]
        simp
      · rw [ih, h1]
theorem smk_congr {P Q : Nat → Bool} {n : Nat} (h : ∀ i, i < n → P i = Q i) : smk P n = smk Q n := by
  apply Nat.eq_of_testBit_eq
  intro i
  rw [smk_tb, smk_tb]
  by_cases hi : i < n
  · simp [hi, h i hi]
  · simp [hi]
