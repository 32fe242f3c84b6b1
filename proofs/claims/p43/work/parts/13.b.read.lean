-- ===== what a talk holds, beside the reference's row =====
def XW (X : lX) (w : Nat → Int32) : Prop := X.1 0 = w 1 ∧ X.1 1 = w 0 ∧ X.1 2 = w 64 ∧ X.1 3 = w 62 ∧ X.1 4 = w 63 ∧ X.1 5 = w 2 ∧ X.2.2.2.2.1 = xr w 62 ∧ X.2.2.2.2.2.1 = xr w 63 ∧ X.2.2.2.2.2.2 = xr w 2 ∧ (∀ k, k < xr w 62 → X.2.1 k 0 = w (70 + k) ∧ X.2.1 k 1 = w (4 + k) ∧ X.2.1 k 2 = nI ((xr w 3).testBit k).toNat ∧ X.2.1 k 3 = w (18 + k) ∧ X.2.1 k 4 = w (84 + k)) ∧ (∀ p, p < xr w 63 → X.2.2.1 p 0 = w (32 + p) ∧ X.2.2.1 p 1 = w (42 + p) ∧ X.2.2.1 p 2 = w (52 + p)) ∧ ∀ j, j < xr w 2 → ∀ q, q < 4 → X.2.2.2.1 j q = w (748 + 4 * j + q)
section
variable {X : lX} {w : Nat → Int32}
theorem XW.state (h : XW X w) : X.1 0 = w 1 := h.1
theorem XW.day (h : XW X w) : X.1 1 = w 0 := h.2.1
theorem XW.chat (h : XW X w) : X.1 2 = w 64 := h.2.2.1
theorem XW.nw (h : XW X w) : X.1 3 = w 62 := h.2.2.2.1
theorem XW.np (h : XW X w) : X.1 4 = w 63 := h.2.2.2.2.1
theorem XW.nl (h : XW X w) : X.1 5 = w 2 := h.2.2.2.2.2.1
theorem XW.nW (h : XW X w) : X.2.2.2.2.1 = xr w 62 := h.2.2.2.2.2.2.1
theorem XW.nP (h : XW X w) : X.2.2.2.2.2.1 = xr w 63 := h.2.2.2.2.2.2.2.1
theorem XW.nL (h : XW X w) : X.2.2.2.2.2.2 = xr w 2 := h.2.2.2.2.2.2.2.2.1
theorem XW.long (h : XW X w) {k : Nat} (hk : k < xr w 62) : X.2.1 k 0 = w (70 + k) := (h.2.2.2.2.2.2.2.2.2.1 k hk).1
theorem XW.unsaid (h : XW X w) {k : Nat} (hk : k < xr w 62) : X.2.1 k 1 = w (4 + k) := (h.2.2.2.2.2.2.2.2.2.1 k hk).2.1
theorem XW.lapsed (h : XW X w) {k : Nat} (hk : k < xr w 62) : X.2.1 k 2 = nI ((xr w 3).testBit k).toNat := (h.2.2.2.2.2.2.2.2.2.1 k hk).2.2.1
theorem XW.said (h : XW X w) {k : Nat} (hk : k < xr w 62) : X.2.1 k 3 = w (18 + k) := (h.2.2.2.2.2.2.2.2.2.1 k hk).2.2.2.1
theorem XW.kin (h : XW X w) {k : Nat} (hk : k < xr w 62) : X.2.1 k 4 = w (84 + k) := (h.2.2.2.2.2.2.2.2.2.1 k hk).2.2.2.2
theorem XW.at (h : XW X w) {p : Nat} (hp : p < xr w 63) : X.2.2.1 p 0 = w (32 + p) := (h.2.2.2.2.2.2.2.2.2.2.1 p hp).1
theorem XW.tongue (h : XW X w) {p : Nat} (hp : p < xr w 63) : X.2.2.1 p 1 = w (42 + p) := (h.2.2.2.2.2.2.2.2.2.2.1 p hp).2.1
theorem XW.breath (h : XW X w) {p : Nat} (hp : p < xr w 63) : X.2.2.1 p 2 = w (52 + p) := (h.2.2.2.2.2.2.2.2.2.2.1 p hp).2.2
theorem XW.line (h : XW X w) {j q : Nat} (hj : j < xr w 2) (hq : q < 4) : X.2.2.2.1 j q = w (748 + 4 * j + q) := h.2.2.2.2.2.2.2.2.2.2.2 j hj q hq
end
-- ===== loops of the law's programs =====
theorem w_loop {S : Type} (L : Nat → Nat → S → Prop) (n : Nat) (Inv : Nat → S → Prop) (hx : ∀ fu s, Inv n s → L (fu + 1) n s) (hs : ∀ fu i s, i < n → Inv i s → (∀ s2, Inv (i + 1) s2 → L fu (i + 1) s2) → L (fu + 1) i s) : ∀ fu i s, n < fu + i → i ≤ n → Inv i s → L fu i s := by
  intro fu
  induction fu with
  | zero => intro i s h1 h2 _; omega
  | succ fu ih =>
    intro i s h1 h2 h3
    by_cases e : i = n
    · rw [e] at h3 ⊢
      exact hx fu s h3
    · exact hs fu i s (by omega) h3 (fun s2 h4 => ih (i + 1) s2 (by omega) (by omega) h4)
/-- a loop that only reads: its answer is an iteration -/
theorem w_itr {S : Type} (L : Nat → Nat → S → Prop) (n : Nat) (f : Nat → S → S) (s0 : S) (hx : ∀ fu, L (fu + 1) n (itr f s0 n)) (hs : ∀ fu i, i < n → L fu (i + 1) (f i (itr f s0 i)) → L (fu + 1) i (itr f s0 i)) {fu : Nat} (hf : n < fu) : L fu 0 s0 :=
  w_loop L n (fun i s => s = itr f s0 i) (fun fu s h => by rw [h]; exact hx fu) (fun fu i s hi h k => by rw [h]; exact hs fu i hi (k _ rfl)) fu 0 s0 (by omega) (by omega) rfl
-- ===== numbers =====
theorem w_held (v : Int32) (lo hi : Int32) {σ : xd_S} {K : xd_K} (h : K (rcl lo hi v) none σ) : hL_held v lo hi σ K := by
  unfold hL_held xd_lt
  show K (if lo < (if v < hi then v else hi) then (if v < hi then v else hi) else lo) none σ
  rw [i_max, i_min]
  exact h
theorem w_bitCount {n : Nat} (hn : n < 16384) {σ : xd_S} {K : xd_K} (h : K (nI (sct n)) none σ) : hJ6_bitCount_0f7a4 (nI n) σ K := by
  have e := cv_bitCount hn
  unfold fJ6_bitCount_0f7a4 xc_lt at e
  unfold hJ6_bitCount_0f7a4 xd_lt
  rw [← Option.some.inj e] at h
  exact h
theorem w_between (x : Int32) {lo hi : Nat} (h1 : lo ≤ hi) (h2 : hi < 2 ^ 20) {v1 v2 : Int32} (e1 : v1 = nI lo) (e2 : v2 = nI hi) {σ : xd_S} {K : xd_K} (h : ∀ r, lo ≤ r → r ≤ hi → K (nI r) none σ) : hL_between x v1 v2 σ K := by
  subst e1 e2
  have hm : ∃ m, m < 2 ^ 20 ∧ x &&& 1048575 = nI m := by
    refine ⟨x.toBitVec.toNat &&& 1048575, Nat.lt_of_le_of_lt Nat.and_le_right (by decide), ?_⟩
    apply xp_inj
    rw [Int32.toBitVec_and, xp_bv]
    apply BitVec.eq_of_toNat_eq
    rw [BitVec.toNat_and, BitVec.toNat_ofNat, Nat.mod_eq_of_lt (Nat.lt_of_le_of_lt Nat.and_le_right (by decide))]
    rfl
  obtain ⟨m, hm1, hm2⟩ := hm
  unfold hL_between
  have e3 : (nI hi - nI lo) + 1 = nI (hi - lo + 1) := by
    rw [pk_sub h1]
    exact nI_add _ 1
  have hlt : m % (hi - lo + 1) < hi - lo + 1 := Nat.mod_lt _ (by omega)
  refine w_rem (v := nI (m % (hi - lo + 1))) ?_ ?_ ?_
  · rw [e3]
    exact nI_ne0 (by omega) (by omega)
  · rw [hm2, e3, pk_rem (by omega) (by omega) (by omega)]
  · rw [nI_add]
    exact h _ (by omega) (by omega)
-- ===== who knows, what has lapsed =====
section
variable {σ : xd_S} {fr : xd_M} {tg : lTg} {i t : Nat} {d : lD} {ta : Nat → Option Nat} {X : lX} {w : Nat → Int32} {N : Nat} {K : xd_K}
theorem tb_shl (b : Bool) {k : Nat} (hk : k < 31) : nI b.toNat <<< (nI k &&& 31) = nI (if b then 2 ^ k else 0) := by
  have e : (31 : Int32) = nI 31 := rfl
  rw [e]
  cases b
  · have : nI (false.toNat) = (0 : Int32) := rfl
    rw [this]
    simp
    rfl
  · exact xp_bs hk
theorem smk_all {a n : Nat} (h : a < 2 ^ n) : smk (fun k => a.testBit k) n = a := by
  apply Nat.eq_of_testBit_eq
  intro j
  rw [smk_tb]
  by_cases hj : j < n
  · simp [hj]
  · have : a < 2 ^ j := Nat.lt_of_lt_of_le h (Nat.pow_le_pow_right (by decide) (by omega))
    rw [Nat.testBit_lt_two_pow this]
    simp
theorem smk_or (P : Nat → Bool) (n : Nat) : smk P n ||| (if P n then 2 ^ n else 0) = smk P (n + 1) := by
  show _ = if P n then smk P n ||| 2 ^ n else smk P n
  split
  · rfl
  · exact Nat.or_zero _
theorem w_lapsed (h : tT σ.1 fr tg i t d ta X) (hw : XW X w) (hi : iW w) (hN : 100 ≤ N) (hK : K (nI (xr w 3)) none σ) : hX10_lapsed N t σ K := by
  have hb := hi.nWB
  unfold hX10_lapsed xd_lt
  have key := w_itr (fun fu i (s : Nat) => hlX10_lapsed_4 N K fu t (nI s) (nI i) σ) (xr w 62) (fun k s => s ||| (if (xr w 3).testBit k then 2 ^ k else 0)) 0 (fun fu => ?_) (fun fu j hj hk => ?_) (fu := N) (by omega)
  · exact key
  · show hbX10_lapsed_4 N K (hlX10_lapsed_4 N K fu) t _ _ σ
    refine t_gI h (by omega) ?_
    rw [hw.nw, hi.nW]
    refine w_t (by rw [xp_le (by omega) (by omega)]; omega) ?_
    rw [show itr (fun k s => s ||| (if (xr w 3).testBit k then 2 ^ k else 0)) 0 (xr w 62) = xr w 3 from ?_]
    · exact hK
    · have e : ∀ n, itr (fun k s => s ||| (if (xr w 3).testBit k then 2 ^ k else 0)) 0 n = smk (fun k => (xr w 3).testBit k) n := by
        intro n
        induction n with
        | zero => rfl
        | succ n ih => rw [← smk_or, ← ih]; rfl
      rw [e, smk_all hi.lapsedP]
  · show hbX10_lapsed_4 N K (hlX10_lapsed_4 N K fu) t _ _ σ
    refine t_gI h (by omega) ?_
    rw [hw.nw, hi.nW]
    refine w_f (by rw [xp_le (by omega) (by omega)]; omega) ?_
    refine t_g8 h (t_aW h rfl ⟨by rw [hw.nW]; exact hj, by rw [hw.nW]; omega⟩ (t_wI h (by rw [hw.nW]; exact hj) (j := 2) rfl (by omega) ?_))
    rw [hw.lapsed hj]
    unfold xd_lt
    rw [tb_shl _ (by omega), xp_or, show (nI j + 1) = nI (j + 1) from (nI_succ j).symm]
    exact hk
theorem w_knows (h : tT σ.1 fr tg i t d ta X) (hw : XW X w) (hi : iW w) (hN : 100 ≤ N) {k : Nat} (hk : k < 14) (hK : K (nI (sKn w k)) none σ) : hX10_knows N t (nI k) σ K := by
  have hb := hi.nPB
  unfold hX10_knows xd_lt
  have key := w_itr (fun fu i (s : Nat) => hlX10_knows_4 N K fu t (nI k) (nI s) (nI i) σ) (xr w 63) (fun p s => if (xr w (42 + p)).testBit k then s ||| 2 ^ p else s) 0 (fun fu => ?_) (fun fu j hj hk2 => ?_) (fu := N) (by omega)
  · exact key
  · show hbX10_knows_4 N K (hlX10_knows_4 N K fu) t _ _ _ σ
    refine t_gI h (by omega) ?_
    rw [hw.np, hi.nP]
    refine w_t (by rw [xp_le (by omega) (by omega)]; omega) ?_
    exact hK
  · show hbX10_knows_4 N K (hlX10_knows_4 N K fu) t _ _ _ σ
    refine t_gI h (by omega) ?_
    rw [hw.np, hi.nP]
    refine w_f (by rw [xp_le (by omega) (by omega)]; omega) ?_
    refine t_g9 h (t_aM h rfl ⟨by rw [hw.nP]; exact hj, by rw [hw.nP]; omega⟩ (t_mI h (by rw [hw.nP]; exact hj) (j := 1) rfl (by omega) ?_))
    rw [hw.tongue hj, hi.tongue (by omega), show (31 : Int32) = nI 31 from rfl, show (1 : Int32) = nI 1 from rfl, xp_tb (by have := hi.tongueB (p := j) (by omega); omega) (by omega)]
    by_cases e : (xr w (42 + j)).testBit k = true
    · rw [e] at hk2 ⊢
      refine w_f (by simp) ?_
      unfold xd_lt
      rw [xp_bs (by omega), xp_or]
      show hbX10_knows_34 N K _ t (nI k) _ (nI j) σ
      unfold hbX10_knows_34 xd_lt
      rw [show (nI j + 1) = nI (j + 1) from (nI_succ j).symm]
      simpa using hk2
    · have e2 : (xr w (42 + j)).testBit k = false := by simpa using e
      rw [e2] at hk2 ⊢
      refine w_t (by decide) ?_
      unfold hbX10_knows_34 xd_lt
      rw [show (nI j + 1) = nI (j + 1) from (nI_succ j).symm]
      simpa using hk2
theorem w_living (h : tT σ.1 fr tg i t d ta X) (hw : XW X w) (hi : iW w) (hN : 100 ≤ N) (hK : K (nI (sLv w)) none σ) : hX10_living N t σ K := by
  unfold hX10_living
  refine t_gI h (by omega) (t_is h (w_c0 (w_lapsed (σ := (σ.1, σ.2.1, 0, 0)) h hw hi hN ?_)))
  have hb := hi.nWB
  have hp := Nat.two_pow_pos (xr w 62)
  show K ((((1 : Int32) <<< (X.1 3 &&& 31)) - 1) &&& (nI (xr w 3) ^^^ (-1))) none σ
  rw [hw.nw, hi.nW]
  show K ((nI 1 <<< (nI (xr w 62) &&& nI 31) - nI 1) &&& (nI (xr w 3) ^^^ (-1))) none σ
  rw [xp_bs (by omega), pk_sub (by omega), xp_df]
  exact hK
end
