-- ===== a number is appended; to be a string; a string is appended; a new builder =====
/-- the string b is the text s -/
def stT (M : xd_M) (b w : Nat) (s : List Nat) : Prop := ∃ (c cw : xd_C), M b = some c ∧ c.1 = 16 ∧ c.2.2.2 0 = some w ∧ c.2.2.1 1 = 0 ∧ M w = some cw ∧ cw.1 = 1 ∧ cw.2.1 = s.length ∧ (∀ j, j < cw.2.1 → ∃ y, y < 128 ∧ cw.2.2.1 j = nI y) ∧ ∀ (j y : Nat), s[j]? = some y → cw.2.2.1 j = nI y
section
variable {σ τ ρ : xd_S} {M M2 : xd_M} {a v v' v'' b w : Nat} {s t : List Nat} {L N : Nat} {K : xd_K}
theorem dec_l {x : Nat} : (dec x).length ≤ 3 := by
  unfold dec
  split
  · simp
  · split <;> simp
theorem w_na {k n : Nat} {m : Int32} {f : Nat → xd_S → Prop} (hm : m = nI n) (hn : n < 100000) (h1 : 1 ≤ σ.2.2.1) (h2 : n ≤ σ.2.2.2) (hf : ∀ b, σ.1 b = none → f b (xd_up σ.1 b (k, n, fun _ => 0, fun _ => none), σ.2.1, σ.2.2.1 - 1, σ.2.2.2 - n)) : xd_na k m σ f := by
  subst hm
  have e : (nI n).toNatClampNeg = n := nI_clamp (by omega)
  refine ⟨nI_pos (by omega), by rw [e]; omega, h1, by rw [e]; exact h2, fun b hb => ?_⟩
  rw [e]
  exact hf b hb
theorem w_cp {a0 a1 p q n : Nat} {sp dp m : Int32} {c d : xd_C} {f : xd_S → Prop} (hc : σ.1 a0 = some c) (hk : c.1 = 1) (hd : σ.1 a1 = some d) (hk2 : d.1 = 1) (h1 : sp = nI p) (h2 : dp = nI q) (h3 : m = nI n) (hp : p + n ≤ c.2.1) (hq : q + n ≤ d.2.1) (hb : c.2.1 < 2 ^ 20 ∧ d.2.1 < 2 ^ 20) (hf : ∀ i, i < n → ∃ y, y < 128 ∧ c.2.2.1 (p + i) = nI y) (h : f (xd_up σ.1 a1 (1, d.2.1, va_cpy c.2.2.1 d.2.2.1 p q n, d.2.2.2), σ.2)) : xd_cp a0 sp a1 dp m σ f := by
  subst h1 h2 h3
  have e1 : (nI p).toNatClampNeg = p := nI_clamp (by omega)
  have e2 : (nI q).toNatClampNeg = q := nI_clamp (by omega)
  have e3 : (nI n).toNatClampNeg = n := nI_clamp (by omega)
  refine ⟨c, d, hc, hk, hd, hk2, nI_pos (by omega), nI_pos (by omega), nI_pos (by omega), ?_, ?_, fun i hi => ?_, ?_⟩
  · rw [e1, e3]
    exact hp
  · rw [e2, e3]
    exact hq
  · rw [e3] at hi
    rw [e1]
    obtain ⟨y, y1, y2⟩ := hf i hi
    rw [y2]
    exact (fb_n y1).1
  · rw [e1, e2, e3]
    exact h
theorem w_appn {x Q : Nat} (hx : x < 1000) (hN : 100 ≤ N) (h : sbT σ.1 a v s s.length) (hm : s.length < 3900) (hC : 1 ≤ σ.2.2.1) (hS : Q ≤ σ.2.2.2) (hQ : 2 * (s.length + 3) ≤ Q) (hK : ∀ τ v', sbT τ.1 a v' (s ++ dec x) (s ++ dec x).length → exB σ a v τ v' → K 0 (some a) τ) : hJ4_append_bf812 N a (nI x) σ K := by
  have hd3 := dec_l (x := x)
  obtain ⟨c, cv, ⟨c1, c2, c3, c4, c5⟩, -⟩ := id h
  unfold hJ4_append_bf812
  refine w_is c1 c2 (w_cc 1 Q hC hS ?_)
  unfold hJ5_append_c97b9
  refine w_gI c1 c2 c5 (w_lt rfl (w_c0 (w_size hx hN ?_)))
  refine w_lt rfl (w_is c1 c2 (w_cc 1 Q (Nat.le_refl _) (Nat.le_refl _) (w_ens (σ := (σ.1, σ.2.1, 1, Q)) h (by omega) (Nat.le_refl _) (by show _ ≤ Q; omega) (fun τ v' h2 x2 => ?_))))
  have hne := h2.ne
  obtain ⟨c', cv', ⟨d1, d2, d3, d4, d5⟩, u1, u2, u3, u4, u5, u6, u7⟩ := id h2
  refine w_is (c := c') d1 d2 (w_c0 ?_)
  unfold hJ5_isLatin1_aae02
  refine w_f (by decide) (w_gI (c := c') d1 d2 d4 (w_f (fun z => z rfl) (w_rb (Or.inr rfl) ?_)))
  refine w_f (by decide) (w_gR (c := c') d1 d2 d3 (w_c0 ?_))
  rw [nI_add]
  refine w_chars (σ := (τ.1, τ.2.1, 0, 0)) (cv := cv') hx hN u1 u2 u4 (by omega) (fun g q1 q2 q3 r => ?_)
  show hbJ5_append_c97b9_48 N _ a _ _
  unfold hbJ5_append_c97b9_48
  refine w_pI (c := c') (by show xd_up τ.1 v' _ a = some c'; rw [xu_n _ _ hne]; exact d1) d2 rfl ?_
  show xd_nn (some a) _
  refine w_nn (hK _ v' (sb_app h2 d1 u1 (g := g) ?_ (xu_s _ _ _) q1 q2 (fun j hj => ?_)) ?_)
  · show xd_up (xd_up τ.1 v' _) a _ v' = _
    rw [xu_n _ _ hne.symm, xu_s]
  · rcases q3 j with z | z
    · exact z
    · rw [z]
      exact u6 j hj
  · exact (x2.b0.trans (exB.two hne)).b
theorem stT.keep (h : stT M b w s) (h1 : M2 b = M b) (h2 : M2 w = M w) : stT M2 b w s := by
  obtain ⟨c, cw, q1, q2, q3, q4, q5, q6⟩ := h
  exact ⟨c, cw, h1.trans q1, q2, q3, q4, h2.trans q5, q6⟩
/-- what a copy of n bytes of v's array is -/
def cpQ (σ : xd_S) (n : Nat) (f : Nat → Int32) (τ : xd_S) (w : Nat) : Prop := σ.1 w = none ∧ (∃ g, τ.1 w = some (1, n, g, fun _ => none) ∧ ∀ j, j < n → g j = f j) ∧ (∀ x, x ≠ w → τ.1 x = σ.1 x) ∧ τ.2.1 = σ.2.1
theorem cpQ.bb {n : Nat} {f : Nat → Int32} (h : cpQ σ n f τ w) {x y : Nat} : cpQ σ n f (τ.1, τ.2.1, x, y) w := h
theorem cpQ.b0 {n x y : Nat} {f : Nat → Int32} (h : cpQ (σ.1, σ.2.1, x, y) n f τ w) : cpQ σ n f τ w := h
theorem w_rangeB {n : Nat} {cv : xd_C} (hv : σ.1 v = some cv) (k1 : cv.1 = 1) (hn : n ≤ cv.2.1) (hb : cv.2.1 < 2 ^ 16) (hy : ∀ j, j < cv.2.1 → ∃ y, y < 128 ∧ cv.2.2.1 j = nI y) (hC : 1 ≤ σ.2.2.1) (hS : n ≤ σ.2.2.2) (hK : ∀ τ w, cpQ σ n cv.2.2.1 τ w → K 0 (some w) τ) : hJ7_copyOfRangeByte_39247 v 0 (nI n) σ K := by
  unfold hJ7_copyOfRangeByte_39247
  refine w_c0 ?_
  unfold hJ7_checkLength_df160
  refine w_t (by rw [show (0 : Int32) = nI 0 from rfl, xp_le (by omega) (by omega)]; omega) ?_
  have es : ∀ m : Nat, nI m - (0 : Int32) = nI m := fun m => by
    rw [show (0 : Int32) = nI 0 from rfl, pk_sub (by omega)]
    rfl
  refine w_lt (es n) ?_
  show xd_na 1 (nI n) (σ.1, σ.2.1, σ.2.2.1, σ.2.2.2) _
  refine w_na rfl (by omega) hC hS (fun w hw => ?_)
  have hw0 : σ.1 w = none := hw
  have hvw : v ≠ w := fun e => by rw [e, hw0] at hv; exact nomatch hv
  have hv2 : ∀ q, xd_up σ.1 w q v = some cv := fun q => (xu_n _ _ hvw).trans hv
  show xd_al 1 v (xd_up σ.1 w _, σ.2.1, σ.2.2.1 - 1, σ.2.2.2 - n) _
  refine w_al (n := cv.2.1) (c := cv) (hv2 _) k1 rfl (w_lt (v := nI n) (by rw [es, if_ltN (by omega) (by omega)]; split <;> first | rfl | (congr 1; omega)) ?_)
  refine w_cp (c := cv) (d := (1, n, fun _ => 0, fun _ => none)) (p := 0) (q := 0) (n := n) (hv2 _) k1 (xu_s _ _ _) rfl rfl rfl rfl (by omega) (by show 0 + n ≤ n; omega) ⟨by omega, by show n < _; omega⟩ (fun i hi => hy (0 + i) (by omega)) ?_
  show K 0 (some w) (xd_up (xd_up σ.1 w _) w (1, n, va_cpy cv.2.2.1 (fun _ => 0) 0 0 n, fun _ => none), σ.2.1, σ.2.2.1 - 1, σ.2.2.2 - n)
  refine hK _ w ⟨hw0, ⟨_, xu_s _ _ _, fun j hj => ?_⟩, fun x hx => ?_, rfl⟩
  · unfold va_cpy
    rw [if_pos (by omega), show 0 + (j - 0) = j by omega]
  · exact (xu_n _ _ hx).trans (xu_n _ _ hx)
theorem w_range {n : Nat} {cv : xd_C} (hv : σ.1 v = some cv) (k1 : cv.1 = 1) (hn : n ≤ cv.2.1) (hb : cv.2.1 < 2 ^ 16) (hy : ∀ j, j < cv.2.1 → ∃ y, y < 128 ∧ cv.2.2.1 j = nI y) (hC : 1 ≤ σ.2.2.1) (hS : n ≤ σ.2.2.2) (hK : ∀ τ w, cpQ σ n cv.2.2.1 τ w → K 0 (some w) τ) : hJ7_copyOfRange_39247 v 0 (nI n) σ K := by
  unfold hJ7_copyOfRange_39247
  refine w_f (fun z => z rfl) (w_al hv k1 rfl ?_)
  by_cases hl : n = cv.2.1
  · refine w_t (by rw [hl]) ⟨cv, hv, k1, fun i hi => ?_, hC, by omega, fun w hw => ?_⟩
    · obtain ⟨y, y1, y2⟩ := hy i hi
      rw [y2]
      exact (fb_n y1).1
    · refine w_is (c := (1, cv.2.1, cv.2.2.1, fun _ => none)) (xu_s _ _ _) rfl (hK _ w ⟨hw, ⟨cv.2.2.1, ?_, fun _ _ => rfl⟩, fun x hx => xu_n _ _ hx, rfl⟩)
      rw [hl]
      exact xu_s _ _ _
  · refine w_f (by rw [xp_eq (by omega) (by omega)]; exact hl) ?_
    unfold hbJ7_copyOfRange_39247_10
    refine w_cc 1 n hC hS (w_rangeB (σ := (σ.1, σ.2.1, 1, n)) hv k1 hn hb hy (Nat.le_refl _) (Nat.le_refl _) (fun τ w hq => ?_))
    show xd_nn (some w) _
    exact w_nn (hK _ w hq.b0.bb)
/-- what a string made of the builder is -/
def ssQ (σ : xd_S) (s : List Nat) (τ : xd_S) (b w : Nat) : Prop := stT τ.1 b w s ∧ σ.1 w = none ∧ (∀ x, x ≠ b → σ.1 x ≠ none → τ.1 x = σ.1 x) ∧ τ.2.1 = σ.2.1
theorem ssQ.bb (h : ssQ σ s τ b w) {x y : Nat} : ssQ σ s (τ.1, τ.2.1, x, y) b w := h
theorem ssQ.b0 {x y : Nat} (h : ssQ (σ.1, σ.2.1, x, y) s τ b w) : ssQ σ s τ b w := h
theorem w_sinit (hb : σ.1 b = some (16, 0, fun _ => 0, fun _ => none)) (h : sbT σ.1 a v s s.length) (hm : s.length < 3900) {Q : Nat} (hC : 1 ≤ σ.2.2.1) (hS : Q ≤ σ.2.2.2) (hQ : s.length ≤ Q) (hK : ∀ τ w, ssQ σ s τ b w → K 0 none τ) : hJ0_init_db425 b a σ K := by
  obtain ⟨c, cv, ⟨c1, c2, c3, c4, c5⟩, v1, v2, v3, v4, v5, v6, v7⟩ := id h
  have hvb : v ≠ b := fun e => by
    rw [e, hb] at v1
    have := Option.some.inj v1
    rw [← this] at v2
    exact absurd v2 (by decide)
  unfold hJ0_init_db425
  refine w_is c1 c2 (w_c0 ?_)
  unfold hJ5_getValue_6d5f1
  refine w_gR c1 c2 c3 ?_
  show xd_nn (some v) _
  refine w_nn (w_is c1 c2 (w_c0 ?_))
  unfold hJ4_length_8abf5
  refine w_is c1 c2 (w_c0 ?_)
  unfold hJ5_length_8abf5
  refine w_gI c1 c2 c5 (w_lt rfl (w_is c1 c2 (w_c0 ?_)))
  unfold hJ5_isLatin1_aae02
  refine w_f (by decide) (w_gI c1 c2 c4 (w_f (fun z => z rfl) (w_rb (Or.inr rfl) (w_f (by decide) ?_))))
  show xd_mz 16 b 1 0 (σ.1, σ.2.1, σ.2.2.1, σ.2.2.2) _
  refine ⟨Or.inl rfl, w_pI hb rfl rfl ?_⟩
  show xd_ca (fun τ K => hJ7_copyOfRange_39247 v 0 (nI s.length) τ K) (xd_up σ.1 b (16, 0, upd (fun _ => 0) 1 0, fun _ => none), σ.2.1, σ.2.2.1, σ.2.2.2) _
  generalize hσ1 : (xd_up σ.1 b (16, 0, upd (fun _ => 0) 1 0, fun _ => none), σ.2.1, σ.2.2.1, σ.2.2.2) = σ1
  have e1 : σ1.1 b = some (16, 0, upd (fun _ => 0) 1 0, fun _ => none) := by rw [← hσ1]; exact xu_s _ _ _
  have e2 : ∀ x, x ≠ b → σ1.1 x = σ.1 x := fun x hx => by rw [← hσ1]; exact xu_n _ _ hx
  have e3 : σ1.2.1 = σ.2.1 := by rw [← hσ1]
  have e4 : 1 ≤ σ1.2.2.1 := by rw [← hσ1]; exact hC
  have e5 : Q ≤ σ1.2.2.2 := by rw [← hσ1]; exact hS
  refine w_cc 1 Q e4 e5 (w_range (σ := (σ1.1, σ1.2.1, 1, Q)) ((e2 v hvb).trans v1) v2 v4 (by omega) v6 (Nat.le_refl _) (by show s.length ≤ Q; omega) (fun τ w hq => ?_))
  show xd_nn (some w) _
  obtain ⟨q1, ⟨g, q2, q3⟩, q4, q5⟩ := hq.b0
  have hwb : w ≠ b := fun e => by rw [e, e1] at q1; exact nomatch q1
  have hw0 : σ.1 w = none := (e2 w hwb).symm.trans q1
  refine w_nn (w_pR (c := (16, 0, upd (fun _ => 0) 1 0, fun _ => none)) ((q4 b hwb.symm).trans e1) rfl (hK _ w ⟨⟨(16, 0, upd (fun _ => 0) 1 0, va_up (fun _ => none) 0 (some w)), (1, s.length, g, fun _ => none), xu_s _ _ _, rfl, rfl, rfl, (xu_n _ _ hwb).trans q2, rfl, rfl, fun j hj => ?_, fun j y hj => ?_⟩, hw0, fun x x1 x2 => ?_, ?_⟩))
  · have hj' : j < s.length := hj
    show ∃ y, y < 128 ∧ g j = nI y
    rw [q3 j hj']
    exact v6 j (by omega)
  · show g j = nI y
    rw [q3 j (List.getElem?_eq_some_iff.mp hj).1]
    exact v7 j y hj
  · exact (xu_n _ _ x1).trans ((q4 x (fun e => x2 (by rw [e]; exact hw0))).trans (e2 x x1))
  · exact q5.trans e3
theorem w_str (h : sbT σ.1 a v s s.length) (hm : s.length < 3900) {Q : Nat} (hC : 2 ≤ σ.2.2.1) (hS : Q + 4 ≤ σ.2.2.2) (hQ : s.length ≤ Q) (hK : ∀ τ b w, stT τ.1 b w s → σ.1 b = none → σ.1 w = none → (∀ x, σ.1 x ≠ none → τ.1 x = σ.1 x) → τ.2.1 = σ.2.1 → K 0 (some b) τ) : hJ4_toString_0e30d a σ K := by
  unfold hJ4_toString_0e30d
  refine ⟨by omega, by omega, fun b hb => ?_⟩
  refine w_cc 1 Q (by show 1 ≤ σ.2.2.1 - 1; omega) (by show Q ≤ σ.2.2.2 - 4; omega) ?_
  unfold hJ0_init_81219
  refine w_cc 1 Q (Nat.le_refl _) (Nat.le_refl _) ?_
  have hx : ∀ x, σ.1 x ≠ none → x ≠ b := fun x hx e => hx (by rw [e]; exact hb)
  obtain ⟨c, cv, ⟨c1, c2, c3, c4, c5⟩, v1, v2, v3, v4, v5, v6, v7⟩ := id h
  refine w_sinit (σ := (xd_up σ.1 b (16, 0, fun _ => 0, fun _ => none), σ.2.1, 1, Q)) (v := v) (xu_s _ _ _) ⟨c, cv, ⟨(xu_n _ _ (hx a (nsome c1))).trans c1, c2, c3, c4, c5⟩, (xu_n _ _ (hx v (nsome v1))).trans v1, v2, v3, v4, v5, v6, v7⟩ hm (Nat.le_refl _) (Nat.le_refl _) hQ (fun τ w hq => ?_)
  have hwb : w ≠ b := fun e => by
    have this : xd_up σ.1 b (16, 0, fun _ => 0, fun _ => none) w = none := hq.2.1
    rw [e, xu_s] at this
    exact nomatch this
  exact hK _ b w hq.1 hb ((xu_n _ _ hwb).symm.trans hq.2.1) (fun x h0 => (hq.2.2.1 x (hx x h0) (by show xd_up σ.1 b _ x ≠ none; rw [xu_n _ _ (hx x h0)]; exact h0)).trans (xu_n _ _ (hx x h0))) hq.2.2.2
end
