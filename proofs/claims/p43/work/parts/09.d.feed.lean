-- ===== feed =====
def byt (v : Int32) (k : Nat) : Int32 := (v >>> (nI (24 - 8 * k) &&& 31)) &&& 255
theorem byt_n (v : Int32) (k : Nat) : ∃ c, c < 256 ∧ byt v k = nI c := by
  unfold byt
  generalize v >>> (nI (24 - 8 * k) &&& 31) = x
  refine ⟨x.toBitVec.toNat % 256, Nat.mod_lt _ (by decide), ?_⟩
  apply xp_inj
  apply BitVec.eq_of_toNat_eq
  rw [Int32.toBitVec_and, xp_bv]
  have e : (255 : Int32).toBitVec = 255#32 := by decide
  rw [e, BitVec.toNat_and, BitVec.toNat_ofNat, BitVec.toNat_ofNat]
  have h1 : x.toBitVec.toNat % 256 < 256 := Nat.mod_lt _ (by decide)
  rw [show (255 : Nat) % 2 ^ 32 = 2 ^ 8 - 1 by decide, Nat.and_two_pow_sub_one_eq_mod, Nat.mod_eq_of_lt (a := x.toBitVec.toNat % 256) (by omega)]
theorem nar_and (x : Int32) : (x.toInt8.toInt32) &&& 255 = x &&& 255 := by
  apply xp_inj
  rw [Int32.toBitVec_and, Int32.toBitVec_and]
  have e : (255 : Int32).toBitVec = 255#32 := by decide
  have e2 : x.toInt8.toInt32.toBitVec = (x.toBitVec.signExtend 8).signExtend 32 := by rw [Int8.toBitVec_toInt32, Int32.toBitVec_toInt8]
  rw [e, e2]
  generalize x.toBitVec = y
  apply BitVec.eq_of_getLsbD_eq
  intro i hi
  have h255 : (255#32).getLsbD i = decide (i < 8) := by
    have : ∀ i, i < 32 → (255#32).getLsbD i = decide (i < 8) := by decide
    exact this i hi
  rw [BitVec.getLsbD_and, BitVec.getLsbD_and, h255, BitVec.getLsbD_signExtend]
  by_cases h8 : i < 8
  · rw [if_pos h8, BitVec.getLsbD_signExtend, if_pos hi, decide_eq_true h8, decide_eq_true hi]
    simp
  · simp [h8]
section
variable {N : Nat} {I J : xc_M}
theorem put_1 {t k : Nat} (v : Int32) (ht : I 130 0 = nI t) (ht2 : t < 400) (hk : k < 4) (fu : Nat) (x : Int32) (hx : x = nI (24 - 8 * k)) : ∃ I', lX5_put_3 N (fu + 1) v x I = lX5_put_3 N fu v (x + (-8)) I' ∧ I' 130 0 = nI (t + 1) ∧ (∀ a, a ≠ 130 → a ≠ 131 → I' a = I a) ∧ (∀ j, j ≠ t → I' 131 j = I 131 j) ∧ I' 131 t &&& 255 = byt v k := by
  refine ⟨xc_wr (xc_wr I 131 t (vp_nar .byte ((v >>> (x &&& 31))).toInt8.toInt32)) 130 0 (nI (t + 1)), ?_, xp_wr_s _ _ _ _, fun a h1 h2 => by rw [xp_wr_cell h1, xp_wr_cell h2], fun j hj => by rw [xp_wr_cell (by omega), xp_wr_k hj], ?_⟩
  · rw [lX5_put_3, bX5_put_3, ht]
    refine e_f ?_ (e_f ?_ (e_st (k := t) rfl (by omega) rfl (e_mw (v := nI (t + 1)) ?_ (e_lt rfl rfl))))
    · rw [hx]
      exact nI_pos (by omega)
    · rw [show (400 : Int32) = nI 400 from rfl, xp_le (by omega) (by omega)]
      omega
    · rw [xp_wr_cell (by omega), ht]
      exact nI_add t 1
  · rw [xp_wr_cell (by omega), xp_wr_s, pk_vb, nar_and, hx]
    rfl
theorem put_c (hN : 1000 ≤ N) {t : Nat} (v : Int32) (ht : I 130 0 = nI t) (ht2 : t + 4 ≤ 400) : ∃ I', fX5_put N v I = some (nI 0, I') ∧ I' 130 0 = nI (t + 4) ∧ (∀ a, a ≠ 130 → a ≠ 131 → I' a = I a) ∧ (∀ j, j < t → I' 131 j = I 131 j) ∧ ∀ k, k < 4 → I' 131 (t + k) &&& 255 = byt v k := by
  obtain ⟨fu, rfl⟩ : ∃ fu, N = fu + 5 := ⟨N - 5, by omega⟩
  obtain ⟨I1, p1, q1, r1, s1, u1⟩ := put_1 (N := fu + 5) (k := 0) v ht (by omega) (by omega) (fu + 4) 24 rfl
  obtain ⟨I2, p2, q2, r2, s2, u2⟩ := put_1 (N := fu + 5) (k := 1) v q1 (by omega) (by omega) (fu + 3) (24 + (-8)) (by decide)
  obtain ⟨I3, p3, q3, r3, s3, u3⟩ := put_1 (N := fu + 5) (k := 2) v q2 (by omega) (by omega) (fu + 2) (24 + (-8) + (-8)) (by decide)
  obtain ⟨I4, p4, q4, r4, s4, u4⟩ := put_1 (N := fu + 5) (k := 3) v q3 (by omega) (by omega) (fu + 1) (24 + (-8) + (-8) + (-8)) (by decide)
  refine ⟨I4, ?_, q4, fun a h1 h2 => by rw [r4 a h1 h2, r3 a h1 h2, r2 a h1 h2, r1 a h1 h2], fun j hj => by rw [s4 j (by omega), s3 j (by omega), s2 j (by omega), s1 j (by omega)], fun k hk => ?_⟩
  · unfold fX5_put
    refine e_lt rfl (p1.trans (p2.trans (p3.trans (p4.trans ?_))))
    rw [lX5_put_3, bX5_put_3]
    exact e_t (by decide) rfl
  · have hc : k = 0 ∨ k = 1 ∨ k = 2 ∨ k = 3 := by omega
    rcases hc with z | z | z | z <;> subst z
    · rw [s4 _ (by omega), s3 _ (by omega), s2 _ (by omega)]
      exact u1
    · rw [s4 _ (by omega), s3 _ (by omega)]
      exact u2
    · rw [s4 _ (by omega)]
      exact u3
    · exact u4
def sel5 (v1 v2 v3 v4 v5 : Int32) (i : Nat) : Int32 := if 4 ≤ i then (if 8 ≤ i then (if 12 ≤ i then (if 16 ≤ i then v5 else v4) else v3) else v2) else v1
theorem feed_c (hN : 1000 ≤ N) {t : Nat} (v1 v2 v3 v4 v5 : Int32) (ht : I 130 0 = nI t) (ht2 : t + 20 ≤ 400) : ∃ I', fX9_feed N v1 v2 v3 v4 v5 I = some (nI (t + 20), I') ∧ I' 130 0 = nI (t + 20) ∧ (∀ a, a ≠ 130 → a ≠ 131 → I' a = I a) ∧ (∀ j, j < t → I' 131 j = I 131 j) ∧ ∀ i, i < 20 → I' 131 (t + i) &&& 255 = byt (sel5 v1 v2 v3 v4 v5 i) (i % 4) := by
  obtain ⟨I1, p1, q1, r1, s1, u1⟩ := put_c hN v1 ht (by omega)
  obtain ⟨I2, p2, q2, r2, s2, u2⟩ := put_c hN v2 q1 (by omega)
  obtain ⟨I3, p3, q3, r3, s3, u3⟩ := put_c hN v3 q2 (by omega)
  obtain ⟨I4, p4, q4, r4, s4, u4⟩ := put_c hN v4 q3 (by omega)
  obtain ⟨I5, p5, q5, r5, s5, u5⟩ := put_c hN v5 q4 (by omega)
  refine ⟨I5, ?_, q5, fun a h1 h2 => by rw [r5 a h1 h2, r4 a h1 h2, r3 a h1 h2, r2 a h1 h2, r1 a h1 h2], fun j hj => by rw [s5 j (by omega), s4 j (by omega), s3 j (by omega), s2 j (by omega), s1 j (by omega)], fun i hi => ?_⟩
  · unfold fX9_feed
    refine e_t ?_ (e_cv p1 (e_cv p2 (e_cv p3 (e_cv p4 (e_cv p5 (by rw [q5]))))))
    rw [ht]
    show nI t + nI 20 ≤ nI 400
    rw [nI_add, xp_le (by omega) (by omega)]
    omega
  · unfold sel5
    by_cases h4 : 4 ≤ i
    · by_cases h8 : 8 ≤ i
      · by_cases h12 : 12 ≤ i
        · by_cases h16 : 16 ≤ i
          · rw [if_pos h4, if_pos h8, if_pos h12, if_pos h16]
            have := u5 (i - 16) (by omega)
            rw [show t + 4 + 4 + 4 + 4 + (i - 16) = t + i by omega, show i - 16 = i % 4 by omega] at this
            exact this
          · rw [if_pos h4, if_pos h8, if_pos h12, if_neg h16, s5 _ (by omega)]
            have := u4 (i - 12) (by omega)
            rw [show t + 4 + 4 + 4 + (i - 12) = t + i by omega, show i - 12 = i % 4 by omega] at this
            exact this
        · rw [if_pos h4, if_pos h8, if_neg h12, s5 _ (by omega), s4 _ (by omega)]
          have := u3 (i - 8) (by omega)
          rw [show t + 4 + 4 + (i - 8) = t + i by omega, show i - 8 = i % 4 by omega] at this
          exact this
      · rw [if_pos h4, if_neg h8, s5 _ (by omega), s4 _ (by omega), s3 _ (by omega)]
        have := u2 (i - 4) (by omega)
        rw [show t + 4 + (i - 4) = t + i by omega, show i - 4 = i % 4 by omega] at this
        exact this
    · rw [if_neg h4, s5 _ (by omega), s4 _ (by omega), s3 _ (by omega), s2 _ (by omega)]
      have := u1 i (by omega)
      rw [show i = i % 4 by omega] at this
      rw [show i % 4 = i by omega] at this ⊢
      exact this
def fdF (v1 v2 v3 v4 v5 : Int32) (t i : Nat) (K : xc_M) : xc_M := xc_wr (xc_wr K 10 (t + i) (byt (sel5 v1 v2 v3 v4 v5 i) (i % 4))) 0 18 (nI (t + (i + 1)))
theorem fd_71 {t i : Nat} (k18 : Int32 → Int32 → Int32 → Int32 → Int32 → Int32 → xc_M → Option (Int32 × xc_M)) (v1 v2 v3 v4 v5 x : Int32) (hi : i < 20) (ht2 : t + 20 ≤ 400) (ht : J 0 18 = nI (t + i)) (hx : x = sel5 v1 v2 v3 v4 v5 i) : bX10_feed_71 N k18 v1 v2 v3 v4 v5 (nI i) x J = k18 v1 v2 v3 v4 v5 (nI (i + 1)) (fdF v1 v2 v3 v4 v5 t i J) := by
  have hq : nI i - nI i / nI 4 * nI 4 = nI (i % 4) := by
    rw [nI_div (by omega) (by omega) (by omega), pk_mul, pk_sub (by omega)]
    congr 1
    omega
  have hs : ((24 : Int32) - ((8 : Int32) * nI (i % 4))) = nI (24 - 8 * (i % 4)) := by
    show nI 24 - nI 8 * nI (i % 4) = _
    rw [pk_mul, pk_sub (by omega)]
  rw [bX10_feed_71]
  refine e_lt rfl (e_rem (v := nI (i % 4)) (by decide) hq ?_)
  rw [ht, hs, hx]
  refine e_st (k := t + i) rfl (by omega) (v := byt (sel5 v1 v2 v3 v4 v5 i) (i % 4)) rfl (e_mw (v := nI (t + (i + 1))) ?_ (e_lt (nI_add i 1) rfl))
  rw [xp_wr_cell (by omega), ht]
  exact nI_add (t + i) 1
theorem feed_r (hN : 1000 ≤ N) {t : Nat} (v1 v2 v3 v4 v5 : Int32) (ht : J 0 18 = nI t) (ht2 : t + 20 ≤ 400) : ∃ J', fX10_feed N v1 v2 v3 v4 v5 J = some (nI (t + 20), J') ∧ J' 0 18 = nI (t + 20) ∧ (∀ a, a ≠ 0 → a ≠ 10 → J' a = J a) ∧ (∀ k, k ≠ 18 → J' 0 k = J 0 k) ∧ (∀ j, j < t → J' 10 j = J 10 j) ∧ ∀ i, i < 20 → J' 10 (t + i) = byt (sel5 v1 v2 v3 v4 v5 i) (i % 4) := by
  have key : ∀ n, n ≤ 20 → (itr (fdF v1 v2 v3 v4 v5 t) J n) 0 18 = nI (t + n) ∧ (∀ a, a ≠ 0 → a ≠ 10 → (itr (fdF v1 v2 v3 v4 v5 t) J n) a = J a) ∧ (∀ k, k ≠ 18 → (itr (fdF v1 v2 v3 v4 v5 t) J n) 0 k = J 0 k) ∧ (∀ j, j < t → (itr (fdF v1 v2 v3 v4 v5 t) J n) 10 j = J 10 j) ∧ ∀ i, i < n → (itr (fdF v1 v2 v3 v4 v5 t) J n) 10 (t + i) = byt (sel5 v1 v2 v3 v4 v5 i) (i % 4) := by
    intro n
    induction n with
    | zero => exact fun _ => ⟨ht, fun _ _ _ => rfl, fun _ _ => rfl, fun _ _ => rfl, fun i hi => absurd hi (by omega)⟩
    | succ n ih =>
      intro hn
      obtain ⟨h1, h2, h3, h4, h5⟩ := ih (by omega)
      have e : itr (fdF v1 v2 v3 v4 v5 t) J (n + 1) = fdF v1 v2 v3 v4 v5 t n (itr (fdF v1 v2 v3 v4 v5 t) J n) := rfl
      rw [e]
      generalize itr (fdF v1 v2 v3 v4 v5 t) J n = K at h1 h2 h3 h4 h5
      unfold fdF
      refine ⟨xp_wr_s _ _ _ _, fun a a1 a2 => by rw [xp_wr_cell a1, xp_wr_cell a2, h2 a a1 a2], fun k hk => by rw [xp_wr_k hk, xp_wr_cell (by omega), h3 k hk], fun j hj => by rw [xp_wr_cell (by omega), xp_wr_k (by omega), h4 j hj], fun i hi => ?_⟩
      rw [xp_wr_cell (by omega)]
      by_cases hc : i = n
      · rw [hc, xp_wr_s]
      · rw [xp_wr_k (by omega), h5 i (by omega)]
  have hl := xp_loop (fun fu i K => lX10_feed_18 N fu v1 v2 v3 v4 v5 (nI i) K) 20 (fdF v1 v2 v3 v4 v5 t) (fun K => some (K 0 18, K)) J (by
    intro fu
    show lX10_feed_18 N (fu + 1) _ _ _ _ _ _ _ = _
    rw [lX10_feed_18, bX10_feed_18]
    exact e_t (by decide) rfl) (by
    intro fu i hi
    have h18 := (key i (by omega)).1
    show lX10_feed_18 N (fu + 1) _ _ _ _ _ _ _ = _
    generalize itr (fdF v1 v2 v3 v4 v5 t) J i = K at h18 ⊢
    rw [lX10_feed_18, bX10_feed_18]
    have hle : ∀ m, m < 100 → (nI m ≤ nI i) = (m ≤ i) := fun m hm => xp_le (by omega) (by omega)
    have l4 : ((4 : Int32) ≤ nI i) = (4 ≤ i) := hle 4 (by omega)
    have l8 : ((8 : Int32) ≤ nI i) = (8 ≤ i) := hle 8 (by omega)
    have l12 : ((12 : Int32) ≤ nI i) = (12 ≤ i) := hle 12 (by omega)
    have l16 : ((16 : Int32) ≤ nI i) = (16 ≤ i) := hle 16 (by omega)
    refine e_f (by rw [show (20 : Int32) = nI 20 from rfl, xp_le (by omega) (by omega)]; omega) ?_
    by_cases h4 : 4 ≤ i
    · refine e_t (by rw [l4]; exact h4) ?_
      by_cases h8 : 8 ≤ i
      · refine e_t (by rw [l8]; exact h8) ?_
        by_cases h12 : 12 ≤ i
        · refine e_t (by rw [l12]; exact h12) ?_
          by_cases h16 : 16 ≤ i
          · refine e_t (by rw [l16]; exact h16) (fd_71 (t := t) _ v1 v2 v3 v4 v5 v5 hi ht2 h18 ?_)
            unfold sel5
            rw [if_pos h4, if_pos h8, if_pos h12, if_pos h16]
          · refine e_f (by rw [l16]; exact h16) (fd_71 (t := t) _ v1 v2 v3 v4 v5 v4 hi ht2 h18 ?_)
            unfold sel5
            rw [if_pos h4, if_pos h8, if_pos h12, if_neg h16]
        · refine e_f (by rw [l12]; exact h12) (fd_71 (t := t) _ v1 v2 v3 v4 v5 v3 hi ht2 h18 ?_)
          unfold sel5
          rw [if_pos h4, if_pos h8, if_neg h12]
      · refine e_f (by rw [l8]; exact h8) (fd_71 (t := t) _ v1 v2 v3 v4 v5 v2 hi ht2 h18 ?_)
        unfold sel5
        rw [if_pos h4, if_neg h8]
    · refine e_f (by rw [l4]; exact h4) (fd_71 (t := t) _ v1 v2 v3 v4 v5 v1 hi ht2 h18 ?_)
      unfold sel5
      rw [if_neg h4]) N (by omega)
  obtain ⟨h1, h2, h3, h4, h5⟩ := key 20 (Nat.le_refl _)
  refine ⟨itr (fdF v1 v2 v3 v4 v5 t) J 20, ?_, h1, h2, h3, h4, h5⟩
  unfold fX10_feed
  refine e_t ?_ (e_lt rfl (hl.trans (by rw [h1])))
  rw [ht]
  show nI t + nI 20 ≤ nI 400
  rw [nI_add, xp_le (by omega) (by omega)]
  omega
theorem feed_both (hN : 1000 ≤ N) (h : RR I J) (v1 v2 v3 v4 v5 : Int32) : ∃ v I' J', fX9_feed N v1 v2 v3 v4 v5 I = some (v, I') ∧ fX10_feed N v1 v2 v3 v4 v5 J = some (v, J') ∧ RR I' J' := by
  obtain ⟨hw, hd, hp, ⟨t, t1, t2, t3, t4⟩, hf, hi⟩ := id h
  by_cases ht : t + 20 ≤ 400
  · obtain ⟨I', c1, c2, c3, c4, c5⟩ := feed_c hN v1 v2 v3 v4 v5 t2 ht
    obtain ⟨J', r1, r2, r3, r4, r5, r6⟩ := feed_r hN v1 v2 v3 v4 v5 t3 ht
    refine ⟨nI (t + 20), I', J', c1, r1, ?_⟩
    exact ⟨by rw [r3 1 (by omega) (by omega)]; exact xW_frame (fun a a1 a2 => c3 a (by omega) (by omega)) hw, by rw [r3 1 (by omega) (by omega)]; exact hd, pastR_keep (fun a _ _ => c3 a (by omega) (by omega)) (r4 4 (by omega)) (r3 3 (by omega) (by omega)) (by rw [r3 1 (by omega) (by omega)]) hp, ⟨t + 20, by omega, c2, r2, fun j hj => by
      by_cases hc : j < t
      · rw [r5 j hc, c4 j hc]
        exact t4 j hc
      · have e : t + (j - t) = j := by omega
        have h1 := c5 (j - t) (by omega)
        have h2 := r6 (j - t) (by omega)
        rw [e] at h1 h2
        obtain ⟨c, hc1, hc2⟩ := byt_n (sel5 v1 v2 v3 v4 v5 (j - t)) ((j - t) % 4)
        exact ⟨c, hc1, h2.trans hc2, h1.trans hc2⟩⟩, fauR_keep (c3 132 (by omega) (by omega)) (r4 25 (by omega)) (r4 27 (by omega)) hf, imgR_keep (fun a _ _ => c3 a (by omega) (by omega)) (by rw [c3 0 (by omega) (by omega)]) (r4 5 (by omega)) (r3 2 (by omega) (by omega)) hi⟩
  · refine ⟨mI, I, J, ?_, ?_, h⟩
    · unfold fX9_feed
      refine e_f ?_ rfl
      rw [t2]
      show ¬ nI t + nI 20 ≤ nI 400
      rw [nI_add, xp_le (by omega) (by omega)]
      omega
    · unfold fX10_feed
      refine e_f ?_ rfl
      rw [t3]
      show ¬ nI t + nI 20 ≤ nI 400
      rw [nI_add, xp_le (by omega) (by omega)]
      omega
end
