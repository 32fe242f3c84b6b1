-- ===== a text comes to the TAPE =====
/-- the bytes packed so far into a word -/
def pv (c : Nat → Nat) (o m : Nat) : Nat := itr (fun i x => x * 256 + c (o + i)) 0 m
theorem pv_s (c : Nat → Nat) (o m : Nat) : pv c o (m + 1) = pv c o m * 256 + c (o + m) := rfl
theorem pv_lt {c : Nat → Nat} (hc : ∀ j, c j < 128) (o : Nat) : ∀ m, 2 * pv c o m < 256 ^ m := by
  intro m
  induction m with
  | zero => exact (by decide : 2 * 0 < 256 ^ 0)
  | succ m ih =>
    have h1 := hc (o + m)
    rw [pv_s, Nat.pow_succ]
    omega
theorem pv_or {p b : Nat} (hp : p < 2 ^ 23) (hb : b < 128) : (nI p <<< ((8 : Int32) &&& 31)) ||| nI b = nI (p * 256 + b) := by
  have e : nI p <<< ((8 : Int32) &&& 31) = nI (p * 2 ^ 8) := pk_shlN _ 8 (xp_sl 8 (by omega)) (by omega)
  rw [e, xp_or]
  congr 1
  have := Nat.two_pow_add_eq_or_of_lt (i := 8) (b := b) (by omega) p
  rw [Nat.mul_comm (2 ^ 8) p] at this
  rw [← this]
theorem byt_p {p k : Nat} (hp : p < 2 ^ 31) (hk : k < 4) : byt (nI p) k = nI (p / 2 ^ (24 - 8 * k) % 256) := by
  unfold byt
  rw [show (31 : Int32) = nI 31 from rfl, xp_sr hp (by omega), show (255 : Int32) = nI (2 ^ 8 - 1) from rfl, xp_and, Nat.and_two_pow_sub_one_eq_mod]
theorem byt_pv {c : Nat → Nat} (hc : ∀ j, c j < 128) (o : Nat) {k : Nat} (hk : k < 4) : byt (nI (pv c o 4)) k = nI (c (o + k)) := by
  have h4 := pv_lt hc o 4
  have e : pv c o 4 = ((c o * 256 + c (o + 1)) * 256 + c (o + 2)) * 256 + c (o + 3) := by
    rw [pv_s, pv_s, pv_s, pv_s]
    show (((0 * 256 + c (o + 0)) * 256 + c (o + 1)) * 256 + c (o + 2)) * 256 + c (o + 3) = _
    rw [Nat.zero_mul, Nat.zero_add]
    rfl
  have h0 := hc o
  have h1 := hc (o + 1)
  have h2 := hc (o + 2)
  have h3 := hc (o + 3)
  rw [byt_p (by omega) hk]
  congr 1
  rw [e]
  have hk4 : k = 0 ∨ k = 1 ∨ k = 2 ∨ k = 3 := by omega
  rcases hk4 with rfl | rfl | rfl | rfl
  · show _ / 16777216 % 256 = c o
    omega
  · show _ / 65536 % 256 = _
    omega
  · show _ / 256 % 256 = _
    omega
  · show _ / 1 % 256 = _
    omega
theorem c_end {I J : xc_M} (h : RR I J) {t m : Nat} (h18 : J 0 18 = nI t) (ht : t ≤ 400) (hm : m ≤ t) : fX9_end (nI m) I = some (1, xc_wr I 130 0 (nI m)) ∧ RR (xc_wr I 130 0 (nI m)) (xc_wr J 0 18 (nI m)) := by
  obtain ⟨hw, hd, hp, ⟨t', t1, t2, t3, t4⟩, hf, hi⟩ := id h
  rw [h18] at t3
  have et : t = t' := (nI_eq (by omega) (by omega)).mp t3
  subst et
  have hIo : ∀ a, a ≠ 130 → xc_wr I 130 0 (nI m) a = I a := fun a ha => xp_wr_cell ha
  have hJo : ∀ k, k ≠ 18 → xc_wr J 0 18 (nI m) 0 k = J 0 k := fun k hk => xp_wr_k hk
  have hJa : ∀ a, a ≠ 0 → xc_wr J 0 18 (nI m) a = J a := fun a ha => xp_wr_cell ha
  refine ⟨?_, by rw [hJa 1 (by omega)]; exact xW_frame (fun a a1 a2 => hIo a (by omega)) hw, by rw [hJa 1 (by omega)]; exact hd, pastR_keep (fun a _ _ => hIo a (by omega)) (hJo 4 (by omega)) (hJa 3 (by omega)) (by rw [hJa 1 (by omega)]) hp, ⟨m, by omega, xp_wr_s _ _ _ _, xp_wr_s _ _ _ _, fun j hj => by rw [hJa 10 (by omega), hIo 131 (by omega)]; exact t4 j (by omega)⟩, fauR_keep (hIo 132 (by omega)) (hJo 25 (by omega)) (hJo 27 (by omega)) hf, imgR_keep (fun a _ _ => hIo a (by omega)) (by rw [hIo 0 (by omega)]) (hJo 5 (by omega)) (hJa 2 (by omega)) hi⟩
  unfold fX9_end
  rw [t2]
  exact e_f (nI_pos (by omega)) (e_t (nI_le (by omega) (by omega)) (e_mw rfl rfl))
/-- twenty bytes come -/
theorem c_feed {I J : xc_M} {N : Nat} (hN : 1000 ≤ N) (h : RR I J) {c : Nat → Nat} (hc : ∀ j, c j < 128) {t : Nat} (h18 : J 0 18 = nI t) (ht : t + 20 ≤ 400) : ∃ x I2 J2, fX9_feed N (nI (pv c t 4)) (nI (pv c (t + 4) 4)) (nI (pv c (t + 8) 4)) (nI (pv c (t + 12) 4)) (nI (pv c (t + 16) 4)) I = some (x, I2) ∧ RR I2 J2 ∧ J2 0 18 = nI (t + 20) ∧ (∀ a, a ≠ 0 → a ≠ 10 → J2 a = J a) ∧ (∀ k, k ≠ 18 → J2 0 k = J 0 k) ∧ (∀ j, j < t → J2 10 j = J 10 j) ∧ ∀ i, i < 20 → J2 10 (t + i) = nI (c (t + i)) := by
  obtain ⟨v, I2, J2, g1, g2, g3⟩ := feed_both hN h (nI (pv c t 4)) (nI (pv c (t + 4) 4)) (nI (pv c (t + 8) 4)) (nI (pv c (t + 12) 4)) (nI (pv c (t + 16) 4))
  obtain ⟨J3, r1, r2, r3, r4, r5, r6⟩ := feed_r hN (nI (pv c t 4)) (nI (pv c (t + 4) 4)) (nI (pv c (t + 8) 4)) (nI (pv c (t + 12) 4)) (nI (pv c (t + 16) 4)) h18 ht
  obtain ⟨e1, e2⟩ := some_det2 g2 r1
  subst e1 e2
  refine ⟨_, I2, J2, g1, g3, r2, r3, r4, r5, fun i hi => ?_⟩
  rw [r6 i hi]
  unfold sel5
  split
  · split
    · split
      · split
        · rw [byt_pv hc _ (by omega)]
          congr 2
          omega
        · rw [byt_pv hc _ (by omega)]
          congr 2
          omega
      · rw [byt_pv hc _ (by omega)]
        congr 2
        omega
    · rw [byt_pv hc _ (by omega)]
      congr 2
      omega
  · rw [byt_pv hc _ (by omega)]
    congr 2
    omega
section
variable {σ τ ρ σ0 : xd_S} {M : xd_M} {b w : Nat} {s : List Nat} {N : Nat} {K : xd_K} {J : xc_M}
def txc (s : List Nat) (j : Nat) : Nat := (s[j]?).getD 32
theorem txc_lt (ha : ∀ (j y : Nat), s[j]? = some y → y < 128) (j : Nat) : txc s j < 128 := by
  unfold txc
  cases h : s[j]? with
  | none => exact (by decide : 32 < 128)
  | some y => exact ha j y h
/-- a word of the array w5 at k bytes of the twenty -/
def fdV (c : Nat → Nat) (o k q : Nat) : Int32 := nI (pv c (o + 4 * q) (min 4 (k - 4 * q)))
theorem say_17 (hT : stT M b w s) (ha : ∀ (j y : Nat), s[j]? = some y → y < 128) (hn : s.length ≤ 380) {o w5 : Nat} (ho : o < 400) {k2 : Nat → Int32 → xd_S → Prop} {C : xd_C} (hC1 : C.1 = 0) (hC2 : C.2.1 = 5) (hne : w5 ≠ b ∧ w5 ≠ w) (hK : ∀ τ, (∃ V, τ.1 w5 = some (0, 5, V, C.2.2.2) ∧ ∀ q, q < 5 → V q = nI (pv (txc s) (o + 4 * q) 4)) → (∀ x, x ≠ w5 → τ.1 x = σ0.1 x) → τ.2 = σ0.2 → (xd_aI 0 w5 0 τ fun x13 => xd_aI 0 w5 1 τ fun x14 => xd_aI 0 w5 2 τ fun x15 => xd_aI 0 w5 3 τ fun x16 => xd_aI 0 w5 4 τ fun x17 => xd_xc (fX9_feed N x13 x14 x15 x16 x17 τ.2.1) τ fun x18 τ19 => xd_lt (nI o + 20) fun v2_20 => (k2 b v2_20 τ19))) (h5 : σ0.1 w5 = some C) (hM : ∀ x, x ≠ w5 → σ0.1 x = M x) (h0 : ∀ q, q < 5 → C.2.2.1 q = 0) (hN : 100 ≤ N) : hlL_say_17 N K k2 N b (nI o) w5 (nI 0) σ0 := by
  have hc := txc_lt ha
  refine w_loop (fun fu k (τ : xd_S) => hlL_say_17 N K k2 fu b (nI o) w5 (nI k) τ) 20 (fun k τ => (∃ V, τ.1 w5 = some (0, 5, V, C.2.2.2) ∧ ∀ q, q < 5 → V q = fdV (txc s) o k q) ∧ (∀ x, x ≠ w5 → τ.1 x = σ0.1 x) ∧ τ.2 = σ0.2) (fun fu τ hh => ?_) (fun fu k τ hk hh hnx => ?_) N 0 σ0 (by omega) (by omega) ⟨⟨C.2.2.1, ?_, fun q hq => ?_⟩, fun _ _ => rfl, rfl⟩
  · obtain ⟨⟨V, q1, q2⟩, q3, q4⟩ := hh
    show hbL_say_17 N K k2 (hlL_say_17 N K k2 fu) b (nI o) w5 (nI 20) τ
    unfold hbL_say_17
    refine w_t (by decide) (hK τ ⟨V, q1, fun q hq => ?_⟩ q3 q4)
    rw [q2 q hq]
    unfold fdV
    rw [show min 4 (20 - 4 * q) = 4 by omega]
  · obtain ⟨⟨V, q1, q2⟩, q3, q4⟩ := hh
    have kT : stT τ.1 b w s := hT.keep ((q3 b hne.1.symm).trans (hM b hne.1.symm)) ((q3 w hne.2.symm).trans (hM w hne.2.symm))
    obtain ⟨ct, cw, t1, t2, -⟩ := id kT
    have hdv : nI k / (4 : Int32) = nI (k / 4) := nI_div (a := k) (b := 4) (by omega) (by omega) (by omega)
    have hV := q2 (k / 4) (by omega)
    unfold fdV at hV
    rw [show min 4 (k - 4 * (k / 4)) = k - 4 * (k / 4) by omega] at hV
    have hpv := pv_lt hc (o + 4 * (k / 4)) (k - 4 * (k / 4))
    have hm : k - 4 * (k / 4) ≤ 3 := by omega
    have hpw : 256 ^ (k - 4 * (k / 4)) ≤ 256 ^ 3 := Nat.pow_le_pow_right (by decide) hm
    have hlast : ∀ (y : Nat) (x : Int32) (σ' : xd_S), σ' = τ → x = nI y → y = txc s (o + k) → hbL_say_62 N K k2 (hlL_say_17 N K k2 fu) b (nI o) w5 (nI k) x (nI (pv (txc s) (o + 4 * (k / 4)) (k - 4 * (k / 4))) <<< ((8 : Int32) &&& 31)) (nI (k / 4)) w5 σ' := by
      intro y x σ' e1 e2 e3
      subst e1 e2 e3
      have hy := hc (o + k)
      unfold hbL_say_62
      refine w_sI (c := (0, 5, V, C.2.2.2)) (n := k / 4) (v := nI (pv (txc s) (o + 4 * (k / 4)) (k - 4 * (k / 4) + 1))) q1 rfl rfl ⟨by show k / 4 < 5; omega, by show 5 < 2 ^ 31; decide⟩ ?_ ?_
      · rw [pv_or (by omega) hy, pv_s]
        congr 2
        congr 1
        omega
      · refine w_lt (v := nI (k + 1)) (nI_add k 1) (hnx _ ⟨⟨_, xu_s _ _ _, fun q hq => ?_⟩, fun x hx => (xu_n _ _ hx).trans (q3 x hx), q4⟩)
        show upd V (k / 4) _ q = _
        by_cases e : q = k / 4
        · rw [e, upd_s]
          unfold fdV
          rw [show min 4 (k + 1 - 4 * (k / 4)) = k - 4 * (k / 4) + 1 by omega]
        · rw [upd_n _ _ e, q2 q hq]
          unfold fdV
          rw [show min 4 (k + 1 - 4 * q) = min 4 (k - 4 * q) by omega]
    show hbL_say_17 N K k2 (hlL_say_17 N K k2 fu) b (nI o) w5 (nI k) τ
    unfold hbL_say_17
    refine w_f (by rw [show (20 : Int32) = nI 20 from rfl, xp_le (by omega) (by omega)]; omega) (w_dv (by decide) hdv (w_dv (by decide) hdv (w_aI (c := (0, 5, V, C.2.2.2)) (n := k / 4) q1 rfl rfl ⟨by show k / 4 < 5; omega, by show 5 < 2 ^ 31; decide⟩ hV (w_is t1 t2 (w_c0 ?_)))))
    refine w_slen kT (by rfl) ?_
    by_cases hlt : o + k < s.length
    · obtain ⟨y, hy⟩ : ∃ y, s[o + k]? = some y := ⟨s[o + k], List.getElem?_eq_getElem hlt⟩
      refine w_f (by rw [nI_add, xp_le (by omega) (by omega)]; omega) (w_is (c := ct) t1 t2 (w_c0 ?_))
      rw [nI_add]
      refine w_charAt (i := o + k) (y := y) kT (by rfl) hy (ha _ _ hy) (by omega) ?_
      refine hlast y _ _ rfl rfl ?_
      unfold txc
      rw [hy]
      rfl
    · refine w_t (by rw [nI_add, xp_le (by omega) (by omega)]; omega) (hlast 32 _ _ rfl rfl ?_)
      unfold txc
      rw [List.getElem?_eq_none (by omega)]
      rfl
  · rw [h5, ← hC2, ← hC1]
  · rw [h0 q hq]
    unfold fdV
    rw [show min 4 (0 - 4 * q) = 0 by omega]
    rfl
end
