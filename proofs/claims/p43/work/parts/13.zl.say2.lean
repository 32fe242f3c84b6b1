-- ===== a text comes to the TAPE, whole =====
section
variable {σ τ ρ σ0 : xd_S} {M : xd_M} {b w : Nat} {s : List Nat} {N : Nat} {K : xd_K} {J : xc_M}
/-- t bytes of s have come, the row's and all else's cells are as they were in J -/
def tpQ (J : xc_M) (s : List Nat) (t : Nat) (J2 : xc_M) : Prop := J2 0 18 = nI t ∧ (∀ a, a ≠ 0 → a ≠ 10 → J2 a = J a) ∧ (∀ k, k ≠ 18 → J2 0 k = J 0 k) ∧ ∀ j, j < t → J2 10 j = nI (txc s j)
theorem w_say (hT : stT σ.1 b w s) (ha : ∀ (j y : Nat), s[j]? = some y → y < 128) (hn : s.length ≤ 380) (h : RR σ.2.1 J) (h18 : J 0 18 = nI 0) (hN : 1000 ≤ N) (hC : 20 ≤ σ.2.2.1) (hS : 100 ≤ σ.2.2.2) (hK : ∀ τ J2, (∀ x, σ.1 x ≠ none → τ.1 x = σ.1 x) → RR τ.2.1 J2 → tpQ J s s.length J2 → K 0 none τ) : hL_say N b σ K := by
  have hc := txc_lt ha
  unfold hL_say
  refine w_lt rfl ?_
  refine w_loop (fun fu i (τ : xd_S) => hlL_say_2 N K fu b (nI (20 * i)) τ) ((s.length + 19) / 20) (fun i τ => (∀ x, σ.1 x ≠ none → τ.1 x = σ.1 x) ∧ (∃ J2, RR τ.2.1 J2 ∧ tpQ J s (20 * i) J2) ∧ 20 ≤ τ.2.2.1 + i ∧ 100 ≤ τ.2.2.2 + 5 * i) (fun fu τ hh => ?_) (fun fu i τ hi hh hnx => ?_) N 0 σ (by omega) (by omega) ⟨fun _ _ => rfl, ⟨J, h, h18, fun _ _ _ => rfl, fun _ _ => rfl, fun j hj => absurd hj (by omega)⟩, by omega, by omega⟩
  · obtain ⟨q1, ⟨J2, q2, q3, q4, q5, q6⟩, q7, q8⟩ := hh
    obtain ⟨ct, cw, t1, t2, t3, t4, t5, -⟩ := id hT
    have kb : τ.1 b = some ct := (q1 b (nsome t1)).trans t1
    have kT : stT τ.1 b w s := hT.keep (q1 b (nsome t1)) (q1 w (nsome t5))
    show hbL_say_2 N K (hlL_say_2 N K fu) b (nI (20 * ((s.length + 19) / 20))) τ
    unfold hbL_say_2
    refine w_is kb t2 (w_c0 ?_)
    refine w_slen kT (by rfl) ?_
    refine w_t (by rw [xp_le (by omega) (by omega)]; omega) ?_
    refine w_is (c := ct) kb t2 (w_c0 ?_)
    refine w_slen kT (by rfl) ?_
    by_cases h0 : s.length = 0
    · refine w_t (by rw [h0]; decide) (hK _ J2 q1 q2 ⟨?_, q4, q5, fun j hj => absurd hj (by omega)⟩)
      rw [h0]
      rw [h0] at q3
      exact q3
    · refine w_f (by rw [show (0 : Int32) = nI 0 from rfl, xp_le (by omega) (by omega)]; omega) ?_
      refine w_is (c := ct) kb t2 (w_c0 ?_)
      refine w_slen kT (by rfl) ?_
      obtain ⟨e1, e2⟩ := c_end q2 q3 (by omega) (m := s.length) (by omega)
      refine w_xc e1 (hK _ _ q1 e2 ⟨xp_wr_s _ _ _ _, fun a a1 a2 => ?_, fun k hk => ?_, fun j hj => ?_⟩)
      · rw [xp_wr_cell a1]
        exact q4 a a1 a2
      · rw [xp_wr_k hk]
        exact q5 k hk
      · rw [xp_wr_cell (by omega)]
        exact q6 j (by omega)
  · obtain ⟨q1, ⟨J2, q2, q3, q4, q5, q6⟩, q7, q8⟩ := hh
    obtain ⟨ct, cw, t1, t2, t3, t4, t5, -⟩ := id hT
    have kb : τ.1 b = some ct := (q1 b (nsome t1)).trans t1
    have kT : stT τ.1 b w s := hT.keep (q1 b (nsome t1)) (q1 w (nsome t5))
    show hbL_say_2 N K (hlL_say_2 N K fu) b (nI (20 * i)) τ
    unfold hbL_say_2
    refine w_is kb t2 (w_c0 ?_)
    refine w_slen kT (by rfl) ?_
    refine w_f (by rw [xp_le (by omega) (by omega)]; omega) ?_
    refine w_na (n := 5) rfl (by omega) (by show 1 ≤ τ.2.2.1 - 0; omega) (by show 5 ≤ τ.2.2.2 - 0; omega) (fun w5 hw5 => ?_)
    have hw5' : τ.1 w5 = none := hw5
    refine w_lt rfl ?_
    have hb5 : w5 ≠ b := fun e => by rw [e, kb] at hw5'; exact nomatch hw5'
    have hw5w : w5 ≠ w := fun e => by
      rw [e, q1 w (nsome t5), t5] at hw5'
      exact nomatch hw5'
    refine say_17 (M := τ.1) kT ha hn (o := 20 * i) (by omega) (C := (0, 5, fun _ => 0, fun _ => none)) rfl rfl ⟨hb5, hw5w⟩ (fun ρ hV hρ hρ2 => ?_) (xu_s _ _ _) (fun x hx => xu_n _ _ hx) (fun _ _ => rfl) (by omega)
    obtain ⟨V, v1, v2⟩ := hV
    have a : ∀ (q : Nat) (x : Int32) (f : Int32 → Prop), x = nI q → q < 5 → f (nI (pv (txc s) (20 * i + 4 * q) 4)) → xd_aI 0 w5 x ρ f := fun q x f hx hq hf => w_aI (c := (0, 5, V, fun _ => none)) v1 rfl hx ⟨hq, by show 5 < 2 ^ 31; decide⟩ (v2 q hq) hf
    refine a 0 0 _ rfl (by omega) (a 1 1 _ rfl (by omega) (a 2 2 _ rfl (by omega) (a 3 3 _ rfl (by omega) (a 4 4 _ rfl (by omega) ?_))))
    have e21 : ρ.2.1 = τ.2.1 := by rw [hρ2]
    obtain ⟨x, I3, J3, f1, f2, f3, f4, f5, f6, f7⟩ := c_feed hN q2 hc q3 (by omega)
    refine w_xc (v := x) (J := I3) (by rw [e21]; exact f1) (w_lt (v := nI (20 * (i + 1))) (nI_add _ 20) (hnx _ ⟨fun z hz => ?_, ⟨J3, f2, f3, fun c c1 c2 => (f4 c c1 c2).trans (q4 c c1 c2), fun k hk => (f5 k hk).trans (q5 k hk), fun j hj => ?_⟩, ?_, ?_⟩))
    · have hz5 : z ≠ w5 := fun e => by
        rw [← e, q1 z hz] at hw5'
        exact hz hw5'
      exact (hρ z hz5).trans ((xu_n _ _ hz5).trans (q1 z hz))
    · by_cases hj2 : j < 20 * i
      · exact (f6 j hj2).trans (q6 j hj2)
      · have := f7 (j - 20 * i) (by omega)
        rw [show 20 * i + (j - 20 * i) = j by omega] at this
        exact this
    · show 20 ≤ ρ.2.2.1 + (i + 1)
      rw [hρ2]
      show 20 ≤ τ.2.2.1 - 0 - 1 + (i + 1)
      omega
    · show 100 ≤ ρ.2.2.2 + 5 * (i + 1)
      rw [hρ2]
      show 100 ≤ τ.2.2.2 - 0 - 5 + 5 * (i + 1)
      omega
theorem tpQ.TQ {t : Nat} {J2 : xc_M} (h : tpQ J s t J2) (ht : t ≤ 400) (ha : ∀ (j y : Nat), s[j]? = some y → y < 128) : TQ t (txc s) J2 := ⟨h.1, ht, fun j hj => ⟨Nat.lt_trans (txc_lt ha j) (by decide), h.2.2.2 j hj⟩⟩
end
