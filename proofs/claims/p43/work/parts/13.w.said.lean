-- ===== what the law tells of meanings and needs =====
def mnT (fr : xd_M) (r : Option Nat) (w : Nat → Int32) : Prop := ∃ b c, r = some b ∧ fr b = some c ∧ c.1 = 3 ∧ c.2.1 = xr w 66 ∧ ∀ m, m < xr w 66 → ∃ e ce, c.2.2.2 m = some e ∧ fr e = some ce ∧ ce.1 = 2 ∧ ce.2.1 = xr w (198 + m) ∧ ∀ i, i < xr w (198 + m) → ∃ g V, ce.2.2.2 i = some g ∧ frow fr g (wC w m i) V ∧ ∀ q, q < wC w m i → V q = w (208 + 42 * m + 7 * i + (1 + q))
def ndT (fr : xd_M) (r : Option Nat) (w : Nat → Int32) : Prop := ∃ b c, r = some b ∧ fr b = some c ∧ c.1 = 2 ∧ c.2.1 = xr w 68
section
variable {σ τ : xd_S} {fr : xd_M} {tg : lTg} {i t : Nat} {d : lD} {ta : Nat → Option Nat} {X : lX} {w : Nat → Int32} {N : Nat} {K : xd_K}
theorem w_set {g n : Nat} {V : Nat → Int32} (hg : gI σ.1 fr tg) (hf : frow fr g n V) (hn : n ≤ 6) (hN : 100 ≤ N) {f : Nat → Nat} (hV : ∀ q, q < n → V q = nI (f q) ∧ f q < 31) (hK : K (nI (itr (fun k acc => acc ||| 2 ^ (f k)) 0 n)) none σ) : hX10_set N g σ K := by
  obtain ⟨c, h1, h2, h3, h4⟩ := id hf
  unfold hX10_set
  unfold xd_lt
  refine w_al (hg.1 g c h1).1 h2 h3 ?_
  have key := w_itr (fun fu j (s : Nat) => hlX10_set_10 N K fu (nI s) g (nI n) (nI j) σ) n (fun k acc => acc ||| 2 ^ (f k)) 0 (fun fu => ?_) (fun fu j hj hk => ?_) (fu := N) (by omega)
  · exact key
  · show hbX10_set_10 N K (hlX10_set_10 N K fu) _ g _ _ σ
    exact w_t (by rw [xp_le (by omega) (by omega)]; omega) hK
  · show hbX10_set_10 N K (hlX10_set_10 N K fu) _ g _ _ σ
    obtain ⟨v1, v2⟩ := hV j hj
    refine w_f (by rw [xp_le (by omega) (by omega)]; omega) (aI_f hg hf rfl ⟨hj, by omega⟩ ?_)
    show hlX10_set_10 N K fu (nI (itr (fun k acc => acc ||| 2 ^ (f k)) 0 j) ||| (nI 1 <<< (V j &&& nI 31))) g (nI n) (nI j + 1) σ
    rw [v1, xp_bs v2, xp_or, show (nI j + 1) = nI (j + 1) from (nI_succ j).symm]
    exact hk
theorem w_said (h : tG σ fr tg i t d ta X) (hi : iW w) (hm : mnT fr (ta 14) w) (hN : 100 ≤ N) {s : Nat} (hs : s < 16384) (hK : K (nI (sSaid w s)) none σ) : hX10_said N t (nI s) σ K := by
  have hW := hi.nWB
  have hM := hi.nMB
  obtain ⟨-, hg, hT⟩ := id h
  obtain ⟨b, c, m1, m2, m3, m4, m5⟩ := hm
  unfold hX10_said
  unfold xd_lt
  have key := w_itr (fun fu j (acc : Nat) => hlX10_said_4 N K fu t (nI s) (nI acc) (nI j) σ) (xr w 66) (fun m acc => if sayB w m s then acc ||| 2 ^ m else acc) 0 (fun fu => ?_) (fun fu j hj hk => ?_) (fu := N) (by omega)
  · exact key
  · show hbX10_said_4 N K (hlX10_said_4 N K fu) t _ _ _ σ
    refine t_gT hT (by omega) m1 (w_al (hg.1 b c m2).1 m3 m4 ?_)
    exact w_t (by rw [xp_le (by omega) (by omega)]; omega) hK
  · show hbX10_said_4 N K (hlX10_said_4 N K fu) t _ _ _ σ
    obtain ⟨e, ce, e1, e2, e3, e4, e5⟩ := m5 j hj
    obtain ⟨⟨-, hways⟩, hrows⟩ := hi.means j hj
    generalize hacc : itr (fun m acc => if sayB w m s then acc ||| 2 ^ m else acc) 0 j = a0 at hk ⊢
    refine t_gT hT (by omega) m1 (w_al (hg.1 b c m2).1 m3 m4 ?_)
    refine w_f (by rw [xp_le (by omega) (by omega)]; omega) (t_gT hT (by omega) m1 (w_aR (hg.1 b c m2).1 m3 rfl ⟨by omega, by omega⟩ e1 (w_al (hg.1 e ce e2).1 e3 e4 ?_)))
    unfold xd_lt
    have key2 := w_itr (fun fu2 q (acc : Nat) => hlX10_said_29 N K (hlX10_said_4 N K fu) fu2 t (nI s) (nI acc) (nI j) e (nI (xr w (198 + j))) (nI q) σ) (xr w (198 + j)) (fun q acc => if decide (xdf (wS w j q) s = 0) then acc ||| 2 ^ j else acc) a0 (fun fu2 => ?_) (fun fu2 q hq hk2 => ?_) (fu := N) (by omega)
    · exact key2
    · show hbX10_said_29 N K (hlX10_said_4 N K fu) _ t _ _ _ e _ _ σ
      refine w_t (by rw [xp_le (by omega) (by omega)]; omega) ?_
      unfold xd_lt
      rw [any_or, show (nI j + 1) = nI (j + 1) from (nI_succ j).symm]
      exact hk
    · show hbX10_said_29 N K (hlX10_said_4 N K fu) _ t _ _ _ e _ _ σ
      obtain ⟨g, V, g1, g2, g3⟩ := e5 q hq
      obtain ⟨⟨-, hcnt⟩, hwd⟩ := hrows q hq
      generalize itr (fun q acc => if decide (xdf (wS w j q) s = 0) then acc ||| 2 ^ j else acc) a0 q = acc at hk2 ⊢
      refine w_f (by rw [xp_le (by omega) (by omega)]; omega) (w_aR (hg.1 e ce e2).1 e3 rfl ⟨by omega, by omega⟩ g1 (w_c0 (w_set (σ := (σ.1, σ.2.1, 0, 0)) hg g2 (by unfold wC; omega) hN (f := fun k => xr w (208 + 42 * j + 7 * q + (1 + k))) (fun k hk3 => ⟨(g3 k hk3).trans (hwd k hk3).1, by have := (hwd k hk3).2; omega⟩) ?_)))
      have hset : itr (fun k acc => acc ||| 2 ^ (xr w (208 + 42 * j + 7 * q + (1 + k)))) 0 (wC w j q) = wS w j q := rfl
      rw [hset, xp_df]
      have hxl : xdf (wS w j q) s ≤ wS w j q := xdf_le _ _
      have hws : wS w j q < 2 ^ 31 := by
        have h1 := wS_lt hi hj hq
        have h2 := hi.pW
        omega
      by_cases c1 : xdf (wS w j q) s = 0
      · refine w_f (by rw [c1]; exact fun z => z rfl) ?_
        unfold xd_lt hbX10_said_61
        rw [show (31 : Int32) = nI 31 from rfl, show (1 : Int32) = nI 1 from rfl, xp_bs (by omega), xp_or]
        unfold xd_lt
        rw [show (nI q + nI 1) = nI (q + 1) from (nI_succ q).symm]
        simpa [c1] using hk2
      · refine w_t (by show nI _ ≠ nI 0; rw [ne_eq, xp_eq (by omega) (by omega)]; exact c1) ?_
        unfold hbX10_said_61 xd_lt
        rw [show (nI q + 1) = nI (q + 1) from (nI_succ q).symm]
        simpa [c1] using hk2
end
