-- ===== a number is appended; to be a string; a string is appended =====
section
variable {σ τ ρ : xd_S} {M M2 : xd_M} {a v v' v'' b w : Nat} {s t : List Nat} {L N : Nat} {K : xd_K}
theorem xu_u (M : xd_M) (b : Nat) (c c2 : xd_C) : xd_up (xd_up M b c) b c2 = xd_up M b c2 := by
  funext x
  by_cases h : x = b <;> simp [xd_up, h]
theorem w_dg {d : Nat → Int32} {i y : Int32} {n : Nat} {f : Int32 → Prop} (hi : i = nI n) (hn : n < 100) (hy : d n = y) (h : f y) : xd_dg d i f := by
  subst hi
  exact ⟨vpn hn (by decide), by rw [nI_clamp (by omega), hy]; exact h⟩
theorem w_sV {k n : Nat} {M : xd_M} {s : xc_M × Nat × Nat} {c : xd_C} {i u y : Int32} {f : xd_S → Prop} (hk : c.1 = k) (hi : i = nI n) (hn : n < c.2.1 ∧ c.2.1 < 2 ^ 31) (hu : u = y) (h : f (xd_up M b (k, c.2.1, upd c.2.2.1 n y, c.2.2.2), s)) : xd_sI k b i u (xd_up M b c, s) f := by
  refine w_sI (xu_s _ _ _) hk hi hn hu ?_
  show f (xd_up (xd_up M b c) b _, s)
  rw [xu_u]
  exact h
theorem w_chars {x n : Nat} {cv : xd_C} (hx : x < 1000) (hN : 100 ≤ N) (hv : σ.1 v = some cv) (k1 : cv.1 = 1) (hcap : n + (dec x).length ≤ cv.2.1) (hc2 : cv.2.1 < 2 ^ 30) (hK : ∀ g, (∀ j, j < n → g j = cv.2.2.1 j) → (∀ (i y : Nat), (dec x)[i]? = some y → g (n + i) = nI y) → (∀ j, (∃ y, y < 128 ∧ g j = nI y) ∨ g j = cv.2.2.1 j) → ∀ r, K r none (xd_up σ.1 v (1, cv.2.1, g, cv.2.2.2), σ.2)) : hJ6_getChars_ba4f3 N (nI x) (nI (n + (dec x).length)) v σ K := by
  obtain ⟨h1, h2, h3, h4, h5, -, -, -⟩ := dg_x hx
  obtain ⟨N, rfl⟩ : ∃ f, N = f + 2 := ⟨N - 2, by omega⟩
  have am : ∀ m, nI (m + 1) + (-1) = nI m := fun m => by rw [i_am1, i_m1]
  have nb : ∀ d, d < 10 → vp_nar .byte (nI (48 + d)) = nI (48 + d) := fun d hd => (fb_n (by omega)).2
  unfold hJ6_getChars_ba4f3
  refine w_lt rfl (w_t (by rw [show (0 : Int32) = nI 0 from rfl, xp_le (by omega) (by omega)]; omega) ?_)
  unfold hbJ6_getChars_ba4f3_12
  refine w_lt rfl (w_f (fun z => z rfl) (w_lt rfl ?_))
  show hbJ6_getChars_ba4f3_22 (N + 2) K (hlJ6_getChars_ba4f3_22 (N + 2) K (N + 1)) (-nI x) v (nI (n + (dec x).length)) 0 σ
  unfold hbJ6_getChars_ba4f3_22
  by_cases c1 : x < 10
  · have hd : dec x = [48 + x] := by unfold dec; rw [if_pos c1]
    rw [hd] at hcap hK ⊢
    simp only [List.length_cons, List.length_nil] at hcap ⊢
    refine w_t (h1.mpr (by omega)) (w_lt (am n) (w_dg h3 (by omega) rfl (w_sI hv k1 rfl ⟨by omega, by omega⟩ (v := nI (48 + x)) ?_ (w_t (h2.mpr c1) ?_))))
    · unfold yd_ones
      rw [show x % 10 = x by omega]
      exact nb x c1
    · unfold hbJ6_getChars_ba4f3_104
      refine w_t rfl (hK (upd cv.2.2.1 n (nI (48 + x))) (fun j hj => upd_n _ _ (by omega)) (fun i y hi => ?_) (fun j => ?_) _)
      · rcases i with _ | i
        · simp only [List.getElem?_cons_zero, Option.some.injEq] at hi
          rw [← hi]
          exact upd_s _ n _
        · simp at hi
      · by_cases e : j = n
        · rw [e, upd_s]
          exact Or.inl ⟨_, by omega, rfl⟩
        · exact Or.inr (upd_n _ _ e)
  · by_cases c2 : x < 100
    · have hd : dec x = [48 + x / 10, 48 + x % 10] := by unfold dec; rw [if_neg c1, if_pos c2]
      rw [hd] at hcap hK ⊢
      simp only [List.length_cons, List.length_nil] at hcap ⊢
      refine w_t (h1.mpr c2) (w_lt (am (n + 1)) (w_dg h3 c2 rfl (w_sI hv k1 rfl ⟨by omega, by omega⟩ (v := nI (48 + x % 10)) (nb _ (by omega)) (w_f (fun z => c1 (h2.mp z)) (w_lt (am n) (w_dg h3 c2 rfl (w_sV rfl rfl ⟨by show n < cv.2.1; omega, by show cv.2.1 < _; omega⟩ (y := nI (48 + x / 10)) (nb _ (by omega)) ?_)))))))
      unfold hbJ6_getChars_ba4f3_104
      refine w_t rfl (hK (upd (upd cv.2.2.1 (n + 1) (nI (48 + x % 10))) n (nI (48 + x / 10))) (fun j hj => by rw [upd_n _ _ (by omega), upd_n _ _ (by omega)]) (fun i y hi => ?_) (fun j => ?_) _)
      · rcases i with _ | _ | i
        · simp only [List.getElem?_cons_zero, Option.some.injEq] at hi
          rw [← hi]
          exact upd_s _ n _
        · simp only [List.getElem?_cons_succ, List.getElem?_cons_zero, Option.some.injEq, Nat.zero_add] at hi
          rw [← hi, Nat.zero_add, upd_n _ _ (by omega), upd_s]
        · simp at hi
      · by_cases e : j = n
        · rw [e, upd_s]
          exact Or.inl ⟨_, by omega, rfl⟩
        · rw [upd_n _ _ e]
          by_cases e2 : j = n + 1
          · rw [e2, upd_s]
            exact Or.inl ⟨_, by omega, rfl⟩
          · exact Or.inr (upd_n _ _ e2)
    · have hd : dec x = [48 + x / 100, 48 + x / 10 % 10, 48 + x % 10] := by unfold dec; rw [if_neg c1, if_neg c2]
      obtain ⟨g1, g2, g3, -⟩ := dg_x (x := x / 100) (by omega)
      rw [hd] at hcap hK ⊢
      simp only [List.length_cons, List.length_nil] at hcap ⊢
      refine w_f (fun z => c2 (h1.mp z)) (w_dv (by decide) h4 (w_lt rfl (w_lt h5 (w_lt rfl (w_lt (am (n + 2)) (w_dg rfl (by omega) rfl (w_sI hv k1 rfl ⟨by omega, by omega⟩ (v := nI (48 + x % 10)) ?_ (w_lt (am (n + 1)) (w_dg rfl (by omega) rfl (w_sV rfl rfl ⟨by show n + 1 < cv.2.1; omega, by show cv.2.1 < _; omega⟩ (y := nI (48 + x / 10 % 10)) ?_ ?_))))))))))
      · show vp_nar .byte (nI (48 + x % 100 % 10)) = _
        rw [show x % 100 % 10 = x % 10 by omega]
        exact nb _ (by omega)
      · show vp_nar .byte (nI (48 + x % 100 / 10)) = _
        rw [show x % 100 / 10 = x / 10 % 10 by omega]
        exact nb _ (by omega)
      · show hbJ6_getChars_ba4f3_22 (N + 2) K (hlJ6_getChars_ba4f3_22 (N + 2) K N) (-nI (x / 100)) v (nI (n + 1)) 0 _
        unfold hbJ6_getChars_ba4f3_22
        refine w_t (g1.mpr (by omega)) (w_lt (am n) (w_dg g3 (by omega) rfl (w_sV rfl rfl ⟨by show n < cv.2.1; omega, by show cv.2.1 < _; omega⟩ (y := nI (48 + x / 100)) ?_ (w_t (g2.mpr (by omega)) ?_))))
        · show vp_nar .byte (nI (48 + x / 100 % 10)) = _
          rw [show x / 100 % 10 = x / 100 by omega]
          exact nb _ (by omega)
        · unfold hbJ6_getChars_ba4f3_104
          refine w_t rfl (hK (upd (upd (upd cv.2.2.1 (n + 2) (nI (48 + x % 10))) (n + 1) (nI (48 + x / 10 % 10))) n (nI (48 + x / 100))) (fun j hj => by rw [upd_n _ _ (by omega), upd_n _ _ (by omega), upd_n _ _ (by omega)]) (fun i y hi => ?_) (fun j => ?_) _)
          · rcases i with _ | _ | _ | i
            · simp only [List.getElem?_cons_zero, Option.some.injEq] at hi
              rw [← hi]
              exact upd_s _ n _
            · simp only [List.getElem?_cons_succ, List.getElem?_cons_zero, Option.some.injEq, Nat.zero_add] at hi
              rw [← hi, Nat.zero_add, upd_n _ _ (by omega), upd_s]
            · simp only [List.getElem?_cons_succ, List.getElem?_cons_zero, Option.some.injEq, Nat.zero_add] at hi
              rw [← hi, upd_n _ _ (by omega), upd_n _ _ (by omega), show n + (0 + 1 + 1) = n + 2 by omega, upd_s]
            · simp at hi
          · by_cases e : j = n
            · rw [e, upd_s]
              exact Or.inl ⟨_, by omega, rfl⟩
            · rw [upd_n _ _ e]
              by_cases e2 : j = n + 1
              · rw [e2, upd_s]
                exact Or.inl ⟨_, by omega, rfl⟩
              · rw [upd_n _ _ e2]
                by_cases e3 : j = n + 2
                · rw [e3, upd_s]
                  exact Or.inl ⟨_, by omega, rfl⟩
                · exact Or.inr (upd_n _ _ e3)
end
