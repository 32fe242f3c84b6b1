-- ===== the law told =====
def lkp (D : Nat → Int32) (f : Nat → Int32) : Int32 := if D 0 < f 2 ∧ ¬ (f 6 < 3 ∨ f 1 = D 1) then D 2 + f 5 * 5 else D 3 + f 4 - f 8 + f 8 / 3 * 3
def lhr (D : Nat → Int32) (f : Nat → Int32) : Int32 := if D 4 < f 3 ∨ f 7 = 3 then f 6 / 2 else D 5
def ltr (D : Nat → Int32) (f : Nat → Int32) : Int32 := D 6 + f 2 - f 3 / 5
def lawT (w : Nat → Int32) (D : Nat → Int32) : Prop := ∀ f, lfst f w 20 (xr w 65) 0 = some (lkp D f) ∧ lfst f w 21 (xr w 65) 0 = some (lhr D f) ∧ lfst f w 22 (xr w 65) 0 = some (ltr D f)
def lawR (fr : xd_M) (r : Option Nat) (w : Nat → Int32) : Prop := (r = none ∧ xr w 65 = 0) ∨ ∃ b D, r = some b ∧ frow fr b 7 D ∧ lawT w D
theorem lfst_c {f : Nat → Int32} {w w2 : Nat → Int32} (h : ∀ j, 1348 ≤ j → w2 j = w j) (kd : Nat) : ∀ n i, lfst f w2 kd n i = lfst f w kd n i := by
  have hs : ∀ a b, lseg w2 a b = lseg w a b := by
    intro a b
    unfold lseg
    apply List.map_congr_left
    intro j _
    rw [xr_eq (h (1412 + 2 * (a + j)) (by omega)), h (1412 + 2 * (a + j) + 1) (by omega)]
  intro n
  induction n with
  | zero => intro i; rfl
  | succ n ih =>
    intro i
    unfold lfst
    rw [xr_eq (h (1396 + i) (by omega)), xr_eq (h (1364 + i) (by omega)), xr_eq (h (1380 + i) (by omega)), xr_eq (h (1348 + i) (by omega)), hs, hs, ih]
theorem lawR.c {fr fr2 : xd_M} {r : Option Nat} {w w2 : Nat → Int32} (h : lawR fr r w) (hf : ∀ a c, fr a = some c → fr2 a = some c) (h65 : w2 65 = w 65) (hw : ∀ j, 1348 ≤ j → w2 j = w j) : lawR fr2 r w2 := by
  rcases h with ⟨h1, h2⟩ | ⟨b, D, h1, h2, h3⟩
  · exact Or.inl ⟨h1, by rw [xr_eq h65]; exact h2⟩
  · refine Or.inr ⟨b, D, h1, h2.mono hf, fun f => ?_⟩
    rw [xr_eq h65, lfst_c hw, lfst_c hw, lfst_c hw]
    exact h3 f
theorem aI_f {σ : xd_S} {fr : xd_M} {tg : lTg} {b len n : Nat} {V : Nat → Int32} {v : Int32} {f : Int32 → Prop} (hg : gI σ.1 fr tg) (h : frow fr b len V) (hv : v = nI n) (hn : n < len ∧ len < 2 ^ 31) (hf : f (V n)) : xd_aI 0 b v σ f := by
  obtain ⟨c, h1, h2, h3, h4⟩ := h
  exact w_aI (hg.1 b c h1).1 h2 hv (by omega) (h4 n hn.1) hf
theorem lsum (a b c e : Int32) : (a + b) - (c - e) = a + b - c + e := by grind
section
variable {σ : xd_S} {fr : xd_M} {tg : lTg} {i t : Nat} {d : lD} {ta : Nat → Option Nat} {X : lX} {k : Nat} {w : Nat → Int32} {N : Nat} {K : xd_K}
theorem w_hd0 {v lo hi v1 v2 : Int32} (h1 : v1 = lo) (h2 : v2 = hi) (hK : K (rcl lo hi v) none σ) : xd_ca (fun τ K => hL_held v v1 v2 τ K) σ (fun x _ τ => K x none τ) := by
  subst h1 h2
  exact w_c0 (w_held v _ _ hK)
theorem w_says (h : tG σ fr tg i t d ta X) (hw : XW X w) (hi : iW w) (hl : lawR fr (ta 15) w) (hN : 100 ≤ N) {m pl : Nat} (hk : k < xr w 62) (hpl : pl < 10) (hm : m < 3) {x : Int32} (hx : x = if m = 0 then sKeep w k else if m = 1 then sHear w k pl else sTire w k pl) {v0 v3 : Int32} (hv0 : v0 = nI m) (hv3 : m = 1 → v3 = nI pl) (hK : K x none σ) : hX10_says N t v0 (nI k) v3 σ K := by
  have hb := hi.nWB
  obtain ⟨-, hg, hT⟩ := id h
  have hkW : k < X.2.2.2.2.1 ∧ X.2.2.2.2.1 ≤ 14 := by rw [hw.nW]; omega
  unfold hX10_says
  refine t_g8 hT (t_aW hT rfl hkW (t_gO hT (t_wI hT hkW.1 (j := 4) rfl (by omega) ?_)))
  rw [hw.kin hk]
  refine t_is hT (w_c0 (w_lapsed (σ := (σ.1, σ.2.1, 0, 0)) hT hw hi hN ?_))
  rw [hi.kin (by omega), xp_df]
  have hx1 : xdf (xr w (84 + k)) (xr w 3) < 16384 := xdf_lt (hi.kinB (by omega))
  refine w_c0 (w_bitCount hx1 ?_)
  show xd_lt (nI (sKc w k)) _
  unfold xd_lt
  refine t_is hT (w_c0 (w_knows (σ := (σ.1, σ.2.1, 0, 0)) hT hw hi hN (by omega) ?_))
  have hkn : sKn w k < 16384 := Nat.lt_of_lt_of_le (sKn_lt w k) (Nat.le_trans hi.pP (by omega))
  refine w_c0 (w_bitCount hkn ?_)
  have hT' : tT ((σ.1, σ.2.1, σ.2.2.1, σ.2.2.2) : xd_S).1 fr tg i t d ta X := hT
  have hg' : gI ((σ.1, σ.2.1, σ.2.2.1, σ.2.2.2) : xd_S).1 fr tg := hg
  have hlong := hw.long hk
  have huns := hw.unsaid hk
  have hsai := hw.said hk
  have hct := sct_le (sKn w k)
  have r1 : ∀ (g : Int32 → Prop), g (w (70 + k)) → xd_aI 0 (d.2.1 k) 0 σ g := fun g hg => t_wI hT hkW.1 (j := 0) rfl (by omega) (by rw [hlong]; exact hg)
  have r2 : ∀ (g : Int32 → Prop), g (w (4 + k)) → xd_aI 0 (d.2.1 k) 1 σ g := fun g hg => t_wI hT hkW.1 (j := 1) rfl (by omega) (by rw [huns]; exact hg)
  have r3 : ∀ (g : Int32 → Prop), g (w (18 + k)) → xd_aI 0 (d.2.1 k) 3 σ g := fun g hg => t_wI hT hkW.1 (j := 3) rfl (by omega) (by rw [hsai]; exact hg)
  rcases hl with ⟨h1, h2⟩ | ⟨b, D, h1, h2, h3⟩
  · rw [h1]
    have hnone : ∀ f kd, lfst f w kd (xr w 65) 0 = none := fun f kd => by rw [h2]; rfl
    show ite _ _ _
    have hm3 : m = 0 ∨ m = 1 ∨ m = 2 := by omega
    rcases hm3 with rfl | rfl | rfl
    · refine w_f (by rw [hv0]; decide) ?_
      rw [if_pos rfl] at hx
      have : x = 365 := by rw [hx]; unfold sKeep sLaw; rw [hnone]; rfl
      rw [this] at hK
      exact hK
    · refine w_t (by rw [hv0]; decide) (w_f (by rw [hv0]; decide) ?_)
      rw [if_neg (by omega), if_pos rfl] at hx
      have : x = 2 := by rw [hx]; unfold sHear sLaw; rw [hnone]; rfl
      rw [this] at hK
      exact hK
    · refine w_t (by rw [hv0]; decide) (w_t (by rw [hv0]; decide) (r1 _ ?_))
      rw [if_neg (by omega), if_neg (by omega)] at hx
      have : x = w (70 + k) := by rw [hx]; unfold sTire sLaw; rw [hnone]; exact (hi.long (by omega)).symm
      rw [this] at hK
      exact hK
  · rw [h1]
    have a : ∀ (n : Nat) (v : Int32) (g : Int32 → Prop), v = nI n → n < 7 → g (D n) → xd_aI 0 b v σ g := fun n v g hv hn hg2 => aI_f hg h2 hv ⟨hn, by decide⟩ hg2
    obtain ⟨k1, k2, k3⟩ := h3 (sFa w k pl)
    have f1 : sFa w k pl 1 = nI k := rfl
    have f2 : sFa w k pl 2 = w (70 + k) := rfl
    have f3 : sFa w k pl 3 = w (4 + k) := rfl
    have f4 : sFa w k pl 4 = w (18 + k) := rfl
    have f5 : sFa w k pl 5 = nI (sKc w k) := rfl
    have f6 : sFa w k pl 6 = nI (sct (sKn w k)) := rfl
    have f7 : sFa w k pl 7 = nI pl := rfl
    have f8 : sFa w k pl 8 = w 0 := rfl
    show ite _ _ _
    have hm3 : m = 0 ∨ m = 1 ∨ m = 2 := by omega
    rcases hm3 with rfl | rfl | rfl
    · obtain ⟨k1, -, -⟩ := h3 (sFa w k 0)
      have g2 : sFa w k 0 2 = w (70 + k) := rfl
      have g4 : sFa w k 0 4 = w (18 + k) := rfl
      have g5 : sFa w k 0 5 = nI (sKc w k) := rfl
      have g6 : sFa w k 0 6 = nI (sct (sKn w k)) := rfl
      have g8 : sFa w k 0 8 = w 0 := rfl
      have g1 : sFa w k 0 1 = nI k := rfl
      refine w_f (by rw [hv0]; decide) (r1 _ (a 0 0 _ rfl (by omega) ?_))
      rw [if_pos rfl] at hx
      unfold sKeep sLaw at hx
      rw [k1] at hx
      unfold lkp at hx
      rw [g1, g2, g4, g5, g6, g8] at hx
      have lo : (D 3 + w (18 + k) - w 0 + w 0 / 3 * 3 = (D 3 + w (18 + k)) - (w 0 - w 0 / 3 * 3)) := (lsum _ _ _ _).symm
      have low : x = rcl (nI 1) (nI 9999) ((D 3 + w (18 + k)) - (w 0 - w 0 / 3 * 3)) → hbX10_says_117 N K t (d.2.1 k) b σ := by
        intro hx
        unfold hbX10_says_117
        refine a 3 3 _ rfl (by omega) (r3 _ (t_gI hT (by omega) ?_))
        rw [hw.day]
        refine w_rem (by decide) rfl (w_hd0 rfl rfl ?_)
        rw [hx] at hK
        exact hK
      by_cases c1 : w (70 + k) ≤ D 0
      · refine w_t c1 (low ?_)
        rw [if_neg (fun z => absurd z.1 (Int32.not_lt.mpr c1)), lo] at hx
        exact hx
      · refine w_f c1 ?_
        by_cases c2 : nI (sct (sKn w k)) < 3
        · refine w_t c2 (low ?_)
          rw [if_neg (fun z => z.2 (Or.inl c2)), lo] at hx
          exact hx
        · refine w_f c2 (a 1 1 _ rfl (by omega) ?_)
          by_cases c3 : nI k = D 1
          · refine w_t c3 (low ?_)
            rw [if_neg (fun z => z.2 (Or.inr c3)), lo] at hx
            exact hx
          · refine w_f c3 (a 2 2 _ rfl (by omega) (w_hd0 rfl rfl ?_))
            rw [if_pos ⟨Int32.not_le.mp c1, fun z => z.elim c2 c3⟩] at hx
            rw [hx] at hK
            exact hK
    · refine w_t (by rw [hv0]; decide) (w_f (by rw [hv0]; decide) (r2 _ (a 4 4 _ rfl (by omega) ?_)))
      rw [if_neg (by omega), if_pos rfl] at hx
      unfold sHear sLaw at hx
      rw [k2] at hx
      unfold lhr at hx
      rw [f3, f6, f7] at hx
      have low : x = rcl (nI 0) (nI 9) (nI (sct (sKn w k)) / 2) → hbX10_says_162 N K (nI (sct (sKn w k))) σ := by
        intro hx
        unfold hbX10_says_162
        refine w_dv (by decide) rfl (w_hd0 rfl rfl ?_)
        rw [hx] at hK
        exact hK
      by_cases c1 : D 4 < w (4 + k)
      · refine w_t c1 (low ?_)
        rw [if_pos (Or.inl c1)] at hx
        exact hx
      · refine w_f c1 ?_
        by_cases c2 : nI pl = 3
        · refine w_f (by rw [hv3 rfl, c2]; decide) (low ?_)
          rw [if_pos (Or.inr c2)] at hx
          exact hx
        · refine w_t (by rw [hv3 rfl]; exact c2) (a 5 5 _ rfl (by omega) (w_hd0 rfl rfl ?_))
          rw [if_neg (fun z => z.elim c1 c2)] at hx
          rw [hx] at hK
          exact hK
    · refine w_t (by rw [hv0]; decide) (w_t (by rw [hv0]; decide) (r1 _ (a 6 6 _ rfl (by omega) (r2 _ ?_))))
      rw [if_neg (by omega), if_neg (by omega)] at hx
      unfold sTire sLaw at hx
      rw [k3] at hx
      unfold ltr at hx
      rw [f2, f3] at hx
      refine w_dv (by decide) rfl (w_hd0 rfl rfl ?_)
      rw [hx, show D 6 + w (70 + k) = w (70 + k) + D 6 from Int32.add_comm _ _] at hK
      exact hK
end
