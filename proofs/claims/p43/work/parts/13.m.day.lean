-- ===== what a day's end does =====
def clW (k q : Nat) (w : Nat → Int32) : Nat → Int32 := upd w (42 + q) (nI (xdf (xr w (42 + q)) (2 ^ k)))
def lpW (k : Nat) (w : Nat → Int32) : Nat → Int32 := ntw (itr (clW k) (upd w 3 (nI (xr w 3 ||| 2 ^ k))) (xr w 63)) 2 (-1) (nI k)
def unW (k : Nat) (w : Nat → Int32) : Nat → Int32 := upd w (4 + k) (nI (min 9999 (xr w (4 + k) + 1)))
def agW (k : Nat) (s : Nat × (Nat → Int32)) : Nat × (Nat → Int32) := if (xr s.2 3).testBit k then s else if sKeep (unW k s.2) k ≤ unW k s.2 (4 + k) then (s.1 + 1, lpW k (unW k s.2)) else (s.1, unW k s.2)
def enW (q : Nat) (w : Nat → Int32) : Nat → Int32 := upd w (52 + q) (nI (min 99 (xr w (52 + q) + 5)))
def edW (w : Nat → Int32) : Nat → Int32 := upd (itr enW w (xr w 63)) 0 (nI (xr w 0 + 1))
def psW (w : Nat → Int32) : Nat × (Nat → Int32) := itr agW (0, chsW (itr wkW w (xr w 67))) (xr w 62)
theorem e_clr (x : Nat) {k : Nat} (hk : k < 31) : nI x &&& (((1 : Int32) <<< (nI k &&& 31)) ^^^ (-1)) = nI (xdf x (2 ^ k)) := by
  have := xp_df x (2 ^ k)
  rw [← xp_bs hk] at this
  exact this
theorem cl_inv {w : Nat → Int32} (h : iW w) (k : Nat) : ∀ n, n ≤ xr w 63 → iW (itr (clW k) w n) ∧ ∀ j, j < 42 ∨ 52 ≤ j → itr (clW k) w n j = w j := by
  have hP := h.nPB
  intro n
  induction n with
  | zero => intro _; exact ⟨h, fun _ _ => rfl⟩
  | succ n ih =>
    intro hn
    obtain ⟨h1, h2⟩ := ih (by omega)
    rw [itr_s]
    refine ⟨h1.up (by omega) (by omega) (by omega) (by omega) (by omega) (by omega) (fun _ _ => ⟨_, xdf_lt (h1.tongueP (p := n) (by omega)), rfl⟩) (by omega), fun j hj => (upd_n _ _ (by omega)).trans (h2 j hj)⟩
theorem iW.un {w : Nat → Int32} (h : iW w) {k : Nat} (hk : k < 14) : iW (unW k w) := h.up (by omega) (by omega) (by omega) (by omega) (fun _ _ => ⟨_, by omega, rfl⟩) (by omega) (by omega) (by omega)
theorem iW.l3 {w : Nat → Int32} (h : iW w) {k : Nat} (hk : k < xr w 62) : iW (upd w 3 (nI (xr w 3 ||| 2 ^ k))) := h.up (by omega) (by omega) (by omega) (fun _ => ⟨_, Nat.or_lt_two_pow h.lapsedP (p2_lt hk), rfl⟩) (by omega) (by omega) (by omega) (by omega)
theorem iW.lp {w : Nat → Int32} (h : iW w) {k : Nat} (hk : k < xr w 62) : iW (lpW k w) := by
  have h1 := h.l3 hk
  have e63 : xr (upd w 3 (nI (xr w 3 ||| 2 ^ k))) 63 = xr w 63 := xr_eq (upd_n _ _ (by omega))
  exact (cl_inv h1 k _ (by rw [e63]; omega)).1.nt _ _ _
theorem lpW_o {w : Nat → Int32} (h : iW w) {k j : Nat} (hk : k < xr w 62) (hj : j < 2 ∨ (4 ≤ j ∧ j < 42) ∨ (52 ≤ j ∧ j < 748) ∨ 1348 ≤ j) : lpW k w j = w j := by
  have hB := h.bookB
  have h1 := h.l3 hk
  have e63 : xr (upd w 3 (nI (xr w 3 ||| 2 ^ k))) 63 = xr w 63 := xr_eq (upd_n _ _ (by omega))
  have o := (cl_inv h1 k (xr w 63) (by rw [e63]; omega)).2
  unfold lpW
  rw [ntw_q (by rw [xr_eq (o 2 (by omega)), xr_eq (upd_n w _ (show 2 ≠ 3 by omega))]; exact hB) (by omega) (by omega), o j (by omega), upd_n _ _ (by omega)]
theorem ag_inv {w : Nat → Int32} (h : iW w) (c : Nat) : ∀ n, n ≤ xr w 62 → iW (itr agW (c, w) n).2 ∧ (∀ j, j < 2 ∨ (32 ≤ j ∧ j < 42) ∨ (52 ≤ j ∧ j < 748) ∨ 1348 ≤ j → (itr agW (c, w) n).2 j = w j) ∧ (itr agW (c, w) n).1 ≤ c + n := by
  have hW := h.nWB
  intro n
  induction n with
  | zero => intro _; exact ⟨h, fun _ _ => rfl, Nat.le_refl _⟩
  | succ n ih =>
    intro hn
    obtain ⟨h1, h2, h3⟩ := ih (by omega)
    rw [itr_s]
    generalize itr agW (c, w) n = s at h1 h2 h3
    have e62 : xr s.2 62 = xr w 62 := xr_eq (h2 62 (by omega))
    have hu := h1.un (k := n) (by omega)
    have eu : ∀ j, j ≠ 4 + n → unW n s.2 j = s.2 j := fun j hj => upd_n _ _ hj
    have u62 : xr (unW n s.2) 62 = xr w 62 := (xr_eq (eu 62 (by omega))).trans e62
    unfold agW
    split
    · exact ⟨h1, h2, by omega⟩
    · split
      · refine ⟨hu.lp (by rw [u62]; omega), fun j hj => ?_, by show s.1 + 1 ≤ _; omega⟩
        show lpW n (unW n s.2) j = _
        rw [lpW_o hu (by rw [u62]; omega) (by omega), eu j (by omega)]
        exact h2 j hj
      · exact ⟨hu, fun j hj => (eu j (by omega)).trans (h2 j hj), by show s.1 ≤ _; omega⟩
theorem en_inv {w : Nat → Int32} (h : iW w) : ∀ n, n ≤ xr w 63 → iW (itr enW w n) ∧ ∀ j, j < 52 ∨ 62 ≤ j → itr enW w n j = w j := by
  have hP := h.nPB
  intro n
  induction n with
  | zero => intro _; exact ⟨h, fun _ _ => rfl⟩
  | succ n ih =>
    intro hn
    obtain ⟨h1, h2⟩ := ih (by omega)
    rw [itr_s]
    exact ⟨h1.up (by omega) (by omega) (by omega) (by omega) (by omega) (by omega) (by omega) (fun _ => ⟨_, by omega, rfl⟩), fun j hj => (upd_n _ _ (by omega)).trans (h2 j hj)⟩
section
variable {σ σ0 τ : xd_S} {fr fr0 : xd_M} {tg : lTg} {i t : Nat} {d : lD} {ta : Nat → Option Nat} {X : lX} {k p a c : Nat} {w : Nat → Int32} {N : Nat} {K : xd_K}
theorem XW.far (h : XW X w) {j : Nat} {v : Int32} (hj : 6 ≤ j) : XW (upd X.1 j v, X.2) w := by
  have e : ∀ q, q < 6 → upd X.1 j v q = X.1 q := fun q hq => upd_n _ _ (by omega)
  unfold XW
  show upd X.1 j v 0 = _ ∧ upd X.1 j v 1 = _ ∧ upd X.1 j v 2 = _ ∧ upd X.1 j v 3 = _ ∧ upd X.1 j v 4 = _ ∧ upd X.1 j v 5 = _ ∧ _
  rw [e 0 (by omega), e 1 (by omega), e 2 (by omega), e 3 (by omega), e 4 (by omega), e 5 (by omega)]
  exact h
theorem t_gA {fr : xd_M} {j : Nat} {f : Int32 → Prop} (h : tT σ.1 fr tg i t d ta X) (hf : ∀ v, f v) : xd_gI 14 t j σ f := by
  obtain ⟨c, h1, h2, _⟩ := h.1
  exact w_gI h1 h2 rfl (hf _)
/-- breath, and the day's number -/
theorem w_ends {v2 : Int32} (h : tG σ fr tg i t d ta X) (hw : XW X w) (hi : iW w) (hN : 100 ≤ N) (hK : ∀ τ X2, fwd tg i σ fr τ fr → tG τ fr tg i t d ta X2 → XW X2 (edW w) → K v2 none τ) : hlX10_passes_470 N K N t v2 (nI 0) σ := by
  have hW := hi.nWB
  have hP := hi.nPB
  refine w_loop (fun fu j (τ : xd_S) => hlX10_passes_470 N K fu t v2 (nI j) τ) (xr w 63) (fun j τ => ∃ X2, fwd tg i σ fr τ fr ∧ tG τ fr tg i t d ta X2 ∧ XW X2 (itr enW w j)) (fun fu τ hh => ?_) (fun fu j τ hj hh hn => ?_) N 0 σ (by omega) (by omega) ⟨X, fwd.rfl, h, hw⟩
  · obtain ⟨X2, h1, h2, h3⟩ := hh
    obtain ⟨hI, ho⟩ := en_inv hi _ (Nat.le_refl _)
    show hbX10_passes_470 N K (hlX10_passes_470 N K fu) t v2 _ τ
    refine t_gI h2.T (by omega) ?_
    rw [h3.np, ho 63 (by omega), hi.nP]
    refine w_t (by rw [xp_le (by omega) (by omega)]; omega) (t_gI h2.T (by omega) ?_)
    rw [h3.day, ho 0 (by omega), hi.day]
    refine g_pI h2 (v2 := nI (xr w 0 + 1)) (nI_succ _).symm (fun τ2 q1 q2 q3 => hK τ2 _ (h1.trans q2) q3 ?_)
    exact h3.num hI (j := 1) (q := 0) (by omega)
  · obtain ⟨X2, h1, h2, h3⟩ := hh
    obtain ⟨hI, ho⟩ := en_inv hi j (by omega)
    have hnext := itr_s enW w j
    generalize itr enW w j = row at h3 hI ho hnext
    have e63 : xr row 63 = xr w 63 := xr_eq (ho 63 (by omega))
    have hjP : j < X2.2.2.2.2.2.1 ∧ X2.2.2.2.2.2.1 ≤ 10 := by rw [h3.nP]; omega
    have hbr := hI.breathB (p := j) (by omega)
    show hbX10_passes_470 N K (hlX10_passes_470 N K fu) t v2 (nI j) τ
    refine t_gI h2.T (by omega) ?_
    rw [h3.np, ho 63 (by omega), hi.nP]
    refine w_f (by rw [xp_le (by omega) (by omega)]; omega) (t_g9 h2.T (t_aM h2.T rfl hjP (t_g9 h2.T (t_aM h2.T rfl hjP (t_mI h2.T hjP.1 (j := 2) rfl (by omega) ?_)))))
    rw [h3.breath (by omega), hI.breath (by omega)]
    unfold xd_lt
    rw [show (nI (xr row (52 + j)) + 5) = nI (xr row (52 + j) + 5) from nI_add _ 5, show (if nI (xr row (52 + j) + 5) < 99 then nI (xr row (52 + j) + 5) else 99) = nI (min 99 (xr row (52 + j) + 5)) from ?_]
    · refine g_mS h2 hjP.1 (j := 2) rfl (by omega) rfl (fun τ2 q1 q2 q3 => ?_)
      rw [show (nI j + 1) = nI (j + 1) from (nI_succ j).symm]
      refine hn τ2 ⟨_, h1.trans q2, q3, ?_⟩
      rw [hnext]
      exact h3.uM hI (by omega) (by omega)
    · show (if nI (xr row (52 + j) + 5) < nI 99 then nI (xr row (52 + j) + 5) else nI 99) = _
      by_cases c : xr row (52 + j) + 5 < 99
      · rw [if_pos (nI_lt c (by omega)), Nat.min_eq_right (by omega)]
      · rw [if_neg (nI_nlt (by omega) (by omega)), Nat.min_eq_left (by omega)]
/-- the tongues of a word that lapses -/
theorem w_399 {v2 : Int32} {k319 : Nat → Int32 → Int32 → Int32 → xd_S → Prop} {kk : Nat} (h : tG σ fr tg i t d ta X) (hw : XW X w) (hi : iW w) (hk : kk < xr w 62) (hN : 100 ≤ N) (hC : 1 ≤ σ.2.2.1) (hS : 4 ≤ σ.2.2.2) (hK : ∀ τ fr2 X2, fwd tg i σ fr τ fr2 → tG τ fr2 tg i t d ta X2 → XW X2 (ntw (itr (clW kk) w (xr w 63)) 2 (-1) (nI kk)) → σ.2.2.1 ≤ τ.2.2.1 + 1 → σ.2.2.2 ≤ τ.2.2.2 + 4 → hbX10_passes_462 N K k319 t 1 (v2 + 1) (nI kk) τ) : hlX10_passes_399 N K k319 N t 1 v2 (nI kk) (nI 0) σ := by
  have hW := hi.nWB
  have hP := hi.nPB
  refine w_loop (fun fu j (τ : xd_S) => hlX10_passes_399 N K k319 fu t 1 v2 (nI kk) (nI j) τ) (xr w 63) (fun j τ => ∃ X2, fwd tg i σ fr τ fr ∧ tG τ fr tg i t d ta X2 ∧ XW X2 (itr (clW kk) w j) ∧ τ.2 = σ.2) (fun fu τ hh => ?_) (fun fu j τ hj hh hn => ?_) N 0 σ (by omega) (by omega) ⟨X, fwd.rfl, h, hw, rfl⟩
  · obtain ⟨X2, h1, h2, h3, h4⟩ := hh
    obtain ⟨hI, ho⟩ := cl_inv hi kk _ (Nat.le_refl _)
    show hbX10_passes_399 N K k319 (hlX10_passes_399 N K k319 fu) t 1 v2 (nI kk) _ τ
    refine t_gI h2.T (by omega) ?_
    rw [h3.np, ho 63 (by omega), hi.nP]
    refine w_t (by rw [xp_le (by omega) (by omega)]; omega) (t_is h2.T (w_cc 1 4 (by rw [h4]; exact hC) (by rw [h4]; exact hS) (w_notes (σ := (τ.1, τ.2.1, 1, 4)) h2.b h3 hI rfl (Nat.le_refl _) (Nat.le_refl _) (fun τ2 fr2 X3 g1 g2 g3 => ?_))))
    unfold xd_lt
    have hG : tG (τ2.1, τ2.2.1, τ.2.2.1 - 1, τ.2.2.2 - 4) fr2 tg i t d ta X3 := g2.b
    have hF : fwd tg i σ fr (τ2.1, τ2.2.1, τ.2.2.1 - 1, τ.2.2.2 - 4) fr2 := h1.trans g1.b0.b
    have c1 : σ.2.2.1 ≤ (τ.2.2.1 - 1) + 1 := by rw [h4]; omega
    have c2 : σ.2.2.2 ≤ (τ.2.2.2 - 4) + 4 := by rw [h4]; omega
    refine t_gA hG.T (fun v => ?_)
    by_cases c : (0 : Int32) ≤ v
    · exact w_t c (hK _ fr2 X3 hF hG g3 c1 c2)
    · refine w_f c (g_pI hG rfl (fun τ3 q1 q2 q3 => t_gA q3.T (fun v2 => g_pI q3 rfl (fun τ4 r1 r2 r3 => ?_))))
      exact hK _ fr2 _ (hF.trans (q2.trans r2)) r3 ((g3.far (by omega)).far (by omega)) (by rw [r1, q1]; exact c1) (by rw [r1, q1]; exact c2)
  · obtain ⟨X2, h1, h2, h3, h4⟩ := hh
    obtain ⟨hI, ho⟩ := cl_inv hi kk j (by omega)
    have hnext := itr_s (clW kk) w j
    generalize itr (clW kk) w j = row at h3 hI ho hnext
    have e63 : xr row 63 = xr w 63 := xr_eq (ho 63 (by omega))
    have hjP : j < X2.2.2.2.2.2.1 ∧ X2.2.2.2.2.2.1 ≤ 10 := by rw [h3.nP]; omega
    show hbX10_passes_399 N K k319 (hlX10_passes_399 N K k319 fu) t 1 v2 (nI kk) (nI j) τ
    refine t_gI h2.T (by omega) ?_
    rw [h3.np, ho 63 (by omega), hi.nP]
    refine w_f (by rw [xp_le (by omega) (by omega)]; omega) (t_g9 h2.T (t_aM h2.T rfl hjP (t_mI h2.T hjP.1 (j := 1) rfl (by omega) ?_)))
    rw [h3.tongue (by omega), hI.tongue (by omega)]
    refine g_mS h2 hjP.1 (j := 1) rfl (by omega) (e_clr _ (by omega)) (fun τ2 q1 q2 q3 => ?_)
    show xd_lt (nI j + 1) _
    unfold xd_lt
    rw [show (nI j + 1) = nI (j + 1) from (nI_succ j).symm]
    refine hn τ2 ⟨_, h1.trans q2, q3, ?_, q1.trans h4⟩
    rw [hnext]
    exact h3.uM hI (by omega) (by omega)
end
