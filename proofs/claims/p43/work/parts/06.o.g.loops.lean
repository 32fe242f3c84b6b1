def xd_f (i : Nat) : Nat → Int32 := fun j => if j < i then (if j / 10 = j % 10 then 0 else 10) else 0
theorem xd_0 : (fun _ : Nat => (0 : Int32)) = xd_f 0 := by
  funext j
  simp [xd_f]
theorem xd_s (i : Nat) : upd (xd_f i) i (if i / 10 = i % 10 then 0 else 10) = xd_f (i + 1) := by
  funext j
  by_cases h : j = i
  · subst h
    simp [upd, xd_f]
  · have e : (j < i + 1) = (j < i) := by simp; omega
    simp [upd, xd_f, h, e]
section
variable {p : Program} {l : Launch} {e : Env} {R : Room} {s : State} {m : MethodId} {args : Array Value} {below : List Frame} {meth : Method} {c : Code} {cells slots : Nat} {Q : State → Prop} {D : va_G} {A : Nat → Prop} {ids : ClassId × ClassId × ClassId × (Nat → Nat) × (Nat → Nat)}
theorem fk_X8_18 : Cond.fieldLink RX8 18 RX8 (TX8 5).2.1 (TX8 5).2.2.1 ∈ xc_T := xc_in2 xt_1 172 rfl rfl
set_option maxHeartbeats 4000000 in
set_option maxRecDepth 100000 in
theorem xn_worldLoop {h0 q1 q2 q3 : Nat} {fs : List Value} {a1 a2 : va_E} {RR : va_W} {H : Heap} {locs : List Loc} {ls : Array Slot} (hok : xn_Ok p s m args meth c D ids A cX8_init RX8 2) (hfs : fs[5]? = some (.ref q3)) (hP : va_P D vwCl ((h0, .inr (7, fs)) :: (q1, a1) :: (q2, a2) :: (q3, .inl (ids.1, 100, .inl (fun _ => 0))) :: RR) H) (hD : va_D A ((h0, .inr (7, fs)) :: (q1, a1) :: (q2, a2) :: (q3, .inl (ids.1, 100, .inl (fun _ => 0))) :: RR)) (hS : va_S A s.heap H locs) (hl : lv_has ls 2 [(0, .ref h0)])
    (done : ∀ (H : Heap) (locs : List Loc) (ls : Array Slot), va_P D vwCl ((h0, .inr (7, fs)) :: (q1, a1) :: (q2, a2) :: (q3, .inl (ids.1, 100, .inl (xd_f 100))) :: RR) H → va_D A ((h0, .inr (7, fs)) :: (q1, a1) :: (q2, a2) :: (q3, .inl (ids.1, 100, .inl (xd_f 100))) :: RR) → va_S A s.heap H locs → lv_has ls 2 [(0, .ref h0)] → W p l e R s m args below meth c H locs cells slots Q (F0 m 159 ls [])) : W p l e R s m args below meth c H locs cells slots Q (F0 m 122 ls []) := by
  obtain ⟨hx, hb, hml, hown, hts, hK, hA⟩ := id hok
  have key : ∀ (n i : Nat), i + n = 100 → ∀ (H : Heap) (locs : List Loc) (ls : Array Slot), va_P D vwCl ((h0, .inr (7, fs)) :: (q1, a1) :: (q2, a2) :: (q3, .inl (ids.1, 100, .inl (xd_f i))) :: RR) H → va_D A ((h0, .inr (7, fs)) :: (q1, a1) :: (q2, a2) :: (q3, .inl (ids.1, 100, .inl (xd_f i))) :: RR) → va_S A s.heap H locs → lv_has ls 2 [(0, .ref h0), (1, .int (nI i))] → W p l e R s m args below meth c H locs cells slots Q (F0 m 124 ls []) := by
    intro n
    induction n with
    | zero =>
      intro i hi H locs ls hP hD hS hl
      have hi : i = 100 := hi
      subst hi
      refine lv_iload_n hx hb dX8_init_124 rfl (lv_at hl 1 rfl) ?_
      refine lv_bipush (v := 100) hx hb dX8_init_125 (by decide) ?_
      refine lv_icmp_ge (tgt := 159) hx hb dX8_init_127 (by decide) (fun _ => ?_) (fun q => absurd (by decide) q)
      exact done H locs ls hP hD hS (lv_sub hl [0] rfl)
    | succ n ih =>
      intro i hi H locs ls hP hD hS hl
      have hlt : i < 100 := by omega
      have e10 : (10 : Int32) = nI 10 := rfl
      have ed : nI i / 10 = nI (i / 10) := by rw [e10]; exact pk_div (by omega) (by omega) (by omega)
      have er : nI i - nI i / 10 * 10 = nI (i % 10) := by rw [e10]; exact pk_rem (by omega) (by omega) (by omega)
      refine lv_iload_n hx hb dX8_init_124 rfl (lv_at hl 1 rfl) ?_
      refine lv_bipush (v := 100) hx hb dX8_init_125 (by decide) ?_
      refine lv_icmp_ge (tgt := 159) hx hb dX8_init_127 (by decide) (fun q => absurd (show nI 100 ≤ nI i from q) (nI_ge hlt (by omega))) (fun _ => ?_)
      refine lv_aload_n hx hb dX8_init_130 rfl (lv_at hl 0 rfl) ?_
      refine va_get hx hb hts kl_X8.2.1 hown hK hP 0 rfl kl_X8.1 5 (by decide) (hts _ fk_X8_18) (by rw [kl_X8.2.2.2.2.2 5 (by decide)]; exact fun _ q => q) hfs dX8_init_131 ?_
      have fin : ∀ v : Int32, v = (if i / 10 = i % 10 then 0 else 10) → W p l e R s m args below meth c H locs cells slots Q (F0 m 152 ls [.int v, .int (nI i), .ref q3]) := by
        intro v hv
        refine va_iast hx hb hK hP hD hS 3 0 rfl rfl (vp_in_nI hlt (by omega)) dX8_init_152 (fun H locs hP hD hS => ?_)
        rw [nI_clamp (by omega : i < 2 ^ 31), hv, xd_s] at hP hD
        refine lv_iinc (v := nI (i + 1)) (lv' := [(1, .int (nI (i + 1))), (0, .ref h0)]) hx hb dX8_init_153 hl (k := 1) rfl (by rw [nI_succ]; rfl) (by decide) rfl (fun ls hl => ?_)
        refine lv_goto (tgt := 124) hx hb dX8_init_156 (by decide) ?_
        exact ih (i + 1) (by omega) H locs ls hP hD hS (lv_sub hl [1, 0] rfl)
      refine lv_iload_n hx hb dX8_init_134 rfl (lv_at hl 1 rfl) ?_
      refine lv_iload_n hx hb dX8_init_135 rfl (lv_at hl 1 rfl) ?_
      refine lv_bipush (v := 10) hx hb dX8_init_136 (by decide) ?_
      refine lv_idiv hx hb dX8_init_138 (by decide) ?_
      refine lv_iload_n hx hb dX8_init_139 rfl (lv_at hl 1 rfl) ?_
      refine lv_bipush (v := 10) hx hb dX8_init_140 (by decide) ?_
      refine lv_irem hx hb dX8_init_142 (by decide) ?_
      refine lv_icmp_ne (tgt := 150) hx hb dX8_init_143 (by decide) (fun q => ?_) (fun q => ?_)
      · have hne : ¬ i / 10 = i % 10 := fun z => q (by rw [er, ed, z])
        refine lv_bipush (v := 10) hx hb dX8_init_150 (by decide) ?_
        exact fin 10 (by rw [if_neg hne])
      · have heq : i / 10 = i % 10 := by
          have h1 : nI (i / 10) = nI (i % 10) := by rw [← er, ← ed]; exact q
          exact (nI_eq (by omega) (by omega)).mp h1
        refine lv_iconst (v := 0) hx hb dX8_init_146 (by decide) ?_
        refine lv_goto (tgt := 152) hx hb dX8_init_147 (by decide) ?_
        exact fin 0 (by rw [if_pos heq])
  rw [xd_0] at hP hD
  refine lv_iconst (v := 0) hx hb dX8_init_122 (by decide) ?_
  refine lv_istore_n (lv' := [(1, .int 0), (0, .ref h0)]) hx hb dX8_init_123 rfl hl (by decide) rfl (fun ls hl => ?_)
  exact key 100 0 rfl H locs ls hP hD hS (lv_sub hl [1, 0] rfl)
end
