def xe_f (t : Nat) : Nat → Int32 := fun j => if 98 ≤ j ∧ j < 98 + t then (if (j - 98) / 10 = (j - 98) % 10 then 0 else 10) else 0
theorem xe_0 : (fun _ : Nat => (0 : Int32)) = xe_f 0 := by
  funext j
  unfold xe_f
  rw [if_neg (by omega)]
theorem xe_s (a b : Nat) (hb : b < 10) : upd (xe_f (10 * a + b)) (98 + 10 * a + b) (if a = b then 0 else 10) = xe_f (10 * a + (b + 1)) := by
  funext j
  by_cases h : j = 98 + 10 * a + b
  · subst h
    have e1 : (98 + 10 * a + b - 98) / 10 = a := by omega
    have e2 : (98 + 10 * a + b - 98) % 10 = b := by omega
    simp only [upd, xe_f, e1, e2, if_true]
    rw [if_pos (show 98 ≤ 98 + 10 * a + b ∧ 98 + 10 * a + b < 98 + (10 * a + (b + 1)) by omega)]
  · have e : (98 ≤ j ∧ j < 98 + (10 * a + (b + 1))) = (98 ≤ j ∧ j < 98 + (10 * a + b)) := by simp; omega
    simp only [upd, xe_f, h, e, if_false]
section
variable {p : Program} {l : Launch} {e : Env} {R : Room} {s : State} {m : MethodId} {args : Array Value} {below : List Frame} {meth : Method} {c : Code} {cells slots : Nat} {Q : State → Prop} {D : va_G} {A : Nat → Prop} {ids : ClassId × ClassId × ClassId × (Nat → Nat) × (Nat → Nat)}
theorem fk_X10_7 : Cond.fieldLink RX10 7 RX10 (TX10 0).2.1 (TX10 0).2.2.1 ∈ xc_T := xc_in2 xt_5 107 rfl rfl
set_option maxHeartbeats 4000000 in
set_option maxRecDepth 100000 in
theorem xn_modelLoop {h0 q1 : Nat} {fs : List Value} {RR : va_W} {H : Heap} {locs : List Loc} {ls : Array Slot} (hok : xn_Ok p s m args meth c D ids A cX10_init RX10 3) (hfs : fs[0]? = some (.ref q1)) (hP : va_P D vwCl ((h0, .inr (9, fs)) :: (q1, .inl (ids.1, 2232, .inl (fun _ => 0))) :: RR) H) (hD : va_D A ((h0, .inr (9, fs)) :: (q1, .inl (ids.1, 2232, .inl (fun _ => 0))) :: RR)) (hS : va_S A s.heap H locs) (hl : lv_has ls 3 [(0, .ref h0)])
    (done : ∀ (H : Heap) (locs : List Loc) (ls : Array Slot), va_P D vwCl ((h0, .inr (9, fs)) :: (q1, .inl (ids.1, 2232, .inl (xe_f 100))) :: RR) H → va_D A ((h0, .inr (9, fs)) :: (q1, .inl (ids.1, 2232, .inl (xe_f 100))) :: RR) → va_S A s.heap H locs → lv_has ls 3 [(0, .ref h0)] → W p l e R s m args below meth c H locs cells slots Q (F0 m 189 ls [])) : W p l e R s m args below meth c H locs cells slots Q (F0 m 136 ls []) := by
  obtain ⟨hx, hb, hml, hown, hts, hK, hA⟩ := id hok
  have e10 : (10 : Int32) = nI 10 := rfl
  have e98 : (98 : Int32) = nI 98 := rfl
  have inner : ∀ (a : Nat), a < 10 → (∀ (H : Heap) (locs : List Loc) (ls : Array Slot), va_P D vwCl ((h0, .inr (9, fs)) :: (q1, .inl (ids.1, 2232, .inl (xe_f (10 * a + 10)))) :: RR) H → va_D A ((h0, .inr (9, fs)) :: (q1, .inl (ids.1, 2232, .inl (xe_f (10 * a + 10)))) :: RR) → va_S A s.heap H locs → lv_has ls 3 [(0, .ref h0), (1, .int (nI a))] → W p l e R s m args below meth c H locs cells slots Q (F0 m 183 ls [])) → ∀ (n b : Nat), b + n = 10 → ∀ (H : Heap) (locs : List Loc) (ls : Array Slot), va_P D vwCl ((h0, .inr (9, fs)) :: (q1, .inl (ids.1, 2232, .inl (xe_f (10 * a + b)))) :: RR) H → va_D A ((h0, .inr (9, fs)) :: (q1, .inl (ids.1, 2232, .inl (xe_f (10 * a + b)))) :: RR) → va_S A s.heap H locs → lv_has ls 3 [(0, .ref h0), (1, .int (nI a)), (2, .int (nI b))] → W p l e R s m args below meth c H locs cells slots Q (F0 m 146 ls []) := by
    intro a ha out n
    induction n with
    | zero =>
      intro b hb2 H locs ls hP hD hS hl
      have hb2 : b = 10 := hb2
      subst hb2
      refine lv_iload_n hx hb dX10_init_146 rfl (lv_at hl 2 rfl) ?_
      refine lv_bipush (v := 10) hx hb dX10_init_147 (by decide) ?_
      refine lv_icmp_ge (tgt := 183) hx hb dX10_init_149 (by decide) (fun _ => ?_) (fun q => absurd (by decide) q)
      exact out H locs ls hP hD hS (lv_sub hl [0, 1] rfl)
    | succ n ih =>
      intro b hb2 H locs ls hP hD hS hl
      have hlt : b < 10 := by omega
      have ei : 98 + 10 * nI a + nI b = nI (98 + 10 * a + b) := by rw [e98, e10, pk_mul, nI_add, nI_add]
      refine lv_iload_n hx hb dX10_init_146 rfl (lv_at hl 2 rfl) ?_
      refine lv_bipush (v := 10) hx hb dX10_init_147 (by decide) ?_
      refine lv_icmp_ge (tgt := 183) hx hb dX10_init_149 (by decide) (fun q => absurd (show nI 10 ≤ nI b from q) (nI_ge hlt (by omega))) (fun _ => ?_)
      refine lv_aload_n hx hb dX10_init_152 rfl (lv_at hl 0 rfl) ?_
      refine va_get hx hb hts kl_X10.2.1 hown hK hP 0 rfl kl_X10.1 0 (by decide) (hts _ fk_X10_7) (by rw [kl_X10.2.2.2.2.2 0 (by decide)]; exact fun _ q => q) hfs dX10_init_153 ?_
      have fin : ∀ v : Int32, v = (if a = b then 0 else 10) → W p l e R s m args below meth c H locs cells slots Q (F0 m 176 ls [.int v, .int (98 + 10 * nI a + nI b), .ref q1]) := by
        intro v hv
        rw [ei]
        refine va_iast hx hb hK hP hD hS 1 0 rfl rfl (vp_in_nI (by omega) (by omega)) dX10_init_176 (fun H locs hP hD hS => ?_)
        rw [nI_clamp (by omega : 98 + 10 * a + b < 2 ^ 31), hv, xe_s a b hlt] at hP hD
        refine lv_iinc (v := nI (b + 1)) (lv' := [(2, .int (nI (b + 1))), (0, .ref h0), (1, .int (nI a))]) hx hb dX10_init_177 hl (k := 2) rfl (by rw [nI_succ]; rfl) (by decide) rfl (fun ls hl => ?_)
        refine lv_goto (tgt := 146) hx hb dX10_init_180 (by decide) ?_
        exact ih (b + 1) (by omega) H locs ls hP hD hS (lv_sub hl [1, 2, 0] rfl)
      refine lv_bipush (v := 98) hx hb dX10_init_156 (by decide) ?_
      refine lv_bipush (v := 10) hx hb dX10_init_158 (by decide) ?_
      refine lv_iload_n hx hb dX10_init_160 rfl (lv_at hl 1 rfl) ?_
      refine lv_imul hx hb dX10_init_161 ?_
      refine lv_iadd hx hb dX10_init_162 ?_
      refine lv_iload_n hx hb dX10_init_163 rfl (lv_at hl 2 rfl) ?_
      refine lv_iadd hx hb dX10_init_164 ?_
      refine lv_iload_n hx hb dX10_init_165 rfl (lv_at hl 1 rfl) ?_
      refine lv_iload_n hx hb dX10_init_166 rfl (lv_at hl 2 rfl) ?_
      refine lv_icmp_ne (tgt := 174) hx hb dX10_init_167 (by decide) (fun q => ?_) (fun q => ?_)
      · have hne : ¬ a = b := fun z => q (by rw [z])
        refine lv_bipush (v := 10) hx hb dX10_init_174 (by decide) ?_
        exact fin 10 (by rw [if_neg hne])
      · have heq : a = b := (nI_eq (by omega) (by omega)).mp q
        refine lv_iconst (v := 0) hx hb dX10_init_170 (by decide) ?_
        refine lv_goto (tgt := 176) hx hb dX10_init_171 (by decide) ?_
        exact fin 0 (by rw [if_pos heq])
  have outer : ∀ (n a : Nat), a + n = 10 → ∀ (H : Heap) (locs : List Loc) (ls : Array Slot), va_P D vwCl ((h0, .inr (9, fs)) :: (q1, .inl (ids.1, 2232, .inl (xe_f (10 * a)))) :: RR) H → va_D A ((h0, .inr (9, fs)) :: (q1, .inl (ids.1, 2232, .inl (xe_f (10 * a)))) :: RR) → va_S A s.heap H locs → lv_has ls 3 [(0, .ref h0), (1, .int (nI a))] → W p l e R s m args below meth c H locs cells slots Q (F0 m 138 ls []) := by
    intro n
    induction n with
    | zero =>
      intro a ha H locs ls hP hD hS hl
      have ha : a = 10 := ha
      subst ha
      refine lv_iload_n hx hb dX10_init_138 rfl (lv_at hl 1 rfl) ?_
      refine lv_bipush (v := 10) hx hb dX10_init_139 (by decide) ?_
      refine lv_icmp_ge (tgt := 189) hx hb dX10_init_141 (by decide) (fun _ => ?_) (fun q => absurd (by decide) q)
      exact done H locs ls hP hD hS (lv_sub hl [0] rfl)
    | succ n ih =>
      intro a ha H locs ls hP hD hS hl
      have hlt : a < 10 := by omega
      refine lv_iload_n hx hb dX10_init_138 rfl (lv_at hl 1 rfl) ?_
      refine lv_bipush (v := 10) hx hb dX10_init_139 (by decide) ?_
      refine lv_icmp_ge (tgt := 189) hx hb dX10_init_141 (by decide) (fun q => absurd (show nI 10 ≤ nI a from q) (nI_ge hlt (by omega))) (fun _ => ?_)
      refine lv_iconst (v := 0) hx hb dX10_init_144 (by decide) ?_
      refine lv_istore_n (lv' := [(2, .int 0), (0, .ref h0), (1, .int (nI a))]) hx hb dX10_init_145 rfl hl (by decide) rfl (fun ls hl => ?_)
      refine inner a hlt (fun H locs ls hP hD hS hl => ?_) 10 0 rfl H locs ls hP hD hS (lv_sub hl [1, 2, 0] rfl)
      refine lv_iinc (v := nI (a + 1)) (lv' := [(1, .int (nI (a + 1))), (0, .ref h0)]) hx hb dX10_init_183 hl (k := 1) rfl (by rw [nI_succ]; rfl) (by decide) rfl (fun ls hl => ?_)
      refine lv_goto (tgt := 138) hx hb dX10_init_186 (by decide) ?_
      exact ih (a + 1) (by omega) H locs ls hP hD hS (lv_sub hl [1, 0] rfl)
  rw [xe_0] at hP hD
  refine lv_iconst (v := 0) hx hb dX10_init_136 (by decide) ?_
  refine lv_istore_n (lv' := [(1, .int 0), (0, .ref h0)]) hx hb dX10_init_137 rfl hl (by decide) rfl (fun ls hl => ?_)
  exact outer 10 0 rfl H locs ls hP hD hS (lv_sub hl [1, 0] rfl)
end
