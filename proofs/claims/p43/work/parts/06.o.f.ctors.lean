theorem ac_int : Cond.arrayClass .int ∈ xc_T := xc_in2 xt_1 84 rfl rfl
theorem ac_byte : Cond.arrayClass .byte ∈ xc_T := xc_in2 xt_2 22 rfl rfl
theorem oi_i : Cond.instanceMethod objectInit ∈ xc_T := xc_in2 xt_1 29 rfl rfl
theorem oi_c : Cond.code objectInit ⟨#[0xb1]⟩ 1 none ∈ xc_T := xc_in2 xt_1 30 rfl rfl
theorem ol_X0_3 : Cond.methodLink RX0 3 objectInit ∈ xc_T := xc_in2 xt_1 42 rfl rfl
theorem fk_X0_9 : Cond.fieldLink RX0 9 RX0 (TX0 3).2.1 (TX0 3).2.2.1 ∈ xc_T := xc_in2 xt_1 52 rfl rfl
theorem fk_X0_15 : Cond.fieldLink RX0 15 RX0 (TX0 4).2.1 (TX0 4).2.2.1 ∈ xc_T := xc_in2 xt_1 55 rfl rfl
theorem fk_X0_18 : Cond.fieldLink RX0 18 RX0 (TX0 5).2.1 (TX0 5).2.2.1 ∈ xc_T := xc_in2 xt_1 58 rfl rfl
theorem fk_X0_21 : Cond.fieldLink RX0 21 RX0 (TX0 6).2.1 (TX0 6).2.2.1 ∈ xc_T := xc_in2 xt_1 61 rfl rfl
theorem fk_X0_24 : Cond.fieldLink RX0 24 RX0 (TX0 7).2.1 (TX0 7).2.2.1 ∈ xc_T := xc_in2 xt_1 64 rfl rfl
def bk_X0 (ids : ClassId × ClassId × ClassId × (Nat → Nat) × (Nat → Nat)) (h0 : Nat) (u : (Nat × Nat × Nat × Nat × Nat)) : va_W := (h0, .inr (0, [.int 0, .int 0, .int 0, .ref u.1, .ref u.2.1, .ref u.2.2.1, .ref u.2.2.2.1, .ref u.2.2.2.2])) :: ((((([] ++ [(u.1, .inl (ids.1, 14, .inl (fun _ => 0)))]) ++ [(u.2.1, .inl (ids.1, 14, .inl (fun _ => 0)))]) ++ [(u.2.2.1, .inl (ids.1, 10, .inl (fun _ => 0)))]) ++ [(u.2.2.2.1, .inl (ids.1, 10, .inl (fun _ => 0)))]) ++ [(u.2.2.2.2, .inl (ids.1, 10, .inl (fun _ => 0)))])
set_option maxHeartbeats 4000000 in
set_option maxRecDepth 100000 in
theorem cn_X0 (l : Launch) (D : va_G) (ids : ClassId × ClassId × ClassId × (Nat → Nat) × (Nat → Nat)) : xn_Cf l D ids (S := (Nat × Nat × Nat × Nat × Nat)) 0 yX0_init cX0_init 1 0 [] [.int 0, .int 0, .int 0, .null, .null, .null, .null, .null] (bk_X0 ids) 5 58 := by
  intro h0 sz
  refine Met.ofW (cc := cX0_init) (maxL := 1) (ret := none) (by decide) rfl ?_
  intro p e s m args below meth c s₁ B hml hv
  obtain ⟨rfl, hsz, hP, hK, hD0, hAO⟩ := hv
  have hx := B.exec
  have hb := B.bytes
  have hr := B.returns
  have hts := atoms_spec (ws := Cond.code yX0_init cX0_init 1 none :: xc_T) B.pre
  have hlocks := B.notSynchronized
  have hin : meth.name = "<init>" := (name_of_methodNamed B.named B.method).1
  subst hsz
  have hD := hD0.self (sz := s.heap.size)
  generalize hAe : va_A [(h0, (.inr (0, [.int 0, .int 0, .int 0, .null, .null, .null, .null, .null]) : va_E))] s.heap.size = A at hD ⊢
  have hA : ∀ q : Nat, s.heap.size ≤ q → A q := fun q h => by rw [← hAe]; exact Or.inr h
  have hok : xn_Ok p s m (List.toArray ([.ref h0])) meth c D ids A cX0_init RX0 1 := ⟨hx, hb, hml, findClass_of_methodNamed B.named, fun w hw => hts w (List.mem_cons_of_mem _ hw), hK, hA, hAO⟩
  have hS : va_S A s.heap s.heap [] := va_S.rf
  have hl := lv_entry ([.ref h0]) (n := 1) (Nat.le_of_ble_eq_true rfl)
  rw [lg_entry_eq]
  generalize (lg_sl ([.ref h0]) ++ List.replicate (1 - (lg_sl ([.ref h0])).length) Slot.unset).toArray = ls at hl ⊢
  have hl : lv_has ls 1 [(0, .ref h0)] := hl
  refine lv_aload_n hx hb dX0_init_0 rfl (lv_at hl 0 rfl) ?_
  refine W.objInit hx hb hok.2.2.2.1 (hok.2.2.2.2.1 _ ol_X0_3) (hok.2.2.2.2.1 _ oi_i) (hok.2.2.2.2.1 _ oi_c) rfl (by rw [hml]; exact hl.1) rfl dX0_init_1 (Nat.le_of_ble_eq_true rfl) (Nat.le_of_ble_eq_true rfl) ?_
  refine W.eq (g2 := F0 m 4 ls []) rfl ?_
  refine lv_aload_n hx hb dX0_init_4 rfl (lv_at hl 0 rfl) ?_
  refine lv_bipush (v := 14) hx hb dX0_init_5 (by decide) ?_
  refine xn_arr (len := 14) hok hin dX0_init_7 (by decide) (by decide) (Nat.le_of_ble_eq_true rfl) (Nat.le_of_ble_eq_true rfl) (Nat.le_of_ble_eq_true rfl) kl_X0 rfl dX0_init_9 fk_X0_9 (by decide) rfl rfl (Nat.le_of_ble_eq_true rfl) ac_int hP hD hS (fun q1 H locs hP hD hS => ?_)
  refine lv_aload_n hx hb dX0_init_12 rfl (lv_at hl 0 rfl) ?_
  refine lv_bipush (v := 14) hx hb dX0_init_13 (by decide) ?_
  refine xn_arr (len := 14) hok hin dX0_init_15 (by decide) (by decide) (Nat.le_of_ble_eq_true rfl) (Nat.le_of_ble_eq_true rfl) (Nat.le_of_ble_eq_true rfl) kl_X0 rfl dX0_init_17 fk_X0_15 (by decide) rfl rfl (Nat.le_of_ble_eq_true rfl) ac_int hP hD hS (fun q2 H locs hP hD hS => ?_)
  refine lv_aload_n hx hb dX0_init_20 rfl (lv_at hl 0 rfl) ?_
  refine lv_bipush (v := 10) hx hb dX0_init_21 (by decide) ?_
  refine xn_arr (len := 10) hok hin dX0_init_23 (by decide) (by decide) (Nat.le_of_ble_eq_true rfl) (Nat.le_of_ble_eq_true rfl) (Nat.le_of_ble_eq_true rfl) kl_X0 rfl dX0_init_25 fk_X0_18 (by decide) rfl rfl (Nat.le_of_ble_eq_true rfl) ac_int hP hD hS (fun q3 H locs hP hD hS => ?_)
  refine lv_aload_n hx hb dX0_init_28 rfl (lv_at hl 0 rfl) ?_
  refine lv_bipush (v := 10) hx hb dX0_init_29 (by decide) ?_
  refine xn_arr (len := 10) hok hin dX0_init_31 (by decide) (by decide) (Nat.le_of_ble_eq_true rfl) (Nat.le_of_ble_eq_true rfl) (Nat.le_of_ble_eq_true rfl) kl_X0 rfl dX0_init_33 fk_X0_21 (by decide) rfl rfl (Nat.le_of_ble_eq_true rfl) ac_int hP hD hS (fun q4 H locs hP hD hS => ?_)
  refine lv_aload_n hx hb dX0_init_36 rfl (lv_at hl 0 rfl) ?_
  refine lv_bipush (v := 10) hx hb dX0_init_37 (by decide) ?_
  refine xn_arr (len := 10) hok hin dX0_init_39 (by decide) (by decide) (Nat.le_of_ble_eq_true rfl) (Nat.le_of_ble_eq_true rfl) (Nat.le_of_ble_eq_true rfl) kl_X0 rfl dX0_init_41 fk_X0_24 (by decide) rfl rfl (Nat.le_of_ble_eq_true rfl) ac_int hP hD hS (fun q5 H locs hP hD hS => ?_)
  exact W.vret hx hb hr (fun t ht hW => ⟨⟨(q1, q2, q3, q4, q5), rfl, trivial, by rw [ht]; exact hP, va_K.moved hW.alike hK, hD⟩, hS.F ht⟩) hS.2.2 dX0_init_44 hlocks
theorem ol_X1_3 : Cond.methodLink RX1 3 objectInit ∈ xc_T := xc_in2 xt_1 131 rfl rfl
theorem fk_X1_9 : Cond.fieldLink RX1 9 RX1 (TX1 2).2.1 (TX1 2).2.2.1 ∈ xc_T := xc_in2 xt_1 136 rfl rfl
theorem fk_X1_15 : Cond.fieldLink RX1 15 RX1 (TX1 3).2.1 (TX1 3).2.2.1 ∈ xc_T := xc_in2 xt_1 137 rfl rfl
theorem fk_X1_18 : Cond.fieldLink RX1 18 RX1 (TX1 4).2.1 (TX1 4).2.2.1 ∈ xc_T := xc_in2 xt_1 138 rfl rfl
theorem fk_X1_21 : Cond.fieldLink RX1 21 RX1 (TX1 5).2.1 (TX1 5).2.2.1 ∈ xc_T := xc_in2 xt_1 139 rfl rfl
theorem fk_X1_24 : Cond.fieldLink RX1 24 RX1 (TX1 6).2.1 (TX1 6).2.2.1 ∈ xc_T := xc_in2 xt_1 140 rfl rfl
theorem fk_X1_27 : Cond.fieldLink RX1 27 RX1 (TX1 7).2.1 (TX1 7).2.2.1 ∈ xc_T := xc_in2 xt_1 141 rfl rfl
def bk_X1 (ids : ClassId × ClassId × ClassId × (Nat → Nat) × (Nat → Nat)) (h0 : Nat) (u : (Nat × Nat × Nat × Nat × Nat × Nat)) : va_W := (h0, .inr (1, [.int 0, .int 0, .ref u.1, .ref u.2.1, .ref u.2.2.1, .ref u.2.2.2.1, .ref u.2.2.2.2.1, .ref u.2.2.2.2.2])) :: (((((([] ++ [(u.1, .inl (ids.1, 16, .inl (fun _ => 0)))]) ++ [(u.2.1, .inl (ids.1, 16, .inl (fun _ => 0)))]) ++ [(u.2.2.1, .inl (ids.1, 16, .inl (fun _ => 0)))]) ++ [(u.2.2.2.1, .inl (ids.1, 16, .inl (fun _ => 0)))]) ++ [(u.2.2.2.2.1, .inl (ids.1, 400, .inl (fun _ => 0)))]) ++ [(u.2.2.2.2.2, .inl (ids.1, 32, .inl (fun _ => 0)))])
set_option maxHeartbeats 4000000 in
set_option maxRecDepth 100000 in
theorem cn_X1 (l : Launch) (D : va_G) (ids : ClassId × ClassId × ClassId × (Nat → Nat) × (Nat → Nat)) : xn_Cf l D ids (S := (Nat × Nat × Nat × Nat × Nat × Nat)) 0 yX1_init cX1_init 1 1 [] [.int 0, .int 0, .null, .null, .null, .null, .null, .null] (bk_X1 ids) 6 496 := by
  intro h0 sz
  refine Met.ofW (cc := cX1_init) (maxL := 1) (ret := none) (by decide) rfl ?_
  intro p e s m args below meth c s₁ B hml hv
  obtain ⟨rfl, hsz, hP, hK, hD0, hAO⟩ := hv
  have hx := B.exec
  have hb := B.bytes
  have hr := B.returns
  have hts := atoms_spec (ws := Cond.code yX1_init cX1_init 1 none :: xc_T) B.pre
  have hlocks := B.notSynchronized
  have hin : meth.name = "<init>" := (name_of_methodNamed B.named B.method).1
  subst hsz
  have hD := hD0.self (sz := s.heap.size)
  generalize hAe : va_A [(h0, (.inr (1, [.int 0, .int 0, .null, .null, .null, .null, .null, .null]) : va_E))] s.heap.size = A at hD ⊢
  have hA : ∀ q : Nat, s.heap.size ≤ q → A q := fun q h => by rw [← hAe]; exact Or.inr h
  have hok : xn_Ok p s m (List.toArray ([.ref h0])) meth c D ids A cX1_init RX1 1 := ⟨hx, hb, hml, findClass_of_methodNamed B.named, fun w hw => hts w (List.mem_cons_of_mem _ hw), hK, hA, hAO⟩
  have hS : va_S A s.heap s.heap [] := va_S.rf
  have hl := lv_entry ([.ref h0]) (n := 1) (Nat.le_of_ble_eq_true rfl)
  rw [lg_entry_eq]
  generalize (lg_sl ([.ref h0]) ++ List.replicate (1 - (lg_sl ([.ref h0])).length) Slot.unset).toArray = ls at hl ⊢
  have hl : lv_has ls 1 [(0, .ref h0)] := hl
  refine lv_aload_n hx hb dX1_init_0 rfl (lv_at hl 0 rfl) ?_
  refine W.objInit hx hb hok.2.2.2.1 (hok.2.2.2.2.1 _ ol_X1_3) (hok.2.2.2.2.1 _ oi_i) (hok.2.2.2.2.1 _ oi_c) rfl (by rw [hml]; exact hl.1) rfl dX1_init_1 (Nat.le_of_ble_eq_true rfl) (Nat.le_of_ble_eq_true rfl) ?_
  refine W.eq (g2 := F0 m 4 ls []) rfl ?_
  refine lv_aload_n hx hb dX1_init_4 rfl (lv_at hl 0 rfl) ?_
  refine lv_bipush (v := 16) hx hb dX1_init_5 (by decide) ?_
  refine xn_arr (len := 16) hok hin dX1_init_7 (by decide) (by decide) (Nat.le_of_ble_eq_true rfl) (Nat.le_of_ble_eq_true rfl) (Nat.le_of_ble_eq_true rfl) kl_X1 rfl dX1_init_9 fk_X1_9 (by decide) rfl rfl (Nat.le_of_ble_eq_true rfl) ac_int hP hD hS (fun q1 H locs hP hD hS => ?_)
  refine lv_aload_n hx hb dX1_init_12 rfl (lv_at hl 0 rfl) ?_
  refine lv_bipush (v := 16) hx hb dX1_init_13 (by decide) ?_
  refine xn_arr (len := 16) hok hin dX1_init_15 (by decide) (by decide) (Nat.le_of_ble_eq_true rfl) (Nat.le_of_ble_eq_true rfl) (Nat.le_of_ble_eq_true rfl) kl_X1 rfl dX1_init_17 fk_X1_15 (by decide) rfl rfl (Nat.le_of_ble_eq_true rfl) ac_int hP hD hS (fun q2 H locs hP hD hS => ?_)
  refine lv_aload_n hx hb dX1_init_20 rfl (lv_at hl 0 rfl) ?_
  refine lv_bipush (v := 16) hx hb dX1_init_21 (by decide) ?_
  refine xn_arr (len := 16) hok hin dX1_init_23 (by decide) (by decide) (Nat.le_of_ble_eq_true rfl) (Nat.le_of_ble_eq_true rfl) (Nat.le_of_ble_eq_true rfl) kl_X1 rfl dX1_init_25 fk_X1_18 (by decide) rfl rfl (Nat.le_of_ble_eq_true rfl) ac_int hP hD hS (fun q3 H locs hP hD hS => ?_)
  refine lv_aload_n hx hb dX1_init_28 rfl (lv_at hl 0 rfl) ?_
  refine lv_bipush (v := 16) hx hb dX1_init_29 (by decide) ?_
  refine xn_arr (len := 16) hok hin dX1_init_31 (by decide) (by decide) (Nat.le_of_ble_eq_true rfl) (Nat.le_of_ble_eq_true rfl) (Nat.le_of_ble_eq_true rfl) kl_X1 rfl dX1_init_33 fk_X1_21 (by decide) rfl rfl (Nat.le_of_ble_eq_true rfl) ac_int hP hD hS (fun q4 H locs hP hD hS => ?_)
  refine lv_aload_n hx hb dX1_init_36 rfl (lv_at hl 0 rfl) ?_
  refine lv_sipush (v := 400) hx hb dX1_init_37 (by decide) ?_
  refine xn_arr (len := 400) hok hin dX1_init_40 (by decide) (by decide) (Nat.le_of_ble_eq_true rfl) (Nat.le_of_ble_eq_true rfl) (Nat.le_of_ble_eq_true rfl) kl_X1 rfl dX1_init_42 fk_X1_24 (by decide) rfl rfl (Nat.le_of_ble_eq_true rfl) ac_int hP hD hS (fun q5 H locs hP hD hS => ?_)
  refine lv_aload_n hx hb dX1_init_45 rfl (lv_at hl 0 rfl) ?_
  refine lv_bipush (v := 32) hx hb dX1_init_46 (by decide) ?_
  refine xn_arr (len := 32) hok hin dX1_init_48 (by decide) (by decide) (Nat.le_of_ble_eq_true rfl) (Nat.le_of_ble_eq_true rfl) (Nat.le_of_ble_eq_true rfl) kl_X1 rfl dX1_init_50 fk_X1_27 (by decide) rfl rfl (Nat.le_of_ble_eq_true rfl) ac_int hP hD hS (fun q6 H locs hP hD hS => ?_)
  exact W.vret hx hb hr (fun t ht hW => ⟨⟨(q1, q2, q3, q4, q5, q6), rfl, trivial, by rw [ht]; exact hP, va_K.moved hW.alike hK, hD⟩, hS.F ht⟩) hS.2.2 dX1_init_53 hlocks
theorem ol_X2_3 : Cond.methodLink RX2 3 objectInit ∈ xc_T := xc_in2 xt_1 110 rfl rfl
theorem fk_X2_9 : Cond.fieldLink RX2 9 RX2 (TX2 1).2.1 (TX2 1).2.2.1 ∈ xc_T := xc_in2 xt_1 114 rfl rfl
theorem fk_X2_15 : Cond.fieldLink RX2 15 RX2 (TX2 2).2.1 (TX2 2).2.2.1 ∈ xc_T := xc_in2 xt_1 115 rfl rfl
theorem fk_X2_18 : Cond.fieldLink RX2 18 RX2 (TX2 3).2.1 (TX2 3).2.2.1 ∈ xc_T := xc_in2 xt_1 116 rfl rfl
def bk_X2 (ids : ClassId × ClassId × ClassId × (Nat → Nat) × (Nat → Nat)) (h0 : Nat) (u : (Nat × Nat × Nat)) : va_W := (h0, .inr (2, [.int 0, .ref u.1, .ref u.2.1, .ref u.2.2])) :: ((([] ++ [(u.1, .inl (ids.1, 10, .inl (fun _ => 0)))]) ++ [(u.2.1, .inl (ids.1, 60, .inl (fun _ => 0)))]) ++ [(u.2.2, .inl (ids.1, 60, .inl (fun _ => 0)))])
set_option maxHeartbeats 4000000 in
set_option maxRecDepth 100000 in
theorem cn_X2 (l : Launch) (D : va_G) (ids : ClassId × ClassId × ClassId × (Nat → Nat) × (Nat → Nat)) : xn_Cf l D ids (S := (Nat × Nat × Nat)) 0 yX2_init cX2_init 1 2 [] [.int 0, .null, .null, .null] (bk_X2 ids) 3 130 := by
  intro h0 sz
  refine Met.ofW (cc := cX2_init) (maxL := 1) (ret := none) (by decide) rfl ?_
  intro p e s m args below meth c s₁ B hml hv
  obtain ⟨rfl, hsz, hP, hK, hD0, hAO⟩ := hv
  have hx := B.exec
  have hb := B.bytes
  have hr := B.returns
  have hts := atoms_spec (ws := Cond.code yX2_init cX2_init 1 none :: xc_T) B.pre
  have hlocks := B.notSynchronized
  have hin : meth.name = "<init>" := (name_of_methodNamed B.named B.method).1
  subst hsz
  have hD := hD0.self (sz := s.heap.size)
  generalize hAe : va_A [(h0, (.inr (2, [.int 0, .null, .null, .null]) : va_E))] s.heap.size = A at hD ⊢
  have hA : ∀ q : Nat, s.heap.size ≤ q → A q := fun q h => by rw [← hAe]; exact Or.inr h
  have hok : xn_Ok p s m (List.toArray ([.ref h0])) meth c D ids A cX2_init RX2 1 := ⟨hx, hb, hml, findClass_of_methodNamed B.named, fun w hw => hts w (List.mem_cons_of_mem _ hw), hK, hA, hAO⟩
  have hS : va_S A s.heap s.heap [] := va_S.rf
  have hl := lv_entry ([.ref h0]) (n := 1) (Nat.le_of_ble_eq_true rfl)
  rw [lg_entry_eq]
  generalize (lg_sl ([.ref h0]) ++ List.replicate (1 - (lg_sl ([.ref h0])).length) Slot.unset).toArray = ls at hl ⊢
  have hl : lv_has ls 1 [(0, .ref h0)] := hl
  refine lv_aload_n hx hb dX2_init_0 rfl (lv_at hl 0 rfl) ?_
  refine W.objInit hx hb hok.2.2.2.1 (hok.2.2.2.2.1 _ ol_X2_3) (hok.2.2.2.2.1 _ oi_i) (hok.2.2.2.2.1 _ oi_c) rfl (by rw [hml]; exact hl.1) rfl dX2_init_1 (Nat.le_of_ble_eq_true rfl) (Nat.le_of_ble_eq_true rfl) ?_
  refine W.eq (g2 := F0 m 4 ls []) rfl ?_
  refine lv_aload_n hx hb dX2_init_4 rfl (lv_at hl 0 rfl) ?_
  refine lv_bipush (v := 10) hx hb dX2_init_5 (by decide) ?_
  refine xn_arr (len := 10) hok hin dX2_init_7 (by decide) (by decide) (Nat.le_of_ble_eq_true rfl) (Nat.le_of_ble_eq_true rfl) (Nat.le_of_ble_eq_true rfl) kl_X2 rfl dX2_init_9 fk_X2_9 (by decide) rfl rfl (Nat.le_of_ble_eq_true rfl) ac_int hP hD hS (fun q1 H locs hP hD hS => ?_)
  refine lv_aload_n hx hb dX2_init_12 rfl (lv_at hl 0 rfl) ?_
  refine lv_bipush (v := 60) hx hb dX2_init_13 (by decide) ?_
  refine xn_arr (len := 60) hok hin dX2_init_15 (by decide) (by decide) (Nat.le_of_ble_eq_true rfl) (Nat.le_of_ble_eq_true rfl) (Nat.le_of_ble_eq_true rfl) kl_X2 rfl dX2_init_17 fk_X2_15 (by decide) rfl rfl (Nat.le_of_ble_eq_true rfl) ac_int hP hD hS (fun q2 H locs hP hD hS => ?_)
  refine lv_aload_n hx hb dX2_init_20 rfl (lv_at hl 0 rfl) ?_
  refine lv_bipush (v := 60) hx hb dX2_init_21 (by decide) ?_
  refine xn_arr (len := 60) hok hin dX2_init_23 (by decide) (by decide) (Nat.le_of_ble_eq_true rfl) (Nat.le_of_ble_eq_true rfl) (Nat.le_of_ble_eq_true rfl) kl_X2 rfl dX2_init_25 fk_X2_18 (by decide) rfl rfl (Nat.le_of_ble_eq_true rfl) ac_int hP hD hS (fun q3 H locs hP hD hS => ?_)
  exact W.vret hx hb hr (fun t ht hW => ⟨⟨(q1, q2, q3), rfl, trivial, by rw [ht]; exact hP, va_K.moved hW.alike hK, hD⟩, hS.F ht⟩) hS.2.2 dX2_init_28 hlocks
theorem ol_X4_3 : Cond.methodLink RX4 3 objectInit ∈ xc_T := xc_in2 xt_1 90 rfl rfl
theorem lm_X4_9 : xc_Lm RX4 9 Lib.Math.max.name Lib.Math.max.code := ⟨xc_in2 xt_1 91 rfl rfl, xc_in2 xt_1 92 rfl rfl, xc_in2 xt_1 5 rfl rfl, xc_in2 xt_1 93 rfl rfl⟩
theorem fk_X4_17 : Cond.fieldLink RX4 17 RX4 (TX4 1).2.1 (TX4 1).2.2.1 ∈ xc_T := xc_in2 xt_1 99 rfl rfl
def bk_X4_150 (ids : ClassId × ClassId × ClassId × (Nat → Nat) × (Nat → Nat)) (h0 : Nat) (u : Nat) : va_W := (h0, .inr (4, [.int 0, .ref u])) :: ([] ++ [(u, .inl (ids.1, 600, .inl (fun _ => 0)))])
set_option maxHeartbeats 4000000 in
set_option maxRecDepth 100000 in
theorem cn_X4_150 (l : Launch) (D : va_G) (ids : ClassId × ClassId × ClassId × (Nat → Nat) × (Nat → Nat)) : xn_Cf l D ids (S := Nat) 0 yX4_init cX4_init 2 4 [.int 150] [.int 0, .null] (bk_X4_150 ids) 1 600 := by
  intro h0 sz
  refine Met.ofW (cc := cX4_init) (maxL := 2) (ret := none) (by decide) rfl ?_
  intro p e s m args below meth c s₁ B hml hv
  obtain ⟨rfl, hsz, hP, hK, hD0, hAO⟩ := hv
  have hx := B.exec
  have hb := B.bytes
  have hr := B.returns
  have hts := atoms_spec (ws := Cond.code yX4_init cX4_init 2 none :: xc_T) B.pre
  have hlocks := B.notSynchronized
  have hin : meth.name = "<init>" := (name_of_methodNamed B.named B.method).1
  subst hsz
  have hD := hD0.self (sz := s.heap.size)
  generalize hAe : va_A [(h0, (.inr (4, [.int 0, .null]) : va_E))] s.heap.size = A at hD ⊢
  have hA : ∀ q : Nat, s.heap.size ≤ q → A q := fun q h => by rw [← hAe]; exact Or.inr h
  have hok : xn_Ok p s m (List.toArray ([.ref h0, .int 150])) meth c D ids A cX4_init RX4 2 := ⟨hx, hb, hml, findClass_of_methodNamed B.named, fun w hw => hts w (List.mem_cons_of_mem _ hw), hK, hA, hAO⟩
  have hS : va_S A s.heap s.heap [] := va_S.rf
  have hl := lv_entry ([.ref h0, .int 150]) (n := 2) (Nat.le_of_ble_eq_true rfl)
  rw [lg_entry_eq]
  generalize (lg_sl ([.ref h0, .int 150]) ++ List.replicate (2 - (lg_sl ([.ref h0, .int 150])).length) Slot.unset).toArray = ls at hl ⊢
  have hl : lv_has ls 2 [(0, .ref h0), (1, .int 150)] := hl
  refine lv_aload_n hx hb dX4_init_0 rfl (lv_at hl 0 rfl) ?_
  refine W.objInit hx hb hok.2.2.2.1 (hok.2.2.2.2.1 _ ol_X4_3) (hok.2.2.2.2.1 _ oi_i) (hok.2.2.2.2.1 _ oi_c) rfl (by rw [hml]; exact hl.1) rfl dX4_init_1 (Nat.le_of_ble_eq_true rfl) (Nat.le_of_ble_eq_true rfl) ?_
  refine W.eq (g2 := F0 m 4 ls []) rfl ?_
  refine lv_aload_n hx hb dX4_init_4 rfl (lv_at hl 0 rfl) ?_
  refine lv_iconst (v := 0) hx hb dX4_init_5 (by decide) ?_
  refine lv_iload_n hx hb dX4_init_6 rfl (lv_at hl 1 rfl) ?_
  refine va_mmax hx hb (hml.trans hl.1.symm) hok.2.2.2.1 (hok.2.2.2.2.1 _ lm_X4_9.1) (hok.2.2.2.2.1 _ lm_X4_9.2.1) (hok.2.2.2.2.1 _ lm_X4_9.2.2.1) (hok.2.2.2.2.1 _ lm_X4_9.2.2.2) (Nat.le_of_ble_eq_true rfl) (Nat.le_of_ble_eq_true rfl) (Nat.le_of_ble_eq_true rfl) (Nat.le_of_ble_eq_true rfl) dX4_init_7 ?_
  refine lv_iconst (v := 4) hx hb dX4_init_10 (by decide) ?_
  refine lv_imul hx hb dX4_init_11 ?_
  refine W.eq (g2 := F0 m 12 ls [.int 600, .ref h0]) rfl ?_
  refine xn_arr (len := 600) hok hin dX4_init_12 (by decide) (by decide) (Nat.le_of_ble_eq_true rfl) (Nat.le_of_ble_eq_true rfl) (Nat.le_of_ble_eq_true rfl) kl_X4 rfl dX4_init_14 fk_X4_17 (by decide) rfl rfl (Nat.le_of_ble_eq_true rfl) ac_int hP hD hS (fun q1 H locs hP hD hS => ?_)
  exact W.vret hx hb hr (fun t ht hW => ⟨⟨(q1), rfl, trivial, by rw [ht]; exact hP, va_K.moved hW.alike hK, hD⟩, hS.F ht⟩) hS.2.2 dX4_init_17 hlocks
def bk_X4_16 (ids : ClassId × ClassId × ClassId × (Nat → Nat) × (Nat → Nat)) (h0 : Nat) (u : Nat) : va_W := (h0, .inr (4, [.int 0, .ref u])) :: ([] ++ [(u, .inl (ids.1, 64, .inl (fun _ => 0)))])
set_option maxHeartbeats 4000000 in
set_option maxRecDepth 100000 in
theorem cn_X4_16 (l : Launch) (D : va_G) (ids : ClassId × ClassId × ClassId × (Nat → Nat) × (Nat → Nat)) : xn_Cf l D ids (S := Nat) 0 yX4_init cX4_init 2 4 [.int 16] [.int 0, .null] (bk_X4_16 ids) 1 64 := by
  intro h0 sz
  refine Met.ofW (cc := cX4_init) (maxL := 2) (ret := none) (by decide) rfl ?_
  intro p e s m args below meth c s₁ B hml hv
  obtain ⟨rfl, hsz, hP, hK, hD0, hAO⟩ := hv
  have hx := B.exec
  have hb := B.bytes
  have hr := B.returns
  have hts := atoms_spec (ws := Cond.code yX4_init cX4_init 2 none :: xc_T) B.pre
  have hlocks := B.notSynchronized
  have hin : meth.name = "<init>" := (name_of_methodNamed B.named B.method).1
  subst hsz
  have hD := hD0.self (sz := s.heap.size)
  generalize hAe : va_A [(h0, (.inr (4, [.int 0, .null]) : va_E))] s.heap.size = A at hD ⊢
  have hA : ∀ q : Nat, s.heap.size ≤ q → A q := fun q h => by rw [← hAe]; exact Or.inr h
  have hok : xn_Ok p s m (List.toArray ([.ref h0, .int 16])) meth c D ids A cX4_init RX4 2 := ⟨hx, hb, hml, findClass_of_methodNamed B.named, fun w hw => hts w (List.mem_cons_of_mem _ hw), hK, hA, hAO⟩
  have hS : va_S A s.heap s.heap [] := va_S.rf
  have hl := lv_entry ([.ref h0, .int 16]) (n := 2) (Nat.le_of_ble_eq_true rfl)
  rw [lg_entry_eq]
  generalize (lg_sl ([.ref h0, .int 16]) ++ List.replicate (2 - (lg_sl ([.ref h0, .int 16])).length) Slot.unset).toArray = ls at hl ⊢
  have hl : lv_has ls 2 [(0, .ref h0), (1, .int 16)] := hl
  refine lv_aload_n hx hb dX4_init_0 rfl (lv_at hl 0 rfl) ?_
  refine W.objInit hx hb hok.2.2.2.1 (hok.2.2.2.2.1 _ ol_X4_3) (hok.2.2.2.2.1 _ oi_i) (hok.2.2.2.2.1 _ oi_c) rfl (by rw [hml]; exact hl.1) rfl dX4_init_1 (Nat.le_of_ble_eq_true rfl) (Nat.le_of_ble_eq_true rfl) ?_
  refine W.eq (g2 := F0 m 4 ls []) rfl ?_
  refine lv_aload_n hx hb dX4_init_4 rfl (lv_at hl 0 rfl) ?_
  refine lv_iconst (v := 0) hx hb dX4_init_5 (by decide) ?_
  refine lv_iload_n hx hb dX4_init_6 rfl (lv_at hl 1 rfl) ?_
  refine va_mmax hx hb (hml.trans hl.1.symm) hok.2.2.2.1 (hok.2.2.2.2.1 _ lm_X4_9.1) (hok.2.2.2.2.1 _ lm_X4_9.2.1) (hok.2.2.2.2.1 _ lm_X4_9.2.2.1) (hok.2.2.2.2.1 _ lm_X4_9.2.2.2) (Nat.le_of_ble_eq_true rfl) (Nat.le_of_ble_eq_true rfl) (Nat.le_of_ble_eq_true rfl) (Nat.le_of_ble_eq_true rfl) dX4_init_7 ?_
  refine lv_iconst (v := 4) hx hb dX4_init_10 (by decide) ?_
  refine lv_imul hx hb dX4_init_11 ?_
  refine W.eq (g2 := F0 m 12 ls [.int 64, .ref h0]) rfl ?_
  refine xn_arr (len := 64) hok hin dX4_init_12 (by decide) (by decide) (Nat.le_of_ble_eq_true rfl) (Nat.le_of_ble_eq_true rfl) (Nat.le_of_ble_eq_true rfl) kl_X4 rfl dX4_init_14 fk_X4_17 (by decide) rfl rfl (Nat.le_of_ble_eq_true rfl) ac_int hP hD hS (fun q1 H locs hP hD hS => ?_)
  exact W.vret hx hb hr (fun t ht hW => ⟨⟨(q1), rfl, trivial, by rw [ht]; exact hP, va_K.moved hW.alike hK, hD⟩, hS.F ht⟩) hS.2.2 dX4_init_17 hlocks
def bk_X4_12 (ids : ClassId × ClassId × ClassId × (Nat → Nat) × (Nat → Nat)) (h0 : Nat) (u : Nat) : va_W := (h0, .inr (4, [.int 0, .ref u])) :: ([] ++ [(u, .inl (ids.1, 48, .inl (fun _ => 0)))])
set_option maxHeartbeats 4000000 in
set_option maxRecDepth 100000 in
theorem cn_X4_12 (l : Launch) (D : va_G) (ids : ClassId × ClassId × ClassId × (Nat → Nat) × (Nat → Nat)) : xn_Cf l D ids (S := Nat) 0 yX4_init cX4_init 2 4 [.int 12] [.int 0, .null] (bk_X4_12 ids) 1 48 := by
  intro h0 sz
  refine Met.ofW (cc := cX4_init) (maxL := 2) (ret := none) (by decide) rfl ?_
  intro p e s m args below meth c s₁ B hml hv
  obtain ⟨rfl, hsz, hP, hK, hD0, hAO⟩ := hv
  have hx := B.exec
  have hb := B.bytes
  have hr := B.returns
  have hts := atoms_spec (ws := Cond.code yX4_init cX4_init 2 none :: xc_T) B.pre
  have hlocks := B.notSynchronized
  have hin : meth.name = "<init>" := (name_of_methodNamed B.named B.method).1
  subst hsz
  have hD := hD0.self (sz := s.heap.size)
  generalize hAe : va_A [(h0, (.inr (4, [.int 0, .null]) : va_E))] s.heap.size = A at hD ⊢
  have hA : ∀ q : Nat, s.heap.size ≤ q → A q := fun q h => by rw [← hAe]; exact Or.inr h
  have hok : xn_Ok p s m (List.toArray ([.ref h0, .int 12])) meth c D ids A cX4_init RX4 2 := ⟨hx, hb, hml, findClass_of_methodNamed B.named, fun w hw => hts w (List.mem_cons_of_mem _ hw), hK, hA, hAO⟩
  have hS : va_S A s.heap s.heap [] := va_S.rf
  have hl := lv_entry ([.ref h0, .int 12]) (n := 2) (Nat.le_of_ble_eq_true rfl)
  rw [lg_entry_eq]
  generalize (lg_sl ([.ref h0, .int 12]) ++ List.replicate (2 - (lg_sl ([.ref h0, .int 12])).length) Slot.unset).toArray = ls at hl ⊢
  have hl : lv_has ls 2 [(0, .ref h0), (1, .int 12)] := hl
  refine lv_aload_n hx hb dX4_init_0 rfl (lv_at hl 0 rfl) ?_
  refine W.objInit hx hb hok.2.2.2.1 (hok.2.2.2.2.1 _ ol_X4_3) (hok.2.2.2.2.1 _ oi_i) (hok.2.2.2.2.1 _ oi_c) rfl (by rw [hml]; exact hl.1) rfl dX4_init_1 (Nat.le_of_ble_eq_true rfl) (Nat.le_of_ble_eq_true rfl) ?_
  refine W.eq (g2 := F0 m 4 ls []) rfl ?_
  refine lv_aload_n hx hb dX4_init_4 rfl (lv_at hl 0 rfl) ?_
  refine lv_iconst (v := 0) hx hb dX4_init_5 (by decide) ?_
  refine lv_iload_n hx hb dX4_init_6 rfl (lv_at hl 1 rfl) ?_
  refine va_mmax hx hb (hml.trans hl.1.symm) hok.2.2.2.1 (hok.2.2.2.2.1 _ lm_X4_9.1) (hok.2.2.2.2.1 _ lm_X4_9.2.1) (hok.2.2.2.2.1 _ lm_X4_9.2.2.1) (hok.2.2.2.2.1 _ lm_X4_9.2.2.2) (Nat.le_of_ble_eq_true rfl) (Nat.le_of_ble_eq_true rfl) (Nat.le_of_ble_eq_true rfl) (Nat.le_of_ble_eq_true rfl) dX4_init_7 ?_
  refine lv_iconst (v := 4) hx hb dX4_init_10 (by decide) ?_
  refine lv_imul hx hb dX4_init_11 ?_
  refine W.eq (g2 := F0 m 12 ls [.int 48, .ref h0]) rfl ?_
  refine xn_arr (len := 48) hok hin dX4_init_12 (by decide) (by decide) (Nat.le_of_ble_eq_true rfl) (Nat.le_of_ble_eq_true rfl) (Nat.le_of_ble_eq_true rfl) kl_X4 rfl dX4_init_14 fk_X4_17 (by decide) rfl rfl (Nat.le_of_ble_eq_true rfl) ac_int hP hD hS (fun q1 H locs hP hD hS => ?_)
  exact W.vret hx hb hr (fun t ht hW => ⟨⟨(q1), rfl, trivial, by rw [ht]; exact hP, va_K.moved hW.alike hK, hD⟩, hS.F ht⟩) hS.2.2 dX4_init_17 hlocks
def bk_X4_10 (ids : ClassId × ClassId × ClassId × (Nat → Nat) × (Nat → Nat)) (h0 : Nat) (u : Nat) : va_W := (h0, .inr (4, [.int 0, .ref u])) :: ([] ++ [(u, .inl (ids.1, 40, .inl (fun _ => 0)))])
set_option maxHeartbeats 4000000 in
set_option maxRecDepth 100000 in
theorem cn_X4_10 (l : Launch) (D : va_G) (ids : ClassId × ClassId × ClassId × (Nat → Nat) × (Nat → Nat)) : xn_Cf l D ids (S := Nat) 0 yX4_init cX4_init 2 4 [.int 10] [.int 0, .null] (bk_X4_10 ids) 1 40 := by
  intro h0 sz
  refine Met.ofW (cc := cX4_init) (maxL := 2) (ret := none) (by decide) rfl ?_
  intro p e s m args below meth c s₁ B hml hv
  obtain ⟨rfl, hsz, hP, hK, hD0, hAO⟩ := hv
  have hx := B.exec
  have hb := B.bytes
  have hr := B.returns
  have hts := atoms_spec (ws := Cond.code yX4_init cX4_init 2 none :: xc_T) B.pre
  have hlocks := B.notSynchronized
  have hin : meth.name = "<init>" := (name_of_methodNamed B.named B.method).1
  subst hsz
  have hD := hD0.self (sz := s.heap.size)
  generalize hAe : va_A [(h0, (.inr (4, [.int 0, .null]) : va_E))] s.heap.size = A at hD ⊢
  have hA : ∀ q : Nat, s.heap.size ≤ q → A q := fun q h => by rw [← hAe]; exact Or.inr h
  have hok : xn_Ok p s m (List.toArray ([.ref h0, .int 10])) meth c D ids A cX4_init RX4 2 := ⟨hx, hb, hml, findClass_of_methodNamed B.named, fun w hw => hts w (List.mem_cons_of_mem _ hw), hK, hA, hAO⟩
  have hS : va_S A s.heap s.heap [] := va_S.rf
  have hl := lv_entry ([.ref h0, .int 10]) (n := 2) (Nat.le_of_ble_eq_true rfl)
  rw [lg_entry_eq]
  generalize (lg_sl ([.ref h0, .int 10]) ++ List.replicate (2 - (lg_sl ([.ref h0, .int 10])).length) Slot.unset).toArray = ls at hl ⊢
  have hl : lv_has ls 2 [(0, .ref h0), (1, .int 10)] := hl
  refine lv_aload_n hx hb dX4_init_0 rfl (lv_at hl 0 rfl) ?_
  refine W.objInit hx hb hok.2.2.2.1 (hok.2.2.2.2.1 _ ol_X4_3) (hok.2.2.2.2.1 _ oi_i) (hok.2.2.2.2.1 _ oi_c) rfl (by rw [hml]; exact hl.1) rfl dX4_init_1 (Nat.le_of_ble_eq_true rfl) (Nat.le_of_ble_eq_true rfl) ?_
  refine W.eq (g2 := F0 m 4 ls []) rfl ?_
  refine lv_aload_n hx hb dX4_init_4 rfl (lv_at hl 0 rfl) ?_
  refine lv_iconst (v := 0) hx hb dX4_init_5 (by decide) ?_
  refine lv_iload_n hx hb dX4_init_6 rfl (lv_at hl 1 rfl) ?_
  refine va_mmax hx hb (hml.trans hl.1.symm) hok.2.2.2.1 (hok.2.2.2.2.1 _ lm_X4_9.1) (hok.2.2.2.2.1 _ lm_X4_9.2.1) (hok.2.2.2.2.1 _ lm_X4_9.2.2.1) (hok.2.2.2.2.1 _ lm_X4_9.2.2.2) (Nat.le_of_ble_eq_true rfl) (Nat.le_of_ble_eq_true rfl) (Nat.le_of_ble_eq_true rfl) (Nat.le_of_ble_eq_true rfl) dX4_init_7 ?_
  refine lv_iconst (v := 4) hx hb dX4_init_10 (by decide) ?_
  refine lv_imul hx hb dX4_init_11 ?_
  refine W.eq (g2 := F0 m 12 ls [.int 40, .ref h0]) rfl ?_
  refine xn_arr (len := 40) hok hin dX4_init_12 (by decide) (by decide) (Nat.le_of_ble_eq_true rfl) (Nat.le_of_ble_eq_true rfl) (Nat.le_of_ble_eq_true rfl) kl_X4 rfl dX4_init_14 fk_X4_17 (by decide) rfl rfl (Nat.le_of_ble_eq_true rfl) ac_int hP hD hS (fun q1 H locs hP hD hS => ?_)
  exact W.vret hx hb hr (fun t ht hW => ⟨⟨(q1), rfl, trivial, by rw [ht]; exact hP, va_K.moved hW.alike hK, hD⟩, hS.F ht⟩) hS.2.2 dX4_init_17 hlocks
theorem ol_X5_3 : Cond.methodLink RX5 3 objectInit ∈ xc_T := xc_in2 xt_2 12 rfl rfl
theorem fk_X5_9 : Cond.fieldLink RX5 9 RX5 (TX5 1).2.1 (TX5 1).2.2.1 ∈ xc_T := xc_in2 xt_2 16 rfl rfl
def bk_X5 (ids : ClassId × ClassId × ClassId × (Nat → Nat) × (Nat → Nat)) (h0 : Nat) (u : Nat) : va_W := (h0, .inr (5, [.int 0, .ref u])) :: ([] ++ [(u, .inl (ids.2.1, 400, .inl (fun _ => 0)))])
set_option maxHeartbeats 4000000 in
set_option maxRecDepth 100000 in
theorem cn_X5 (l : Launch) (D : va_G) (ids : ClassId × ClassId × ClassId × (Nat → Nat) × (Nat → Nat)) : xn_Cf l D ids (S := Nat) 0 yX5_init cX5_init 1 5 [] [.int 0, .null] (bk_X5 ids) 1 400 := by
  intro h0 sz
  refine Met.ofW (cc := cX5_init) (maxL := 1) (ret := none) (by decide) rfl ?_
  intro p e s m args below meth c s₁ B hml hv
  obtain ⟨rfl, hsz, hP, hK, hD0, hAO⟩ := hv
  have hx := B.exec
  have hb := B.bytes
  have hr := B.returns
  have hts := atoms_spec (ws := Cond.code yX5_init cX5_init 1 none :: xc_T) B.pre
  have hlocks := B.notSynchronized
  have hin : meth.name = "<init>" := (name_of_methodNamed B.named B.method).1
  subst hsz
  have hD := hD0.self (sz := s.heap.size)
  generalize hAe : va_A [(h0, (.inr (5, [.int 0, .null]) : va_E))] s.heap.size = A at hD ⊢
  have hA : ∀ q : Nat, s.heap.size ≤ q → A q := fun q h => by rw [← hAe]; exact Or.inr h
  have hok : xn_Ok p s m (List.toArray ([.ref h0])) meth c D ids A cX5_init RX5 1 := ⟨hx, hb, hml, findClass_of_methodNamed B.named, fun w hw => hts w (List.mem_cons_of_mem _ hw), hK, hA, hAO⟩
  have hS : va_S A s.heap s.heap [] := va_S.rf
  have hl := lv_entry ([.ref h0]) (n := 1) (Nat.le_of_ble_eq_true rfl)
  rw [lg_entry_eq]
  generalize (lg_sl ([.ref h0]) ++ List.replicate (1 - (lg_sl ([.ref h0])).length) Slot.unset).toArray = ls at hl ⊢
  have hl : lv_has ls 1 [(0, .ref h0)] := hl
  refine lv_aload_n hx hb dX5_init_0 rfl (lv_at hl 0 rfl) ?_
  refine W.objInit hx hb hok.2.2.2.1 (hok.2.2.2.2.1 _ ol_X5_3) (hok.2.2.2.2.1 _ oi_i) (hok.2.2.2.2.1 _ oi_c) rfl (by rw [hml]; exact hl.1) rfl dX5_init_1 (Nat.le_of_ble_eq_true rfl) (Nat.le_of_ble_eq_true rfl) ?_
  refine W.eq (g2 := F0 m 4 ls []) rfl ?_
  refine lv_aload_n hx hb dX5_init_4 rfl (lv_at hl 0 rfl) ?_
  refine lv_sipush (v := 400) hx hb dX5_init_5 (by decide) ?_
  refine xn_arrB (len := 400) hok hin dX5_init_8 (by decide) (by decide) (Nat.le_of_ble_eq_true rfl) (Nat.le_of_ble_eq_true rfl) (Nat.le_of_ble_eq_true rfl) kl_X5 rfl dX5_init_10 fk_X5_9 (by decide) rfl rfl (Nat.le_of_ble_eq_true rfl) ac_byte hP hD hS (fun q1 H locs hP hD hS => ?_)
  exact W.vret hx hb hr (fun t ht hW => ⟨⟨(q1), rfl, trivial, by rw [ht]; exact hP, va_K.moved hW.alike hK, hD⟩, hS.F ht⟩) hS.2.2 dX5_init_13 hlocks
theorem ol_X6_3 : Cond.methodLink RX6 3 objectInit ∈ xc_T := xc_in2 xt_2 28 rfl rfl
theorem fk_X6_9 : Cond.fieldLink RX6 9 RX6 (TX6 1).2.1 (TX6 1).2.2.1 ∈ xc_T := xc_in2 xt_2 30 rfl rfl
theorem fk_X6_15 : Cond.fieldLink RX6 15 RX6 (TX6 4).2.1 (TX6 4).2.2.1 ∈ xc_T := xc_in2 xt_2 33 rfl rfl
theorem fk_X6_19 : Cond.fieldLink RX6 19 RX6 (TX6 5).2.1 (TX6 5).2.2.1 ∈ xc_T := xc_in2 xt_2 34 rfl rfl
theorem fk_X6_22 : Cond.fieldLink RX6 22 RX6 (TX6 6).2.1 (TX6 6).2.2.1 ∈ xc_T := xc_in2 xt_2 35 rfl rfl
def bk_X6 (ids : ClassId × ClassId × ClassId × (Nat → Nat) × (Nat → Nat)) (h0 : Nat) (u : (Nat × Nat × Nat)) : va_W := (h0, .inr (6, [.int 0, .int (-1), .int 0, .int 0, .ref u.1, .ref u.2.1, .ref u.2.2, .int 0])) :: ((([] ++ [(u.1, .inl (ids.1, 401, .inl (fun _ => 0)))]) ++ [(u.2.1, .inl (ids.1, 401, .inl (fun _ => 0)))]) ++ [(u.2.2, .inl (ids.1, 401, .inl (fun _ => 0)))])
set_option maxHeartbeats 4000000 in
set_option maxRecDepth 100000 in
theorem cn_X6 (l : Launch) (D : va_G) (ids : ClassId × ClassId × ClassId × (Nat → Nat) × (Nat → Nat)) : xn_Cf l D ids (S := (Nat × Nat × Nat)) 0 yX6_init cX6_init 1 6 [] [.int 0, .int 0, .int 0, .int 0, .null, .null, .null, .int 0] (bk_X6 ids) 3 1203 := by
  intro h0 sz
  refine Met.ofW (cc := cX6_init) (maxL := 1) (ret := none) (by decide) rfl ?_
  intro p e s m args below meth c s₁ B hml hv
  obtain ⟨rfl, hsz, hP, hK, hD0, hAO⟩ := hv
  have hx := B.exec
  have hb := B.bytes
  have hr := B.returns
  have hts := atoms_spec (ws := Cond.code yX6_init cX6_init 1 none :: xc_T) B.pre
  have hlocks := B.notSynchronized
  have hin : meth.name = "<init>" := (name_of_methodNamed B.named B.method).1
  subst hsz
  have hD := hD0.self (sz := s.heap.size)
  generalize hAe : va_A [(h0, (.inr (6, [.int 0, .int 0, .int 0, .int 0, .null, .null, .null, .int 0]) : va_E))] s.heap.size = A at hD ⊢
  have hA : ∀ q : Nat, s.heap.size ≤ q → A q := fun q h => by rw [← hAe]; exact Or.inr h
  have hok : xn_Ok p s m (List.toArray ([.ref h0])) meth c D ids A cX6_init RX6 1 := ⟨hx, hb, hml, findClass_of_methodNamed B.named, fun w hw => hts w (List.mem_cons_of_mem _ hw), hK, hA, hAO⟩
  have hS : va_S A s.heap s.heap [] := va_S.rf
  have hl := lv_entry ([.ref h0]) (n := 1) (Nat.le_of_ble_eq_true rfl)
  rw [lg_entry_eq]
  generalize (lg_sl ([.ref h0]) ++ List.replicate (1 - (lg_sl ([.ref h0])).length) Slot.unset).toArray = ls at hl ⊢
  have hl : lv_has ls 1 [(0, .ref h0)] := hl
  refine lv_aload_n hx hb dX6_init_0 rfl (lv_at hl 0 rfl) ?_
  refine W.objInit hx hb hok.2.2.2.1 (hok.2.2.2.2.1 _ ol_X6_3) (hok.2.2.2.2.1 _ oi_i) (hok.2.2.2.2.1 _ oi_c) rfl (by rw [hml]; exact hl.1) rfl dX6_init_1 (Nat.le_of_ble_eq_true rfl) (Nat.le_of_ble_eq_true rfl) ?_
  refine W.eq (g2 := F0 m 4 ls []) rfl ?_
  refine lv_aload_n hx hb dX6_init_4 rfl (lv_at hl 0 rfl) ?_
  refine lv_iconst (v := (-1)) hx hb dX6_init_5 (by decide) ?_
  refine xn_putI (v := (-1)) (rt := .int) hok dX6_init_6 kl_X6 fk_X6_9 (by decide) rfl rfl rfl rfl (Nat.le_of_ble_eq_true rfl) hP hD hS (fun H locs hP hD hS => ?_)
  refine lv_aload_n hx hb dX6_init_9 rfl (lv_at hl 0 rfl) ?_
  refine lv_sipush (v := 401) hx hb dX6_init_10 (by decide) ?_
  refine xn_arr (len := 401) hok hin dX6_init_13 (by decide) (by decide) (Nat.le_of_ble_eq_true rfl) (Nat.le_of_ble_eq_true rfl) (Nat.le_of_ble_eq_true rfl) kl_X6 rfl dX6_init_15 fk_X6_15 (by decide) rfl rfl (Nat.le_of_ble_eq_true rfl) ac_int hP hD hS (fun q1 H locs hP hD hS => ?_)
  refine lv_aload_n hx hb dX6_init_18 rfl (lv_at hl 0 rfl) ?_
  refine lv_sipush (v := 401) hx hb dX6_init_19 (by decide) ?_
  refine xn_arr (len := 401) hok hin dX6_init_22 (by decide) (by decide) (Nat.le_of_ble_eq_true rfl) (Nat.le_of_ble_eq_true rfl) (Nat.le_of_ble_eq_true rfl) kl_X6 rfl dX6_init_24 fk_X6_19 (by decide) rfl rfl (Nat.le_of_ble_eq_true rfl) ac_int hP hD hS (fun q2 H locs hP hD hS => ?_)
  refine lv_aload_n hx hb dX6_init_27 rfl (lv_at hl 0 rfl) ?_
  refine lv_sipush (v := 401) hx hb dX6_init_28 (by decide) ?_
  refine xn_arr (len := 401) hok hin dX6_init_31 (by decide) (by decide) (Nat.le_of_ble_eq_true rfl) (Nat.le_of_ble_eq_true rfl) (Nat.le_of_ble_eq_true rfl) kl_X6 rfl dX6_init_33 fk_X6_22 (by decide) rfl rfl (Nat.le_of_ble_eq_true rfl) ac_int hP hD hS (fun q3 H locs hP hD hS => ?_)
  exact W.vret hx hb hr (fun t ht hW => ⟨⟨(q1, q2, q3), rfl, trivial, by rw [ht]; exact hP, va_K.moved hW.alike hK, hD⟩, hS.F ht⟩) hS.2.2 dX6_init_36 hlocks
