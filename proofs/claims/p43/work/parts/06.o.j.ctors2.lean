theorem ol_X8_3 : Cond.methodLink RX8 3 objectInit ∈ xc_T := xc_in2 xt_1 36 rfl rfl
theorem fk_X8_9 : Cond.fieldLink RX8 9 RX8 (TX8 3).2.1 (TX8 3).2.2.1 ∈ xc_T := xc_in2 xt_1 167 rfl rfl
theorem fk_X8_15 : Cond.fieldLink RX8 15 RX8 (TX8 4).2.1 (TX8 4).2.2.1 ∈ xc_T := xc_in2 xt_1 170 rfl rfl
theorem cl_X8_21 : Cond.classLink RX8 21 RX0 ∈ xc_T := xc_in2 xt_1 37 rfl rfl
theorem ci_X0 : Cond.instantiable RX0 8 ∈ xc_T := xc_in2 xt_1 38 rfl rfl
theorem cz_X0 : Cond.initialized RX0 ∈ xc_T := xc_in2 xt_1 3 rfl rfl
theorem df_X0 : ∀ j, j < 8 → defaultValue (tyX0 j) = vp_V [.int 0, .int 0, .int 0, .null, .null, .null, .null, .null] j := fun j hj => by
  match j, hj with
  | 0, _ => rfl
  | 1, _ => rfl
  | 2, _ => rfl
  | 3, _ => rfl
  | 4, _ => rfl
  | 5, _ => rfl
  | 6, _ => rfl
  | 7, _ => rfl
  | k + 8, hj => omega
theorem md_X0_init : xc_Md yX0_init cX0_init 1 none 0 := ⟨xc_in2 xt_1 41 rfl rfl, xc_in2 xt_1 3 rfl rfl, by decide +kernel, by decide⟩
theorem mi_X0_init : Cond.instanceMethod yX0_init ∈ xc_T := xc_in2 xt_1 40 rfl rfl
theorem lk_X8_23 : Cond.methodLink RX8 23 yX0_init ∈ xc_T := xc_in2 xt_1 39 rfl rfl
theorem fk_X8_24 : Cond.fieldLink RX8 24 RX8 (TX8 6).2.1 (TX8 6).2.2.1 ∈ xc_T := xc_in2 xt_1 174 rfl rfl
theorem cl_X8_28 : Cond.classLink RX8 28 RX4 ∈ xc_T := xc_in2 xt_1 85 rfl rfl
theorem ci_X4 : Cond.instantiable RX4 2 ∈ xc_T := xc_in2 xt_1 86 rfl rfl
theorem cz_X4 : Cond.initialized RX4 ∈ xc_T := xc_in2 xt_1 4 rfl rfl
theorem df_X4 : ∀ j, j < 2 → defaultValue (tyX4 j) = vp_V [.int 0, .null] j := fun j hj => by
  match j, hj with
  | 0, _ => rfl
  | 1, _ => rfl
  | k + 2, hj => omega
theorem md_X4_init : xc_Md yX4_init cX4_init 2 none 1 := ⟨xc_in2 xt_1 89 rfl rfl, xc_in2 xt_1 4 rfl rfl, by decide +kernel, by decide⟩
theorem mi_X4_init : Cond.instanceMethod yX4_init ∈ xc_T := xc_in2 xt_1 88 rfl rfl
theorem lk_X8_30 : Cond.methodLink RX8 30 yX4_init ∈ xc_T := xc_in2 xt_1 87 rfl rfl
theorem fk_X8_33 : Cond.fieldLink RX8 33 RX8 (TX8 7).2.1 (TX8 7).2.2.1 ∈ xc_T := xc_in2 xt_1 177 rfl rfl
theorem fk_X8_37 : Cond.fieldLink RX8 37 RX8 (TX8 8).2.1 (TX8 8).2.2.1 ∈ xc_T := xc_in2 xt_1 180 rfl rfl
theorem fk_X8_40 : Cond.fieldLink RX8 40 RX8 (TX8 9).2.1 (TX8 9).2.2.1 ∈ xc_T := xc_in2 xt_1 183 rfl rfl
theorem fk_X8_43 : Cond.fieldLink RX8 43 RX8 (TX8 10).2.1 (TX8 10).2.2.1 ∈ xc_T := xc_in2 xt_1 186 rfl rfl
theorem cl_X8_46 : Cond.classLink RX8 46 RX2 ∈ xc_T := xc_in2 xt_1 105 rfl rfl
theorem ci_X2 : Cond.instantiable RX2 4 ∈ xc_T := xc_in2 xt_1 106 rfl rfl
theorem cz_X2 : Cond.initialized RX2 ∈ xc_T := xc_in2 xt_1 6 rfl rfl
theorem df_X2 : ∀ j, j < 4 → defaultValue (tyX2 j) = vp_V [.int 0, .null, .null, .null] j := fun j hj => by
  match j, hj with
  | 0, _ => rfl
  | 1, _ => rfl
  | 2, _ => rfl
  | 3, _ => rfl
  | k + 4, hj => omega
theorem md_X2_init : xc_Md yX2_init cX2_init 1 none 0 := ⟨xc_in2 xt_1 109 rfl rfl, xc_in2 xt_1 6 rfl rfl, by decide +kernel, by decide⟩
theorem mi_X2_init : Cond.instanceMethod yX2_init ∈ xc_T := xc_in2 xt_1 108 rfl rfl
theorem lk_X8_48 : Cond.methodLink RX8 48 yX2_init ∈ xc_T := xc_in2 xt_1 107 rfl rfl
theorem fk_X8_49 : Cond.fieldLink RX8 49 RX8 (TX8 11).2.1 (TX8 11).2.2.1 ∈ xc_T := xc_in2 xt_1 188 rfl rfl
theorem cl_X8_53 : Cond.classLink RX8 53 RX1 ∈ xc_T := xc_in2 xt_1 126 rfl rfl
theorem ci_X1 : Cond.instantiable RX1 8 ∈ xc_T := xc_in2 xt_1 127 rfl rfl
theorem cz_X1 : Cond.initialized RX1 ∈ xc_T := xc_in2 xt_1 7 rfl rfl
theorem df_X1 : ∀ j, j < 8 → defaultValue (tyX1 j) = vp_V [.int 0, .int 0, .null, .null, .null, .null, .null, .null] j := fun j hj => by
  match j, hj with
  | 0, _ => rfl
  | 1, _ => rfl
  | 2, _ => rfl
  | 3, _ => rfl
  | 4, _ => rfl
  | 5, _ => rfl
  | 6, _ => rfl
  | 7, _ => rfl
  | k + 8, hj => omega
theorem md_X1_init : xc_Md yX1_init cX1_init 1 none 0 := ⟨xc_in2 xt_1 130 rfl rfl, xc_in2 xt_1 7 rfl rfl, by decide +kernel, by decide⟩
theorem mi_X1_init : Cond.instanceMethod yX1_init ∈ xc_T := xc_in2 xt_1 129 rfl rfl
theorem lk_X8_55 : Cond.methodLink RX8 55 yX1_init ∈ xc_T := xc_in2 xt_1 128 rfl rfl
theorem fk_X8_56 : Cond.fieldLink RX8 56 RX8 (TX8 12).2.1 (TX8 12).2.2.1 ∈ xc_T := xc_in2 xt_1 191 rfl rfl
theorem fk_X8_60 : Cond.fieldLink RX8 60 RX8 (TX8 13).2.1 (TX8 13).2.2.1 ∈ xc_T := xc_in2 xt_1 194 rfl rfl
def bk_X8 (ids : ClassId × ClassId × ClassId × (Nat → Nat) × (Nat → Nat)) (h0 : Nat) (u : (Nat × Nat × Nat × Nat × (Nat × Nat × Nat × Nat × Nat) × Nat × Nat × Nat × Nat × Nat × Nat × Nat × Nat × Nat × (Nat × Nat × Nat) × Nat × (Nat × Nat × Nat × Nat × Nat × Nat) × Nat)) : va_W := (h0, .inr (7, [.int 0, .int 0, .int 0, .ref u.1, .ref u.2.1, .ref u.2.2.1, .ref u.2.2.2.1, .ref u.2.2.2.2.2.1, .ref u.2.2.2.2.2.2.2.1, .ref u.2.2.2.2.2.2.2.2.2.1, .ref u.2.2.2.2.2.2.2.2.2.2.2.1, .ref u.2.2.2.2.2.2.2.2.2.2.2.2.2.1, .ref u.2.2.2.2.2.2.2.2.2.2.2.2.2.2.2.1, .ref u.2.2.2.2.2.2.2.2.2.2.2.2.2.2.2.2.2])) :: (u.1, .inl (ids.1, 14, .inl (fun _ => 0))) :: (u.2.1, .inl (ids.1, 14, .inl (fun _ => 0))) :: (u.2.2.1, .inl (ids.1, 100, .inl (xd_f 100))) :: (((((((([] ++ bk_X0 ids u.2.2.2.1 u.2.2.2.2.1) ++ bk_X4_150 ids u.2.2.2.2.2.1 u.2.2.2.2.2.2.1) ++ bk_X4_16 ids u.2.2.2.2.2.2.2.1 u.2.2.2.2.2.2.2.2.1) ++ bk_X4_12 ids u.2.2.2.2.2.2.2.2.2.1 u.2.2.2.2.2.2.2.2.2.2.1) ++ bk_X4_10 ids u.2.2.2.2.2.2.2.2.2.2.2.1 u.2.2.2.2.2.2.2.2.2.2.2.2.1) ++ bk_X2 ids u.2.2.2.2.2.2.2.2.2.2.2.2.2.1 u.2.2.2.2.2.2.2.2.2.2.2.2.2.2.1) ++ bk_X1 ids u.2.2.2.2.2.2.2.2.2.2.2.2.2.2.2.1 u.2.2.2.2.2.2.2.2.2.2.2.2.2.2.2.2.1) ++ [(u.2.2.2.2.2.2.2.2.2.2.2.2.2.2.2.2.2, .inl (ids.1, 8, .inl (fun _ => 0)))])
set_option maxHeartbeats 4000000 in
set_option maxRecDepth 100000 in
theorem cn_X8 (l : Launch) (D : va_G) (ids : ClassId × ClassId × ClassId × (Nat → Nat) × (Nat → Nat)) : xn_Cf l D ids (S := (Nat × Nat × Nat × Nat × (Nat × Nat × Nat × Nat × Nat) × Nat × Nat × Nat × Nat × Nat × Nat × Nat × Nat × Nat × (Nat × Nat × Nat) × Nat × (Nat × Nat × Nat × Nat × Nat × Nat) × Nat)) 1 yX8_init cX8_init 2 7 [] [.int 0, .int 0, .int 0, .null, .null, .null, .null, .null, .null, .null, .null, .null, .null, .null] (bk_X8 ids) 29 1600 := by
  intro h0 sz
  refine Met.ofW (cc := cX8_init) (maxL := 2) (ret := none) (by decide) rfl ?_
  intro p e s m args below meth c s₁ B hml hv
  obtain ⟨rfl, hsz, hP, hK, hD0, hAO⟩ := hv
  have hx := B.exec
  have hb := B.bytes
  have hr := B.returns
  have hts := atoms_spec (ws := Cond.code yX8_init cX8_init 2 none :: xc_T) B.pre
  have hlocks := B.notSynchronized
  have hin : meth.name = "<init>" := (name_of_methodNamed B.named B.method).1
  subst hsz
  have hD := hD0.self (sz := s.heap.size)
  generalize hAe : va_A [(h0, (.inr (7, [.int 0, .int 0, .int 0, .null, .null, .null, .null, .null, .null, .null, .null, .null, .null, .null]) : va_E))] s.heap.size = A at hD ⊢
  have hA : ∀ q : Nat, s.heap.size ≤ q → A q := fun q h => by rw [← hAe]; exact Or.inr h
  have hok : xn_Ok p s m (List.toArray ([.ref h0])) meth c D ids A cX8_init RX8 2 := ⟨hx, hb, hml, findClass_of_methodNamed B.named, fun w hw => hts w (List.mem_cons_of_mem _ hw), hK, hA, hAO⟩
  have hS : va_S A s.heap s.heap [] := va_S.rf
  have hl := lv_entry ([.ref h0]) (n := 2) (Nat.le_of_ble_eq_true rfl)
  rw [lg_entry_eq]
  generalize (lg_sl ([.ref h0]) ++ List.replicate (2 - (lg_sl ([.ref h0])).length) Slot.unset).toArray = ls at hl ⊢
  have hl : lv_has ls 2 [(0, .ref h0)] := hl
  refine lv_aload_n hx hb dX8_init_0 rfl (lv_at hl 0 rfl) ?_
  refine W.objInit hx hb hok.2.2.2.1 (hok.2.2.2.2.1 _ ol_X8_3) (hok.2.2.2.2.1 _ oi_i) (hok.2.2.2.2.1 _ oi_c) rfl (by rw [hml]; exact hl.1) rfl dX8_init_1 (Nat.le_of_ble_eq_true rfl) (Nat.le_of_ble_eq_true rfl) ?_
  refine W.eq (g2 := F0 m 4 ls []) rfl ?_
  refine lv_aload_n hx hb dX8_init_4 rfl (lv_at hl 0 rfl) ?_
  refine lv_bipush (v := 14) hx hb dX8_init_5 (by decide) ?_
  refine xn_arr (len := 14) hok hin dX8_init_7 (by decide) (by decide) (Nat.le_of_ble_eq_true rfl) (Nat.le_of_ble_eq_true rfl) (Nat.le_of_ble_eq_true rfl) kl_X8 rfl dX8_init_9 fk_X8_9 (by decide) rfl rfl (Nat.le_of_ble_eq_true rfl) ac_int hP hD hS (fun q1 H locs hP hD hS => ?_)
  refine lv_aload_n hx hb dX8_init_12 rfl (lv_at hl 0 rfl) ?_
  refine lv_bipush (v := 14) hx hb dX8_init_13 (by decide) ?_
  refine xn_arr (len := 14) hok hin dX8_init_15 (by decide) (by decide) (Nat.le_of_ble_eq_true rfl) (Nat.le_of_ble_eq_true rfl) (Nat.le_of_ble_eq_true rfl) kl_X8 rfl dX8_init_17 fk_X8_15 (by decide) rfl rfl (Nat.le_of_ble_eq_true rfl) ac_int hP hD hS (fun q2 H locs hP hD hS => ?_)
  refine lv_aload_n hx hb dX8_init_20 rfl (lv_at hl 0 rfl) ?_
  refine lv_bipush (v := 100) hx hb dX8_init_21 (by decide) ?_
  refine xn_arr (len := 100) hok hin dX8_init_23 (by decide) (by decide) (Nat.le_of_ble_eq_true rfl) (Nat.le_of_ble_eq_true rfl) (Nat.le_of_ble_eq_true rfl) kl_X8 rfl dX8_init_25 fk_X8_18 (by decide) rfl rfl (Nat.le_of_ble_eq_true rfl) ac_int hP hD hS (fun q3 H locs hP hD hS => ?_)
  refine lv_aload_n hx hb dX8_init_28 rfl (lv_at hl 0 rfl) ?_
  refine xn_new (fs := [.int 0, .int 0, .int 0, .null, .null, .null, .null, .null]) hok dX8_init_29 kl_X0 cl_X8_21 ci_X0 cz_X0 df_X0 (Nat.le_of_ble_eq_true rfl) (Nat.le_of_ble_eq_true rfl) dX8_init_32 hP hD hS (fun q4 H hP hD hS => ?_)
  refine xn_call hok dX8_init_33 (cn_X0 l D ids) md_X0_init rfl mi_X0_init lk_X8_23 rfl rfl (Nat.le_of_ble_eq_true rfl) hl.1 (Nat.le_of_ble_eq_true rfl) (Nat.le_of_ble_eq_true rfl) (Nat.le_of_ble_eq_true rfl) (Nat.le_of_ble_eq_true rfl) hP hD hS (fun u4 H locs hP hD hS => ?_)
  refine xn_putR (rt := .object "UnsaidWords$Being") hok hin dX8_init_36 kl_X8 rfl fk_X8_24 (by decide) rfl rfl rfl rfl (Nat.le_of_ble_eq_true rfl) hP hD hS (fun H locs hP hD hS => ?_)
  refine lv_aload_n hx hb dX8_init_39 rfl (lv_at hl 0 rfl) ?_
  refine xn_new (fs := [.int 0, .null]) hok dX8_init_40 kl_X4 cl_X8_28 ci_X4 cz_X4 df_X4 (Nat.le_of_ble_eq_true rfl) (Nat.le_of_ble_eq_true rfl) dX8_init_43 hP hD hS (fun q5 H hP hD hS => ?_)
  refine lv_sipush (v := 150) hx hb dX8_init_44 (by decide) ?_
  refine xn_call hok dX8_init_47 (cn_X4_150 l D ids) md_X4_init rfl mi_X4_init lk_X8_30 rfl rfl (Nat.le_of_ble_eq_true rfl) hl.1 (Nat.le_of_ble_eq_true rfl) (Nat.le_of_ble_eq_true rfl) (Nat.le_of_ble_eq_true rfl) (Nat.le_of_ble_eq_true rfl) hP hD hS (fun u5 H locs hP hD hS => ?_)
  refine xn_putR (rt := .object "UnsaidWords$Rows") hok hin dX8_init_50 kl_X8 rfl fk_X8_33 (by decide) rfl rfl rfl rfl (Nat.le_of_ble_eq_true rfl) hP hD hS (fun H locs hP hD hS => ?_)
  refine lv_aload_n hx hb dX8_init_53 rfl (lv_at hl 0 rfl) ?_
  refine xn_new (fs := [.int 0, .null]) hok dX8_init_54 kl_X4 cl_X8_28 ci_X4 cz_X4 df_X4 (Nat.le_of_ble_eq_true rfl) (Nat.le_of_ble_eq_true rfl) dX8_init_57 hP hD hS (fun q6 H hP hD hS => ?_)
  refine lv_bipush (v := 16) hx hb dX8_init_58 (by decide) ?_
  refine xn_call hok dX8_init_60 (cn_X4_16 l D ids) md_X4_init rfl mi_X4_init lk_X8_30 rfl rfl (Nat.le_of_ble_eq_true rfl) hl.1 (Nat.le_of_ble_eq_true rfl) (Nat.le_of_ble_eq_true rfl) (Nat.le_of_ble_eq_true rfl) (Nat.le_of_ble_eq_true rfl) hP hD hS (fun u6 H locs hP hD hS => ?_)
  refine xn_putR (rt := .object "UnsaidWords$Rows") hok hin dX8_init_63 kl_X8 rfl fk_X8_37 (by decide) rfl rfl rfl rfl (Nat.le_of_ble_eq_true rfl) hP hD hS (fun H locs hP hD hS => ?_)
  refine lv_aload_n hx hb dX8_init_66 rfl (lv_at hl 0 rfl) ?_
  refine xn_new (fs := [.int 0, .null]) hok dX8_init_67 kl_X4 cl_X8_28 ci_X4 cz_X4 df_X4 (Nat.le_of_ble_eq_true rfl) (Nat.le_of_ble_eq_true rfl) dX8_init_70 hP hD hS (fun q7 H hP hD hS => ?_)
  refine lv_bipush (v := 12) hx hb dX8_init_71 (by decide) ?_
  refine xn_call hok dX8_init_73 (cn_X4_12 l D ids) md_X4_init rfl mi_X4_init lk_X8_30 rfl rfl (Nat.le_of_ble_eq_true rfl) hl.1 (Nat.le_of_ble_eq_true rfl) (Nat.le_of_ble_eq_true rfl) (Nat.le_of_ble_eq_true rfl) (Nat.le_of_ble_eq_true rfl) hP hD hS (fun u7 H locs hP hD hS => ?_)
  refine xn_putR (rt := .object "UnsaidWords$Rows") hok hin dX8_init_76 kl_X8 rfl fk_X8_40 (by decide) rfl rfl rfl rfl (Nat.le_of_ble_eq_true rfl) hP hD hS (fun H locs hP hD hS => ?_)
  refine lv_aload_n hx hb dX8_init_79 rfl (lv_at hl 0 rfl) ?_
  refine xn_new (fs := [.int 0, .null]) hok dX8_init_80 kl_X4 cl_X8_28 ci_X4 cz_X4 df_X4 (Nat.le_of_ble_eq_true rfl) (Nat.le_of_ble_eq_true rfl) dX8_init_83 hP hD hS (fun q8 H hP hD hS => ?_)
  refine lv_bipush (v := 10) hx hb dX8_init_84 (by decide) ?_
  refine xn_call hok dX8_init_86 (cn_X4_10 l D ids) md_X4_init rfl mi_X4_init lk_X8_30 rfl rfl (Nat.le_of_ble_eq_true rfl) hl.1 (Nat.le_of_ble_eq_true rfl) (Nat.le_of_ble_eq_true rfl) (Nat.le_of_ble_eq_true rfl) (Nat.le_of_ble_eq_true rfl) hP hD hS (fun u8 H locs hP hD hS => ?_)
  refine xn_putR (rt := .object "UnsaidWords$Rows") hok hin dX8_init_89 kl_X8 rfl fk_X8_43 (by decide) rfl rfl rfl rfl (Nat.le_of_ble_eq_true rfl) hP hD hS (fun H locs hP hD hS => ?_)
  refine lv_aload_n hx hb dX8_init_92 rfl (lv_at hl 0 rfl) ?_
  refine xn_new (fs := [.int 0, .null, .null, .null]) hok dX8_init_93 kl_X2 cl_X8_46 ci_X2 cz_X2 df_X2 (Nat.le_of_ble_eq_true rfl) (Nat.le_of_ble_eq_true rfl) dX8_init_96 hP hD hS (fun q9 H hP hD hS => ?_)
  refine xn_call hok dX8_init_97 (cn_X2 l D ids) md_X2_init rfl mi_X2_init lk_X8_48 rfl rfl (Nat.le_of_ble_eq_true rfl) hl.1 (Nat.le_of_ble_eq_true rfl) (Nat.le_of_ble_eq_true rfl) (Nat.le_of_ble_eq_true rfl) (Nat.le_of_ble_eq_true rfl) hP hD hS (fun u9 H locs hP hD hS => ?_)
  refine xn_putR (rt := .object "UnsaidWords$Meanings") hok hin dX8_init_100 kl_X8 rfl fk_X8_49 (by decide) rfl rfl rfl rfl (Nat.le_of_ble_eq_true rfl) hP hD hS (fun H locs hP hD hS => ?_)
  refine lv_aload_n hx hb dX8_init_103 rfl (lv_at hl 0 rfl) ?_
  refine xn_new (fs := [.int 0, .int 0, .null, .null, .null, .null, .null, .null]) hok dX8_init_104 kl_X1 cl_X8_53 ci_X1 cz_X1 df_X1 (Nat.le_of_ble_eq_true rfl) (Nat.le_of_ble_eq_true rfl) dX8_init_107 hP hD hS (fun q10 H hP hD hS => ?_)
  refine xn_call hok dX8_init_108 (cn_X1 l D ids) md_X1_init rfl mi_X1_init lk_X8_55 rfl rfl (Nat.le_of_ble_eq_true rfl) hl.1 (Nat.le_of_ble_eq_true rfl) (Nat.le_of_ble_eq_true rfl) (Nat.le_of_ble_eq_true rfl) (Nat.le_of_ble_eq_true rfl) hP hD hS (fun u10 H locs hP hD hS => ?_)
  refine xn_putR (rt := .object "UnsaidWords$Law") hok hin dX8_init_111 kl_X8 rfl fk_X8_56 (by decide) rfl rfl rfl rfl (Nat.le_of_ble_eq_true rfl) hP hD hS (fun H locs hP hD hS => ?_)
  refine lv_aload_n hx hb dX8_init_114 rfl (lv_at hl 0 rfl) ?_
  refine lv_bipush (v := 8) hx hb dX8_init_115 (by decide) ?_
  refine xn_arr (len := 8) hok hin dX8_init_117 (by decide) (by decide) (Nat.le_of_ble_eq_true rfl) (Nat.le_of_ble_eq_true rfl) (Nat.le_of_ble_eq_true rfl) kl_X8 rfl dX8_init_119 fk_X8_60 (by decide) rfl rfl (Nat.le_of_ble_eq_true rfl) ac_int hP hD hS (fun q11 H locs hP hD hS => ?_)
  have hP2 : va_P D vwCl ((h0, .inr (7, [.int 0, .int 0, .int 0, .ref q1, .ref q2, .ref q3, .ref q4, .ref q5, .ref q6, .ref q7, .ref q8, .ref q9, .ref q10, .ref q11])) :: (q1, .inl (ids.1, 14, .inl (fun _ => 0))) :: (q2, .inl (ids.1, 14, .inl (fun _ => 0))) :: (q3, .inl (ids.1, 100, .inl (fun _ => 0))) :: (((((((([] ++ bk_X0 ids q4 u4) ++ bk_X4_150 ids q5 u5) ++ bk_X4_16 ids q6 u6) ++ bk_X4_12 ids q7 u7) ++ bk_X4_10 ids q8 u8) ++ bk_X2 ids q9 u9) ++ bk_X1 ids q10 u10) ++ [(q11, .inl (ids.1, 8, .inl (fun _ => 0)))])) H := hP
  have hD2 : va_D A ((h0, .inr (7, [.int 0, .int 0, .int 0, .ref q1, .ref q2, .ref q3, .ref q4, .ref q5, .ref q6, .ref q7, .ref q8, .ref q9, .ref q10, .ref q11])) :: (q1, .inl (ids.1, 14, .inl (fun _ => 0))) :: (q2, .inl (ids.1, 14, .inl (fun _ => 0))) :: (q3, .inl (ids.1, 100, .inl (fun _ => 0))) :: (((((((([] ++ bk_X0 ids q4 u4) ++ bk_X4_150 ids q5 u5) ++ bk_X4_16 ids q6 u6) ++ bk_X4_12 ids q7 u7) ++ bk_X4_10 ids q8 u8) ++ bk_X2 ids q9 u9) ++ bk_X1 ids q10 u10) ++ [(q11, .inl (ids.1, 8, .inl (fun _ => 0)))])) := hD
  refine xn_worldLoop hok rfl hP2 hD2 hS hl (fun H locs ls hP hD hS hl => ?_)
  exact W.vret hx hb hr (fun t ht hW => ⟨⟨(q1, q2, q3, q4, u4, q5, u5, q6, u6, q7, u7, q8, u8, q9, u9, q10, u10, q11), rfl, trivial, by rw [ht]; exact hP, va_K.moved hW.alike hK, hD⟩, hS.F ht⟩) hS.2.2 dX8_init_159 hlocks
theorem ol_X3_3 : Cond.methodLink RX3 3 objectInit ∈ xc_T := xc_in2 xt_1 229 rfl rfl
theorem cl_X3_9 : Cond.classLink RX3 9 RX0 ∈ xc_T := xc_in2 xt_1 230 rfl rfl
theorem fk_X3_11 : Cond.fieldLink RX3 11 RX3 (TX3 2).2.1 (TX3 2).2.2.1 ∈ xc_T := xc_in2 xt_1 236 rfl rfl
theorem fk_X3_17 : Cond.fieldLink RX3 17 RX3 (TX3 3).2.1 (TX3 3).2.2.1 ∈ xc_T := xc_in2 xt_1 237 rfl rfl
theorem lk_X3_21 : Cond.methodLink RX3 21 yX0_init ∈ xc_T := xc_in2 xt_1 232 rfl rfl
def bk_X3 (ids : ClassId × ClassId × ClassId × (Nat → Nat) × (Nat → Nat)) (h0 : Nat) (u : (Nat × Nat × Nat × (Nat × Nat × Nat × Nat × Nat) × Nat × (Nat × Nat × Nat × Nat × Nat) × Nat × (Nat × Nat × Nat × Nat × Nat) × Nat × (Nat × Nat × Nat × Nat × Nat) × Nat × (Nat × Nat × Nat × Nat × Nat) × Nat × (Nat × Nat × Nat × Nat × Nat))) : va_W := (h0, .inr (3, [.int 0, .int 0, .ref u.1, .ref u.2.1])) :: (u.1, .inl (ids.2.2.1, 6, .inr (.inr (.inr (.inr (va_up (va_up (va_up (va_up (va_up (va_up (fun _ => none) 0 (some u.2.2.1)) 1 (some u.2.2.2.2.1)) 2 (some u.2.2.2.2.2.2.1)) 3 (some u.2.2.2.2.2.2.2.2.1)) 4 (some u.2.2.2.2.2.2.2.2.2.2.1)) 5 (some u.2.2.2.2.2.2.2.2.2.2.2.2.1))))))) :: (u.2.1, .inl (ids.1, 6, .inl (fun _ => 0))) :: (((((([] ++ bk_X0 ids u.2.2.1 u.2.2.2.1) ++ bk_X0 ids u.2.2.2.2.1 u.2.2.2.2.2.1) ++ bk_X0 ids u.2.2.2.2.2.2.1 u.2.2.2.2.2.2.2.1) ++ bk_X0 ids u.2.2.2.2.2.2.2.2.1 u.2.2.2.2.2.2.2.2.2.1) ++ bk_X0 ids u.2.2.2.2.2.2.2.2.2.2.1 u.2.2.2.2.2.2.2.2.2.2.2.1) ++ bk_X0 ids u.2.2.2.2.2.2.2.2.2.2.2.2.1 u.2.2.2.2.2.2.2.2.2.2.2.2.2)
set_option maxHeartbeats 4000000 in
set_option maxRecDepth 100000 in
theorem cn_X3 (l : Launch) (D : va_G) (ids : ClassId × ClassId × ClassId × (Nat → Nat) × (Nat → Nat)) : xn_Cf l D ids (S := (Nat × Nat × Nat × (Nat × Nat × Nat × Nat × Nat) × Nat × (Nat × Nat × Nat × Nat × Nat) × Nat × (Nat × Nat × Nat × Nat × Nat) × Nat × (Nat × Nat × Nat × Nat × Nat) × Nat × (Nat × Nat × Nat × Nat × Nat) × Nat × (Nat × Nat × Nat × Nat × Nat))) 1 yX3_init cX3_init 2 3 [] [.int 0, .int 0, .null, .null] (bk_X3 ids) 38 408 := by
  intro h0 sz
  refine Met.ofW (cc := cX3_init) (maxL := 2) (ret := none) (by decide) rfl ?_
  intro p e s m args below meth c s₁ B hml hv
  obtain ⟨rfl, hsz, hP, hK, hD0, hAO⟩ := hv
  have hx := B.exec
  have hb := B.bytes
  have hr := B.returns
  have hts := atoms_spec (ws := Cond.code yX3_init cX3_init 2 none :: xc_T) B.pre
  have hlocks := B.notSynchronized
  have hin : meth.name = "<init>" := (name_of_methodNamed B.named B.method).1
  subst hsz
  have hD := hD0.self (sz := s.heap.size)
  generalize hAe : va_A [(h0, (.inr (3, [.int 0, .int 0, .null, .null]) : va_E))] s.heap.size = A at hD ⊢
  have hA : ∀ q : Nat, s.heap.size ≤ q → A q := fun q h => by rw [← hAe]; exact Or.inr h
  have hok : xn_Ok p s m (List.toArray ([.ref h0])) meth c D ids A cX3_init RX3 2 := ⟨hx, hb, hml, findClass_of_methodNamed B.named, fun w hw => hts w (List.mem_cons_of_mem _ hw), hK, hA, hAO⟩
  have hS : va_S A s.heap s.heap [] := va_S.rf
  have hl := lv_entry ([.ref h0]) (n := 2) (Nat.le_of_ble_eq_true rfl)
  rw [lg_entry_eq]
  generalize (lg_sl ([.ref h0]) ++ List.replicate (2 - (lg_sl ([.ref h0])).length) Slot.unset).toArray = ls at hl ⊢
  have hl : lv_has ls 2 [(0, .ref h0)] := hl
  refine lv_aload_n hx hb dX3_init_0 rfl (lv_at hl 0 rfl) ?_
  refine W.objInit hx hb hok.2.2.2.1 (hok.2.2.2.2.1 _ ol_X3_3) (hok.2.2.2.2.1 _ oi_i) (hok.2.2.2.2.1 _ oi_c) rfl (by rw [hml]; exact hl.1) rfl dX3_init_1 (Nat.le_of_ble_eq_true rfl) (Nat.le_of_ble_eq_true rfl) ?_
  refine W.eq (g2 := F0 m 4 ls []) rfl ?_
  refine lv_aload_n hx hb dX3_init_4 rfl (lv_at hl 0 rfl) ?_
  refine lv_bipush (v := 6) hx hb dX3_init_5 (by decide) ?_
  refine xn_arrQ (len := 6) hok hin dX3_init_7 (by decide) (by decide) (Nat.le_of_ble_eq_true rfl) (Nat.le_of_ble_eq_true rfl) (Nat.le_of_ble_eq_true rfl) kl_X3 rfl dX3_init_10 fk_X3_11 (by decide) rfl rfl (Nat.le_of_ble_eq_true rfl) cl_X3_9 hP hD hS (fun q1 H locs hP hD hS => ?_)
  refine lv_aload_n hx hb dX3_init_13 rfl (lv_at hl 0 rfl) ?_
  refine lv_bipush (v := 6) hx hb dX3_init_14 (by decide) ?_
  refine xn_arr (len := 6) hok hin dX3_init_16 (by decide) (by decide) (Nat.le_of_ble_eq_true rfl) (Nat.le_of_ble_eq_true rfl) (Nat.le_of_ble_eq_true rfl) kl_X3 rfl dX3_init_18 fk_X3_17 (by decide) rfl rfl (Nat.le_of_ble_eq_true rfl) ac_int hP hD hS (fun q2 H locs hP hD hS => ?_)
  refine lv_iconst (v := 0) hx hb dX3_init_21 (by decide) ?_
  refine lv_istore_n (lv' := [(1, .int 0), (0, .ref h0)]) hx hb dX3_init_22 rfl hl (by decide) rfl (fun ls hl => ?_)
  refine lv_iload_n hx hb dX3_init_23 rfl (lv_at hl 0 rfl) ?_
  refine lv_bipush (v := 6) hx hb dX3_init_24 (by decide) ?_
  refine lv_icmp_ge (tgt := 48) hx hb dX3_init_26 (by decide) (fun q => absurd q (by decide)) (fun _ => ?_)
  refine lv_aload_n hx hb dX3_init_29 rfl (lv_at hl 1 rfl) ?_
  refine va_get hx hb hok.2.2.2.2.1 kl_X3.2.1 hok.2.2.2.1 hok.2.2.2.2.2.1 hP 0 rfl kl_X3.1 2 (by decide) (hok.2.2.2.2.1 _ fk_X3_11) (by rw [kl_X3.2.2.2.2.2 2 (by decide)]; exact fun _ q => q) rfl dX3_init_30 ?_
  refine lv_iload_n hx hb dX3_init_33 rfl (lv_at hl 0 rfl) ?_
  refine xn_new (fs := [.int 0, .int 0, .int 0, .null, .null, .null, .null, .null]) hok dX3_init_34 kl_X0 cl_X3_9 ci_X0 cz_X0 df_X0 (Nat.le_of_ble_eq_true rfl) (Nat.le_of_ble_eq_true rfl) dX3_init_37 hP hD hS (fun p0 H hP hD hS => ?_)
  refine xn_call hok dX3_init_38 (cn_X0 l D ids) md_X0_init rfl mi_X0_init lk_X3_21 rfl rfl (Nat.le_of_ble_eq_true rfl) hl.1 (Nat.le_of_ble_eq_true rfl) (Nat.le_of_ble_eq_true rfl) (Nat.le_of_ble_eq_true rfl) (Nat.le_of_ble_eq_true rfl) hP hD hS (fun w0 H locs hP hD hS => ?_)
  refine va_astq hx hb hok.2.2.2.2.2.1 hP hD hS 1 2 3 0 rfl rfl rfl rfl (vp_in_nI (n := 0) (by omega) (by omega)) dX3_init_41 (fun H locs hP hD hS => ?_)
  refine lv_iinc (v := 1) (lv' := [(1, .int 1), (0, .ref h0)]) hx hb dX3_init_42 hl (k := 0) rfl (by decide) (by decide) rfl (fun ls hl => ?_)
  refine lv_goto (tgt := 23) hx hb dX3_init_45 (by decide) ?_
  refine lv_iload_n hx hb dX3_init_23 rfl (lv_at hl 0 rfl) ?_
  refine lv_bipush (v := 6) hx hb dX3_init_24 (by decide) ?_
  refine lv_icmp_ge (tgt := 48) hx hb dX3_init_26 (by decide) (fun q => absurd q (by decide)) (fun _ => ?_)
  refine lv_aload_n hx hb dX3_init_29 rfl (lv_at hl 1 rfl) ?_
  refine va_get hx hb hok.2.2.2.2.1 kl_X3.2.1 hok.2.2.2.1 hok.2.2.2.2.2.1 hP 0 rfl kl_X3.1 2 (by decide) (hok.2.2.2.2.1 _ fk_X3_11) (by rw [kl_X3.2.2.2.2.2 2 (by decide)]; exact fun _ q => q) rfl dX3_init_30 ?_
  refine lv_iload_n hx hb dX3_init_33 rfl (lv_at hl 0 rfl) ?_
  refine xn_new (fs := [.int 0, .int 0, .int 0, .null, .null, .null, .null, .null]) hok dX3_init_34 kl_X0 cl_X3_9 ci_X0 cz_X0 df_X0 (Nat.le_of_ble_eq_true rfl) (Nat.le_of_ble_eq_true rfl) dX3_init_37 hP hD hS (fun p1 H hP hD hS => ?_)
  refine xn_call hok dX3_init_38 (cn_X0 l D ids) md_X0_init rfl mi_X0_init lk_X3_21 rfl rfl (Nat.le_of_ble_eq_true rfl) hl.1 (Nat.le_of_ble_eq_true rfl) (Nat.le_of_ble_eq_true rfl) (Nat.le_of_ble_eq_true rfl) (Nat.le_of_ble_eq_true rfl) hP hD hS (fun w1 H locs hP hD hS => ?_)
  refine va_astq hx hb hok.2.2.2.2.2.1 hP hD hS 1 2 9 0 rfl rfl rfl rfl (vp_in_nI (n := 1) (by omega) (by omega)) dX3_init_41 (fun H locs hP hD hS => ?_)
  refine lv_iinc (v := 2) (lv' := [(1, .int 2), (0, .ref h0)]) hx hb dX3_init_42 hl (k := 0) rfl (by decide) (by decide) rfl (fun ls hl => ?_)
  refine lv_goto (tgt := 23) hx hb dX3_init_45 (by decide) ?_
  refine lv_iload_n hx hb dX3_init_23 rfl (lv_at hl 0 rfl) ?_
  refine lv_bipush (v := 6) hx hb dX3_init_24 (by decide) ?_
  refine lv_icmp_ge (tgt := 48) hx hb dX3_init_26 (by decide) (fun q => absurd q (by decide)) (fun _ => ?_)
  refine lv_aload_n hx hb dX3_init_29 rfl (lv_at hl 1 rfl) ?_
  refine va_get hx hb hok.2.2.2.2.1 kl_X3.2.1 hok.2.2.2.1 hok.2.2.2.2.2.1 hP 0 rfl kl_X3.1 2 (by decide) (hok.2.2.2.2.1 _ fk_X3_11) (by rw [kl_X3.2.2.2.2.2 2 (by decide)]; exact fun _ q => q) rfl dX3_init_30 ?_
  refine lv_iload_n hx hb dX3_init_33 rfl (lv_at hl 0 rfl) ?_
  refine xn_new (fs := [.int 0, .int 0, .int 0, .null, .null, .null, .null, .null]) hok dX3_init_34 kl_X0 cl_X3_9 ci_X0 cz_X0 df_X0 (Nat.le_of_ble_eq_true rfl) (Nat.le_of_ble_eq_true rfl) dX3_init_37 hP hD hS (fun p2 H hP hD hS => ?_)
  refine xn_call hok dX3_init_38 (cn_X0 l D ids) md_X0_init rfl mi_X0_init lk_X3_21 rfl rfl (Nat.le_of_ble_eq_true rfl) hl.1 (Nat.le_of_ble_eq_true rfl) (Nat.le_of_ble_eq_true rfl) (Nat.le_of_ble_eq_true rfl) (Nat.le_of_ble_eq_true rfl) hP hD hS (fun w2 H locs hP hD hS => ?_)
  refine va_astq hx hb hok.2.2.2.2.2.1 hP hD hS 1 2 15 0 rfl rfl rfl rfl (vp_in_nI (n := 2) (by omega) (by omega)) dX3_init_41 (fun H locs hP hD hS => ?_)
  refine lv_iinc (v := 3) (lv' := [(1, .int 3), (0, .ref h0)]) hx hb dX3_init_42 hl (k := 0) rfl (by decide) (by decide) rfl (fun ls hl => ?_)
  refine lv_goto (tgt := 23) hx hb dX3_init_45 (by decide) ?_
  refine lv_iload_n hx hb dX3_init_23 rfl (lv_at hl 0 rfl) ?_
  refine lv_bipush (v := 6) hx hb dX3_init_24 (by decide) ?_
  refine lv_icmp_ge (tgt := 48) hx hb dX3_init_26 (by decide) (fun q => absurd q (by decide)) (fun _ => ?_)
  refine lv_aload_n hx hb dX3_init_29 rfl (lv_at hl 1 rfl) ?_
  refine va_get hx hb hok.2.2.2.2.1 kl_X3.2.1 hok.2.2.2.1 hok.2.2.2.2.2.1 hP 0 rfl kl_X3.1 2 (by decide) (hok.2.2.2.2.1 _ fk_X3_11) (by rw [kl_X3.2.2.2.2.2 2 (by decide)]; exact fun _ q => q) rfl dX3_init_30 ?_
  refine lv_iload_n hx hb dX3_init_33 rfl (lv_at hl 0 rfl) ?_
  refine xn_new (fs := [.int 0, .int 0, .int 0, .null, .null, .null, .null, .null]) hok dX3_init_34 kl_X0 cl_X3_9 ci_X0 cz_X0 df_X0 (Nat.le_of_ble_eq_true rfl) (Nat.le_of_ble_eq_true rfl) dX3_init_37 hP hD hS (fun p3 H hP hD hS => ?_)
  refine xn_call hok dX3_init_38 (cn_X0 l D ids) md_X0_init rfl mi_X0_init lk_X3_21 rfl rfl (Nat.le_of_ble_eq_true rfl) hl.1 (Nat.le_of_ble_eq_true rfl) (Nat.le_of_ble_eq_true rfl) (Nat.le_of_ble_eq_true rfl) (Nat.le_of_ble_eq_true rfl) hP hD hS (fun w3 H locs hP hD hS => ?_)
  refine va_astq hx hb hok.2.2.2.2.2.1 hP hD hS 1 2 21 0 rfl rfl rfl rfl (vp_in_nI (n := 3) (by omega) (by omega)) dX3_init_41 (fun H locs hP hD hS => ?_)
  refine lv_iinc (v := 4) (lv' := [(1, .int 4), (0, .ref h0)]) hx hb dX3_init_42 hl (k := 0) rfl (by decide) (by decide) rfl (fun ls hl => ?_)
  refine lv_goto (tgt := 23) hx hb dX3_init_45 (by decide) ?_
  refine lv_iload_n hx hb dX3_init_23 rfl (lv_at hl 0 rfl) ?_
  refine lv_bipush (v := 6) hx hb dX3_init_24 (by decide) ?_
  refine lv_icmp_ge (tgt := 48) hx hb dX3_init_26 (by decide) (fun q => absurd q (by decide)) (fun _ => ?_)
  refine lv_aload_n hx hb dX3_init_29 rfl (lv_at hl 1 rfl) ?_
  refine va_get hx hb hok.2.2.2.2.1 kl_X3.2.1 hok.2.2.2.1 hok.2.2.2.2.2.1 hP 0 rfl kl_X3.1 2 (by decide) (hok.2.2.2.2.1 _ fk_X3_11) (by rw [kl_X3.2.2.2.2.2 2 (by decide)]; exact fun _ q => q) rfl dX3_init_30 ?_
  refine lv_iload_n hx hb dX3_init_33 rfl (lv_at hl 0 rfl) ?_
  refine xn_new (fs := [.int 0, .int 0, .int 0, .null, .null, .null, .null, .null]) hok dX3_init_34 kl_X0 cl_X3_9 ci_X0 cz_X0 df_X0 (Nat.le_of_ble_eq_true rfl) (Nat.le_of_ble_eq_true rfl) dX3_init_37 hP hD hS (fun p4 H hP hD hS => ?_)
  refine xn_call hok dX3_init_38 (cn_X0 l D ids) md_X0_init rfl mi_X0_init lk_X3_21 rfl rfl (Nat.le_of_ble_eq_true rfl) hl.1 (Nat.le_of_ble_eq_true rfl) (Nat.le_of_ble_eq_true rfl) (Nat.le_of_ble_eq_true rfl) (Nat.le_of_ble_eq_true rfl) hP hD hS (fun w4 H locs hP hD hS => ?_)
  refine va_astq hx hb hok.2.2.2.2.2.1 hP hD hS 1 2 27 0 rfl rfl rfl rfl (vp_in_nI (n := 4) (by omega) (by omega)) dX3_init_41 (fun H locs hP hD hS => ?_)
  refine lv_iinc (v := 5) (lv' := [(1, .int 5), (0, .ref h0)]) hx hb dX3_init_42 hl (k := 0) rfl (by decide) (by decide) rfl (fun ls hl => ?_)
  refine lv_goto (tgt := 23) hx hb dX3_init_45 (by decide) ?_
  refine lv_iload_n hx hb dX3_init_23 rfl (lv_at hl 0 rfl) ?_
  refine lv_bipush (v := 6) hx hb dX3_init_24 (by decide) ?_
  refine lv_icmp_ge (tgt := 48) hx hb dX3_init_26 (by decide) (fun q => absurd q (by decide)) (fun _ => ?_)
  refine lv_aload_n hx hb dX3_init_29 rfl (lv_at hl 1 rfl) ?_
  refine va_get hx hb hok.2.2.2.2.1 kl_X3.2.1 hok.2.2.2.1 hok.2.2.2.2.2.1 hP 0 rfl kl_X3.1 2 (by decide) (hok.2.2.2.2.1 _ fk_X3_11) (by rw [kl_X3.2.2.2.2.2 2 (by decide)]; exact fun _ q => q) rfl dX3_init_30 ?_
  refine lv_iload_n hx hb dX3_init_33 rfl (lv_at hl 0 rfl) ?_
  refine xn_new (fs := [.int 0, .int 0, .int 0, .null, .null, .null, .null, .null]) hok dX3_init_34 kl_X0 cl_X3_9 ci_X0 cz_X0 df_X0 (Nat.le_of_ble_eq_true rfl) (Nat.le_of_ble_eq_true rfl) dX3_init_37 hP hD hS (fun p5 H hP hD hS => ?_)
  refine xn_call hok dX3_init_38 (cn_X0 l D ids) md_X0_init rfl mi_X0_init lk_X3_21 rfl rfl (Nat.le_of_ble_eq_true rfl) hl.1 (Nat.le_of_ble_eq_true rfl) (Nat.le_of_ble_eq_true rfl) (Nat.le_of_ble_eq_true rfl) (Nat.le_of_ble_eq_true rfl) hP hD hS (fun w5 H locs hP hD hS => ?_)
  refine va_astq hx hb hok.2.2.2.2.2.1 hP hD hS 1 2 33 0 rfl rfl rfl rfl (vp_in_nI (n := 5) (by omega) (by omega)) dX3_init_41 (fun H locs hP hD hS => ?_)
  refine lv_iinc (v := 6) (lv' := [(1, .int 6), (0, .ref h0)]) hx hb dX3_init_42 hl (k := 0) rfl (by decide) (by decide) rfl (fun ls hl => ?_)
  refine lv_goto (tgt := 23) hx hb dX3_init_45 (by decide) ?_
  refine lv_iload_n hx hb dX3_init_23 rfl (lv_at hl 0 rfl) ?_
  refine lv_bipush (v := 6) hx hb dX3_init_24 (by decide) ?_
  refine lv_icmp_ge (tgt := 48) hx hb dX3_init_26 (by decide) (fun _ => ?_) (fun q => absurd (by decide) q)
  exact W.vret hx hb hr (fun t ht hW => ⟨⟨(q1, q2, p0, w0, p1, w1, p2, w2, p3, w3, p4, w4, p5, w5), rfl, trivial, by rw [ht]; exact hP, va_K.moved hW.alike hK, hD⟩, hS.F ht⟩) hS.2.2 dX3_init_48 hlocks
theorem ol_X9_3 : Cond.methodLink RX9 3 objectInit ∈ xc_T := xc_in2 xt_1 28 rfl rfl
theorem cl_X9_9 : Cond.classLink RX9 9 RX8 ∈ xc_T := xc_in2 xt_1 31 rfl rfl
theorem ci_X8 : Cond.instantiable RX8 14 ∈ xc_T := xc_in2 xt_1 32 rfl rfl
theorem cz_X8 : Cond.initialized RX8 ∈ xc_T := xc_in2 xt_1 2 rfl rfl
theorem df_X8 : ∀ j, j < 14 → defaultValue (tyX8 j) = vp_V [.int 0, .int 0, .int 0, .null, .null, .null, .null, .null, .null, .null, .null, .null, .null, .null] j := fun j hj => by
  match j, hj with
  | 0, _ => rfl
  | 1, _ => rfl
  | 2, _ => rfl
  | 3, _ => rfl
  | 4, _ => rfl
  | 5, _ => rfl
  | 6, _ => rfl
  | 7, _ => rfl
  | 8, _ => rfl
  | 9, _ => rfl
  | 10, _ => rfl
  | 11, _ => rfl
  | 12, _ => rfl
  | 13, _ => rfl
  | k + 14, hj => omega
theorem md_X8_init : xc_Md yX8_init cX8_init 2 none 0 := ⟨xc_in2 xt_1 35 rfl rfl, xc_in2 xt_1 2 rfl rfl, by decide +kernel, by decide⟩
theorem mi_X8_init : Cond.instanceMethod yX8_init ∈ xc_T := xc_in2 xt_1 34 rfl rfl
theorem lk_X9_11 : Cond.methodLink RX9 11 yX8_init ∈ xc_T := xc_in2 xt_1 33 rfl rfl
theorem fk_X9_12 : Cond.fieldLink RX9 12 RX9 (TX9 0).2.1 (TX9 0).2.2.1 ∈ xc_T := xc_in2 xt_2 54 rfl rfl
theorem fk_X9_16 : Cond.fieldLink RX9 16 RX9 (TX9 1).2.1 (TX9 1).2.2.1 ∈ xc_T := xc_in2 xt_2 55 rfl rfl
theorem fk_X9_19 : Cond.fieldLink RX9 19 RX9 (TX9 2).2.1 (TX9 2).2.2.1 ∈ xc_T := xc_in2 xt_2 56 rfl rfl
theorem cl_X9_22 : Cond.classLink RX9 22 RX3 ∈ xc_T := xc_in2 xt_1 224 rfl rfl
theorem ci_X3 : Cond.instantiable RX3 4 ∈ xc_T := xc_in2 xt_1 225 rfl rfl
theorem cz_X3 : Cond.initialized RX3 ∈ xc_T := xc_in2 xt_1 8 rfl rfl
theorem df_X3 : ∀ j, j < 4 → defaultValue (tyX3 j) = vp_V [.int 0, .int 0, .null, .null] j := fun j hj => by
  match j, hj with
  | 0, _ => rfl
  | 1, _ => rfl
  | 2, _ => rfl
  | 3, _ => rfl
  | k + 4, hj => omega
theorem md_X3_init : xc_Md yX3_init cX3_init 2 none 0 := ⟨xc_in2 xt_1 228 rfl rfl, xc_in2 xt_1 8 rfl rfl, by decide +kernel, by decide⟩
theorem mi_X3_init : Cond.instanceMethod yX3_init ∈ xc_T := xc_in2 xt_1 227 rfl rfl
theorem lk_X9_24 : Cond.methodLink RX9 24 yX3_init ∈ xc_T := xc_in2 xt_1 226 rfl rfl
theorem fk_X9_25 : Cond.fieldLink RX9 25 RX9 (TX9 3).2.1 (TX9 3).2.2.1 ∈ xc_T := xc_in2 xt_2 57 rfl rfl
theorem cl_X9_29 : Cond.classLink RX9 29 RX5 ∈ xc_T := xc_in2 xt_2 7 rfl rfl
theorem ci_X5 : Cond.instantiable RX5 2 ∈ xc_T := xc_in2 xt_2 8 rfl rfl
theorem cz_X5 : Cond.initialized RX5 ∈ xc_T := xc_in2 xt_1 9 rfl rfl
theorem df_X5 : ∀ j, j < 2 → defaultValue (tyX5 j) = vp_V [.int 0, .null] j := fun j hj => by
  match j, hj with
  | 0, _ => rfl
  | 1, _ => rfl
  | k + 2, hj => omega
theorem md_X5_init : xc_Md yX5_init cX5_init 1 none 0 := ⟨xc_in2 xt_2 11 rfl rfl, xc_in2 xt_1 9 rfl rfl, by decide +kernel, by decide⟩
theorem mi_X5_init : Cond.instanceMethod yX5_init ∈ xc_T := xc_in2 xt_2 10 rfl rfl
theorem lk_X9_31 : Cond.methodLink RX9 31 yX5_init ∈ xc_T := xc_in2 xt_2 9 rfl rfl
theorem fk_X9_32 : Cond.fieldLink RX9 32 RX9 (TX9 4).2.1 (TX9 4).2.2.1 ∈ xc_T := xc_in2 xt_2 58 rfl rfl
theorem cl_X9_36 : Cond.classLink RX9 36 RX6 ∈ xc_T := xc_in2 xt_2 23 rfl rfl
theorem ci_X6 : Cond.instantiable RX6 8 ∈ xc_T := xc_in2 xt_2 24 rfl rfl
theorem cz_X6 : Cond.initialized RX6 ∈ xc_T := xc_in2 xt_1 10 rfl rfl
theorem df_X6 : ∀ j, j < 8 → defaultValue (tyX6 j) = vp_V [.int 0, .int 0, .int 0, .int 0, .null, .null, .null, .int 0] j := fun j hj => by
  match j, hj with
  | 0, _ => rfl
  | 1, _ => rfl
  | 2, _ => rfl
  | 3, _ => rfl
  | 4, _ => rfl
  | 5, _ => rfl
  | 6, _ => rfl
  | 7, _ => rfl
  | k + 8, hj => omega
theorem md_X6_init : xc_Md yX6_init cX6_init 1 none 0 := ⟨xc_in2 xt_2 27 rfl rfl, xc_in2 xt_1 10 rfl rfl, by decide +kernel, by decide⟩
theorem mi_X6_init : Cond.instanceMethod yX6_init ∈ xc_T := xc_in2 xt_2 26 rfl rfl
theorem lk_X9_38 : Cond.methodLink RX9 38 yX6_init ∈ xc_T := xc_in2 xt_2 25 rfl rfl
theorem fk_X9_39 : Cond.fieldLink RX9 39 RX9 (TX9 5).2.1 (TX9 5).2.2.1 ∈ xc_T := xc_in2 xt_2 59 rfl rfl
theorem fk_X9_43 : Cond.fieldLink RX9 43 RX9 (TX9 6).2.1 (TX9 6).2.2.1 ∈ xc_T := xc_in2 xt_2 60 rfl rfl
def bk_X9 (ids : ClassId × ClassId × ClassId × (Nat → Nat) × (Nat → Nat)) (h0 : Nat) (u : (Nat × (Nat × Nat × Nat × Nat × (Nat × Nat × Nat × Nat × Nat) × Nat × Nat × Nat × Nat × Nat × Nat × Nat × Nat × Nat × (Nat × Nat × Nat) × Nat × (Nat × Nat × Nat × Nat × Nat × Nat) × Nat) × Nat × (Nat × Nat × Nat × Nat × (Nat × Nat × Nat × Nat × Nat) × Nat × Nat × Nat × Nat × Nat × Nat × Nat × Nat × Nat × (Nat × Nat × Nat) × Nat × (Nat × Nat × Nat × Nat × Nat × Nat) × Nat) × Nat × (Nat × Nat × Nat × Nat × (Nat × Nat × Nat × Nat × Nat) × Nat × Nat × Nat × Nat × Nat × Nat × Nat × Nat × Nat × (Nat × Nat × Nat) × Nat × (Nat × Nat × Nat × Nat × Nat × Nat) × Nat) × Nat × (Nat × Nat × Nat × (Nat × Nat × Nat × Nat × Nat) × Nat × (Nat × Nat × Nat × Nat × Nat) × Nat × (Nat × Nat × Nat × Nat × Nat) × Nat × (Nat × Nat × Nat × Nat × Nat) × Nat × (Nat × Nat × Nat × Nat × Nat) × Nat × (Nat × Nat × Nat × Nat × Nat)) × Nat × Nat × Nat × (Nat × Nat × Nat))) : va_W := (h0, .inr (8, [.ref u.1, .ref u.2.2.1, .ref u.2.2.2.2.1, .ref u.2.2.2.2.2.2.1, .ref u.2.2.2.2.2.2.2.2.1, .ref u.2.2.2.2.2.2.2.2.2.2.1, .int 0])) :: (((((([] ++ bk_X8 ids u.1 u.2.1) ++ bk_X8 ids u.2.2.1 u.2.2.2.1) ++ bk_X8 ids u.2.2.2.2.1 u.2.2.2.2.2.1) ++ bk_X3 ids u.2.2.2.2.2.2.1 u.2.2.2.2.2.2.2.1) ++ bk_X5 ids u.2.2.2.2.2.2.2.2.1 u.2.2.2.2.2.2.2.2.2.1) ++ bk_X6 ids u.2.2.2.2.2.2.2.2.2.2.1 u.2.2.2.2.2.2.2.2.2.2.2)
set_option maxHeartbeats 4000000 in
set_option maxRecDepth 100000 in
theorem cn_X9 (l : Launch) (D : va_G) (ids : ClassId × ClassId × ClassId × (Nat → Nat) × (Nat → Nat)) : xn_Cf l D ids (S := (Nat × (Nat × Nat × Nat × Nat × (Nat × Nat × Nat × Nat × Nat) × Nat × Nat × Nat × Nat × Nat × Nat × Nat × Nat × Nat × (Nat × Nat × Nat) × Nat × (Nat × Nat × Nat × Nat × Nat × Nat) × Nat) × Nat × (Nat × Nat × Nat × Nat × (Nat × Nat × Nat × Nat × Nat) × Nat × Nat × Nat × Nat × Nat × Nat × Nat × Nat × Nat × (Nat × Nat × Nat) × Nat × (Nat × Nat × Nat × Nat × Nat × Nat) × Nat) × Nat × (Nat × Nat × Nat × Nat × (Nat × Nat × Nat × Nat × Nat) × Nat × Nat × Nat × Nat × Nat × Nat × Nat × Nat × Nat × (Nat × Nat × Nat) × Nat × (Nat × Nat × Nat × Nat × Nat × Nat) × Nat) × Nat × (Nat × Nat × Nat × (Nat × Nat × Nat × Nat × Nat) × Nat × (Nat × Nat × Nat × Nat × Nat) × Nat × (Nat × Nat × Nat × Nat × Nat) × Nat × (Nat × Nat × Nat × Nat × Nat) × Nat × (Nat × Nat × Nat × Nat × Nat) × Nat × (Nat × Nat × Nat × Nat × Nat)) × Nat × Nat × Nat × (Nat × Nat × Nat))) 2 yX9_init cX9_init 1 8 [] [.null, .null, .null, .null, .null, .null, .int 0] (bk_X9 ids) 135 6867 := by
  intro h0 sz
  refine Met.ofW (cc := cX9_init) (maxL := 1) (ret := none) (by decide) rfl ?_
  intro p e s m args below meth c s₁ B hml hv
  obtain ⟨rfl, hsz, hP, hK, hD0, hAO⟩ := hv
  have hx := B.exec
  have hb := B.bytes
  have hr := B.returns
  have hts := atoms_spec (ws := Cond.code yX9_init cX9_init 1 none :: xc_T) B.pre
  have hlocks := B.notSynchronized
  have hin : meth.name = "<init>" := (name_of_methodNamed B.named B.method).1
  subst hsz
  have hD := hD0.self (sz := s.heap.size)
  generalize hAe : va_A [(h0, (.inr (8, [.null, .null, .null, .null, .null, .null, .int 0]) : va_E))] s.heap.size = A at hD ⊢
  have hA : ∀ q : Nat, s.heap.size ≤ q → A q := fun q h => by rw [← hAe]; exact Or.inr h
  have hok : xn_Ok p s m (List.toArray ([.ref h0])) meth c D ids A cX9_init RX9 1 := ⟨hx, hb, hml, findClass_of_methodNamed B.named, fun w hw => hts w (List.mem_cons_of_mem _ hw), hK, hA, hAO⟩
  have hS : va_S A s.heap s.heap [] := va_S.rf
  have hl := lv_entry ([.ref h0]) (n := 1) (Nat.le_of_ble_eq_true rfl)
  rw [lg_entry_eq]
  generalize (lg_sl ([.ref h0]) ++ List.replicate (1 - (lg_sl ([.ref h0])).length) Slot.unset).toArray = ls at hl ⊢
  have hl : lv_has ls 1 [(0, .ref h0)] := hl
  refine lv_aload_n hx hb dX9_init_0 rfl (lv_at hl 0 rfl) ?_
  refine W.objInit hx hb hok.2.2.2.1 (hok.2.2.2.2.1 _ ol_X9_3) (hok.2.2.2.2.1 _ oi_i) (hok.2.2.2.2.1 _ oi_c) rfl (by rw [hml]; exact hl.1) rfl dX9_init_1 (Nat.le_of_ble_eq_true rfl) (Nat.le_of_ble_eq_true rfl) ?_
  refine W.eq (g2 := F0 m 4 ls []) rfl ?_
  refine lv_aload_n hx hb dX9_init_4 rfl (lv_at hl 0 rfl) ?_
  refine xn_new (fs := [.int 0, .int 0, .int 0, .null, .null, .null, .null, .null, .null, .null, .null, .null, .null, .null]) hok dX9_init_5 kl_X8 cl_X9_9 ci_X8 cz_X8 df_X8 (Nat.le_of_ble_eq_true rfl) (Nat.le_of_ble_eq_true rfl) dX9_init_8 hP hD hS (fun q1 H hP hD hS => ?_)
  refine xn_call hok dX9_init_9 (cn_X8 l D ids) md_X8_init rfl mi_X8_init lk_X9_11 rfl rfl (Nat.le_of_ble_eq_true rfl) hl.1 (Nat.le_of_ble_eq_true rfl) (Nat.le_of_ble_eq_true rfl) (Nat.le_of_ble_eq_true rfl) (Nat.le_of_ble_eq_true rfl) hP hD hS (fun u1 H locs hP hD hS => ?_)
  refine xn_putR (rt := .object "UnsaidWords$World") hok hin dX9_init_12 kl_X9 rfl fk_X9_12 (by decide) rfl rfl rfl rfl (Nat.le_of_ble_eq_true rfl) hP hD hS (fun H locs hP hD hS => ?_)
  refine lv_aload_n hx hb dX9_init_15 rfl (lv_at hl 0 rfl) ?_
  refine xn_new (fs := [.int 0, .int 0, .int 0, .null, .null, .null, .null, .null, .null, .null, .null, .null, .null, .null]) hok dX9_init_16 kl_X8 cl_X9_9 ci_X8 cz_X8 df_X8 (Nat.le_of_ble_eq_true rfl) (Nat.le_of_ble_eq_true rfl) dX9_init_19 hP hD hS (fun q2 H hP hD hS => ?_)
  refine xn_call hok dX9_init_20 (cn_X8 l D ids) md_X8_init rfl mi_X8_init lk_X9_11 rfl rfl (Nat.le_of_ble_eq_true rfl) hl.1 (Nat.le_of_ble_eq_true rfl) (Nat.le_of_ble_eq_true rfl) (Nat.le_of_ble_eq_true rfl) (Nat.le_of_ble_eq_true rfl) hP hD hS (fun u2 H locs hP hD hS => ?_)
  refine xn_putR (rt := .object "UnsaidWords$World") hok hin dX9_init_23 kl_X9 rfl fk_X9_16 (by decide) rfl rfl rfl rfl (Nat.le_of_ble_eq_true rfl) hP hD hS (fun H locs hP hD hS => ?_)
  refine lv_aload_n hx hb dX9_init_26 rfl (lv_at hl 0 rfl) ?_
  refine xn_new (fs := [.int 0, .int 0, .int 0, .null, .null, .null, .null, .null, .null, .null, .null, .null, .null, .null]) hok dX9_init_27 kl_X8 cl_X9_9 ci_X8 cz_X8 df_X8 (Nat.le_of_ble_eq_true rfl) (Nat.le_of_ble_eq_true rfl) dX9_init_30 hP hD hS (fun q3 H hP hD hS => ?_)
  refine xn_call hok dX9_init_31 (cn_X8 l D ids) md_X8_init rfl mi_X8_init lk_X9_11 rfl rfl (Nat.le_of_ble_eq_true rfl) hl.1 (Nat.le_of_ble_eq_true rfl) (Nat.le_of_ble_eq_true rfl) (Nat.le_of_ble_eq_true rfl) (Nat.le_of_ble_eq_true rfl) hP hD hS (fun u3 H locs hP hD hS => ?_)
  refine xn_putR (rt := .object "UnsaidWords$World") hok hin dX9_init_34 kl_X9 rfl fk_X9_19 (by decide) rfl rfl rfl rfl (Nat.le_of_ble_eq_true rfl) hP hD hS (fun H locs hP hD hS => ?_)
  refine lv_aload_n hx hb dX9_init_37 rfl (lv_at hl 0 rfl) ?_
  refine xn_new (fs := [.int 0, .int 0, .null, .null]) hok dX9_init_38 kl_X3 cl_X9_22 ci_X3 cz_X3 df_X3 (Nat.le_of_ble_eq_true rfl) (Nat.le_of_ble_eq_true rfl) dX9_init_41 hP hD hS (fun q4 H hP hD hS => ?_)
  refine xn_call hok dX9_init_42 (cn_X3 l D ids) md_X3_init rfl mi_X3_init lk_X9_24 rfl rfl (Nat.le_of_ble_eq_true rfl) hl.1 (Nat.le_of_ble_eq_true rfl) (Nat.le_of_ble_eq_true rfl) (Nat.le_of_ble_eq_true rfl) (Nat.le_of_ble_eq_true rfl) hP hD hS (fun u4 H locs hP hD hS => ?_)
  refine xn_putR (rt := .object "UnsaidWords$Past") hok hin dX9_init_45 kl_X9 rfl fk_X9_25 (by decide) rfl rfl rfl rfl (Nat.le_of_ble_eq_true rfl) hP hD hS (fun H locs hP hD hS => ?_)
  refine lv_aload_n hx hb dX9_init_48 rfl (lv_at hl 0 rfl) ?_
  refine xn_new (fs := [.int 0, .null]) hok dX9_init_49 kl_X5 cl_X9_29 ci_X5 cz_X5 df_X5 (Nat.le_of_ble_eq_true rfl) (Nat.le_of_ble_eq_true rfl) dX9_init_52 hP hD hS (fun q5 H hP hD hS => ?_)
  refine xn_call hok dX9_init_53 (cn_X5 l D ids) md_X5_init rfl mi_X5_init lk_X9_31 rfl rfl (Nat.le_of_ble_eq_true rfl) hl.1 (Nat.le_of_ble_eq_true rfl) (Nat.le_of_ble_eq_true rfl) (Nat.le_of_ble_eq_true rfl) (Nat.le_of_ble_eq_true rfl) hP hD hS (fun u5 H locs hP hD hS => ?_)
  refine xn_putR (rt := .object "UnsaidWords$Tape") hok hin dX9_init_56 kl_X9 rfl fk_X9_32 (by decide) rfl rfl rfl rfl (Nat.le_of_ble_eq_true rfl) hP hD hS (fun H locs hP hD hS => ?_)
  refine lv_aload_n hx hb dX9_init_59 rfl (lv_at hl 0 rfl) ?_
  refine xn_new (fs := [.int 0, .int 0, .int 0, .int 0, .null, .null, .null, .int 0]) hok dX9_init_60 kl_X6 cl_X9_36 ci_X6 cz_X6 df_X6 (Nat.le_of_ble_eq_true rfl) (Nat.le_of_ble_eq_true rfl) dX9_init_63 hP hD hS (fun q6 H hP hD hS => ?_)
  refine xn_call hok dX9_init_64 (cn_X6 l D ids) md_X6_init rfl mi_X6_init lk_X9_38 rfl rfl (Nat.le_of_ble_eq_true rfl) hl.1 (Nat.le_of_ble_eq_true rfl) (Nat.le_of_ble_eq_true rfl) (Nat.le_of_ble_eq_true rfl) (Nat.le_of_ble_eq_true rfl) hP hD hS (fun u6 H locs hP hD hS => ?_)
  refine xn_putR (rt := .object "UnsaidWords$Texts") hok hin dX9_init_67 kl_X9 rfl fk_X9_39 (by decide) rfl rfl rfl rfl (Nat.le_of_ble_eq_true rfl) hP hD hS (fun H locs hP hD hS => ?_)
  refine lv_aload_n hx hb dX9_init_70 rfl (lv_at hl 0 rfl) ?_
  refine lv_iconst (v := 0) hx hb dX9_init_71 (by decide) ?_
  refine xn_putI (v := 0) (rt := .boolean) hok dX9_init_72 kl_X9 fk_X9_43 (by decide) rfl rfl rfl rfl (Nat.le_of_ble_eq_true rfl) hP hD hS (fun H locs hP hD hS => ?_)
  exact W.vret hx hb hr (fun t ht hW => ⟨⟨(q1, u1, q2, u2, q3, u3, q4, u4, q5, u5, q6, u6), rfl, trivial, by rw [ht]; exact hP, va_K.moved hW.alike hK, hD⟩, hS.F ht⟩) hS.2.2 dX9_init_75 hlocks
