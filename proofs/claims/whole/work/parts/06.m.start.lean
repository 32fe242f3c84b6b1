-- ===== the law from its entry: the premises, the two objects =====
theorem clL_X9 : Cond.classLink R_law 7 RX9 ∈ xc_T := xc_in2 xt_1 20 rfl rfl
theorem clL_X10 : Cond.classLink R_law 10 RX10 ∈ xc_T := xc_in2 xt_5 101 rfl rfl
theorem ciL_X9 : Cond.instantiable RX9 7 ∈ xc_T := xc_in2 xt_1 21 rfl rfl
theorem ciL_X10 : Cond.instantiable RX10 36 ∈ xc_T := xc_in2 xt_5 102 rfl rfl
theorem czL_X9 : Cond.initialized RX9 ∈ xc_T := xc_in2 xt_1 1 rfl rfl
theorem czL_X10 : Cond.initialized RX10 ∈ xc_T := xc_in2 xt_1 11 rfl rfl
theorem lkL_X9 : Cond.methodLink R_law 9 yX9_init ∈ xc_T := xc_in2 xt_1 22 rfl rfl
theorem lkL_X10 : Cond.methodLink R_law 12 yX10_init ∈ xc_T := xc_in2 xt_5 103 rfl rfl
theorem miL_X9 : Cond.instanceMethod yX9_init ∈ xc_T := xc_in2 xt_1 23 rfl rfl
theorem miL_X10 : Cond.instanceMethod yX10_init ∈ xc_T := xc_in2 xt_5 104 rfl rfl
theorem mdL_X9 : xc_Md yX9_init cX9_init 1 none 0 := ⟨xc_in2 xt_1 24 rfl rfl, xc_in2 xt_1 1 rfl rfl, by decide +kernel, by decide⟩
theorem mdL_X10 : xc_Md yX10_init cX10_init 3 none 0 := ⟨xc_in2 xt_5 105 rfl rfl, xc_in2 xt_1 11 rfl rfl, by decide +kernel, by decide⟩
theorem dfL_X9 : ∀ j, j < 7 → defaultValue (tyX9 j) = vp_V [.null, .null, .null, .null, .null, .null, .int 0] j := fun j hj => by
  match j, hj with
  | 0, _ => rfl
  | 1, _ => rfl
  | 2, _ => rfl
  | 3, _ => rfl
  | 4, _ => rfl
  | 5, _ => rfl
  | 6, _ => rfl
  | k + 7, hj => omega
theorem dfL_X10 : ∀ j, j < 36 → defaultValue (tyX10 j) = vp_V [.null, .null, .null, .null, .int 0, .int 0, .null, .null, .null, .null, .null, .null, .null, .null, .int 0, .int 0, .int 0, .int 0, .int 0, .int 0, .int 0, .int 0, .int 0, .int 0, .int 0, .int 0, .int 0, .int 0, .int 0, .int 0, .int 0, .int 0, .null, .null, .null, .int 0] j := fun j hj => by
  match j, hj with
  | 0, _ => rfl
  | 1, _ => rfl
  | 2, _ => rfl
  | 3, _ => rfl
  | 4, _ => rfl
  | 5, _ => rfl
  | 6, _ => rfl
  | 7, _ => rfl
  | 8, _ => rfl
  | 9, _ => rfl
  | 10, _ => rfl
  | 11, _ => rfl
  | 12, _ => rfl
  | 13, _ => rfl
  | 14, _ => rfl
  | 15, _ => rfl
  | 16, _ => rfl
  | 17, _ => rfl
  | 18, _ => rfl
  | 19, _ => rfl
  | 20, _ => rfl
  | 21, _ => rfl
  | 22, _ => rfl
  | 23, _ => rfl
  | 24, _ => rfl
  | 25, _ => rfl
  | 26, _ => rfl
  | 27, _ => rfl
  | 28, _ => rfl
  | 29, _ => rfl
  | 30, _ => rfl
  | 31, _ => rfl
  | 32, _ => rfl
  | 33, _ => rfl
  | 34, _ => rfl
  | 35, _ => rfl
  | k + 36, hj => omega
def xv_F : List Cond := flatC (Jvm.Cond.and given_1 narrow_1)
def xv_p : List Nat := [9, 122, 137, 148, 157, 169, 181, 194, 209, 225, 242, 260, 279, 301, 322, 343, 367, 389, 413, 437, 464, 492, 522, 552, 581]
def xv_t (i : Nat) : Term := .string (xk_ow.getD i "") (xk_ix.getD i 0)
theorem xv_ex : ∀ i : Nat, i < 25 → xv_F[xv_p.getD i 0]? = some (Cond.exactly (xv_t i) "java/lang/String") := by decide +kernel
theorem xv_co : ∀ i : Nat, i < 25 → xv_F[xv_p.getD i 0 + 1]? = some (Cond.eq (.field (xv_t i) "java/lang/String" "coder" "B") (.int 0)) := by decide +kernel
theorem xv_ar : ∀ i : Nat, i < 25 → xv_F[xv_p.getD i 0 + 2]? = some (Cond.arrayOf (.field (xv_t i) "java/lang/String" "value" "[B") .byte) := by decide +kernel
theorem xv_le : ∀ i : Nat, i < 25 → xv_F[xv_p.getD i 0 + 3]? = some (Cond.eq (.length (.field (xv_t i) "java/lang/String" "value" "[B")) (.int (Int32.ofNat (xk_len.getD i 0)))) := by decide +kernel
theorem xv_el : ∀ i : Nat, i < 25 → ∀ j : Nat, j < xk_len.getD i 0 → xv_F[xv_p.getD i 0 + 4 + j]? = some (Cond.eq (.elem (.field (xv_t i) "java/lang/String" "value" "[B") (.int (Int32.ofNat j))) (.int ((xk_byt.getD i []).getD j 0))) := by decide +kernel
theorem xv_ne : ∀ i : Nat, i < 25 → ∀ j : Nat, j < i → xv_F[xv_p.getD i 0 + 4 + xk_len.getD i 0 + j]? = some (Cond.not (Cond.eq (xv_t j) (xv_t i))) := by decide +kernel
theorem xv_sr {args : Array Value} {s : State} (hts : ∀ w ∈ lw_tbl, w.before args s = true) : ∀ i : Nat, i < 25 → (Cond.stringRef (xk_ow.getD i "") (xk_ix.getD i 0) (xk_tx.getD i "")).before args s = true := fun i hi =>
  match i, hi with
    | 0, _ => hts _ (xt_3 _ (List.mem_of_getElem? (i := 91) rfl))
    | 1, _ => hts _ (xt_3 _ (List.mem_of_getElem? (i := 156) rfl))
    | 2, _ => hts _ (xt_6 _ (List.mem_of_getElem? (i := 45) rfl))
    | 3, _ => hts _ (xt_6 _ (List.mem_of_getElem? (i := 52) rfl))
    | 4, _ => hts _ (xt_6 _ (List.mem_of_getElem? (i := 57) rfl))
    | 5, _ => hts _ (xt_6 _ (List.mem_of_getElem? (i := 58) rfl))
    | 6, _ => hts _ (xt_6 _ (List.mem_of_getElem? (i := 59) rfl))
    | 7, _ => hts _ (xt_6 _ (List.mem_of_getElem? (i := 60) rfl))
    | 8, _ => hts _ (xt_6 _ (List.mem_of_getElem? (i := 61) rfl))
    | 9, _ => hts _ (xt_6 _ (List.mem_of_getElem? (i := 62) rfl))
    | 10, _ => hts _ (xt_6 _ (List.mem_of_getElem? (i := 67) rfl))
    | 11, _ => hts _ (xt_6 _ (List.mem_of_getElem? (i := 68) rfl))
    | 12, _ => hts _ (xt_6 _ (List.mem_of_getElem? (i := 69) rfl))
    | 13, _ => hts _ (xt_6 _ (List.mem_of_getElem? (i := 70) rfl))
    | 14, _ => hts _ (xt_6 _ (List.mem_of_getElem? (i := 71) rfl))
    | 15, _ => hts _ (xt_6 _ (List.mem_of_getElem? (i := 72) rfl))
    | 16, _ => hts _ (xt_6 _ (List.mem_of_getElem? (i := 73) rfl))
    | 17, _ => hts _ (xt_6 _ (List.mem_of_getElem? (i := 74) rfl))
    | 18, _ => hts _ (xt_6 _ (List.mem_of_getElem? (i := 79) rfl))
    | 19, _ => hts _ (xt_6 _ (List.mem_of_getElem? (i := 80) rfl))
    | 20, _ => hts _ (xt_6 _ (List.mem_of_getElem? (i := 81) rfl))
    | 21, _ => hts _ (xt_6 _ (List.mem_of_getElem? (i := 82) rfl))
    | 22, _ => hts _ (xt_6 _ (List.mem_of_getElem? (i := 87) rfl))
    | 23, _ => hts _ (xt_6 _ (List.mem_of_getElem? (i := 88) rfl))
    | 24, _ => hts _ (xt_6 _ (List.mem_of_getElem? (i := 89) rfl))
    | k + 25, hi => by omega
theorem xv_Z {args : Array Value} {s : State} (hgv : (Jvm.Cond.and given_1 narrow_1).before args s = true) (hts : ∀ w ∈ lw_tbl, w.before args s = true) : ∃ adK adV : Nat → Nat, ∀ (l : Launch) (D : va_G) (cI cB cO : ClassId) (Sh : xc_Sh) (Px : xc_Px) (ad : Nat → Nat), xc_Z (l, D, (cI, cB, cO, adK, adV), Sh, Px, ad) (fun q : Nat => s.heap.size ≤ q) s := by
  have hs : ∀ w ∈ xv_F, w.before args s = true := flat_of_before _ hgv
  have hA : ∀ a : Nat, a < s.heap.size → ¬ (fun q : Nat => s.heap.size ≤ q) a := fun a h => Nat.not_le.mpr h
  obtain ⟨adK, adV, hS, hE⟩ := vk_Sof (args := args) (s := s) (N := 25) (tm := xv_t) (len := xk_len) (byt := xk_byt) (A := fun q : Nat => s.heap.size ≤ q) (by decide +kernel) (fun i hi => hs _ (List.mem_of_getElem? (xv_ex i hi))) (fun i hi => hs _ (List.mem_of_getElem? (xv_co i hi))) (fun i hi => hs _ (List.mem_of_getElem? (xv_ar i hi))) (fun i hi => hs _ (List.mem_of_getElem? (xv_le i hi))) (fun i hi j hj => hs _ (List.mem_of_getElem? (xv_el i hi j hj))) (fun i j hi hj hij => by
    rcases Nat.lt_or_gt_of_ne hij with h | h
    · exact Or.inl (hs _ (List.mem_of_getElem? (xv_ne j hj i h)))
    · exact Or.inr (hs _ (List.mem_of_getElem? (xv_ne i hi j h)))) hA
  have hc : (Cond.eq (.static "java/lang/String" "COMPACT_STRINGS" "Z") (.int 1)).before args s = true := hs _ (List.mem_of_getElem? (i := 4) (by decide +kernel))
  have hf : (Cond.isRef (.static "jdk/internal/util/Preconditions" "SIOOBE_FORMATTER" "Ljava/util/function/BiFunction;")).before args s = true := hs _ (List.mem_of_getElem? (i := 5) (by decide +kernel))
  have hq := va_Zqof (A := fun q : Nat => s.heap.size ≤ q) (hts _ (xt_3 _ (List.mem_of_getElem? (i := 117) rfl))) (hts _ (xt_1 _ (List.mem_of_getElem? (i := 16) rfl))) hf hA
  refine ⟨adK, adV, fun l D cI cB cO Sh Px ad => ⟨hS, fun i hi => vk_R.of (xv_sr hts i hi) (hE i hi), va_Zof (hts _ (xt_3 _ (List.mem_of_getElem? (i := 101) rfl))) (hts _ (xt_1 _ (List.mem_of_getElem? (i := 14) rfl))) (va_eqt hc) hA, ?_, va_Nw.of rfl (hts _ (xt_4 _ (List.mem_of_getElem? (i := 217) rfl)))⟩⟩
  rcases hq with h | ⟨a, h⟩
  · exact ⟨_, Or.inl rfl, h⟩
  · exact ⟨_, Or.inr ⟨a, rfl⟩, h⟩
theorem xv_K {args : Array Value} {s : State} (hts : ∀ w ∈ lw_tbl, w.before args s = true) : ∃ (D : va_G) (cI cB cO : ClassId), va_K D vwCl [(cI, .int), (cB, .byte), (cO, .object "UnsaidWords$Being")] s := by
  have hT : ∀ w ∈ xc_T, w.before args s = true := fun w hw => hts w (List.mem_filter.mp hw).1
  obtain ⟨c0, i0, h0⟩ := u_known hT kl_X0.2.1 (hT _ ci_X0)
  obtain ⟨c1, i1, h1⟩ := u_known hT kl_X1.2.1 (hT _ ci_X1)
  obtain ⟨c2, i2, h2⟩ := u_known hT kl_X2.2.1 (hT _ ci_X2)
  obtain ⟨c3, i3, h3⟩ := u_known hT kl_X3.2.1 (hT _ ci_X3)
  obtain ⟨c4, i4, h4⟩ := u_known hT kl_X4.2.1 (hT _ ci_X4)
  obtain ⟨c5, i5, h5⟩ := u_known hT kl_X5.2.1 (hT _ ci_X5)
  obtain ⟨c6, i6, h6⟩ := u_known hT kl_X6.2.1 (hT _ ci_X6)
  obtain ⟨c7, i7, h7⟩ := u_known hT kl_X8.2.1 (hT _ ci_X8)
  obtain ⟨c8, i8, h8⟩ := u_known hT kl_X9.2.1 (hT _ ciL_X9)
  obtain ⟨c9, i9, h9⟩ := u_known hT kl_X10.2.1 (hT _ ciL_X10)
  obtain ⟨cI, kI, pI, a1, a2, a3⟩ := Cond.arrayClass_spec (hT _ ac_int)
  obtain ⟨cB, kB, pB, b1, b2, b3⟩ := Cond.arrayClass_spec (hT _ ac_byte)
  obtain ⟨pO, cO, kO, d1, d2, d3, d4, d5⟩ := Cond.arrayOver_spec (hts _ (xt_2 _ (List.mem_of_getElem? (i := 0) rfl)))
  refine ⟨(fun k => [c0, c1, c2, c3, c4, c5, c6, c7, c8, c9].getD k c0, fun k => [i0, i1, i2, i3, i4, i5, i6, i7, i8, i9].getD k i0), cI, cB, cO, fun k q hq => ?_, fun k q hq => ?_⟩
  · match k, hq with
    | 0, hq =>
      cases hq
      exact h0
    | 1, hq =>
      cases hq
      exact h1
    | 2, hq =>
      cases hq
      exact h2
    | 3, hq =>
      cases hq
      exact h3
    | 4, hq =>
      cases hq
      exact h4
    | 5, hq =>
      cases hq
      exact h5
    | 6, hq =>
      cases hq
      exact h6
    | 7, hq =>
      cases hq
      exact h7
    | 8, hq =>
      cases hq
      exact h8
    | 9, hq =>
      cases hq
      exact h9
    | k + 10, hq => simp at hq
  · match k, hq with
    | 0, hq =>
      cases hq
      exact ⟨fun n z => ⟨(fun k h => by cases h), kI, a2, pI, a3⟩, a1⟩
    | 1, hq =>
      cases hq
      exact ⟨fun n z => ⟨(fun k h => by cases h), kB, b2, pB, b3⟩, b1⟩
    | 2, hq =>
      cases hq
      exact ⟨fun n z => ⟨(fun k h => by cases h), kO, d3, pO, d4⟩, ⟨kO, pO, d3, d4, d1, d5⟩⟩
    | k + 3, hq => simp at hq
theorem xv_PL {D : va_G} {cl : List vw_C} {a b : va_W} {H : Heap} (h : va_P D cl (a ++ b) H) : va_P D cl a H ∧ va_P D cl b H := by
  refine ⟨fun k q hk => h k q ?_, fun k q hk => h (a.length + k) q ?_⟩
  · rw [List.getElem?_append_left (List.getElem?_eq_some_iff.mp hk).1]
    exact hk
  · rw [List.getElem?_append_right (by omega), show a.length + k - a.length = k by omega]
    exact hk
theorem xv_DL {A : Nat → Prop} {a b : va_W} (h : va_D A (a ++ b)) : va_D A a ∧ va_D A b ∧ ∀ (i j : Nat) (p q : Nat × va_E), a[i]? = some p → b[j]? = some q → p.1 ≠ q.1 := by
  have hl : ∀ (k : Nat) (q : Nat × va_E), a[k]? = some q → (a ++ b)[k]? = some q := fun k q hk => by
    rw [List.getElem?_append_left (List.getElem?_eq_some_iff.mp hk).1]
    exact hk
  have hr : ∀ (k : Nat) (q : Nat × va_E), b[k]? = some q → (a ++ b)[a.length + k]? = some q := fun k q hk => by
    rw [List.getElem?_append_right (by omega), show a.length + k - a.length = k by omega]
    exact hk
  refine ⟨⟨fun i j p q hp hq e => h.1 i j p q (hl i p hp) (hl j q hq) e, fun k q hk => h.2 k q (hl k q hk)⟩, ⟨fun i j p q hp hq e => ?_, fun k q hk => h.2 _ q (hr k q hk)⟩, fun i j p q hp hq e => ?_⟩
  · have := h.1 _ _ p q (hr i p hp) (hr j q hq) e
    omega
  · have h1 := h.1 _ _ p q (hl i p hp) (hr j q hq) e
    have h2 := (List.getElem?_eq_some_iff.mp hp).1
    omega
theorem xv_ne2 {X Y : xc_X} {A : Nat → Prop} {I J : xc_M} (h : ∀ (i j : Nat) (p q : Nat × va_E), (xc_ws X I)[i]? = some p → (xc_ws Y J)[j]? = some q → p.1 ≠ q.1) : ∀ i j : Nat, i < X.2.2.2.1.length → j < Y.2.2.2.1.length → X.2.2.2.2.2 i ≠ Y.2.2.2.2.2 j := fun i j hi hj =>
  h i j _ _ (xc_at I (List.getElem?_eq_getElem hi)) (xc_at J (List.getElem?_eq_getElem hj))
set_option maxHeartbeats 4000000 in
set_option maxRecDepth 100000 in
theorem xv_enter {p : Program} {e : Env} {s : State} {m : MethodId} {below : List Frame} {meth : Method} {c : Code} (l : Launch) {b L : Nat} {xs : Nat → Int32} (C0 : lw_At p s m meth c b L xs)
    (go : ∀ (X Y : xc_X) (C : xc_C) (kc ks : Nat), xl_Ok X Y C b L kc ks xs → xw_is X → xw_isM Y → xl_S X Y C b kc ks (some 1) 18 [(0, .ref b), (1, .ref (X.2.2.2.2.2 0)), (2, .ref (Y.2.2.2.2.2 0)), (3, .int 0)] [] (xz_I, xz_J)) :
    W p l e room_1 s m #[Value.ref b] below meth c s.heap [] 0 0 (lw_Z below #[Value.ref b] s) (entryFrame m ([Value.ref b] : List Value).toArray 4) := by
  obtain ⟨hx, hb, hr, hml, hown, hts, hX, hbl, hlocks, hgv⟩ := id C0
  have hT : ∀ w ∈ xc_T, w.before #[Value.ref b] s = true := fun w hw => hts w (List.mem_filter.mp hw).1
  obtain ⟨D, cI, cB, cO, hK⟩ := xv_K hts
  obtain ⟨adK, adV, hZ⟩ := xv_Z hgv hts
  obtain ⟨ids, hids⟩ : ∃ ids : ClassId × ClassId × ClassId × (Nat → Nat) × (Nat → Nat), ids = (cI, cB, cO, adK, adV) := ⟨_, rfl⟩
  have hK : va_K D vwCl (xn_T ids) s := by
    rw [hids]
    exact hK
  have hZ : ∀ (Sh : xc_Sh) (Px : xc_Px) (ad : Nat → Nat), xc_Z (l, D, ids, Sh, Px, ad) (fun q : Nat => s.heap.size ≤ q) s := by
    rw [hids]
    exact fun Sh Px ad => hZ l D cI cB cO Sh Px ad
  have hok : xn_Ok p s m #[Value.ref b] meth c D ids (fun q : Nat => s.heap.size ≤ q) code R_law 4 := ⟨hx, hb, hml, hown, hT, hK, fun _ h => h, va_AO.of (hts _ (xt_2 _ (List.mem_of_getElem? (i := 0) rfl)))⟩
  have hS : va_S (fun q : Nat => s.heap.size ≤ q) s.heap s.heap [] := va_S.rf
  have hP : va_P D vwCl [] s.heap := fun k q h => by simp at h
  have hD : va_D (fun q : Nat => s.heap.size ≤ q) [] := ⟨fun i j p q h => by simp at h, fun k q h => by simp at h⟩
  have hl := lv_entry ([.ref b]) (n := 4) (Nat.le_of_ble_eq_true rfl)
  rw [lg_entry_eq]
  generalize (lg_sl ([.ref b]) ++ List.replicate (4 - (lg_sl ([.ref b])).length) Slot.unset).toArray = ls at hl ⊢
  have hl : lv_has ls 4 [(0, .ref b)] := hl
  refine xn_new (fs := [.null, .null, .null, .null, .null, .null, .int 0]) hok dL_law_0 kl_X9 clL_X9 ciL_X9 czL_X9 dfL_X9 (Nat.le_of_ble_eq_true rfl) (Nat.le_of_ble_eq_true rfl) dL_law_3 hP hD hS (fun q1 H hP hD hS => ?_)
  refine xn_call hok dL_law_4 (cn_X9 l D ids) mdL_X9 rfl miL_X9 lkL_X9 rfl rfl (Nat.le_of_ble_eq_true rfl) hl.1 (Nat.le_of_ble_eq_true rfl) (Nat.le_of_ble_eq_true rfl) (Nat.le_of_ble_eq_true rfl) (Nat.le_of_ble_eq_true rfl) hP hD hS (fun u1 H locs hP hD hS => ?_)
  refine lv_astore_n (lv' := [(1, .ref q1), (0, .ref b)]) hx hb dL_law_7 rfl hl (by decide) rfl (fun ls hl => ?_)
  refine xn_new (fs := [.null, .null, .null, .null, .int 0, .int 0, .null, .null, .null, .null, .null, .null, .null, .null, .int 0, .int 0, .int 0, .int 0, .int 0, .int 0, .int 0, .int 0, .int 0, .int 0, .int 0, .int 0, .int 0, .int 0, .int 0, .int 0, .int 0, .int 0, .null, .null, .null, .int 0]) hok dL_law_8 kl_X10 clL_X10 ciL_X10 czL_X10 dfL_X10 (Nat.le_of_ble_eq_true rfl) (Nat.le_of_ble_eq_true rfl) dL_law_11 hP hD hS (fun q2 H hP hD hS => ?_)
  refine xn_call hok dL_law_12 (cn_X10 l D ids) mdL_X10 rfl miL_X10 lkL_X10 rfl rfl (Nat.le_of_ble_eq_true rfl) hl.1 (Nat.le_of_ble_eq_true rfl) (Nat.le_of_ble_eq_true rfl) (Nat.le_of_ble_eq_true rfl) (Nat.le_of_ble_eq_true rfl) hP hD hS (fun u2 H locs hP hD hS => ?_)
  refine lv_astore_n (lv' := [(2, .ref q2), (1, .ref q1), (0, .ref b)]) hx hb dL_law_15 rfl hl (by decide) rfl (fun ls hl => ?_)
  refine lv_iconst (v := 0) hx hb dL_law_16 (by decide) ?_
  refine lv_istore_n (lv' := [(3, .int 0), (2, .ref q2), (1, .ref q1), (0, .ref b)]) hx hb dL_law_17 rfl hl (by decide) rfl (fun ls hl => ?_)
  obtain ⟨ad, e0, eu⟩ := xz_ex9 q1 u1
  have eX : ([] : va_W) ++ bk_X9 ids q1 u1 = xc_ws (l, D, ids, xw_Sh, xw_P, ad) xz_I := by
    rw [xz_ws9, eu, e0]
    rfl
  rw [eX, ← xz_eqY l D ids q2 u2] at hP hD
  obtain ⟨hP1, hP2⟩ := xv_PL hP
  obtain ⟨hD1, hD2, hne⟩ := xv_DL hD
  have hl2 : lv_has ls 4 [(0, .ref b), (1, .ref (ad 0)), (2, .ref q2), (3, .int 0)] := by
    rw [e0]
    exact lv_sub hl [3, 2, 1, 0] rfl
  have key := go (l, D, ids, xw_Sh, xw_P, ad) (xz_Y l D ids q2 u2) (p, e, room_1, s, m, #[Value.ref b], below, meth, c) (0 + 1 + 135 + 1 + 15) (0 + 7 + 6867 + 36 + 7177) ⟨hx, hb, hml, hown, hT, hK, hr, hlocks, rfl, rfl, hZ _ _ _, hX, hbl, by decide, by decide, rfl, rfl, rfl, xv_ne2 (A := fun _ => True) hne⟩ ⟨rfl, rfl⟩ ⟨rfl, rfl⟩ ⟨1, rfl⟩ rfl H locs ls ⟨hP1, hP2⟩ ⟨hD1, hD2⟩ hS hl2
  exact key
