-- ===== the law from its entry: the premises, the class's object =====
theorem clL_X9 : Cond.classLink R_law 28 RX9 ∈ xc_T := xc_in2 xt_1 23 rfl rfl
theorem ciL_X9 : Cond.instantiable RX9 7 ∈ xc_T := xc_in2 xt_1 24 rfl rfl
theorem czL_X9 : Cond.initialized RX9 ∈ xc_T := xc_in2 xt_1 1 rfl rfl
theorem lkL_X9 : Cond.methodLink R_law 186 yX9_init ∈ xc_T := xc_in2 xt_1 25 rfl rfl
theorem miL_X9 : Cond.instanceMethod yX9_init ∈ xc_T := xc_in2 xt_1 26 rfl rfl
theorem mdL_X9 : xc_Md yX9_init cX9_init 1 none 0 := ⟨xc_in2 xt_1 27 rfl rfl, xc_in2 xt_1 1 rfl rfl, by decide +kernel, by decide⟩
theorem dfL_X9 : ∀ j, j < 7 → defaultValue (tyX9 j) = vp_V [.null, .null, .null, .null, .null, .null, .int 0] j := fun j hj => by
  match j, hj with
  | 0, _ => rfl
  | 1, _ => rfl
  | 2, _ => rfl
  | 3, _ => rfl
  | 4, _ => rfl
  | 5, _ => rfl
  | 6, _ => rfl
  | k + 7, hj => omega
def xv_F : List Cond := flatC (Jvm.Cond.and given_1 narrow_1)
def xv_p : List Nat := [269, 386]
def xv_q : List (List Nat) := [[], [404]]
def xv_t (i : Nat) : Term := .string (xk_ow.getD i "") (xk_ix.getD i 0)
theorem xv_ex : ∀ i : Nat, i < 2 → xv_F[xv_p.getD i 0]? = some (Cond.exactly (xv_t i) "java/lang/String") := by decide +kernel
theorem xv_co : ∀ i : Nat, i < 2 → xv_F[xv_p.getD i 0 + 1]? = some (Cond.eq (.field (xv_t i) "java/lang/String" "coder" "B") (.int 0)) := by decide +kernel
theorem xv_ar : ∀ i : Nat, i < 2 → xv_F[xv_p.getD i 0 + 2]? = some (Cond.arrayOf (.field (xv_t i) "java/lang/String" "value" "[B") .byte) := by decide +kernel
theorem xv_le : ∀ i : Nat, i < 2 → xv_F[xv_p.getD i 0 + 3]? = some (Cond.eq (.length (.field (xv_t i) "java/lang/String" "value" "[B")) (.int (Int32.ofNat (xk_len.getD i 0)))) := by decide +kernel
theorem xv_el : ∀ i : Nat, i < 2 → ∀ j : Nat, j < xk_len.getD i 0 → xv_F[xv_p.getD i 0 + 4 + j]? = some (Cond.eq (.elem (.field (xv_t i) "java/lang/String" "value" "[B") (.int (Int32.ofNat j))) (.int ((xk_byt.getD i []).getD j 0))) := by decide +kernel
theorem xv_ne : ∀ i : Nat, i < 2 → ∀ j : Nat, j < i → xv_F[(xv_q.getD i []).getD j 0]? = some (Cond.not (Cond.eq (xv_t j) (xv_t i))) := by decide +kernel
theorem xv_sr {args : Array Value} {s : State} (hts : ∀ w ∈ lw_tbl, w.before args s = true) : ∀ i : Nat, i < 2 → (Cond.stringRef (xk_ow.getD i "") (xk_ix.getD i 0) (xk_tx.getD i "")).before args s = true := fun i hi =>
  match i, hi with
    | 0, _ => hts _ (xt_5 _ (List.mem_of_getElem? (i := 50) rfl))
    | 1, _ => hts _ (xt_5 _ (List.mem_of_getElem? (i := 69) rfl))
    | k + 2, hi => by omega
def yv_p : List Nat := [237, 246, 254, 261, 405, 420, 435, 454, 470, 490, 511, 533, 555, 590, 635, 662, 726, 762, 796]
def yv_q : List (List Nat) := [[], [253], [259, 260], [266, 267, 268], [414, 415, 416, 417], [428, 429, 430, 431, 434], [446, 447, 448, 449, 452, 453], [461, 462, 463, 464, 467, 468, 469], [480, 481, 482, 483, 486, 487, 488, 489], [500, 501, 502, 503, 506, 507, 508, 509, 510], [521, 522, 523, 524, 527, 528, 529, 530, 531, 532], [542, 543, 544, 545, 548, 549, 550, 551, 552, 553, 554], [576, 577, 578, 579, 582, 583, 584, 585, 586, 587, 588, 589], [620, 621, 622, 623, 626, 627, 628, 629, 630, 631, 632, 633, 634], [646, 647, 648, 649, 652, 653, 654, 655, 656, 657, 658, 659, 660, 661], [709, 710, 711, 712, 715, 716, 717, 718, 719, 720, 721, 722, 723, 724, 725], [744, 745, 746, 747, 750, 751, 752, 753, 754, 755, 756, 757, 758, 759, 760, 761], [777, 778, 779, 780, 783, 784, 785, 786, 787, 788, 789, 790, 791, 792, 793, 794, 795], [810, 811, 812, 813, 816, 817, 818, 819, 820, 821, 822, 823, 824, 825, 826, 827, 828, 829]]
def yv_t (i : Nat) : Term := .string RL (yk_ix.getD i 0)
theorem yv_ex : ∀ i : Nat, i < 19 → xv_F[yv_p.getD i 0]? = some (Cond.exactly (yv_t i) "java/lang/String") := by decide +kernel
theorem yv_co : ∀ i : Nat, i < 19 → xv_F[yv_p.getD i 0 + 1]? = some (Cond.eq (.field (yv_t i) "java/lang/String" "coder" "B") (.int 0)) := by decide +kernel
theorem yv_ar : ∀ i : Nat, i < 19 → xv_F[yv_p.getD i 0 + 2]? = some (Cond.arrayOf (.field (yv_t i) "java/lang/String" "value" "[B") .byte) := by decide +kernel
theorem yv_le : ∀ i : Nat, i < 19 → xv_F[yv_p.getD i 0 + 3]? = some (Cond.eq (.length (.field (yv_t i) "java/lang/String" "value" "[B")) (.int (Int32.ofNat (yk_len.getD i 0)))) := by decide +kernel
theorem yv_el : ∀ i : Nat, i < 19 → ∀ j : Nat, j < yk_len.getD i 0 → xv_F[yv_p.getD i 0 + 4 + j]? = some (Cond.eq (.elem (.field (yv_t i) "java/lang/String" "value" "[B") (.int (Int32.ofNat j))) (.int ((yk_byt.getD i []).getD j 0))) := by decide +kernel
theorem yv_ne : ∀ i : Nat, i < 19 → ∀ j : Nat, j < i → xv_F[(yv_q.getD i []).getD j 0]? = some (Cond.not (Cond.eq (yv_t j) (yv_t i))) := by decide +kernel
theorem yv_sr {args : Array Value} {s : State} (hts : ∀ w ∈ lw_tbl, w.before args s = true) : ∀ i : Nat, i < 19 → (Cond.stringRef RL (yk_ix.getD i 0) (yk_tx.getD i "")).before args s = true := fun i hi =>
  match i, hi with
    | 0, _ => hts _ (xt_4 _ (List.mem_of_getElem? (i := 21) rfl))
    | 1, _ => hts _ (xt_4 _ (List.mem_of_getElem? (i := 134) rfl))
    | 2, _ => hts _ (xt_4 _ (List.mem_of_getElem? (i := 135) rfl))
    | 3, _ => hts _ (xt_4 _ (List.mem_of_getElem? (i := 221) rfl))
    | 4, _ => hts _ (xt_5 _ (List.mem_of_getElem? (i := 221) rfl))
    | 5, _ => hts _ (xt_5 _ (List.mem_of_getElem? (i := 222) rfl))
    | 6, _ => hts _ (xt_5 _ (List.mem_of_getElem? (i := 223) rfl))
    | 7, _ => hts _ (xt_5 _ (List.mem_of_getElem? (i := 227) rfl))
    | 8, _ => hts _ (xt_5 _ (List.mem_of_getElem? (i := 228) rfl))
    | 9, _ => hts _ (xt_5 _ (List.mem_of_getElem? (i := 229) rfl))
    | 10, _ => hts _ (xt_5 _ (List.mem_of_getElem? (i := 230) rfl))
    | 11, _ => hts _ (xt_5 _ (List.mem_of_getElem? (i := 236) rfl))
    | 12, _ => hts _ (xt_5 _ (List.mem_of_getElem? (i := 237) rfl))
    | 13, _ => hts _ (xt_5 _ (List.mem_of_getElem? (i := 238) rfl))
    | 14, _ => hts _ (xt_5 _ (List.mem_of_getElem? (i := 239) rfl))
    | 15, _ => hts _ (xt_6 _ (List.mem_of_getElem? (i := 0) rfl))
    | 16, _ => hts _ (xt_6 _ (List.mem_of_getElem? (i := 1) rfl))
    | 17, _ => hts _ (xt_6 _ (List.mem_of_getElem? (i := 2) rfl))
    | 18, _ => hts _ (xt_6 _ (List.mem_of_getElem? (i := 3) rfl))
    | k + 19, hi => by omega
theorem xv_do : ∀ j : Nat, j < 100 → xv_F[12 + j]? = some (Cond.eq (.elem (.static "java/lang/Integer" "DigitOnes" "[B") (.int (Int32.ofNat j))) (.int (yd_ones j))) := by decide +kernel
theorem xv_dt : ∀ j : Nat, j < 100 → xv_F[115 + j]? = some (Cond.eq (.elem (.static "java/lang/Integer" "DigitTens" "[B") (.int (Int32.ofNat j))) (.int (yd_tens j))) := by decide +kernel
theorem xv_Z {args : Array Value} {s : State} (hgv : (Jvm.Cond.and given_1 narrow_1).before args s = true) (hts : ∀ w ∈ lw_tbl, w.before args s = true) : ∃ adK adV : Nat → Nat, ∀ (l : Launch) (D : va_G) (cI cB cO : ClassId) (Sh : xc_Sh) (Px : xc_Px) (ad : Nat → Nat), xc_Z (l, D, (cI, cB, cO, adK, adV), Sh, Px, ad) (fun q : Nat => s.heap.size ≤ q) s := by
  have hs : ∀ w ∈ xv_F, w.before args s = true := flat_of_before _ hgv
  have hA : ∀ a : Nat, a < s.heap.size → ¬ (fun q : Nat => s.heap.size ≤ q) a := fun a h => Nat.not_le.mpr h
  obtain ⟨adK, adV, hS, hE⟩ := vk_Sof (args := args) (s := s) (N := 2) (tm := xv_t) (len := xk_len) (byt := xk_byt) (A := fun q : Nat => s.heap.size ≤ q) (by decide +kernel) (fun i hi => hs _ (List.mem_of_getElem? (xv_ex i hi))) (fun i hi => hs _ (List.mem_of_getElem? (xv_co i hi))) (fun i hi => hs _ (List.mem_of_getElem? (xv_ar i hi))) (fun i hi => hs _ (List.mem_of_getElem? (xv_le i hi))) (fun i hi j hj => hs _ (List.mem_of_getElem? (xv_el i hi j hj))) (fun i j hi hj hij => by
    rcases Nat.lt_or_gt_of_ne hij with h | h
    · exact Or.inl (hs _ (List.mem_of_getElem? (xv_ne j hj i h)))
    · exact Or.inr (hs _ (List.mem_of_getElem? (xv_ne i hi j h)))) hA
  have hc : (Cond.eq (.static "java/lang/String" "COMPACT_STRINGS" "Z") (.int 1)).before args s = true := hs _ (List.mem_of_getElem? (i := 4) (by decide +kernel))
  have hf : (Cond.isRef (.static "jdk/internal/util/Preconditions" "SIOOBE_FORMATTER" "Ljava/util/function/BiFunction;")).before args s = true := hs _ (List.mem_of_getElem? (i := 5) (by decide +kernel))
  have hq := va_Zqof (A := fun q : Nat => s.heap.size ≤ q) (hts _ (xt_4 _ (List.mem_of_getElem? (i := 78) rfl))) (hts _ (xt_1 _ (List.mem_of_getElem? (i := 19) rfl))) hf hA
  refine ⟨adK, adV, fun l D cI cB cO Sh Px ad => ⟨hS, fun i hi => vk_R.of (xv_sr hts i hi) (hE i hi), va_Zof (hts _ (xt_3 _ (List.mem_of_getElem? (i := 238) rfl))) (hts _ (xt_1 _ (List.mem_of_getElem? (i := 14) rfl))) (va_eqt hc) hA, ?_, trivial⟩⟩
  rcases hq with h | ⟨a, h⟩
  · exact ⟨_, Or.inl rfl, h⟩
  · exact ⟨_, Or.inr ⟨a, rfl⟩, h⟩
theorem xv_Y {args : Array Value} {s : State} (hgv : (Jvm.Cond.and given_1 narrow_1).before args s = true) (hts : ∀ w ∈ lw_tbl, w.before args s = true) : ∃ adK adV : Nat → Nat, vk_S yk_n yk_len yk_byt adK adV (fun q : Nat => s.heap.size ≤ q) s s.heap ∧ ∀ i : Nat, i < yk_n → vk_R RL (yk_ix.getD i 0) (yk_tx.getD i "") (adK i) s := by
  have hs : ∀ w ∈ xv_F, w.before args s = true := flat_of_before _ hgv
  have hA : ∀ a : Nat, a < s.heap.size → ¬ (fun q : Nat => s.heap.size ≤ q) a := fun a h => Nat.not_le.mpr h
  obtain ⟨adK, adV, hS, hE⟩ := vk_Sof (args := args) (s := s) (N := 19) (tm := yv_t) (len := yk_len) (byt := yk_byt) (A := fun q : Nat => s.heap.size ≤ q) (by decide +kernel) (fun i hi => hs _ (List.mem_of_getElem? (yv_ex i hi))) (fun i hi => hs _ (List.mem_of_getElem? (yv_co i hi))) (fun i hi => hs _ (List.mem_of_getElem? (yv_ar i hi))) (fun i hi => hs _ (List.mem_of_getElem? (yv_le i hi))) (fun i hi j hj => hs _ (List.mem_of_getElem? (yv_el i hi j hj))) (fun i j hi hj hij => by
    rcases Nat.lt_or_gt_of_ne hij with h | h
    · exact Or.inl (hs _ (List.mem_of_getElem? (yv_ne j hj i h)))
    · exact Or.inr (hs _ (List.mem_of_getElem? (yv_ne i hi j h)))) hA
  exact ⟨adK, adV, hS, fun i hi => vk_R.of (yv_sr hts i hi) (hE i hi)⟩
theorem xv_Do {args : Array Value} {s : State} (hgv : (Jvm.Cond.and given_1 narrow_1).before args s = true) (hts : ∀ w ∈ lw_tbl, w.before args s = true) : ∃ t : Nat, va_Z "java/lang/Integer" "DigitOnes" "[B" (.ref t) (fun q : Nat => s.heap.size ≤ q) s s.heap ∧ va_T .byte t 100 (fun j => .int (yd_ones j)) (fun q : Nat => s.heap.size ≤ q) s s.heap := by
  have hs : ∀ w ∈ xv_F, w.before args s = true := flat_of_before _ hgv
  have hA : ∀ a : Nat, a < s.heap.size → ¬ (fun q : Nat => s.heap.size ≤ q) a := fun a h => Nat.not_le.mpr h
  have har : (Cond.arrayOf (.static "java/lang/Integer" "DigitOnes" "[B") .byte).before args s = true := hs _ (List.mem_of_getElem? (i := 10) (by decide +kernel))
  have hle : (Cond.eq (.length (.static "java/lang/Integer" "DigitOnes" "[B")) (.int (Int32.ofNat 100))).before args s = true := hs _ (List.mem_of_getElem? (i := 11) (by decide +kernel))
  obtain ⟨t, ht, hT⟩ := va_Tof (f := fun j => .int (yd_ones j)) (A := fun q : Nat => s.heap.size ≤ q) (by decide) har (va_eqt hle) (fun j hj => va_eqt (hs _ (List.mem_of_getElem? (xv_do j hj)))) hA
  exact ⟨t, va_Zof (hts _ (xt_4 _ (List.mem_of_getElem? (i := 150) rfl))) (hts _ (xt_1 _ (List.mem_of_getElem? (i := 21) rfl))) ht hA, hT⟩
theorem xv_Dt {args : Array Value} {s : State} (hgv : (Jvm.Cond.and given_1 narrow_1).before args s = true) (hts : ∀ w ∈ lw_tbl, w.before args s = true) : ∃ t : Nat, va_Z "java/lang/Integer" "DigitTens" "[B" (.ref t) (fun q : Nat => s.heap.size ≤ q) s s.heap ∧ va_T .byte t 100 (fun j => .int (yd_tens j)) (fun q : Nat => s.heap.size ≤ q) s s.heap := by
  have hs : ∀ w ∈ xv_F, w.before args s = true := flat_of_before _ hgv
  have hA : ∀ a : Nat, a < s.heap.size → ¬ (fun q : Nat => s.heap.size ≤ q) a := fun a h => Nat.not_le.mpr h
  have har : (Cond.arrayOf (.static "java/lang/Integer" "DigitTens" "[B") .byte).before args s = true := hs _ (List.mem_of_getElem? (i := 113) (by decide +kernel))
  have hle : (Cond.eq (.length (.static "java/lang/Integer" "DigitTens" "[B")) (.int (Int32.ofNat 100))).before args s = true := hs _ (List.mem_of_getElem? (i := 114) (by decide +kernel))
  obtain ⟨t, ht, hT⟩ := va_Tof (f := fun j => .int (yd_tens j)) (A := fun q : Nat => s.heap.size ≤ q) (by decide) har (va_eqt hle) (fun j hj => va_eqt (hs _ (List.mem_of_getElem? (xv_dt j hj)))) hA
  exact ⟨t, va_Zof (hts _ (xt_4 _ (List.mem_of_getElem? (i := 152) rfl))) (hts _ (xt_1 _ (List.mem_of_getElem? (i := 21) rfl))) ht hA, hT⟩
theorem xv_N {args : Array Value} {s : State} (hts : ∀ w ∈ lw_tbl, w.before args s = true) : xd_Nw s := by
  have hT : ∀ w ∈ xc_T, w.before args s = true := fun w hw => hts w (List.mem_filter.mp hw).1
  refine ⟨fun q hq => ?_, va_Nw.of rfl (hts _ (xt_3 _ (List.mem_of_getElem? (i := 168) rfl))), va_Nw.of rfl (hts _ (xt_3 _ (List.mem_of_getElem? (i := 146) rfl))), (hts _ (xt_3 _ (List.mem_of_getElem? (i := 77) rfl))), (hts _ (xt_3 _ (List.mem_of_getElem? (i := 79) rfl))), va_AO.of (hts _ (xt_6 _ (List.mem_of_getElem? (i := 9) rfl))), va_Nw.of rfl (hts _ (xt_4 _ (List.mem_of_getElem? (i := 56) rfl))), fun y hy => ?_⟩
  · obtain ⟨k, hk⟩ := List.getElem?_of_mem hq
    exact match k, q, hk with
    | 0, q, h => by cases h; exact va_Nw.of rfl (hts _ (xt_3 _ (List.mem_of_getElem? (i := 81) rfl)))
    | 1, q, h => by cases h; exact va_Nw.of rfl (hts _ (xt_3 _ (List.mem_of_getElem? (i := 83) rfl)))
    | 2, q, h => by cases h; exact va_Nw.of rfl (hts _ (xt_3 _ (List.mem_of_getElem? (i := 85) rfl)))
    | 3, q, h => by cases h; exact va_Nw.of rfl (hts _ (xt_3 _ (List.mem_of_getElem? (i := 87) rfl)))
    | 4, q, h => by cases h; exact va_Nw.of rfl (hts _ (xt_3 _ (List.mem_of_getElem? (i := 89) rfl)))
    | 5, q, h => by cases h; exact va_Nw.of rfl (hts _ (xt_3 _ (List.mem_of_getElem? (i := 94) rfl)))
    | 6, q, h => by cases h; exact va_Nw.of rfl (hts _ (xt_3 _ (List.mem_of_getElem? (i := 96) rfl)))
    | 7, q, h => by cases h; exact va_Nw.of rfl (hts _ (xt_3 _ (List.mem_of_getElem? (i := 98) rfl)))
    | 8, q, h => by cases h; exact va_Nw.of rfl (hts _ (xt_3 _ (List.mem_of_getElem? (i := 100) rfl)))
    | 9, q, h => by cases h; exact va_Nw.of rfl (hts _ (xt_3 _ (List.mem_of_getElem? (i := 103) rfl)))
    | 10, q, h => by cases h; exact va_Nw.of rfl (hts _ (xt_3 _ (List.mem_of_getElem? (i := 105) rfl)))
    | 11, q, h => by cases h; exact va_Nw.of rfl (hts _ (xt_3 _ (List.mem_of_getElem? (i := 107) rfl)))
    | k + 12, q, h => by simp [xd_nf] at h
  · obtain ⟨k, hk⟩ := List.getElem?_of_mem hy
    refine va_Nw.of (A := args) rfl ?_
    exact match k, y, hk with
    | 0, q, h => by cases h; exact xd_selP (P := True) ⟨by decide, by decide, trivial⟩ (hT _ ms_sb) rfl (hts _ (xt_4 _ (List.mem_of_getElem? (i := 34) rfl))) (hT _ mi_J5_ensureCapacityInternal_d00df)
    | 1, q, h => by cases h; exact xd_selP (P := True) ⟨by decide, by decide, trivial⟩ (hT _ ms_sb) rfl (hts _ (xt_4 _ (List.mem_of_getElem? (i := 105) rfl))) (hT _ mi_J5_inflateIfNeededFor_a7421)
    | 2, q, h => by cases h; exact xd_selP (P := True) ⟨by decide, by decide, trivial⟩ (hT _ ms_sb) rfl (hts _ (xt_4 _ (List.mem_of_getElem? (i := 38) rfl))) (hT _ mi_J5_newCapacity_0f7a4)
    | 3, q, h => by cases h; exact xd_selP (P := True) ⟨by decide, by decide, trivial⟩ (hT _ ms_sb) rfl (hts _ (xt_4 _ (List.mem_of_getElem? (i := 101) rfl))) (hT _ mi_J5_putStringAt_47b60)
    | k + 4, q, h => by simp [xd_ps] at h
theorem xv_K {args : Array Value} {s : State} (hts : ∀ w ∈ lw_tbl, w.before args s = true) : ∃ (D : va_G) (cI cB cO c2 c3 cT : ClassId), va_K D vwCl [(cI, .int), (cB, .byte), (cO, .object "UnsaidWords$Being"), (c2, .array .int), (c3, .array (.array .int)), (cT, .object "UnsaidWordsLaw$Talk")] s := by
  have hT : ∀ w ∈ xc_T, w.before args s = true := fun w hw => hts w (List.mem_filter.mp hw).1
  obtain ⟨c30, i30, h30⟩ := u_known hT kl_X0.2.1 (hT _ ci_X0)
  obtain ⟨c31, i31, h31⟩ := u_known hT kl_X1.2.1 (hT _ ci_X1)
  obtain ⟨c32, i32, h32⟩ := u_known hT kl_X2.2.1 (hT _ ci_X2)
  obtain ⟨c33, i33, h33⟩ := u_known hT kl_X3.2.1 (hT _ ci_X3)
  obtain ⟨c34, i34, h34⟩ := u_known hT kl_X4.2.1 (hT _ ci_X4)
  obtain ⟨c35, i35, h35⟩ := u_known hT kl_X5.2.1 (hT _ ci_X5)
  obtain ⟨c36, i36, h36⟩ := u_known hT kl_X6.2.1 (hT _ ci_X6)
  obtain ⟨c37, i37, h37⟩ := u_known hT kl_X8.2.1 (hT _ ci_X8)
  obtain ⟨c38, i38, h38⟩ := u_known hT kl_X9.2.1 (hT _ ciL_X9)
  obtain ⟨c39, i39, h39⟩ := u_known hT kd_X10.2.1 (hT _ in_X10)
  obtain ⟨c40, i40, h40⟩ := u_known hT kd_J4.2.1 (hT _ in_J4)
  obtain ⟨c41, i41, h41⟩ := u_known hT kd_J0.2.1 (hT _ in_J0)
  obtain ⟨cI, kI, pI, a1, a2, a3⟩ := Cond.arrayClass_spec (hT _ ac_int)
  obtain ⟨cB, kB, pB, b1, b2, b3⟩ := Cond.arrayClass_spec (hT _ ac_byte)
  obtain ⟨pO, cO, kO, d1, d2, d3, d4, d5⟩ := Cond.arrayOver_spec (hts _ (xt_1 _ (List.mem_of_getElem? (i := 231) rfl)))
  obtain ⟨pT, cT, kT, e1, e2, e3, e4, e5⟩ := Cond.arrayOver_spec (hts _ (xt_6 _ (List.mem_of_getElem? (i := 9) rfl)))
  obtain ⟨p2, c2, k2, f1, f2, f3, f4, f5⟩ := arrayOverA_spec (hts _ (xt_3 _ (List.mem_of_getElem? (i := 77) rfl)))
  obtain ⟨p3, c3, k3, g1, g2, g3, g4, g5⟩ := arrayOverA_spec (hts _ (xt_3 _ (List.mem_of_getElem? (i := 79) rfl)))
  refine ⟨(fun k => [c30, c31, c32, c33, c34, c35, c36, c37, c38, c39, c40, c41].getD k c30, fun k => [i30, i31, i32, i33, i34, i35, i36, i37, i38, i39, i40, i41].getD k i30), cI, cB, cO, c2, c3, cT, fun k q hq => ?_, fun k q hq => ?_⟩
  · match k, hq with
    | 0, hq =>
      cases hq
      exact h30
    | 1, hq =>
      cases hq
      exact h31
    | 2, hq =>
      cases hq
      exact h32
    | 3, hq =>
      cases hq
      exact h33
    | 4, hq =>
      cases hq
      exact h34
    | 5, hq =>
      cases hq
      exact h35
    | 6, hq =>
      cases hq
      exact h36
    | 7, hq =>
      cases hq
      exact h37
    | 8, hq =>
      cases hq
      exact h38
    | 9, hq =>
      cases hq
      exact h39
    | 10, hq =>
      cases hq
      exact h40
    | 11, hq =>
      cases hq
      exact h41
    | k + 12, hq => simp at hq
  · match k, hq with
    | 0, hq =>
      cases hq
      exact ⟨fun n z => ⟨(fun k h => by cases h), kI, a2, pI, a3⟩, a1⟩
    | 1, hq =>
      cases hq
      exact ⟨fun n z => ⟨(fun k h => by cases h), kB, b2, pB, b3⟩, b1⟩
    | 2, hq =>
      cases hq
      exact ⟨fun n z => ⟨(fun k h => by cases h), kO, d3, pO, d4⟩, ⟨kO, pO, d3, d4, d1, d5⟩⟩
    | 3, hq =>
      cases hq
      exact ⟨fun n z => ⟨(fun k h => by cases h), k2, f3, p2, f4⟩, f5⟩
    | 4, hq =>
      cases hq
      exact ⟨fun n z => ⟨(fun k h => by cases h), k3, g3, p3, g4⟩, g5⟩
    | 5, hq =>
      cases hq
      exact ⟨fun n z => ⟨(fun k h => by cases h), kT, e3, pT, e4⟩, ⟨kT, pT, e3, e4, e1, e5⟩⟩
    | k + 6, hq => simp at hq
set_option maxHeartbeats 4000000 in
set_option maxRecDepth 100000 in
theorem xv_enter {p : Program} {e : Env} {s : State} {m : MethodId} {below : List Frame} {meth : Method} {c : Code} (l : Launch) {b L : Nat} {xs : Nat → Int32} (C0 : lw_At p s m meth c b L xs) (hpr : ∀ adK adV : Nat → Nat, hL_law 100000 100 (b, L, xs) (fun _ => none, xz_I, 599864, 7295376) (fun _ _ _ => True)) :
    W p l e room_1 s m #[Value.ref b] below meth c s.heap [] 0 0 (lw_Z below #[Value.ref b] s) (entryFrame m ([Value.ref b] : List Value).toArray 16) := by
  obtain ⟨hx, hb, hr, hml, hown, hts, hX, hbl, hlocks, hgv⟩ := id C0
  have hT : ∀ w ∈ xc_T, w.before #[Value.ref b] s = true := fun w hw => hts w (List.mem_filter.mp hw).1
  obtain ⟨D, cI, cB, cO, c2, c3, cT, hK0⟩ := xv_K hts
  obtain ⟨adK, adV, hZ⟩ := xv_Z hgv hts
  obtain ⟨yK, yV, hY1, hY2⟩ := xv_Y hgv hts
  obtain ⟨tO, hO1, hO2⟩ := xv_Do hgv hts
  obtain ⟨tT, hT1, hT2⟩ := xv_Dt hgv hts
  have hN := xv_N hts
  have hK1 : va_K D vwCl (xn_T (cI, cB, cO, adK, adV)) s := ⟨hK0.1, fun k q hk => hK0.2 k q (by
    match k, hk with
    | 0, hk => exact hk
    | 1, hk => exact hk
    | 2, hk => exact hk
    | k + 3, hk => cases hk)⟩
  obtain ⟨ids, hids⟩ : ∃ ids : ClassId × ClassId × ClassId × (Nat → Nat) × (Nat → Nat), ids = (cI, cB, cO, adK, adV) := ⟨_, rfl⟩
  have hK : va_K D vwCl (xn_T ids) s := by
    rw [hids]
    exact hK1
  have hZ : ∀ (Sh : xc_Sh) (Px : xc_Px) (ad : Nat → Nat), xc_Z (l, D, ids, Sh, Px, ad) (fun q : Nat => s.heap.size ≤ q) s := by
    rw [hids]
    exact fun Sh Px ad => hZ l D cI cB cO Sh Px ad
  have hKd : ∀ (Sh : xc_Sh) (Px : xc_Px) (ad : Nat → Nat), va_K D vwCl (xd_ty ((l, D, ids, Sh, Px, ad), (c2, c3, cT), (b, L, xs), yK, yV, tO, tT)) s := by
    rw [hids]
    exact fun Sh Px ad => hK0
  have hok : xn_Ok p s m #[Value.ref b] meth c D ids (fun q : Nat => s.heap.size ≤ q) code R_law 16 := ⟨hx, hb, hml, hown, hT, hK, fun _ h => h, va_AO.of (hts _ (xt_1 _ (List.mem_of_getElem? (i := 231) rfl)))⟩
  have hS : va_S (fun q : Nat => s.heap.size ≤ q) s.heap s.heap [] := va_S.rf
  have hP : va_P D vwCl [] s.heap := fun k q h => by simp at h
  have hD : va_D (fun q : Nat => s.heap.size ≤ q) [] := ⟨fun i j p q h => by simp at h, fun k q h => by simp at h⟩
  have hl := lv_entry ([.ref b]) (n := 16) (Nat.le_of_ble_eq_true rfl)
  rw [lg_entry_eq]
  generalize (lg_sl ([.ref b]) ++ List.replicate (16 - (lg_sl ([.ref b])).length) Slot.unset).toArray = ls at hl ⊢
  have hl : lv_has ls 16 [(0, .ref b)] := hl
  refine xn_new (fs := [.null, .null, .null, .null, .null, .null, .int 0]) hok dL_law_0 kl_X9 clL_X9 ciL_X9 czL_X9 dfL_X9 (Nat.le_of_ble_eq_true rfl) (Nat.le_of_ble_eq_true rfl) dL_law_3 hP hD hS (fun q1 H hP hD hS => ?_)
  refine xn_call hok dL_law_4 (cn_X9 l D ids) mdL_X9 rfl miL_X9 lkL_X9 rfl rfl (Nat.le_of_ble_eq_true rfl) hl.1 (Nat.le_of_ble_eq_true rfl) (Nat.le_of_ble_eq_true rfl) (Nat.le_of_ble_eq_true rfl) (Nat.le_of_ble_eq_true rfl) hP hD hS (fun u1 H locs hP hD hS => ?_)
  obtain ⟨ad, e0, eu⟩ := xz_ex9 q1 u1
  have eX : ([] : va_W) ++ bk_X9 ids q1 u1 = xc_ws (l, D, ids, xw_Sh, xw_P, ad) xz_I := by
    rw [xz_ws9, eu, e0]
    rfl
  rw [eX] at hP hD
  have key := thL_law (Z := ((l, D, ids, xw_Sh, xw_P, ad), (c2, c3, cT), (b, L, xs), yK, yV, tO, tT)) (C := (p, e, room_1, s, m, #[Value.ref b], below, meth, c)) (A := fun q : Nat => s.heap.size ≤ q) (Q := lw_Z below #[Value.ref b] s) (n := 1000) ⟨rfl, rfl⟩ ⟨hx, hb, hml, hown, hT, hKd _ _ _, ⟨(Nat.le_of_ble_eq_true rfl), (Nat.le_of_ble_eq_true rfl)⟩, fun _ h => h, hZ _ _ _, hY1, hY2, ⟨hX, hbl, Nat.not_le.mpr hbl⟩, ⟨hO1, hO2⟩, ⟨hT1, hT2⟩, hN⟩ (fun _ _ _ => True) ⟨rfl, rfl, rfl, hr, hlocks, fun _ h => h, rfl⟩ 100000 100 (by omega) (fun _ => none, xz_I, 599864, 7295376) (hpr yK yV) H locs ls [] (0 + 1 + 135) (0 + 7 + 6867) (fun a => by simp) (by show 0 + 1 + 135 + 599864 ≤ 600000; omega) (by show 0 + 7 + 6867 + 7295376 ≤ 7302250; omega) (by
    show va_P D vwCl (xc_ws _ xz_I ++ va_pl [] _) H
    simp only [va_pl, List.map_nil, List.append_nil]
    exact hP) (by
    show va_D _ (xc_ws _ xz_I ++ va_pl [] _)
    simp only [va_pl, List.map_nil, List.append_nil]
    exact hD) hS hl
  rw [← e0]
  exact key
