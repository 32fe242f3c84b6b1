-- ===== the words that are good: 'xc_T' =====
def xc_T : List Cond := lw_tbl.filter goodWord
theorem xc_in {w : Cond} (i : Nat) (h : lw_tbl[i]? = some w) (hg : goodWord w = true) : w ∈ xc_T := List.mem_filter.mpr ⟨List.mem_of_getElem? h, hg⟩
theorem xc_goodT : ∀ w ∈ xc_T, goodWord w = true := fun w h => (List.mem_filter.mp h).2
theorem xc_goodIn {ws : List Cond} (h : ∀ w ∈ ws, w ∈ xc_T) : GoodIn xc_T ws := fun w hw => ⟨h w hw, good_of_word (xc_goodT w (h w hw))⟩
theorem xc_in2 {w : Cond} {L : List Cond} (hL : ∀ w ∈ L, w ∈ lw_tbl) (i : Nat) (h : L[i]? = some w) (hg : goodWord w = true) : w ∈ xc_T := List.mem_filter.mpr ⟨hL _ (List.mem_of_getElem? h), hg⟩
def xc_nf (c : Nat) : Nat := [8, 8, 4, 4, 2, 2, 8, 14, 7, 16, 4, 4].getD c 0
def xc_Kl (c : Nat) (R : String) (T : u_T) (N : Nat) (ty : Nat → FieldType) : Prop := vwCl[c]? = some (R, T, N) ∧ (∀ w ∈ u_ws R T N, w ∈ xc_T) ∧ (∀ k, k < N → parseFieldDescriptor (T k).2.2.1 = some (ty k)) ∧ (∀ a, a < N → ∀ b, b < N → a ≠ b → (T a).2.1 ≠ (T b).2.1) ∧ xc_nf c = N ∧ ∀ k, k < N → (T k).1 = R
def xc_Md (y : MethodName) (cc : ByteArray) (maxL : Nat) (ret : Option FieldType) (np : Nat) : Prop := Cond.code y cc maxL ret ∈ xc_T ∧ Cond.initialized y.cls ∈ xc_T ∧ (y.cls ≠ "java/lang/invoke/MethodHandle" ∧ y.cls ≠ "java/lang/invoke/VarHandle" ∧ (parseMethodDescriptor y.desc).map (fun d => d.parameters.length) = some np) ∧ maxL ≤ 45
def xc_Lc (own : String) (ix : Nat) : Prop := Cond.methodLink own ix arraycopyName ∈ xc_T ∧ Cond.native arraycopyName ∈ xc_T ∧ Cond.static arraycopyName ∈ xc_T ∧ Cond.initialized "java/lang/System" ∈ xc_T
def xc_Lm (own : String) (ix : Nat) (y : MethodName) (b : ByteArray) : Prop := Cond.methodLink own ix y ∈ xc_T ∧ Cond.static y ∈ xc_T ∧ Cond.initialized "java/lang/Math" ∈ xc_T ∧ Cond.code y b 2 (some .int) ∈ xc_T

theorem xt_1 : ∀ w ∈ tables_1_1, w ∈ lw_tbl := fun w h => List.mem_append_right _ (List.mem_append_left _ h)
theorem xt_2 : ∀ w ∈ tables_1_2, w ∈ lw_tbl := fun w h => List.mem_append_right _ (List.mem_append_right _ (List.mem_append_left _ h))
theorem xt_3 : ∀ w ∈ tables_1_3, w ∈ lw_tbl := fun w h => List.mem_append_right _ (List.mem_append_right _ (List.mem_append_right _ (List.mem_append_left _ h)))
theorem xt_4 : ∀ w ∈ tables_1_4, w ∈ lw_tbl := fun w h => List.mem_append_right _ (List.mem_append_right _ (List.mem_append_right _ (List.mem_append_right _ (List.mem_append_left _ h))))
theorem xt_5 : ∀ w ∈ tables_1_5, w ∈ lw_tbl := fun w h => List.mem_append_right _ (List.mem_append_right _ (List.mem_append_right _ (List.mem_append_right _ (List.mem_append_right _ (List.mem_append_left _ h)))))
theorem xt_6 : ∀ w ∈ tables_1_6, w ∈ lw_tbl := fun w h => List.mem_append_right _ (List.mem_append_right _ (List.mem_append_right _ (List.mem_append_right _ (List.mem_append_right _ (List.mem_append_right _ (h))))))
theorem xt_m1 : ∀ q ∈ lw_privs_1, q ∈ lw_privs := fun q h => List.mem_append_left _ h
theorem xt_s1 : ∀ w ∈ k2_sels lw_privs_1, w ∈ lw_tbl := fun w h => List.mem_append_left _ (by
  obtain ⟨q, hq, rfl⟩ := List.mem_map.mp h
  exact List.mem_map.mpr ⟨q, xt_m1 q hq, rfl⟩)
theorem xt_m2 : ∀ q ∈ lw_privs_2, q ∈ lw_privs := fun q h => List.mem_append_right _ (h)
theorem xt_s2 : ∀ w ∈ k2_sels lw_privs_2, w ∈ lw_tbl := fun w h => List.mem_append_left _ (by
  obtain ⟨q, hq, rfl⟩ := List.mem_map.mp h
  exact List.mem_map.mpr ⟨q, xt_m2 q hq, rfl⟩)
theorem kl_X0 : xc_Kl 0 RX0 TX0 8 tyX0 := ⟨rfl, by
  have h : ∀ k, k < 8 → u_lay RX0 TX0 k ∈ xc_T := by
    intro k hk
    match k, hk with
    | 0, _ => exact xc_in2 xt_1 67 rfl rfl
    | 1, _ => exact xc_in2 xt_1 69 rfl rfl
    | 2, _ => exact xc_in2 xt_1 71 rfl rfl
    | 3, _ => exact xc_in2 xt_1 73 rfl rfl
    | 4, _ => exact xc_in2 xt_1 75 rfl rfl
    | 5, _ => exact xc_in2 xt_1 77 rfl rfl
    | 6, _ => exact xc_in2 xt_1 79 rfl rfl
    | 7, _ => exact xc_in2 xt_1 81 rfl rfl
    | k + 8, hk => omega
  intro w hw
  obtain ⟨k, hk, rfl⟩ := List.mem_map.mp hw
  exact h k (List.mem_range.mp hk), tyX0_ok, nmX0, rfl, by decide +kernel⟩
theorem kl_X1 : xc_Kl 1 RX1 TX1 8 tyX1 := ⟨rfl, by
  have h : ∀ k, k < 8 → u_lay RX1 TX1 k ∈ xc_T := by
    intro k hk
    match k, hk with
    | 0, _ => exact xc_in2 xt_1 142 rfl rfl
    | 1, _ => exact xc_in2 xt_1 144 rfl rfl
    | 2, _ => exact xc_in2 xt_1 146 rfl rfl
    | 3, _ => exact xc_in2 xt_1 148 rfl rfl
    | 4, _ => exact xc_in2 xt_1 150 rfl rfl
    | 5, _ => exact xc_in2 xt_1 152 rfl rfl
    | 6, _ => exact xc_in2 xt_1 154 rfl rfl
    | 7, _ => exact xc_in2 xt_1 156 rfl rfl
    | k + 8, hk => omega
  intro w hw
  obtain ⟨k, hk, rfl⟩ := List.mem_map.mp hw
  exact h k (List.mem_range.mp hk), tyX1_ok, nmX1, rfl, by decide +kernel⟩
theorem kl_X2 : xc_Kl 2 RX2 TX2 4 tyX2 := ⟨rfl, by
  have h : ∀ k, k < 4 → u_lay RX2 TX2 k ∈ xc_T := by
    intro k hk
    match k, hk with
    | 0, _ => exact xc_in2 xt_1 117 rfl rfl
    | 1, _ => exact xc_in2 xt_1 119 rfl rfl
    | 2, _ => exact xc_in2 xt_1 121 rfl rfl
    | 3, _ => exact xc_in2 xt_1 123 rfl rfl
    | k + 4, hk => omega
  intro w hw
  obtain ⟨k, hk, rfl⟩ := List.mem_map.mp hw
  exact h k (List.mem_range.mp hk), tyX2_ok, nmX2, rfl, by decide +kernel⟩
theorem kl_X3 : xc_Kl 3 RX3 TX3 4 tyX3 := ⟨rfl, by
  have h : ∀ k, k < 4 → u_lay RX3 TX3 k ∈ xc_T := by
    intro k hk
    match k, hk with
    | 0, _ => exact xc_in2 xt_1 238 rfl rfl
    | 1, _ => exact xc_in2 xt_2 0 rfl rfl
    | 2, _ => exact xc_in2 xt_2 2 rfl rfl
    | 3, _ => exact xc_in2 xt_2 4 rfl rfl
    | k + 4, hk => omega
  intro w hw
  obtain ⟨k, hk, rfl⟩ := List.mem_map.mp hw
  exact h k (List.mem_range.mp hk), tyX3_ok, nmX3, rfl, by decide +kernel⟩
theorem kl_X4 : xc_Kl 4 RX4 TX4 2 tyX4 := ⟨rfl, by
  have h : ∀ k, k < 2 → u_lay RX4 TX4 k ∈ xc_T := by
    intro k hk
    match k, hk with
    | 0, _ => exact xc_in2 xt_1 100 rfl rfl
    | 1, _ => exact xc_in2 xt_1 102 rfl rfl
    | k + 2, hk => omega
  intro w hw
  obtain ⟨k, hk, rfl⟩ := List.mem_map.mp hw
  exact h k (List.mem_range.mp hk), tyX4_ok, nmX4, rfl, by decide +kernel⟩
theorem kl_X5 : xc_Kl 5 RX5 TX5 2 tyX5 := ⟨rfl, by
  have h : ∀ k, k < 2 → u_lay RX5 TX5 k ∈ xc_T := by
    intro k hk
    match k, hk with
    | 0, _ => exact xc_in2 xt_2 17 rfl rfl
    | 1, _ => exact xc_in2 xt_2 19 rfl rfl
    | k + 2, hk => omega
  intro w hw
  obtain ⟨k, hk, rfl⟩ := List.mem_map.mp hw
  exact h k (List.mem_range.mp hk), tyX5_ok, nmX5, rfl, by decide +kernel⟩
theorem kl_X6 : xc_Kl 6 RX6 TX6 8 tyX6 := ⟨rfl, by
  have h : ∀ k, k < 8 → u_lay RX6 TX6 k ∈ xc_T := by
    intro k hk
    match k, hk with
    | 0, _ => exact xc_in2 xt_2 37 rfl rfl
    | 1, _ => exact xc_in2 xt_2 39 rfl rfl
    | 2, _ => exact xc_in2 xt_2 41 rfl rfl
    | 3, _ => exact xc_in2 xt_2 43 rfl rfl
    | 4, _ => exact xc_in2 xt_2 45 rfl rfl
    | 5, _ => exact xc_in2 xt_2 47 rfl rfl
    | 6, _ => exact xc_in2 xt_2 49 rfl rfl
    | 7, _ => exact xc_in2 xt_2 51 rfl rfl
    | k + 8, hk => omega
  intro w hw
  obtain ⟨k, hk, rfl⟩ := List.mem_map.mp hw
  exact h k (List.mem_range.mp hk), tyX6_ok, nmX6, rfl, by decide +kernel⟩
theorem kl_X8 : xc_Kl 7 RX8 TX8 14 tyX8 := ⟨rfl, by
  have h : ∀ k, k < 14 → u_lay RX8 TX8 k ∈ xc_T := by
    intro k hk
    match k, hk with
    | 0, _ => exact xc_in2 xt_1 195 rfl rfl
    | 1, _ => exact xc_in2 xt_1 197 rfl rfl
    | 2, _ => exact xc_in2 xt_1 199 rfl rfl
    | 3, _ => exact xc_in2 xt_1 201 rfl rfl
    | 4, _ => exact xc_in2 xt_1 203 rfl rfl
    | 5, _ => exact xc_in2 xt_1 205 rfl rfl
    | 6, _ => exact xc_in2 xt_1 207 rfl rfl
    | 7, _ => exact xc_in2 xt_1 209 rfl rfl
    | 8, _ => exact xc_in2 xt_1 211 rfl rfl
    | 9, _ => exact xc_in2 xt_1 213 rfl rfl
    | 10, _ => exact xc_in2 xt_1 215 rfl rfl
    | 11, _ => exact xc_in2 xt_1 217 rfl rfl
    | 12, _ => exact xc_in2 xt_1 219 rfl rfl
    | 13, _ => exact xc_in2 xt_1 221 rfl rfl
    | k + 14, hk => omega
  intro w hw
  obtain ⟨k, hk, rfl⟩ := List.mem_map.mp hw
  exact h k (List.mem_range.mp hk), tyX8_ok, nmX8, rfl, by decide +kernel⟩
theorem kl_X9 : xc_Kl 8 RX9 TX9 7 tyX9 := ⟨rfl, by
  have h : ∀ k, k < 7 → u_lay RX9 TX9 k ∈ xc_T := by
    intro k hk
    match k, hk with
    | 0, _ => exact xc_in2 xt_2 61 rfl rfl
    | 1, _ => exact xc_in2 xt_2 63 rfl rfl
    | 2, _ => exact xc_in2 xt_2 65 rfl rfl
    | 3, _ => exact xc_in2 xt_2 67 rfl rfl
    | 4, _ => exact xc_in2 xt_2 69 rfl rfl
    | 5, _ => exact xc_in2 xt_2 71 rfl rfl
    | 6, _ => exact xc_in2 xt_2 73 rfl rfl
    | k + 7, hk => omega
  intro w hw
  obtain ⟨k, hk, rfl⟩ := List.mem_map.mp hw
  exact h k (List.mem_range.mp hk), tyX9_ok, nmX9, rfl, by decide +kernel⟩
theorem kl_X10 : xc_Kl 9 RX10 TX10 16 tyX10 := ⟨rfl, by
  have h : ∀ k, k < 16 → u_lay RX10 TX10 k ∈ xc_T := by
    intro k hk
    match k, hk with
    | 0, _ => exact xc_in2 xt_3 108 rfl rfl
    | 1, _ => exact xc_in2 xt_3 110 rfl rfl
    | 2, _ => exact xc_in2 xt_3 112 rfl rfl
    | 3, _ => exact xc_in2 xt_3 114 rfl rfl
    | 4, _ => exact xc_in2 xt_3 116 rfl rfl
    | 5, _ => exact xc_in2 xt_3 118 rfl rfl
    | 6, _ => exact xc_in2 xt_3 120 rfl rfl
    | 7, _ => exact xc_in2 xt_3 122 rfl rfl
    | 8, _ => exact xc_in2 xt_3 124 rfl rfl
    | 9, _ => exact xc_in2 xt_3 126 rfl rfl
    | 10, _ => exact xc_in2 xt_3 128 rfl rfl
    | 11, _ => exact xc_in2 xt_3 130 rfl rfl
    | 12, _ => exact xc_in2 xt_3 132 rfl rfl
    | 13, _ => exact xc_in2 xt_3 134 rfl rfl
    | 14, _ => exact xc_in2 xt_3 136 rfl rfl
    | 15, _ => exact xc_in2 xt_3 138 rfl rfl
    | k + 16, hk => omega
  intro w hw
  obtain ⟨k, hk, rfl⟩ := List.mem_map.mp hw
  exact h k (List.mem_range.mp hk), tyX10_ok, nmX10, rfl, by decide +kernel⟩
