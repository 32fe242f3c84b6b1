-- ===== a memory that grows: cells by address, each of a kind, with numbers and references =====
/-- kind (0 int[], 1 byte[], 2 int[][], 3 int[][][], 4 Talk[], k + 5 an object of class k), length, numbers, references -/
abbrev xd_C : Type := Nat × Nat × (Nat → Int32) × (Nat → Option Nat)
abbrev xd_M : Type := Nat → Option xd_C
/-- the law's memory, the class's memory, how many cells and how many slots may be made yet -/
abbrev xd_S : Type := xd_M × xc_M × Nat × Nat
/-- the law's world: the class's world, the classes of int[][], int[][][], Talk[]; the script; where the constants and their bytes lie; where DigitOnes and DigitTens lie -/
abbrev xd_Z : Type := xc_X × (ClassId × ClassId × ClassId) × (Nat × Nat × (Nat → Int32)) × (Nat → Nat) × (Nat → Nat) × Nat × Nat
abbrev xd_K : Type := Int32 → Option Nat → xd_S → Prop
def xd_up (M : xd_M) (a : Nat) (c : xd_C) : xd_M := fun b => if b = a then some c else M b
def xd_fs (k : Nat) (c : xd_C) : List Value := (List.range (xc_nf k)).map (fun j => if xc_rf k j = true then va_rf (c.2.2.2 j) else .int (c.2.2.1 j))
def xd_ent (Z : xd_Z) (c : xd_C) : va_E := match c.1 with
  | 0 => .inl (Z.1.2.2.1.1, c.2.1, .inl c.2.2.1)
  | 1 => .inl (Z.1.2.2.1.2.1, c.2.1, .inl c.2.2.1)
  | 2 => .inl (Z.2.1.1, c.2.1, .inr (.inr (.inr (.inr c.2.2.2))))
  | 3 => .inl (Z.2.1.2.1, c.2.1, .inr (.inr (.inr (.inr c.2.2.2))))
  | 4 => .inl (Z.2.1.2.2, c.2.1, .inr (.inr (.inr (.inr c.2.2.2))))
  | k + 5 => .inr (k, xd_fs k c)
def xd_fc (Z : xd_Z) (M : xd_M) (a : Nat) : va_E := match M a with
  | some c => xd_ent Z c
  | none => .inr (0, [])
def xd_ws (Z : xd_Z) (σ : xd_S) (ds : List Nat) : va_W := xc_ws Z.1 σ.2.1 ++ va_pl ds (xd_fc Z σ.1)
def xd_dom (M : xd_M) (ds : List Nat) : Prop := ∀ a : Nat, M a ≠ none ↔ a ∈ ds
def xd_ty (Z : xd_Z) : List (ClassId × FieldType) := [(Z.1.2.2.1.1, .int), (Z.1.2.2.1.2.1, .byte), (Z.1.2.2.1.2.2.1, .object "UnsaidWords$Being"), (Z.2.1.1, .array .int), (Z.2.1.2.1, .array (.array .int)), (Z.2.1.2.2, .object "UnsaidWordsLaw$Talk")]
theorem xd_f_up {Z : xd_Z} {M : xd_M} {a : Nat} {c : xd_C} : xd_fc Z (xd_up M a c) = va_up (xd_fc Z M) a (xd_ent Z c) := by
  funext b
  by_cases h : b = a
  · subst h
    simp [xd_fc, xd_up, va_up]
  · simp [xd_fc, xd_up, va_up, h]
theorem xd_up_self {M : xd_M} {a : Nat} {c : xd_C} : xd_up M a c a = some c := by simp [xd_up]
theorem xd_up_ne {M : xd_M} {a b : Nat} {c : xd_C} (h : b ≠ a) : xd_up M a c b = M b := by simp [xd_up, h]
theorem xd_get {Z : xd_Z} {σ : xd_S} {ds : List Nat} {a : Nat} {c : xd_C} (hd : xd_dom σ.1 ds) (h : σ.1 a = some c) : ∃ k : Nat, (xd_ws Z σ ds)[k]? = some (a, xd_ent Z c) := by
  have hm : a ∈ ds := (hd a).mp (by rw [h]; simp)
  obtain ⟨k, hk⟩ := va_pl_get (X := xc_ws Z.1 σ.2.1) (f := xd_fc Z σ.1) hm
  refine ⟨k, ?_⟩
  rw [show xd_ent Z c = xd_fc Z σ.1 a by simp [xd_fc, h]]
  exact hk
theorem xd_set {Z : xd_Z} {σ : xd_S} {ds : List Nat} {A : Nat → Prop} {a k : Nat} {c c2 : xd_C} (hd : xd_dom σ.1 ds) (h : σ.1 a = some c) (hD : va_D A (xd_ws Z σ ds)) (hk : (xd_ws Z σ ds)[k]? = some (a, xd_ent Z c)) : (xd_ws Z σ ds).set k (a, xd_ent Z c2) = xd_ws Z (xd_up σ.1 a c2, σ.2) ds := by
  have hm : a ∈ ds := (hd a).mp (by rw [h]; simp)
  have e : xd_ent Z c = xd_fc Z σ.1 a := by simp [xd_fc, h]
  rw [e] at hk
  unfold xd_ws at hk hD ⊢
  rw [va_pl_set hD hm hk, xd_f_up]
theorem xd_dom_up {M : xd_M} {ds : List Nat} {a : Nat} {c c2 : xd_C} (hd : xd_dom M ds) (h : M a = some c) : xd_dom (xd_up M a c2) ds := by
  intro b
  by_cases hb : b = a
  · subst hb
    rw [xd_up_self]
    exact ⟨fun _ => (hd b).mp (by rw [h]; simp), fun _ => by simp⟩
  · rw [xd_up_ne hb]
    exact hd b
theorem xd_push {Z : xd_Z} {σ : xd_S} {ds : List Nat} {q : Nat} {c2 : xd_C} (h : q ∉ ds) : xd_ws Z σ ds ++ [(q, xd_ent Z c2)] = xd_ws Z (xd_up σ.1 q c2, σ.2) (ds ++ [q]) := by
  unfold xd_ws
  rw [List.append_assoc, va_pl_push h, xd_f_up]
theorem xd_dom_push {M : xd_M} {ds : List Nat} {q : Nat} {c2 : xd_C} (hd : xd_dom M ds) : xd_dom (xd_up M q c2) (ds ++ [q]) := by
  intro b
  by_cases hb : b = q
  · subst hb
    rw [xd_up_self]
    simp
  · rw [xd_up_ne hb, hd b]
    simp [hb]
theorem xd_none {M : xd_M} {ds : List Nat} {q : Nat} (hd : xd_dom M ds) (h : q ∉ ds) : M q = none := by
  cases hm : M q with
  | none => rfl
  | some c => exact absurd ((hd q).mp (by rw [hm]; simp)) h
-- ===== what is read alone: the class's words, the constants, the script, the digits, the links of nest mates =====
def yk_n : Nat := 19
def yk_ix : List Nat := [60, 65, 67, 76, 92, 94, 96, 104, 106, 108, 110, 120, 122, 124, 126, 128, 130, 132, 134]
def yk_tx : List String := ["means", " or", " ", ";", "need ", " by ", " worth ", "on ", " goes ", " says ", " rests", "keep ", "+kin*5 when long>", " and not (knows<3 or word=", ");keep ", "+said-day+day/3*3;hear knows/2 when unsaid>", " or at=3;hear ", ";tire long+", "-unsaid/5;"]
def yk_len : List Nat := [5, 3, 1, 1, 5, 4, 7, 3, 6, 6, 6, 5, 17, 26, 7, 43, 14, 11, 10]
def yk_byt : List (List Int32) := [[109, 101, 97, 110, 115], [32, 111, 114], [32], [59], [110, 101, 101, 100, 32], [32, 98, 121, 32], [32, 119, 111, 114, 116, 104, 32], [111, 110, 32], [32, 103, 111, 101, 115, 32], [32, 115, 97, 121, 115, 32], [32, 114, 101, 115, 116, 115], [107, 101, 101, 112, 32], [43, 107, 105, 110, 42, 53, 32, 119, 104, 101, 110, 32, 108, 111, 110, 103, 62], [32, 97, 110, 100, 32, 110, 111, 116, 32, 40, 107, 110, 111, 119, 115, 60, 51, 32, 111, 114, 32, 119, 111, 114, 100, 61], [41, 59, 107, 101, 101, 112, 32], [43, 115, 97, 105, 100, 45, 100, 97, 121, 43, 100, 97, 121, 47, 51, 42, 51, 59, 104, 101, 97, 114, 32, 107, 110, 111, 119, 115, 47, 50, 32, 119, 104, 101, 110, 32, 117, 110, 115, 97, 105, 100, 62], [32, 111, 114, 32, 97, 116, 61, 51, 59, 104, 101, 97, 114, 32], [59, 116, 105, 114, 101, 32, 108, 111, 110, 103, 43], [45, 117, 110, 115, 97, 105, 100, 47, 53, 59]]
def yd_ones (j : Nat) : Int32 := nI (48 + j % 10)
def yd_tens (j : Nat) : Int32 := nI (48 + j / 10)
def xd_nf : List (Nat × Nat) := [(181, 0), (89, 1), (171, 2), (37, 3), (98, 4), (136, 8), (149, 9), (101, 10), (86, 11), (166, 13), (54, 14), (117, 15)]
def xd_AA (t : FieldType) (U : State) : Prop := (Cond.arrayOver (.array t)).before #[] U = true
theorem xd_AA.moved {t : FieldType} {u U : State} (hvm : u.vm.Alike U.vm) (h : xd_AA t u) : xd_AA t U := by
  obtain ⟨comp, c, k, h1, h2, h3, h4, h5⟩ := arrayOverA_spec (args := #[]) (first := u) (o := none) (s := u) (idx := []) h
  obtain ⟨k2, hk2, he⟩ := hvm.2.2 _ _ h3
  have hi : (U.vm.classes.findIdx? fun (x : Class) => match x.kind with | .array component _ => component == comp | _ => false) = some c := by
    rw [hvm.findIdx?_eq _ (fun _ => rfl)]
    exact h2
  have hkind : k2.kind = .array comp (.array t) := by rw [he]; exact h4
  have f1 : U.vm.findClass (FieldType.array t).toString = some comp := by rw [hvm.findClass]; exact h1
  have f2 : U.vm.findClass ("[" ++ (FieldType.array t).toString) = some c := by rw [hvm.findClass]; exact h5
  unfold xd_AA Cond.before Cond.holds
  simp only [Cond.value]
  rw [f1, Option.bind_some]
  refine (congrArg (fun o : Option Nat => (o.bind (fun c => (U.vm.classes[c]?).map fun (k : Class) => match k.kind with | .array _ ty => decide (ty = FieldType.array t) && decide (U.vm.findClass ("[" ++ (FieldType.array t).toString) = some c) | _ => false) == some true)) hi).trans ?_
  simp [hk2, hkind, f2]
def xd_ps : List MethodName := [yJ5_ensureCapacityInternal_d00df, yJ5_inflateIfNeededFor_a7421, yJ5_newCapacity_0f7a4, yJ5_putStringAt_47b60]
def xd_Nw (U : State) : Prop := (∀ q ∈ xd_nf, va_Nw (.fieldLinkNest RL q.1 RX10 (TX10 q.2).2.1 (TX10 q.2).2.2.1 RL) U) ∧ va_Nw (.methodLinkNest RX10 83 yL_held RL) U ∧ va_Nw (.castable "[I" "java/lang/Cloneable") U ∧ xd_AA .int U ∧ xd_AA (.array .int) U ∧ va_AO "UnsaidWordsLaw$Talk" U ∧ va_Nw (.castable "[B" "java/lang/Cloneable") U ∧ ∀ y ∈ xd_ps, va_Nw (.selects RJ4 y y) U
theorem xd_Nw.same {u U : State} (hv : u.vm = U.vm) (h : xd_Nw u) : xd_Nw U := ⟨fun q hq => va_Nw.same rfl hv (h.1 q hq), va_Nw.same rfl hv h.2.1, va_Nw.same rfl hv h.2.2.1, by
  have hA : u.vm.Alike U.vm := hv ▸ Vm.Alike.refl u.vm
  exact ⟨h.2.2.2.1.moved hA, h.2.2.2.2.1.moved hA, h.2.2.2.2.2.1.moved hA, va_Nw.same rfl hv h.2.2.2.2.2.2.1, fun y hy => va_Nw.same rfl hv (h.2.2.2.2.2.2.2 y hy)⟩⟩
theorem xd_Nw.warm {s U : State} (hW : s.WarmedH U.vm) (h : xd_Nw s) : xd_Nw U := ⟨fun q hq => va_Nw.warmF hW (h.1 q hq), va_Nw.warmM hW h.2.1, va_Nw.warmC hW h.2.2.1, h.2.2.2.1.moved hW.alike, h.2.2.2.2.1.moved hW.alike, h.2.2.2.2.2.1.moved hW.alike, va_Nw.warmC hW h.2.2.2.2.2.2.1, fun y hy => word_at (a' := #[]) hW (Or.inl rfl) (h.2.2.2.2.2.2.2 y hy)⟩
def xd_Zn (Z : xd_Z) (A : Nat → Prop) (U : State) : Prop := xc_Z Z.1 A U ∧ vk_S yk_n yk_len yk_byt Z.2.2.2.1 Z.2.2.2.2.1 A U U.heap ∧ (∀ i : Nat, i < yk_n → vk_R RL (yk_ix.getD i 0) (yk_tx.getD i "") (Z.2.2.2.1 i) U) ∧ (va_X Z.2.2.1.1 Z.2.2.1.2.1 Z.2.2.1.2.2 U U.heap ∧ Z.2.2.1.1 < U.heap.size ∧ ¬ A Z.2.2.1.1) ∧ (va_Z "java/lang/Integer" "DigitOnes" "[B" (.ref Z.2.2.2.2.2.1) A U U.heap ∧ va_T .byte Z.2.2.2.2.2.1 100 (fun j => .int (yd_ones j)) A U U.heap) ∧ (va_Z "java/lang/Integer" "DigitTens" "[B" (.ref Z.2.2.2.2.2.2) A U U.heap ∧ va_T .byte Z.2.2.2.2.2.2 100 (fun j => .int (yd_tens j)) A U U.heap) ∧ xd_Nw U
theorem xd_Zn.blind {Z : xd_Z} {A : Nat → Prop} {U : State} {g : JFrame} {mk : MethodId} {a : Array Value} (h : xd_Zn Z A U) : xd_Zn Z A (U.calling g mk a) := by
  obtain ⟨h1, h2, h3, ⟨h4, h5, h6⟩, ⟨h7, h8⟩, ⟨h9, h10⟩, h11⟩ := h
  have hA : U.vm.Alike (U.calling g mk a).vm := Vm.Alike.refl U.vm
  exact ⟨h1.blind, vk_S.moved (u := U) (U := U.calling g mk a) hA h2, fun i hi => vk_R.same (u := U) rfl (h3 i hi), ⟨va_X.moved (u := U) (U := U.calling g mk a) hA h4, h5, h6⟩, ⟨va_Z.moved (u := U) (U := U.calling g mk a) hA h7, va_T.moved (u := U) (U := U.calling g mk a) hA h8⟩, ⟨va_Z.moved (u := U) (U := U.calling g mk a) hA h9, va_T.moved (u := U) (U := U.calling g mk a) hA h10⟩, xd_Nw.same (u := U) rfl h11⟩
theorem xd_Zn.to {Z : xd_Z} {A B : Nat → Prop} {s U : State} {H : Heap} {locs : List Loc} (h : xd_Zn Z A s) (hS : va_S A s.heap H locs) (hB : ∀ q, B q → A q) (hU : U.heap = H) (hW : s.WarmedH U.vm) : xd_Zn Z B U := by
  obtain ⟨h1, h2, h3, ⟨h4, h5, h6⟩, ⟨h7, h8⟩, ⟨h9, h10⟩, h11⟩ := h
  refine ⟨h1.to hS hB hU hW, ?_, fun i hi => vk_R.warm hW (h3 i hi), ⟨?_, ?_, fun q => h6 (hB _ q)⟩, ⟨?_, ?_⟩, ⟨?_, ?_⟩, h11.warm hW⟩
  · rw [hU]; exact (vk_S.moved hW.alike (h2.kept hS.2.1)).narrow hB
  · rw [hU]
    obtain ⟨scr, q1, q2, q3, q4, q5⟩ := va_X.moved hW.alike h4
    exact ⟨scr, by rw [hS.2.1 _ h5 h6]; exact q1, q2, q3, q4, q5⟩
  · rw [hU]; exact Nat.lt_of_lt_of_le h5 hS.1
  · rw [hU]; exact (va_Z.moved hW.alike (h7.kept hS.2.1)).narrow hB
  · rw [hU]; exact (va_T.moved hW.alike (h8.kept hS.2.1)).narrow hB
  · rw [hU]; exact (va_Z.moved hW.alike (h9.kept hS.2.1)).narrow hB
  · rw [hU]; exact (va_T.moved hW.alike (h10.kept hS.2.1)).narrow hB
-- ===== where a method of the law stands =====
def xd_Kl (c : Nat) (R : String) (T : u_T) (N : Nat) (ty : Nat → FieldType) : Prop := vwCl[c]? = some (R, T, N) ∧ (∀ w ∈ u_ws R T N, w ∈ xc_T) ∧ (∀ k, k < N → parseFieldDescriptor (T k).2.2.1 = some (ty k)) ∧ (∀ a, a < N → ∀ b, b < N → a ≠ b → (T a).2.1 ≠ (T b).2.1) ∧ xc_nf c = N
def xd_rm (n mc ms : Nat) : Room := { frames := n + 1, cells := mc, slots := ms, locals := 64 * (n + 1) }
def xd_Ok (Z : xd_Z) (C : xc_C) (A : Nat → Prop) (n : Nat) (cc : ByteArray) (own : String) (nL : Nat) : Prop := C.1.tables.exec = Jvm.exec ∧ C.2.2.2.2.2.2.2.2.code = cc ∧ C.2.2.2.2.2.2.2.2.maxLocals = nL ∧ C.2.2.2.1.vm.findClass own = some C.2.2.2.2.1.cls ∧ (∀ w ∈ xc_T, w.before C.2.2.2.2.2.1 C.2.2.2.1 = true) ∧ va_K Z.1.2.1 vwCl (xd_ty Z) C.2.2.2.1 ∧ (n + 1 ≤ C.2.2.1.frames ∧ 64 * (n + 1) ≤ C.2.2.1.locals) ∧ (∀ q : Nat, C.2.2.2.1.heap.size ≤ q → A q) ∧ xd_Zn Z A C.2.2.2.1
def xd_W (Z : xd_Z) (C : xc_C) (H : Heap) (locs : List Loc) (cu su : Nat) (Q : State → Prop) (g : JFrame) : Prop := W C.1 Z.1.1 C.2.1 C.2.2.1 C.2.2.2.1 C.2.2.2.2.1 C.2.2.2.2.2.1 C.2.2.2.2.2.2.1 C.2.2.2.2.2.2.2.1 C.2.2.2.2.2.2.2.2 H locs cu su Q g
def xd_G (Z : xd_Z) (C : xc_C) (A : Nat → Prop) (Q : State → Prop) (nL pc : Nat) (lv : List (Nat × Value)) (st : List Value) (σ : xd_S) : Prop := ∀ (H : Heap) (locs : List Loc) (ls : Array Slot) (ds : List Nat) (cu su : Nat), xd_dom σ.1 ds → cu + σ.2.2.1 ≤ C.2.2.1.cells → su + σ.2.2.2 ≤ C.2.2.1.slots → va_P Z.1.2.1 vwCl (xd_ws Z σ ds) H → va_D A (xd_ws Z σ ds) → va_S A C.2.2.2.1.heap H locs → lv_has ls nL lv → xd_W Z C H locs cu su Q (F0 C.2.2.2.2.1 pc ls st)
/-- from here on the method ends as Q says, if t holds -/
def xd_T (Z : xd_Z) (C : xc_C) (A : Nat → Prop) (Q : State → Prop) (nL : Nat) (t : Prop) (pc : Nat) (lv : List (Nat × Value)) (st : List Value) (σ : xd_S) : Prop := t → xd_G Z C A Q nL pc lv st σ
def xd_B (Z : xd_Z) (A : Nat → Prop) (u : xd_S × List Nat) (t : State) : Prop := va_P Z.1.2.1 vwCl (xd_ws Z u.1 u.2) t.heap ∧ va_K Z.1.2.1 vwCl (xd_ty Z) t ∧ va_D A (xd_ws Z u.1 u.2) ∧ xd_dom u.1.1 u.2
def xd_isI (rt : FieldType) : Bool := match rt with
  | .object _ => false
  | .array _ => false
  | _ => true
def xd_Q (Z : xd_Z) (A : Nat → Prop) (ret : Option FieldType) (K : xd_K) : Array Value → State → Outcome → State → Prop := match ret with
  | none => va_Qv (fun u : xd_S × List Nat => K 0 none u.1) (xd_B Z A) A
  | some rt => if xd_isI rt = true then va_Qi (fun (r : Int32) (u : xd_S × List Nat) => K r none u.1) (xd_B Z A) A else va_Qq (fun (r : Option Nat) (u : xd_S × List Nat) => K 0 r u.1) (xd_B Z A) A
def xd_MQ (Z : xd_Z) (C : xc_C) (A : Nat → Prop) (ret : Option FieldType) (K : xd_K) : State → Prop := MQ C.2.2.2.2.2.2.1 (xd_Q Z A ret K) C.2.2.2.2.2.1 C.2.2.2.1 C.2.2.1.cells C.2.2.1.slots A
/-- the method y, called with av over the memory σ, ends as the program p says -/
def xd_Cf (Z : xd_Z) (n : Nat) (y : MethodName) (cc : ByteArray) (maxL : Nat) (ret : Option FieldType) (av : List Value) (σ : xd_S) (p : xd_K → Prop) : Prop := ∀ K : xd_K, p K → ∀ (sz : Nat) (ds : List Nat), xd_dom σ.1 ds → Met Z.1.1 y (.code y cc maxL ret :: xc_T) (xd_rm n σ.2.2.1 σ.2.2.2) (va_Pc av (fun U => U.heap.size = sz ∧ va_P Z.1.2.1 vwCl (xd_ws Z σ ds) U.heap ∧ va_K Z.1.2.1 vwCl (xd_ty Z) U ∧ va_D (fun _ => True) (xd_ws Z σ ds) ∧ xd_Zn Z (va_A (xd_ws Z σ ds) sz) U)) (xd_Q Z (va_A (xd_ws Z σ ds) sz) ret K) σ.2.2.1 σ.2.2.2 (va_A (xd_ws Z σ ds) sz)
-- ===== the programs =====
def xd_lt (x : Int32) (f : Int32 → Prop) : Prop := f x
def xd_dv (x y : Int32) (f : Int32 → Prop) : Prop := ¬ y = 0 ∧ f (x / y)
def xd_rem (x y : Int32) (f : Int32 → Prop) : Prop := ¬ y = 0 ∧ f (x - x / y * y)
/-- field j of the object a of kind k -/
def xd_gI (k a j : Nat) (σ : xd_S) (f : Int32 → Prop) : Prop := ∃ c : xd_C, σ.1 a = some c ∧ c.1 = k ∧ f (c.2.2.1 j)
def xd_gR (k a j : Nat) (σ : xd_S) (f : Nat → Prop) : Prop := ∃ (c : xd_C) (b : Nat), σ.1 a = some c ∧ c.1 = k ∧ c.2.2.2 j = some b ∧ f b
def xd_gO (k a j : Nat) (σ : xd_S) (f : Option Nat → Prop) : Prop := ∃ c : xd_C, σ.1 a = some c ∧ c.1 = k ∧ f (c.2.2.2 j)
def xd_pI (k a j : Nat) (v : Int32) (σ : xd_S) (f : xd_S → Prop) : Prop := ∃ c : xd_C, σ.1 a = some c ∧ c.1 = k ∧ f (xd_up σ.1 a (k, c.2.1, upd c.2.2.1 j v, c.2.2.2), σ.2)
def xd_pR (k a j : Nat) (v : Option Nat) (σ : xd_S) (f : xd_S → Prop) : Prop := ∃ c : xd_C, σ.1 a = some c ∧ c.1 = k ∧ f (xd_up σ.1 a (k, c.2.1, c.2.2.1, va_up c.2.2.2 j v), σ.2)
/-- element i of the array a of kind k -/
def xd_aI (k a : Nat) (i : Int32) (σ : xd_S) (f : Int32 → Prop) : Prop := ∃ c : xd_C, σ.1 a = some c ∧ c.1 = k ∧ vp_in i c.2.1 ∧ f (c.2.2.1 i.toNatClampNeg)
def xd_aR (k a : Nat) (i : Int32) (σ : xd_S) (f : Nat → Prop) : Prop := ∃ (c : xd_C) (b : Nat), σ.1 a = some c ∧ c.1 = k ∧ vp_in i c.2.1 ∧ c.2.2.2 i.toNatClampNeg = some b ∧ f b
def xd_sI (k a : Nat) (i v : Int32) (σ : xd_S) (f : xd_S → Prop) : Prop := ∃ c : xd_C, σ.1 a = some c ∧ c.1 = k ∧ vp_in i c.2.1 ∧ f (xd_up σ.1 a (k, c.2.1, upd c.2.2.1 i.toNatClampNeg v, c.2.2.2), σ.2)
/-- the reference of kind kv (of the array's own component) put into the array -/
def xd_sR (k kv a : Nat) (i : Int32) (b : Nat) (σ : xd_S) (f : xd_S → Prop) : Prop := ∃ c d : xd_C, σ.1 a = some c ∧ c.1 = k ∧ σ.1 b = some d ∧ d.1 = kv ∧ vp_in i c.2.1 ∧ f (xd_up σ.1 a (k, c.2.1, c.2.2.1, va_up c.2.2.2 i.toNatClampNeg (some b)), σ.2)
def xd_al (k a : Nat) (σ : xd_S) (f : Int32 → Prop) : Prop := ∃ c : xd_C, σ.1 a = some c ∧ c.1 = k ∧ f (nI c.2.1)
/-- a cell c of s slots is made -/
def xd_nw (c : xd_C) (s : Nat) (σ : xd_S) (f : Nat → xd_S → Prop) : Prop := 1 ≤ σ.2.2.1 ∧ s ≤ σ.2.2.2 ∧ ∀ a : Nat, σ.1 a = none → f a (xd_up σ.1 a c, σ.2.1, σ.2.2.1 - 1, σ.2.2.2 - s)
/-- an array of kind k and m elements is made -/
def xd_na (k : Nat) (m : Int32) (σ : xd_S) (f : Nat → xd_S → Prop) : Prop := ¬ m < 0 ∧ m.toNatClampNeg * 4 ≤ 536870912 ∧ xd_nw (k, m.toNatClampNeg, fun _ => 0, fun _ => none) m.toNatClampNeg σ f
def xd_cl (a : Nat) (σ : xd_S) (f : Nat → xd_S → Prop) : Prop := ∃ c : xd_C, σ.1 a = some c ∧ c.1 = 0 ∧ xd_nw (0, c.2.1, c.2.2.1, fun _ => none) c.2.1 σ f
/-- a call of the class: what it answers, and its memory then -/
def xd_xc (t : Option (Int32 × xc_M)) (σ : xd_S) (f : Int32 → xd_S → Prop) : Prop := ∃ (r : Int32) (J : xc_M), t = some (r, J) ∧ f r (σ.1, J, σ.2.2)
def xd_xr (t : Option Int32) (f : Int32 → Prop) : Prop := ∃ r : Int32, t = some r ∧ f r
/-- a call of the law's own: c1 cells of s1 slots are kept for it -/
def xd_ca (p : xd_S → xd_K → Prop) (σ : xd_S) (f : xd_K) : Prop := ∃ c1 s1 : Nat, c1 ≤ σ.2.2.1 ∧ s1 ≤ σ.2.2.2 ∧ p (σ.1, σ.2.1, c1, s1) (fun r ro τ => f r ro (τ.1, τ.2.1, σ.2.2.1 - c1, σ.2.2.2 - s1))
def xd_rb (x : Int32) (K : xd_K) (σ : xd_S) : Prop := (x = 0 ∨ x = 1) ∧ K x none σ
def xd_mz (k a j : Nat) (v : Int32) (σ : xd_S) (f : xd_S → Prop) : Prop := (v = 0 ∨ v = 1) ∧ xd_pI k a j v σ f
def xd_ifn (r : Option Nat) (t1 : Prop) (t2 : Nat → Prop) : Prop := match r with
  | none => t1
  | some a => t2 a
/-- the script's element i, its length -/
def xd_sc (Z : Nat × Nat × (Nat → Int32)) (i : Int32) (f : Int32 → Prop) : Prop := vp_in i Z.2.1 ∧ f (Z.2.2 i.toNatClampNeg)
def xd_kb (k : Nat) (i : Int32) (f : Int32 → Prop) : Prop := vp_in i (yk_len.getD k 0) ∧ f ((yk_byt.getD k []).getD i.toNatClampNeg 0)
def xd_dg (d : Nat → Int32) (i : Int32) (f : Int32 → Prop) : Prop := vp_in i 100 ∧ f (d i.toNatClampNeg)
