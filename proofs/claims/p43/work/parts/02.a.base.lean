-- ===== memory of numbers, shapes of cells, worlds =====
abbrev xc_M : Type := Nat → Nat → Int32
abbrev xc_Sh : Type := List (Nat × Nat)
abbrev xc_Px : Type := Nat → Nat → Option Nat
/-- a world: the launch, the classes' numbers and slots, the three classes of arrays, the shapes of the cells, their references, their addresses -/
abbrev xc_X : Type := Launch × va_G × (ClassId × ClassId × ClassId × (Nat → Nat) × (Nat → Nat)) × xc_Sh × xc_Px × (Nat → Nat)
def xc_wr (I : xc_M) (a k : Nat) (v : Int32) : xc_M := fun b j => if b = a ∧ j = k then v else I b j
def xc_rfs : List (List Bool) := [[false, false, false, true, true, true, true, true], [false, false, true, true, true, true, true, true], [false, true, true, true], [false, false, true, true], [false, true], [false, true], [false, false, false, false, true, true, true, false], [false, false, false, true, true, true, true, true, true, true, true, true, true, true], [true, true, true, true, true, true, false], [false, false, false, false, false, false, false, false, true, true, true, true, true, true, true, true], [true, false, false, false], [true, false, false, false]]
def xc_rf (c k : Nat) : Bool := (xc_rfs.getD c []).getD k false
def xc_fv (X : xc_X) (I : xc_M) (c a k : Nat) : Value := if xc_rf c k = true then (match X.2.2.2.2.1 a k with | none => .null | some x => .ref (X.2.2.2.2.2 x)) else .int (I a k)
def xc_fs (X : xc_X) (I : xc_M) (c a : Nat) : List Value := (List.range (xc_nf c)).map (xc_fv X I c a)
def xc_ent (X : xc_X) (I : xc_M) (a : Nat) (k : Nat × Nat) : va_E := match k.1 with
  | 0 => .inl (X.2.2.1.1, k.2, .inl (I a))
  | 1 => .inl (X.2.2.1.2.1, k.2, .inl (I a))
  | 2 => .inl (X.2.2.1.2.2.1, k.2, .inr (.inr (.inr (.inr (fun j => (X.2.2.2.2.1 a j).map X.2.2.2.2.2)))))
  | c + 3 => .inr (c, xc_fs X I c a)
def xc_ws (X : xc_X) (I : xc_M) : va_W := X.2.2.2.1.mapIdx (fun a k => (X.2.2.2.2.2 a, xc_ent X I a k))
theorem xc_at {X : xc_X} (I : xc_M) {a : Nat} {k : Nat × Nat} (h : X.2.2.2.1[a]? = some k) : (xc_ws X I)[a]? = some (X.2.2.2.2.2 a, xc_ent X I a k) := by
  unfold xc_ws
  rw [List.getElem?_mapIdx, h]
  rfl
theorem xc_ent_ne {X : xc_X} {I : xc_M} {a b k : Nat} {v : Int32} {s : Nat × Nat} (h : b ≠ a) : xc_ent X (xc_wr I a k v) b s = xc_ent X I b s := by
  have h1 : xc_wr I a k v b = I b := by
    funext j
    simp [xc_wr, h]
  obtain ⟨c, n⟩ := s
  match c with
  | 0 => simp [xc_ent, h1]
  | 1 => simp [xc_ent, h1]
  | 2 => rfl
  | c + 3 =>
    simp only [xc_ent, xc_fs]
    congr 2
    apply List.map_congr_left
    intro j _
    simp only [xc_fv, h1]
theorem xc_set {X : xc_X} {I : xc_M} {a k : Nat} {v : Int32} {s : Nat × Nat} {e : va_E} (h : X.2.2.2.1[a]? = some s) (he : e = xc_ent X (xc_wr I a k v) a s) : (xc_ws X I).set a (X.2.2.2.2.2 a, e) = xc_ws X (xc_wr I a k v) := by
  apply List.ext_getElem?
  intro j
  have hlen : a < (xc_ws X I).length := (List.getElem?_eq_some_iff.mp (xc_at I h)).1
  by_cases hj : j = a
  · subst hj
    rw [List.getElem?_set_self hlen, xc_at _ h, he]
  · rw [List.getElem?_set_ne (Ne.symm hj)]
    unfold xc_ws
    rw [List.getElem?_mapIdx, List.getElem?_mapIdx]
    cases hs : X.2.2.2.1[j]? with
    | none => rfl
    | some t =>
      simp only [Option.map_some]
      rw [xc_ent_ne hj]
theorem xc_wr_arr (I : xc_M) (a k : Nat) (v : Int32) : upd (I a) k v = xc_wr I a k v a := by
  funext j
  simp [upd, xc_wr]
theorem xc_wr_fs {X : xc_X} {I : xc_M} {c a k : Nat} {v : Int32} (hr : xc_rf c k = false) : (xc_fs X I c a).set k (.int v) = xc_fs X (xc_wr I a k v) c a := by
  apply List.ext_getElem?
  intro j
  unfold xc_fs
  by_cases hj : j = k
  · subst hj
    by_cases hl : j < xc_nf c
    · rw [List.getElem?_set_self (by simpa using hl)]
      simp [hl, xc_fv, hr, xc_wr]
    · have h1 : ((List.range (xc_nf c)).map (xc_fv X I c a)).length ≤ j := by simp; omega
      rw [List.getElem?_eq_none (by simpa using h1), List.getElem?_eq_none (by simp; omega)]
  · rw [List.getElem?_set_ne (Ne.symm hj)]
    by_cases hl : j < xc_nf c
    · simp [hl, xc_fv, xc_wr, hj]
    · rw [List.getElem?_eq_none (by simp; omega), List.getElem?_eq_none (by simp; omega)]
abbrev xc_ty (X : xc_X) : List (ClassId × FieldType) := [(X.2.2.1.1, .int), (X.2.2.1.2.1, .byte), (X.2.2.1.2.2.1, .object "UnsaidWords$Being")]
-- ===== the String constants of the reference =====
def xk_ix : List Nat := [129, 122, 153, 121, 119, 123, 125, 127, 129, 131, 100, 106, 108, 110, 112, 114, 116, 117, 136, 138, 140, 142, 144, 146, 148]
def xk_ow : List String := [RX6, RX6, RX10, RX10, RX10, RX10, RX10, RX10, RX10, RX10, RX10, RX10, RX10, RX10, RX10, RX10, RX10, RX10, RX10, RX10, RX10, RX10, RX10, RX10, RX10]
def xk_tx : List String := ["means or and not keep hear tire when word long unsaid said kin knows at day on goes says rests need by worth ", ";+-*/()<=>", "means", "or", "when", "and", "not", "keep", "hear", "tire", "word", "long", "unsaid", "said", "kin", "knows", "at", "day", "on", "goes", "says", "rests", "need", "by", "worth"]
def xk_len : List Nat := [109, 10, 5, 2, 4, 3, 3, 4, 4, 4, 4, 4, 6, 4, 3, 5, 2, 3, 2, 4, 4, 5, 4, 2, 5]
def xk_byt : List (List Int32) := [[109, 101, 97, 110, 115, 32, 111, 114, 32, 97, 110, 100, 32, 110, 111, 116, 32, 107, 101, 101, 112, 32, 104, 101, 97, 114, 32, 116, 105, 114, 101, 32, 119, 104, 101, 110, 32, 119, 111, 114, 100, 32, 108, 111, 110, 103, 32, 117, 110, 115, 97, 105, 100, 32, 115, 97, 105, 100, 32, 107, 105, 110, 32, 107, 110, 111, 119, 115, 32, 97, 116, 32, 100, 97, 121, 32, 111, 110, 32, 103, 111, 101, 115, 32, 115, 97, 121, 115, 32, 114, 101, 115, 116, 115, 32, 110, 101, 101, 100, 32, 98, 121, 32, 119, 111, 114, 116, 104, 32], [59, 43, 45, 42, 47, 40, 41, 60, 61, 62], [109, 101, 97, 110, 115], [111, 114], [119, 104, 101, 110], [97, 110, 100], [110, 111, 116], [107, 101, 101, 112], [104, 101, 97, 114], [116, 105, 114, 101], [119, 111, 114, 100], [108, 111, 110, 103], [117, 110, 115, 97, 105, 100], [115, 97, 105, 100], [107, 105, 110], [107, 110, 111, 119, 115], [97, 116], [100, 97, 121], [111, 110], [103, 111, 101, 115], [115, 97, 121, 115], [114, 101, 115, 116, 115], [110, 101, 101, 100], [98, 121], [119, 111, 114, 116, 104]]
def xc_Z (X : xc_X) (A : Nat → Prop) (U : State) : Prop := vk_S 2 xk_len xk_byt X.2.2.1.2.2.2.1 X.2.2.1.2.2.2.2 A U U.heap ∧ (∀ i : Nat, i < 2 → vk_R (xk_ow.getD i "") (xk_ix.getD i 0) (xk_tx.getD i "") (X.2.2.1.2.2.2.1 i) U) ∧ va_Z "java/lang/String" "COMPACT_STRINGS" "Z" (.int 1) A U U.heap ∧ (∃ v : Value, (v = .null ∨ ∃ a : Nat, v = .ref a) ∧ va_Z "jdk/internal/util/Preconditions" "SIOOBE_FORMATTER" "Ljava/util/function/BiFunction;" v A U U.heap) ∧ True
theorem xc_Z.blind {X : xc_X} {A : Nat → Prop} {U : State} {g : JFrame} {mk : MethodId} {a : Array Value} (h : xc_Z X A U) : xc_Z X A (U.calling g mk a) := ⟨vk_S.moved (u := U) (U := U.calling g mk a) (Vm.Alike.refl U.vm) h.1, fun i hi => vk_R.same (u := U) rfl (h.2.1 i hi), va_Z.moved (u := U) (U := U.calling g mk a) (Vm.Alike.refl U.vm) h.2.2.1, by
  obtain ⟨v, hv, hZ⟩ := h.2.2.2.1
  exact ⟨v, hv, va_Z.moved (u := U) (U := U.calling g mk a) (Vm.Alike.refl U.vm) hZ⟩, trivial⟩
theorem xc_Z.to {X : xc_X} {A B : Nat → Prop} {s U : State} {H : Heap} {locs : List Loc} (h : xc_Z X A s) (hS : va_S A s.heap H locs) (hB : ∀ q, B q → A q) (hU : U.heap = H) (hW : s.WarmedH U.vm) : xc_Z X B U := ⟨by rw [hU]; exact (vk_S.moved hW.alike (h.1.kept hS.2.1)).narrow hB, fun i hi => vk_R.warm hW (h.2.1 i hi), by rw [hU]; exact (va_Z.moved hW.alike (h.2.2.1.kept hS.2.1)).narrow hB, by
  obtain ⟨v, hv, hZ⟩ := h.2.2.2.1
  exact ⟨v, hv, by rw [hU]; exact (va_Z.moved hW.alike (hZ.kept hS.2.1)).narrow hB⟩, trivial⟩
-- ===== where a method stands =====
abbrev xc_C : Type := Program × Env × Room × State × MethodId × Array Value × List Frame × Method × Code
def xc_rm (n : Nat) : Room := { frames := n + 1, cells := 0, slots := 0, locals := 64 * (n + 1) }
def xc_Ok (X : xc_X) (C : xc_C) (A : Nat → Prop) (n : Nat) (cc : ByteArray) (own : String) (nL : Nat) (ret : Option FieldType) : Prop := C.1.tables.exec = Jvm.exec ∧ C.2.2.2.2.2.2.2.2.code = cc ∧ C.2.2.2.2.2.2.2.2.maxLocals = nL ∧ C.2.2.2.1.vm.findClass own = some C.2.2.2.2.1.cls ∧ (∀ w ∈ xc_T, w.before C.2.2.2.2.2.1 C.2.2.2.1 = true) ∧ va_K X.2.1 vwCl (xc_ty X) C.2.2.2.1 ∧ C.2.2.2.2.2.2.2.1.sig.returnType = ret ∧ C.2.2.2.2.2.2.2.1.locks = false ∧ C.2.2.1 = xc_rm n ∧ (∀ q : Nat, C.2.2.2.1.heap.size ≤ q → A q) ∧ xc_Z X A C.2.2.2.1
def xc_W (X : xc_X) (C : xc_C) (H : Heap) (locs : List Loc) (Q : State → Prop) (g : JFrame) : Prop := W C.1 X.1 C.2.1 C.2.2.1 C.2.2.2.1 C.2.2.2.2.1 C.2.2.2.2.2.1 C.2.2.2.2.2.2.1 C.2.2.2.2.2.2.2.1 C.2.2.2.2.2.2.2.2 H locs 0 0 Q g
def xc_G (X : xc_X) (C : xc_C) (A : Nat → Prop) (Q : State → Prop) (nL pc : Nat) (lv : List (Nat × Value)) (st : List Value) (I : xc_M) : Prop := ∀ (H : Heap) (locs : List Loc) (ls : Array Slot), va_P X.2.1 vwCl (xc_ws X I) H → va_D A (xc_ws X I) → va_S A C.2.2.2.1.heap H locs → lv_has ls nL lv → xc_W X C H locs Q (F0 C.2.2.2.2.1 pc ls st)
def xc_B (X : xc_X) (A : Nat → Prop) (u : xc_M) (t : State) : Prop := va_P X.2.1 vwCl (xc_ws X u) t.heap ∧ va_K X.2.1 vwCl (xc_ty X) t ∧ va_D A (xc_ws X u)
def xc_Q (X : xc_X) (A : Nat → Prop) (ret : Option FieldType) (r : Int32) (I : xc_M) : Array Value → State → Outcome → State → Prop := match ret with
  | none => va_Qv (fun u : xc_M => u = I) (xc_B X A) A
  | some _ => va_Qi (fun (r2 : Int32) (u : xc_M) => r2 = r ∧ u = I) (xc_B X A) A
/-- from here on the method answers as the program t says -/
def xc_S (X : xc_X) (C : xc_C) (A : Nat → Prop) (nL : Nat) (ret : Option FieldType) {α : Type} (fin : α → Int32 × xc_M) (t : Option α) (pc : Nat) (lv : List (Nat × Value)) (st : List Value) (I : xc_M) : Prop := ∀ q : α, t = some q → xc_G X C A (MQ C.2.2.2.2.2.2.1 (xc_Q X A ret (fin q).1 (fin q).2) C.2.2.2.2.2.1 C.2.2.2.1 0 0 A) nL pc lv st I
/-- the method y, called with av over the memory I, answers as the program t says -/
def xc_Cf (X : xc_X) (n : Nat) (y : MethodName) (cc : ByteArray) (maxL : Nat) (ret : Option FieldType) (av : List Value) (I : xc_M) (t : Option (Int32 × xc_M)) : Prop := ∀ (r : Int32) (J : xc_M), t = some (r, J) → ∀ sz : Nat, Met X.1 y (.code y cc maxL ret :: xc_T) (xc_rm n) (va_Pc av (fun U => U.heap.size = sz ∧ va_P X.2.1 vwCl (xc_ws X I) U.heap ∧ va_K X.2.1 vwCl (xc_ty X) U ∧ va_D (fun _ => True) (xc_ws X I) ∧ xc_Z X (va_A (xc_ws X I) sz) U)) (xc_Q X (va_A (xc_ws X I) sz) ret r J) 0 0 (va_A (xc_ws X I) sz)
-- ===== the programs =====
def xc_rd {α : Type} (n a : Nat) (i : Int32) (I : xc_M) (f : Int32 → Option α) : Option α := if i < 0 ∨ n ≤ i.toNatClampNeg then none else f (I a i.toNatClampNeg)
def xc_st {α : Type} (n a : Nat) (i v : Int32) (I : xc_M) (f : xc_M → Option α) : Option α := if i < 0 ∨ n ≤ i.toNatClampNeg then none else f (xc_wr I a i.toNatClampNeg v)
def xc_mw {α : Type} (I : xc_M) (a k : Nat) (v : Int32) (f : xc_M → Option α) : Option α := f (xc_wr I a k v)
def xc_mz {α : Type} (I : xc_M) (a k : Nat) (v : Int32) (f : xc_M → Option α) : Option α := if v = 0 ∨ v = 1 then f (xc_wr I a k v) else none
def xc_dv {α : Type} (x y : Int32) (f : Int32 → Option α) : Option α := if y = 0 then none else f (x / y)
def xc_rem {α : Type} (x y : Int32) (f : Int32 → Option α) : Option α := if y = 0 then none else f (x - x / y * y)
def xc_cl {α : Type} (t : Option (Int32 × xc_M)) (f : Int32 → xc_M → Option α) : Option α := match t with
  | none => none
  | some q => f q.1 q.2
def xc_cr {α : Type} (t : Option Int32) (f : Int32 → Option α) : Option α := match t with
  | none => none
  | some r => f r
def xc_rb {α : Type} (x : Int32) (v : α) : Option α := if x = 0 ∨ x = 1 then some v else none
def xc_ro (t : Option Int32) (I : xc_M) : Option (Int32 × xc_M) := match t with
  | none => none
  | some r => some (r, I)
def xc_fin (I : xc_M) : Int32 → Int32 × xc_M := fun r => (r, I)
def xc_lt {α : Type} (x : Int32) (f : Int32 → Option α) : Option α := f x
def xc_cv {α : Type} (t : Option (Int32 × xc_M)) (f : xc_M → Option α) : Option α := match t with
  | none => none
  | some q => f q.2
