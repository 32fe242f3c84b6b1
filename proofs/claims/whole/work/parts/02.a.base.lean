-- ===== the words that are good: 'xc_T' =====
def xc_T : List Cond := lw_tbl.filter goodWord
theorem xc_in {w : Cond} (i : Nat) (h : lw_tbl[i]? = some w) (hg : goodWord w = true) : w ∈ xc_T := List.mem_filter.mpr ⟨List.mem_of_getElem? h, hg⟩
theorem xc_goodT : ∀ w ∈ xc_T, goodWord w = true := fun w h => (List.mem_filter.mp h).2
theorem xc_goodIn {ws : List Cond} (h : ∀ w ∈ ws, w ∈ xc_T) : GoodIn xc_T ws := fun w hw => ⟨h w hw, good_of_word (xc_goodT w (h w hw))⟩
-- ===== memory of numbers, shapes of cells, worlds =====
abbrev xc_M : Type := Nat → Nat → Int32
abbrev xc_Sh : Type := List (Nat × Nat)
abbrev xc_Px : Type := Nat → Nat → Option Nat
/-- a world: the launch, the classes' numbers and slots, the three classes of arrays, the shapes of the cells, their references, their addresses -/
abbrev xc_X : Type := Launch × va_G × (ClassId × ClassId × ClassId) × xc_Sh × xc_Px × (Nat → Nat)
def xc_wr (I : xc_M) (a k : Nat) (v : Int32) : xc_M := fun b j => if b = a ∧ j = k then v else I b j
def xc_nf (c : Nat) : Nat := [8, 8, 4, 4, 2, 2, 8, 14, 7, 36].getD c 0
def xc_rfs : List (List Bool) := [[false, false, false, true, true, true, true, true], [false, false, true, true, true, true, true, true], [false, true, true, true], [false, false, true, true], [false, true], [false, true], [false, false, false, false, true, true, true, false], [false, false, false, true, true, true, true, true, true, true, true, true, true, true], [true, true, true, true, true, true, false], [true, true, true, true, false, false, true, true, true, true, true, true, true, true, false, false, false, false, false, false, false, false, false, false, false, false, false, false, false, false, false, false, true, true, true, false]]
def xc_rf (c k : Nat) : Bool := (xc_rfs.getD c []).getD k false
def xc_fv (X : xc_X) (I : xc_M) (c a k : Nat) : Value := if xc_rf c k = true then (match X.2.2.2.2.1 a k with | none => .null | some x => .ref (X.2.2.2.2.2 x)) else .int (I a k)
def xc_fs (X : xc_X) (I : xc_M) (c a : Nat) : List Value := (List.range (xc_nf c)).map (xc_fv X I c a)
def xc_ent (X : xc_X) (I : xc_M) (a : Nat) (k : Nat × Nat) : va_E := match k.1 with
  | 0 => .inl (X.2.2.1.1, k.2, .inl (I a))
  | 1 => .inl (X.2.2.1.2.1, k.2, .inl (I a))
  | 2 => .inl (X.2.2.1.2.2, k.2, .inr (.inr (.inr (.inr (fun j => (X.2.2.2.2.1 a j).map X.2.2.2.2.2)))))
  | c + 3 => .inr (c, xc_fs X I c a)
def xc_ws (X : xc_X) (I : xc_M) : va_W := X.2.2.2.1.mapIdx (fun a k => (X.2.2.2.2.2 a, xc_ent X I a k))
theorem xc_at {X : xc_X} (I : xc_M) {a : Nat} {k : Nat × Nat} (h : X.2.2.2.1[a]? = some k) : (xc_ws X I)[a]? = some (X.2.2.2.2.2 a, xc_ent X I a k) := by
  unfold xc_ws
  rw [List.getElem?_mapIdx, h]
  rfl
theorem xc_ent_ne {X : xc_X} {I : xc_M} {a b k : Nat} {v : Int32} {s : Nat × Nat} (h : b ≠ a) : xc_ent X (xc_wr I a k v) b s = xc_ent X I b s := by
  have h1 : xc_wr I a k v b = I b := by
    funext j
    simp [xc_wr, h]
  obtain ⟨c, n⟩ := s
  match c with
  | 0 => simp [xc_ent, h1]
  | 1 => simp [xc_ent, h1]
  | 2 => rfl
  | c + 3 =>
    simp only [xc_ent, xc_fs]
    congr 2
    apply List.map_congr_left
    intro j _
    simp only [xc_fv, h1]
theorem xc_set {X : xc_X} {I : xc_M} {a k : Nat} {v : Int32} {s : Nat × Nat} {e : va_E} (h : X.2.2.2.1[a]? = some s) (he : e = xc_ent X (xc_wr I a k v) a s) : (xc_ws X I).set a (X.2.2.2.2.2 a, e) = xc_ws X (xc_wr I a k v) := by
  apply List.ext_getElem?
  intro j
  have hlen : a < (xc_ws X I).length := (List.getElem?_eq_some_iff.mp (xc_at I h)).1
  by_cases hj : j = a
  · subst hj
    rw [List.getElem?_set_self hlen, xc_at _ h, he]
  · rw [List.getElem?_set_ne (Ne.symm hj)]
    unfold xc_ws
    rw [List.getElem?_mapIdx, List.getElem?_mapIdx]
    cases hs : X.2.2.2.1[j]? with
    | none => rfl
    | some t =>
      simp only [Option.map_some]
      rw [xc_ent_ne hj]
theorem xc_wr_arr (I : xc_M) (a k : Nat) (v : Int32) : upd (I a) k v = xc_wr I a k v a := by
  funext j
  simp [upd, xc_wr]
theorem xc_wr_fs {X : xc_X} {I : xc_M} {c a k : Nat} {v : Int32} (hr : xc_rf c k = false) : (xc_fs X I c a).set k (.int v) = xc_fs X (xc_wr I a k v) c a := by
  apply List.ext_getElem?
  intro j
  unfold xc_fs
  by_cases hj : j = k
  · subst hj
    by_cases hl : j < xc_nf c
    · rw [List.getElem?_set_self (by simpa using hl)]
      simp [hl, xc_fv, hr, xc_wr]
    · have h1 : ((List.range (xc_nf c)).map (xc_fv X I c a)).length ≤ j := by simp; omega
      rw [List.getElem?_eq_none (by simpa using h1), List.getElem?_eq_none (by simp; omega)]
  · rw [List.getElem?_set_ne (Ne.symm hj)]
    by_cases hl : j < xc_nf c
    · simp [hl, xc_fv, xc_wr, hj]
    · rw [List.getElem?_eq_none (by simp; omega), List.getElem?_eq_none (by simp; omega)]
abbrev xc_ty (X : xc_X) : List (ClassId × FieldType) := [(X.2.2.1.1, .int), (X.2.2.1.2.1, .byte), (X.2.2.1.2.2, .object "UnsaidWords$Being")]
-- ===== where a method stands =====
abbrev xc_C : Type := Program × Env × Room × State × MethodId × Array Value × List Frame × Method × Code
def xc_rm (n : Nat) : Room := { frames := n + 1, cells := 0, slots := 0, locals := 64 * (n + 1) }
def xc_Ok (X : xc_X) (C : xc_C) (A : Nat → Prop) (n : Nat) (cc : ByteArray) (own : String) (nL : Nat) (ret : Option FieldType) : Prop := C.1.tables.exec = Jvm.exec ∧ C.2.2.2.2.2.2.2.2.code = cc ∧ C.2.2.2.2.2.2.2.2.maxLocals = nL ∧ C.2.2.2.1.vm.findClass own = some C.2.2.2.2.1.cls ∧ (∀ w ∈ xc_T, w.before C.2.2.2.2.2.1 C.2.2.2.1 = true) ∧ va_K X.2.1 vwCl (xc_ty X) C.2.2.2.1 ∧ C.2.2.2.2.2.2.2.1.sig.returnType = ret ∧ C.2.2.2.2.2.2.2.1.locks = false ∧ C.2.2.1 = xc_rm n ∧ ∀ q : Nat, C.2.2.2.1.heap.size ≤ q → A q
def xc_W (X : xc_X) (C : xc_C) (H : Heap) (locs : List Loc) (Q : State → Prop) (g : JFrame) : Prop := W C.1 X.1 C.2.1 C.2.2.1 C.2.2.2.1 C.2.2.2.2.1 C.2.2.2.2.2.1 C.2.2.2.2.2.2.1 C.2.2.2.2.2.2.2.1 C.2.2.2.2.2.2.2.2 H locs 0 0 Q g
def xc_G (X : xc_X) (C : xc_C) (A : Nat → Prop) (Q : State → Prop) (nL pc : Nat) (lv : List (Nat × Value)) (st : List Value) (I : xc_M) : Prop := ∀ (H : Heap) (locs : List Loc) (ls : Array Slot), va_P X.2.1 vwCl (xc_ws X I) H → va_D A (xc_ws X I) → va_S A C.2.2.2.1.heap H locs → lv_has ls nL lv → xc_W X C H locs Q (F0 C.2.2.2.2.1 pc ls st)
def xc_B (X : xc_X) (A : Nat → Prop) (u : xc_M) (t : State) : Prop := va_P X.2.1 vwCl (xc_ws X u) t.heap ∧ va_K X.2.1 vwCl (xc_ty X) t ∧ va_D A (xc_ws X u)
def xc_Q (X : xc_X) (A : Nat → Prop) (ret : Option FieldType) (r : Int32) (I : xc_M) : Array Value → State → Outcome → State → Prop := match ret with
  | none => va_Qv (fun u : xc_M => u = I) (xc_B X A) A
  | some _ => va_Qi (fun (r2 : Int32) (u : xc_M) => r2 = r ∧ u = I) (xc_B X A) A
/-- from here on the method answers as the program t says -/
def xc_S (X : xc_X) (C : xc_C) (A : Nat → Prop) (nL : Nat) (ret : Option FieldType) (t : Option (Int32 × xc_M)) (pc : Nat) (lv : List (Nat × Value)) (st : List Value) (I : xc_M) : Prop := ∀ (r : Int32) (J : xc_M), t = some (r, J) → xc_G X C A (MQ C.2.2.2.2.2.2.1 (xc_Q X A ret r J) C.2.2.2.2.2.1 C.2.2.2.1 0 0 A) nL pc lv st I
/-- the method y, called with av over the memory I, answers as the program t says -/
def xc_Cf (X : xc_X) (n : Nat) (y : MethodName) (cc : ByteArray) (maxL : Nat) (ret : Option FieldType) (av : List Value) (I : xc_M) (t : Option (Int32 × xc_M)) : Prop := ∀ (r : Int32) (J : xc_M), t = some (r, J) → ∀ sz : Nat, Met X.1 y (.code y cc maxL ret :: xc_T) (xc_rm n) (va_Pc av (fun U => U.heap.size = sz ∧ va_P X.2.1 vwCl (xc_ws X I) U.heap ∧ va_K X.2.1 vwCl (xc_ty X) U ∧ va_D (fun _ => True) (xc_ws X I))) (xc_Q X (va_A (xc_ws X I) sz) ret r J) 0 0 (va_A (xc_ws X I) sz)
-- ===== the programs =====
def xc_rd {α : Type} (n a : Nat) (i : Int32) (I : xc_M) (f : Int32 → Option α) : Option α := if i < 0 ∨ n ≤ i.toNatClampNeg then none else f (I a i.toNatClampNeg)
def xc_st {α : Type} (n a : Nat) (i v : Int32) (I : xc_M) (f : xc_M → Option α) : Option α := if i < 0 ∨ n ≤ i.toNatClampNeg then none else f (xc_wr I a i.toNatClampNeg v)
def xc_mw {α : Type} (I : xc_M) (a k : Nat) (v : Int32) (f : xc_M → Option α) : Option α := f (xc_wr I a k v)
def xc_mz {α : Type} (I : xc_M) (a k : Nat) (v : Int32) (f : xc_M → Option α) : Option α := if v = 0 ∨ v = 1 then f (xc_wr I a k v) else none
def xc_dv {α : Type} (x y : Int32) (f : Int32 → Option α) : Option α := if y = 0 then none else f (x / y)
def xc_rem {α : Type} (x y : Int32) (f : Int32 → Option α) : Option α := if y = 0 then none else f (x - x / y * y)
def xc_cl {α : Type} (t : Option (Int32 × xc_M)) (f : Int32 → xc_M → Option α) : Option α := match t with
  | none => none
  | some q => f q.1 q.2
def xc_cr {α : Type} (t : Option Int32) (f : Int32 → Option α) : Option α := match t with
  | none => none
  | some r => f r
def xc_rb (x : Int32) (I : xc_M) : Option (Int32 × xc_M) := if x = 0 ∨ x = 1 then some (x, I) else none
def xc_ro (t : Option Int32) (I : xc_M) : Option (Int32 × xc_M) := match t with
  | none => none
  | some r => some (r, I)
def xc_lt {α : Type} (x : Int32) (f : Int32 → Option α) : Option α := f x
def xc_cv {α : Type} (t : Option (Int32 × xc_M)) (f : xc_M → Option α) : Option α := match t with
  | none => none
  | some q => f q.2
