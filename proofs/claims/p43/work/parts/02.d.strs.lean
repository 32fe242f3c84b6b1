section
variable {X : xc_X} {C : xc_C} {A : Nat → Prop} {n nL : Nat} {ret : Option FieldType} {cc : ByteArray} {own : String} {α : Type} {fin : α → Int32 × xc_M} {t : Option α} {pc : Nat} {lv : List (Nat × Value)} {st : List Value} {I : xc_M}

def xc_sc {α : Type} (k : Nat) (i : Int32) (f : Int32 → Option α) : Option α := if i < 0 ∨ xk_len.getD k 0 ≤ i.toNatClampNeg then none else f ((xk_byt.getD k []).getD i.toNatClampNeg 0)
def xc_rc {α : Type} (x : Int32) (v : α) : Option α := if (x.toUInt32 % 65536).toInt32 = x then some v else none
theorem xi_getcs (h : xc_Ok X C A n cc own nL ret) {ix : Nat} (hd : decode cc pc = .ok (.getstatic ix, 3)) (hw : Cond.fieldLink own ix "java/lang/String" "COMPACT_STRINGS" "Z" ∈ xc_T) (k : xc_S X C A nL ret fin t (pc + 3) lv (.int 1 :: st) I) : xc_S X C A nL ret fin t pc lv st I := fun r hr H locs ls hP hD hS hl => va_gets h.1 h.2.1 h.2.2.2.2.2.2.2.2.2.2.2.2.1 hS h.2.2.2.1 (h.2.2.2.2.1 _ hw) (fun _ q => q) hd (k r hr H locs ls hP hD hS hl)
theorem xi_getsf (h : xc_Ok X C A n cc own nL ret) {ix : Nat} (hd : decode cc pc = .ok (.getstatic ix, 3)) (hw : Cond.fieldLink own ix "jdk/internal/util/Preconditions" "SIOOBE_FORMATTER" "Ljava/util/function/BiFunction;" ∈ xc_T) (k : ∀ z : Value, (z = .null ∨ ∃ a : Nat, z = .ref a) → xc_S X C A nL ret fin t (pc + 3) lv (z :: st) I) : xc_S X C A nL ret fin t pc lv st I := fun r hr H locs ls hP hD hS hl => by
  obtain ⟨z, hz, hZ⟩ := h.2.2.2.2.2.2.2.2.2.2.2.2.2.1
  exact va_gets h.1 h.2.1 hZ hS h.2.2.2.1 (h.2.2.2.2.1 _ hw) (fun _ q => q) hd (k z hz r hr H locs ls hP hD hS hl)
theorem xi_scoder (h : xc_Ok X C A n cc own nL ret) {ix i : Nat} (hd : decode cc pc = .ok (.getfield ix, 3)) (hw : Cond.fieldLink own ix "java/lang/String" "coder" "B" ∈ xc_T) (hi : i < 2) (k : xc_S X C A nL ret fin t (pc + 3) lv (.int 0 :: st) I) : xc_S X C A nL ret fin t pc lv (.ref (X.2.2.1.2.2.2.1 i) :: st) I := fun r hr H locs ls hP hD hS hl => vk_getf h.1 h.2.1 (h.2.2.2.2.2.2.2.2.2.2.1.1 i hi).2.1 hS h.2.2.2.1 (h.2.2.2.2.1 _ hw) (fun _ q => q) hd (k r hr H locs ls hP hD hS hl)
theorem xi_sval (h : xc_Ok X C A n cc own nL ret) {ix i : Nat} (hd : decode cc pc = .ok (.getfield ix, 3)) (hw : Cond.fieldLink own ix "java/lang/String" "value" "[B" ∈ xc_T) (hi : i < 2) (k : xc_S X C A nL ret fin t (pc + 3) lv (.ref (X.2.2.1.2.2.2.2 i) :: st) I) : xc_S X C A nL ret fin t pc lv (.ref (X.2.2.1.2.2.2.1 i) :: st) I := fun r hr H locs ls hP hD hS hl => vk_getf h.1 h.2.1 (h.2.2.2.2.2.2.2.2.2.2.1.1 i hi).2.2.1 hS h.2.2.2.1 (h.2.2.2.2.1 _ hw) (fun _ q => q) hd (k r hr H locs ls hP hD hS hl)
theorem xi_salen (h : xc_Ok X C A n cc own nL ret) {i : Nat} (hd : decode cc pc = .ok (.arraylength, 1)) (hi : i < 2) (k : xc_S X C A nL ret fin t (pc + 1) lv (.int (nI (xk_len.getD i 0)) :: st) I) : xc_S X C A nL ret fin t pc lv (.ref (X.2.2.1.2.2.2.2 i) :: st) I := fun r hr H locs ls hP hD hS hl => va_tlen h.1 h.2.1 (h.2.2.2.2.2.2.2.2.2.2.1.1 i hi).2.2.2 hS rfl hd (k r hr H locs ls hP hD hS hl)
theorem xi_sbald (h : xc_Ok X C A n cc own nL ret) {i : Nat} {j : Int32} {f : Int32 → Option α} (hd : decode cc pc = .ok (.baload, 1)) (hi : i < 2) (k : ∀ v : Int32, xc_S X C A nL ret fin (f v) (pc + 1) lv (.int v :: st) I) : xc_S X C A nL ret fin (xc_sc i j f) pc lv (.int j :: .ref (X.2.2.1.2.2.2.2 i) :: st) I := by
  intro r hr
  unfold xc_sc at hr
  split at hr
  · cases hr
  · rename_i q
    exact fun H locs ls hP hD hS hl => va_tb h.1 h.2.1 (h.2.2.2.2.2.2.2.2.2.2.1.1 i hi).2.2.2 hS q rfl hd (k _ r hr H locs ls hP hD hS hl)
theorem xi_xret {rt : FieldType} (h : xc_Ok X C A n cc own nL (some rt)) {x : Int32} (hd : decode cc pc = .ok (.ireturn, 1)) {v : α} (e1 : (fin v).1 = x) (e2 : (fin v).2 = I) (hn : narrow rt (.int x) = .int x) : xc_S X C A nL (some rt) fin (some v) pc lv [.int x] I := by
  intro r hr H locs ls hP hD hS hl
  cases hr
  rw [e1, e2]
  exact W.zret h.1 h.2.1 h.2.2.2.2.2.2.1 hn (fun t ht hW => ⟨⟨x, I, rfl, ⟨rfl, rfl⟩, by rw [ht]; exact hP, va_K.moved hW.alike h.2.2.2.2.2.1, hD⟩, hS.F ht⟩) hS.2.2 hd h.2.2.2.2.2.2.2.1
theorem xi_cret (h : xc_Ok X C A n cc own nL (some .char)) {x : Int32} (hd : decode cc pc = .ok (.ireturn, 1)) {v : α} (e1 : (fin v).1 = x) (e2 : (fin v).2 = I) : xc_S X C A nL (some .char) fin (xc_rc x v) pc lv [.int x] I := by
  intro r hr
  unfold xc_rc at hr
  split at hr
  · rename_i q
    exact xi_xret h hd e1 e2 (by rw [← q]; exact pk_nc _) r hr
  · cases hr
theorem xc_runVS {n' np ix k maxL' : Nat} {y : MethodName} {cc' : ByteArray} {ret' : Option FieldType} {av : List Value} {t3 : Option (Int32 × xc_M)} {st0 : List Value} {r : Int32} {J : xc_M} {H : Heap} {locs : List Loc} {ls : Array Slot} (h : xc_Ok X C A n cc own nL ret) (hd : decode cc pc = .ok (.invokevirtual ix, 3)) (md : xc_Md y cc' maxL' ret' np) (hi : Cond.instanceMethod y ∈ xc_T) (hse : Cond.selects y.cls y y ∈ xc_T) (hl : Cond.methodLink own ix y ∈ xc_T) (hn : n' < n) (hk : k < 2) (hR : y.cls = "java/lang/String") (hav : av.length = np) (hst : st0 = av.reverse ++ .ref (X.2.2.1.2.2.2.1 k) :: st) (hcat : (st.map fun v => v.category).sum ≤ 8) (cf : xc_Cf X n' y cc' maxL' ret' (.ref (X.2.2.1.2.2.2.1 k) :: av) I t3) (ht3 : t3 = some (r, J)) (hP : va_P X.2.1 vwCl (xc_ws X I) H) (hD : va_D A (xc_ws X I)) (hS : va_S A C.2.2.2.1.heap H locs) (hls : ls.size = nL) : va_Run C.1 X.1 C.2.1 C.2.2.1 C.2.2.2.1 C.2.2.2.2.1 C.2.2.2.2.2.1 C.2.2.2.2.2.2.1 C.2.2.2.2.2.2.2.1 C.2.2.2.2.2.2.2.2 H locs 0 0 0 0 (F0 C.2.2.2.2.1 pc ls st0) st (xc_Q X (va_A (xc_ws X I) H.size) ret' r J (Value.ref (X.2.2.1.2.2.2.1 k) :: av).toArray) (va_A (xc_ws X I) H.size) := by
  have hB := xc_preB h hP hD hS (av := .ref (X.2.2.1.2.2.2.1 k) :: av)
  refine va_runV ⟨h.1, h.2.1, h.2.2.1, h.2.2.2.1, h.2.2.2.2.1⟩ (cf r J ht3 H.size) ⟨xc_callB h md hl hn, h.2.2.2.2.1 _ hi, h.2.2.2.2.1 _ hse⟩ ⟨hB.1, ?_, hB.2⟩ rfl hav hls hst (lv_room hcat) hd ⟨by rw [h.2.2.2.2.2.2.2.2.1]; exact Nat.le_refl 0, by rw [h.2.2.2.2.2.2.2.2.1]; exact Nat.le_refl 0⟩
  have hrc := vk_recv h.2.2.2.2.2.2.2.2.2.2.1 hk hS
  rw [hR]
  exact hrc
theorem xi_askVS (h : xc_Ok X C A n cc own nL ret) {n' np ix k maxL' : Nat} {y : MethodName} {cc' : ByteArray} {av : List Value} {st0 : List Value} {rt : FieldType} {t3 : Option Int32} {f : Int32 → Option α} (hd : decode cc pc = .ok (.invokevirtual ix, 3)) (md : xc_Md y cc' maxL' (some rt) np) (hi : Cond.instanceMethod y ∈ xc_T) (hse : Cond.selects y.cls y y ∈ xc_T) (hlk : Cond.methodLink own ix y ∈ xc_T) (hn : n' < n) (hk : k < 2) (hR : y.cls = "java/lang/String") (hav : av.length = np) (hst : st0 = av.reverse ++ .ref (X.2.2.1.2.2.2.1 k) :: st) (hcat : (st.map fun v => v.category).sum ≤ 8) (cf : xc_Cf X n' y cc' maxL' (some rt) (.ref (X.2.2.1.2.2.2.1 k) :: av) I (xc_ro t3 I)) (kk : ∀ v : Int32, xc_S X C A nL ret fin (f v) (pc + 3) lv (.int v :: st) I) : xc_S X C A nL ret fin (xc_cr t3 f) pc lv st0 I := by
  intro r hr
  cases ht3 : t3 with
  | none => rw [ht3] at hr; cases hr
  | some q =>
    rw [ht3] at hr
    intro H locs ls hP hD hS hl
    exact xc_goes (ret' := (some rt)) (y := y) (lv := lv) (n' := n') h (xc_runVS h hd md hi hse hlk hn hk hR hav hst hcat cf (r := q) (J := I) (by rw [ht3]; rfl) hP hD hS hl.1) hD hS (fun H1 locs1 hP1 hD1 hS1 => kk q r hr H1 locs1 ls hP1 hD1 hS1 hl)
theorem xi_chkS (h : xc_Ok X C A n cc own nL ret) {n' np ix maxL' : Nat} {y : MethodName} {cc' : ByteArray} {av : List Value} {st0 : List Value} {t3 : Option Int32} {f : Int32 → Option α} (hd : decode cc pc = .ok (.invokestatic ix, 3)) (md : xc_Md y cc' maxL' none np) (hi : Cond.static y ∈ xc_T) (hlk : Cond.methodLink own ix y ∈ xc_T) (hn : n' < n) (hav : av.length = np) (hst : st0 = av.reverse ++ st) (hcat : (st.map fun v => v.category).sum ≤ 8) (cf : xc_Cf X n' y cc' maxL' none av I (xc_ro t3 I)) (kk : ∀ v : Int32, xc_S X C A nL ret fin (f v) (pc + 3) lv st I) : xc_S X C A nL ret fin (xc_cr t3 f) pc lv st0 I := by
  intro r hr
  cases ht3 : t3 with
  | none => rw [ht3] at hr; cases hr
  | some q =>
    rw [ht3] at hr
    intro H locs ls hP hD hS hl
    exact xc_goes (ret' := none) (y := y) (lv := lv) (n' := n') h (xc_runS h hd md hi hlk hn hav hst hcat cf (r := q) (J := I) (by rw [ht3]; rfl) hP hD hS hl.1) hD hS (fun H1 locs1 hP1 hD1 hS1 => kk q r hr H1 locs1 ls hP1 hD1 hS1 hl)
end
