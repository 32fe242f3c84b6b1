section
variable {X : xc_X} {C : xc_C} {A : Nat → Prop} {n nL : Nat} {ret : Option FieldType} {cc : ByteArray} {own : String} {α : Type} {fin : α → Int32 × xc_M} {t t1 t2 : Option α} {pc : Nat} {lv lv' : List (Nat × Value)} {st : List Value} {I : xc_M}

theorem xi_iadd (h : xc_Ok X C A n cc own nL ret) {x y : Int32} (hd : decode cc pc = .ok (.iadd, 1)) (k : xc_S X C A nL ret fin t (pc + 1) lv (.int (x + y) :: st) I) : xc_S X C A nL ret fin t pc lv (.int y :: .int x :: st) I := fun r hr H locs ls hP hD hS hl => lv_iadd h.1 h.2.1 hd (k r hr H locs ls hP hD hS hl)
theorem xi_isub (h : xc_Ok X C A n cc own nL ret) {x y : Int32} (hd : decode cc pc = .ok (.isub, 1)) (k : xc_S X C A nL ret fin t (pc + 1) lv (.int (x - y) :: st) I) : xc_S X C A nL ret fin t pc lv (.int y :: .int x :: st) I := fun r hr H locs ls hP hD hS hl => lv_isub h.1 h.2.1 hd (k r hr H locs ls hP hD hS hl)
theorem xi_imul (h : xc_Ok X C A n cc own nL ret) {x y : Int32} (hd : decode cc pc = .ok (.imul, 1)) (k : xc_S X C A nL ret fin t (pc + 1) lv (.int (x * y) :: st) I) : xc_S X C A nL ret fin t pc lv (.int y :: .int x :: st) I := fun r hr H locs ls hP hD hS hl => lv_imul h.1 h.2.1 hd (k r hr H locs ls hP hD hS hl)
theorem xi_iand (h : xc_Ok X C A n cc own nL ret) {x y : Int32} (hd : decode cc pc = .ok (.iand, 1)) (k : xc_S X C A nL ret fin t (pc + 1) lv (.int (x &&& y) :: st) I) : xc_S X C A nL ret fin t pc lv (.int y :: .int x :: st) I := fun r hr H locs ls hP hD hS hl => lv_iand h.1 h.2.1 hd (k r hr H locs ls hP hD hS hl)
theorem xi_ior (h : xc_Ok X C A n cc own nL ret) {x y : Int32} (hd : decode cc pc = .ok (.ior, 1)) (k : xc_S X C A nL ret fin t (pc + 1) lv (.int (x ||| y) :: st) I) : xc_S X C A nL ret fin t pc lv (.int y :: .int x :: st) I := fun r hr H locs ls hP hD hS hl => lv_ior h.1 h.2.1 hd (k r hr H locs ls hP hD hS hl)
theorem xi_ixor (h : xc_Ok X C A n cc own nL ret) {x y : Int32} (hd : decode cc pc = .ok (.ixor, 1)) (k : xc_S X C A nL ret fin t (pc + 1) lv (.int (x ^^^ y) :: st) I) : xc_S X C A nL ret fin t pc lv (.int y :: .int x :: st) I := fun r hr H locs ls hP hD hS hl => lv_ixor h.1 h.2.1 hd (k r hr H locs ls hP hD hS hl)
theorem xi_ishl (h : xc_Ok X C A n cc own nL ret) {x y : Int32} (hd : decode cc pc = .ok (.ishl, 1)) (k : xc_S X C A nL ret fin t (pc + 1) lv (.int (x <<< (y &&& 31)) :: st) I) : xc_S X C A nL ret fin t pc lv (.int y :: .int x :: st) I := fun r hr H locs ls hP hD hS hl => lv_ishl h.1 h.2.1 hd (k r hr H locs ls hP hD hS hl)
theorem xi_ishr (h : xc_Ok X C A n cc own nL ret) {x y : Int32} (hd : decode cc pc = .ok (.ishr, 1)) (k : xc_S X C A nL ret fin t (pc + 1) lv (.int (x >>> (y &&& 31)) :: st) I) : xc_S X C A nL ret fin t pc lv (.int y :: .int x :: st) I := fun r hr H locs ls hP hD hS hl => lv_ishr h.1 h.2.1 hd (k r hr H locs ls hP hD hS hl)
theorem xi_iushr (h : xc_Ok X C A n cc own nL ret) {x y : Int32} (hd : decode cc pc = .ok (.iushr, 1)) (k : xc_S X C A nL ret fin t (pc + 1) lv (.int ((x.toUInt32 >>> (y.toUInt32 &&& Int32.toUInt32 31)).toInt32) :: st) I) : xc_S X C A nL ret fin t pc lv (.int y :: .int x :: st) I := fun r hr H locs ls hP hD hS hl => lv_iushr h.1 h.2.1 hd rfl (k r hr H locs ls hP hD hS hl)
theorem xi_idiv (h : xc_Ok X C A n cc own nL ret) {x y : Int32} {f : Int32 → Option α} (hd : decode cc pc = .ok (.idiv, 1)) (k : ∀ v : Int32, xc_S X C A nL ret fin (f v) (pc + 1) lv (.int v :: st) I) : xc_S X C A nL ret fin (xc_dv x y f) pc lv (.int y :: .int x :: st) I := by
  intro r hr
  unfold xc_dv at hr
  split at hr
  · cases hr
  · rename_i hy
    exact fun H locs ls hP hD hS hl => lv_idiv h.1 h.2.1 hd hy (k _ r hr H locs ls hP hD hS hl)
theorem xi_irem (h : xc_Ok X C A n cc own nL ret) {x y : Int32} {f : Int32 → Option α} (hd : decode cc pc = .ok (.irem, 1)) (k : ∀ v : Int32, xc_S X C A nL ret fin (f v) (pc + 1) lv (.int v :: st) I) : xc_S X C A nL ret fin (xc_rem x y f) pc lv (.int y :: .int x :: st) I := by
  intro r hr
  unfold xc_rem at hr
  split at hr
  · cases hr
  · rename_i hy
    exact fun H locs ls hP hD hS hl => lv_irem h.1 h.2.1 hd hy (k _ r hr H locs ls hP hD hS hl)
theorem xi_iconst (h : xc_Ok X C A n cc own nL ret) {m : Int} {v : Int32} (hd : decode cc pc = .ok (.iconst m, 1)) (hv : Int32.ofInt m = v) (k : xc_S X C A nL ret fin t (pc + 1) lv (.int v :: st) I) : xc_S X C A nL ret fin t pc lv st I := fun r hr H locs ls hP hD hS hl => lv_iconst h.1 h.2.1 hd hv (k r hr H locs ls hP hD hS hl)
theorem xi_bipush (h : xc_Ok X C A n cc own nL ret) {m : Int} {v : Int32} (hd : decode cc pc = .ok (.bipush m, 2)) (hv : (Int8.ofInt m).toInt32 = v) (k : xc_S X C A nL ret fin t (pc + 2) lv (.int v :: st) I) : xc_S X C A nL ret fin t pc lv st I := fun r hr H locs ls hP hD hS hl => lv_bipush h.1 h.2.1 hd hv (k r hr H locs ls hP hD hS hl)
theorem xi_sipush (h : xc_Ok X C A n cc own nL ret) {m : Int} {v : Int32} (hd : decode cc pc = .ok (.sipush m, 3)) (hv : (Int16.ofInt m).toInt32 = v) (k : xc_S X C A nL ret fin t (pc + 3) lv (.int v :: st) I) : xc_S X C A nL ret fin t pc lv st I := fun r hr H locs ls hP hD hS hl => lv_sipush h.1 h.2.1 hd hv (k r hr H locs ls hP hD hS hl)
theorem xi_ldc (h : xc_Ok X C A n cc own nL ret) {ix : Nat} {v : Int32} (hd : decode cc pc = .ok (.ldc ix, 2)) (hw : Jvm.Cond.constant own ix v ∈ xc_T) (k : xc_S X C A nL ret fin t (pc + 2) lv (.int v :: st) I) : xc_S X C A nL ret fin t pc lv st I := fun r hr H locs ls hP hD hS hl => lv_ldc h.1 h.2.1 h.2.2.2.1 (h.2.2.2.2.1 _ hw) hd (k r hr H locs ls hP hD hS hl)
theorem xi_ldc_w (h : xc_Ok X C A n cc own nL ret) {ix : Nat} {v : Int32} (hd : decode cc pc = .ok (.ldc_w ix, 3)) (hw : Jvm.Cond.constant own ix v ∈ xc_T) (k : xc_S X C A nL ret fin t (pc + 3) lv (.int v :: st) I) : xc_S X C A nL ret fin t pc lv st I := fun r hr H locs ls hP hD hS hl => lv_ldcw h.1 h.2.1 h.2.2.2.1 (h.2.2.2.2.1 _ hw) hd (k r hr H locs ls hP hD hS hl)
theorem xi_iload_n (h : xc_Ok X C A n cc own nL ret) (p : Nat) {j : Fin 4} {i : Nat} {x : Int32} (hd : decode cc pc = .ok (.iload_n j, 1)) (hi : (j : Nat) = i) (hp : lv[p]? = some (i, .int x)) (k : xc_S X C A nL ret fin t (pc + 1) lv (.int x :: st) I) : xc_S X C A nL ret fin t pc lv st I := fun r hr H locs ls hP hD hS hl => lv_iload_n h.1 h.2.1 hd hi (lv_at hl p hp) (k r hr H locs ls hP hD hS hl)
theorem xi_iload (h : xc_Ok X C A n cc own nL ret) (p : Nat) {i : Nat} {x : Int32} (hd : decode cc pc = .ok (.iload i, 2)) (hp : lv[p]? = some (i, .int x)) (k : xc_S X C A nL ret fin t (pc + 2) lv (.int x :: st) I) : xc_S X C A nL ret fin t pc lv st I := fun r hr H locs ls hP hD hS hl => lv_iload h.1 h.2.1 hd (lv_at hl p hp) (k r hr H locs ls hP hD hS hl)
theorem xi_aload_n (h : xc_Ok X C A n cc own nL ret) (p : Nat) {j : Fin 4} {i : Nat} {x : Nat} (hd : decode cc pc = .ok (.aload_n j, 1)) (hi : (j : Nat) = i) (hp : lv[p]? = some (i, .ref x)) (k : xc_S X C A nL ret fin t (pc + 1) lv (.ref x :: st) I) : xc_S X C A nL ret fin t pc lv st I := fun r hr H locs ls hP hD hS hl => lv_aload_n h.1 h.2.1 hd hi (lv_at hl p hp) (k r hr H locs ls hP hD hS hl)
theorem xi_aload (h : xc_Ok X C A n cc own nL ret) (p : Nat) {i : Nat} {x : Nat} (hd : decode cc pc = .ok (.aload i, 2)) (hp : lv[p]? = some (i, .ref x)) (k : xc_S X C A nL ret fin t (pc + 2) lv (.ref x :: st) I) : xc_S X C A nL ret fin t pc lv st I := fun r hr H locs ls hP hD hS hl => lv_aload h.1 h.2.1 hd (lv_at hl p hp) (k r hr H locs ls hP hD hS hl)
def xc_ins (q : Nat × Value) : List (Nat × Value) → List (Nat × Value)
  | [] => [q]
  | p :: l => if q.1 < p.1 then q :: p :: l else p :: xc_ins q l
theorem xc_ins_mem {q p : Nat × Value} : ∀ {l : List (Nat × Value)}, p ∈ xc_ins q l → p ∈ q :: l
  | [], h => h
  | a :: l, h => by
    unfold xc_ins at h
    split at h
    · exact h
    · rcases List.mem_cons.mp h with rfl | h
      · simp
      · rcases List.mem_cons.mp (xc_ins_mem h) with rfl | h
        · simp
        · simp [h]
def xc_put (i : Nat) (v : Value) (lv : List (Nat × Value)) : List (Nat × Value) := xc_ins (i, v) (lv.filter (fun q => !(q.1 == i) && !(q.1 + 1 == i && q.2.category == 2)))
theorem xc_put_has {ls : Array Slot} {i : Nat} {v : Value} (hl : lv_has ls nL ((i, v) :: lv.filter (fun q => !(q.1 == i) && !(q.1 + 1 == i && q.2.category == 2)))) : lv_has ls nL (xc_put i v lv) := ⟨hl.1, hl.2.1, fun q hq => hl.2.2 q (xc_ins_mem hq)⟩
theorem xi_istore_n (h : xc_Ok X C A n cc own nL ret) {j : Fin 4} {i : Nat} {x : Int32} {f : Int32 → Option α} {lv2 : Int32 → List (Nat × Value)} (hd : decode cc pc = .ok (.istore_n j, 1)) (hi : (j : Nat) = i) (hn : i < nL) (hl2 : ∀ y : Int32, xc_put i (.int y) lv = lv2 y) (k : ∀ y : Int32, xc_S X C A nL ret fin (f y) (pc + 1) (lv2 y) st I) : xc_S X C A nL ret fin (xc_lt x f) pc lv (.int x :: st) I := fun r hr H locs ls hP hD hS hl => lv_istore_n h.1 h.2.1 hd hi hl hn rfl (fun ls2 hl3 => k x r hr H locs ls2 hP hD hS (by rw [← hl2]; exact xc_put_has hl3))
theorem xi_istore (h : xc_Ok X C A n cc own nL ret) {i : Nat} {x : Int32} {f : Int32 → Option α} {lv2 : Int32 → List (Nat × Value)} (hd : decode cc pc = .ok (.istore i, 2)) (hn : i < nL) (hl2 : ∀ y : Int32, xc_put i (.int y) lv = lv2 y) (k : ∀ y : Int32, xc_S X C A nL ret fin (f y) (pc + 2) (lv2 y) st I) : xc_S X C A nL ret fin (xc_lt x f) pc lv (.int x :: st) I := fun r hr H locs ls hP hD hS hl => lv_istore h.1 h.2.1 hd hl hn rfl (fun ls2 hl3 => k x r hr H locs ls2 hP hD hS (by rw [← hl2]; exact xc_put_has hl3))
theorem xi_iinc (h : xc_Ok X C A n cc own nL ret) (p : Nat) {i : Nat} {m : Int} {x v : Int32} {f : Int32 → Option α} {lv2 : Int32 → List (Nat × Value)} (hd : decode cc pc = .ok (.iinc i m, 3)) (hp : lv[p]? = some (i, .int x)) (hv : Int32.ofInt m = v) (hn : i < nL) (hl2 : ∀ y : Int32, xc_put i (.int y) lv = lv2 y) (k : ∀ y : Int32, xc_S X C A nL ret fin (f y) (pc + 3) (lv2 y) st I) : xc_S X C A nL ret fin (xc_lt (x + v) f) pc lv st I := fun r hr H locs ls hP hD hS hl => lv_iinc (v := x + v) h.1 h.2.1 hd hl hp (by rw [hv]) hn rfl (fun ls2 hl3 => k _ r hr H locs ls2 hP hD hS (by rw [← hl2]; exact xc_put_has hl3))
theorem xi_astore_n (h : xc_Ok X C A n cc own nL ret) {j : Fin 4} {i x : Nat} (hd : decode cc pc = .ok (.astore_n j, 1)) (hi : (j : Nat) = i) (hn : i < nL) (hl2 : xc_put i (.ref x) lv = lv') (k : xc_S X C A nL ret fin t (pc + 1) lv' st I) : xc_S X C A nL ret fin t pc lv (.ref x :: st) I := fun r hr H locs ls hP hD hS hl => lv_astore_n h.1 h.2.1 hd hi hl hn rfl (fun ls2 hl3 => k r hr H locs ls2 hP hD hS (by rw [← hl2]; exact xc_put_has hl3))
theorem xi_pop (h : xc_Ok X C A n cc own nL ret) {v : Value} (hd : decode cc pc = .ok (.pop, 1)) (hv : v.category = 1) (k : xc_S X C A nL ret fin t (pc + 1) lv st I) : xc_S X C A nL ret fin t pc lv (v :: st) I := fun r hr H locs ls hP hD hS hl => lv_pop h.1 h.2.1 hd hv (k r hr H locs ls hP hD hS hl)
theorem xi_dup (h : xc_Ok X C A n cc own nL ret) {v : Value} (hd : decode cc pc = .ok (.dup, 1)) (hv : v.category = 1) (k : xc_S X C A nL ret fin t (pc + 1) lv (v :: v :: st) I) : xc_S X C A nL ret fin t pc lv (v :: st) I := fun r hr H locs ls hP hD hS hl => lv_dup h.1 h.2.1 hd hv (k r hr H locs ls hP hD hS hl)
theorem xi_dup2 (h : xc_Ok X C A n cc own nL ret) {v w : Value} (hd : decode cc pc = .ok (.dup2, 1)) (hv : v.category = 1) (hw : w.category = 1) (k : xc_S X C A nL ret fin t (pc + 1) lv (v :: w :: v :: w :: st) I) : xc_S X C A nL ret fin t pc lv (v :: w :: st) I := fun r hr H locs ls hP hD hS hl => lv_dup2_11 h.1 h.2.1 hd hv hw (k r hr H locs ls hP hD hS hl)
theorem xi_i2b (h : xc_Ok X C A n cc own nL ret) {x : Int32} (hd : decode cc pc = .ok (.i2b, 1)) (k : xc_S X C A nL ret fin t (pc + 1) lv (.int x.toInt8.toInt32 :: st) I) : xc_S X C A nL ret fin t pc lv (.int x :: st) I := fun r hr H locs ls hP hD hS hl => lv_i2b h.1 h.2.1 hd rfl (k r hr H locs ls hP hD hS hl)
theorem xi_i2c (h : xc_Ok X C A n cc own nL ret) {x : Int32} (hd : decode cc pc = .ok (.i2c, 1)) (k : xc_S X C A nL ret fin t (pc + 1) lv (.int ((x.toUInt32 % 65536).toInt32) :: st) I) : xc_S X C A nL ret fin t pc lv (.int x :: st) I := fun r hr H locs ls hP hD hS hl => lv_i2c h.1 h.2.1 hd rfl (k r hr H locs ls hP hD hS hl)
theorem xi_goto (h : xc_Ok X C A n cc own nL ret) {off : Int} {tgt : Nat} (hd : decode cc pc = .ok (.goto off, 3)) (ht : (pc : Int) + off = (tgt : Int)) (k : xc_S X C A nL ret fin t tgt lv st I) : xc_S X C A nL ret fin t pc lv st I := fun r hr H locs ls hP hD hS hl => lv_goto h.1 h.2.1 hd ht (k r hr H locs ls hP hD hS hl)
theorem xi_icmp_eq (h : xc_Ok X C A n cc own nL ret) {x y : Int32} {off : Int} {tgt : Nat} {ic : Decidable (x = y)} (hd : decode cc pc = .ok (.if_icmp .eq off, 3)) (ht : (pc : Int) + off = (tgt : Int)) (k1 : xc_S X C A nL ret fin t1 tgt lv st I) (k2 : xc_S X C A nL ret fin t2 (pc + 3) lv st I) : xc_S X C A nL ret fin (@ite _ (x = y) ic t1 t2) pc lv (.int y :: .int x :: st) I := fun r hr H locs ls hP hD hS hl => lv_icmp_eq h.1 h.2.1 hd ht (fun q => k1 r (by rw [if_pos q] at hr; exact hr) H locs ls hP hD hS hl) (fun q => k2 r (by rw [if_neg q] at hr; exact hr) H locs ls hP hD hS hl)
theorem xi_if_eq (h : xc_Ok X C A n cc own nL ret) {x : Int32} {off : Int} {tgt : Nat} {ic : Decidable (x = 0)} (hd : decode cc pc = .ok (.ifCond .eq off, 3)) (ht : (pc : Int) + off = (tgt : Int)) (k1 : xc_S X C A nL ret fin t1 tgt lv st I) (k2 : xc_S X C A nL ret fin t2 (pc + 3) lv st I) : xc_S X C A nL ret fin (@ite _ (x = 0) ic t1 t2) pc lv (.int x :: st) I := fun r hr H locs ls hP hD hS hl => lv_if_eq h.1 h.2.1 hd ht (fun q => k1 r (by rw [if_pos q] at hr; exact hr) H locs ls hP hD hS hl) (fun q => k2 r (by rw [if_neg q] at hr; exact hr) H locs ls hP hD hS hl)
theorem xi_icmp_ne (h : xc_Ok X C A n cc own nL ret) {x y : Int32} {off : Int} {tgt : Nat} {ic : Decidable (x ≠ y)} (hd : decode cc pc = .ok (.if_icmp .ne off, 3)) (ht : (pc : Int) + off = (tgt : Int)) (k1 : xc_S X C A nL ret fin t1 tgt lv st I) (k2 : xc_S X C A nL ret fin t2 (pc + 3) lv st I) : xc_S X C A nL ret fin (@ite _ (x ≠ y) ic t1 t2) pc lv (.int y :: .int x :: st) I := fun r hr H locs ls hP hD hS hl => lv_icmp_ne h.1 h.2.1 hd ht (fun q => k1 r (by rw [if_pos q] at hr; exact hr) H locs ls hP hD hS hl) (fun q => k2 r (by rw [if_neg (fun z => z q)] at hr; exact hr) H locs ls hP hD hS hl)
theorem xi_if_ne (h : xc_Ok X C A n cc own nL ret) {x : Int32} {off : Int} {tgt : Nat} {ic : Decidable (x ≠ 0)} (hd : decode cc pc = .ok (.ifCond .ne off, 3)) (ht : (pc : Int) + off = (tgt : Int)) (k1 : xc_S X C A nL ret fin t1 tgt lv st I) (k2 : xc_S X C A nL ret fin t2 (pc + 3) lv st I) : xc_S X C A nL ret fin (@ite _ (x ≠ 0) ic t1 t2) pc lv (.int x :: st) I := fun r hr H locs ls hP hD hS hl => lv_if_ne h.1 h.2.1 hd ht (fun q => k1 r (by rw [if_pos q] at hr; exact hr) H locs ls hP hD hS hl) (fun q => k2 r (by rw [if_neg (fun z => z q)] at hr; exact hr) H locs ls hP hD hS hl)
theorem xi_icmp_lt (h : xc_Ok X C A n cc own nL ret) {x y : Int32} {off : Int} {tgt : Nat} {ic : Decidable (x < y)} (hd : decode cc pc = .ok (.if_icmp .lt off, 3)) (ht : (pc : Int) + off = (tgt : Int)) (k1 : xc_S X C A nL ret fin t1 tgt lv st I) (k2 : xc_S X C A nL ret fin t2 (pc + 3) lv st I) : xc_S X C A nL ret fin (@ite _ (x < y) ic t1 t2) pc lv (.int y :: .int x :: st) I := fun r hr H locs ls hP hD hS hl => lv_icmp_lt h.1 h.2.1 hd ht (fun q => k1 r (by rw [if_pos q] at hr; exact hr) H locs ls hP hD hS hl) (fun q => k2 r (by rw [if_neg q] at hr; exact hr) H locs ls hP hD hS hl)
theorem xi_if_lt (h : xc_Ok X C A n cc own nL ret) {x : Int32} {off : Int} {tgt : Nat} {ic : Decidable (x < 0)} (hd : decode cc pc = .ok (.ifCond .lt off, 3)) (ht : (pc : Int) + off = (tgt : Int)) (k1 : xc_S X C A nL ret fin t1 tgt lv st I) (k2 : xc_S X C A nL ret fin t2 (pc + 3) lv st I) : xc_S X C A nL ret fin (@ite _ (x < 0) ic t1 t2) pc lv (.int x :: st) I := fun r hr H locs ls hP hD hS hl => lv_if_lt h.1 h.2.1 hd ht (fun q => k1 r (by rw [if_pos q] at hr; exact hr) H locs ls hP hD hS hl) (fun q => k2 r (by rw [if_neg q] at hr; exact hr) H locs ls hP hD hS hl)
theorem xi_icmp_le (h : xc_Ok X C A n cc own nL ret) {x y : Int32} {off : Int} {tgt : Nat} {ic : Decidable (x ≤ y)} (hd : decode cc pc = .ok (.if_icmp .le off, 3)) (ht : (pc : Int) + off = (tgt : Int)) (k1 : xc_S X C A nL ret fin t1 tgt lv st I) (k2 : xc_S X C A nL ret fin t2 (pc + 3) lv st I) : xc_S X C A nL ret fin (@ite _ (x ≤ y) ic t1 t2) pc lv (.int y :: .int x :: st) I := fun r hr H locs ls hP hD hS hl => lv_icmp_le h.1 h.2.1 hd ht (fun q => k1 r (by rw [if_pos q] at hr; exact hr) H locs ls hP hD hS hl) (fun q => k2 r (by rw [if_neg q] at hr; exact hr) H locs ls hP hD hS hl)
theorem xi_if_le (h : xc_Ok X C A n cc own nL ret) {x : Int32} {off : Int} {tgt : Nat} {ic : Decidable (x ≤ 0)} (hd : decode cc pc = .ok (.ifCond .le off, 3)) (ht : (pc : Int) + off = (tgt : Int)) (k1 : xc_S X C A nL ret fin t1 tgt lv st I) (k2 : xc_S X C A nL ret fin t2 (pc + 3) lv st I) : xc_S X C A nL ret fin (@ite _ (x ≤ 0) ic t1 t2) pc lv (.int x :: st) I := fun r hr H locs ls hP hD hS hl => lv_if_le h.1 h.2.1 hd ht (fun q => k1 r (by rw [if_pos q] at hr; exact hr) H locs ls hP hD hS hl) (fun q => k2 r (by rw [if_neg q] at hr; exact hr) H locs ls hP hD hS hl)
theorem xi_icmp_gt (h : xc_Ok X C A n cc own nL ret) {x y : Int32} {off : Int} {tgt : Nat} {ic : Decidable (y < x)} (hd : decode cc pc = .ok (.if_icmp .gt off, 3)) (ht : (pc : Int) + off = (tgt : Int)) (k1 : xc_S X C A nL ret fin t1 tgt lv st I) (k2 : xc_S X C A nL ret fin t2 (pc + 3) lv st I) : xc_S X C A nL ret fin (@ite _ (y < x) ic t1 t2) pc lv (.int y :: .int x :: st) I := fun r hr H locs ls hP hD hS hl => lv_icmp_gt h.1 h.2.1 hd ht (fun q => k1 r (by rw [if_pos q] at hr; exact hr) H locs ls hP hD hS hl) (fun q => k2 r (by rw [if_neg q] at hr; exact hr) H locs ls hP hD hS hl)
theorem xi_if_gt (h : xc_Ok X C A n cc own nL ret) {x : Int32} {off : Int} {tgt : Nat} {ic : Decidable (0 < x)} (hd : decode cc pc = .ok (.ifCond .gt off, 3)) (ht : (pc : Int) + off = (tgt : Int)) (k1 : xc_S X C A nL ret fin t1 tgt lv st I) (k2 : xc_S X C A nL ret fin t2 (pc + 3) lv st I) : xc_S X C A nL ret fin (@ite _ (0 < x) ic t1 t2) pc lv (.int x :: st) I := fun r hr H locs ls hP hD hS hl => lv_if_gt h.1 h.2.1 hd ht (fun q => k1 r (by rw [if_pos q] at hr; exact hr) H locs ls hP hD hS hl) (fun q => k2 r (by rw [if_neg q] at hr; exact hr) H locs ls hP hD hS hl)
theorem xi_icmp_ge (h : xc_Ok X C A n cc own nL ret) {x y : Int32} {off : Int} {tgt : Nat} {ic : Decidable (y ≤ x)} (hd : decode cc pc = .ok (.if_icmp .ge off, 3)) (ht : (pc : Int) + off = (tgt : Int)) (k1 : xc_S X C A nL ret fin t1 tgt lv st I) (k2 : xc_S X C A nL ret fin t2 (pc + 3) lv st I) : xc_S X C A nL ret fin (@ite _ (y ≤ x) ic t1 t2) pc lv (.int y :: .int x :: st) I := fun r hr H locs ls hP hD hS hl => lv_icmp_ge h.1 h.2.1 hd ht (fun q => k1 r (by rw [if_pos q] at hr; exact hr) H locs ls hP hD hS hl) (fun q => k2 r (by rw [if_neg q] at hr; exact hr) H locs ls hP hD hS hl)
theorem xi_if_ge (h : xc_Ok X C A n cc own nL ret) {x : Int32} {off : Int} {tgt : Nat} {ic : Decidable (0 ≤ x)} (hd : decode cc pc = .ok (.ifCond .ge off, 3)) (ht : (pc : Int) + off = (tgt : Int)) (k1 : xc_S X C A nL ret fin t1 tgt lv st I) (k2 : xc_S X C A nL ret fin t2 (pc + 3) lv st I) : xc_S X C A nL ret fin (@ite _ (0 ≤ x) ic t1 t2) pc lv (.int x :: st) I := fun r hr H locs ls hP hD hS hl => lv_if_ge h.1 h.2.1 hd ht (fun q => k1 r (by rw [if_pos q] at hr; exact hr) H locs ls hP hD hS hl) (fun q => k2 r (by rw [if_neg q] at hr; exact hr) H locs ls hP hD hS hl)
theorem xi_sub (ks : List Nat) (hl : lv_pick lv ks = lv') (k : xc_S X C A nL ret fin t pc lv' st I) : xc_S X C A nL ret fin t pc lv st I := fun r hr H locs ls hP hD hS hl0 => k r hr H locs ls hP hD hS (lv_sub hl0 ks hl)
theorem xi_none : xc_S X C A nL ret fin none pc lv st I := fun r hr => by cases hr
theorem xi_ldcS (h : xc_Ok X C A n cc own nL ret) {ix : Nat} (i : Nat) (hd : decode cc pc = .ok (.ldc ix, 2)) (hi : i < 2) (he : xk_ix.getD i 0 = ix) (he2 : xk_ow.getD i "" = own) (k : xc_S X C A nL ret fin t (pc + 2) lv (.ref (X.2.2.1.2.2.2.1 i) :: st) I) : xc_S X C A nL ret fin t pc lv st I := fun r hr H locs ls hP hD hS hl => va_ldcS (tx := xk_tx.getD i "") h.1 h.2.1 h.2.2.2.1 (by rw [← he, ← he2]; exact h.2.2.2.2.2.2.2.2.2.2.2.1 i hi) hd (k r hr H locs ls hP hD hS hl)
theorem xi_iret (h : xc_Ok X C A n cc own nL (some .int)) {x : Int32} (hd : decode cc pc = .ok (.ireturn, 1)) {v : α} (e1 : (fin v).1 = x) (e2 : (fin v).2 = I) : xc_S X C A nL (some .int) fin (some v) pc lv [.int x] I := by
  intro r hr H locs ls hP hD hS hl
  cases hr
  rw [e1, e2]
  exact W.iret h.1 h.2.1 h.2.2.2.2.2.2.1 (fun t ht hW => ⟨⟨x, I, rfl, ⟨rfl, rfl⟩, by rw [ht]; exact hP, va_K.moved hW.alike h.2.2.2.2.2.1, hD⟩, hS.F ht⟩) hS.2.2 hd h.2.2.2.2.2.2.2.1
theorem xi_zretL (h : xc_Ok X C A n cc own nL (some .boolean)) {x : Int32} (hd : decode cc pc = .ok (.ireturn, 1)) {v : α} (e1 : (fin v).1 = x) (e2 : (fin v).2 = I) (q : x = 0 ∨ x = 1) : xc_S X C A nL (some .boolean) fin (some v) pc lv [.int x] I := by
  intro r hr H locs ls hP hD hS hl
  cases hr
  rw [e1, e2]
  exact W.zret h.1 h.2.1 h.2.2.2.2.2.2.1 (by rcases q with rfl | rfl <;> rfl) (fun t ht hW => ⟨⟨x, I, rfl, ⟨rfl, rfl⟩, by rw [ht]; exact hP, va_K.moved hW.alike h.2.2.2.2.2.1, hD⟩, hS.F ht⟩) hS.2.2 hd h.2.2.2.2.2.2.2.1
theorem xi_zret (h : xc_Ok X C A n cc own nL (some .boolean)) {x : Int32} (hd : decode cc pc = .ok (.ireturn, 1)) {v : α} (e1 : (fin v).1 = x) (e2 : (fin v).2 = I) : xc_S X C A nL (some .boolean) fin (xc_rb x v) pc lv [.int x] I := by
  intro r hr
  unfold xc_rb at hr
  split at hr
  · rename_i q
    exact xi_zretL h hd e1 e2 q r hr
  · cases hr
theorem xi_vret (h : xc_Ok X C A n cc own nL none) (hd : decode cc pc = .ok (.return_, 1)) {v : α} (e2 : (fin v).2 = I) : xc_S X C A nL none fin (some v) pc lv [] I := by
  intro r hr H locs ls hP hD hS hl
  cases hr
  rw [e2]
  exact W.vret h.1 h.2.1 h.2.2.2.2.2.2.1 (fun t ht hW => ⟨⟨I, rfl, rfl, by rw [ht]; exact hP, va_K.moved hW.alike h.2.2.2.2.2.1, hD⟩, hS.F ht⟩) hS.2.2 hd h.2.2.2.2.2.2.2.1
theorem xi_sw (h : xc_Ok X C A n cc own nL ret) {dflt lo hi : Int} {offs : Array Int} {len : Nat} {x c : Int32} {off : Int} {tgt : Nat} {ic : Decidable (x = c)} (hd : decode cc pc = .ok (.tableswitch dflt lo hi offs, len)) (h1 : ¬ c.toInt < lo) (h2 : ¬ hi < c.toInt) (ho : offs[(c.toInt - lo).toNat]? = some off) (ht : (pc : Int) + off = (tgt : Int)) (k1 : xc_S X C A nL ret fin t1 tgt lv st I) (k2 : x ≠ c → xc_S X C A nL ret fin t2 pc lv (.int x :: st) I) : xc_S X C A nL ret fin (@ite _ (x = c) ic t1 t2) pc lv (.int x :: st) I := by
  intro r hr
  by_cases e : x = c
  · rw [if_pos e] at hr
    subst e
    exact fun H locs ls hP hD hS hl => lv_tableIn h.1 h.2.1 hd h1 h2 ho ht (k1 r hr H locs ls hP hD hS hl)
  · rw [if_neg e] at hr
    exact k2 e r hr
theorem xi_swD (h : xc_Ok X C A n cc own nL ret) {dflt lo hi : Int} {offs : Array Int} {len : Nat} {x : Int32} {tgt : Nat} (hd : decode cc pc = .ok (.tableswitch dflt lo hi offs, len)) (ho : x.toInt < lo ∨ hi < x.toInt) (ht : (pc : Int) + dflt = (tgt : Int)) (k1 : xc_S X C A nL ret fin t tgt lv st I) : xc_S X C A nL ret fin t pc lv (.int x :: st) I := fun r hr H locs ls hP hD hS hl => lv_tableOut h.1 h.2.1 hd ho ht (k1 r hr H locs ls hP hD hS hl)
theorem xi_ls (h : xc_Ok X C A n cc own nL ret) {dflt : Int} {ps : Array (Int × Int)} {len : Nat} {x c : Int32} {off : Int} {tgt : Nat} {ic : Decidable (x = c)} (hd : decode cc pc = .ok (.lookupswitch dflt ps, len)) (hp : (ps.toList.zip (ps.toList.drop 1)).all (fun (a, next) => a.1 < next.1) = true) (ho : Op.lookupswitch.offset ps.toList dflt c.toInt = off) (ht : (pc : Int) + off = (tgt : Int)) (k1 : xc_S X C A nL ret fin t1 tgt lv st I) (k2 : x ≠ c → xc_S X C A nL ret fin t2 pc lv (.int x :: st) I) : xc_S X C A nL ret fin (@ite _ (x = c) ic t1 t2) pc lv (.int x :: st) I := by
  intro r hr
  by_cases e : x = c
  · rw [if_pos e] at hr
    subst e
    exact fun H locs ls hP hD hS hl => lv_lookup h.1 h.2.1 hd hp ho ht (k1 r hr H locs ls hP hD hS hl)
  · rw [if_neg e] at hr
    exact k2 e r hr
theorem xi_lsD (h : xc_Ok X C A n cc own nL ret) {dflt : Int} {ps : Array (Int × Int)} {len : Nat} {x : Int32} {tgt : Nat} (hd : decode cc pc = .ok (.lookupswitch dflt ps, len)) (hp : (ps.toList.zip (ps.toList.drop 1)).all (fun (a, next) => a.1 < next.1) = true) (ho : Op.lookupswitch.offset ps.toList dflt x.toInt = dflt) (ht : (pc : Int) + dflt = (tgt : Int)) (k1 : xc_S X C A nL ret fin t tgt lv st I) : xc_S X C A nL ret fin t pc lv (.int x :: st) I := fun r hr H locs ls hP hD hS hl => lv_lookup h.1 h.2.1 hd hp ho ht (k1 r hr H locs ls hP hD hS hl)
theorem xc_ne {x : Int32} {c : Int32} (h : x ≠ c) : x.toInt ≠ c.toInt := fun e => h (Int32.toInt_inj.mp e)
theorem xi_iald (h : xc_Ok X C A n cc own nL ret) {a m : Nat} {i : Int32} {f : Int32 → Option α} (hd : decode cc pc = .ok (.iaload, 1)) (hs : X.2.2.2.1[a]? = some (0, m)) (k : ∀ v : Int32, xc_S X C A nL ret fin (f v) (pc + 1) lv (.int v :: st) I) : xc_S X C A nL ret fin (xc_rd m a i I f) pc lv (.int i :: .ref (X.2.2.2.2.2 a) :: st) I := by
  intro r hr
  unfold xc_rd at hr
  split at hr
  · cases hr
  · rename_i q
    exact fun H locs ls hP hD hS hl => va_iald h.1 h.2.1 h.2.2.2.2.2.1 hP a 0 (xc_at I hs) rfl q hd (k _ r hr H locs ls hP hD hS hl)
theorem xi_bald (h : xc_Ok X C A n cc own nL ret) {a m : Nat} {i : Int32} {f : Int32 → Option α} (hd : decode cc pc = .ok (.baload, 1)) (hs : X.2.2.2.1[a]? = some (1, m)) (k : ∀ v : Int32, xc_S X C A nL ret fin (f v) (pc + 1) lv (.int v :: st) I) : xc_S X C A nL ret fin (xc_rd m a i I f) pc lv (.int i :: .ref (X.2.2.2.2.2 a) :: st) I := by
  intro r hr
  unfold xc_rd at hr
  split at hr
  · cases hr
  · rename_i q
    exact fun H locs ls hP hD hS hl => va_bald h.1 h.2.1 h.2.2.2.2.2.1 hP a 1 (xc_at I hs) rfl q hd (k _ r hr H locs ls hP hD hS hl)
theorem xi_iast (h : xc_Ok X C A n cc own nL ret) {a m : Nat} {i v : Int32} {f : xc_M → Option α} (hd : decode cc pc = .ok (.iastore, 1)) (hs : X.2.2.2.1[a]? = some (0, m)) (k : ∀ J : xc_M, xc_S X C A nL ret fin (f J) (pc + 1) lv st J) : xc_S X C A nL ret fin (xc_st m a i v I f) pc lv (.int v :: .int i :: .ref (X.2.2.2.2.2 a) :: st) I := by
  intro r hr
  unfold xc_st at hr
  split at hr
  · cases hr
  · rename_i q
    intro H locs ls hP hD hS hl
    refine va_iast h.1 h.2.1 h.2.2.2.2.2.1 hP hD hS a 0 (xc_at I hs) rfl q hd (fun H1 locs1 hP1 hD1 hS1 => ?_)
    rw [xc_set (k := i.toNatClampNeg) (v := v) hs (by simp only [xc_ent, xc_wr_arr])] at hP1 hD1
    exact k _ r hr H1 locs1 ls hP1 hD1 hS1 hl
theorem xi_bast (h : xc_Ok X C A n cc own nL ret) {a m : Nat} {i v : Int32} {f : xc_M → Option α} (hd : decode cc pc = .ok (.bastore, 1)) (hs : X.2.2.2.1[a]? = some (1, m)) (k : ∀ J : xc_M, xc_S X C A nL ret fin (f J) (pc + 1) lv st J) : xc_S X C A nL ret fin (xc_st m a i (vp_nar .byte v) I f) pc lv (.int v :: .int i :: .ref (X.2.2.2.2.2 a) :: st) I := by
  intro r hr
  unfold xc_st at hr
  split at hr
  · cases hr
  · rename_i q
    intro H locs ls hP hD hS hl
    refine va_bast h.1 h.2.1 h.2.2.2.2.2.1 hP hD hS a 1 (xc_at I hs) rfl q hd (fun H1 locs1 hP1 hD1 hS1 => ?_)
    rw [xc_set (k := i.toNatClampNeg) (v := vp_nar .byte v) hs (by simp only [xc_ent, xc_wr_arr])] at hP1 hD1
    exact k _ r hr H1 locs1 ls hP1 hD1 hS1 hl
theorem xi_alen (h : xc_Ok X C A n cc own nL ret) {a m : Nat} {v : Int32} (hd : decode cc pc = .ok (.arraylength, 1)) (hs : X.2.2.2.1[a]? = some (0, m)) (hv : Int32.ofNat m = v) (k : xc_S X C A nL ret fin t (pc + 1) lv (.int v :: st) I) : xc_S X C A nL ret fin t pc lv (.ref (X.2.2.2.2.2 a) :: st) I := fun r hr H locs ls hP hD hS hl => va_alen h.1 h.2.1 h.2.2.2.2.2.1 hP a 0 (xc_at I hs) rfl hv hd (k r hr H locs ls hP hD hS hl)
theorem xi_getI (h : xc_Ok X C A n cc own nL ret) {c a j u ix N : Nat} {R : String} {T : u_T} {ty : Nat → FieldType} (hK : xc_Kl c R T N ty) (hd : decode cc pc = .ok (.getfield ix, 3)) (hw : Cond.fieldLink own ix R (T j).2.1 (T j).2.2.1 ∈ xc_T) (hj : j < N) (hr : xc_rf c j = false) (hs : X.2.2.2.1[a]? = some (c + 3, u)) (k : xc_S X C A nL ret fin t (pc + 3) lv (.int (I a j) :: st) I) : xc_S X C A nL ret fin t pc lv (.ref (X.2.2.2.2.2 a) :: st) I := fun r hr2 H locs ls hP hD hS hl => va_get h.1 h.2.1 h.2.2.2.2.1 hK.2.1 h.2.2.2.1 h.2.2.2.2.2.1 hP a (xc_at I hs) hK.1 j hj (h.2.2.2.2.1 _ hw) (by rw [hK.2.2.2.2.2 j hj]; exact fun _ q => q) (by simp [xc_fs, hK.2.2.2.2.1, hj, xc_fv, hr]) hd (k r hr2 H locs ls hP hD hS hl)
theorem xi_getR (h : xc_Ok X C A n cc own nL ret) {c a b j u ix N : Nat} {R : String} {T : u_T} {ty : Nat → FieldType} (hK : xc_Kl c R T N ty) (hd : decode cc pc = .ok (.getfield ix, 3)) (hw : Cond.fieldLink own ix R (T j).2.1 (T j).2.2.1 ∈ xc_T) (hj : j < N) (hr : xc_rf c j = true) (hs : X.2.2.2.1[a]? = some (c + 3, u)) (hp : X.2.2.2.2.1 a j = some b) (k : xc_S X C A nL ret fin t (pc + 3) lv (.ref (X.2.2.2.2.2 b) :: st) I) : xc_S X C A nL ret fin t pc lv (.ref (X.2.2.2.2.2 a) :: st) I := fun r hr2 H locs ls hP hD hS hl => va_get h.1 h.2.1 h.2.2.2.2.1 hK.2.1 h.2.2.2.1 h.2.2.2.2.2.1 hP a (xc_at I hs) hK.1 j hj (h.2.2.2.2.1 _ hw) (by rw [hK.2.2.2.2.2 j hj]; exact fun _ q => q) (by simp [xc_fs, hK.2.2.2.2.1, hj, xc_fv, hr, hp]) hd (k r hr2 H locs ls hP hD hS hl)
theorem xi_putI (h : xc_Ok X C A n cc own nL ret) {c a j u ix N : Nat} {R : String} {T : u_T} {ty : Nat → FieldType} {x : Int32} {f : xc_M → Option α} (hK : xc_Kl c R T N ty) (hd : decode cc pc = .ok (.putfield ix, 3)) (hw : Cond.fieldLink own ix R (T j).2.1 (T j).2.2.1 ∈ xc_T) (hj : j < N) (hr : xc_rf c j = false) (hfin : (T j).2.2.2 = false) (hty : ty j = .int) (hs : X.2.2.2.1[a]? = some (c + 3, u)) (k : ∀ J : xc_M, xc_S X C A nL ret fin (f J) (pc + 3) lv st J) : xc_S X C A nL ret fin (xc_mw I a j x f) pc lv (.int x :: .ref (X.2.2.2.2.2 a) :: st) I := by
  intro r hr2 H locs ls hP hD hS hl
  refine va_put h.1 h.2.1 h.2.2.2.2.1 hK.2.1 ty hK.2.2.1 hK.2.2.2.1 h.2.2.2.1 h.2.2.2.2.2.1 hP hD hS a (xc_at I hs) hK.1 j hj (h.2.2.2.2.1 _ hw) (by rw [hK.2.2.2.2.2 j hj]; exact fun _ q => q) hfin (ty := .int) (by rw [← hty]; exact hK.2.2.1 j hj) rfl rfl (by simp [xc_fs, hK.2.2.2.2.1, hj]) hd (fun H1 locs1 hP1 hD1 hS1 => ?_)
  rw [xc_wr_fs hr, xc_set (I := I) (k := j) (v := x) (e := .inr (c, xc_fs X (xc_wr I a j x) c a)) hs rfl] at hP1 hD1
  exact k _ r hr2 H1 locs1 ls hP1 hD1 hS1 hl
theorem xi_putZ (h : xc_Ok X C A n cc own nL ret) {c a j u ix N : Nat} {R : String} {T : u_T} {ty : Nat → FieldType} {x : Int32} {f : xc_M → Option α} (hK : xc_Kl c R T N ty) (hd : decode cc pc = .ok (.putfield ix, 3)) (hw : Cond.fieldLink own ix R (T j).2.1 (T j).2.2.1 ∈ xc_T) (hj : j < N) (hr : xc_rf c j = false) (hfin : (T j).2.2.2 = false) (hty : ty j = .boolean) (hs : X.2.2.2.1[a]? = some (c + 3, u)) (k : ∀ J : xc_M, xc_S X C A nL ret fin (f J) (pc + 3) lv st J) : xc_S X C A nL ret fin (xc_mz I a j x f) pc lv (.int x :: .ref (X.2.2.2.2.2 a) :: st) I := by
  intro r hr2
  unfold xc_mz at hr2
  split at hr2
  · rename_i q
    intro H locs ls hP hD hS hl
    refine va_put h.1 h.2.1 h.2.2.2.2.1 hK.2.1 ty hK.2.2.1 hK.2.2.2.1 h.2.2.2.1 h.2.2.2.2.2.1 hP hD hS a (xc_at I hs) hK.1 j hj (h.2.2.2.2.1 _ hw) (by rw [hK.2.2.2.2.2 j hj]; exact fun _ q => q) hfin (ty := .boolean) (by rw [← hty]; exact hK.2.2.1 j hj) (by rcases q with rfl | rfl <;> rfl) (by rcases q with rfl | rfl <;> rfl) (by simp [xc_fs, hK.2.2.2.2.1, hj]) hd (fun H1 locs1 hP1 hD1 hS1 => ?_)
    rw [xc_wr_fs hr, xc_set (I := I) (k := j) (v := x) (e := .inr (c, xc_fs X (xc_wr I a j x) c a)) hs rfl] at hP1 hD1
    exact k _ r hr2 H1 locs1 ls hP1 hD1 hS1 hl
  · cases hr2
/-- a method's contract out of the walk of its body -/
theorem xc_Cf.of {y : MethodName} {av : List Value} (hy : plainName y.cls = true) (hlen : (lg_sl av).length ≤ nL) {t : Option (Int32 × xc_M)} (body : ∀ (C : xc_C) (A : Nat → Prop), xc_Ok X C A n cc y.cls nL ret → xc_S X C A nL ret id t 0 (lv_args 0 av) [] I) : xc_Cf X n y cc nL ret av I t := by
  intro r J hr sz
  refine Met.ofW (cc := cc) (maxL := nL) (ret := ret) hy rfl ?_
  intro p e s m args below meth c s₁ B hml hv
  obtain ⟨rfl, hsz, hP, hK, hD0, hZ⟩ := hv
  subst hsz
  have hts := atoms_spec (ws := Cond.code y cc nL ret :: xc_T) B.pre
  have hD := hD0.self (sz := s.heap.size)
  have hl := lv_entry av (n := nL) hlen
  rw [lg_entry_eq]
  exact body (p, e, (headSpec (Cond.code y cc nL ret :: xc_T) (xc_rm n)).room, s, m, av.toArray, below, meth, c) (va_A (xc_ws X I) s.heap.size) ⟨B.exec, B.bytes, hml, findClass_of_methodNamed B.named, fun w hw => hts w (List.mem_cons_of_mem _ hw), hK, B.returns, B.notSynchronized, rfl, fun q hq => Or.inr hq, hZ⟩ (r, J) hr s.heap [] _ hP hD va_S.rf hl
theorem xc_Cf.ofR {y : MethodName} {av : List Value} {rt : Option FieldType} (hy : plainName y.cls = true) (hlen : (lg_sl av).length ≤ nL) {t : Option Int32} (body : ∀ (C : xc_C) (A : Nat → Prop), xc_Ok X C A n cc y.cls nL rt → xc_S X C A nL rt (xc_fin I) t 0 (lv_args 0 av) [] I) : xc_Cf X n y cc nL rt av I (xc_ro t I) := xc_Cf.of hy hlen (fun C A h q hq => by
  cases ht : t with
  | none => rw [ht] at hq; cases hq
  | some x =>
    rw [ht] at hq
    cases hq
    exact body C A h x ht)
theorem xc_words {y : MethodName} {cc : ByteArray} {maxL np : Nat} {ret : Option FieldType} (md : xc_Md y cc maxL ret np) : GoodIn xc_T (Cond.code y cc maxL ret :: xc_T) := xc_goodIn (fun w hw => by
  rcases List.mem_cons.mp hw with rfl | hw
  · exact md.1
  · exact hw)
theorem xc_callB {C : xc_C} {y : MethodName} {cc' : ByteArray} {maxL' n' np ix : Nat} {ret' : Option FieldType} (h : xc_Ok X C A n cc own nL ret) (md : xc_Md y cc' maxL' ret' np) (hl : Cond.methodLink own ix y ∈ xc_T) (hn : n' < n) : CallB C.2.2.1 C.2.2.2.1 C.2.2.2.2.2.1 own ix y cc' maxL' ret' (Cond.code y cc' maxL' ret' :: xc_T) (xc_rm n') 0 0 np := by
  refine callB_of np h.2.2.2.2.1 (xc_words md) rfl rfl rfl (h.2.2.2.2.1 _ md.2.1) (h.2.2.2.2.1 _ hl) md.2.2.1 ?_
  have e := h.2.2.2.2.2.2.2.2.1
  rw [e]
  have := md.2.2.2
  constructor
  · show n' + 1 + 1 ≤ n + 1
    omega
  · show 8 + (maxL' + 11) + 64 * (n' + 1) ≤ 64 * (n + 1)
    omega
def xc_top (ret : Option FieldType) (r : Int32) (st : List Value) : List Value := match ret with
  | none => st
  | some _ => .int r :: st
theorem xc_goes {C : xc_C} {A : Nat → Prop} (h : xc_Ok X C A n cc own nL ret) {n' : Nat} {y : MethodName} {st0 : List Value} {ret' : Option FieldType} {r : Int32} {J : xc_M} {ar : Array Value} {H : Heap} {locs : List Loc} {ls : Array Slot} {Q : State → Prop} {lv : List (Nat × Value)}
    (hr : va_Run C.1 X.1 C.2.1 C.2.2.1 C.2.2.2.1 C.2.2.2.2.1 C.2.2.2.2.2.1 C.2.2.2.2.2.2.1 C.2.2.2.2.2.2.2.1 C.2.2.2.2.2.2.2.2 H locs 0 0 0 0 (F0 C.2.2.2.2.1 pc ls st0) st (xc_Q X (va_A (xc_ws X I) H.size) ret' r J ar) (va_A (xc_ws X I) H.size))
    (hD : va_D A (xc_ws X I)) (hS : va_S A C.2.2.2.1.heap H locs)
    (k : ∀ (H1 : Heap) (locs1 : List Loc), va_P X.2.1 vwCl (xc_ws X J) H1 → va_D A (xc_ws X J) → va_S A C.2.2.2.1.heap H1 locs1 → xc_W X C H1 locs1 Q (F0 C.2.2.2.2.1 (pc + 3) ls (xc_top ret' r st))) : xc_W X C H locs Q (F0 C.2.2.2.2.1 pc ls st0) := by
  have hf : ∀ q, va_A (xc_ws X I) H.size q → A q := fun q hq => by
    rcases hq with ⟨i, e, hq⟩ | hq
    · exact hD.2 i _ hq
    · exact h.2.2.2.2.2.2.2.2.2.1 q (Nat.le_trans hS.1 hq)
  cases ret' with
  | none =>
    refine va_callv (a := ar) hr hS (fun q _ hq => hf q hq) hf (fun u t3 H1 locs1 ht hvm hw hB hz1 hk1 hS1 => ?_)
    subst hw
    exact k H1 locs1 (by rw [← ht]; exact hB.1) (hB.2.2.weaken (fun _ q _ hq => hf q.1 hq)) hS1
  | some rt =>
    refine va_calli (a := ar) hr hS (fun q _ hq => hf q hq) hf (fun r2 u t3 H1 locs1 ht hvm hw hB hz1 hk1 hS1 => ?_)
    obtain ⟨rfl, rfl⟩ := hw
    exact k H1 locs1 (by rw [← ht]; exact hB.1) (hB.2.2.weaken (fun _ q _ hq => hf q.1 hq)) hS1
theorem xc_preB (h : xc_Ok X C A n cc own nL ret) {av : List Value} {H : Heap} {locs : List Loc} (hP : va_P X.2.1 vwCl (xc_ws X I) H) (hD : va_D A (xc_ws X I)) (hS : va_S A C.2.2.2.1.heap H locs) : PreS C.2.2.2.1 H (va_Pc av (fun U => U.heap.size = H.size ∧ va_P X.2.1 vwCl (xc_ws X I) U.heap ∧ va_K X.2.1 vwCl (xc_ty X) U ∧ va_D (fun _ => True) (xc_ws X I) ∧ xc_Z X (va_A (xc_ws X I) H.size) U)) av := ⟨fun a U g mk q => by obtain ⟨q0, q1, qP, qK, qD, qZ⟩ := q; exact ⟨q0, q1, qP, va_K.moved (u := U) (U := U.calling g mk a) (Vm.Alike.refl U.vm) qK, qD, qZ.blind⟩, fun U hU hW => ⟨rfl, by rw [hU], by rw [hU]; exact hP, va_K.moved hW.alike h.2.2.2.2.2.1, hD.weaken (fun _ _ _ _ => trivial), h.2.2.2.2.2.2.2.2.2.2.to hS (fun q hq => by
  rcases hq with ⟨i, e, hq⟩ | hq
  · exact hD.2 i _ hq
  · exact h.2.2.2.2.2.2.2.2.2.1 q (Nat.le_trans hS.1 hq)) hU hW⟩⟩
theorem xc_runV {n' np ix a ci u maxL' N : Nat} {R : String} {T : u_T} {y : MethodName} {cc' : ByteArray} {ret' : Option FieldType} {av : List Value} {t3 : Option (Int32 × xc_M)} {st0 : List Value} {r : Int32} {J : xc_M} {H : Heap} {locs : List Loc} {ls : Array Slot} (h : xc_Ok X C A n cc own nL ret) (hd : decode cc pc = .ok (.invokevirtual ix, 3)) (md : xc_Md y cc' maxL' ret' np) (hi : Cond.instanceMethod y ∈ xc_T) (hse : Cond.selects y.cls y y ∈ xc_T) (hl : Cond.methodLink own ix y ∈ xc_T) (hn : n' < n) (hs : X.2.2.2.1[a]? = some (ci + 3, u)) (hc : vwCl[ci]? = some (R, T, N)) (hR : R = y.cls) (hav : av.length = np) (hst : st0 = av.reverse ++ .ref (X.2.2.2.2.2 a) :: st) (hcat : (st.map fun v => v.category).sum ≤ 8) (cf : xc_Cf X n' y cc' maxL' ret' (.ref (X.2.2.2.2.2 a) :: av) I t3) (ht3 : t3 = some (r, J)) (hP : va_P X.2.1 vwCl (xc_ws X I) H) (hD : va_D A (xc_ws X I)) (hS : va_S A C.2.2.2.1.heap H locs) (hls : ls.size = nL) : va_Run C.1 X.1 C.2.1 C.2.2.1 C.2.2.2.1 C.2.2.2.2.1 C.2.2.2.2.2.1 C.2.2.2.2.2.2.1 C.2.2.2.2.2.2.2.1 C.2.2.2.2.2.2.2.2 H locs 0 0 0 0 (F0 C.2.2.2.2.1 pc ls st0) st (xc_Q X (va_A (xc_ws X I) H.size) ret' r J (Value.ref (X.2.2.2.2.2 a) :: av).toArray) (va_A (xc_ws X I) H.size) := by
  have hB := xc_preB h hP hD hS (av := .ref (X.2.2.2.2.2 a) :: av)
  refine va_runV ⟨h.1, h.2.1, h.2.2.1, h.2.2.2.1, h.2.2.2.2.1⟩ (cf r J ht3 H.size) ⟨xc_callB h md hl hn, h.2.2.2.2.1 _ hi, h.2.2.2.2.1 _ hse⟩ ⟨hB.1, ?_, hB.2⟩ rfl hav hls hst (lv_room hcat) hd ⟨by rw [h.2.2.2.2.2.2.2.2.1]; exact Nat.le_refl 0, by rw [h.2.2.2.2.2.2.2.2.1]; exact Nat.le_refl 0⟩
  have hrc := va_recv h.2.2.2.2.2.1 hP hc (xc_at I hs)
  rw [← hR]
  exact hrc
theorem xc_runS {n' np ix maxL' : Nat} {y : MethodName} {cc' : ByteArray} {ret' : Option FieldType} {av : List Value} {t3 : Option (Int32 × xc_M)} {st0 : List Value} {r : Int32} {J : xc_M} {H : Heap} {locs : List Loc} {ls : Array Slot} (h : xc_Ok X C A n cc own nL ret) (hd : decode cc pc = .ok (.invokestatic ix, 3)) (md : xc_Md y cc' maxL' ret' np) (hi : Cond.static y ∈ xc_T) (hl : Cond.methodLink own ix y ∈ xc_T) (hn : n' < n) (hav : av.length = np) (hst : st0 = av.reverse ++ st) (hcat : (st.map fun v => v.category).sum ≤ 8) (cf : xc_Cf X n' y cc' maxL' ret' av I t3) (ht3 : t3 = some (r, J)) (hP : va_P X.2.1 vwCl (xc_ws X I) H) (hD : va_D A (xc_ws X I)) (hS : va_S A C.2.2.2.1.heap H locs) (hls : ls.size = nL) : va_Run C.1 X.1 C.2.1 C.2.2.1 C.2.2.2.1 C.2.2.2.2.1 C.2.2.2.2.2.1 C.2.2.2.2.2.2.1 C.2.2.2.2.2.2.2.1 C.2.2.2.2.2.2.2.2 H locs 0 0 0 0 (F0 C.2.2.2.2.1 pc ls st0) st (xc_Q X (va_A (xc_ws X I) H.size) ret' r J av.toArray) (va_A (xc_ws X I) H.size) :=
  va_runS ⟨h.1, h.2.1, h.2.2.1, h.2.2.2.1, h.2.2.2.2.1⟩ (cf r J ht3 H.size) ⟨xc_callB h md hl hn, h.2.2.2.2.1 _ hi⟩ (xc_preB h hP hD hS) rfl hav hls hst (lv_room hcat) hd ⟨by rw [h.2.2.2.2.2.2.2.2.1]; exact Nat.le_refl 0, by rw [h.2.2.2.2.2.2.2.2.1]; exact Nat.le_refl 0⟩
theorem xi_callV (h : xc_Ok X C A n cc own nL ret) {n' np ix a ci u maxL' N : Nat} {R : String} {T : u_T} {y : MethodName} {cc' : ByteArray} {av : List Value} {st0 : List Value} {rt : FieldType} {t3 : Option (Int32 × xc_M)} {f : Int32 → xc_M → Option α} (hd : decode cc pc = .ok (.invokevirtual ix, 3)) (md : xc_Md y cc' maxL' (some rt) np) (hi : Cond.instanceMethod y ∈ xc_T) (hse : Cond.selects y.cls y y ∈ xc_T) (hlk : Cond.methodLink own ix y ∈ xc_T) (hn : n' < n) (hs : X.2.2.2.1[a]? = some (ci + 3, u)) (hc : vwCl[ci]? = some (R, T, N)) (hR : R = y.cls) (hav : av.length = np) (hst : st0 = av.reverse ++ .ref (X.2.2.2.2.2 a) :: st) (hcat : (st.map fun v => v.category).sum ≤ 8) (cf : xc_Cf X n' y cc' maxL' (some rt) (.ref (X.2.2.2.2.2 a) :: av) I t3) (k : ∀ (v : Int32) (J : xc_M), xc_S X C A nL ret fin (f v J) (pc + 3) lv (.int v :: st) J) : xc_S X C A nL ret fin (xc_cl t3 f) pc lv st0 I := by
  intro r hr
  cases ht3 : t3 with
  | none => rw [ht3] at hr; cases hr
  | some q =>
    rw [ht3] at hr
    intro H locs ls hP hD hS hl
    exact xc_goes (ret' := some rt) (y := y) (lv := lv) (n' := n') h (xc_runV h hd md hi hse hlk hn hs hc hR hav hst hcat cf (by rw [ht3]) hP hD hS hl.1) hD hS (fun H1 locs1 hP1 hD1 hS1 => k q.1 q.2 r hr H1 locs1 ls hP1 hD1 hS1 hl)
theorem xi_askV (h : xc_Ok X C A n cc own nL ret) {n' np ix a ci u maxL' N : Nat} {R : String} {T : u_T} {y : MethodName} {cc' : ByteArray} {av : List Value} {st0 : List Value} {rt : FieldType} {t3 : Option Int32} {f : Int32 → Option α} (hd : decode cc pc = .ok (.invokevirtual ix, 3)) (md : xc_Md y cc' maxL' (some rt) np) (hi : Cond.instanceMethod y ∈ xc_T) (hse : Cond.selects y.cls y y ∈ xc_T) (hlk : Cond.methodLink own ix y ∈ xc_T) (hn : n' < n) (hs : X.2.2.2.1[a]? = some (ci + 3, u)) (hc : vwCl[ci]? = some (R, T, N)) (hR : R = y.cls) (hav : av.length = np) (hst : st0 = av.reverse ++ .ref (X.2.2.2.2.2 a) :: st) (hcat : (st.map fun v => v.category).sum ≤ 8) (cf : xc_Cf X n' y cc' maxL' (some rt) (.ref (X.2.2.2.2.2 a) :: av) I (xc_ro t3 I)) (k : ∀ v : Int32, xc_S X C A nL ret fin (f v) (pc + 3) lv (.int v :: st) I) : xc_S X C A nL ret fin (xc_cr t3 f) pc lv st0 I := by
  intro r hr
  cases ht3 : t3 with
  | none => rw [ht3] at hr; cases hr
  | some q =>
    rw [ht3] at hr
    intro H locs ls hP hD hS hl
    exact xc_goes (ret' := some rt) (y := y) (lv := lv) (n' := n') h (xc_runV h hd md hi hse hlk hn hs hc hR hav hst hcat cf (r := q) (J := I) (by rw [ht3]; rfl) hP hD hS hl.1) hD hS (fun H1 locs1 hP1 hD1 hS1 => k q r hr H1 locs1 ls hP1 hD1 hS1 hl)
theorem xi_doV (h : xc_Ok X C A n cc own nL ret) {n' np ix a ci u maxL' N : Nat} {R : String} {T : u_T} {y : MethodName} {cc' : ByteArray} {av : List Value} {st0 : List Value} {t3 : Option (Int32 × xc_M)} {f : xc_M → Option α} (hd : decode cc pc = .ok (.invokevirtual ix, 3)) (md : xc_Md y cc' maxL' none np) (hi : Cond.instanceMethod y ∈ xc_T) (hse : Cond.selects y.cls y y ∈ xc_T) (hlk : Cond.methodLink own ix y ∈ xc_T) (hn : n' < n) (hs : X.2.2.2.1[a]? = some (ci + 3, u)) (hc : vwCl[ci]? = some (R, T, N)) (hR : R = y.cls) (hav : av.length = np) (hst : st0 = av.reverse ++ .ref (X.2.2.2.2.2 a) :: st) (hcat : (st.map fun v => v.category).sum ≤ 8) (cf : xc_Cf X n' y cc' maxL' none (.ref (X.2.2.2.2.2 a) :: av) I t3) (k : ∀ J : xc_M, xc_S X C A nL ret fin (f J) (pc + 3) lv st J) : xc_S X C A nL ret fin (xc_cv t3 f) pc lv st0 I := by
  intro r hr
  cases ht3 : t3 with
  | none => rw [ht3] at hr; cases hr
  | some q =>
    rw [ht3] at hr
    intro H locs ls hP hD hS hl
    exact xc_goes (ret' := none) (y := y) (lv := lv) (n' := n') h (xc_runV h hd md hi hse hlk hn hs hc hR hav hst hcat cf (r := q.1) (J := q.2) (by rw [ht3]) hP hD hS hl.1) hD hS (fun H1 locs1 hP1 hD1 hS1 => k q.2 r hr H1 locs1 ls hP1 hD1 hS1 hl)
theorem xi_callS (h : xc_Ok X C A n cc own nL ret) {n' np ix maxL' : Nat} {y : MethodName} {cc' : ByteArray} {av : List Value} {st0 : List Value} {rt : FieldType} {t3 : Option (Int32 × xc_M)} {f : Int32 → xc_M → Option α} (hd : decode cc pc = .ok (.invokestatic ix, 3)) (md : xc_Md y cc' maxL' (some rt) np) (hi : Cond.static y ∈ xc_T) (hlk : Cond.methodLink own ix y ∈ xc_T) (hn : n' < n) (hav : av.length = np) (hst : st0 = av.reverse ++ st) (hcat : (st.map fun v => v.category).sum ≤ 8) (cf : xc_Cf X n' y cc' maxL' (some rt) av I t3) (k : ∀ (v : Int32) (J : xc_M), xc_S X C A nL ret fin (f v J) (pc + 3) lv (.int v :: st) J) : xc_S X C A nL ret fin (xc_cl t3 f) pc lv st0 I := by
  intro r hr
  cases ht3 : t3 with
  | none => rw [ht3] at hr; cases hr
  | some q =>
    rw [ht3] at hr
    intro H locs ls hP hD hS hl
    exact xc_goes (ret' := some rt) (y := y) (lv := lv) (n' := n') h (xc_runS h hd md hi hlk hn hav hst hcat cf (by rw [ht3]) hP hD hS hl.1) hD hS (fun H1 locs1 hP1 hD1 hS1 => k q.1 q.2 r hr H1 locs1 ls hP1 hD1 hS1 hl)
theorem xi_askS (h : xc_Ok X C A n cc own nL ret) {n' np ix maxL' : Nat} {y : MethodName} {cc' : ByteArray} {av : List Value} {st0 : List Value} {rt : FieldType} {t3 : Option Int32} {f : Int32 → Option α} (hd : decode cc pc = .ok (.invokestatic ix, 3)) (md : xc_Md y cc' maxL' (some rt) np) (hi : Cond.static y ∈ xc_T) (hlk : Cond.methodLink own ix y ∈ xc_T) (hn : n' < n) (hav : av.length = np) (hst : st0 = av.reverse ++ st) (hcat : (st.map fun v => v.category).sum ≤ 8) (cf : xc_Cf X n' y cc' maxL' (some rt) av I (xc_ro t3 I)) (k : ∀ v : Int32, xc_S X C A nL ret fin (f v) (pc + 3) lv (.int v :: st) I) : xc_S X C A nL ret fin (xc_cr t3 f) pc lv st0 I := by
  intro r hr
  cases ht3 : t3 with
  | none => rw [ht3] at hr; cases hr
  | some q =>
    rw [ht3] at hr
    intro H locs ls hP hD hS hl
    exact xc_goes (ret' := some rt) (y := y) (lv := lv) (n' := n') h (xc_runS h hd md hi hlk hn hav hst hcat cf (r := q) (J := I) (by rw [ht3]; rfl) hP hD hS hl.1) hD hS (fun H1 locs1 hP1 hD1 hS1 => k q r hr H1 locs1 ls hP1 hD1 hS1 hl)
theorem xi_doS (h : xc_Ok X C A n cc own nL ret) {n' np ix maxL' : Nat} {y : MethodName} {cc' : ByteArray} {av : List Value} {st0 : List Value} {t3 : Option (Int32 × xc_M)} {f : xc_M → Option α} (hd : decode cc pc = .ok (.invokestatic ix, 3)) (md : xc_Md y cc' maxL' none np) (hi : Cond.static y ∈ xc_T) (hlk : Cond.methodLink own ix y ∈ xc_T) (hn : n' < n) (hav : av.length = np) (hst : st0 = av.reverse ++ st) (hcat : (st.map fun v => v.category).sum ≤ 8) (cf : xc_Cf X n' y cc' maxL' none av I t3) (k : ∀ J : xc_M, xc_S X C A nL ret fin (f J) (pc + 3) lv st J) : xc_S X C A nL ret fin (xc_cv t3 f) pc lv st0 I := by
  intro r hr
  cases ht3 : t3 with
  | none => rw [ht3] at hr; cases hr
  | some q =>
    rw [ht3] at hr
    intro H locs ls hP hD hS hl
    exact xc_goes (ret' := none) (y := y) (lv := lv) (n' := n') h (xc_runS h hd md hi hlk hn hav hst hcat cf (r := q.1) (J := q.2) (by rw [ht3]) hP hD hS hl.1) hD hS (fun H1 locs1 hP1 hD1 hS1 => k q.2 r hr H1 locs1 ls hP1 hD1 hS1 hl)
end
