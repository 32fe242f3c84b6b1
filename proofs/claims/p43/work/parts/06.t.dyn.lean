section
variable {Z : xd_Z} {C : xc_C} {A : Nat → Prop} {Q : State → Prop} {n nL : Nat} {cc : ByteArray} {own : String} {t t1 t2 : Prop} {pc : Nat} {lv lv' : List (Nat × Value)} {st : List Value} {σ : xd_S}

theorem xd_iadd (h : xd_Ok Z C A n cc own nL) {x y : Int32} (hd : decode cc pc = .ok (.iadd, 1)) (k : xd_T Z C A Q nL t (pc + 1) lv (.int (x + y) :: st) σ) : xd_T Z C A Q nL t pc lv (.int y :: .int x :: st) σ := fun ht H locs ls ds cu su hdm hcu hsu hP hD hS hl => lv_iadd h.1 h.2.1 hd (k ht H locs ls ds cu su hdm hcu hsu hP hD hS hl)
theorem xd_isub (h : xd_Ok Z C A n cc own nL) {x y : Int32} (hd : decode cc pc = .ok (.isub, 1)) (k : xd_T Z C A Q nL t (pc + 1) lv (.int (x - y) :: st) σ) : xd_T Z C A Q nL t pc lv (.int y :: .int x :: st) σ := fun ht H locs ls ds cu su hdm hcu hsu hP hD hS hl => lv_isub h.1 h.2.1 hd (k ht H locs ls ds cu su hdm hcu hsu hP hD hS hl)
theorem xd_imul (h : xd_Ok Z C A n cc own nL) {x y : Int32} (hd : decode cc pc = .ok (.imul, 1)) (k : xd_T Z C A Q nL t (pc + 1) lv (.int (x * y) :: st) σ) : xd_T Z C A Q nL t pc lv (.int y :: .int x :: st) σ := fun ht H locs ls ds cu su hdm hcu hsu hP hD hS hl => lv_imul h.1 h.2.1 hd (k ht H locs ls ds cu su hdm hcu hsu hP hD hS hl)
theorem xd_iand (h : xd_Ok Z C A n cc own nL) {x y : Int32} (hd : decode cc pc = .ok (.iand, 1)) (k : xd_T Z C A Q nL t (pc + 1) lv (.int (x &&& y) :: st) σ) : xd_T Z C A Q nL t pc lv (.int y :: .int x :: st) σ := fun ht H locs ls ds cu su hdm hcu hsu hP hD hS hl => lv_iand h.1 h.2.1 hd (k ht H locs ls ds cu su hdm hcu hsu hP hD hS hl)
theorem xd_ior (h : xd_Ok Z C A n cc own nL) {x y : Int32} (hd : decode cc pc = .ok (.ior, 1)) (k : xd_T Z C A Q nL t (pc + 1) lv (.int (x ||| y) :: st) σ) : xd_T Z C A Q nL t pc lv (.int y :: .int x :: st) σ := fun ht H locs ls ds cu su hdm hcu hsu hP hD hS hl => lv_ior h.1 h.2.1 hd (k ht H locs ls ds cu su hdm hcu hsu hP hD hS hl)
theorem xd_ixor (h : xd_Ok Z C A n cc own nL) {x y : Int32} (hd : decode cc pc = .ok (.ixor, 1)) (k : xd_T Z C A Q nL t (pc + 1) lv (.int (x ^^^ y) :: st) σ) : xd_T Z C A Q nL t pc lv (.int y :: .int x :: st) σ := fun ht H locs ls ds cu su hdm hcu hsu hP hD hS hl => lv_ixor h.1 h.2.1 hd (k ht H locs ls ds cu su hdm hcu hsu hP hD hS hl)
theorem xd_ishl (h : xd_Ok Z C A n cc own nL) {x y : Int32} (hd : decode cc pc = .ok (.ishl, 1)) (k : xd_T Z C A Q nL t (pc + 1) lv (.int (x <<< (y &&& 31)) :: st) σ) : xd_T Z C A Q nL t pc lv (.int y :: .int x :: st) σ := fun ht H locs ls ds cu su hdm hcu hsu hP hD hS hl => lv_ishl h.1 h.2.1 hd (k ht H locs ls ds cu su hdm hcu hsu hP hD hS hl)
theorem xd_ishr (h : xd_Ok Z C A n cc own nL) {x y : Int32} (hd : decode cc pc = .ok (.ishr, 1)) (k : xd_T Z C A Q nL t (pc + 1) lv (.int (x >>> (y &&& 31)) :: st) σ) : xd_T Z C A Q nL t pc lv (.int y :: .int x :: st) σ := fun ht H locs ls ds cu su hdm hcu hsu hP hD hS hl => lv_ishr h.1 h.2.1 hd (k ht H locs ls ds cu su hdm hcu hsu hP hD hS hl)
theorem xd_iushr (h : xd_Ok Z C A n cc own nL) {x y : Int32} (hd : decode cc pc = .ok (.iushr, 1)) (k : xd_T Z C A Q nL t (pc + 1) lv (.int ((x.toUInt32 >>> (y.toUInt32 &&& Int32.toUInt32 31)).toInt32) :: st) σ) : xd_T Z C A Q nL t pc lv (.int y :: .int x :: st) σ := fun ht H locs ls ds cu su hdm hcu hsu hP hD hS hl => lv_iushr h.1 h.2.1 hd rfl (k ht H locs ls ds cu su hdm hcu hsu hP hD hS hl)
theorem xd_idiv (h : xd_Ok Z C A n cc own nL) {x y : Int32} {f : Int32 → Prop} (hd : decode cc pc = .ok (.idiv, 1)) (k : ∀ v : Int32, xd_T Z C A Q nL (f v) (pc + 1) lv (.int v :: st) σ) : xd_T Z C A Q nL (xd_dv x y f) pc lv (.int y :: .int x :: st) σ := fun ht H locs ls ds cu su hdm hcu hsu hP hD hS hl => lv_idiv h.1 h.2.1 hd ht.1 (k _ ht.2 H locs ls ds cu su hdm hcu hsu hP hD hS hl)
theorem xd_irem (h : xd_Ok Z C A n cc own nL) {x y : Int32} {f : Int32 → Prop} (hd : decode cc pc = .ok (.irem, 1)) (k : ∀ v : Int32, xd_T Z C A Q nL (f v) (pc + 1) lv (.int v :: st) σ) : xd_T Z C A Q nL (xd_rem x y f) pc lv (.int y :: .int x :: st) σ := fun ht H locs ls ds cu su hdm hcu hsu hP hD hS hl => lv_irem h.1 h.2.1 hd ht.1 (k _ ht.2 H locs ls ds cu su hdm hcu hsu hP hD hS hl)
theorem xd_iconst (h : xd_Ok Z C A n cc own nL) {m : Int} {v : Int32} (hd : decode cc pc = .ok (.iconst m, 1)) (hv : Int32.ofInt m = v) (k : xd_T Z C A Q nL t (pc + 1) lv (.int v :: st) σ) : xd_T Z C A Q nL t pc lv st σ := fun ht H locs ls ds cu su hdm hcu hsu hP hD hS hl => lv_iconst h.1 h.2.1 hd hv (k ht H locs ls ds cu su hdm hcu hsu hP hD hS hl)
theorem xd_bipush (h : xd_Ok Z C A n cc own nL) {m : Int} {v : Int32} (hd : decode cc pc = .ok (.bipush m, 2)) (hv : (Int8.ofInt m).toInt32 = v) (k : xd_T Z C A Q nL t (pc + 2) lv (.int v :: st) σ) : xd_T Z C A Q nL t pc lv st σ := fun ht H locs ls ds cu su hdm hcu hsu hP hD hS hl => lv_bipush h.1 h.2.1 hd hv (k ht H locs ls ds cu su hdm hcu hsu hP hD hS hl)
theorem xd_sipush (h : xd_Ok Z C A n cc own nL) {m : Int} {v : Int32} (hd : decode cc pc = .ok (.sipush m, 3)) (hv : (Int16.ofInt m).toInt32 = v) (k : xd_T Z C A Q nL t (pc + 3) lv (.int v :: st) σ) : xd_T Z C A Q nL t pc lv st σ := fun ht H locs ls ds cu su hdm hcu hsu hP hD hS hl => lv_sipush h.1 h.2.1 hd hv (k ht H locs ls ds cu su hdm hcu hsu hP hD hS hl)
theorem xd_ldc (h : xd_Ok Z C A n cc own nL) {ix : Nat} {v : Int32} (hd : decode cc pc = .ok (.ldc ix, 2)) (hw : Jvm.Cond.constant own ix v ∈ xc_T) (k : xd_T Z C A Q nL t (pc + 2) lv (.int v :: st) σ) : xd_T Z C A Q nL t pc lv st σ := fun ht H locs ls ds cu su hdm hcu hsu hP hD hS hl => lv_ldc h.1 h.2.1 h.2.2.2.1 (h.2.2.2.2.1 _ hw) hd (k ht H locs ls ds cu su hdm hcu hsu hP hD hS hl)
theorem xd_ldc_w (h : xd_Ok Z C A n cc own nL) {ix : Nat} {v : Int32} (hd : decode cc pc = .ok (.ldc_w ix, 3)) (hw : Jvm.Cond.constant own ix v ∈ xc_T) (k : xd_T Z C A Q nL t (pc + 3) lv (.int v :: st) σ) : xd_T Z C A Q nL t pc lv st σ := fun ht H locs ls ds cu su hdm hcu hsu hP hD hS hl => lv_ldcw h.1 h.2.1 h.2.2.2.1 (h.2.2.2.2.1 _ hw) hd (k ht H locs ls ds cu su hdm hcu hsu hP hD hS hl)
theorem xd_iload_n (h : xd_Ok Z C A n cc own nL) (p : Nat) {j : Fin 4} {i : Nat} {x : Int32} (hd : decode cc pc = .ok (.iload_n j, 1)) (hi : (j : Nat) = i) (hp : lv[p]? = some (i, .int x)) (k : xd_T Z C A Q nL t (pc + 1) lv (.int x :: st) σ) : xd_T Z C A Q nL t pc lv st σ := fun ht H locs ls ds cu su hdm hcu hsu hP hD hS hl => lv_iload_n h.1 h.2.1 hd hi (lv_at hl p hp) (k ht H locs ls ds cu su hdm hcu hsu hP hD hS hl)
theorem xd_iload (h : xd_Ok Z C A n cc own nL) (p : Nat) {i : Nat} {x : Int32} (hd : decode cc pc = .ok (.iload i, 2)) (hp : lv[p]? = some (i, .int x)) (k : xd_T Z C A Q nL t (pc + 2) lv (.int x :: st) σ) : xd_T Z C A Q nL t pc lv st σ := fun ht H locs ls ds cu su hdm hcu hsu hP hD hS hl => lv_iload h.1 h.2.1 hd (lv_at hl p hp) (k ht H locs ls ds cu su hdm hcu hsu hP hD hS hl)
theorem xd_aload_n (h : xd_Ok Z C A n cc own nL) (p : Nat) {j : Fin 4} {i : Nat} {x : Nat} (hd : decode cc pc = .ok (.aload_n j, 1)) (hi : (j : Nat) = i) (hp : lv[p]? = some (i, .ref x)) (k : xd_T Z C A Q nL t (pc + 1) lv (.ref x :: st) σ) : xd_T Z C A Q nL t pc lv st σ := fun ht H locs ls ds cu su hdm hcu hsu hP hD hS hl => lv_aload_n h.1 h.2.1 hd hi (lv_at hl p hp) (k ht H locs ls ds cu su hdm hcu hsu hP hD hS hl)
theorem xd_aload (h : xd_Ok Z C A n cc own nL) (p : Nat) {i : Nat} {x : Nat} (hd : decode cc pc = .ok (.aload i, 2)) (hp : lv[p]? = some (i, .ref x)) (k : xd_T Z C A Q nL t (pc + 2) lv (.ref x :: st) σ) : xd_T Z C A Q nL t pc lv st σ := fun ht H locs ls ds cu su hdm hcu hsu hP hD hS hl => lv_aload h.1 h.2.1 hd (lv_at hl p hp) (k ht H locs ls ds cu su hdm hcu hsu hP hD hS hl)
theorem xd_aload_nO (h : xd_Ok Z C A n cc own nL) (p : Nat) {j : Fin 4} {i : Nat} {r : Option Nat} (hd : decode cc pc = .ok (.aload_n j, 1)) (hi : (j : Nat) = i) (hp : lv[p]? = some (i, va_rf r)) (k : xd_T Z C A Q nL t (pc + 1) lv (va_rf r :: st) σ) : xd_T Z C A Q nL t pc lv st σ := fun ht H locs ls ds cu su hdm hcu hsu hP hD hS hl => by
  cases r with
  | none => exact lv_aload_nN h.1 h.2.1 hd hi (lv_at hl p hp) (k ht H locs ls ds cu su hdm hcu hsu hP hD hS hl)
  | some a => exact lv_aload_n h.1 h.2.1 hd hi (lv_at hl p hp) (k ht H locs ls ds cu su hdm hcu hsu hP hD hS hl)
theorem xd_aloadO (h : xd_Ok Z C A n cc own nL) (p : Nat) {i : Nat} {r : Option Nat} (hd : decode cc pc = .ok (.aload i, 2)) (hp : lv[p]? = some (i, va_rf r)) (k : xd_T Z C A Q nL t (pc + 2) lv (va_rf r :: st) σ) : xd_T Z C A Q nL t pc lv st σ := fun ht H locs ls ds cu su hdm hcu hsu hP hD hS hl => by
  cases r with
  | none => exact lv_aloadN h.1 h.2.1 hd (lv_at hl p hp) (k ht H locs ls ds cu su hdm hcu hsu hP hD hS hl)
  | some a => exact lv_aload h.1 h.2.1 hd (lv_at hl p hp) (k ht H locs ls ds cu su hdm hcu hsu hP hD hS hl)
theorem xd_istore_n (h : xd_Ok Z C A n cc own nL) {j : Fin 4} {i : Nat} {x : Int32} {f : Int32 → Prop} {lv2 : Int32 → List (Nat × Value)} (hd : decode cc pc = .ok (.istore_n j, 1)) (hi : (j : Nat) = i) (hn : i < nL) (hl2 : ∀ y : Int32, xc_put i (.int y) lv = lv2 y) (k : ∀ y : Int32, xd_T Z C A Q nL (f y) (pc + 1) (lv2 y) st σ) : xd_T Z C A Q nL (xd_lt x f) pc lv (.int x :: st) σ := fun ht H locs ls ds cu su hdm hcu hsu hP hD hS hl => lv_istore_n h.1 h.2.1 hd hi hl hn rfl (fun ls2 hl3 => k x ht H locs ls2 ds cu su hdm hcu hsu hP hD hS (by rw [← hl2]; exact xc_put_has hl3))
theorem xd_istore (h : xd_Ok Z C A n cc own nL) {i : Nat} {x : Int32} {f : Int32 → Prop} {lv2 : Int32 → List (Nat × Value)} (hd : decode cc pc = .ok (.istore i, 2)) (hn : i < nL) (hl2 : ∀ y : Int32, xc_put i (.int y) lv = lv2 y) (k : ∀ y : Int32, xd_T Z C A Q nL (f y) (pc + 2) (lv2 y) st σ) : xd_T Z C A Q nL (xd_lt x f) pc lv (.int x :: st) σ := fun ht H locs ls ds cu su hdm hcu hsu hP hD hS hl => lv_istore h.1 h.2.1 hd hl hn rfl (fun ls2 hl3 => k x ht H locs ls2 ds cu su hdm hcu hsu hP hD hS (by rw [← hl2]; exact xc_put_has hl3))
theorem xd_iinc (h : xd_Ok Z C A n cc own nL) (p : Nat) {i : Nat} {m : Int} {x v : Int32} {f : Int32 → Prop} {lv2 : Int32 → List (Nat × Value)} (hd : decode cc pc = .ok (.iinc i m, 3)) (hp : lv[p]? = some (i, .int x)) (hv : Int32.ofInt m = v) (hn : i < nL) (hl2 : ∀ y : Int32, xc_put i (.int y) lv = lv2 y) (k : ∀ y : Int32, xd_T Z C A Q nL (f y) (pc + 3) (lv2 y) st σ) : xd_T Z C A Q nL (xd_lt (x + v) f) pc lv st σ := fun ht H locs ls ds cu su hdm hcu hsu hP hD hS hl => lv_iinc (v := x + v) h.1 h.2.1 hd hl hp (by rw [hv]) hn rfl (fun ls2 hl3 => k _ ht H locs ls2 ds cu su hdm hcu hsu hP hD hS (by rw [← hl2]; exact xc_put_has hl3))
theorem xd_astore_n (h : xd_Ok Z C A n cc own nL) {j : Fin 4} {i x : Nat} (hd : decode cc pc = .ok (.astore_n j, 1)) (hi : (j : Nat) = i) (hn : i < nL) (hl2 : xc_put i (.ref x) lv = lv') (k : xd_T Z C A Q nL t (pc + 1) lv' st σ) : xd_T Z C A Q nL t pc lv (.ref x :: st) σ := fun ht H locs ls ds cu su hdm hcu hsu hP hD hS hl => lv_astore_n h.1 h.2.1 hd hi hl hn rfl (fun ls2 hl3 => k ht H locs ls2 ds cu su hdm hcu hsu hP hD hS (by rw [← hl2]; exact xc_put_has hl3))
theorem xd_astore_nO (h : xd_Ok Z C A n cc own nL) {j : Fin 4} {i : Nat} {r : Option Nat} (hd : decode cc pc = .ok (.astore_n j, 1)) (hi : (j : Nat) = i) (hn : i < nL) (hl2 : xc_put i (va_rf r) lv = lv') (k : xd_T Z C A Q nL t (pc + 1) lv' st σ) : xd_T Z C A Q nL t pc lv (va_rf r :: st) σ := fun ht H locs ls ds cu su hdm hcu hsu hP hD hS hl => by
  cases r with
  | none => exact lv_astore_nN h.1 h.2.1 hd hi hl hn rfl (fun ls2 hl3 => k ht H locs ls2 ds cu su hdm hcu hsu hP hD hS (by rw [← hl2]; exact xc_put_has hl3))
  | some a => exact lv_astore_n h.1 h.2.1 hd hi hl hn rfl (fun ls2 hl3 => k ht H locs ls2 ds cu su hdm hcu hsu hP hD hS (by rw [← hl2]; exact xc_put_has hl3))
theorem xd_astore (h : xd_Ok Z C A n cc own nL) {i x : Nat} (hd : decode cc pc = .ok (.astore i, 2)) (hn : i < nL) (hl2 : xc_put i (.ref x) lv = lv') (k : xd_T Z C A Q nL t (pc + 2) lv' st σ) : xd_T Z C A Q nL t pc lv (.ref x :: st) σ := fun ht H locs ls ds cu su hdm hcu hsu hP hD hS hl => lv_astore h.1 h.2.1 hd hl hn rfl (fun ls2 hl3 => k ht H locs ls2 ds cu su hdm hcu hsu hP hD hS (by rw [← hl2]; exact xc_put_has hl3))
theorem xd_astoreO (h : xd_Ok Z C A n cc own nL) {i : Nat} {r : Option Nat} (hd : decode cc pc = .ok (.astore i, 2)) (hn : i < nL) (hl2 : xc_put i (va_rf r) lv = lv') (k : xd_T Z C A Q nL t (pc + 2) lv' st σ) : xd_T Z C A Q nL t pc lv (va_rf r :: st) σ := fun ht H locs ls ds cu su hdm hcu hsu hP hD hS hl => by
  cases r with
  | none => exact lv_astoreN h.1 h.2.1 hd hl hn rfl (fun ls2 hl3 => k ht H locs ls2 ds cu su hdm hcu hsu hP hD hS (by rw [← hl2]; exact xc_put_has hl3))
  | some a => exact lv_astore h.1 h.2.1 hd hl hn rfl (fun ls2 hl3 => k ht H locs ls2 ds cu su hdm hcu hsu hP hD hS (by rw [← hl2]; exact xc_put_has hl3))
theorem xd_pop (h : xd_Ok Z C A n cc own nL) {v : Value} (hd : decode cc pc = .ok (.pop, 1)) (hv : v.category = 1) (k : xd_T Z C A Q nL t (pc + 1) lv st σ) : xd_T Z C A Q nL t pc lv (v :: st) σ := fun ht H locs ls ds cu su hdm hcu hsu hP hD hS hl => lv_pop h.1 h.2.1 hd hv (k ht H locs ls ds cu su hdm hcu hsu hP hD hS hl)
theorem xd_dup (h : xd_Ok Z C A n cc own nL) {v : Value} (hd : decode cc pc = .ok (.dup, 1)) (hv : v.category = 1) (k : xd_T Z C A Q nL t (pc + 1) lv (v :: v :: st) σ) : xd_T Z C A Q nL t pc lv (v :: st) σ := fun ht H locs ls ds cu su hdm hcu hsu hP hD hS hl => lv_dup h.1 h.2.1 hd hv (k ht H locs ls ds cu su hdm hcu hsu hP hD hS hl)
theorem xd_dup2 (h : xd_Ok Z C A n cc own nL) {v w : Value} (hd : decode cc pc = .ok (.dup2, 1)) (hv : v.category = 1) (hw : w.category = 1) (k : xd_T Z C A Q nL t (pc + 1) lv (v :: w :: v :: w :: st) σ) : xd_T Z C A Q nL t pc lv (v :: w :: st) σ := fun ht H locs ls ds cu su hdm hcu hsu hP hD hS hl => lv_dup2_11 h.1 h.2.1 hd hv hw (k ht H locs ls ds cu su hdm hcu hsu hP hD hS hl)
theorem xd_dup_x1 (h : xd_Ok Z C A n cc own nL) {v w : Value} (hd : decode cc pc = .ok (.dup_x1, 1)) (hv : v.category = 1) (hw : w.category = 1) (k : xd_T Z C A Q nL t (pc + 1) lv (v :: w :: v :: st) σ) : xd_T Z C A Q nL t pc lv (v :: w :: st) σ := fun ht H locs ls ds cu su hdm hcu hsu hP hD hS hl => lv_dup_x1 h.1 h.2.1 hd hv hw (k ht H locs ls ds cu su hdm hcu hsu hP hD hS hl)
theorem xd_ineg (h : xd_Ok Z C A n cc own nL) {x : Int32} (hd : decode cc pc = .ok (.ineg, 1)) (k : xd_T Z C A Q nL t (pc + 1) lv (.int (-x) :: st) σ) : xd_T Z C A Q nL t pc lv (.int x :: st) σ := fun ht H locs ls ds cu su hdm hcu hsu hP hD hS hl => lv_ineg h.1 h.2.1 hd (k ht H locs ls ds cu su hdm hcu hsu hP hD hS hl)
theorem xd_i2b (h : xd_Ok Z C A n cc own nL) {x : Int32} (hd : decode cc pc = .ok (.i2b, 1)) (k : xd_T Z C A Q nL t (pc + 1) lv (.int x.toInt8.toInt32 :: st) σ) : xd_T Z C A Q nL t pc lv (.int x :: st) σ := fun ht H locs ls ds cu su hdm hcu hsu hP hD hS hl => lv_i2b h.1 h.2.1 hd rfl (k ht H locs ls ds cu su hdm hcu hsu hP hD hS hl)
theorem xd_i2c (h : xd_Ok Z C A n cc own nL) {x : Int32} (hd : decode cc pc = .ok (.i2c, 1)) (k : xd_T Z C A Q nL t (pc + 1) lv (.int ((x.toUInt32 % 65536).toInt32) :: st) σ) : xd_T Z C A Q nL t pc lv (.int x :: st) σ := fun ht H locs ls ds cu su hdm hcu hsu hP hD hS hl => lv_i2c h.1 h.2.1 hd rfl (k ht H locs ls ds cu su hdm hcu hsu hP hD hS hl)
theorem xd_goto (h : xd_Ok Z C A n cc own nL) {off : Int} {tgt : Nat} (hd : decode cc pc = .ok (.goto off, 3)) (ht0 : (pc : Int) + off = (tgt : Int)) (k : xd_T Z C A Q nL t tgt lv st σ) : xd_T Z C A Q nL t pc lv st σ := fun ht H locs ls ds cu su hdm hcu hsu hP hD hS hl => lv_goto h.1 h.2.1 hd ht0 (k ht H locs ls ds cu su hdm hcu hsu hP hD hS hl)
theorem xd_icmp_eq (h : xd_Ok Z C A n cc own nL) {x y : Int32} {off : Int} {tgt : Nat} {ic : Decidable (x = y)} (hd : decode cc pc = .ok (.if_icmp .eq off, 3)) (ht0 : (pc : Int) + off = (tgt : Int)) (k1 : xd_T Z C A Q nL t1 tgt lv st σ) (k2 : xd_T Z C A Q nL t2 (pc + 3) lv st σ) : xd_T Z C A Q nL (@ite _ (x = y) ic t1 t2) pc lv (.int y :: .int x :: st) σ := fun ht H locs ls ds cu su hdm hcu hsu hP hD hS hl => lv_icmp_eq h.1 h.2.1 hd ht0 (fun q => k1 (by rw [if_pos q] at ht; exact ht) H locs ls ds cu su hdm hcu hsu hP hD hS hl) (fun q => k2 (by rw [if_neg q] at ht; exact ht) H locs ls ds cu su hdm hcu hsu hP hD hS hl)
theorem xd_if_eq (h : xd_Ok Z C A n cc own nL) {x : Int32} {off : Int} {tgt : Nat} {ic : Decidable (x = 0)} (hd : decode cc pc = .ok (.ifCond .eq off, 3)) (ht0 : (pc : Int) + off = (tgt : Int)) (k1 : xd_T Z C A Q nL t1 tgt lv st σ) (k2 : xd_T Z C A Q nL t2 (pc + 3) lv st σ) : xd_T Z C A Q nL (@ite _ (x = 0) ic t1 t2) pc lv (.int x :: st) σ := fun ht H locs ls ds cu su hdm hcu hsu hP hD hS hl => lv_if_eq h.1 h.2.1 hd ht0 (fun q => k1 (by rw [if_pos q] at ht; exact ht) H locs ls ds cu su hdm hcu hsu hP hD hS hl) (fun q => k2 (by rw [if_neg q] at ht; exact ht) H locs ls ds cu su hdm hcu hsu hP hD hS hl)
theorem xd_icmp_ne (h : xd_Ok Z C A n cc own nL) {x y : Int32} {off : Int} {tgt : Nat} {ic : Decidable (x ≠ y)} (hd : decode cc pc = .ok (.if_icmp .ne off, 3)) (ht0 : (pc : Int) + off = (tgt : Int)) (k1 : xd_T Z C A Q nL t1 tgt lv st σ) (k2 : xd_T Z C A Q nL t2 (pc + 3) lv st σ) : xd_T Z C A Q nL (@ite _ (x ≠ y) ic t1 t2) pc lv (.int y :: .int x :: st) σ := fun ht H locs ls ds cu su hdm hcu hsu hP hD hS hl => lv_icmp_ne h.1 h.2.1 hd ht0 (fun q => k1 (by rw [if_pos q] at ht; exact ht) H locs ls ds cu su hdm hcu hsu hP hD hS hl) (fun q => k2 (by rw [if_neg (fun z => z q)] at ht; exact ht) H locs ls ds cu su hdm hcu hsu hP hD hS hl)
theorem xd_if_ne (h : xd_Ok Z C A n cc own nL) {x : Int32} {off : Int} {tgt : Nat} {ic : Decidable (x ≠ 0)} (hd : decode cc pc = .ok (.ifCond .ne off, 3)) (ht0 : (pc : Int) + off = (tgt : Int)) (k1 : xd_T Z C A Q nL t1 tgt lv st σ) (k2 : xd_T Z C A Q nL t2 (pc + 3) lv st σ) : xd_T Z C A Q nL (@ite _ (x ≠ 0) ic t1 t2) pc lv (.int x :: st) σ := fun ht H locs ls ds cu su hdm hcu hsu hP hD hS hl => lv_if_ne h.1 h.2.1 hd ht0 (fun q => k1 (by rw [if_pos q] at ht; exact ht) H locs ls ds cu su hdm hcu hsu hP hD hS hl) (fun q => k2 (by rw [if_neg (fun z => z q)] at ht; exact ht) H locs ls ds cu su hdm hcu hsu hP hD hS hl)
theorem xd_icmp_lt (h : xd_Ok Z C A n cc own nL) {x y : Int32} {off : Int} {tgt : Nat} {ic : Decidable (x < y)} (hd : decode cc pc = .ok (.if_icmp .lt off, 3)) (ht0 : (pc : Int) + off = (tgt : Int)) (k1 : xd_T Z C A Q nL t1 tgt lv st σ) (k2 : xd_T Z C A Q nL t2 (pc + 3) lv st σ) : xd_T Z C A Q nL (@ite _ (x < y) ic t1 t2) pc lv (.int y :: .int x :: st) σ := fun ht H locs ls ds cu su hdm hcu hsu hP hD hS hl => lv_icmp_lt h.1 h.2.1 hd ht0 (fun q => k1 (by rw [if_pos q] at ht; exact ht) H locs ls ds cu su hdm hcu hsu hP hD hS hl) (fun q => k2 (by rw [if_neg q] at ht; exact ht) H locs ls ds cu su hdm hcu hsu hP hD hS hl)
theorem xd_if_lt (h : xd_Ok Z C A n cc own nL) {x : Int32} {off : Int} {tgt : Nat} {ic : Decidable (x < 0)} (hd : decode cc pc = .ok (.ifCond .lt off, 3)) (ht0 : (pc : Int) + off = (tgt : Int)) (k1 : xd_T Z C A Q nL t1 tgt lv st σ) (k2 : xd_T Z C A Q nL t2 (pc + 3) lv st σ) : xd_T Z C A Q nL (@ite _ (x < 0) ic t1 t2) pc lv (.int x :: st) σ := fun ht H locs ls ds cu su hdm hcu hsu hP hD hS hl => lv_if_lt h.1 h.2.1 hd ht0 (fun q => k1 (by rw [if_pos q] at ht; exact ht) H locs ls ds cu su hdm hcu hsu hP hD hS hl) (fun q => k2 (by rw [if_neg q] at ht; exact ht) H locs ls ds cu su hdm hcu hsu hP hD hS hl)
theorem xd_icmp_le (h : xd_Ok Z C A n cc own nL) {x y : Int32} {off : Int} {tgt : Nat} {ic : Decidable (x ≤ y)} (hd : decode cc pc = .ok (.if_icmp .le off, 3)) (ht0 : (pc : Int) + off = (tgt : Int)) (k1 : xd_T Z C A Q nL t1 tgt lv st σ) (k2 : xd_T Z C A Q nL t2 (pc + 3) lv st σ) : xd_T Z C A Q nL (@ite _ (x ≤ y) ic t1 t2) pc lv (.int y :: .int x :: st) σ := fun ht H locs ls ds cu su hdm hcu hsu hP hD hS hl => lv_icmp_le h.1 h.2.1 hd ht0 (fun q => k1 (by rw [if_pos q] at ht; exact ht) H locs ls ds cu su hdm hcu hsu hP hD hS hl) (fun q => k2 (by rw [if_neg q] at ht; exact ht) H locs ls ds cu su hdm hcu hsu hP hD hS hl)
theorem xd_if_le (h : xd_Ok Z C A n cc own nL) {x : Int32} {off : Int} {tgt : Nat} {ic : Decidable (x ≤ 0)} (hd : decode cc pc = .ok (.ifCond .le off, 3)) (ht0 : (pc : Int) + off = (tgt : Int)) (k1 : xd_T Z C A Q nL t1 tgt lv st σ) (k2 : xd_T Z C A Q nL t2 (pc + 3) lv st σ) : xd_T Z C A Q nL (@ite _ (x ≤ 0) ic t1 t2) pc lv (.int x :: st) σ := fun ht H locs ls ds cu su hdm hcu hsu hP hD hS hl => lv_if_le h.1 h.2.1 hd ht0 (fun q => k1 (by rw [if_pos q] at ht; exact ht) H locs ls ds cu su hdm hcu hsu hP hD hS hl) (fun q => k2 (by rw [if_neg q] at ht; exact ht) H locs ls ds cu su hdm hcu hsu hP hD hS hl)
theorem xd_icmp_gt (h : xd_Ok Z C A n cc own nL) {x y : Int32} {off : Int} {tgt : Nat} {ic : Decidable (y < x)} (hd : decode cc pc = .ok (.if_icmp .gt off, 3)) (ht0 : (pc : Int) + off = (tgt : Int)) (k1 : xd_T Z C A Q nL t1 tgt lv st σ) (k2 : xd_T Z C A Q nL t2 (pc + 3) lv st σ) : xd_T Z C A Q nL (@ite _ (y < x) ic t1 t2) pc lv (.int y :: .int x :: st) σ := fun ht H locs ls ds cu su hdm hcu hsu hP hD hS hl => lv_icmp_gt h.1 h.2.1 hd ht0 (fun q => k1 (by rw [if_pos q] at ht; exact ht) H locs ls ds cu su hdm hcu hsu hP hD hS hl) (fun q => k2 (by rw [if_neg q] at ht; exact ht) H locs ls ds cu su hdm hcu hsu hP hD hS hl)
theorem xd_if_gt (h : xd_Ok Z C A n cc own nL) {x : Int32} {off : Int} {tgt : Nat} {ic : Decidable (0 < x)} (hd : decode cc pc = .ok (.ifCond .gt off, 3)) (ht0 : (pc : Int) + off = (tgt : Int)) (k1 : xd_T Z C A Q nL t1 tgt lv st σ) (k2 : xd_T Z C A Q nL t2 (pc + 3) lv st σ) : xd_T Z C A Q nL (@ite _ (0 < x) ic t1 t2) pc lv (.int x :: st) σ := fun ht H locs ls ds cu su hdm hcu hsu hP hD hS hl => lv_if_gt h.1 h.2.1 hd ht0 (fun q => k1 (by rw [if_pos q] at ht; exact ht) H locs ls ds cu su hdm hcu hsu hP hD hS hl) (fun q => k2 (by rw [if_neg q] at ht; exact ht) H locs ls ds cu su hdm hcu hsu hP hD hS hl)
theorem xd_icmp_ge (h : xd_Ok Z C A n cc own nL) {x y : Int32} {off : Int} {tgt : Nat} {ic : Decidable (y ≤ x)} (hd : decode cc pc = .ok (.if_icmp .ge off, 3)) (ht0 : (pc : Int) + off = (tgt : Int)) (k1 : xd_T Z C A Q nL t1 tgt lv st σ) (k2 : xd_T Z C A Q nL t2 (pc + 3) lv st σ) : xd_T Z C A Q nL (@ite _ (y ≤ x) ic t1 t2) pc lv (.int y :: .int x :: st) σ := fun ht H locs ls ds cu su hdm hcu hsu hP hD hS hl => lv_icmp_ge h.1 h.2.1 hd ht0 (fun q => k1 (by rw [if_pos q] at ht; exact ht) H locs ls ds cu su hdm hcu hsu hP hD hS hl) (fun q => k2 (by rw [if_neg q] at ht; exact ht) H locs ls ds cu su hdm hcu hsu hP hD hS hl)
theorem xd_if_ge (h : xd_Ok Z C A n cc own nL) {x : Int32} {off : Int} {tgt : Nat} {ic : Decidable (0 ≤ x)} (hd : decode cc pc = .ok (.ifCond .ge off, 3)) (ht0 : (pc : Int) + off = (tgt : Int)) (k1 : xd_T Z C A Q nL t1 tgt lv st σ) (k2 : xd_T Z C A Q nL t2 (pc + 3) lv st σ) : xd_T Z C A Q nL (@ite _ (0 ≤ x) ic t1 t2) pc lv (.int x :: st) σ := fun ht H locs ls ds cu su hdm hcu hsu hP hD hS hl => lv_if_ge h.1 h.2.1 hd ht0 (fun q => k1 (by rw [if_pos q] at ht; exact ht) H locs ls ds cu su hdm hcu hsu hP hD hS hl) (fun q => k2 (by rw [if_neg q] at ht; exact ht) H locs ls ds cu su hdm hcu hsu hP hD hS hl)
theorem xd_null (h : xd_Ok Z C A n cc own nL) (hd : decode cc pc = .ok (.aconst_null, 1)) (k : xd_T Z C A Q nL t (pc + 1) lv (va_rf none :: st) σ) : xd_T Z C A Q nL t pc lv st σ := fun ht H locs ls ds cu su hdm hcu hsu hP hD hS hl => lv_null h.1 h.2.1 hd (k ht H locs ls ds cu su hdm hcu hsu hP hD hS hl)
theorem xd_ifnonnull (h : xd_Ok Z C A n cc own nL) {x : Nat} {off : Int} {tgt : Nat} (hd : decode cc pc = .ok (.ifnonnull off, 3)) (ht0 : (pc : Int) + off = (tgt : Int)) (k : xd_T Z C A Q nL t tgt lv st σ) : xd_T Z C A Q nL t pc lv (.ref x :: st) σ := fun ht H locs ls ds cu su hdm hcu hsu hP hD hS hl => lv_ifnonnull h.1 h.2.1 hd ht0 (k ht H locs ls ds cu su hdm hcu hsu hP hD hS hl)
theorem xd_ifnullO (h : xd_Ok Z C A n cc own nL) {r : Option Nat} {u1 : Prop} {u2 : Nat → Prop} {lw : Option Nat → List (Nat × Value)} {off : Int} {tgt : Nat} (hd : decode cc pc = .ok (.ifnull off, 3)) (ht0 : (pc : Int) + off = (tgt : Int)) (k1 : xd_T Z C A Q nL u1 tgt (lw none) st σ) (k2 : ∀ a : Nat, xd_T Z C A Q nL (u2 a) (pc + 3) (lw (some a)) st σ) : xd_T Z C A Q nL (xd_ifn r u1 u2) pc (lw r) (va_rf r :: st) σ := fun ht H locs ls ds cu su hdm hcu hsu hP hD hS hl => by
  cases r with
  | none => exact lv_ifnullN h.1 h.2.1 hd ht0 (k1 ht H locs ls ds cu su hdm hcu hsu hP hD hS hl)
  | some a => exact lv_ifnull h.1 h.2.1 hd (k2 a ht H locs ls ds cu su hdm hcu hsu hP hD hS hl)
theorem xd_ifnonnullO (h : xd_Ok Z C A n cc own nL) {r : Option Nat} {u1 : Prop} {u2 : Nat → Prop} {lw : Option Nat → List (Nat × Value)} {off : Int} {tgt : Nat} (hd : decode cc pc = .ok (.ifnonnull off, 3)) (ht0 : (pc : Int) + off = (tgt : Int)) (k1 : xd_T Z C A Q nL u1 (pc + 3) (lw none) st σ) (k2 : ∀ a : Nat, xd_T Z C A Q nL (u2 a) tgt (lw (some a)) st σ) : xd_T Z C A Q nL (xd_ifn r u1 u2) pc (lw r) (va_rf r :: st) σ := fun ht H locs ls ds cu su hdm hcu hsu hP hD hS hl => by
  cases r with
  | none => exact lv_ifnonnullN h.1 h.2.1 hd (k1 ht H locs ls ds cu su hdm hcu hsu hP hD hS hl)
  | some a => exact lv_ifnonnull h.1 h.2.1 hd ht0 (k2 a ht H locs ls ds cu su hdm hcu hsu hP hD hS hl)
theorem xd_sub (ks : List Nat) (hl2 : lv_pick lv ks = lv') (k : xd_T Z C A Q nL t pc lv' st σ) : xd_T Z C A Q nL t pc lv st σ := fun ht H locs ls ds cu su hdm hcu hsu hP hD hS hl => k ht H locs ls ds cu su hdm hcu hsu hP hD hS (lv_sub hl ks hl2)
theorem xd_no : xd_T Z C A Q nL False pc lv st σ := fun ht => ht.elim
theorem xd_getI (h : xd_Ok Z C A n cc own nL) {c a j ix N : Nat} {R ref : String} {T : u_T} {ty : Nat → FieldType} (hK : xd_Kl c R T N ty) {f : Int32 → Prop} (hd : decode cc pc = .ok (.getfield ix, 3)) (hw : Cond.fieldLink own ix ref (T j).2.1 (T j).2.2.1 ∈ xc_T) (hrf : (T j).1 = ref) (hj : j < N) (hr : xc_rf c j = false) (k : ∀ v : Int32, xd_T Z C A Q nL (f v) (pc + 3) lv (.int v :: st) σ) : xd_T Z C A Q nL (xd_gI (c + 5) a j σ f) pc lv (.ref a :: st) σ := by
  intro ht H locs ls ds cu su hdm hcu hsu hP hD hS hl
  obtain ⟨cl, h1, h2, h3⟩ := ht
  obtain ⟨q, hq⟩ := xd_get (Z := Z) hdm h1
  have e5 : xd_ent Z cl = .inr (c, xd_fs c cl) := by simp [xd_ent, h2]
  rw [e5] at hq
  exact va_get h.1 h.2.1 h.2.2.2.2.1 hK.2.1 h.2.2.2.1 h.2.2.2.2.2.1 hP q hq hK.1 j hj (h.2.2.2.2.1 _ hw) (by rw [hrf]; exact fun _ q => q) (v := .int (cl.2.2.1 j)) (by simp [xd_fs, hK.2.2.2.2, hj, hr]) hd (k _ h3 H locs ls ds cu su hdm hcu hsu hP hD hS hl)
theorem xd_getR (h : xd_Ok Z C A n cc own nL) {c a j ix N : Nat} {R ref : String} {T : u_T} {ty : Nat → FieldType} (hK : xd_Kl c R T N ty) {f : Nat → Prop} (hd : decode cc pc = .ok (.getfield ix, 3)) (hw : Cond.fieldLink own ix ref (T j).2.1 (T j).2.2.1 ∈ xc_T) (hrf : (T j).1 = ref) (hj : j < N) (hr : xc_rf c j = true) (k : ∀ v : Nat, xd_T Z C A Q nL (f v) (pc + 3) lv (.ref v :: st) σ) : xd_T Z C A Q nL (xd_gR (c + 5) a j σ f) pc lv (.ref a :: st) σ := by
  intro ht H locs ls ds cu su hdm hcu hsu hP hD hS hl
  obtain ⟨cl, b, h1, h2, h4, h3⟩ := ht
  obtain ⟨q, hq⟩ := xd_get (Z := Z) hdm h1
  have e5 : xd_ent Z cl = .inr (c, xd_fs c cl) := by simp [xd_ent, h2]
  rw [e5] at hq
  exact va_get h.1 h.2.1 h.2.2.2.2.1 hK.2.1 h.2.2.2.1 h.2.2.2.2.2.1 hP q hq hK.1 j hj (h.2.2.2.2.1 _ hw) (by rw [hrf]; exact fun _ q => q) (v := .ref b) (by simp [xd_fs, hK.2.2.2.2, hj, hr, h4, va_rf]) hd (k _ h3 H locs ls ds cu su hdm hcu hsu hP hD hS hl)
theorem xd_getO (h : xd_Ok Z C A n cc own nL) {c a j ix N : Nat} {R ref : String} {T : u_T} {ty : Nat → FieldType} (hK : xd_Kl c R T N ty) {f : Option Nat → Prop} (hd : decode cc pc = .ok (.getfield ix, 3)) (hw : Cond.fieldLink own ix ref (T j).2.1 (T j).2.2.1 ∈ xc_T) (hrf : (T j).1 = ref) (hj : j < N) (hr : xc_rf c j = true) (k : ∀ v : Option Nat, xd_T Z C A Q nL (f v) (pc + 3) lv (va_rf v :: st) σ) : xd_T Z C A Q nL (xd_gO (c + 5) a j σ f) pc lv (.ref a :: st) σ := by
  intro ht H locs ls ds cu su hdm hcu hsu hP hD hS hl
  obtain ⟨cl, h1, h2, h3⟩ := ht
  obtain ⟨q, hq⟩ := xd_get (Z := Z) hdm h1
  have e5 : xd_ent Z cl = .inr (c, xd_fs c cl) := by simp [xd_ent, h2]
  rw [e5] at hq
  exact va_get h.1 h.2.1 h.2.2.2.2.1 hK.2.1 h.2.2.2.1 h.2.2.2.2.2.1 hP q hq hK.1 j hj (h.2.2.2.2.1 _ hw) (by rw [hrf]; exact fun _ q => q) (v := va_rf (cl.2.2.2 j)) (by simp [xd_fs, hK.2.2.2.2, hj, hr]) hd (k _ h3 H locs ls ds cu su hdm hcu hsu hP hD hS hl)
theorem xd_getIN (h : xd_Ok Z C A n cc own nL) {c a j ix N : Nat} {R ref : String} {T : u_T} {ty : Nat → FieldType} (hK : xd_Kl c R T N ty) {f : Int32 → Prop} (hd : decode cc pc = .ok (.getfield ix, 3)) (hw : va_Nw (.fieldLinkNest own ix ref (T j).2.1 (T j).2.2.1 RL) C.2.2.2.1) (hrf : (T j).1 = ref) (hj : j < N) (hr : xc_rf c j = false) (k : ∀ v : Int32, xd_T Z C A Q nL (f v) (pc + 3) lv (.int v :: st) σ) : xd_T Z C A Q nL (xd_gI (c + 5) a j σ f) pc lv (.ref a :: st) σ := by
  intro ht H locs ls ds cu su hdm hcu hsu hP hD hS hl
  obtain ⟨cl, h1, h2, h3⟩ := ht
  obtain ⟨q, hq⟩ := xd_get (Z := Z) hdm h1
  have e5 : xd_ent Z cl = .inr (c, xd_fs c cl) := by simp [xd_ent, h2]
  rw [e5] at hq
  exact va_getN h.1 h.2.1 h.2.2.2.2.1 hK.2.1 h.2.2.2.1 h.2.2.2.2.2.1 hP q hq hK.1 j hj (va_Nw.use rfl hw) (by rw [hrf]; exact fun _ q => q) (v := .int (cl.2.2.1 j)) (by simp [xd_fs, hK.2.2.2.2, hj, hr]) hd (k _ h3 H locs ls ds cu su hdm hcu hsu hP hD hS hl)
theorem xd_getRN (h : xd_Ok Z C A n cc own nL) {c a j ix N : Nat} {R ref : String} {T : u_T} {ty : Nat → FieldType} (hK : xd_Kl c R T N ty) {f : Nat → Prop} (hd : decode cc pc = .ok (.getfield ix, 3)) (hw : va_Nw (.fieldLinkNest own ix ref (T j).2.1 (T j).2.2.1 RL) C.2.2.2.1) (hrf : (T j).1 = ref) (hj : j < N) (hr : xc_rf c j = true) (k : ∀ v : Nat, xd_T Z C A Q nL (f v) (pc + 3) lv (.ref v :: st) σ) : xd_T Z C A Q nL (xd_gR (c + 5) a j σ f) pc lv (.ref a :: st) σ := by
  intro ht H locs ls ds cu su hdm hcu hsu hP hD hS hl
  obtain ⟨cl, b, h1, h2, h4, h3⟩ := ht
  obtain ⟨q, hq⟩ := xd_get (Z := Z) hdm h1
  have e5 : xd_ent Z cl = .inr (c, xd_fs c cl) := by simp [xd_ent, h2]
  rw [e5] at hq
  exact va_getN h.1 h.2.1 h.2.2.2.2.1 hK.2.1 h.2.2.2.1 h.2.2.2.2.2.1 hP q hq hK.1 j hj (va_Nw.use rfl hw) (by rw [hrf]; exact fun _ q => q) (v := .ref b) (by simp [xd_fs, hK.2.2.2.2, hj, hr, h4, va_rf]) hd (k _ h3 H locs ls ds cu su hdm hcu hsu hP hD hS hl)
theorem xd_getON (h : xd_Ok Z C A n cc own nL) {c a j ix N : Nat} {R ref : String} {T : u_T} {ty : Nat → FieldType} (hK : xd_Kl c R T N ty) {f : Option Nat → Prop} (hd : decode cc pc = .ok (.getfield ix, 3)) (hw : va_Nw (.fieldLinkNest own ix ref (T j).2.1 (T j).2.2.1 RL) C.2.2.2.1) (hrf : (T j).1 = ref) (hj : j < N) (hr : xc_rf c j = true) (k : ∀ v : Option Nat, xd_T Z C A Q nL (f v) (pc + 3) lv (va_rf v :: st) σ) : xd_T Z C A Q nL (xd_gO (c + 5) a j σ f) pc lv (.ref a :: st) σ := by
  intro ht H locs ls ds cu su hdm hcu hsu hP hD hS hl
  obtain ⟨cl, h1, h2, h3⟩ := ht
  obtain ⟨q, hq⟩ := xd_get (Z := Z) hdm h1
  have e5 : xd_ent Z cl = .inr (c, xd_fs c cl) := by simp [xd_ent, h2]
  rw [e5] at hq
  exact va_getN h.1 h.2.1 h.2.2.2.2.1 hK.2.1 h.2.2.2.1 h.2.2.2.2.2.1 hP q hq hK.1 j hj (va_Nw.use rfl hw) (by rw [hrf]; exact fun _ q => q) (v := va_rf (cl.2.2.2 j)) (by simp [xd_fs, hK.2.2.2.2, hj, hr]) hd (k _ h3 H locs ls ds cu su hdm hcu hsu hP hD hS hl)
theorem xd_fs_setI {c j : Nat} {cl : xd_C} {v : Int32} (hr : xc_rf c j = false) : (xd_fs c cl).set j (.int v) = xd_fs c (c + 5, cl.2.1, upd cl.2.2.1 j v, cl.2.2.2) := by
  apply List.ext_getElem?
  intro i
  unfold xd_fs
  by_cases hi : i = j
  · subst hi
    by_cases hl : i < xc_nf c
    · rw [List.getElem?_set_self (by simpa using hl)]
      simp [hl, hr, upd]
    · rw [List.getElem?_eq_none (by simp; omega), List.getElem?_eq_none (by simp; omega)]
  · rw [List.getElem?_set_ne (Ne.symm hi)]
    by_cases hl : i < xc_nf c
    · simp [hl, upd, hi]
    · rw [List.getElem?_eq_none (by simp; omega), List.getElem?_eq_none (by simp; omega)]
theorem xd_fs_setR {c j : Nat} {cl : xd_C} {v : Option Nat} (hr : xc_rf c j = true) : (xd_fs c cl).set j (va_rf v) = xd_fs c (c + 5, cl.2.1, cl.2.2.1, va_up cl.2.2.2 j v) := by
  apply List.ext_getElem?
  intro i
  unfold xd_fs
  by_cases hi : i = j
  · subst hi
    by_cases hl : i < xc_nf c
    · rw [List.getElem?_set_self (by simpa using hl)]
      simp [hl, hr, va_up]
    · rw [List.getElem?_eq_none (by simp; omega), List.getElem?_eq_none (by simp; omega)]
  · rw [List.getElem?_set_ne (Ne.symm hi)]
    by_cases hl : i < xc_nf c
    · simp [hl, va_up, hi]
    · rw [List.getElem?_eq_none (by simp; omega), List.getElem?_eq_none (by simp; omega)]
theorem xd_putI (h : xd_Ok Z C A n cc own nL) {c a j ix N : Nat} {R ref : String} {T : u_T} {ty : Nat → FieldType} (hK : xd_Kl c R T N ty) {x : Int32} {f : xd_S → Prop} (hd : decode cc pc = .ok (.putfield ix, 3)) (hw : Cond.fieldLink own ix ref (T j).2.1 (T j).2.2.1 ∈ xc_T) (hrf : (T j).1 = ref) (hj : j < N) (hr : xc_rf c j = false) (hfin : (T j).2.2.2 = false) (hty : ty j = .int) (k : ∀ τ : xd_S, xd_T Z C A Q nL (f τ) (pc + 3) lv st τ) : xd_T Z C A Q nL (xd_pI (c + 5) a j x σ f) pc lv ((.int x) :: .ref a :: st) σ := by
  intro ht H locs ls ds cu su hdm hcu hsu hP hD hS hl
  obtain ⟨cl, h1, h2, h3⟩ := ht
  obtain ⟨q, hq⟩ := xd_get (Z := Z) hdm h1
  have e5 : xd_ent Z cl = .inr (c, xd_fs c cl) := by simp [xd_ent, h2]
  have hq2 := hq
  rw [e5] at hq2
  refine va_put h.1 h.2.1 h.2.2.2.2.1 hK.2.1 ty hK.2.2.1 hK.2.2.2.1 h.2.2.2.1 h.2.2.2.2.2.1 hP hD hS q hq2 hK.1 j hj (h.2.2.2.2.1 _ hw) (by rw [hrf]; exact fun _ q => q) hfin (ty := .int) (by rw [← hty]; exact hK.2.2.1 j hj) rfl rfl (by simp [xd_fs, hK.2.2.2.2, hj]) hd (fun H1 locs1 hP1 hD1 hS1 => ?_)
  have e6 : (xd_ws Z σ ds).set q (a, .inr (c, (xd_fs c cl).set j (.int x))) = xd_ws Z (xd_up σ.1 a (c + 5, cl.2.1, upd cl.2.2.1 j x, cl.2.2.2), σ.2) ds := by
    rw [xd_fs_setI hr]
    exact xd_set (c2 := (c + 5, cl.2.1, upd cl.2.2.1 j x, cl.2.2.2)) hdm h1 hD hq
  rw [e6] at hP1 hD1
  exact k _ h3 H1 locs1 ls ds cu su (xd_dom_up hdm h1) hcu hsu hP1 hD1 hS1 hl
theorem xd_putR (h : xd_Ok Z C A n cc own nL) {c a j ix N : Nat} {R ref : String} {T : u_T} {ty : Nat → FieldType} (hK : xd_Kl c R T N ty) {x : Option Nat} {rt : FieldType} (hrt : (∃ n, rt = .object n) ∨ ∃ t, rt = .array t) {f : xd_S → Prop} (hd : decode cc pc = .ok (.putfield ix, 3)) (hw : Cond.fieldLink own ix ref (T j).2.1 (T j).2.2.1 ∈ xc_T) (hrf : (T j).1 = ref) (hj : j < N) (hr : xc_rf c j = true) (hfin : (T j).2.2.2 = false) (hty : ty j = rt) (k : ∀ τ : xd_S, xd_T Z C A Q nL (f τ) (pc + 3) lv st τ) : xd_T Z C A Q nL (xd_pR (c + 5) a j x σ f) pc lv ((va_rf x) :: .ref a :: st) σ := by
  intro ht H locs ls ds cu su hdm hcu hsu hP hD hS hl
  obtain ⟨cl, h1, h2, h3⟩ := ht
  obtain ⟨q, hq⟩ := xd_get (Z := Z) hdm h1
  have e5 : xd_ent Z cl = .inr (c, xd_fs c cl) := by simp [xd_ent, h2]
  have hq2 := hq
  rw [e5] at hq2
  refine va_put h.1 h.2.1 h.2.2.2.2.1 hK.2.1 ty hK.2.2.1 hK.2.2.2.1 h.2.2.2.1 h.2.2.2.2.2.1 hP hD hS q hq2 hK.1 j hj (h.2.2.2.2.1 _ hw) (by rw [hrf]; exact fun _ q => q) hfin (ty := rt) (by rw [← hty]; exact hK.2.2.1 j hj) (by rcases hrt with ⟨n, rfl⟩ | ⟨t, rfl⟩ <;> cases x <;> rfl) (by rcases hrt with ⟨n, rfl⟩ | ⟨t, rfl⟩ <;> cases x <;> rfl) (by simp [xd_fs, hK.2.2.2.2, hj]) hd (fun H1 locs1 hP1 hD1 hS1 => ?_)
  have e6 : (xd_ws Z σ ds).set q (a, .inr (c, (xd_fs c cl).set j (va_rf x))) = xd_ws Z (xd_up σ.1 a (c + 5, cl.2.1, cl.2.2.1, va_up cl.2.2.2 j x), σ.2) ds := by
    rw [xd_fs_setR hr]
    exact xd_set (c2 := (c + 5, cl.2.1, cl.2.2.1, va_up cl.2.2.2 j x)) hdm h1 hD hq
  rw [e6] at hP1 hD1
  exact k _ h3 H1 locs1 ls ds cu su (xd_dom_up hdm h1) hcu hsu hP1 hD1 hS1 hl
theorem xd_putIN (h : xd_Ok Z C A n cc own nL) {c a j ix N : Nat} {R ref : String} {T : u_T} {ty : Nat → FieldType} (hK : xd_Kl c R T N ty) {x : Int32} {f : xd_S → Prop} (hd : decode cc pc = .ok (.putfield ix, 3)) (hw : va_Nw (.fieldLinkNest own ix ref (T j).2.1 (T j).2.2.1 RL) C.2.2.2.1) (hrf : (T j).1 = ref) (hj : j < N) (hr : xc_rf c j = false) (hfin : (T j).2.2.2 = false) (hty : ty j = .int) (k : ∀ τ : xd_S, xd_T Z C A Q nL (f τ) (pc + 3) lv st τ) : xd_T Z C A Q nL (xd_pI (c + 5) a j x σ f) pc lv ((.int x) :: .ref a :: st) σ := by
  intro ht H locs ls ds cu su hdm hcu hsu hP hD hS hl
  obtain ⟨cl, h1, h2, h3⟩ := ht
  obtain ⟨q, hq⟩ := xd_get (Z := Z) hdm h1
  have e5 : xd_ent Z cl = .inr (c, xd_fs c cl) := by simp [xd_ent, h2]
  have hq2 := hq
  rw [e5] at hq2
  refine va_putN h.1 h.2.1 h.2.2.2.2.1 hK.2.1 ty hK.2.2.1 hK.2.2.2.1 h.2.2.2.1 h.2.2.2.2.2.1 hP hD hS q hq2 hK.1 j hj (va_Nw.use rfl hw) (by rw [hrf]; exact fun _ q => q) hfin (ty := .int) (by rw [← hty]; exact hK.2.2.1 j hj) rfl rfl (by simp [xd_fs, hK.2.2.2.2, hj]) hd (fun H1 locs1 hP1 hD1 hS1 => ?_)
  have e6 : (xd_ws Z σ ds).set q (a, .inr (c, (xd_fs c cl).set j (.int x))) = xd_ws Z (xd_up σ.1 a (c + 5, cl.2.1, upd cl.2.2.1 j x, cl.2.2.2), σ.2) ds := by
    rw [xd_fs_setI hr]
    exact xd_set (c2 := (c + 5, cl.2.1, upd cl.2.2.1 j x, cl.2.2.2)) hdm h1 hD hq
  rw [e6] at hP1 hD1
  exact k _ h3 H1 locs1 ls ds cu su (xd_dom_up hdm h1) hcu hsu hP1 hD1 hS1 hl
theorem xd_putRN (h : xd_Ok Z C A n cc own nL) {c a j ix N : Nat} {R ref : String} {T : u_T} {ty : Nat → FieldType} (hK : xd_Kl c R T N ty) {x : Option Nat} {rt : FieldType} (hrt : (∃ n, rt = .object n) ∨ ∃ t, rt = .array t) {f : xd_S → Prop} (hd : decode cc pc = .ok (.putfield ix, 3)) (hw : va_Nw (.fieldLinkNest own ix ref (T j).2.1 (T j).2.2.1 RL) C.2.2.2.1) (hrf : (T j).1 = ref) (hj : j < N) (hr : xc_rf c j = true) (hfin : (T j).2.2.2 = false) (hty : ty j = rt) (k : ∀ τ : xd_S, xd_T Z C A Q nL (f τ) (pc + 3) lv st τ) : xd_T Z C A Q nL (xd_pR (c + 5) a j x σ f) pc lv ((va_rf x) :: .ref a :: st) σ := by
  intro ht H locs ls ds cu su hdm hcu hsu hP hD hS hl
  obtain ⟨cl, h1, h2, h3⟩ := ht
  obtain ⟨q, hq⟩ := xd_get (Z := Z) hdm h1
  have e5 : xd_ent Z cl = .inr (c, xd_fs c cl) := by simp [xd_ent, h2]
  have hq2 := hq
  rw [e5] at hq2
  refine va_putN h.1 h.2.1 h.2.2.2.2.1 hK.2.1 ty hK.2.2.1 hK.2.2.2.1 h.2.2.2.1 h.2.2.2.2.2.1 hP hD hS q hq2 hK.1 j hj (va_Nw.use rfl hw) (by rw [hrf]; exact fun _ q => q) hfin (ty := rt) (by rw [← hty]; exact hK.2.2.1 j hj) (by rcases hrt with ⟨n, rfl⟩ | ⟨t, rfl⟩ <;> cases x <;> rfl) (by rcases hrt with ⟨n, rfl⟩ | ⟨t, rfl⟩ <;> cases x <;> rfl) (by simp [xd_fs, hK.2.2.2.2, hj]) hd (fun H1 locs1 hP1 hD1 hS1 => ?_)
  have e6 : (xd_ws Z σ ds).set q (a, .inr (c, (xd_fs c cl).set j (va_rf x))) = xd_ws Z (xd_up σ.1 a (c + 5, cl.2.1, cl.2.2.1, va_up cl.2.2.2 j x), σ.2) ds := by
    rw [xd_fs_setR hr]
    exact xd_set (c2 := (c + 5, cl.2.1, cl.2.2.1, va_up cl.2.2.2 j x)) hdm h1 hD hq
  rw [e6] at hP1 hD1
  exact k _ h3 H1 locs1 ls ds cu su (xd_dom_up hdm h1) hcu hsu hP1 hD1 hS1 hl
theorem xd_putZ (h : xd_Ok Z C A n cc own nL) {c a j ix N : Nat} {R ref : String} {T : u_T} {ty : Nat → FieldType} (hK : xd_Kl c R T N ty) {x : Int32} {f : xd_S → Prop} (hd : decode cc pc = .ok (.putfield ix, 3)) (hw : Cond.fieldLink own ix ref (T j).2.1 (T j).2.2.1 ∈ xc_T) (hrf : (T j).1 = ref) (hj : j < N) (hr : xc_rf c j = false) (hfin : (T j).2.2.2 = false) (hty : ty j = .boolean) (k : ∀ τ : xd_S, xd_T Z C A Q nL (f τ) (pc + 3) lv st τ) : xd_T Z C A Q nL (xd_mz (c + 5) a j x σ f) pc lv ((.int x) :: .ref a :: st) σ := by
  intro ht H locs ls ds cu su hdm hcu hsu hP hD hS hl
  obtain ⟨hz, cl, h1, h2, h3⟩ := ht
  obtain ⟨q, hq⟩ := xd_get (Z := Z) hdm h1
  have e5 : xd_ent Z cl = .inr (c, xd_fs c cl) := by simp [xd_ent, h2]
  have hq2 := hq
  rw [e5] at hq2
  refine va_put h.1 h.2.1 h.2.2.2.2.1 hK.2.1 ty hK.2.2.1 hK.2.2.2.1 h.2.2.2.1 h.2.2.2.2.2.1 hP hD hS q hq2 hK.1 j hj (h.2.2.2.2.1 _ hw) (by rw [hrf]; exact fun _ q => q) hfin (ty := .boolean) (by rw [← hty]; exact hK.2.2.1 j hj) (by rcases hz with rfl | rfl <;> rfl) (by rcases hz with rfl | rfl <;> rfl) (by simp [xd_fs, hK.2.2.2.2, hj]) hd (fun H1 locs1 hP1 hD1 hS1 => ?_)
  have e6 : (xd_ws Z σ ds).set q (a, .inr (c, (xd_fs c cl).set j (.int x))) = xd_ws Z (xd_up σ.1 a (c + 5, cl.2.1, upd cl.2.2.1 j x, cl.2.2.2), σ.2) ds := by
    rw [xd_fs_setI hr]
    exact xd_set (c2 := (c + 5, cl.2.1, upd cl.2.2.1 j x, cl.2.2.2)) hdm h1 hD hq
  rw [e6] at hP1 hD1
  exact k _ h3 H1 locs1 ls ds cu su (xd_dom_up hdm h1) hcu hsu hP1 hD1 hS1 hl
theorem xd_putB (h : xd_Ok Z C A n cc own nL) {c a j ix N : Nat} {R ref : String} {T : u_T} {ty : Nat → FieldType} (hK : xd_Kl c R T N ty) {x : Int32} {f : xd_S → Prop} (hd : decode cc pc = .ok (.putfield ix, 3)) (hw : Cond.fieldLink own ix ref (T j).2.1 (T j).2.2.1 ∈ xc_T) (hrf : (T j).1 = ref) (hj : j < N) (hr : xc_rf c j = false) (hfin : (T j).2.2.2 = false) (hty : ty j = .byte) (k : ∀ τ : xd_S, xd_T Z C A Q nL (f τ) (pc + 3) lv st τ) : xd_T Z C A Q nL (xd_mz (c + 5) a j x σ f) pc lv ((.int x) :: .ref a :: st) σ := by
  intro ht H locs ls ds cu su hdm hcu hsu hP hD hS hl
  obtain ⟨hz, cl, h1, h2, h3⟩ := ht
  obtain ⟨q, hq⟩ := xd_get (Z := Z) hdm h1
  have e5 : xd_ent Z cl = .inr (c, xd_fs c cl) := by simp [xd_ent, h2]
  have hq2 := hq
  rw [e5] at hq2
  refine va_put h.1 h.2.1 h.2.2.2.2.1 hK.2.1 ty hK.2.2.1 hK.2.2.2.1 h.2.2.2.1 h.2.2.2.2.2.1 hP hD hS q hq2 hK.1 j hj (h.2.2.2.2.1 _ hw) (by rw [hrf]; exact fun _ q => q) hfin (ty := .byte) (by rw [← hty]; exact hK.2.2.1 j hj) (by rcases hz with rfl | rfl <;> rfl) (by rcases hz with rfl | rfl <;> rfl) (by simp [xd_fs, hK.2.2.2.2, hj]) hd (fun H1 locs1 hP1 hD1 hS1 => ?_)
  have e6 : (xd_ws Z σ ds).set q (a, .inr (c, (xd_fs c cl).set j (.int x))) = xd_ws Z (xd_up σ.1 a (c + 5, cl.2.1, upd cl.2.2.1 j x, cl.2.2.2), σ.2) ds := by
    rw [xd_fs_setI hr]
    exact xd_set (c2 := (c + 5, cl.2.1, upd cl.2.2.1 j x, cl.2.2.2)) hdm h1 hD hq
  rw [e6] at hP1 hD1
  exact k _ h3 H1 locs1 ls ds cu su (xd_dom_up hdm h1) hcu hsu hP1 hD1 hS1 hl
end
