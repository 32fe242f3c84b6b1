/-- the law's frame: class world X, reference world Y, the script of L ints xs at b, kc cells of ks slots made -/
def xl_A (C : xc_C) : Nat → Prop := fun q => C.2.2.2.1.heap.size ≤ q
def xl_Ok (X Y : xc_X) (C : xc_C) (b L kc ks : Nat) (xs : Nat → Int32) : Prop := C.1.tables.exec = Jvm.exec ∧ C.2.2.2.2.2.2.2.2.code = code ∧ C.2.2.2.2.2.2.2.2.maxLocals = 4 ∧ C.2.2.2.1.vm.findClass RL = some C.2.2.2.2.1.cls ∧ (∀ w ∈ xc_T, w.before C.2.2.2.2.2.1 C.2.2.2.1 = true) ∧ va_K X.2.1 vwCl (xc_ty X) C.2.2.2.1 ∧ C.2.2.2.2.2.2.2.1.sig.returnType = ret ∧ C.2.2.2.2.2.2.2.1.locks = false ∧ C.2.2.1 = room_1 ∧ C.2.2.2.2.2.1 = #[Value.ref b] ∧ xc_Z X (xl_A C) C.2.2.2.1 ∧ va_X b L xs C.2.2.2.1 C.2.2.2.1.heap ∧ b < C.2.2.2.1.heap.size ∧ kc ≤ 600000 ∧ ks ≤ 7302249 ∧ Y.1 = X.1 ∧ Y.2.1 = X.2.1 ∧ Y.2.2.1 = X.2.2.1 ∧ ∀ i j : Nat, i < X.2.2.2.1.length → j < Y.2.2.2.1.length → X.2.2.2.2.2 i ≠ Y.2.2.2.2.2 j
/-- from here on the law comes to its end with 1 where the program t says 1 -/
def xl_S (X Y : xc_X) (C : xc_C) (b kc ks : Nat) (t : Option Int32) (pc : Nat) (lv : List (Nat × Value)) (st : List Value) (P : xc_M × xc_M) : Prop := ∀ q : {q : Int32 // q = 1}, t = some q.1 → ∀ (H : Heap) (locs : List Loc) (ls : Array Slot), (va_P X.2.1 vwCl (xc_ws X P.1) H ∧ va_P X.2.1 vwCl (xc_ws Y P.2) H) → (va_D (xl_A C) (xc_ws X P.1) ∧ va_D (xl_A C) (xc_ws Y P.2)) → va_S (xl_A C) C.2.2.2.1.heap H locs → lv_has ls 4 lv → W C.1 X.1 C.2.1 C.2.2.1 C.2.2.2.1 C.2.2.2.2.1 C.2.2.2.2.2.1 C.2.2.2.2.2.2.1 C.2.2.2.2.2.2.2.1 C.2.2.2.2.2.2.2.2 H locs kc ks (lw_Z C.2.2.2.2.2.2.1 #[Value.ref b] C.2.2.2.1) (F0 C.2.2.2.2.1 pc ls st)
def xl_rd {α : Type} (L : Nat) (xs : Nat → Int32) (i : Int32) (f : Int32 → Option α) : Option α := if i < 0 ∨ L ≤ i.toNatClampNeg then none else f (xs i.toNatClampNeg)
theorem xc_adr {X : xc_X} {I : xc_M} {k : Nat} {q : Nat × va_E} (h : (xc_ws X I)[k]? = some q) : k < X.2.2.2.1.length ∧ q.1 = X.2.2.2.2.2 k := by
  unfold xc_ws at h
  rw [List.getElem?_mapIdx] at h
  cases hs : X.2.2.2.1[k]? with
  | none => rw [hs] at h; cases h
  | some t =>
    rw [hs] at h
    simp only [Option.map_some, Option.some.injEq] at h
    subst h
    exact ⟨(List.getElem?_eq_some_iff.mp hs).1, rfl⟩
section
variable {X Y : xc_X} {C : xc_C} {b L kc ks : Nat} {xs : Nat → Int32} {t t1 t2 : Option Int32} {pc : Nat} {lv lv' : List (Nat × Value)} {st : List Value} {P : xc_M × xc_M}
theorem xm_iadd (h : xl_Ok X Y C b L kc ks xs) {x y : Int32} (hd : decode code pc = .ok (.iadd, 1)) (k : xl_S X Y C b kc ks t (pc + 1) lv (.int (x + y) :: st) P) : xl_S X Y C b kc ks t pc lv (.int y :: .int x :: st) P := fun r hr H locs ls hP hD hS hl => lv_iadd h.1 h.2.1 hd (k r hr H locs ls hP hD hS hl)
theorem xm_isub (h : xl_Ok X Y C b L kc ks xs) {x y : Int32} (hd : decode code pc = .ok (.isub, 1)) (k : xl_S X Y C b kc ks t (pc + 1) lv (.int (x - y) :: st) P) : xl_S X Y C b kc ks t pc lv (.int y :: .int x :: st) P := fun r hr H locs ls hP hD hS hl => lv_isub h.1 h.2.1 hd (k r hr H locs ls hP hD hS hl)
theorem xm_iand (h : xl_Ok X Y C b L kc ks xs) {x y : Int32} (hd : decode code pc = .ok (.iand, 1)) (k : xl_S X Y C b kc ks t (pc + 1) lv (.int (x &&& y) :: st) P) : xl_S X Y C b kc ks t pc lv (.int y :: .int x :: st) P := fun r hr H locs ls hP hD hS hl => lv_iand h.1 h.2.1 hd (k r hr H locs ls hP hD hS hl)
theorem xm_iconst (h : xl_Ok X Y C b L kc ks xs) {m : Int} {v : Int32} (hd : decode code pc = .ok (.iconst m, 1)) (hv : Int32.ofInt m = v) (k : xl_S X Y C b kc ks t (pc + 1) lv (.int v :: st) P) : xl_S X Y C b kc ks t pc lv st P := fun r hr H locs ls hP hD hS hl => lv_iconst h.1 h.2.1 hd hv (k r hr H locs ls hP hD hS hl)
theorem xm_bipush (h : xl_Ok X Y C b L kc ks xs) {m : Int} {v : Int32} (hd : decode code pc = .ok (.bipush m, 2)) (hv : (Int8.ofInt m).toInt32 = v) (k : xl_S X Y C b kc ks t (pc + 2) lv (.int v :: st) P) : xl_S X Y C b kc ks t pc lv st P := fun r hr H locs ls hP hD hS hl => lv_bipush h.1 h.2.1 hd hv (k r hr H locs ls hP hD hS hl)
theorem xm_iload_n (h : xl_Ok X Y C b L kc ks xs) (p : Nat) {j : Fin 4} {i : Nat} {x : Int32} (hd : decode code pc = .ok (.iload_n j, 1)) (hi : (j : Nat) = i) (hp : lv[p]? = some (i, .int x)) (k : xl_S X Y C b kc ks t (pc + 1) lv (.int x :: st) P) : xl_S X Y C b kc ks t pc lv st P := fun r hr H locs ls hP hD hS hl => lv_iload_n h.1 h.2.1 hd hi (lv_at hl p hp) (k r hr H locs ls hP hD hS hl)
theorem xm_aload_n (h : xl_Ok X Y C b L kc ks xs) (p : Nat) {j : Fin 4} {i : Nat} {x : Nat} (hd : decode code pc = .ok (.aload_n j, 1)) (hi : (j : Nat) = i) (hp : lv[p]? = some (i, .ref x)) (k : xl_S X Y C b kc ks t (pc + 1) lv (.ref x :: st) P) : xl_S X Y C b kc ks t pc lv st P := fun r hr H locs ls hP hD hS hl => lv_aload_n h.1 h.2.1 hd hi (lv_at hl p hp) (k r hr H locs ls hP hD hS hl)
theorem xm_iinc (h : xl_Ok X Y C b L kc ks xs) (p : Nat) {i : Nat} {m : Int} {x v : Int32} {f : Int32 → Option Int32} {lv2 : Int32 → List (Nat × Value)} (hd : decode code pc = .ok (.iinc i m, 3)) (hp : lv[p]? = some (i, .int x)) (hv : Int32.ofInt m = v) (hn : i < 4) (hl2 : ∀ y : Int32, xc_put i (.int y) lv = lv2 y) (k : ∀ y : Int32, xl_S X Y C b kc ks (f y) (pc + 3) (lv2 y) st P) : xl_S X Y C b kc ks (xc_lt (x + v) f) pc lv st P := fun r hr H locs ls hP hD hS hl => lv_iinc (v := x + v) h.1 h.2.1 hd hl hp (by rw [hv]) hn rfl (fun ls2 hl3 => k _ r hr H locs ls2 hP hD hS (by rw [← hl2]; exact xc_put_has hl3))
theorem xm_goto (h : xl_Ok X Y C b L kc ks xs) {off : Int} {tgt : Nat} (hd : decode code pc = .ok (.goto off, 3)) (ht : (pc : Int) + off = (tgt : Int)) (k : xl_S X Y C b kc ks t tgt lv st P) : xl_S X Y C b kc ks t pc lv st P := fun r hr H locs ls hP hD hS hl => lv_goto h.1 h.2.1 hd ht (k r hr H locs ls hP hD hS hl)
theorem xm_icmp_eq (h : xl_Ok X Y C b L kc ks xs) {x y : Int32} {off : Int} {tgt : Nat} {ic : Decidable (x = y)} (hd : decode code pc = .ok (.if_icmp .eq off, 3)) (ht : (pc : Int) + off = (tgt : Int)) (k1 : xl_S X Y C b kc ks t1 tgt lv st P) (k2 : xl_S X Y C b kc ks t2 (pc + 3) lv st P) : xl_S X Y C b kc ks (@ite _ (x = y) ic t1 t2) pc lv (.int y :: .int x :: st) P := fun r hr H locs ls hP hD hS hl => lv_icmp_eq h.1 h.2.1 hd ht (fun q => k1 r (by rw [if_pos q] at hr; exact hr) H locs ls hP hD hS hl) (fun q => k2 r (by rw [if_neg q] at hr; exact hr) H locs ls hP hD hS hl)
theorem xm_if_eq (h : xl_Ok X Y C b L kc ks xs) {x : Int32} {off : Int} {tgt : Nat} {ic : Decidable (x = 0)} (hd : decode code pc = .ok (.ifCond .eq off, 3)) (ht : (pc : Int) + off = (tgt : Int)) (k1 : xl_S X Y C b kc ks t1 tgt lv st P) (k2 : xl_S X Y C b kc ks t2 (pc + 3) lv st P) : xl_S X Y C b kc ks (@ite _ (x = 0) ic t1 t2) pc lv (.int x :: st) P := fun r hr H locs ls hP hD hS hl => lv_if_eq h.1 h.2.1 hd ht (fun q => k1 r (by rw [if_pos q] at hr; exact hr) H locs ls hP hD hS hl) (fun q => k2 r (by rw [if_neg q] at hr; exact hr) H locs ls hP hD hS hl)
theorem xm_icmp_ne (h : xl_Ok X Y C b L kc ks xs) {x y : Int32} {off : Int} {tgt : Nat} {ic : Decidable (x ≠ y)} (hd : decode code pc = .ok (.if_icmp .ne off, 3)) (ht : (pc : Int) + off = (tgt : Int)) (k1 : xl_S X Y C b kc ks t1 tgt lv st P) (k2 : xl_S X Y C b kc ks t2 (pc + 3) lv st P) : xl_S X Y C b kc ks (@ite _ (x ≠ y) ic t1 t2) pc lv (.int y :: .int x :: st) P := fun r hr H locs ls hP hD hS hl => lv_icmp_ne h.1 h.2.1 hd ht (fun q => k1 r (by rw [if_pos q] at hr; exact hr) H locs ls hP hD hS hl) (fun q => k2 r (by rw [if_neg (fun z => z q)] at hr; exact hr) H locs ls hP hD hS hl)
theorem xm_if_ne (h : xl_Ok X Y C b L kc ks xs) {x : Int32} {off : Int} {tgt : Nat} {ic : Decidable (x ≠ 0)} (hd : decode code pc = .ok (.ifCond .ne off, 3)) (ht : (pc : Int) + off = (tgt : Int)) (k1 : xl_S X Y C b kc ks t1 tgt lv st P) (k2 : xl_S X Y C b kc ks t2 (pc + 3) lv st P) : xl_S X Y C b kc ks (@ite _ (x ≠ 0) ic t1 t2) pc lv (.int x :: st) P := fun r hr H locs ls hP hD hS hl => lv_if_ne h.1 h.2.1 hd ht (fun q => k1 r (by rw [if_pos q] at hr; exact hr) H locs ls hP hD hS hl) (fun q => k2 r (by rw [if_neg (fun z => z q)] at hr; exact hr) H locs ls hP hD hS hl)
theorem xm_icmp_gt (h : xl_Ok X Y C b L kc ks xs) {x y : Int32} {off : Int} {tgt : Nat} {ic : Decidable (y < x)} (hd : decode code pc = .ok (.if_icmp .gt off, 3)) (ht : (pc : Int) + off = (tgt : Int)) (k1 : xl_S X Y C b kc ks t1 tgt lv st P) (k2 : xl_S X Y C b kc ks t2 (pc + 3) lv st P) : xl_S X Y C b kc ks (@ite _ (y < x) ic t1 t2) pc lv (.int y :: .int x :: st) P := fun r hr H locs ls hP hD hS hl => lv_icmp_gt h.1 h.2.1 hd ht (fun q => k1 r (by rw [if_pos q] at hr; exact hr) H locs ls hP hD hS hl) (fun q => k2 r (by rw [if_neg q] at hr; exact hr) H locs ls hP hD hS hl)
theorem xm_if_gt (h : xl_Ok X Y C b L kc ks xs) {x : Int32} {off : Int} {tgt : Nat} {ic : Decidable (0 < x)} (hd : decode code pc = .ok (.ifCond .gt off, 3)) (ht : (pc : Int) + off = (tgt : Int)) (k1 : xl_S X Y C b kc ks t1 tgt lv st P) (k2 : xl_S X Y C b kc ks t2 (pc + 3) lv st P) : xl_S X Y C b kc ks (@ite _ (0 < x) ic t1 t2) pc lv (.int x :: st) P := fun r hr H locs ls hP hD hS hl => lv_if_gt h.1 h.2.1 hd ht (fun q => k1 r (by rw [if_pos q] at hr; exact hr) H locs ls hP hD hS hl) (fun q => k2 r (by rw [if_neg q] at hr; exact hr) H locs ls hP hD hS hl)
theorem xm_sub (ks2 : List Nat) (hl : lv_pick lv ks2 = lv') (k : xl_S X Y C b kc ks t pc lv' st P) : xl_S X Y C b kc ks t pc lv st P := fun r hr H locs ls hP hD hS hl0 => k r hr H locs ls hP hD hS (lv_sub hl0 ks2 hl)
theorem xm_none : xl_S X Y C b kc ks none pc lv st P := fun r hr => by cases hr
theorem xm_ret0 : xl_S X Y C b kc ks (some 0) pc lv st P := fun r hr => by
  have h1 := r.2
  have h2 := Option.some.inj hr
  rw [← h2] at h1
  exact absurd h1 (by decide)
theorem xm_ret1 (h : xl_Ok X Y C b L kc ks xs) (hd : decode code pc = .ok (.ireturn, 1)) : xl_S X Y C b kc ks (some 1) pc lv [.int 1] P := fun r hr H locs ls hP hD hS hl => by
  obtain ⟨p, e, R, s, m, args, below, meth, c⟩ := C
  obtain ⟨h1, h2, h3, h4, h5, h6, h7, h8, h9, h10, h11, h12, h13, h14, h15, -⟩ := h
  dsimp only at h1 h2 h3 h4 h5 h6 h7 h8 h9 h10 h11 h12 h13 h14 h15 hP hD hS ⊢
  subst h9 h10
  refine va_forget (fun q hq => hS.2.2 q hq) ?_
  refine W.widen h14 h15 ?_
  exact lw_ret h1 h2 h7 h8 hd
theorem xm_sw (h : xl_Ok X Y C b L kc ks xs) {dflt lo hi : Int} {offs : Array Int} {len : Nat} {x c : Int32} {off : Int} {tgt : Nat} {ic : Decidable (x = c)} (hd : decode code pc = .ok (.tableswitch dflt lo hi offs, len)) (h1 : ¬ c.toInt < lo) (h2 : ¬ hi < c.toInt) (ho : offs[(c.toInt - lo).toNat]? = some off) (ht : (pc : Int) + off = (tgt : Int)) (k1 : xl_S X Y C b kc ks t1 tgt lv st P) (k2 : x ≠ c → xl_S X Y C b kc ks t2 pc lv (.int x :: st) P) : xl_S X Y C b kc ks (@ite _ (x = c) ic t1 t2) pc lv (.int x :: st) P := by
  intro r hr
  by_cases e : x = c
  · rw [if_pos e] at hr
    subst e
    exact fun H locs ls hP hD hS hl => lv_tableIn h.1 h.2.1 hd h1 h2 ho ht (k1 r hr H locs ls hP hD hS hl)
  · rw [if_neg e] at hr
    exact k2 e r hr
theorem xm_swD (h : xl_Ok X Y C b L kc ks xs) {dflt lo hi : Int} {offs : Array Int} {len : Nat} {x : Int32} {tgt : Nat} (hd : decode code pc = .ok (.tableswitch dflt lo hi offs, len)) (ho : x.toInt < lo ∨ hi < x.toInt) (ht : (pc : Int) + dflt = (tgt : Int)) (k1 : xl_S X Y C b kc ks t tgt lv st P) : xl_S X Y C b kc ks t pc lv (.int x :: st) P := fun r hr H locs ls hP hD hS hl => lv_tableOut h.1 h.2.1 hd ho ht (k1 r hr H locs ls hP hD hS hl)
theorem xm_bA (h : xl_Ok X Y C b L kc ks xs) : ¬ (xl_A C) b := Nat.not_le.mpr h.2.2.2.2.2.2.2.2.2.2.2.2.1
theorem xm_slen (h : xl_Ok X Y C b L kc ks xs) (hd : decode code pc = .ok (.arraylength, 1)) (k : xl_S X Y C b kc ks t (pc + 1) lv (.int (nI L) :: st) P) : xl_S X Y C b kc ks t pc lv (.ref b :: st) P := fun r hr H locs ls hP hD hS hl => va_slen h.1 h.2.1 h.2.2.2.2.2.2.2.2.2.2.2.1 h.2.2.2.2.2.2.2.2.2.2.2.2.1 (xm_bA h) hS hd (k r hr H locs ls hP hD hS hl)
theorem xm_sld (h : xl_Ok X Y C b L kc ks xs) {i : Int32} {f : Int32 → Option Int32} (hd : decode code pc = .ok (.iaload, 1)) (k : ∀ v : Int32, xl_S X Y C b kc ks (f v) (pc + 1) lv (.int v :: st) P) : xl_S X Y C b kc ks (xl_rd L xs i f) pc lv (.int i :: .ref b :: st) P := by
  intro r hr
  unfold xl_rd at hr
  split at hr
  · cases hr
  · rename_i q
    exact fun H locs ls hP hD hS hl => va_sld h.1 h.2.1 h.2.2.2.2.2.2.2.2.2.2.2.1 h.2.2.2.2.2.2.2.2.2.2.2.2.1 (xm_bA h) hS q hd (k _ r hr H locs ls hP hD hS hl)
theorem xl_goes (h : xl_Ok X Y C b L kc ks xs) {Z V : xc_X} {I K J : xc_M} {n' np ix a ci u maxL' N : Nat} {R : String} {T : u_T} {y : MethodName} {cc' : ByteArray} {ret' : Option FieldType} {av : List Value} {t3 : Option (Int32 × xc_M)} {st0 : List Value} {r : Int32} {H : Heap} {locs : List Loc} {ls : Array Slot} {Q : State → Prop}
    (z1 : Z.1 = X.1) (z2 : Z.2.1 = X.2.1) (z3 : Z.2.2.1 = X.2.2.1) (hdis : ∀ i j : Nat, i < Z.2.2.2.1.length → j < V.2.2.2.1.length → Z.2.2.2.2.2 i ≠ V.2.2.2.2.2 j)
    (hd : decode code pc = .ok (.invokevirtual ix, 3)) (md : xc_Md y cc' maxL' ret' np) (hi : Cond.instanceMethod y ∈ xc_T) (hse : Cond.selects y.cls y y ∈ xc_T) (hlk : Cond.methodLink RL ix y ∈ xc_T) (hn : n' ≤ 1000) (hs : Z.2.2.2.1[a]? = some (ci + 3, u)) (hc : vwCl[ci]? = some (R, T, N)) (hR : R = y.cls) (hav : av.length = np) (hst : st0 = av.reverse ++ .ref (Z.2.2.2.2.2 a) :: st) (hcat : (st.map fun v => v.category).sum ≤ 8) (cf : xc_Cf Z n' y cc' maxL' ret' (.ref (Z.2.2.2.2.2 a) :: av) I t3) (ht3 : t3 = some (r, J))
    (hP : va_P X.2.1 vwCl (xc_ws Z I) H) (hP2 : va_P X.2.1 vwCl (xc_ws V K) H) (hD : va_D (xl_A C) (xc_ws Z I)) (hS : va_S (xl_A C) C.2.2.2.1.heap H locs) (hls : ls.size = 4)
    (k : ∀ (H1 : Heap) (locs1 : List Loc), va_P X.2.1 vwCl (xc_ws Z J) H1 → va_P X.2.1 vwCl (xc_ws V K) H1 → va_D (xl_A C) (xc_ws Z J) → va_S (xl_A C) C.2.2.2.1.heap H1 locs1 → W C.1 X.1 C.2.1 C.2.2.1 C.2.2.2.1 C.2.2.2.2.1 C.2.2.2.2.2.1 C.2.2.2.2.2.2.1 C.2.2.2.2.2.2.2.1 C.2.2.2.2.2.2.2.2 H1 locs1 kc ks Q (F0 C.2.2.2.2.1 (pc + 3) ls (xc_top ret' r st))) : W C.1 X.1 C.2.1 C.2.2.1 C.2.2.2.1 C.2.2.2.2.1 C.2.2.2.2.2.1 C.2.2.2.2.2.2.1 C.2.2.2.2.2.2.2.1 C.2.2.2.2.2.2.2.2 H locs kc ks Q (F0 C.2.2.2.2.1 pc ls st0) := by
  have hf : ∀ q, va_A (xc_ws Z I) H.size q → (xl_A C) q := fun q hq => by
    rcases hq with ⟨i, e, hq⟩ | hq
    · exact hD.2 i _ hq
    · exact Nat.le_trans hS.1 hq
  have eR := h.2.2.2.2.2.2.2.2.1
  have hKz : va_K Z.2.1 vwCl (xc_ty Z) C.2.2.2.1 := by
    rw [z2]
    have e : xc_ty Z = xc_ty X := by unfold xc_ty; rw [z3]
    rw [e]
    exact h.2.2.2.2.2.1
  have hZz : xc_Z Z (xl_A C) C.2.2.2.1 := by
    have := h.2.2.2.2.2.2.2.2.2.2.1
    unfold xc_Z at this ⊢
    rw [z3]
    exact this
  have hPz : va_P Z.2.1 vwCl (xc_ws Z I) H := by rw [z2]; exact hP
  have cw : CallB C.2.2.1 C.2.2.2.1 C.2.2.2.2.2.1 RL ix y cc' maxL' ret' (Cond.code y cc' maxL' ret' :: xc_T) (xc_rm n') 0 0 np := by
    refine callB_of np h.2.2.2.2.1 (xc_words md) rfl rfl rfl (h.2.2.2.2.1 _ md.2.1) (h.2.2.2.2.1 _ hlk) md.2.2.1 ?_
    rw [eR]
    have := md.2.2.2
    constructor
    · show n' + 1 + 1 ≤ 2048
      omega
    · show 8 + (maxL' + 11) + 64 * (n' + 1) ≤ 84000
      omega
  have hrec : ∃ cell : Cell, H[Z.2.2.2.2.2 a]? = some cell ∧ cell.vm.isStatics = false ∧ C.2.2.2.1.vm.findClass y.cls = some cell.cls := by
    have hrc := va_recv hKz hPz hc (xc_at I hs)
    rw [← hR]
    exact hrc
  have hk0 : kc + 0 ≤ C.2.2.1.cells ∧ ks + 0 ≤ C.2.2.1.slots := by
    rw [eR]
    exact ⟨h.2.2.2.2.2.2.2.2.2.2.2.2.2.1, h.2.2.2.2.2.2.2.2.2.2.2.2.2.2.1⟩
  have hM := cf r J ht3 H.size
  rw [z1] at hM
  have run := va_runV (g := F0 C.2.2.2.2.1 pc ls st0) (rest := st) (As := av) (cells := kc) (slots := ks) (locs := locs) ⟨h.1, h.2.1, h.2.2.1, h.2.2.2.1, h.2.2.2.2.1⟩ hM ⟨cw, h.2.2.2.2.1 _ hi, h.2.2.2.2.1 _ hse⟩ ⟨fun a U g mk q => by obtain ⟨q0, q1, qP, qK, qD, qZ⟩ := q; exact ⟨q0, q1, qP, va_K.moved (u := U) (U := U.calling g mk a) (Vm.Alike.refl U.vm) qK, qD, qZ.blind⟩, hrec, fun U hU hW => ⟨rfl, by rw [hU], by rw [hU]; exact hPz, va_K.moved hW.alike hKz, hD.weaken (fun _ _ _ _ => trivial), hZz.to hS hf hU hW⟩⟩ rfl hav hls hst (lv_room hcat) hd hk0 (e := C.2.1) (below := C.2.2.2.2.2.2.1) (meth := C.2.2.2.2.2.2.2.1)
  have other : ∀ H1 : Heap, (∀ q : Nat, q < H.size → ¬ va_A (xc_ws Z I) H.size q → H1[q]? = H[q]?) → va_P X.2.1 vwCl (xc_ws V K) H1 := fun H1 hk1 => hP2.kept (fun i q hq => by
    have hlt := (hP2 i q hq).lt
    refine hk1 q.1 hlt ?_
    rintro (⟨j, e, hj⟩ | hle)
    · have e1 := xc_adr hq
      have e2 := xc_adr hj
      exact hdis j i e2.1 e1.1 (e2.2.symm.trans e1.2)
    · exact absurd hle (Nat.not_le.mpr hlt))
  cases ret' with
  | none =>
    refine va_callv (a := (Value.ref (Z.2.2.2.2.2 a) :: av).toArray) run hS (fun q _ hq => hf q hq) hf (fun u t3 H1 locs1 ht hvm hw hB hz1 hk1 hS1 => ?_)
    subst hw
    exact k H1 locs1 (by rw [← ht, ← z2]; exact hB.1) (other H1 hk1) (hB.2.2.weaken (fun _ q _ hq => hf q.1 hq)) hS1
  | some rt =>
    refine va_calli (a := (Value.ref (Z.2.2.2.2.2 a) :: av).toArray) run hS (fun q _ hq => hf q hq) hf (fun r2 u t3 H1 locs1 ht hvm hw hB hz1 hk1 hS1 => ?_)
    obtain ⟨rfl, rfl⟩ := hw
    exact k H1 locs1 (by rw [← ht, ← z2]; exact hB.1) (other H1 hk1) (hB.2.2.weaken (fun _ q _ hq => hf q.1 hq)) hS1
theorem xm_callX (h : xl_Ok X Y C b L kc ks xs) {n' np ix a ci u maxL' N : Nat} {R : String} {T : u_T} {y : MethodName} {cc' : ByteArray} {av : List Value} {st0 : List Value} {rt : FieldType} {t3 : Option (Int32 × xc_M)} {f : Int32 → xc_M → Option Int32} (hd : decode code pc = .ok (.invokevirtual ix, 3)) (md : xc_Md y cc' maxL' (some rt) np) (hi : Cond.instanceMethod y ∈ xc_T) (hse : Cond.selects y.cls y y ∈ xc_T) (hlk : Cond.methodLink RL ix y ∈ xc_T) (hn : n' ≤ 1000) (hs : X.2.2.2.1[a]? = some (ci + 3, u)) (hc : vwCl[ci]? = some (R, T, N)) (hR : R = y.cls) (hav : av.length = np) (hst : st0 = av.reverse ++ .ref (X.2.2.2.2.2 a) :: st) (hcat : (st.map fun v => v.category).sum ≤ 8) (cf : xc_Cf X n' y cc' maxL' (some rt) (.ref (X.2.2.2.2.2 a) :: av) P.1 t3) (k : ∀ (v : Int32) (J : xc_M), xl_S X Y C b kc ks (f v J) (pc + 3) lv (.int v :: st) (J, P.2)) : xl_S X Y C b kc ks (xc_cl t3 f) pc lv st0 P := by
  intro r hr
  cases ht3 : t3 with
  | none => rw [ht3] at hr; cases hr
  | some q =>
    rw [ht3] at hr
    intro H locs ls hPP hDD hS hl
    exact xl_goes (ret' := some rt) (y := y) h rfl rfl rfl h.2.2.2.2.2.2.2.2.2.2.2.2.2.2.2.2.2.2 hd md hi hse hlk hn hs hc hR hav hst hcat cf (r := q.1) (J := q.2) (by rw [ht3]) hPP.1 hPP.2 hDD.1 hS hl.1 (fun H1 locs1 hP1 hP2 hD1 hS1 => k q.1 q.2 r hr H1 locs1 ls ⟨hP1, hP2⟩ ⟨hD1, hDD.2⟩ hS1 hl)
theorem xm_askX (h : xl_Ok X Y C b L kc ks xs) {n' np ix a ci u maxL' N : Nat} {R : String} {T : u_T} {y : MethodName} {cc' : ByteArray} {av : List Value} {st0 : List Value} {rt : FieldType} {t3 : Option Int32} {f : Int32 → Option Int32} (hd : decode code pc = .ok (.invokevirtual ix, 3)) (md : xc_Md y cc' maxL' (some rt) np) (hi : Cond.instanceMethod y ∈ xc_T) (hse : Cond.selects y.cls y y ∈ xc_T) (hlk : Cond.methodLink RL ix y ∈ xc_T) (hn : n' ≤ 1000) (hs : X.2.2.2.1[a]? = some (ci + 3, u)) (hc : vwCl[ci]? = some (R, T, N)) (hR : R = y.cls) (hav : av.length = np) (hst : st0 = av.reverse ++ .ref (X.2.2.2.2.2 a) :: st) (hcat : (st.map fun v => v.category).sum ≤ 8) (cf : xc_Cf X n' y cc' maxL' (some rt) (.ref (X.2.2.2.2.2 a) :: av) P.1 (xc_ro t3 P.1)) (k : ∀ v : Int32, xl_S X Y C b kc ks (f v) (pc + 3) lv (.int v :: st) P) : xl_S X Y C b kc ks (xc_cr t3 f) pc lv st0 P := by
  intro r hr
  cases ht3 : t3 with
  | none => rw [ht3] at hr; cases hr
  | some q =>
    rw [ht3] at hr
    intro H locs ls hPP hDD hS hl
    exact xl_goes (ret' := some rt) (y := y) h rfl rfl rfl h.2.2.2.2.2.2.2.2.2.2.2.2.2.2.2.2.2.2 hd md hi hse hlk hn hs hc hR hav hst hcat cf (r := q) (J := P.1) (by rw [ht3]; rfl) hPP.1 hPP.2 hDD.1 hS hl.1 (fun H1 locs1 hP1 hP2 hD1 hS1 => k q r hr H1 locs1 ls ⟨hP1, hP2⟩ ⟨hD1, hDD.2⟩ hS1 hl)
theorem xm_callY (h : xl_Ok X Y C b L kc ks xs) {n' np ix a ci u maxL' N : Nat} {R : String} {T : u_T} {y : MethodName} {cc' : ByteArray} {av : List Value} {st0 : List Value} {rt : FieldType} {t3 : Option (Int32 × xc_M)} {f : Int32 → xc_M → Option Int32} (hd : decode code pc = .ok (.invokevirtual ix, 3)) (md : xc_Md y cc' maxL' (some rt) np) (hi : Cond.instanceMethod y ∈ xc_T) (hse : Cond.selects y.cls y y ∈ xc_T) (hlk : Cond.methodLink RL ix y ∈ xc_T) (hn : n' ≤ 1000) (hs : Y.2.2.2.1[a]? = some (ci + 3, u)) (hc : vwCl[ci]? = some (R, T, N)) (hR : R = y.cls) (hav : av.length = np) (hst : st0 = av.reverse ++ .ref (Y.2.2.2.2.2 a) :: st) (hcat : (st.map fun v => v.category).sum ≤ 8) (cf : xc_Cf Y n' y cc' maxL' (some rt) (.ref (Y.2.2.2.2.2 a) :: av) P.2 t3) (k : ∀ (v : Int32) (J : xc_M), xl_S X Y C b kc ks (f v J) (pc + 3) lv (.int v :: st) (P.1, J)) : xl_S X Y C b kc ks (xc_cl t3 f) pc lv st0 P := by
  intro r hr
  cases ht3 : t3 with
  | none => rw [ht3] at hr; cases hr
  | some q =>
    rw [ht3] at hr
    intro H locs ls hPP hDD hS hl
    exact xl_goes (ret' := some rt) (y := y) h h.2.2.2.2.2.2.2.2.2.2.2.2.2.2.2.1 h.2.2.2.2.2.2.2.2.2.2.2.2.2.2.2.2.1 h.2.2.2.2.2.2.2.2.2.2.2.2.2.2.2.2.2.1 (fun i j hi hj e => h.2.2.2.2.2.2.2.2.2.2.2.2.2.2.2.2.2.2 j i hj hi e.symm) hd md hi hse hlk hn hs hc hR hav hst hcat cf (r := q.1) (J := q.2) (by rw [ht3]) hPP.2 hPP.1 hDD.2 hS hl.1 (fun H1 locs1 hP1 hP2 hD1 hS1 => k q.1 q.2 r hr H1 locs1 ls ⟨hP2, hP1⟩ ⟨hDD.1, hD1⟩ hS1 hl)
theorem xm_askY (h : xl_Ok X Y C b L kc ks xs) {n' np ix a ci u maxL' N : Nat} {R : String} {T : u_T} {y : MethodName} {cc' : ByteArray} {av : List Value} {st0 : List Value} {rt : FieldType} {t3 : Option Int32} {f : Int32 → Option Int32} (hd : decode code pc = .ok (.invokevirtual ix, 3)) (md : xc_Md y cc' maxL' (some rt) np) (hi : Cond.instanceMethod y ∈ xc_T) (hse : Cond.selects y.cls y y ∈ xc_T) (hlk : Cond.methodLink RL ix y ∈ xc_T) (hn : n' ≤ 1000) (hs : Y.2.2.2.1[a]? = some (ci + 3, u)) (hc : vwCl[ci]? = some (R, T, N)) (hR : R = y.cls) (hav : av.length = np) (hst : st0 = av.reverse ++ .ref (Y.2.2.2.2.2 a) :: st) (hcat : (st.map fun v => v.category).sum ≤ 8) (cf : xc_Cf Y n' y cc' maxL' (some rt) (.ref (Y.2.2.2.2.2 a) :: av) P.2 (xc_ro t3 P.2)) (k : ∀ v : Int32, xl_S X Y C b kc ks (f v) (pc + 3) lv (.int v :: st) P) : xl_S X Y C b kc ks (xc_cr t3 f) pc lv st0 P := by
  intro r hr
  cases ht3 : t3 with
  | none => rw [ht3] at hr; cases hr
  | some q =>
    rw [ht3] at hr
    intro H locs ls hPP hDD hS hl
    exact xl_goes (ret' := some rt) (y := y) h h.2.2.2.2.2.2.2.2.2.2.2.2.2.2.2.1 h.2.2.2.2.2.2.2.2.2.2.2.2.2.2.2.2.1 h.2.2.2.2.2.2.2.2.2.2.2.2.2.2.2.2.2.1 (fun i j hi hj e => h.2.2.2.2.2.2.2.2.2.2.2.2.2.2.2.2.2.2 j i hj hi e.symm) hd md hi hse hlk hn hs hc hR hav hst hcat cf (r := q) (J := P.2) (by rw [ht3]; rfl) hPP.2 hPP.1 hDD.2 hS hl.1 (fun H1 locs1 hP1 hP2 hD1 hS1 => k q r hr H1 locs1 ls ⟨hP2, hP1⟩ ⟨hDD.1, hD1⟩ hS1 hl)
end
