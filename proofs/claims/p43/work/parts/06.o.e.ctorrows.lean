-- ===== constructors: the object's cell first, what it makes behind it =====
def xn_rm (n k m : Nat) : Room := { frames := n + 1, cells := k, slots := m, locals := 64 * (n + 1) }
abbrev xn_T (ids : ClassId × ClassId × ClassId × (Nat → Nat) × (Nat → Nat)) : List (ClassId × FieldType) := [(ids.1, .int), (ids.2.1, .byte), (ids.2.2.1, .object "UnsaidWords$Being")]
/-- a constructor's contract: of the fresh object at h0 it makes the block bl -/
def xn_Cf (l : Launch) (D : va_G) (ids : ClassId × ClassId × ClassId × (Nat → Nat) × (Nat → Nat)) {S : Type} (n : Nat) (y : MethodName) (cc : ByteArray) (maxL ci : Nat) (av : List Value) (fs : List Value) (bl : Nat → S → va_W) (k m : Nat) : Prop := ∀ h0 sz : Nat, Met l y (.code y cc maxL none :: xc_T) (xn_rm n k m) (va_Pc (.ref h0 :: av) (fun U => U.heap.size = sz ∧ va_P D vwCl [(h0, .inr (ci, fs))] U.heap ∧ va_K D vwCl (xn_T ids) U ∧ va_D (fun _ => True) [(h0, .inr (ci, fs))] ∧ va_AO RX0 U)) (va_Qv (fun _ : S => True) (fun u t => va_P D vwCl (bl h0 u) t.heap ∧ va_K D vwCl (xn_T ids) t ∧ va_D (va_A [(h0, .inr (ci, fs))] sz) (bl h0 u)) (va_A [(h0, .inr (ci, fs))] sz)) k m (va_A [(h0, .inr (ci, fs))] sz)
theorem xn_join {A0 : Nat → Prop} {D : va_G} {cl : List vw_C} {w0 w1 : va_W} {f : Nat × va_E} {H H1 : Heap} (hP : va_P D cl (w0 ++ [f]) H) (hD : va_D A0 (w0 ++ [f])) (hk : ∀ q : Nat, q < H.size → ¬ va_A [f] H.size q → H1[q]? = H[q]?) (hF : ∀ q, va_A [f] H.size q → A0 q) (hP1 : va_P D cl w1 H1) (hD1 : va_D (va_A [f] H.size) w1) : va_P D cl (w0 ++ w1) H1 ∧ va_D A0 (w0 ++ w1) := by
  have hin : ∀ (i : Nat) (q : Nat × va_E), w0[i]? = some q → (w0 ++ [f])[i]? = some q := fun i q h => by
    rw [List.getElem?_append_left (List.getElem?_eq_some_iff.mp h).1]
    exact h
  have hf : (w0 ++ [f])[w0.length]? = some f := by simp
  have hapart : ∀ (i : Nat) (q : Nat × va_E), w0[i]? = some q → q.1 < H.size ∧ ¬ va_A [f] H.size q.1 := fun i q h => by
    have hlt := (hP i q (hin i q h)).lt
    refine ⟨hlt, ?_⟩
    rintro (⟨j, e, hj⟩ | hle)
    · have hi := (List.getElem?_eq_some_iff.mp h).1
      match j with
      | 0 =>
        simp only [List.getElem?_cons_zero, Option.some.injEq] at hj
        have e1 := hD.1 i w0.length q f (hin i q h) hf (by rw [hj])
        omega
      | j + 1 => simp at hj
    · exact absurd hle (Nat.not_le.mpr hlt)
  refine ⟨fun i q h => ?_, fun i j p q hp hq e => ?_, fun i q h => ?_⟩
  · by_cases hi : i < w0.length
    · rw [List.getElem?_append_left hi] at h
      exact (hP i q (hin i q h)).kept (hk q.1 (hapart i q h).1 (hapart i q h).2)
    · rw [List.getElem?_append_right (Nat.not_lt.mp hi)] at h
      exact hP1 _ q h
  · by_cases hi : i < w0.length
    · rw [List.getElem?_append_left hi] at hp
      by_cases hj : j < w0.length
      · rw [List.getElem?_append_left hj] at hq
        exact hD.1 i j p q (hin i p hp) (hin j q hq) e
      · rw [List.getElem?_append_right (Nat.not_lt.mp hj)] at hq
        exact absurd (hD1.2 _ q hq) (by rw [← e]; exact (hapart i p hp).2)
    · rw [List.getElem?_append_right (Nat.not_lt.mp hi)] at hp
      by_cases hj : j < w0.length
      · rw [List.getElem?_append_left hj] at hq
        exact absurd (hD1.2 _ p hp) (by rw [e]; exact (hapart j q hq).2)
      · rw [List.getElem?_append_right (Nat.not_lt.mp hj)] at hq
        have := hD1.1 _ _ p q hp hq e
        omega
  · by_cases hi : i < w0.length
    · rw [List.getElem?_append_left hi] at h
      exact hD.2 i q (hin i q h)
    · rw [List.getElem?_append_right (Nat.not_lt.mp hi)] at h
      exact hF _ (hD1.2 _ q h)
section
variable {p : Program} {l : Launch} {e : Env} {R : Room} {s : State} {m : MethodId} {args : Array Value} {below : List Frame} {meth : Method} {c : Code} {H : Heap} {locs : List Loc} {cells slots : Nat} {Q : State → Prop} {cc : ByteArray} {pc : Nat} {ls : Array Slot} {rest : List Value} {D : va_G} {A : Nat → Prop} {ids : ClassId × ClassId × ClassId × (Nat → Nat) × (Nat → Nat)} {own : String}
/-- what stands through a constructor's walk -/
def xn_Ok (p : Program) (s : State) (m : MethodId) (args : Array Value) (meth : Method) (c : Code) (D : va_G) (ids : ClassId × ClassId × ClassId × (Nat → Nat) × (Nat → Nat)) (A : Nat → Prop) (cc : ByteArray) (own : String) (nL : Nat) : Prop := p.tables.exec = Jvm.exec ∧ c.code = cc ∧ c.maxLocals = nL ∧ s.vm.findClass own = some m.cls ∧ (∀ w ∈ xc_T, w.before args s = true) ∧ va_K D vwCl (xn_T ids) s ∧ (∀ q : Nat, s.heap.size ≤ q → A q) ∧ va_AO RX0 s
/-- newarray, putfield: a row of numbers into a field of the object -/
theorem xn_arr {nL ci k N ix : Nat} {a : Nat} {RC : String} {T : u_T} {ty : Nat → FieldType} {fs : List Value} {ws : va_W} {v : Int32} {len : Nat} (h : xn_Ok p s m args meth c D ids A cc own nL) (hin : meth.name = "<init>") (hd : decode cc pc = .ok (.newarray .int, 2)) (hn : ¬ v < 0) (hN : v.toNatClampNeg = len) (hbytes : len * 4 ≤ 536870912) (hc1 : cells + 1 ≤ R.cells) (hc2 : slots + len ≤ R.slots) (hK : xc_Kl ci RC T N ty) (hRo : RC = own) (hd2 : decode cc (pc + 2) = .ok (.putfield ix, 3)) (hw : Cond.fieldLink own ix RC (T k).2.1 (T k).2.2.1 ∈ xc_T) (hk : k < N) (hfin : (T k).2.2.2 = true) (hty : ty k = .array .int) (hl : k < fs.length) (hac : Cond.arrayClass .int ∈ xc_T)
    (hP : va_P D vwCl ((a, .inr (ci, fs)) :: ws) H) (hD : va_D A ((a, .inr (ci, fs)) :: ws)) (hS : va_S A s.heap H locs)
    (kk : ∀ (q : Nat) (H1 : Heap) (locs1 : List Loc), va_P D vwCl ((a, .inr (ci, fs.set k (.ref q))) :: (ws ++ [(q, .inl (ids.1, len, .inl (fun _ => 0)))])) H1 → va_D A ((a, .inr (ci, fs.set k (.ref q))) :: (ws ++ [(q, .inl (ids.1, len, .inl (fun _ => 0)))])) → va_S A s.heap H1 locs1 → W p l e R s m args below meth c H1 locs1 (cells + 1) (slots + len) Q (F0 m (pc + 2 + 3) ls rest)) : W p l e R s m args below meth c H locs cells slots Q (F0 m pc ls (.int v :: .ref a :: rest)) := by
  refine va_newa (atype := .int) (ty := .int) (a0 := (len, .inl (fun _ => 0))) h.1 h.2.1 (h.2.2.2.2.1 _ hac) rfl h.2.2.2.2.2.1 hP hD hS h.2.2.2.2.2.2.1 (fun _ => rfl) hn hN hbytes hc1 hc2 hd (fun q cA H1 hK1 hP1 hD1 hS1 => ?_)
  have e : cA = ids.1 := by
    have h1 := (h.2.2.2.2.2.1.2 0 (ids.1, .int) rfl).2
    have h2 := (hK1.2 3 (cA, .int) rfl).2
    exact Option.some.inj (h2.symm.trans h1)
  subst e
  refine va_putF (ty := .array .int) h.1 h.2.1 h.2.2.2.2.1 hK.2.1 ty hK.2.2.1 hK.2.2.2.1 h.2.2.2.1 h.2.2.2.2.2.1 hP1 hD1 hS1 0 rfl hK.1 k hk (h.2.2.2.2.1 _ hw) (by rw [hK.2.2.2.2.2 k hk]; exact fun _ q => q) hfin hin (by rw [hK.2.2.2.2.2 k hk]; exact hRo) (by rw [← hty]; exact hK.2.2.1 k hk) rfl rfl hl hd2 (fun H2 locs2 hP2 hD2 hS2 => ?_)
  exact kk q H2 locs2 hP2 hD2 hS2
/-- new, dup, then the constructor over what lies on the stack -/
theorem xn_new {nL ci N ix : Nat} {RC : String} {T : u_T} {ty : Nat → FieldType} {fs : List Value} {w0 : va_W} (h : xn_Ok p s m args meth c D ids A cc own nL) (hd : decode cc pc = .ok (.new ix, 3)) (hK : xc_Kl ci RC T N ty) (hw1 : Cond.classLink own ix RC ∈ xc_T) (hw2 : Cond.instantiable RC N ∈ xc_T) (hw3 : Cond.initialized RC ∈ xc_T) (hfs : ∀ j, j < N → defaultValue (ty j) = vp_V fs j) (hc1 : cells + 1 ≤ R.cells) (hc2 : slots + N ≤ R.slots) (hd2 : decode cc (pc + 3) = .ok (.dup, 1)) (hP : va_P D vwCl w0 H) (hD : va_D A w0) (hS : va_S A s.heap H locs)
    (kk : ∀ (q : Nat) (H1 : Heap), va_P D vwCl (w0 ++ [(q, .inr (ci, fs))]) H1 → va_D A (w0 ++ [(q, .inr (ci, fs))]) → va_S A s.heap H1 locs → W p l e R s m args below meth c H1 locs (cells + 1) (slots + N) Q (F0 m (pc + 3 + 1) ls (.ref q :: .ref q :: rest))) : W p l e R s m args below meth c H locs cells slots Q (F0 m pc ls rest) := by
  refine va_new h.1 h.2.1 h.2.2.2.2.1 hK.2.1 ty hK.2.2.1 h.2.2.2.1 (h.2.2.2.2.1 _ hw1) (h.2.2.2.2.1 _ hw2) (h.2.2.2.2.1 _ hw3) h.2.2.2.2.2.1 hP hD hS h.2.2.2.2.2.2.1 hK.1 hfs hc1 hc2 hd (fun q H1 hP1 hD1 hS1 => ?_)
  exact lv_dup h.1 h.2.1 hd2 rfl (kk q H1 hP1 hD1 hS1)
theorem xn_call {S : Type} {nL n ci ix maxL k1 m1 np : Nat} {y : MethodName} {cb : ByteArray} {fs av : List Value} {bl : Nat → S → va_W} {w0 : va_W} {q : Nat} {st0 : List Value} (h : xn_Ok p s m args meth c D ids A cc own nL) (hd : decode cc pc = .ok (.invokespecial ix, 3)) (cf : xn_Cf l D ids n y cb maxL ci av fs bl k1 m1) (md : xc_Md y cb maxL none np) (hy : y.name = "<init>") (hi : Cond.instanceMethod y ∈ xc_T) (hlk : Cond.methodLink own ix y ∈ xc_T) (hav : av.length = np) (hst : st0 = av.reverse ++ .ref q :: rest) (hcat : (rest.map fun v => v.category).sum ≤ 8) (hls : ls.size = nL) (hR1 : n + 1 + 1 ≤ R.frames) (hR2 : 8 + (maxL + 11) + 64 * (n + 1) ≤ R.locals) (hc1 : cells + k1 ≤ R.cells) (hc2 : slots + m1 ≤ R.slots)
    (hP : va_P D vwCl (w0 ++ [(q, .inr (ci, fs))]) H) (hD : va_D A (w0 ++ [(q, .inr (ci, fs))])) (hS : va_S A s.heap H locs)
    (kk : ∀ (u : S) (H1 : Heap) (locs1 : List Loc), va_P D vwCl (w0 ++ bl q u) H1 → va_D A (w0 ++ bl q u) → va_S A s.heap H1 locs1 → W p l e R s m args below meth c H1 locs1 (cells + k1) (slots + m1) Q (F0 m (pc + 3) ls rest)) : W p l e R s m args below meth c H locs cells slots Q (F0 m pc ls st0) := by
  have hq : (w0 ++ [(q, (Sum.inr (ci, fs) : va_E))])[w0.length]? = some (q, .inr (ci, fs)) := by simp
  have hPc : va_P D vwCl [(q, .inr (ci, fs))] H := fun i x hx => by
    match i with
    | 0 =>
      simp only [List.getElem?_cons_zero, Option.some.injEq] at hx
      subst hx
      exact hP w0.length _ hq
    | i + 1 => simp at hx
  have hDc : ∀ B : Nat → Prop, B q → va_D B [(q, (Sum.inr (ci, fs) : va_E))] := fun B hB => ⟨fun i j p1 q1 hp hq e => by
    match i, j with
    | 0, 0 => rfl
    | 0, j + 1 => simp at hq
    | i + 1, _ => simp at hp, fun i x hx => by
    match i with
    | 0 =>
      simp only [List.getElem?_cons_zero, Option.some.injEq] at hx
      subst hx
      exact hB
    | i + 1 => simp at hx⟩
  have hf : ∀ z, va_A [(q, (Sum.inr (ci, fs) : va_E))] H.size z → A z := fun z hz => by
    rcases hz with ⟨i, e, hz⟩ | hz
    · match i with
      | 0 =>
        simp only [List.getElem?_cons_zero, Option.some.injEq] at hz
        have := hD.2 w0.length _ hq
        rw [hz] at this
        exact this
      | i + 1 => simp at hz
    · exact h.2.2.2.2.2.2.1 z (Nat.le_trans hS.1 hz)
  have run := va_runI (g := F0 m pc ls st0) (rest := rest) (As := av) (b := q) (cells := cells) (slots := slots) (locs := locs) (H := H) (R := R) (meth := meth) (below := below) (e := e) ⟨h.1, h.2.1, h.2.2.1, h.2.2.2.1, h.2.2.2.2.1⟩ (cf q H.size) ⟨callB_of np h.2.2.2.2.1 (xc_words md) rfl rfl rfl (h.2.2.2.2.1 _ md.2.1) (h.2.2.2.2.1 _ hlk) md.2.2.1 ⟨hR1, hR2⟩, hy, h.2.2.2.2.1 _ hi⟩ ⟨fun a U g mk z => by obtain ⟨q0, q1, qP, qK, qD, qO⟩ := z; exact ⟨q0, q1, qP, va_K.moved (u := U) (U := U.calling g mk a) (Vm.Alike.refl U.vm) qK, qD, va_AO.moved (u := U) (U := U.calling g mk a) (Vm.Alike.refl U.vm) qO⟩, fun U hU hW => ⟨rfl, by rw [hU], by rw [hU]; exact hPc, va_K.moved hW.alike h.2.2.2.2.2.1, hDc _ trivial, va_AO.moved hW.alike h.2.2.2.2.2.2.2⟩⟩ rfl hav hls hst (lv_room hcat) hd ⟨hc1, hc2⟩
  refine va_callv (a := (Value.ref q :: av).toArray) run hS (fun z _ hz => hf z hz) hf (fun u t3 H1 locs1 ht hvm hw hB hz1 hk1 hS1 => ?_)
  obtain ⟨hP1, hK1, hD1⟩ := hB
  rw [ht] at hP1
  obtain ⟨hP2, hD2⟩ := xn_join hP hD hk1 hf hP1 hD1
  exact kk u H1 locs1 hP2 hD2 hS1
/-- a reference into a final field of the object -/
theorem xn_putR {nL ci k N ix a q : Nat} {RC : String} {T : u_T} {ty : Nat → FieldType} {fs : List Value} {ws : va_W} {rt : FieldType} (h : xn_Ok p s m args meth c D ids A cc own nL) (hin : meth.name = "<init>") (hd : decode cc pc = .ok (.putfield ix, 3)) (hK : xc_Kl ci RC T N ty) (hRo : RC = own) (hw : Cond.fieldLink own ix RC (T k).2.1 (T k).2.2.1 ∈ xc_T) (hk : k < N) (hfin : (T k).2.2.2 = true) (hty : ty k = rt) (hn : narrow rt (.ref q) = .ref q) (hfit : fits rt (.ref q) = true) (hl : k < fs.length)
    (hP : va_P D vwCl ((a, .inr (ci, fs)) :: ws) H) (hD : va_D A ((a, .inr (ci, fs)) :: ws)) (hS : va_S A s.heap H locs)
    (kk : ∀ (H1 : Heap) (locs1 : List Loc), va_P D vwCl ((a, .inr (ci, fs.set k (.ref q))) :: ws) H1 → va_D A ((a, .inr (ci, fs.set k (.ref q))) :: ws) → va_S A s.heap H1 locs1 → W p l e R s m args below meth c H1 locs1 cells slots Q (F0 m (pc + 3) ls rest)) : W p l e R s m args below meth c H locs cells slots Q (F0 m pc ls (.ref q :: .ref a :: rest)) := by
  refine va_putF (ty := rt) h.1 h.2.1 h.2.2.2.2.1 hK.2.1 ty hK.2.2.1 hK.2.2.2.1 h.2.2.2.1 h.2.2.2.2.2.1 hP hD hS 0 rfl hK.1 k hk (h.2.2.2.2.1 _ hw) (by rw [hK.2.2.2.2.2 k hk]; exact fun _ q => q) hfin hin (by rw [hK.2.2.2.2.2 k hk]; exact hRo) (by rw [← hty]; exact hK.2.2.1 k hk) hn hfit hl hd (fun H2 locs2 hP2 hD2 hS2 => ?_)
  exact kk H2 locs2 hP2 hD2 hS2
/-- newarray, putfield: a row of numbers into a field of the object -/
theorem xn_arrB {nL ci k N ix : Nat} {a : Nat} {RC : String} {T : u_T} {ty : Nat → FieldType} {fs : List Value} {ws : va_W} {v : Int32} {len : Nat} (h : xn_Ok p s m args meth c D ids A cc own nL) (hin : meth.name = "<init>") (hd : decode cc pc = .ok (.newarray .byte, 2)) (hn : ¬ v < 0) (hN : v.toNatClampNeg = len) (hbytes : len * 1 ≤ 536870912) (hc1 : cells + 1 ≤ R.cells) (hc2 : slots + len ≤ R.slots) (hK : xc_Kl ci RC T N ty) (hRo : RC = own) (hd2 : decode cc (pc + 2) = .ok (.putfield ix, 3)) (hw : Cond.fieldLink own ix RC (T k).2.1 (T k).2.2.1 ∈ xc_T) (hk : k < N) (hfin : (T k).2.2.2 = true) (hty : ty k = .array .byte) (hl : k < fs.length) (hac : Cond.arrayClass .byte ∈ xc_T)
    (hP : va_P D vwCl ((a, .inr (ci, fs)) :: ws) H) (hD : va_D A ((a, .inr (ci, fs)) :: ws)) (hS : va_S A s.heap H locs)
    (kk : ∀ (q : Nat) (H1 : Heap) (locs1 : List Loc), va_P D vwCl ((a, .inr (ci, fs.set k (.ref q))) :: (ws ++ [(q, .inl (ids.2.1, len, .inl (fun _ => 0)))])) H1 → va_D A ((a, .inr (ci, fs.set k (.ref q))) :: (ws ++ [(q, .inl (ids.2.1, len, .inl (fun _ => 0)))])) → va_S A s.heap H1 locs1 → W p l e R s m args below meth c H1 locs1 (cells + 1) (slots + len) Q (F0 m (pc + 2 + 3) ls rest)) : W p l e R s m args below meth c H locs cells slots Q (F0 m pc ls (.int v :: .ref a :: rest)) := by
  refine va_newa (atype := .byte) (ty := .byte) (a0 := (len, .inl (fun _ => 0))) h.1 h.2.1 (h.2.2.2.2.1 _ hac) rfl h.2.2.2.2.2.1 hP hD hS h.2.2.2.2.2.2.1 (fun _ => rfl) hn hN hbytes hc1 hc2 hd (fun q cA H1 hK1 hP1 hD1 hS1 => ?_)
  have e : cA = ids.2.1 := by
    have h1 := (h.2.2.2.2.2.1.2 1 (ids.2.1, .byte) rfl).2
    have h2 := (hK1.2 3 (cA, .byte) rfl).2
    exact Option.some.inj (h2.symm.trans h1)
  subst e
  refine va_putF (ty := .array .byte) h.1 h.2.1 h.2.2.2.2.1 hK.2.1 ty hK.2.2.1 hK.2.2.2.1 h.2.2.2.1 h.2.2.2.2.2.1 hP1 hD1 hS1 0 rfl hK.1 k hk (h.2.2.2.2.1 _ hw) (by rw [hK.2.2.2.2.2 k hk]; exact fun _ q => q) hfin hin (by rw [hK.2.2.2.2.2 k hk]; exact hRo) (by rw [← hty]; exact hK.2.2.1 k hk) rfl rfl hl hd2 (fun H2 locs2 hP2 hD2 hS2 => ?_)
  exact kk q H2 locs2 hP2 hD2 hS2
theorem xn_putI {nL ci k N ix a : Nat} {RC : String} {T : u_T} {ty : Nat → FieldType} {fs : List Value} {ws : va_W} {rt : FieldType} {v : Int32} (h : xn_Ok p s m args meth c D ids A cc own nL) (hd : decode cc pc = .ok (.putfield ix, 3)) (hK : xc_Kl ci RC T N ty) (hw : Cond.fieldLink own ix RC (T k).2.1 (T k).2.2.1 ∈ xc_T) (hk : k < N) (hfin : (T k).2.2.2 = false) (hty : ty k = rt) (hn : narrow rt (.int v) = .int v) (hfit : fits rt (.int v) = true) (hl : k < fs.length)
    (hP : va_P D vwCl ((a, .inr (ci, fs)) :: ws) H) (hD : va_D A ((a, .inr (ci, fs)) :: ws)) (hS : va_S A s.heap H locs)
    (kk : ∀ (H1 : Heap) (locs1 : List Loc), va_P D vwCl ((a, .inr (ci, fs.set k (.int v))) :: ws) H1 → va_D A ((a, .inr (ci, fs.set k (.int v))) :: ws) → va_S A s.heap H1 locs1 → W p l e R s m args below meth c H1 locs1 cells slots Q (F0 m (pc + 3) ls rest)) : W p l e R s m args below meth c H locs cells slots Q (F0 m pc ls (.int v :: .ref a :: rest)) := by
  refine va_put (ty := rt) h.1 h.2.1 h.2.2.2.2.1 hK.2.1 ty hK.2.2.1 hK.2.2.2.1 h.2.2.2.1 h.2.2.2.2.2.1 hP hD hS 0 rfl hK.1 k hk (h.2.2.2.2.1 _ hw) (by rw [hK.2.2.2.2.2 k hk]; exact fun _ q => q) hfin (by rw [← hty]; exact hK.2.2.1 k hk) hn hfit hl hd (fun H2 locs2 hP2 hD2 hS2 => ?_)
  exact kk H2 locs2 hP2 hD2 hS2
end
