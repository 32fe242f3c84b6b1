section
variable {Z : xd_Z} {C : xc_C} {A : Nat → Prop} {Q : State → Prop} {n nL : Nat} {cc : ByteArray} {own : String} {t t1 t2 : Prop} {pc : Nat} {lv lv' : List (Nat × Value)} {st : List Value} {σ : xd_S} {K : xd_K} {ret : Option FieldType}

theorem xd_KX {Z : xd_Z} {U : State} (h : va_K Z.1.2.1 vwCl (xd_ty Z) U) : va_K Z.1.2.1 vwCl (xc_ty Z.1) U := ⟨h.1, fun k q hk => h.2 k q (by
  match k, hk with
  | 0, hk => exact hk
  | 1, hk => exact hk
  | 2, hk => exact hk
  | k + 3, hk => cases hk)⟩
theorem xd_PX {D : va_G} {cl : List vw_C} {a b : va_W} {H : Heap} (h : va_P D cl (a ++ b) H) : va_P D cl a H := fun k q hk => h k q (by rw [List.getElem?_append_left (List.getElem?_eq_some_iff.mp hk).1]; exact hk)
theorem xd_DX {A : Nat → Prop} {a b : va_W} (h : va_D A (a ++ b)) : va_D A a := ⟨fun i j p q hp hq e => h.1 i j p q (by rw [List.getElem?_append_left (List.getElem?_eq_some_iff.mp hp).1]; exact hp) (by rw [List.getElem?_append_left (List.getElem?_eq_some_iff.mp hq).1]; exact hq) e, fun k q hk => h.2 k q (by rw [List.getElem?_append_left (List.getElem?_eq_some_iff.mp hk).1]; exact hk)⟩
theorem xd_join {A : Nat → Prop} {D : va_G} {cl : List vw_C} {a b a1 : va_W} {H H1 : Heap} (hP : va_P D cl (a ++ b) H) (hD : va_D A (a ++ b)) (hk : ∀ q : Nat, q < H.size → ¬ va_A a H.size q → H1[q]? = H[q]?) (hF : ∀ q, va_A a H.size q → A q) (hP1 : va_P D cl a1 H1) (hD1 : va_D (va_A a H.size) a1) : va_P D cl (a1 ++ b) H1 ∧ va_D A (a1 ++ b) := by
  have hb : ∀ (k : Nat) (q : Nat × va_E), b[k]? = some q → (a ++ b)[a.length + k]? = some q := fun k q hq => by
    rw [List.getElem?_append_right (by omega), show a.length + k - a.length = k by omega]
    exact hq
  have ha : ∀ (k : Nat) (q : Nat × va_E), a[k]? = some q → (a ++ b)[k]? = some q := fun k q hq => by
    rw [List.getElem?_append_left (List.getElem?_eq_some_iff.mp hq).1]
    exact hq
  have apart : ∀ (k : Nat) (q : Nat × va_E), b[k]? = some q → q.1 < H.size ∧ ¬ va_A a H.size q.1 := by
    intro k q hq
    have hl := (hP _ q (hb k q hq)).lt
    refine ⟨hl, fun z => ?_⟩
    rcases z with ⟨k2, e, z⟩ | z
    · have := hD.1 _ _ _ _ (hb k q hq) (ha k2 _ z) rfl
      have := (List.getElem?_eq_some_iff.mp z).1
      omega
    · omega
  refine ⟨va_P.app hP1 (fun k q hq => (hP _ q (hb k q hq)).kept (hk q.1 (apart k q hq).1 (apart k q hq).2)), va_D.app (hD1.weaken (fun k q _ z => hF q.1 z)) ⟨fun i j p q hp hq e => ?_, fun k q hq => hD.2 _ q (hb k q hq)⟩ (fun i j p q hp hq e => ?_)⟩
  · have := hD.1 _ _ p q (hb i p hp) (hb j q hq) e
    omega
  · exact (apart j q hq).2 (by rw [← e]; exact hD1.2 i p hp)
theorem xd_preX (h : xd_Ok Z C A n cc own nL) {av : List Value} {H : Heap} {locs : List Loc} {ds : List Nat} (hP : va_P Z.1.2.1 vwCl (xd_ws Z σ ds) H) (hD : va_D A (xd_ws Z σ ds)) (hS : va_S A C.2.2.2.1.heap H locs) : PreS C.2.2.2.1 H (va_Pc av (fun U => U.heap.size = H.size ∧ va_P Z.1.2.1 vwCl (xc_ws Z.1 σ.2.1) U.heap ∧ va_K Z.1.2.1 vwCl (xc_ty Z.1) U ∧ va_D (fun _ => True) (xc_ws Z.1 σ.2.1) ∧ xc_Z Z.1 (va_A (xc_ws Z.1 σ.2.1) H.size) U)) av := ⟨fun a U g mk q => by obtain ⟨q0, q1, qP, qK, qD, qZ⟩ := q; exact ⟨q0, q1, qP, va_K.moved (u := U) (U := U.calling g mk a) (Vm.Alike.refl U.vm) qK, qD, qZ.blind⟩, fun U hU hW => ⟨rfl, by rw [hU], by rw [hU]; exact xd_PX hP, va_K.moved hW.alike (xd_KX h.2.2.2.2.2.1), (xd_DX hD).weaken (fun _ _ _ _ => trivial), h.2.2.2.2.2.2.2.2.1.to hS (fun q hq => by
  rcases hq with ⟨i, e, hq⟩ | hq
  · exact (xd_DX hD).2 i _ hq
  · exact h.2.2.2.2.2.2.2.1 q (Nat.le_trans hS.1 hq)) hU hW⟩⟩
theorem xd_callX {y : MethodName} {cc' : ByteArray} {maxL' n' np ix : Nat} {ret' : Option FieldType} (h : xd_Ok Z C A n cc own nL) (md : xc_Md y cc' maxL' ret' np) (hl : Cond.methodLink own ix y ∈ xc_T) (hn : n' < n) : CallB C.2.2.1 C.2.2.2.1 C.2.2.2.2.2.1 own ix y cc' maxL' ret' (Cond.code y cc' maxL' ret' :: xc_T) (xc_rm n') 0 0 np := by
  refine callB_of np h.2.2.2.2.1 (xc_words md) rfl rfl rfl (h.2.2.2.2.1 _ md.2.1) (h.2.2.2.2.1 _ hl) md.2.2.1 ?_
  have e := h.2.2.2.2.2.2.1
  have := md.2.2.2
  constructor
  · show n' + 1 + 1 ≤ _
    omega
  · show 8 + (maxL' + 11) + 64 * (n' + 1) ≤ _
    omega
theorem xd_xcall (h : xd_Ok Z C A n cc own nL) {n' np ix a ci u maxL' N : Nat} {R : String} {T : u_T} {y : MethodName} {cc' : ByteArray} {av : List Value} {st0 : List Value} {rt : FieldType} {t3 : Option (Int32 × xc_M)} {f : Int32 → xd_S → Prop} (hd : decode cc pc = .ok (.invokevirtual ix, 3)) (md : xc_Md y cc' maxL' (some rt) np) (hi : Cond.instanceMethod y ∈ xc_T) (hse : Cond.selects y.cls y y ∈ xc_T) (hlk : Cond.methodLink own ix y ∈ xc_T) (hn : n' < n) (hs : Z.1.2.2.2.1[a]? = some (ci + 3, u)) (hc : vwCl[ci]? = some (R, T, N)) (hR : R = y.cls) (hav : av.length = np) (hst : st0 = av.reverse ++ .ref (Z.1.2.2.2.2.2 a) :: st) (hcat : (st.map fun v => v.category).sum ≤ 8) (cf : xc_Cf Z.1 n' y cc' maxL' (some rt) (.ref (Z.1.2.2.2.2.2 a) :: av) σ.2.1 t3) (k : ∀ (r : Int32) (τ : xd_S), xd_T Z C A Q nL (f r τ) (pc + 3) lv (.int r :: st) τ) : xd_T Z C A Q nL (xd_xc t3 σ f) pc lv st0 σ := by
  intro ht H locs ls ds cu su hdm hcu hsu hP hD hS hl
  obtain ⟨r, J, e1, e2⟩ := ht
  have hB := xd_preX (av := .ref (Z.1.2.2.2.2.2 a) :: av) h hP hD hS
  have hf : ∀ q, va_A (xc_ws Z.1 σ.2.1) H.size q → A q := fun q hq => by
    rcases hq with ⟨i, e, hq⟩ | hq
    · exact (xd_DX hD).2 i _ hq
    · exact h.2.2.2.2.2.2.2.1 q (Nat.le_trans hS.1 hq)
  have run := va_runV (C := R) (g := F0 C.2.2.2.2.1 pc ls st0) (e := C.2.1) (below := C.2.2.2.2.2.2.1) (meth := C.2.2.2.2.2.2.2.1) (locs := locs) (cells := cu) (slots := su) ⟨h.1, h.2.1, h.2.2.1, h.2.2.2.1, h.2.2.2.2.1⟩ (cf r J e1 H.size) ⟨xd_callX h md hlk hn, h.2.2.2.2.1 _ hi, by rw [hR]; exact h.2.2.2.2.1 _ hse⟩ ⟨hB.1, va_recv h.2.2.2.2.2.1 (xd_PX hP) hc (xc_at σ.2.1 hs), hB.2⟩ rfl hav hl.1 hst (lv_room hcat) hd ⟨by omega, by omega⟩
  refine va_calli (a := (Value.ref (Z.1.2.2.2.2.2 a) :: av).toArray) run hS (fun q _ hq => hf q hq) hf (fun r2 u t3 H1 locs1 ht hvm hw hB2 hz1 hk1 hS1 => ?_)
  obtain ⟨rfl, rfl⟩ := hw
  obtain ⟨hP1, hD1⟩ := xd_join hP hD hk1 hf (by rw [← ht]; exact hB2.1) hB2.2.2
  exact k _ _ e2 H1 locs1 ls ds (cu + 0) (su + 0) hdm hcu hsu hP1 hD1 hS1 hl
theorem xd_xask (h : xd_Ok Z C A n cc own nL) {n' np ix a ci u maxL' N : Nat} {R : String} {T : u_T} {y : MethodName} {cc' : ByteArray} {av : List Value} {st0 : List Value} {rt : FieldType} {t3 : Option Int32} {f : Int32 → Prop} (hd : decode cc pc = .ok (.invokevirtual ix, 3)) (md : xc_Md y cc' maxL' (some rt) np) (hi : Cond.instanceMethod y ∈ xc_T) (hse : Cond.selects y.cls y y ∈ xc_T) (hlk : Cond.methodLink own ix y ∈ xc_T) (hn : n' < n) (hs : Z.1.2.2.2.1[a]? = some (ci + 3, u)) (hc : vwCl[ci]? = some (R, T, N)) (hR : R = y.cls) (hav : av.length = np) (hst : st0 = av.reverse ++ .ref (Z.1.2.2.2.2.2 a) :: st) (hcat : (st.map fun v => v.category).sum ≤ 8) (cf : xc_Cf Z.1 n' y cc' maxL' (some rt) (.ref (Z.1.2.2.2.2.2 a) :: av) σ.2.1 (xc_ro t3 σ.2.1)) (k : ∀ r : Int32, xd_T Z C A Q nL (f r) (pc + 3) lv (.int r :: st) σ) : xd_T Z C A Q nL (xd_xr t3 f) pc lv st0 σ := by
  intro ht H locs ls ds cu su hdm hcu hsu hP hD hS hl
  obtain ⟨r, e1, e2⟩ := ht
  have hB := xd_preX (av := .ref (Z.1.2.2.2.2.2 a) :: av) h hP hD hS
  have hf : ∀ q, va_A (xc_ws Z.1 σ.2.1) H.size q → A q := fun q hq => by
    rcases hq with ⟨i, e, hq⟩ | hq
    · exact (xd_DX hD).2 i _ hq
    · exact h.2.2.2.2.2.2.2.1 q (Nat.le_trans hS.1 hq)
  have run := va_runV (C := R) (g := F0 C.2.2.2.2.1 pc ls st0) (e := C.2.1) (below := C.2.2.2.2.2.2.1) (meth := C.2.2.2.2.2.2.2.1) (locs := locs) (cells := cu) (slots := su) ⟨h.1, h.2.1, h.2.2.1, h.2.2.2.1, h.2.2.2.2.1⟩ (cf r σ.2.1 (by rw [e1]; rfl) H.size) ⟨xd_callX h md hlk hn, h.2.2.2.2.1 _ hi, by rw [hR]; exact h.2.2.2.2.1 _ hse⟩ ⟨hB.1, va_recv h.2.2.2.2.2.1 (xd_PX hP) hc (xc_at σ.2.1 hs), hB.2⟩ rfl hav hl.1 hst (lv_room hcat) hd ⟨by omega, by omega⟩
  refine va_calli (a := (Value.ref (Z.1.2.2.2.2.2 a) :: av).toArray) run hS (fun q _ hq => hf q hq) hf (fun r2 u t3 H1 locs1 ht hvm hw hB2 hz1 hk1 hS1 => ?_)
  obtain ⟨rfl, rfl⟩ := hw
  obtain ⟨hP1, hD1⟩ := xd_join hP hD hk1 hf (by rw [← ht]; exact hB2.1) hB2.2.2
  exact k _ e2 H1 locs1 ls ds (cu + 0) (su + 0) hdm hcu hsu hP1 hD1 hS1 hl
theorem xd_mmax (h : xd_Ok Z C A n cc own nL) {ix : Nat} {x y : Int32} {f : Int32 → Prop} (hd : decode cc pc = .ok (.invokestatic ix, 3)) (hw : xc_Lm own ix Lib.Math.max.name Lib.Math.max.code) (hn : 1 ≤ n) (hcat : (st.map fun v => v.category).sum ≤ 8) (k : ∀ v : Int32, xd_T Z C A Q nL (f v) (pc + 3) lv (.int v :: st) σ) : xd_T Z C A Q nL (xd_lt (if x < y then y else x) f) pc lv (.int y :: .int x :: st) σ := by
  intro ht H locs ls ds cu su hdm hcu hsu hP hD hS hl
  have e := h.2.2.2.2.2.2.1
  exact va_mmax h.1 h.2.1 (h.2.2.1.trans hl.1.symm) h.2.2.2.1 (h.2.2.2.2.1 _ hw.1) (h.2.2.2.2.1 _ hw.2.1) (h.2.2.2.2.1 _ hw.2.2.1) (h.2.2.2.2.1 _ hw.2.2.2) (by omega) (by omega) (by omega) (by omega) hd (k _ ht H locs ls ds cu su hdm hcu hsu hP hD hS hl)
theorem xd_mmin (h : xd_Ok Z C A n cc own nL) {ix : Nat} {x y : Int32} {f : Int32 → Prop} (hd : decode cc pc = .ok (.invokestatic ix, 3)) (hw : xc_Lm own ix Lib.Math.min.name Lib.Math.min.code) (hn : 1 ≤ n) (hcat : (st.map fun v => v.category).sum ≤ 8) (k : ∀ v : Int32, xd_T Z C A Q nL (f v) (pc + 3) lv (.int v :: st) σ) : xd_T Z C A Q nL (xd_lt (if y < x then y else x) f) pc lv (.int y :: .int x :: st) σ := by
  intro ht H locs ls ds cu su hdm hcu hsu hP hD hS hl
  have e := h.2.2.2.2.2.2.1
  exact va_mmin h.1 h.2.1 (h.2.2.1.trans hl.1.symm) h.2.2.2.1 (h.2.2.2.2.1 _ hw.1) (h.2.2.2.2.1 _ hw.2.1) (h.2.2.2.2.1 _ hw.2.2.1) (h.2.2.2.2.1 _ hw.2.2.2) (by omega) (by omega) (by omega) (by omega) hd (k _ ht H locs ls ds cu su hdm hcu hsu hP hD hS hl)
theorem xd_obj (h : xd_Ok Z C A n cc own nL) {ix a : Nat} (hd : decode cc pc = .ok (.invokespecial ix, 3)) (hlk : Cond.methodLink own ix Lib.objectInit ∈ xc_T) (hi : Cond.instanceMethod Lib.objectInit ∈ xc_T) (hco : Cond.code Lib.objectInit ⟨#[0xb1]⟩ 1 none ∈ xc_T) (hcat : (st.map fun v => v.category).sum ≤ 8) (k : xd_T Z C A Q nL t (pc + 3) lv st σ) : xd_T Z C A Q nL t pc lv (.ref a :: st) σ := by
  intro ht H locs ls ds cu su hdm hcu hsu hP hD hS hl
  have e := h.2.2.2.2.2.2.1
  exact W.objInit h.1 h.2.1 h.2.2.2.1 (h.2.2.2.2.1 _ hlk) (h.2.2.2.2.1 _ hi) (h.2.2.2.2.1 _ hco) rfl (hl.1.trans h.2.2.1.symm) rfl hd (by omega) (by show 2 * 0 + _ + 12 ≤ _; omega) (k ht H locs ls ds cu su hdm hcu hsu hP hD hS hl)
theorem xd_putFB (h : xd_Ok Z C A n cc own nL) {c a j ix N : Nat} {R ref : String} {T : u_T} {ty : Nat → FieldType} (hK : xd_Kl c R T N ty) {x : Int32} {f : xd_S → Prop} (hd : decode cc pc = .ok (.putfield ix, 3)) (hw : Cond.fieldLink own ix ref (T j).2.1 (T j).2.2.1 ∈ xc_T) (hrf : (T j).1 = ref) (hj : j < N) (hr : xc_rf c j = false) (hfin : (T j).2.2.2 = true) (hown : (T j).1 = own) (hnm : C.2.2.2.2.2.2.2.1.name = "<init>") (hty : ty j = .byte) (k : ∀ τ : xd_S, xd_T Z C A Q nL (f τ) (pc + 3) lv st τ) : xd_T Z C A Q nL (xd_mz (c + 5) a j x σ f) pc lv ((.int x) :: .ref a :: st) σ := by
  intro ht H locs ls ds cu su hdm hcu hsu hP hD hS hl
  obtain ⟨hz, cl, h1, h2, h3⟩ := ht
  obtain ⟨q, hq⟩ := xd_get (Z := Z) hdm h1
  have e5 : xd_ent Z cl = .inr (c, xd_fs c cl) := by simp [xd_ent, h2]
  have hq2 := hq
  rw [e5] at hq2
  refine va_putF h.1 h.2.1 h.2.2.2.2.1 hK.2.1 ty hK.2.2.1 hK.2.2.2.1 h.2.2.2.1 h.2.2.2.2.2.1 hP hD hS q hq2 hK.1 j hj (h.2.2.2.2.1 _ hw) (by rw [hrf]; exact fun _ q => q) hfin hnm hown (ty := .byte) (by rw [← hty]; exact hK.2.2.1 j hj) (by rcases hz with rfl | rfl <;> rfl) (by rcases hz with rfl | rfl <;> rfl) (by simp [xd_fs, hK.2.2.2.2, hj]) hd (fun H1 locs1 hP1 hD1 hS1 => ?_)
  have e6 : (xd_ws Z σ ds).set q (a, .inr (c, (xd_fs c cl).set j (.int x))) = xd_ws Z (xd_up σ.1 a (c + 5, cl.2.1, upd cl.2.2.1 j x, cl.2.2.2), σ.2) ds := by
    rw [xd_fs_setI hr]
    exact xd_set (c2 := (c + 5, cl.2.1, upd cl.2.2.1 j x, cl.2.2.2)) hdm h1 hD hq
  rw [e6] at hP1 hD1
  exact k _ h3 H1 locs1 ls ds cu su (xd_dom_up hdm h1) hcu hsu hP1 hD1 hS1 hl
theorem xd_putFR (h : xd_Ok Z C A n cc own nL) {c a j ix N : Nat} {R ref : String} {T : u_T} {ty : Nat → FieldType} (hK : xd_Kl c R T N ty) {x : Option Nat} {rt : FieldType} (hrt : (∃ n, rt = .object n) ∨ ∃ t, rt = .array t) {f : xd_S → Prop} (hd : decode cc pc = .ok (.putfield ix, 3)) (hw : Cond.fieldLink own ix ref (T j).2.1 (T j).2.2.1 ∈ xc_T) (hrf : (T j).1 = ref) (hj : j < N) (hr : xc_rf c j = true) (hfin : (T j).2.2.2 = true) (hown : (T j).1 = own) (hnm : C.2.2.2.2.2.2.2.1.name = "<init>") (hty : ty j = rt) (k : ∀ τ : xd_S, xd_T Z C A Q nL (f τ) (pc + 3) lv st τ) : xd_T Z C A Q nL (xd_pR (c + 5) a j x σ f) pc lv ((va_rf x) :: .ref a :: st) σ := by
  intro ht H locs ls ds cu su hdm hcu hsu hP hD hS hl
  obtain ⟨cl, h1, h2, h3⟩ := ht
  obtain ⟨q, hq⟩ := xd_get (Z := Z) hdm h1
  have e5 : xd_ent Z cl = .inr (c, xd_fs c cl) := by simp [xd_ent, h2]
  have hq2 := hq
  rw [e5] at hq2
  refine va_putF h.1 h.2.1 h.2.2.2.2.1 hK.2.1 ty hK.2.2.1 hK.2.2.2.1 h.2.2.2.1 h.2.2.2.2.2.1 hP hD hS q hq2 hK.1 j hj (h.2.2.2.2.1 _ hw) (by rw [hrf]; exact fun _ q => q) hfin hnm hown (ty := rt) (by rw [← hty]; exact hK.2.2.1 j hj) (by rcases hrt with ⟨n, rfl⟩ | ⟨t, rfl⟩ <;> cases x <;> rfl) (by rcases hrt with ⟨n, rfl⟩ | ⟨t, rfl⟩ <;> cases x <;> rfl) (by simp [xd_fs, hK.2.2.2.2, hj]) hd (fun H1 locs1 hP1 hD1 hS1 => ?_)
  have e6 : (xd_ws Z σ ds).set q (a, .inr (c, (xd_fs c cl).set j (va_rf x))) = xd_ws Z (xd_up σ.1 a (c + 5, cl.2.1, cl.2.2.1, va_up cl.2.2.2 j x), σ.2) ds := by
    rw [xd_fs_setR hr]
    exact xd_set (c2 := (c + 5, cl.2.1, cl.2.2.1, va_up cl.2.2.2 j x)) hdm h1 hD hq
  rw [e6] at hP1 hD1
  exact k _ h3 H1 locs1 ls ds cu su (xd_dom_up hdm h1) hcu hsu hP1 hD1 hS1 hl
def xd_fb (x : Int32) : Prop := fits .byte (.int x) = true
/-- bytes from the cell a0 to the cell a1 -/
def xd_cp (a0 : Nat) (sp : Int32) (a1 : Nat) (dp m : Int32) (σ : xd_S) (f : xd_S → Prop) : Prop := ∃ c d : xd_C, σ.1 a0 = some c ∧ c.1 = 1 ∧ σ.1 a1 = some d ∧ d.1 = 1 ∧ ¬ sp < 0 ∧ ¬ dp < 0 ∧ ¬ m < 0 ∧ sp.toNatClampNeg + m.toNatClampNeg ≤ c.2.1 ∧ dp.toNatClampNeg + m.toNatClampNeg ≤ d.2.1 ∧ (∀ i : Nat, i < m.toNatClampNeg → xd_fb (c.2.2.1 (sp.toNatClampNeg + i))) ∧ f (xd_up σ.1 a1 (1, d.2.1, va_cpy c.2.2.1 d.2.2.1 sp.toNatClampNeg dp.toNatClampNeg m.toNatClampNeg, d.2.2.2), σ.2)
/-- bytes of the constant k -/
def xd_ck (k : Nat) (sp : Int32) (a1 : Nat) (dp m : Int32) (σ : xd_S) (f : xd_S → Prop) : Prop := ∃ d : xd_C, σ.1 a1 = some d ∧ d.1 = 1 ∧ ¬ sp < 0 ∧ ¬ dp < 0 ∧ ¬ m < 0 ∧ sp.toNatClampNeg + m.toNatClampNeg ≤ yk_len.getD k 0 ∧ dp.toNatClampNeg + m.toNatClampNeg ≤ d.2.1 ∧ (∀ i : Nat, i < m.toNatClampNeg → xd_fb ((yk_byt.getD k []).getD (sp.toNatClampNeg + i) 0)) ∧ f (xd_up σ.1 a1 (1, d.2.1, va_cpy (fun j => (yk_byt.getD k []).getD j 0) d.2.2.1 sp.toNatClampNeg dp.toNatClampNeg m.toNatClampNeg, d.2.2.2), σ.2)
theorem xd_copy (h : xd_Ok Z C A n cc own nL) {ix a0 a1 : Nat} {sp dp m : Int32} {f : xd_S → Prop} (hd : decode cc pc = .ok (.invokestatic ix, 3)) (hw : xc_Lc own ix) (hcat : (st.map fun v => v.category).sum ≤ 8) (k : ∀ τ : xd_S, xd_T Z C A Q nL (f τ) (pc + 3) lv st τ) : xd_T Z C A Q nL (xd_cp a0 sp a1 dp m σ f) pc lv (.int m :: .int dp :: .ref a1 :: .int sp :: .ref a0 :: st) σ := by
  intro ht H locs ls ds cu su hdm hcu hsu hP hD hS hl
  obtain ⟨cl, d, h1, h2, h3, h4, h5, h6, h7, h8, h9, h11, h10⟩ := ht
  obtain ⟨q, hq⟩ := xd_get (Z := Z) hdm h1
  obtain ⟨q1, hq1⟩ := xd_get (Z := Z) hdm h3
  have e5 : xd_ent Z cl = .inl (Z.1.2.2.1.2.1, cl.2.1, .inl cl.2.2.1) := by simp [xd_ent, h2]
  have e6 : xd_ent Z d = .inl (Z.1.2.2.1.2.1, d.2.1, .inl d.2.2.1) := by simp [xd_ent, h4]
  have hq2 := hq1
  rw [e5] at hq
  rw [e6] at hq2
  have e := h.2.2.2.2.2.2.1
  refine va_copyi h.1 h.2.1 (h.2.2.1.trans hl.1.symm) h.2.2.2.1 (h.2.2.2.2.1 _ hw.1) (h.2.2.2.2.1 _ hw.2.1) (h.2.2.2.2.1 _ hw.2.2.1) (h.2.2.2.2.1 _ hw.2.2.2) h.2.2.2.2.2.1 hP hD hS q q1 1 1 (ty := .byte) hq hq2 rfl rfl rfl h5 h6 h7 h8 h9 (fun i hi => h11 i hi) (by omega) (by
      have e : nativeFrameWords "java/lang/System" "arraycopy" 5 + 11 ≤ 56 := by decide +kernel
      omega) hd (fun H1 locs1 hP1 hD1 hS1 => ?_)
  · skip
    rw [show (xd_ws Z σ ds).set q1 (a1, .inl (Z.1.2.2.1.2.1, d.2.1, .inl (va_cpy cl.2.2.1 d.2.2.1 sp.toNatClampNeg dp.toNatClampNeg m.toNatClampNeg))) = xd_ws Z (xd_up σ.1 a1 (1, d.2.1, va_cpy cl.2.2.1 d.2.2.1 sp.toNatClampNeg dp.toNatClampNeg m.toNatClampNeg, d.2.2.2), σ.2) ds from xd_set (c2 := (1, d.2.1, va_cpy cl.2.2.1 d.2.2.1 sp.toNatClampNeg dp.toNatClampNeg m.toNatClampNeg, d.2.2.2)) hdm h3 hD hq1] at hP1 hD1
    exact k _ h10 H1 locs1 ls ds cu su (xd_dom_up hdm h3) hcu hsu hP1 hD1 hS1 hl
theorem xd_copyk (h : xd_Ok Z C A n cc own nL) {ix i0 a1 : Nat} {sp dp m : Int32} {f : xd_S → Prop} (hd : decode cc pc = .ok (.invokestatic ix, 3)) (hw : xc_Lc own ix) (hi0 : i0 < yk_n) (hcat : (st.map fun v => v.category).sum ≤ 8) (k : ∀ τ : xd_S, xd_T Z C A Q nL (f τ) (pc + 3) lv st τ) : xd_T Z C A Q nL (xd_ck i0 sp a1 dp m σ f) pc lv (.int m :: .int dp :: .ref a1 :: .int sp :: .ref (Z.2.2.2.2.1 i0) :: st) σ := by
  intro ht H locs ls ds cu su hdm hcu hsu hP hD hS hl
  obtain ⟨d, h3, h4, h5, h6, h7, h8, h9, h11, h10⟩ := ht
  obtain ⟨q1, hq1⟩ := xd_get (Z := Z) hdm h3
  have e6 : xd_ent Z d = .inl (Z.1.2.2.1.2.1, d.2.1, .inl d.2.2.1) := by simp [xd_ent, h4]
  have hq2 := hq1
  rw [e6] at hq2
  have e := h.2.2.2.2.2.2.1
  refine vk_copyt h.1 h.2.1 (h.2.2.1.trans hl.1.symm) h.2.2.2.1 (h.2.2.2.2.1 _ hw.1) (h.2.2.2.2.1 _ hw.2.1) (h.2.2.2.2.1 _ hw.2.2.1) (h.2.2.2.2.1 _ hw.2.2.2) h.2.2.2.2.2.1 hP hD hS (h.2.2.2.2.2.2.2.2.2.1.1 i0 hi0).2.2.2 q1 1 hq2 rfl h5 h6 h7 h8 h9 (fun i hi => h11 i hi) (by omega) (by
      have e : nativeFrameWords "java/lang/System" "arraycopy" 5 + 11 ≤ 56 := by decide +kernel
      omega) hd (fun H1 locs1 hP1 hD1 hS1 => ?_)
  · skip
    rw [show (xd_ws Z σ ds).set q1 (a1, .inl (Z.1.2.2.1.2.1, d.2.1, .inl (va_cpy (fun j => (yk_byt.getD i0 []).getD j 0) d.2.2.1 sp.toNatClampNeg dp.toNatClampNeg m.toNatClampNeg))) = xd_ws Z (xd_up σ.1 a1 (1, d.2.1, va_cpy (fun j => (yk_byt.getD i0 []).getD j 0) d.2.2.1 sp.toNatClampNeg dp.toNatClampNeg m.toNatClampNeg, d.2.2.2), σ.2) ds from xd_set (c2 := (1, d.2.1, va_cpy (fun j => (yk_byt.getD i0 []).getD j 0) d.2.2.1 sp.toNatClampNeg dp.toNatClampNeg m.toNatClampNeg, d.2.2.2)) hdm h3 hD hq1] at hP1 hD1
    exact k _ h10 H1 locs1 ls ds cu su (xd_dom_up hdm h3) hcu hsu hP1 hD1 hS1 hl
end
