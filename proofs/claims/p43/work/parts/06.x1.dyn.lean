/-! THE CLAIM OUT OF ONE WALK OF THE LAW'S BODY. Your part is whole_start (and what it stands on); all else here is the same for every law, but numbers. -/
def R_law : String := "UnsaidWordsLaw"
def lw_P (b : Addr) (xs : List Int32) (args : Array Value) (s : State) : Prop := args = #[.ref b] ∧ s.IntsAt b xs ∧ xs.length ≤ 260 ∧ (Jvm.Cond.and given_1 narrow_1).before args s = true
def lw_Q (_ : Array Value) (s : State) (o : Outcome) (t : State) : Prop := o = .returned (some (.int 1)) ∧ Framed s o t [] 600000 7302250
def lw_Z (below : List Frame) (a : Array Value) (s : State) : State → Prop := fun t => ∃ o, t.status = .running ∧ Ended t below o ∧ lw_Q a s o t
/-- the law's own end, with 1 on the stack, nothing written that was there before, its room as the claim has it -/
theorem lw_ret {p : Program} {l : Launch} {e : Env} {s : State} {m : MethodId} {below : List Frame} {meth : Method} {c : Code} {b : Nat} (hx : p.tables.exec = Jvm.exec) (hb : c.code = code) (hr : meth.sig.returnType = ret) (hlocks : meth.locks = false) {pc : Nat} {H : Heap} {ls : Array Slot} (hdg : decode code pc = .ok (.ireturn, 1)) : W p l e room_1 s m #[Value.ref b] below meth c H [] 600000 7302250 (lw_Z below #[Value.ref b] s) (F0 m pc ls [.int 1]) := by
  intro T hT X
  obtain ⟨fs, hret, hrun, hended, hW, hframe⟩ := X.leave (v := some (.int 1)) (hlocks := hlocks) (fun h => by rw [hr] at h; cases h)
  have hmeth' : T.vm.method? m = some meth := X.method'
  refine ⟨T.setFrames fs, ?_, .returned (some (.int 1)), hrun, hended, rfl, ⟨_, rfl⟩, hW, hframe⟩
  jvm_step X.here [X.here.top, hx, hb, hdg, hmeth', hr, ret, narrow_b1]
  (try refine ⟨rfl, ?_⟩); (try refine ⟨rfl, ?_⟩)
  first | (intro acts; rw [hret _ acts rfl rfl rfl]) | rw [hret _ _ rfl rfl rfl]
  exact Steps.refl _
/-- what holds at the law's entry: the machine, the code, the tables' words (any of lw_tbl by 'hts w (by decide +kernel)'), the script of L ints xs at the cell b, what the Statement gives of the start (any of its parts by flat_of_before) -/
def lw_At (p : Program) (s : State) (m : MethodId) (meth : Method) (c : Code) (b L : Nat) (xs : Nat → Int32) : Prop :=
  p.tables.exec = Jvm.exec ∧ c.code = code ∧ meth.sig.returnType = ret ∧ c.maxLocals = 16 ∧ s.vm.findClass R_law = some m.cls ∧ (∀ w ∈ lw_tbl, w.before #[Value.ref b] s = true) ∧ va_X b L xs s s.heap ∧ b < s.heap.size ∧ meth.locks = false ∧ (Jvm.Cond.and given_1 narrow_1).before #[Value.ref b] s = true
section
variable {Z : xd_Z} {C : xc_C} {A : Nat → Prop} {Q : State → Prop} {n nL : Nat} {cc : ByteArray} {own : String} {t t1 t2 : Prop} {pc : Nat} {lv lv' : List (Nat × Value)} {st : List Value} {σ : xd_S} {K : xd_K} {ret : Option FieldType}

theorem xd_aload_nA (h : xd_Ok Z C A n cc own nL) {z : Value} (hz : z = .null ∨ ∃ a : Nat, z = .ref a) (p : Nat) {j : Fin 4} {i : Nat} (hd : decode cc pc = .ok (.aload_n j, 1)) (hi : (j : Nat) = i) (hp : lv[p]? = some (i, z)) (k : xd_T Z C A Q nL t (pc + 1) lv (z :: st) σ) : xd_T Z C A Q nL t pc lv st σ := fun ht H locs ls ds cu su hdm hcu hsu hP hD hS hl => by
  rcases hz with rfl | ⟨a, rfl⟩
  · exact lv_aload_nN h.1 h.2.1 hd hi (lv_at hl p hp) (k ht H locs ls ds cu su hdm hcu hsu hP hD hS hl)
  · exact lv_aload_n h.1 h.2.1 hd hi (lv_at hl p hp) (k ht H locs ls ds cu su hdm hcu hsu hP hD hS hl)
theorem xd_getsf (h : xd_Ok Z C A n cc own nL) {ix : Nat} (hd : decode cc pc = .ok (.getstatic ix, 3)) (hw : Cond.fieldLink own ix "jdk/internal/util/Preconditions" "SIOOBE_FORMATTER" "Ljava/util/function/BiFunction;" ∈ xc_T) (k : ∀ z : Value, (z = .null ∨ ∃ a : Nat, z = .ref a) → xd_T Z C A Q nL t (pc + 3) lv (z :: st) σ) : xd_T Z C A Q nL t pc lv st σ := fun ht H locs ls ds cu su hdm hcu hsu hP hD hS hl => by
  obtain ⟨z, hz, hZ⟩ := h.2.2.2.2.2.2.2.2.1.2.2.2.1
  exact va_gets h.1 h.2.1 hZ hS h.2.2.2.1 (h.2.2.2.2.1 _ hw) (fun _ q => q) hd (k z hz ht H locs ls ds cu su hdm hcu hsu hP hD hS hl)
theorem xd_hob {ci b : Nat} (hq : ∃ c : xd_C, σ.1 b = some c ∧ c.1 = ci + 5) (H : Heap) (ds : List Nat) (hdm : xd_dom σ.1 ds) (hP : va_P Z.1.2.1 vwCl (xd_ws Z σ ds) H) : ∃ (q : Nat) (fs : List Value), (xd_ws Z σ ds)[q]? = some (b, .inr (ci, fs)) := by
  obtain ⟨c, h1, h2⟩ := hq
  obtain ⟨k, hk⟩ := xd_get (Z := Z) hdm h1
  exact ⟨k, xd_fs ci c, by rw [hk]; simp [xd_ent, h2]⟩
theorem xd_chk {k a : Nat} (kk : (∃ c : xd_C, σ.1 a = some c ∧ c.1 = k) → xd_T Z C A Q nL t pc lv st σ) : xd_T Z C A Q nL (xd_is k a σ t) pc lv st σ := fun ht => kk ht.1 ht.2
def xd_nn (r : Option Nat) (f : Nat → Prop) : Prop := ∃ b : Nat, r = some b ∧ f b
theorem xd_nnT {r : Option Nat} {f : Nat → Prop} (k : ∀ b : Nat, xd_T Z C A Q nL (f b) pc lv (.ref b :: st) σ) : xd_T Z C A Q nL (xd_nn r f) pc lv (va_rf r :: st) σ := by
  intro ht
  obtain ⟨b, rfl, h1⟩ := ht
  exact k b h1
theorem xd_cat (r : Option Nat) : (va_rf r).category = 1 := by cases r <;> rfl
theorem xd_c16 (y : UInt32) : ((y % 65536).toInt32.toUInt32 % 65536).toInt32 = (y % 65536).toInt32 := by
  have : (y % 65536).toInt32.toUInt32 = y % 65536 := by simp
  rw [this]
  congr 1
  apply UInt32.toNat.inj
  simp
theorem xd_cretN (h : xd_Ok Z C A n cc own nL) (hE : xd_E Z C A (some .char) Q K) {y : UInt32} (hd : decode cc pc = .ok (.ireturn, 1)) : xd_T Z C A Q nL (K (y % 65536).toInt32 none σ) pc lv [.int (y % 65536).toInt32] σ := by
  intro ht
  exact xd_cret h hE hd ⟨by have := pk_nc y.toInt32; exact xd_c16 y, ht⟩
/-- the law's own end -/
def xd_EL (Z : xd_Z) (C : xc_C) (A : Nat → Prop) (Q : State → Prop) (K : xd_K) : Prop := Q = lw_Z C.2.2.2.2.2.2.1 #[Value.ref Z.2.2.1.1] C.2.2.2.1 ∧ C.2.2.1 = room_1 ∧ C.2.2.2.2.2.1 = #[Value.ref Z.2.2.1.1] ∧ C.2.2.2.2.2.2.2.1.sig.returnType = (some .boolean) ∧ C.2.2.2.2.2.2.2.1.locks = false ∧ (∀ q : Nat, A q → C.2.2.2.1.heap.size ≤ q) ∧ K = fun _ _ _ => True
def xd_rl (x : Int32) (K : xd_K) (σ : xd_S) : Prop := x = 1 ∧ K x none σ
theorem xd_lret (h : xd_Ok Z C A n code own nL) (hE : xd_EL Z C A Q K) {x : Int32} (hd : decode code pc = .ok (.ireturn, 1)) : xd_T Z C A Q nL (xd_rl x K σ) pc lv [.int x] σ := by
  intro ht H locs ls ds cu su hdm hcu hsu hP hD hS hl
  obtain ⟨rfl, e1, e2, e3, e4, e5, -⟩ := hE
  obtain ⟨rfl, -⟩ := ht
  obtain ⟨p, e, R, s, m, args, below, meth, c⟩ := C
  dsimp only at e1 e2 e3 e4 e5 hS hcu hsu
  subst e1 e2
  refine va_forget (fun q hq => e5 _ (hS.2.2 q hq)) (W.widen (k := 600000) (n := 7302250) (by have : (room_1).cells = 600000 := rfl; omega) (by have : (room_1).slots = 7302250 := rfl; omega) ?_)
  exact lw_ret h.1 h.2.1 e3 e4 hd
def xd_clB (a : Nat) (σ : xd_S) (f : Nat → xd_S → Prop) : Prop := ∃ c : xd_C, σ.1 a = some c ∧ c.1 = 1 ∧ (∀ i : Nat, i < c.2.1 → xd_fb (c.2.2.1 i)) ∧ xd_nw (1, c.2.1, c.2.2.1, fun _ => none) c.2.1 σ f
def xd_LkB (own : String) (ix : Nat) : Prop := Cond.methodLink own ix ⟨"[B", "clone", "()Ljava/lang/Object;"⟩ ∈ xc_T ∧ Cond.sameMethod "[B" "java/lang/Object" "clone" "()Ljava/lang/Object;" ∈ xc_T ∧ Cond.native ⟨"java/lang/Object", "clone", "()Ljava/lang/Object;"⟩ ∈ xc_T ∧ Cond.instanceMethod ⟨"java/lang/Object", "clone", "()Ljava/lang/Object;"⟩ ∈ xc_T ∧ Cond.selects "[B" ⟨"[B", "clone", "()Ljava/lang/Object;"⟩ ⟨"java/lang/Object", "clone", "()Ljava/lang/Object;"⟩ ∈ xc_T
theorem xd_cloneB (h : xd_Ok Z C A n cc own nL) {ix a : Nat} {f : Nat → xd_S → Prop} (hd : decode cc pc = .ok (.invokevirtual ix, 3)) (hw : xd_LkB own ix) (hcat : (st.map fun v => v.category).sum ≤ 8) (k : ∀ (b : Nat) (τ : xd_S), xd_T Z C A Q nL (f b τ) (pc + 3) lv (.ref b :: st) τ) : xd_T Z C A Q nL (xd_clB a σ f) pc lv (.ref a :: st) σ := by
  intro ht H locs ls ds cu su hdm hcu hsu hP hD hS hl
  obtain ⟨cl, h1, h2, hfb, g1, g2, g3⟩ := ht
  obtain ⟨q, hq⟩ := xd_get (Z := Z) hdm h1
  have e5 : xd_ent Z cl = .inl (Z.1.2.2.1.2.1, cl.2.1, .inl cl.2.2.1) := by simp [xd_ent, h2]
  rw [e5] at hq
  have hK := h.2.2.2.2.2.1
  have hr := h.2.2.2.2.2.2.1
  refine va_clone (ad := "[B") h.1 h.2.1 (h.2.2.1.trans hl.1.symm) h.2.2.2.1 (h.2.2.2.2.1 _ hw.1) (h.2.2.2.2.1 _ hw.2.1) (h.2.2.2.2.1 _ hw.2.2.1) (h.2.2.2.2.1 _ hw.2.2.2.1) (h.2.2.2.2.1 _ hw.2.2.2.2) h.2.2.2.2.2.2.2.2.2.2.2.2.2.2.2.2.2.2.2.2.1 hK hP hD hS h.2.2.2.2.2.2.2.1 q 1 hq rfl (hK.2 1 _ rfl).2 (fun i v hv => ?_) (by omega) (by omega) (by omega) (by show su + cl.2.1 ≤ _; omega) hd (fun q1 H1 hK1 hP1 hD1 hS1 => ?_)
  · have hl2 : i < cl.2.1 := by
      have := (Array.getElem?_eq_some_iff.mp hv).1
      rw [vp_cell_i, arrV_size] at this
      exact this
    rw [vp_cell_i, arrV_read _ _ hl2] at hv
    cases hv
    exact hfb i hl2
  · have hf := xd_fresh hD1
    rw [show xd_ws Z σ ds ++ [(q1, .inl (Z.1.2.2.1.2.1, cl.2.1, .inl cl.2.2.1))] = xd_ws Z (xd_up σ.1 q1 (1, cl.2.1, cl.2.2.1, fun _ => none), σ.2.1, σ.2.2.1 - 1, σ.2.2.2 - cl.2.1) (ds ++ [q1]) from xd_push (Z := Z) (σ := σ) (c2 := (1, cl.2.1, cl.2.2.1, fun _ => none)) hf] at hP1 hD1
    exact k q1 _ (g3 q1 (xd_none hdm hf)) H1 locs ls (ds ++ [q1]) (cu + 1) (su + cl.2.1) (xd_dom_push hdm) (by show cu + 1 + (σ.2.2.1 - 1) ≤ _; omega) (by show su + cl.2.1 + (σ.2.2.2 - cl.2.1) ≤ _; omega) hP1 hD1 hS1 hl
theorem xd_castB (h : xd_Ok Z C A n cc own nL) {ix a : Nat} (hd : decode cc pc = .ok (.checkcast ix, 3)) (hw : Cond.classLink own ix "[B" ∈ xc_T) (k : xd_T Z C A Q nL t (pc + 3) lv (.ref a :: st) σ) : xd_T Z C A Q nL (xd_is 1 a σ t) pc lv (.ref a :: st) σ := by
  intro ht H locs ls ds cu su hdm hcu hsu hP hD hS hl
  obtain ⟨⟨cl, h1, h2⟩, h3⟩ := ht
  obtain ⟨q, hq⟩ := xd_get (Z := Z) hdm h1
  have e5 : xd_ent Z cl = .inl (Z.1.2.2.1.2.1, cl.2.1, .inl cl.2.2.1) := by simp [xd_ent, h2]
  rw [e5] at hq
  exact va_castA (nm := "[B") h.1 h.2.1 h.2.2.2.1 (h.2.2.2.2.1 _ hw) hP q hq (h.2.2.2.2.2.1.2 1 _ rfl).2 hd (k h3 H locs ls ds cu su hdm hcu hsu hP hD hS hl)
theorem xd_callVSI (h : xd_Ok Z C A n cc own nL) {n' np ix maxL' : Nat} {y : MethodName} {cc' : ByteArray} {av : List Value} {st0 : List Value} {i0 : Nat} {p : xd_S → xd_K → Prop} {f : xd_K} {rt : FieldType} (hrt : xd_isI rt = true) (hd : decode cc pc = .ok (.invokevirtual ix, 3)) (md : xc_Md y cc' maxL' (some rt) np) (hi : Cond.instanceMethod y ∈ xc_T) (hse : Cond.selects "java/lang/String" y y ∈ xc_T) (hlk : Cond.methodLink own ix y ∈ xc_T) (hi0 : i0 < yk_n) (hn : n' < n) (hav : av.length = np) (hst : st0 = av.reverse ++ .ref (Z.2.2.2.1 i0) :: st) (hcat : (st.map fun v => v.category).sum ≤ 8) (cf : ∀ c1 s1 : Nat, xd_Cf Z n' y cc' maxL' (some rt) (.ref (Z.2.2.2.1 i0) :: av) (σ.1, σ.2.1, c1, s1) (p (σ.1, σ.2.1, c1, s1))) (k : ∀ (r : Int32) (τ : xd_S), xd_T Z C A Q nL (f r none τ) (pc + 3) lv (.int r :: st) τ) : xd_T Z C A Q nL (xd_ca p σ f) pc lv st0 σ := by
  intro ht H locs ls ds cu su hdm hcu hsu hP hD hS hl
  obtain ⟨c1, s1, g1, g2, g3⟩ := ht
  have hB := xd_preB (av := (.ref (Z.2.2.2.1 i0) :: av)) h hP hD hS
  have hcf := cf c1 s1 _ g3 H.size ds hdm
  exact xd_goesI h (c1 := c1) (s1 := s1) hrt (K := fun r ro τ => f r ro (τ.1, τ.2.1, σ.2.2.1 - c1, σ.2.2.2 - s1)) (va_runV (C := "java/lang/String") ⟨h.1, h.2.1, h.2.2.1, h.2.2.2.1, h.2.2.2.2.1⟩ hcf ⟨xd_callB h md hlk hn, h.2.2.2.2.1 _ hi, h.2.2.2.2.1 _ hse⟩ ⟨hB.1, vk_recv h.2.2.2.2.2.2.2.2.2.1 hi0 hS, hB.2⟩ rfl hav hl.1 hst (lv_room hcat) hd ⟨by omega, by omega⟩) hD hS (fun r τ H1 locs1 ds1 hK hdm1 hP1 hD1 hS1 => k r (τ.1, τ.2.1, σ.2.2.1 - c1, σ.2.2.2 - s1) hK H1 locs1 ls ds1 _ _ hdm1 (by show cu + c1 + (σ.2.2.1 - c1) ≤ _; omega) (by show su + s1 + (σ.2.2.2 - s1) ≤ _; omega) hP1 hD1 hS1 hl)
theorem xd_callVSR (h : xd_Ok Z C A n cc own nL) {n' np ix maxL' : Nat} {y : MethodName} {cc' : ByteArray} {av : List Value} {st0 : List Value} {i0 : Nat} {p : xd_S → xd_K → Prop} {f : xd_K} {rt : FieldType} (hrt : xd_isI rt = false) (hd : decode cc pc = .ok (.invokevirtual ix, 3)) (md : xc_Md y cc' maxL' (some rt) np) (hi : Cond.instanceMethod y ∈ xc_T) (hse : Cond.selects "java/lang/String" y y ∈ xc_T) (hlk : Cond.methodLink own ix y ∈ xc_T) (hi0 : i0 < yk_n) (hn : n' < n) (hav : av.length = np) (hst : st0 = av.reverse ++ .ref (Z.2.2.2.1 i0) :: st) (hcat : (st.map fun v => v.category).sum ≤ 8) (cf : ∀ c1 s1 : Nat, xd_Cf Z n' y cc' maxL' (some rt) (.ref (Z.2.2.2.1 i0) :: av) (σ.1, σ.2.1, c1, s1) (p (σ.1, σ.2.1, c1, s1))) (k : ∀ (r : Option Nat) (τ : xd_S), xd_T Z C A Q nL (f 0 r τ) (pc + 3) lv (va_rf r :: st) τ) : xd_T Z C A Q nL (xd_ca p σ f) pc lv st0 σ := by
  intro ht H locs ls ds cu su hdm hcu hsu hP hD hS hl
  obtain ⟨c1, s1, g1, g2, g3⟩ := ht
  have hB := xd_preB (av := (.ref (Z.2.2.2.1 i0) :: av)) h hP hD hS
  have hcf := cf c1 s1 _ g3 H.size ds hdm
  exact xd_goesR h (c1 := c1) (s1 := s1) hrt (K := fun r ro τ => f r ro (τ.1, τ.2.1, σ.2.2.1 - c1, σ.2.2.2 - s1)) (va_runV (C := "java/lang/String") ⟨h.1, h.2.1, h.2.2.1, h.2.2.2.1, h.2.2.2.2.1⟩ hcf ⟨xd_callB h md hlk hn, h.2.2.2.2.1 _ hi, h.2.2.2.2.1 _ hse⟩ ⟨hB.1, vk_recv h.2.2.2.2.2.2.2.2.2.1 hi0 hS, hB.2⟩ rfl hav hl.1 hst (lv_room hcat) hd ⟨by omega, by omega⟩) hD hS (fun r τ H1 locs1 ds1 hK hdm1 hP1 hD1 hS1 => k r (τ.1, τ.2.1, σ.2.2.1 - c1, σ.2.2.2 - s1) hK H1 locs1 ls ds1 _ _ hdm1 (by show cu + c1 + (σ.2.2.1 - c1) ≤ _; omega) (by show su + s1 + (σ.2.2.2 - s1) ≤ _; omega) hP1 hD1 hS1 hl)
theorem xd_callVSV (h : xd_Ok Z C A n cc own nL) {n' np ix maxL' : Nat} {y : MethodName} {cc' : ByteArray} {av : List Value} {st0 : List Value} {i0 : Nat} {p : xd_S → xd_K → Prop} {f : xd_K} (hd : decode cc pc = .ok (.invokevirtual ix, 3)) (md : xc_Md y cc' maxL' none np) (hi : Cond.instanceMethod y ∈ xc_T) (hse : Cond.selects "java/lang/String" y y ∈ xc_T) (hlk : Cond.methodLink own ix y ∈ xc_T) (hi0 : i0 < yk_n) (hn : n' < n) (hav : av.length = np) (hst : st0 = av.reverse ++ .ref (Z.2.2.2.1 i0) :: st) (hcat : (st.map fun v => v.category).sum ≤ 8) (cf : ∀ c1 s1 : Nat, xd_Cf Z n' y cc' maxL' none (.ref (Z.2.2.2.1 i0) :: av) (σ.1, σ.2.1, c1, s1) (p (σ.1, σ.2.1, c1, s1))) (k : ∀ τ : xd_S, xd_T Z C A Q nL (f 0 none τ) (pc + 3) lv st τ) : xd_T Z C A Q nL (xd_ca p σ f) pc lv st0 σ := by
  intro ht H locs ls ds cu su hdm hcu hsu hP hD hS hl
  obtain ⟨c1, s1, g1, g2, g3⟩ := ht
  have hB := xd_preB (av := (.ref (Z.2.2.2.1 i0) :: av)) h hP hD hS
  have hcf := cf c1 s1 _ g3 H.size ds hdm
  exact xd_goesV h (c1 := c1) (s1 := s1) (K := fun r ro τ => f r ro (τ.1, τ.2.1, σ.2.2.1 - c1, σ.2.2.2 - s1)) (va_runV (C := "java/lang/String") ⟨h.1, h.2.1, h.2.2.1, h.2.2.2.1, h.2.2.2.2.1⟩ hcf ⟨xd_callB h md hlk hn, h.2.2.2.2.1 _ hi, h.2.2.2.2.1 _ hse⟩ ⟨hB.1, vk_recv h.2.2.2.2.2.2.2.2.2.1 hi0 hS, hB.2⟩ rfl hav hl.1 hst (lv_room hcat) hd ⟨by omega, by omega⟩) hD hS (fun τ H1 locs1 ds1 hK hdm1 hP1 hD1 hS1 => k (τ.1, τ.2.1, σ.2.2.1 - c1, σ.2.2.2 - s1) hK H1 locs1 ls ds1 _ _ hdm1 (by show cu + c1 + (σ.2.2.1 - c1) ≤ _; omega) (by show su + s1 + (σ.2.2.2 - s1) ≤ _; omega) hP1 hD1 hS1 hl)
theorem xd_callO0 {x y : MethodName} {R : String} {cc' cx : ByteArray} {maxL' mx n' np ix c1 s1 : Nat} {ret' rx : Option FieldType} (h : xd_Ok Z C A n cc own nL) (md : xc_Md y cc' maxL' ret' np) (hi : Cond.instanceMethod y ∈ xc_T) (hix : Cond.instanceMethod x ∈ xc_T) (hsm : Cond.sameMethod x.cls x.cls x.name x.desc ∈ xc_T) (hse : Cond.selects R x y ∈ xc_T) (mx0 : xc_Md x cx mx rx np) (hl : Cond.methodLink own ix x ∈ xc_T) (hn : n' < n) : va_CU C.2.2.1 C.2.2.2.1 C.2.2.2.2.2.1 own R x.cls ix x y cc' maxL' ret' (Cond.code y cc' maxL' ret' :: xc_T) (xd_rm n' c1 s1) c1 s1 np := by
  refine va_cwO np h.2.2.2.2.1 (xc_goodIn (fun w hw => ?_)) rfl rfl rfl mx0.1 mx0.2.2.1 ?_
  · rcases List.mem_append.mp hw with hw | hw
    · simp only [List.mem_cons, List.not_mem_nil, or_false] at hw
      rcases hw with rfl | rfl | rfl | rfl | rfl | rfl
      · exact hl
      · exact hsm
      · exact hix
      · exact hse
      · exact hi
      · exact md.2.1
    · rcases List.mem_cons.mp hw with rfl | hw
      · exact md.1
      · exact hw
  · have e := h.2.2.2.2.2.2.1
    have := md.2.2.2
    constructor
    · show n' + 1 + 1 ≤ _
      omega
    · show 8 + (maxL' + 11) + 64 * (n' + 1) ≤ _
      omega
theorem xd_callOI (h : xd_Ok Z C A n cc own nL) {n' np ix maxL' : Nat} {y : MethodName} {cc' : ByteArray} {av : List Value} {st0 : List Value} {b ci N mx : Nat} {R : String} {T : u_T} {x : MethodName} {cx : ByteArray} {rx : Option FieldType} {p : xd_S → xd_K → Prop} {f : xd_K} {rt : FieldType} (hrt : xd_isI rt = true) (hd : decode cc pc = .ok (.invokevirtual ix, 3)) (md : xc_Md y cc' maxL' (some rt) np) (hi : Cond.instanceMethod y ∈ xc_T) (hix : Cond.instanceMethod x ∈ xc_T) (hsm : Cond.sameMethod x.cls x.cls x.name x.desc ∈ xc_T) (hse : Cond.selects R x y ∈ xc_T) (mx0 : xc_Md x cx mx rx np) (hlk : Cond.methodLink own ix x ∈ xc_T) (hR : vwCl[ci]? = some (R, T, N)) (hob : ∀ (H : Heap) (ds : List Nat), xd_dom σ.1 ds → va_P Z.1.2.1 vwCl (xd_ws Z σ ds) H → ∃ (q : Nat) (fs : List Value), (xd_ws Z σ ds)[q]? = some (b, .inr (ci, fs))) (hn : n' < n) (hav : av.length = np) (hst : st0 = av.reverse ++ .ref b :: st) (hcat : (st.map fun v => v.category).sum ≤ 8) (cf : ∀ c1 s1 : Nat, xd_Cf Z n' y cc' maxL' (some rt) (.ref b :: av) (σ.1, σ.2.1, c1, s1) (p (σ.1, σ.2.1, c1, s1))) (k : ∀ (r : Int32) (τ : xd_S), xd_T Z C A Q nL (f r none τ) (pc + 3) lv (.int r :: st) τ) : xd_T Z C A Q nL (xd_ca p σ f) pc lv st0 σ := by
  intro ht H locs ls ds cu su hdm hcu hsu hP hD hS hl
  obtain ⟨c1, s1, g1, g2, g3⟩ := ht
  have hB := xd_preB (av := (.ref b :: av)) h hP hD hS
  have hcf := cf c1 s1 _ g3 H.size ds hdm
  exact xd_goesI h (c1 := c1) (s1 := s1) hrt (K := fun r ro τ => f r ro (τ.1, τ.2.1, σ.2.2.1 - c1, σ.2.2.2 - s1)) (va_runU (C := R) ⟨h.1, h.2.1, h.2.2.1, h.2.2.2.1, h.2.2.2.2.1⟩ hcf (xd_callO0 h md hi hix hsm hse mx0 hlk hn) ⟨hB.1, by obtain ⟨q, fs, hq⟩ := hob H ds hdm hP; exact va_recv h.2.2.2.2.2.1 hP hR hq, hB.2⟩ rfl hav hl.1 hst (lv_room hcat) hd ⟨by omega, by omega⟩) hD hS (fun r τ H1 locs1 ds1 hK hdm1 hP1 hD1 hS1 => k r (τ.1, τ.2.1, σ.2.2.1 - c1, σ.2.2.2 - s1) hK H1 locs1 ls ds1 _ _ hdm1 (by show cu + c1 + (σ.2.2.1 - c1) ≤ _; omega) (by show su + s1 + (σ.2.2.2 - s1) ≤ _; omega) hP1 hD1 hS1 hl)
theorem xd_callOR (h : xd_Ok Z C A n cc own nL) {n' np ix maxL' : Nat} {y : MethodName} {cc' : ByteArray} {av : List Value} {st0 : List Value} {b ci N mx : Nat} {R : String} {T : u_T} {x : MethodName} {cx : ByteArray} {rx : Option FieldType} {p : xd_S → xd_K → Prop} {f : xd_K} {rt : FieldType} (hrt : xd_isI rt = false) (hd : decode cc pc = .ok (.invokevirtual ix, 3)) (md : xc_Md y cc' maxL' (some rt) np) (hi : Cond.instanceMethod y ∈ xc_T) (hix : Cond.instanceMethod x ∈ xc_T) (hsm : Cond.sameMethod x.cls x.cls x.name x.desc ∈ xc_T) (hse : Cond.selects R x y ∈ xc_T) (mx0 : xc_Md x cx mx rx np) (hlk : Cond.methodLink own ix x ∈ xc_T) (hR : vwCl[ci]? = some (R, T, N)) (hob : ∀ (H : Heap) (ds : List Nat), xd_dom σ.1 ds → va_P Z.1.2.1 vwCl (xd_ws Z σ ds) H → ∃ (q : Nat) (fs : List Value), (xd_ws Z σ ds)[q]? = some (b, .inr (ci, fs))) (hn : n' < n) (hav : av.length = np) (hst : st0 = av.reverse ++ .ref b :: st) (hcat : (st.map fun v => v.category).sum ≤ 8) (cf : ∀ c1 s1 : Nat, xd_Cf Z n' y cc' maxL' (some rt) (.ref b :: av) (σ.1, σ.2.1, c1, s1) (p (σ.1, σ.2.1, c1, s1))) (k : ∀ (r : Option Nat) (τ : xd_S), xd_T Z C A Q nL (f 0 r τ) (pc + 3) lv (va_rf r :: st) τ) : xd_T Z C A Q nL (xd_ca p σ f) pc lv st0 σ := by
  intro ht H locs ls ds cu su hdm hcu hsu hP hD hS hl
  obtain ⟨c1, s1, g1, g2, g3⟩ := ht
  have hB := xd_preB (av := (.ref b :: av)) h hP hD hS
  have hcf := cf c1 s1 _ g3 H.size ds hdm
  exact xd_goesR h (c1 := c1) (s1 := s1) hrt (K := fun r ro τ => f r ro (τ.1, τ.2.1, σ.2.2.1 - c1, σ.2.2.2 - s1)) (va_runU (C := R) ⟨h.1, h.2.1, h.2.2.1, h.2.2.2.1, h.2.2.2.2.1⟩ hcf (xd_callO0 h md hi hix hsm hse mx0 hlk hn) ⟨hB.1, by obtain ⟨q, fs, hq⟩ := hob H ds hdm hP; exact va_recv h.2.2.2.2.2.1 hP hR hq, hB.2⟩ rfl hav hl.1 hst (lv_room hcat) hd ⟨by omega, by omega⟩) hD hS (fun r τ H1 locs1 ds1 hK hdm1 hP1 hD1 hS1 => k r (τ.1, τ.2.1, σ.2.2.1 - c1, σ.2.2.2 - s1) hK H1 locs1 ls ds1 _ _ hdm1 (by show cu + c1 + (σ.2.2.1 - c1) ≤ _; omega) (by show su + s1 + (σ.2.2.2 - s1) ≤ _; omega) hP1 hD1 hS1 hl)
theorem xd_callOV (h : xd_Ok Z C A n cc own nL) {n' np ix maxL' : Nat} {y : MethodName} {cc' : ByteArray} {av : List Value} {st0 : List Value} {b ci N mx : Nat} {R : String} {T : u_T} {x : MethodName} {cx : ByteArray} {rx : Option FieldType} {p : xd_S → xd_K → Prop} {f : xd_K} (hd : decode cc pc = .ok (.invokevirtual ix, 3)) (md : xc_Md y cc' maxL' none np) (hi : Cond.instanceMethod y ∈ xc_T) (hix : Cond.instanceMethod x ∈ xc_T) (hsm : Cond.sameMethod x.cls x.cls x.name x.desc ∈ xc_T) (hse : Cond.selects R x y ∈ xc_T) (mx0 : xc_Md x cx mx rx np) (hlk : Cond.methodLink own ix x ∈ xc_T) (hR : vwCl[ci]? = some (R, T, N)) (hob : ∀ (H : Heap) (ds : List Nat), xd_dom σ.1 ds → va_P Z.1.2.1 vwCl (xd_ws Z σ ds) H → ∃ (q : Nat) (fs : List Value), (xd_ws Z σ ds)[q]? = some (b, .inr (ci, fs))) (hn : n' < n) (hav : av.length = np) (hst : st0 = av.reverse ++ .ref b :: st) (hcat : (st.map fun v => v.category).sum ≤ 8) (cf : ∀ c1 s1 : Nat, xd_Cf Z n' y cc' maxL' none (.ref b :: av) (σ.1, σ.2.1, c1, s1) (p (σ.1, σ.2.1, c1, s1))) (k : ∀ τ : xd_S, xd_T Z C A Q nL (f 0 none τ) (pc + 3) lv st τ) : xd_T Z C A Q nL (xd_ca p σ f) pc lv st0 σ := by
  intro ht H locs ls ds cu su hdm hcu hsu hP hD hS hl
  obtain ⟨c1, s1, g1, g2, g3⟩ := ht
  have hB := xd_preB (av := (.ref b :: av)) h hP hD hS
  have hcf := cf c1 s1 _ g3 H.size ds hdm
  exact xd_goesV h (c1 := c1) (s1 := s1) (K := fun r ro τ => f r ro (τ.1, τ.2.1, σ.2.2.1 - c1, σ.2.2.2 - s1)) (va_runU (C := R) ⟨h.1, h.2.1, h.2.2.1, h.2.2.2.1, h.2.2.2.2.1⟩ hcf (xd_callO0 h md hi hix hsm hse mx0 hlk hn) ⟨hB.1, by obtain ⟨q, fs, hq⟩ := hob H ds hdm hP; exact va_recv h.2.2.2.2.2.1 hP hR hq, hB.2⟩ rfl hav hl.1 hst (lv_room hcat) hd ⟨by omega, by omega⟩) hD hS (fun τ H1 locs1 ds1 hK hdm1 hP1 hD1 hS1 => k (τ.1, τ.2.1, σ.2.2.1 - c1, σ.2.2.2 - s1) hK H1 locs1 ls ds1 _ _ hdm1 (by show cu + c1 + (σ.2.2.1 - c1) ≤ _; omega) (by show su + s1 + (σ.2.2.2 - s1) ≤ _; omega) hP1 hD1 hS1 hl)
end
