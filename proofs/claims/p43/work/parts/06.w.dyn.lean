section
variable {Z : xd_Z} {C : xc_C} {A : Nat → Prop} {Q : State → Prop} {n nL : Nat} {cc : ByteArray} {own : String} {t t1 t2 : Prop} {pc : Nat} {lv lv' : List (Nat × Value)} {st : List Value} {σ : xd_S} {K : xd_K} {ret : Option FieldType}

theorem xd_preB (h : xd_Ok Z C A n cc own nL) {av : List Value} {H : Heap} {locs : List Loc} {ds : List Nat} (hP : va_P Z.1.2.1 vwCl (xd_ws Z σ ds) H) (hD : va_D A (xd_ws Z σ ds)) (hS : va_S A C.2.2.2.1.heap H locs) : PreS C.2.2.2.1 H (va_Pc av (fun U => U.heap.size = H.size ∧ va_P Z.1.2.1 vwCl (xd_ws Z σ ds) U.heap ∧ va_K Z.1.2.1 vwCl (xd_ty Z) U ∧ va_D (fun _ => True) (xd_ws Z σ ds) ∧ xd_Zn Z (va_A (xd_ws Z σ ds) H.size) U)) av := ⟨fun a U g mk q => by obtain ⟨q0, q1, qP, qK, qD, qZ⟩ := q; exact ⟨q0, q1, qP, va_K.moved (u := U) (U := U.calling g mk a) (Vm.Alike.refl U.vm) qK, qD, qZ.blind⟩, fun U hU hW => ⟨rfl, by rw [hU], by rw [hU]; exact hP, va_K.moved hW.alike h.2.2.2.2.2.1, hD.weaken (fun _ _ _ _ => trivial), h.2.2.2.2.2.2.2.2.to hS (fun q hq => by
  rcases hq with ⟨i, e, hq⟩ | hq
  · exact hD.2 i _ hq
  · exact h.2.2.2.2.2.2.2.1 q (Nat.le_trans hS.1 hq)) hU hW⟩⟩
theorem xd_callB {y : MethodName} {cc' : ByteArray} {maxL' n' np ix c1 s1 : Nat} {ret' : Option FieldType} (h : xd_Ok Z C A n cc own nL) (md : xc_Md y cc' maxL' ret' np) (hl : Cond.methodLink own ix y ∈ xc_T) (hn : n' < n) : CallB C.2.2.1 C.2.2.2.1 C.2.2.2.2.2.1 own ix y cc' maxL' ret' (Cond.code y cc' maxL' ret' :: xc_T) (xd_rm n' c1 s1) c1 s1 np := by
  refine callB_of np h.2.2.2.2.1 (xc_words md) rfl rfl rfl (h.2.2.2.2.1 _ md.2.1) (h.2.2.2.2.1 _ hl) md.2.2.1 ?_
  have e := h.2.2.2.2.2.2.1
  have := md.2.2.2
  constructor
  · show n' + 1 + 1 ≤ _
    omega
  · show 8 + (maxL' + 11) + 64 * (n' + 1) ≤ _
    omega
theorem xd_goesI (h : xd_Ok Z C A n cc own nL) {c1 s1 cu su : Nat} {ds : List Nat} {st0 : List Value} {ar : Array Value} {H : Heap} {locs : List Loc} {ls : Array Slot} {rt : FieldType} (hrt : xd_isI rt = true) (hr : va_Run C.1 Z.1.1 C.2.1 C.2.2.1 C.2.2.2.1 C.2.2.2.2.1 C.2.2.2.2.2.1 C.2.2.2.2.2.2.1 C.2.2.2.2.2.2.2.1 C.2.2.2.2.2.2.2.2 H locs cu su c1 s1 (F0 C.2.2.2.2.1 pc ls st0) st (xd_Q Z (va_A (xd_ws Z σ ds) H.size) (some rt) K ar) (va_A (xd_ws Z σ ds) H.size)) (hD : va_D A (xd_ws Z σ ds)) (hS : va_S A C.2.2.2.1.heap H locs)
    (k : ∀ (r : Int32) (τ : xd_S) (H1 : Heap) (locs1 : List Loc) (ds1 : List Nat), K r none τ → xd_dom τ.1 ds1 → va_P Z.1.2.1 vwCl (xd_ws Z τ ds1) H1 → va_D A (xd_ws Z τ ds1) → va_S A C.2.2.2.1.heap H1 locs1 → xd_W Z C H1 locs1 (cu + c1) (su + s1) Q (F0 C.2.2.2.2.1 (pc + 3) ls (.int r :: st))) : xd_W Z C H locs cu su Q (F0 C.2.2.2.2.1 pc ls st0) := by
  have hf : ∀ q, va_A (xd_ws Z σ ds) H.size q → A q := fun q hq => by
    rcases hq with ⟨i, e, hq⟩ | hq
    · exact hD.2 i _ hq
    · exact h.2.2.2.2.2.2.2.1 q (Nat.le_trans hS.1 hq)
  unfold xd_Q at hr
  simp only [hrt] at hr
  refine va_calli (a := ar) hr hS (fun q _ hq => hf q hq) hf (fun r u t3 H1 locs1 ht hvm hw hB hz1 hk1 hS1 => ?_)
  exact k r u.1 H1 locs1 u.2 hw hB.2.2.2 (by rw [← ht]; exact hB.1) (hB.2.2.1.weaken (fun _ q _ hq => hf q.1 hq)) hS1
theorem xd_goesR (h : xd_Ok Z C A n cc own nL) {c1 s1 cu su : Nat} {ds : List Nat} {st0 : List Value} {ar : Array Value} {H : Heap} {locs : List Loc} {ls : Array Slot} {rt : FieldType} (hrt : xd_isI rt = false) (hr : va_Run C.1 Z.1.1 C.2.1 C.2.2.1 C.2.2.2.1 C.2.2.2.2.1 C.2.2.2.2.2.1 C.2.2.2.2.2.2.1 C.2.2.2.2.2.2.2.1 C.2.2.2.2.2.2.2.2 H locs cu su c1 s1 (F0 C.2.2.2.2.1 pc ls st0) st (xd_Q Z (va_A (xd_ws Z σ ds) H.size) (some rt) K ar) (va_A (xd_ws Z σ ds) H.size)) (hD : va_D A (xd_ws Z σ ds)) (hS : va_S A C.2.2.2.1.heap H locs)
    (k : ∀ (r : Option Nat) (τ : xd_S) (H1 : Heap) (locs1 : List Loc) (ds1 : List Nat), K 0 r τ → xd_dom τ.1 ds1 → va_P Z.1.2.1 vwCl (xd_ws Z τ ds1) H1 → va_D A (xd_ws Z τ ds1) → va_S A C.2.2.2.1.heap H1 locs1 → xd_W Z C H1 locs1 (cu + c1) (su + s1) Q (F0 C.2.2.2.2.1 (pc + 3) ls (va_rf r :: st))) : xd_W Z C H locs cu su Q (F0 C.2.2.2.2.1 pc ls st0) := by
  have hf : ∀ q, va_A (xd_ws Z σ ds) H.size q → A q := fun q hq => by
    rcases hq with ⟨i, e, hq⟩ | hq
    · exact hD.2 i _ hq
    · exact h.2.2.2.2.2.2.2.1 q (Nat.le_trans hS.1 hq)
  unfold xd_Q at hr
  simp only [hrt] at hr
  refine va_callq (a := ar) hr hS (fun q _ hq => hf q hq) hf (fun r u t3 H1 locs1 ht hvm hw hB hz1 hk1 hS1 => ?_)
  exact k r u.1 H1 locs1 u.2 hw hB.2.2.2 (by rw [← ht]; exact hB.1) (hB.2.2.1.weaken (fun _ q _ hq => hf q.1 hq)) hS1
theorem xd_goesV (h : xd_Ok Z C A n cc own nL) {c1 s1 cu su : Nat} {ds : List Nat} {st0 : List Value} {ar : Array Value} {H : Heap} {locs : List Loc} {ls : Array Slot} (hr : va_Run C.1 Z.1.1 C.2.1 C.2.2.1 C.2.2.2.1 C.2.2.2.2.1 C.2.2.2.2.2.1 C.2.2.2.2.2.2.1 C.2.2.2.2.2.2.2.1 C.2.2.2.2.2.2.2.2 H locs cu su c1 s1 (F0 C.2.2.2.2.1 pc ls st0) st (xd_Q Z (va_A (xd_ws Z σ ds) H.size) none K ar) (va_A (xd_ws Z σ ds) H.size)) (hD : va_D A (xd_ws Z σ ds)) (hS : va_S A C.2.2.2.1.heap H locs)
    (k : ∀ (τ : xd_S) (H1 : Heap) (locs1 : List Loc) (ds1 : List Nat), K 0 none τ → xd_dom τ.1 ds1 → va_P Z.1.2.1 vwCl (xd_ws Z τ ds1) H1 → va_D A (xd_ws Z τ ds1) → va_S A C.2.2.2.1.heap H1 locs1 → xd_W Z C H1 locs1 (cu + c1) (su + s1) Q (F0 C.2.2.2.2.1 (pc + 3) ls st)) : xd_W Z C H locs cu su Q (F0 C.2.2.2.2.1 pc ls st0) := by
  have hf : ∀ q, va_A (xd_ws Z σ ds) H.size q → A q := fun q hq => by
    rcases hq with ⟨i, e, hq⟩ | hq
    · exact hD.2 i _ hq
    · exact h.2.2.2.2.2.2.2.1 q (Nat.le_trans hS.1 hq)
  refine va_callv (a := ar) hr hS (fun q _ hq => hf q hq) hf (fun u t3 H1 locs1 ht hvm hw hB hz1 hk1 hS1 => ?_)
  exact k  u.1 H1 locs1 u.2 hw hB.2.2.2 (by rw [← ht]; exact hB.1) (hB.2.2.1.weaken (fun _ q _ hq => hf q.1 hq)) hS1
theorem xd_selP {y y0 : MethodName} {R : String} {s : State} {args : Array Value} {P : Prop} (hy : y.cls ≠ "java/lang/invoke/MethodHandle" ∧ y.cls ≠ "java/lang/invoke/VarHandle" ∧ P)
    (hse : (Cond.selects R y0 y0).before args s = true) (hc0 : y0.cls = y.cls) (hpriv : (Cond.privateMethod y).before args s = true) (hinst : (Cond.instanceMethod y).before args s = true) :
    (Cond.selects R y y).before args s = true := by
  obtain ⟨c, r, m0, hc, -, hm0, -, k, hk, hni⟩ := Cond.selects_spec hse
  obtain ⟨mk, methM, hnamed, hmethM, -, -⟩ := Cond.instanceMethod_spec hinst
  have hfound : s.methodFound? y.cls y.name y.desc = some mk := State.methodFound?_of_named hnamed ⟨hy.1, hy.2.1⟩
  have hcls : m0.cls = mk.cls := by
    have e1 := findClass_of_methodNamed hm0
    rw [hc0] at e1
    exact Option.some.inj (e1.symm.trans (findClass_of_methodNamed hnamed))
  rw [hcls] at hk
  have hsel : selectMethod {} s.vm c mk = .method mk := selectMethod_private hmethM (Cond.privateMethod_at hpriv mk methM hnamed hmethM)
  simp only [Cond.before, Cond.holds, Cond.value, hc, hfound, hnamed, hsel]
  simp [hk, hni]
theorem xd_callN {y : MethodName} {cc' : ByteArray} {maxL' n' np ix c1 s1 : Nat} {ret' : Option FieldType} (h : xd_Ok Z C A n cc own nL) (md : xc_Md y cc' maxL' ret' np) (hl : va_Nw (.methodLinkNest own ix y RL) C.2.2.2.1) (hn : n' < n) : va_CN C.2.2.1 C.2.2.2.1 C.2.2.2.2.2.1 own ix y RL cc' maxL' ret' (Cond.code y cc' maxL' ret' :: xc_T) (xd_rm n' c1 s1) c1 s1 np := by
  refine va_cnB np h.2.2.2.2.1 (xc_words md) rfl rfl rfl hl (h.2.2.2.2.1 _ md.2.1) md.2.2.1 ?_
  have e := h.2.2.2.2.2.2.1
  have := md.2.2.2
  constructor
  · show n' + 1 + 1 ≤ _
    omega
  · show 8 + (maxL' + 11) + 64 * (n' + 1) ≤ _
    omega
theorem xd_callSU {y : MethodName} {cc' : ByteArray} {maxL' n' np ix c1 s1 : Nat} {ret' : Option FieldType} (h : xd_Ok Z C A n cc own nL) (md : xc_Md y cc' maxL' ret' np) (hni : y.name ≠ "<init>") (hi : Cond.instanceMethod y ∈ xc_T) (hsm : Cond.sameMethod y.cls y.cls y.name y.desc ∈ xc_T) (hspr : Cond.superclass own y.cls ∈ xc_T) (hl : Cond.methodLink own ix y ∈ xc_T) (hn : n' < n) : va_CS C.2.2.1 C.2.2.2.1 C.2.2.2.2.2.1 own ix y cc' maxL' ret' (Cond.code y cc' maxL' ret' :: xc_T) (xd_rm n' c1 s1) c1 s1 np := by
  refine va_cwSU np h.2.2.2.2.1 (xc_goodIn (fun w hw => ?_)) rfl rfl rfl ⟨hni, md.2.2.1.2.2⟩ ?_
  · rcases List.mem_append.mp hw with hw | hw
    · simp only [List.mem_cons, List.not_mem_nil, or_false] at hw
      rcases hw with rfl | rfl | rfl | rfl | rfl
      · exact hl
      · exact hsm
      · exact hspr
      · exact hi
      · exact md.2.1
    · rcases List.mem_cons.mp hw with rfl | hw
      · exact md.1
      · exact hw
  · have e := h.2.2.2.2.2.2.1
    have := md.2.2.2
    constructor
    · show n' + 1 + 1 ≤ _
      omega
    · show 8 + (maxL' + 11) + 64 * (n' + 1) ≤ _
      omega
theorem xd_callVI (h : xd_Ok Z C A n cc own nL) {n' np ix maxL' : Nat} {y : MethodName} {cc' : ByteArray} {av : List Value} {st0 : List Value} {b ci N : Nat} {R : String} {T : u_T} {p : xd_S → xd_K → Prop} {f : xd_K} {rt : FieldType} (hrt : xd_isI rt = true) (hd : decode cc pc = .ok (.invokevirtual ix, 3)) (md : xc_Md y cc' maxL' (some rt) np) (hi : Cond.instanceMethod y ∈ xc_T) (hse : Cond.selects R y y ∈ xc_T) (hlk : Cond.methodLink own ix y ∈ xc_T) (hR : vwCl[ci]? = some (R, T, N)) (hob : ∀ (H : Heap) (ds : List Nat), xd_dom σ.1 ds → va_P Z.1.2.1 vwCl (xd_ws Z σ ds) H → ∃ (q : Nat) (fs : List Value), (xd_ws Z σ ds)[q]? = some (b, .inr (ci, fs))) (hn : n' < n) (hav : av.length = np) (hst : st0 = av.reverse ++ .ref b :: st) (hcat : (st.map fun v => v.category).sum ≤ 8) (cf : ∀ c1 s1 : Nat, xd_Cf Z n' y cc' maxL' (some rt) (.ref b :: av) (σ.1, σ.2.1, c1, s1) (p (σ.1, σ.2.1, c1, s1))) (k : ∀ (r : Int32) (τ : xd_S), xd_T Z C A Q nL (f r none τ) (pc + 3) lv (.int r :: st) τ) : xd_T Z C A Q nL (xd_ca p σ f) pc lv st0 σ := by
  intro ht H locs ls ds cu su hdm hcu hsu hP hD hS hl
  obtain ⟨c1, s1, g1, g2, g3⟩ := ht
  have hB := xd_preB (av := (.ref b :: av)) h hP hD hS
  have hcf := cf c1 s1 _ g3 H.size ds hdm
  exact xd_goesI h (c1 := c1) (s1 := s1) hrt (K := fun r ro τ => f r ro (τ.1, τ.2.1, σ.2.2.1 - c1, σ.2.2.2 - s1)) (va_runV (C := R) ⟨h.1, h.2.1, h.2.2.1, h.2.2.2.1, h.2.2.2.2.1⟩ hcf ⟨xd_callB h md hlk hn, h.2.2.2.2.1 _ hi, h.2.2.2.2.1 _ hse⟩ ⟨hB.1, by obtain ⟨q, fs, hq⟩ := hob H ds hdm hP; exact va_recv h.2.2.2.2.2.1 hP hR hq, hB.2⟩ rfl hav hl.1 hst (lv_room hcat) hd ⟨by omega, by omega⟩) hD hS (fun r τ H1 locs1 ds1 hK hdm1 hP1 hD1 hS1 => k r (τ.1, τ.2.1, σ.2.2.1 - c1, σ.2.2.2 - s1) hK H1 locs1 ls ds1 _ _ hdm1 (by show cu + c1 + (σ.2.2.1 - c1) ≤ _; omega) (by show su + s1 + (σ.2.2.2 - s1) ≤ _; omega) hP1 hD1 hS1 hl)
theorem xd_callVR (h : xd_Ok Z C A n cc own nL) {n' np ix maxL' : Nat} {y : MethodName} {cc' : ByteArray} {av : List Value} {st0 : List Value} {b ci N : Nat} {R : String} {T : u_T} {p : xd_S → xd_K → Prop} {f : xd_K} {rt : FieldType} (hrt : xd_isI rt = false) (hd : decode cc pc = .ok (.invokevirtual ix, 3)) (md : xc_Md y cc' maxL' (some rt) np) (hi : Cond.instanceMethod y ∈ xc_T) (hse : Cond.selects R y y ∈ xc_T) (hlk : Cond.methodLink own ix y ∈ xc_T) (hR : vwCl[ci]? = some (R, T, N)) (hob : ∀ (H : Heap) (ds : List Nat), xd_dom σ.1 ds → va_P Z.1.2.1 vwCl (xd_ws Z σ ds) H → ∃ (q : Nat) (fs : List Value), (xd_ws Z σ ds)[q]? = some (b, .inr (ci, fs))) (hn : n' < n) (hav : av.length = np) (hst : st0 = av.reverse ++ .ref b :: st) (hcat : (st.map fun v => v.category).sum ≤ 8) (cf : ∀ c1 s1 : Nat, xd_Cf Z n' y cc' maxL' (some rt) (.ref b :: av) (σ.1, σ.2.1, c1, s1) (p (σ.1, σ.2.1, c1, s1))) (k : ∀ (r : Option Nat) (τ : xd_S), xd_T Z C A Q nL (f 0 r τ) (pc + 3) lv (va_rf r :: st) τ) : xd_T Z C A Q nL (xd_ca p σ f) pc lv st0 σ := by
  intro ht H locs ls ds cu su hdm hcu hsu hP hD hS hl
  obtain ⟨c1, s1, g1, g2, g3⟩ := ht
  have hB := xd_preB (av := (.ref b :: av)) h hP hD hS
  have hcf := cf c1 s1 _ g3 H.size ds hdm
  exact xd_goesR h (c1 := c1) (s1 := s1) hrt (K := fun r ro τ => f r ro (τ.1, τ.2.1, σ.2.2.1 - c1, σ.2.2.2 - s1)) (va_runV (C := R) ⟨h.1, h.2.1, h.2.2.1, h.2.2.2.1, h.2.2.2.2.1⟩ hcf ⟨xd_callB h md hlk hn, h.2.2.2.2.1 _ hi, h.2.2.2.2.1 _ hse⟩ ⟨hB.1, by obtain ⟨q, fs, hq⟩ := hob H ds hdm hP; exact va_recv h.2.2.2.2.2.1 hP hR hq, hB.2⟩ rfl hav hl.1 hst (lv_room hcat) hd ⟨by omega, by omega⟩) hD hS (fun r τ H1 locs1 ds1 hK hdm1 hP1 hD1 hS1 => k r (τ.1, τ.2.1, σ.2.2.1 - c1, σ.2.2.2 - s1) hK H1 locs1 ls ds1 _ _ hdm1 (by show cu + c1 + (σ.2.2.1 - c1) ≤ _; omega) (by show su + s1 + (σ.2.2.2 - s1) ≤ _; omega) hP1 hD1 hS1 hl)
theorem xd_callVV (h : xd_Ok Z C A n cc own nL) {n' np ix maxL' : Nat} {y : MethodName} {cc' : ByteArray} {av : List Value} {st0 : List Value} {b ci N : Nat} {R : String} {T : u_T} {p : xd_S → xd_K → Prop} {f : xd_K} (hd : decode cc pc = .ok (.invokevirtual ix, 3)) (md : xc_Md y cc' maxL' none np) (hi : Cond.instanceMethod y ∈ xc_T) (hse : Cond.selects R y y ∈ xc_T) (hlk : Cond.methodLink own ix y ∈ xc_T) (hR : vwCl[ci]? = some (R, T, N)) (hob : ∀ (H : Heap) (ds : List Nat), xd_dom σ.1 ds → va_P Z.1.2.1 vwCl (xd_ws Z σ ds) H → ∃ (q : Nat) (fs : List Value), (xd_ws Z σ ds)[q]? = some (b, .inr (ci, fs))) (hn : n' < n) (hav : av.length = np) (hst : st0 = av.reverse ++ .ref b :: st) (hcat : (st.map fun v => v.category).sum ≤ 8) (cf : ∀ c1 s1 : Nat, xd_Cf Z n' y cc' maxL' none (.ref b :: av) (σ.1, σ.2.1, c1, s1) (p (σ.1, σ.2.1, c1, s1))) (k : ∀ τ : xd_S, xd_T Z C A Q nL (f 0 none τ) (pc + 3) lv st τ) : xd_T Z C A Q nL (xd_ca p σ f) pc lv st0 σ := by
  intro ht H locs ls ds cu su hdm hcu hsu hP hD hS hl
  obtain ⟨c1, s1, g1, g2, g3⟩ := ht
  have hB := xd_preB (av := (.ref b :: av)) h hP hD hS
  have hcf := cf c1 s1 _ g3 H.size ds hdm
  exact xd_goesV h (c1 := c1) (s1 := s1) (K := fun r ro τ => f r ro (τ.1, τ.2.1, σ.2.2.1 - c1, σ.2.2.2 - s1)) (va_runV (C := R) ⟨h.1, h.2.1, h.2.2.1, h.2.2.2.1, h.2.2.2.2.1⟩ hcf ⟨xd_callB h md hlk hn, h.2.2.2.2.1 _ hi, h.2.2.2.2.1 _ hse⟩ ⟨hB.1, by obtain ⟨q, fs, hq⟩ := hob H ds hdm hP; exact va_recv h.2.2.2.2.2.1 hP hR hq, hB.2⟩ rfl hav hl.1 hst (lv_room hcat) hd ⟨by omega, by omega⟩) hD hS (fun τ H1 locs1 ds1 hK hdm1 hP1 hD1 hS1 => k (τ.1, τ.2.1, σ.2.2.1 - c1, σ.2.2.2 - s1) hK H1 locs1 ls ds1 _ _ hdm1 (by show cu + c1 + (σ.2.2.1 - c1) ≤ _; omega) (by show su + s1 + (σ.2.2.2 - s1) ≤ _; omega) hP1 hD1 hS1 hl)
theorem xd_callPI (h : xd_Ok Z C A n cc own nL) {n' np ix maxL' : Nat} {y : MethodName} {cc' : ByteArray} {av : List Value} {st0 : List Value} {b ci N : Nat} {R : String} {T : u_T} {p : xd_S → xd_K → Prop} {f : xd_K} {rt : FieldType} (hrt : xd_isI rt = true) (hd : decode cc pc = .ok (.invokevirtual ix, 3)) (md : xc_Md y cc' maxL' (some rt) np) (hi : Cond.instanceMethod y ∈ xc_T) (hps : va_Nw (.selects R y y) C.2.2.2.1) (hlk : Cond.methodLink own ix y ∈ xc_T) (hR : vwCl[ci]? = some (R, T, N)) (hob : ∀ (H : Heap) (ds : List Nat), xd_dom σ.1 ds → va_P Z.1.2.1 vwCl (xd_ws Z σ ds) H → ∃ (q : Nat) (fs : List Value), (xd_ws Z σ ds)[q]? = some (b, .inr (ci, fs))) (hn : n' < n) (hav : av.length = np) (hst : st0 = av.reverse ++ .ref b :: st) (hcat : (st.map fun v => v.category).sum ≤ 8) (cf : ∀ c1 s1 : Nat, xd_Cf Z n' y cc' maxL' (some rt) (.ref b :: av) (σ.1, σ.2.1, c1, s1) (p (σ.1, σ.2.1, c1, s1))) (k : ∀ (r : Int32) (τ : xd_S), xd_T Z C A Q nL (f r none τ) (pc + 3) lv (.int r :: st) τ) : xd_T Z C A Q nL (xd_ca p σ f) pc lv st0 σ := by
  intro ht H locs ls ds cu su hdm hcu hsu hP hD hS hl
  obtain ⟨c1, s1, g1, g2, g3⟩ := ht
  have hB := xd_preB (av := (.ref b :: av)) h hP hD hS
  have hcf := cf c1 s1 _ g3 H.size ds hdm
  exact xd_goesI h (c1 := c1) (s1 := s1) hrt (K := fun r ro τ => f r ro (τ.1, τ.2.1, σ.2.2.1 - c1, σ.2.2.2 - s1)) (va_runV (C := R) ⟨h.1, h.2.1, h.2.2.1, h.2.2.2.1, h.2.2.2.2.1⟩ hcf ⟨xd_callB h md hlk hn, h.2.2.2.2.1 _ hi, va_Nw.use rfl hps⟩ ⟨hB.1, by obtain ⟨q, fs, hq⟩ := hob H ds hdm hP; exact va_recv h.2.2.2.2.2.1 hP hR hq, hB.2⟩ rfl hav hl.1 hst (lv_room hcat) hd ⟨by omega, by omega⟩) hD hS (fun r τ H1 locs1 ds1 hK hdm1 hP1 hD1 hS1 => k r (τ.1, τ.2.1, σ.2.2.1 - c1, σ.2.2.2 - s1) hK H1 locs1 ls ds1 _ _ hdm1 (by show cu + c1 + (σ.2.2.1 - c1) ≤ _; omega) (by show su + s1 + (σ.2.2.2 - s1) ≤ _; omega) hP1 hD1 hS1 hl)
theorem xd_callPR (h : xd_Ok Z C A n cc own nL) {n' np ix maxL' : Nat} {y : MethodName} {cc' : ByteArray} {av : List Value} {st0 : List Value} {b ci N : Nat} {R : String} {T : u_T} {p : xd_S → xd_K → Prop} {f : xd_K} {rt : FieldType} (hrt : xd_isI rt = false) (hd : decode cc pc = .ok (.invokevirtual ix, 3)) (md : xc_Md y cc' maxL' (some rt) np) (hi : Cond.instanceMethod y ∈ xc_T) (hps : va_Nw (.selects R y y) C.2.2.2.1) (hlk : Cond.methodLink own ix y ∈ xc_T) (hR : vwCl[ci]? = some (R, T, N)) (hob : ∀ (H : Heap) (ds : List Nat), xd_dom σ.1 ds → va_P Z.1.2.1 vwCl (xd_ws Z σ ds) H → ∃ (q : Nat) (fs : List Value), (xd_ws Z σ ds)[q]? = some (b, .inr (ci, fs))) (hn : n' < n) (hav : av.length = np) (hst : st0 = av.reverse ++ .ref b :: st) (hcat : (st.map fun v => v.category).sum ≤ 8) (cf : ∀ c1 s1 : Nat, xd_Cf Z n' y cc' maxL' (some rt) (.ref b :: av) (σ.1, σ.2.1, c1, s1) (p (σ.1, σ.2.1, c1, s1))) (k : ∀ (r : Option Nat) (τ : xd_S), xd_T Z C A Q nL (f 0 r τ) (pc + 3) lv (va_rf r :: st) τ) : xd_T Z C A Q nL (xd_ca p σ f) pc lv st0 σ := by
  intro ht H locs ls ds cu su hdm hcu hsu hP hD hS hl
  obtain ⟨c1, s1, g1, g2, g3⟩ := ht
  have hB := xd_preB (av := (.ref b :: av)) h hP hD hS
  have hcf := cf c1 s1 _ g3 H.size ds hdm
  exact xd_goesR h (c1 := c1) (s1 := s1) hrt (K := fun r ro τ => f r ro (τ.1, τ.2.1, σ.2.2.1 - c1, σ.2.2.2 - s1)) (va_runV (C := R) ⟨h.1, h.2.1, h.2.2.1, h.2.2.2.1, h.2.2.2.2.1⟩ hcf ⟨xd_callB h md hlk hn, h.2.2.2.2.1 _ hi, va_Nw.use rfl hps⟩ ⟨hB.1, by obtain ⟨q, fs, hq⟩ := hob H ds hdm hP; exact va_recv h.2.2.2.2.2.1 hP hR hq, hB.2⟩ rfl hav hl.1 hst (lv_room hcat) hd ⟨by omega, by omega⟩) hD hS (fun r τ H1 locs1 ds1 hK hdm1 hP1 hD1 hS1 => k r (τ.1, τ.2.1, σ.2.2.1 - c1, σ.2.2.2 - s1) hK H1 locs1 ls ds1 _ _ hdm1 (by show cu + c1 + (σ.2.2.1 - c1) ≤ _; omega) (by show su + s1 + (σ.2.2.2 - s1) ≤ _; omega) hP1 hD1 hS1 hl)
theorem xd_callPV (h : xd_Ok Z C A n cc own nL) {n' np ix maxL' : Nat} {y : MethodName} {cc' : ByteArray} {av : List Value} {st0 : List Value} {b ci N : Nat} {R : String} {T : u_T} {p : xd_S → xd_K → Prop} {f : xd_K} (hd : decode cc pc = .ok (.invokevirtual ix, 3)) (md : xc_Md y cc' maxL' none np) (hi : Cond.instanceMethod y ∈ xc_T) (hps : va_Nw (.selects R y y) C.2.2.2.1) (hlk : Cond.methodLink own ix y ∈ xc_T) (hR : vwCl[ci]? = some (R, T, N)) (hob : ∀ (H : Heap) (ds : List Nat), xd_dom σ.1 ds → va_P Z.1.2.1 vwCl (xd_ws Z σ ds) H → ∃ (q : Nat) (fs : List Value), (xd_ws Z σ ds)[q]? = some (b, .inr (ci, fs))) (hn : n' < n) (hav : av.length = np) (hst : st0 = av.reverse ++ .ref b :: st) (hcat : (st.map fun v => v.category).sum ≤ 8) (cf : ∀ c1 s1 : Nat, xd_Cf Z n' y cc' maxL' none (.ref b :: av) (σ.1, σ.2.1, c1, s1) (p (σ.1, σ.2.1, c1, s1))) (k : ∀ τ : xd_S, xd_T Z C A Q nL (f 0 none τ) (pc + 3) lv st τ) : xd_T Z C A Q nL (xd_ca p σ f) pc lv st0 σ := by
  intro ht H locs ls ds cu su hdm hcu hsu hP hD hS hl
  obtain ⟨c1, s1, g1, g2, g3⟩ := ht
  have hB := xd_preB (av := (.ref b :: av)) h hP hD hS
  have hcf := cf c1 s1 _ g3 H.size ds hdm
  exact xd_goesV h (c1 := c1) (s1 := s1) (K := fun r ro τ => f r ro (τ.1, τ.2.1, σ.2.2.1 - c1, σ.2.2.2 - s1)) (va_runV (C := R) ⟨h.1, h.2.1, h.2.2.1, h.2.2.2.1, h.2.2.2.2.1⟩ hcf ⟨xd_callB h md hlk hn, h.2.2.2.2.1 _ hi, va_Nw.use rfl hps⟩ ⟨hB.1, by obtain ⟨q, fs, hq⟩ := hob H ds hdm hP; exact va_recv h.2.2.2.2.2.1 hP hR hq, hB.2⟩ rfl hav hl.1 hst (lv_room hcat) hd ⟨by omega, by omega⟩) hD hS (fun τ H1 locs1 ds1 hK hdm1 hP1 hD1 hS1 => k (τ.1, τ.2.1, σ.2.2.1 - c1, σ.2.2.2 - s1) hK H1 locs1 ls ds1 _ _ hdm1 (by show cu + c1 + (σ.2.2.1 - c1) ≤ _; omega) (by show su + s1 + (σ.2.2.2 - s1) ≤ _; omega) hP1 hD1 hS1 hl)
theorem xd_callSI (h : xd_Ok Z C A n cc own nL) {n' np ix maxL' : Nat} {y : MethodName} {cc' : ByteArray} {av : List Value} {st0 : List Value} {p : xd_S → xd_K → Prop} {f : xd_K} {rt : FieldType} (hrt : xd_isI rt = true) (hd : decode cc pc = .ok (.invokestatic ix, 3)) (md : xc_Md y cc' maxL' (some rt) np) (hi : Cond.static y ∈ xc_T) (hlk : Cond.methodLink own ix y ∈ xc_T) (hn : n' < n) (hav : av.length = np) (hst : st0 = av.reverse ++ st) (hcat : (st.map fun v => v.category).sum ≤ 8) (cf : ∀ c1 s1 : Nat, xd_Cf Z n' y cc' maxL' (some rt) av (σ.1, σ.2.1, c1, s1) (p (σ.1, σ.2.1, c1, s1))) (k : ∀ (r : Int32) (τ : xd_S), xd_T Z C A Q nL (f r none τ) (pc + 3) lv (.int r :: st) τ) : xd_T Z C A Q nL (xd_ca p σ f) pc lv st0 σ := by
  intro ht H locs ls ds cu su hdm hcu hsu hP hD hS hl
  obtain ⟨c1, s1, g1, g2, g3⟩ := ht
  have hB := xd_preB (av := av) h hP hD hS
  have hcf := cf c1 s1 _ g3 H.size ds hdm
  exact xd_goesI h (c1 := c1) (s1 := s1) hrt (K := fun r ro τ => f r ro (τ.1, τ.2.1, σ.2.2.1 - c1, σ.2.2.2 - s1)) (va_runS ⟨h.1, h.2.1, h.2.2.1, h.2.2.2.1, h.2.2.2.2.1⟩ hcf ⟨xd_callB h md hlk hn, h.2.2.2.2.1 _ hi⟩ hB rfl hav hl.1 hst (lv_room hcat) hd ⟨by omega, by omega⟩) hD hS (fun r τ H1 locs1 ds1 hK hdm1 hP1 hD1 hS1 => k r (τ.1, τ.2.1, σ.2.2.1 - c1, σ.2.2.2 - s1) hK H1 locs1 ls ds1 _ _ hdm1 (by show cu + c1 + (σ.2.2.1 - c1) ≤ _; omega) (by show su + s1 + (σ.2.2.2 - s1) ≤ _; omega) hP1 hD1 hS1 hl)
theorem xd_callSR (h : xd_Ok Z C A n cc own nL) {n' np ix maxL' : Nat} {y : MethodName} {cc' : ByteArray} {av : List Value} {st0 : List Value} {p : xd_S → xd_K → Prop} {f : xd_K} {rt : FieldType} (hrt : xd_isI rt = false) (hd : decode cc pc = .ok (.invokestatic ix, 3)) (md : xc_Md y cc' maxL' (some rt) np) (hi : Cond.static y ∈ xc_T) (hlk : Cond.methodLink own ix y ∈ xc_T) (hn : n' < n) (hav : av.length = np) (hst : st0 = av.reverse ++ st) (hcat : (st.map fun v => v.category).sum ≤ 8) (cf : ∀ c1 s1 : Nat, xd_Cf Z n' y cc' maxL' (some rt) av (σ.1, σ.2.1, c1, s1) (p (σ.1, σ.2.1, c1, s1))) (k : ∀ (r : Option Nat) (τ : xd_S), xd_T Z C A Q nL (f 0 r τ) (pc + 3) lv (va_rf r :: st) τ) : xd_T Z C A Q nL (xd_ca p σ f) pc lv st0 σ := by
  intro ht H locs ls ds cu su hdm hcu hsu hP hD hS hl
  obtain ⟨c1, s1, g1, g2, g3⟩ := ht
  have hB := xd_preB (av := av) h hP hD hS
  have hcf := cf c1 s1 _ g3 H.size ds hdm
  exact xd_goesR h (c1 := c1) (s1 := s1) hrt (K := fun r ro τ => f r ro (τ.1, τ.2.1, σ.2.2.1 - c1, σ.2.2.2 - s1)) (va_runS ⟨h.1, h.2.1, h.2.2.1, h.2.2.2.1, h.2.2.2.2.1⟩ hcf ⟨xd_callB h md hlk hn, h.2.2.2.2.1 _ hi⟩ hB rfl hav hl.1 hst (lv_room hcat) hd ⟨by omega, by omega⟩) hD hS (fun r τ H1 locs1 ds1 hK hdm1 hP1 hD1 hS1 => k r (τ.1, τ.2.1, σ.2.2.1 - c1, σ.2.2.2 - s1) hK H1 locs1 ls ds1 _ _ hdm1 (by show cu + c1 + (σ.2.2.1 - c1) ≤ _; omega) (by show su + s1 + (σ.2.2.2 - s1) ≤ _; omega) hP1 hD1 hS1 hl)
theorem xd_callSV (h : xd_Ok Z C A n cc own nL) {n' np ix maxL' : Nat} {y : MethodName} {cc' : ByteArray} {av : List Value} {st0 : List Value} {p : xd_S → xd_K → Prop} {f : xd_K} (hd : decode cc pc = .ok (.invokestatic ix, 3)) (md : xc_Md y cc' maxL' none np) (hi : Cond.static y ∈ xc_T) (hlk : Cond.methodLink own ix y ∈ xc_T) (hn : n' < n) (hav : av.length = np) (hst : st0 = av.reverse ++ st) (hcat : (st.map fun v => v.category).sum ≤ 8) (cf : ∀ c1 s1 : Nat, xd_Cf Z n' y cc' maxL' none av (σ.1, σ.2.1, c1, s1) (p (σ.1, σ.2.1, c1, s1))) (k : ∀ τ : xd_S, xd_T Z C A Q nL (f 0 none τ) (pc + 3) lv st τ) : xd_T Z C A Q nL (xd_ca p σ f) pc lv st0 σ := by
  intro ht H locs ls ds cu su hdm hcu hsu hP hD hS hl
  obtain ⟨c1, s1, g1, g2, g3⟩ := ht
  have hB := xd_preB (av := av) h hP hD hS
  have hcf := cf c1 s1 _ g3 H.size ds hdm
  exact xd_goesV h (c1 := c1) (s1 := s1) (K := fun r ro τ => f r ro (τ.1, τ.2.1, σ.2.2.1 - c1, σ.2.2.2 - s1)) (va_runS ⟨h.1, h.2.1, h.2.2.1, h.2.2.2.1, h.2.2.2.2.1⟩ hcf ⟨xd_callB h md hlk hn, h.2.2.2.2.1 _ hi⟩ hB rfl hav hl.1 hst (lv_room hcat) hd ⟨by omega, by omega⟩) hD hS (fun τ H1 locs1 ds1 hK hdm1 hP1 hD1 hS1 => k (τ.1, τ.2.1, σ.2.2.1 - c1, σ.2.2.2 - s1) hK H1 locs1 ls ds1 _ _ hdm1 (by show cu + c1 + (σ.2.2.1 - c1) ≤ _; omega) (by show su + s1 + (σ.2.2.2 - s1) ≤ _; omega) hP1 hD1 hS1 hl)
theorem xd_callNI (h : xd_Ok Z C A n cc own nL) {n' np ix maxL' : Nat} {y : MethodName} {cc' : ByteArray} {av : List Value} {st0 : List Value} {p : xd_S → xd_K → Prop} {f : xd_K} {rt : FieldType} (hrt : xd_isI rt = true) (hd : decode cc pc = .ok (.invokestatic ix, 3)) (md : xc_Md y cc' maxL' (some rt) np) (hi : Cond.static y ∈ xc_T) (hlk : va_Nw (.methodLinkNest own ix y RL) C.2.2.2.1) (hn : n' < n) (hav : av.length = np) (hst : st0 = av.reverse ++ st) (hcat : (st.map fun v => v.category).sum ≤ 8) (cf : ∀ c1 s1 : Nat, xd_Cf Z n' y cc' maxL' (some rt) av (σ.1, σ.2.1, c1, s1) (p (σ.1, σ.2.1, c1, s1))) (k : ∀ (r : Int32) (τ : xd_S), xd_T Z C A Q nL (f r none τ) (pc + 3) lv (.int r :: st) τ) : xd_T Z C A Q nL (xd_ca p σ f) pc lv st0 σ := by
  intro ht H locs ls ds cu su hdm hcu hsu hP hD hS hl
  obtain ⟨c1, s1, g1, g2, g3⟩ := ht
  have hB := xd_preB (av := av) h hP hD hS
  have hcf := cf c1 s1 _ g3 H.size ds hdm
  exact xd_goesI h (c1 := c1) (s1 := s1) hrt (K := fun r ro τ => f r ro (τ.1, τ.2.1, σ.2.2.1 - c1, σ.2.2.2 - s1)) (va_runSN (host := RL) ⟨h.1, h.2.1, h.2.2.1, h.2.2.2.1, h.2.2.2.2.1⟩ hcf ⟨xd_callN h md hlk hn, h.2.2.2.2.1 _ hi, trivial⟩ hB rfl hav hl.1 hst (lv_room hcat) hd ⟨by omega, by omega⟩) hD hS (fun r τ H1 locs1 ds1 hK hdm1 hP1 hD1 hS1 => k r (τ.1, τ.2.1, σ.2.2.1 - c1, σ.2.2.2 - s1) hK H1 locs1 ls ds1 _ _ hdm1 (by show cu + c1 + (σ.2.2.1 - c1) ≤ _; omega) (by show su + s1 + (σ.2.2.2 - s1) ≤ _; omega) hP1 hD1 hS1 hl)
theorem xd_callNR (h : xd_Ok Z C A n cc own nL) {n' np ix maxL' : Nat} {y : MethodName} {cc' : ByteArray} {av : List Value} {st0 : List Value} {p : xd_S → xd_K → Prop} {f : xd_K} {rt : FieldType} (hrt : xd_isI rt = false) (hd : decode cc pc = .ok (.invokestatic ix, 3)) (md : xc_Md y cc' maxL' (some rt) np) (hi : Cond.static y ∈ xc_T) (hlk : va_Nw (.methodLinkNest own ix y RL) C.2.2.2.1) (hn : n' < n) (hav : av.length = np) (hst : st0 = av.reverse ++ st) (hcat : (st.map fun v => v.category).sum ≤ 8) (cf : ∀ c1 s1 : Nat, xd_Cf Z n' y cc' maxL' (some rt) av (σ.1, σ.2.1, c1, s1) (p (σ.1, σ.2.1, c1, s1))) (k : ∀ (r : Option Nat) (τ : xd_S), xd_T Z C A Q nL (f 0 r τ) (pc + 3) lv (va_rf r :: st) τ) : xd_T Z C A Q nL (xd_ca p σ f) pc lv st0 σ := by
  intro ht H locs ls ds cu su hdm hcu hsu hP hD hS hl
  obtain ⟨c1, s1, g1, g2, g3⟩ := ht
  have hB := xd_preB (av := av) h hP hD hS
  have hcf := cf c1 s1 _ g3 H.size ds hdm
  exact xd_goesR h (c1 := c1) (s1 := s1) hrt (K := fun r ro τ => f r ro (τ.1, τ.2.1, σ.2.2.1 - c1, σ.2.2.2 - s1)) (va_runSN (host := RL) ⟨h.1, h.2.1, h.2.2.1, h.2.2.2.1, h.2.2.2.2.1⟩ hcf ⟨xd_callN h md hlk hn, h.2.2.2.2.1 _ hi, trivial⟩ hB rfl hav hl.1 hst (lv_room hcat) hd ⟨by omega, by omega⟩) hD hS (fun r τ H1 locs1 ds1 hK hdm1 hP1 hD1 hS1 => k r (τ.1, τ.2.1, σ.2.2.1 - c1, σ.2.2.2 - s1) hK H1 locs1 ls ds1 _ _ hdm1 (by show cu + c1 + (σ.2.2.1 - c1) ≤ _; omega) (by show su + s1 + (σ.2.2.2 - s1) ≤ _; omega) hP1 hD1 hS1 hl)
theorem xd_callNV (h : xd_Ok Z C A n cc own nL) {n' np ix maxL' : Nat} {y : MethodName} {cc' : ByteArray} {av : List Value} {st0 : List Value} {p : xd_S → xd_K → Prop} {f : xd_K} (hd : decode cc pc = .ok (.invokestatic ix, 3)) (md : xc_Md y cc' maxL' none np) (hi : Cond.static y ∈ xc_T) (hlk : va_Nw (.methodLinkNest own ix y RL) C.2.2.2.1) (hn : n' < n) (hav : av.length = np) (hst : st0 = av.reverse ++ st) (hcat : (st.map fun v => v.category).sum ≤ 8) (cf : ∀ c1 s1 : Nat, xd_Cf Z n' y cc' maxL' none av (σ.1, σ.2.1, c1, s1) (p (σ.1, σ.2.1, c1, s1))) (k : ∀ τ : xd_S, xd_T Z C A Q nL (f 0 none τ) (pc + 3) lv st τ) : xd_T Z C A Q nL (xd_ca p σ f) pc lv st0 σ := by
  intro ht H locs ls ds cu su hdm hcu hsu hP hD hS hl
  obtain ⟨c1, s1, g1, g2, g3⟩ := ht
  have hB := xd_preB (av := av) h hP hD hS
  have hcf := cf c1 s1 _ g3 H.size ds hdm
  exact xd_goesV h (c1 := c1) (s1 := s1) (K := fun r ro τ => f r ro (τ.1, τ.2.1, σ.2.2.1 - c1, σ.2.2.2 - s1)) (va_runSN (host := RL) ⟨h.1, h.2.1, h.2.2.1, h.2.2.2.1, h.2.2.2.2.1⟩ hcf ⟨xd_callN h md hlk hn, h.2.2.2.2.1 _ hi, trivial⟩ hB rfl hav hl.1 hst (lv_room hcat) hd ⟨by omega, by omega⟩) hD hS (fun τ H1 locs1 ds1 hK hdm1 hP1 hD1 hS1 => k (τ.1, τ.2.1, σ.2.2.1 - c1, σ.2.2.2 - s1) hK H1 locs1 ls ds1 _ _ hdm1 (by show cu + c1 + (σ.2.2.1 - c1) ≤ _; omega) (by show su + s1 + (σ.2.2.2 - s1) ≤ _; omega) hP1 hD1 hS1 hl)
theorem xd_callIniV (h : xd_Ok Z C A n cc own nL) {n' np ix maxL' : Nat} {y : MethodName} {cc' : ByteArray} {av : List Value} {st0 : List Value} {b : Nat} {p : xd_S → xd_K → Prop} {f : xd_K} (hd : decode cc pc = .ok (.invokespecial ix, 3)) (md : xc_Md y cc' maxL' none np) (hini : y.name = "<init>") (hi : Cond.instanceMethod y ∈ xc_T) (hlk : Cond.methodLink own ix y ∈ xc_T) (hn : n' < n) (hav : av.length = np) (hst : st0 = av.reverse ++ .ref b :: st) (hcat : (st.map fun v => v.category).sum ≤ 8) (cf : ∀ c1 s1 : Nat, xd_Cf Z n' y cc' maxL' none (.ref b :: av) (σ.1, σ.2.1, c1, s1) (p (σ.1, σ.2.1, c1, s1))) (k : ∀ τ : xd_S, xd_T Z C A Q nL (f 0 none τ) (pc + 3) lv st τ) : xd_T Z C A Q nL (xd_ca p σ f) pc lv st0 σ := by
  intro ht H locs ls ds cu su hdm hcu hsu hP hD hS hl
  obtain ⟨c1, s1, g1, g2, g3⟩ := ht
  have hB := xd_preB (av := (.ref b :: av)) h hP hD hS
  have hcf := cf c1 s1 _ g3 H.size ds hdm
  exact xd_goesV h (c1 := c1) (s1 := s1) (K := fun r ro τ => f r ro (τ.1, τ.2.1, σ.2.2.1 - c1, σ.2.2.2 - s1)) (va_runI ⟨h.1, h.2.1, h.2.2.1, h.2.2.2.1, h.2.2.2.2.1⟩ hcf ⟨xd_callB h md hlk hn, hini, h.2.2.2.2.1 _ hi⟩ hB rfl hav hl.1 hst (lv_room hcat) hd ⟨by omega, by omega⟩) hD hS (fun τ H1 locs1 ds1 hK hdm1 hP1 hD1 hS1 => k (τ.1, τ.2.1, σ.2.2.1 - c1, σ.2.2.2 - s1) hK H1 locs1 ls ds1 _ _ hdm1 (by show cu + c1 + (σ.2.2.1 - c1) ≤ _; omega) (by show su + s1 + (σ.2.2.2 - s1) ≤ _; omega) hP1 hD1 hS1 hl)
theorem xd_callSupI (h : xd_Ok Z C A n cc own nL) {n' np ix maxL' : Nat} {y : MethodName} {cc' : ByteArray} {av : List Value} {st0 : List Value} {b ci N : Nat} {R : String} {T : u_T} {p : xd_S → xd_K → Prop} {f : xd_K} {rt : FieldType} (hrt : xd_isI rt = true) (hd : decode cc pc = .ok (.invokespecial ix, 3)) (md : xc_Md y cc' maxL' (some rt) np) (hni : y.name ≠ "<init>") (hi : Cond.instanceMethod y ∈ xc_T) (hsm : Cond.sameMethod y.cls y.cls y.name y.desc ∈ xc_T) (hspr : Cond.superclass own y.cls ∈ xc_T) (hlk : Cond.methodLink own ix y ∈ xc_T) (hR : vwCl[ci]? = some (R, T, N)) (hob : ∀ (H : Heap) (ds : List Nat), xd_dom σ.1 ds → va_P Z.1.2.1 vwCl (xd_ws Z σ ds) H → ∃ (q : Nat) (fs : List Value), (xd_ws Z σ ds)[q]? = some (b, .inr (ci, fs))) (hn : n' < n) (hav : av.length = np) (hst : st0 = av.reverse ++ .ref b :: st) (hcat : (st.map fun v => v.category).sum ≤ 8) (cf : ∀ c1 s1 : Nat, xd_Cf Z n' y cc' maxL' (some rt) (.ref b :: av) (σ.1, σ.2.1, c1, s1) (p (σ.1, σ.2.1, c1, s1))) (k : ∀ (r : Int32) (τ : xd_S), xd_T Z C A Q nL (f r none τ) (pc + 3) lv (.int r :: st) τ) : xd_T Z C A Q nL (xd_ca p σ f) pc lv st0 σ := by
  intro ht H locs ls ds cu su hdm hcu hsu hP hD hS hl
  obtain ⟨c1, s1, g1, g2, g3⟩ := ht
  have hB := xd_preB (av := (.ref b :: av)) h hP hD hS
  have hcf := cf c1 s1 _ g3 H.size ds hdm
  exact xd_goesI h (c1 := c1) (s1 := s1) hrt (K := fun r ro τ => f r ro (τ.1, τ.2.1, σ.2.2.1 - c1, σ.2.2.2 - s1)) (va_runSU (C := R) (h.2.2.2.2.2.1.1 ci _ hR).2 ⟨h.1, h.2.1, h.2.2.1, h.2.2.2.1, h.2.2.2.2.1⟩ hcf (xd_callSU h md hni hi hsm hspr hlk hn) ⟨hB.1, by obtain ⟨q, fs, hq⟩ := hob H ds hdm hP; exact va_recv h.2.2.2.2.2.1 hP hR hq, hB.2⟩ rfl hav hl.1 hst (lv_room hcat) hd ⟨by omega, by omega⟩) hD hS (fun r τ H1 locs1 ds1 hK hdm1 hP1 hD1 hS1 => k r (τ.1, τ.2.1, σ.2.2.1 - c1, σ.2.2.2 - s1) hK H1 locs1 ls ds1 _ _ hdm1 (by show cu + c1 + (σ.2.2.1 - c1) ≤ _; omega) (by show su + s1 + (σ.2.2.2 - s1) ≤ _; omega) hP1 hD1 hS1 hl)
theorem xd_callSupR (h : xd_Ok Z C A n cc own nL) {n' np ix maxL' : Nat} {y : MethodName} {cc' : ByteArray} {av : List Value} {st0 : List Value} {b ci N : Nat} {R : String} {T : u_T} {p : xd_S → xd_K → Prop} {f : xd_K} {rt : FieldType} (hrt : xd_isI rt = false) (hd : decode cc pc = .ok (.invokespecial ix, 3)) (md : xc_Md y cc' maxL' (some rt) np) (hni : y.name ≠ "<init>") (hi : Cond.instanceMethod y ∈ xc_T) (hsm : Cond.sameMethod y.cls y.cls y.name y.desc ∈ xc_T) (hspr : Cond.superclass own y.cls ∈ xc_T) (hlk : Cond.methodLink own ix y ∈ xc_T) (hR : vwCl[ci]? = some (R, T, N)) (hob : ∀ (H : Heap) (ds : List Nat), xd_dom σ.1 ds → va_P Z.1.2.1 vwCl (xd_ws Z σ ds) H → ∃ (q : Nat) (fs : List Value), (xd_ws Z σ ds)[q]? = some (b, .inr (ci, fs))) (hn : n' < n) (hav : av.length = np) (hst : st0 = av.reverse ++ .ref b :: st) (hcat : (st.map fun v => v.category).sum ≤ 8) (cf : ∀ c1 s1 : Nat, xd_Cf Z n' y cc' maxL' (some rt) (.ref b :: av) (σ.1, σ.2.1, c1, s1) (p (σ.1, σ.2.1, c1, s1))) (k : ∀ (r : Option Nat) (τ : xd_S), xd_T Z C A Q nL (f 0 r τ) (pc + 3) lv (va_rf r :: st) τ) : xd_T Z C A Q nL (xd_ca p σ f) pc lv st0 σ := by
  intro ht H locs ls ds cu su hdm hcu hsu hP hD hS hl
  obtain ⟨c1, s1, g1, g2, g3⟩ := ht
  have hB := xd_preB (av := (.ref b :: av)) h hP hD hS
  have hcf := cf c1 s1 _ g3 H.size ds hdm
  exact xd_goesR h (c1 := c1) (s1 := s1) hrt (K := fun r ro τ => f r ro (τ.1, τ.2.1, σ.2.2.1 - c1, σ.2.2.2 - s1)) (va_runSU (C := R) (h.2.2.2.2.2.1.1 ci _ hR).2 ⟨h.1, h.2.1, h.2.2.1, h.2.2.2.1, h.2.2.2.2.1⟩ hcf (xd_callSU h md hni hi hsm hspr hlk hn) ⟨hB.1, by obtain ⟨q, fs, hq⟩ := hob H ds hdm hP; exact va_recv h.2.2.2.2.2.1 hP hR hq, hB.2⟩ rfl hav hl.1 hst (lv_room hcat) hd ⟨by omega, by omega⟩) hD hS (fun r τ H1 locs1 ds1 hK hdm1 hP1 hD1 hS1 => k r (τ.1, τ.2.1, σ.2.2.1 - c1, σ.2.2.2 - s1) hK H1 locs1 ls ds1 _ _ hdm1 (by show cu + c1 + (σ.2.2.1 - c1) ≤ _; omega) (by show su + s1 + (σ.2.2.2 - s1) ≤ _; omega) hP1 hD1 hS1 hl)
theorem xd_callSupV (h : xd_Ok Z C A n cc own nL) {n' np ix maxL' : Nat} {y : MethodName} {cc' : ByteArray} {av : List Value} {st0 : List Value} {b ci N : Nat} {R : String} {T : u_T} {p : xd_S → xd_K → Prop} {f : xd_K} (hd : decode cc pc = .ok (.invokespecial ix, 3)) (md : xc_Md y cc' maxL' none np) (hni : y.name ≠ "<init>") (hi : Cond.instanceMethod y ∈ xc_T) (hsm : Cond.sameMethod y.cls y.cls y.name y.desc ∈ xc_T) (hspr : Cond.superclass own y.cls ∈ xc_T) (hlk : Cond.methodLink own ix y ∈ xc_T) (hR : vwCl[ci]? = some (R, T, N)) (hob : ∀ (H : Heap) (ds : List Nat), xd_dom σ.1 ds → va_P Z.1.2.1 vwCl (xd_ws Z σ ds) H → ∃ (q : Nat) (fs : List Value), (xd_ws Z σ ds)[q]? = some (b, .inr (ci, fs))) (hn : n' < n) (hav : av.length = np) (hst : st0 = av.reverse ++ .ref b :: st) (hcat : (st.map fun v => v.category).sum ≤ 8) (cf : ∀ c1 s1 : Nat, xd_Cf Z n' y cc' maxL' none (.ref b :: av) (σ.1, σ.2.1, c1, s1) (p (σ.1, σ.2.1, c1, s1))) (k : ∀ τ : xd_S, xd_T Z C A Q nL (f 0 none τ) (pc + 3) lv st τ) : xd_T Z C A Q nL (xd_ca p σ f) pc lv st0 σ := by
  intro ht H locs ls ds cu su hdm hcu hsu hP hD hS hl
  obtain ⟨c1, s1, g1, g2, g3⟩ := ht
  have hB := xd_preB (av := (.ref b :: av)) h hP hD hS
  have hcf := cf c1 s1 _ g3 H.size ds hdm
  exact xd_goesV h (c1 := c1) (s1 := s1) (K := fun r ro τ => f r ro (τ.1, τ.2.1, σ.2.2.1 - c1, σ.2.2.2 - s1)) (va_runSU (C := R) (h.2.2.2.2.2.1.1 ci _ hR).2 ⟨h.1, h.2.1, h.2.2.1, h.2.2.2.1, h.2.2.2.2.1⟩ hcf (xd_callSU h md hni hi hsm hspr hlk hn) ⟨hB.1, by obtain ⟨q, fs, hq⟩ := hob H ds hdm hP; exact va_recv h.2.2.2.2.2.1 hP hR hq, hB.2⟩ rfl hav hl.1 hst (lv_room hcat) hd ⟨by omega, by omega⟩) hD hS (fun τ H1 locs1 ds1 hK hdm1 hP1 hD1 hS1 => k (τ.1, τ.2.1, σ.2.2.1 - c1, σ.2.2.2 - s1) hK H1 locs1 ls ds1 _ _ hdm1 (by show cu + c1 + (σ.2.2.1 - c1) ≤ _; omega) (by show su + s1 + (σ.2.2.2 - s1) ≤ _; omega) hP1 hD1 hS1 hl)
end
