section
variable {p : Program} {l : Launch} {e : Env} {R : Room} {s : State} {m : MethodId} {args : Array Value} {below : List Frame} {meth : Method} {c : Code} {H : Heap} {locs : List Loc} {cells slots : Nat} {Q : State → Prop}
/-- int[n][w] behind j of its rows: the table lies at h -/
def muS (S0 : State) (cA cB : ClassId) (n w h : Nat) : Nat → State
  | 0 => S0.pushCell (arrV cA n (fun _ => .null))
  | j + 1 => ((muS S0 cA cB n w h j).pushCell (arrV cB w (fun _ => .int 0))).setCell h ((arrV cA n (fun i => if i < j then .ref (h + 1 + i) else .null)).setSlot j (.ref (h + 1 + j)))
theorem mu_facts {S0 : State} {cA cB : ClassId} {n w : Nat} (X : Stand p l e R s m args below meth c S0 locs cells slots) (hh : s.heap.size ≤ S0.heap.size) : ∀ j, j ≤ n → Stand p l e R s m args below meth c (muS S0 cA cB n w S0.heap.size j) locs (cells + (1 + j)) (slots + (n + j * w)) ∧ (muS S0 cA cB n w S0.heap.size j).vm = S0.vm ∧ (muS S0 cA cB n w S0.heap.size j).heap.size = S0.heap.size + 1 + j ∧ (∀ q, q < S0.heap.size → (muS S0 cA cB n w S0.heap.size j).heap[q]? = S0.heap[q]?) ∧ (muS S0 cA cB n w S0.heap.size j).heap[S0.heap.size]? = some (arrV cA n (fun i => if i < j then .ref (S0.heap.size + 1 + i) else .null)) ∧ ∀ i, i < j → (muS S0 cA cB n w S0.heap.size j).heap[S0.heap.size + 1 + i]? = some (arrV cB w (fun _ => .int 0)) := by
  intro j
  induction j with
  | zero =>
    intro _
    have X1 := X.pushed (arrV cA n (fun _ => .null))
    rw [arrV_size] at X1
    have e0 : (fun i : Nat => if i < 0 then Value.ref (S0.heap.size + 1 + i) else .null) = fun _ => .null := by
      funext i
      rw [if_neg (Nat.not_lt_zero i)]
    refine ⟨?_, rfl, ?_, fun q hq => ?_, ?_, fun i hi => absurd hi (Nat.not_lt_zero i)⟩
    · have e1 : slots + (n + 0 * w) = slots + n := by rw [Nat.zero_mul, Nat.add_zero]
      rw [e1]
      exact X1
    · show (S0.heap.push _).size = _
      rw [Array.size_push]
    · show (S0.heap.push _)[q]? = _
      rw [Array.getElem?_push, if_neg (Nat.ne_of_lt hq)]
    · show (S0.heap.push _)[S0.heap.size]? = _
      rw [e0, Array.getElem?_push_size]
  | succ j ih =>
    intro hj
    obtain ⟨a1, a2, a3, a4, a5, a6⟩ := ih (by omega)
    obtain ⟨S, hS⟩ : ∃ S, S = muS S0 cA cB n w S0.heap.size j := ⟨_, rfl⟩
    rw [← hS] at a1 a2 a3 a4 a5 a6
    have eS : muS S0 cA cB n w S0.heap.size (j + 1) = (S.pushCell (arrV cB w (fun _ => .int 0))).setCell S0.heap.size ((arrV cA n (fun i => if i < j then .ref (S0.heap.size + 1 + i) else .null)).setSlot j (.ref (S0.heap.size + 1 + j))) := by rw [hS]; rfl
    have c1 : (S.pushCell (arrV cB w (fun _ => .int 0))).heap[S0.heap.size]? = some (arrV cA n (fun i => if i < j then .ref (S0.heap.size + 1 + i) else .null)) := by
      show (S.heap.push _)[S0.heap.size]? = _
      rw [Array.getElem?_push, if_neg (by omega)]
      exact a5
    have sz : (S.pushCell (arrV cB w (fun _ => .int 0))).heap.size = S0.heap.size + 1 + j + 1 := by
      show (S.heap.push _).size = _
      rw [Array.size_push, a3]
    have X1 := a1.pushed (arrV cB w (fun _ => .int 0))
    rw [arrV_size] at X1
    have X2 := (X1.stored c1 j (.ref (S0.heap.size + 1 + j))).forget (fun y hy => by
      rw [List.mem_singleton] at hy
      rw [hy]
      exact hh)
    have e1 : cells + (1 + j) + 1 = cells + (1 + (j + 1)) := by omega
    have e2 : slots + (n + j * w) + w = slots + (n + (j + 1) * w) := by rw [Nat.succ_mul]; omega
    rw [e1, e2] at X2
    have ot : ∀ q, q ≠ S0.heap.size → (muS S0 cA cB n w S0.heap.size (j + 1)).heap[q]? = (S.heap.push (arrV cB w (fun _ => .int 0)))[q]? := fun q hq => by
      rw [eS]
      exact heapAt_setCell_ne _ (Ne.symm hq)
    refine ⟨by rw [eS]; exact X2, by rw [eS]; exact a2, ?_, fun q hq => ?_, ?_, fun i hi => ?_⟩
    · rw [eS, size_setCell, sz]
      omega
    · rw [ot q (by omega), Array.getElem?_push, if_neg (by omega)]
      exact a4 q hq
    · have hlt : S0.heap.size < (S.pushCell (arrV cB w (fun _ => .int 0))).heap.size := by rw [sz]; omega
      rw [eS, heapAt_setCell_self _ hlt, arrV_store]
      congr 2
      funext i
      unfold updV
      by_cases z : i = j
      · rw [if_pos z, if_pos (by omega), z]
      · rw [if_neg z]
        dsimp only
        by_cases z2 : i < j
        · rw [if_pos z2, if_pos (by omega)]
        · rw [if_neg z2, if_neg (by omega)]
    · rw [ot _ (by omega), Array.getElem?_push]
      by_cases z : i = j
      · rw [if_pos (by omega)]
      · rw [if_neg (by omega)]
        exact a6 i (by omega)
/-- one row -/
theorem mu_row {E : CtlPost} {d : Bool} {acts : List Action} {S : State} {f : JFrame} {cB comp : ClassId} {kB : Class} {w : Int32} {Qf : Addr → Pre} (hkB : S.vm.classes[cB]? = some kB) (hkind : kB.kind = .array comp .int) (hw : ¬ w < 0) (hlimit : ¬ w.toNatClampNeg > e.platform.arrayLengthLimit) (hheap : ¬ w.toNatClampNeg * componentBytes .int > e.platform.maxHeapBytes) (hcells : S.heap.size < e.platform.maxCells) (hslots : S.slotsUsed + w.toNatClampNeg ≤ e.platform.maxSlots) (hq : ∀ acts', Qf S.heap.size d acts' ((S.pushCell (arrV cB w.toNatClampNeg (fun _ => .int 0))).setTop f)) : wp (Op.multianewarray.make cB [w]) Qf E e d acts (S.setTop f) := by
  unfold Op.multianewarray.make
  simp only [hw, if_false, wp_bind', W.theClass, State.vm_setTop, hkB, Option.some.injEq, exists_eq_left', hkind, wp_pure']
  refine W.newArray_of (s := S.setTop f) hkB hkind hlimit hheap hcells hslots rfl (fun acts' => ?_)
  have := hq acts'
  rw [← arrV_new] at this
  exact this
end
section
variable {p : Program} {l : Launch} {e : Env} {R : Room} {s : State} {m : MethodId} {args : Array Value} {below : List Frame} {meth : Method} {c : Code} {H : Heap} {locs : List Loc} {cells slots : Nat} {Q : State → Prop}
/-- the loop over the rows -/
theorem mu_loop {E : CtlPost} {S0 : State} {f : JFrame} {cA cB comp : ClassId} {kA kB : Class} {w : Int32} {n : Nat} {Qf : PUnit → Pre} (X : Stand p l e R s m args below meth c S0 locs cells slots) (hh : s.heap.size ≤ S0.heap.size) (hkA : S0.vm.classes[cA]? = some kA) (hkindA : kA.kind = .array cB (.array .int)) (hkB : S0.vm.classes[cB]? = some kB) (hkindB : kB.kind = .array comp .int) (hw : ¬ w < 0) (hlimit : ¬ w.toNatClampNeg > e.platform.arrayLengthLimit) (hheap : ¬ w.toNatClampNeg * componentBytes .int > e.platform.maxHeapBytes) (hcells : cells + (1 + n) ≤ R.cells) (hslots : slots + (n + n * w.toNatClampNeg) ≤ R.slots) (hend : ∀ d acts, Qf PUnit.unit d acts ((muS S0 cA cB n w.toNatClampNeg S0.heap.size n).setTop f)) : ∀ k j d acts, j + k = n → wp (forIn (List.range' j k) PUnit.unit (fun (i : Nat) (_ : PUnit) => (do
    let x ← Op.multianewarray.make cB [w]
    Jvm.writeLoc S0.heap.size i (.ref x)
    Pure.pure (ForInStep.yield PUnit.unit) : Sem (ForInStep PUnit)))) Qf E e d acts ((muS S0 cA cB n w.toNatClampNeg S0.heap.size j).setTop f) := by
  intro k
  induction k with
  | zero =>
    intro j d acts hj
    have e1 : j = n := by omega
    subst e1
    simp only [List.range'_zero, List.forIn_nil, wp_pure']
    exact hend d acts
  | succ k ih =>
    intro j d acts hj
    obtain ⟨a1, a2, a3, a4, a5, a6⟩ := mu_facts (cA := cA) (cB := cB) (n := n) (w := w.toNatClampNeg) X hh j (by omega)
    have hmul : (j + 1) * w.toNatClampNeg ≤ n * w.toNatClampNeg := Nat.mul_le_mul_right _ (by omega)
    rw [Nat.succ_mul] at hmul
    obtain ⟨r1, r2⟩ := a1.roomAbove (a := 1) (b := w.toNatClampNeg) (by omega) (by omega)
    obtain ⟨S, hS⟩ : ∃ S, S = muS S0 cA cB n w.toNatClampNeg S0.heap.size j := ⟨_, rfl⟩
    have eS : muS S0 cA cB n w.toNatClampNeg S0.heap.size (j + 1) = (S.pushCell (arrV cB w.toNatClampNeg (fun _ => .int 0))).setCell S0.heap.size ((arrV cA n (fun i => if i < j then .ref (S0.heap.size + 1 + i) else .null)).setSlot j (.ref (S0.heap.size + 1 + j))) := by rw [hS]; rfl
    have ih' := ih (j + 1)
    rw [eS] at ih'
    rw [← hS] at a1 a2 a3 a4 a5 a6 r1 r2 ⊢
    rw [List.range'_succ]
    simp only [List.forIn_cons, wp_bind', wp_pure']
    refine mu_row (hkB := by rw [a2]; exact hkB) hkindB hw hlimit hheap (by omega) r2 (fun acts' => ?_)
    rw [wp_bind', W.writeLoc]
    have c1 : (S.pushCell (arrV cB w.toNatClampNeg (fun _ => .int 0))).heap[S0.heap.size]? = some (arrV cA n (fun i => if i < j then .ref (S0.heap.size + 1 + i) else .null)) := by
      show (S.heap.push _)[S0.heap.size]? = _
      rw [Array.getElem?_push, if_neg (by omega)]
      exact a5
    refine ⟨_, c1, (fun z => by cases z), by rw [arrV_size]; omega, ?_, ?_⟩
    · show S.fitsSlot cA .none j (.ref S.heap.size) = true
      simp [State.fitsSlot, State.slotType?, a2, hkA, hkindA]
      rfl
    · rw [wp_pure', a3]
      exact ih' true _ (by omega)
theorem mu_cold {Qf : Unit → Pre} {E : CtlPost} {d : Bool} {acts : List Action} {T : State} {f : JFrame} {index cl : Nat} {vm' : Vm} (hs : T.topJava?.isSome) (hg : (Jvm.resolveClass f.method.cls index).Gives e.toSetting T.vm (.ok cl) vm') (hr : vm'.classReady f.method.cls index cl) (hsz : vm'.classes.size ≤ T.vm.classes.size := by no_record) : wp (Op.multianewarray.sem index 2) Qf E e d acts (T.setTop f) ↔ wp (Op.multianewarray.sem index 2) Qf E e d acts ((T.setVm vm').setTop f) := by
  simp only [Op.multianewarray.sem, wp_bind']
  exact W.resolveClassAt_transfer (s := T.setTop f) (State.method?_setTop f hs) hg hr
theorem mu_ready {Qf : Unit → Pre} {E : CtlPost} {d : Bool} {acts : List Action} {S0 : State} {f : JFrame} {index : Nat} {cA cB comp : ClassId} {kA kB : Class} {n w : Int32} {rest : List Value} (X : Stand p l e R s m args below meth c S0 locs cells slots) (hh : s.heap.size ≤ S0.heap.size) (hs : S0.topJava?.isSome) (hr : S0.vm.classReady f.method.cls index cA) (hstack : f.stack = .int w :: .int n :: rest) (hkA : S0.vm.classes[cA]? = some kA) (hkindA : kA.kind = .array cB (.array .int)) (hkB : S0.vm.classes[cB]? = some kB) (hkindB : kB.kind = .array comp .int) (hn : ¬ n < 0) (hw : ¬ w < 0) (hlimit0 : ¬ n.toNatClampNeg > e.platform.arrayLengthLimit) (hheap0 : ¬ n.toNatClampNeg * componentBytes (.array .int) > e.platform.maxHeapBytes) (hlimit : ¬ w.toNatClampNeg > e.platform.arrayLengthLimit) (hheap : ¬ w.toNatClampNeg * componentBytes .int > e.platform.maxHeapBytes) (hcells : cells + (1 + n.toNatClampNeg) ≤ R.cells) (hslots : slots + (n.toNatClampNeg + n.toNatClampNeg * w.toNatClampNeg) ≤ R.slots) (hq : ∀ d acts, Qf () d acts ((muS S0 cA cB n.toNatClampNeg w.toNatClampNeg S0.heap.size n.toNatClampNeg).setTop { f with stack := .ref S0.heap.size :: rest })) : wp (Op.multianewarray.sem index 2) Qf E e d acts (S0.setTop f) := by
  obtain ⟨r1, r2⟩ := X.roomAbove (a := 1) (b := n.toNatClampNeg) (by omega) (by omega)
  simp only [Op.multianewarray.sem, wp_bind', W.resolveClassAt_ready (State.method?_setTop f hs) hr]
  refine (popN_top (args := [.int n, .int w]) (rest := rest) hs hstack).mpr ?_
  simp only [List.mapM_cons, List.mapM_nil, wp_bind', wp_pure']
  unfold Op.multianewarray.make
  simp only [hn, if_false, wp_bind', W.theClass, State.vm_setTop, hkA, Option.some.injEq, exists_eq_left', hkindA, wp_pure']
  refine W.newArray_of (s := S0.setTop { f with stack := rest }) hkA hkindA hlimit0 hheap0 (by show S0.heap.size < _; omega) r2 rfl (fun acts' => ?_)
  have hfind : List.find? (fun x : Int32 => decide (x < 0)) [w] = none := by simp [hw]
  simp only [hfind]
  rw [ite_self, wp_bind', Std.Legacy.Range.forIn_eq_forIn_range']
  have hsz : ([:n.toNatClampNeg] : Std.Legacy.Range).size = n.toNatClampNeg := by simp [Std.Legacy.Range.size]
  rw [hsz]
  have key := mu_loop (E := E) (f := { f with stack := rest }) (Qf := fun _ d acts S => wp (do
    mark "op.multianewarray"
    pushRef S0.heap.size) Qf E e d acts S) X hh hkA hkindA hkB hkindB hw hlimit hheap hcells hslots (fun d2 acts2 => ?_) n.toNatClampNeg 0 (if [Value.int n, Value.int w].length = 0 then d else true) acts' (by omega)
  · have e0 : muS S0 cA cB n.toNatClampNeg w.toNatClampNeg S0.heap.size 0 = S0.pushCell { cls := cA, slots := Array.replicate n.toNatClampNeg .null } := congrArg S0.pushCell (arrV_new cA n.toNatClampNeg .null).symm
    rw [e0] at key
    exact key
  · obtain ⟨b1, -⟩ := mu_facts (cA := cA) (cB := cB) (n := n.toNatClampNeg) (w := w.toNatClampNeg) X hh n.toNatClampNeg (Nat.le_refl _)
    simp only [wp_bind', W.mark, W.pushRef]
    rw [State.topJava?_setTop' _ b1.here.top]
    simp only [Option.some.injEq, exists_eq_left', State.setTop_setTop]
    exact hq _ _
end
section
variable {p : Program} {l : Launch} {e : Env} {R : Room} {s : State} {m : MethodId} {args : Array Value} {below : List Frame} {meth : Method} {c : Code} {H : Heap} {locs : List Loc} {cells slots : Nat} {Q : State → Prop}
theorem mu_W {cc : ByteArray} (hexec : p.tables.exec = Jvm.exec) (hb : c.code = cc) {own : String} {index : Nat} (hown : s.vm.findClass own = some m.cls) (hclink : (Cond.classLink own index "[[I").before args s = true) {cA cB comp : ClassId} {kA kB : Class} (hfc : s.vm.findClass "[[I" = some cA) (hkA : s.vm.classes[cA]? = some kA) (hkindA : kA.kind = .array cB (.array .int)) (hkB : s.vm.classes[cB]? = some kB) (hkindB : kB.kind = .array comp .int) {g : JFrame} (hg : g.method = m) (hdg : decode cc g.pc = .ok (.multianewarray index 2, 4)) {n w : Int32} {rest : List Value} (hstack : g.stack = .int w :: .int n :: rest) (hn : ¬ n < 0) (hw : ¬ w < 0) (hn1 : n.toNatClampNeg ≤ 100) (hw1 : w.toNatClampNeg ≤ 100) (hcells : cells + (1 + n.toNatClampNeg) ≤ R.cells) (hslots : slots + (n.toNatClampNeg + n.toNatClampNeg * w.toNatClampNeg) ≤ R.slots) (hh : s.heap.size ≤ H.size)
    (kk : ∀ H' : Heap, H'.size = H.size + 1 + n.toNatClampNeg → (∀ q, q < H.size → H'[q]? = H[q]?) → H'[H.size]? = some (arrV cA n.toNatClampNeg (fun i => if i < n.toNatClampNeg then .ref (H.size + 1 + i) else .null)) → (∀ i, i < n.toNatClampNeg → H'[H.size + 1 + i]? = some (arrV cB w.toNatClampNeg (fun _ => .int 0))) → W p l e R s m args below meth c H' locs (cells + (1 + n.toNatClampNeg)) (slots + (n.toNatClampNeg + n.toNatClampNeg * w.toNatClampNeg)) Q { g with pc := g.pc + 4, stack := .ref H.size :: rest }) : W p l e R s m args below meth c H locs cells slots Q g := by
  intro T hT X
  subst hT; subst hb; subst hg
  have hpl : e.platform.magicAccessors = ({} : Platform).magicAccessors := by rw [X.admits.platform]
  obtain ⟨cc', hfcc, hcl⟩ := Cond.classLink_spec hown hclink e.platform hpl
  cases hfc.symm.trans hfcc
  obtain ⟨hg₁, hwarm₁, hready₁⟩ := State.classEntry (e := e) X.warmed hcl
  generalize T.vm.noted g.method.cls index (.cls cA) = vm₁ at hg₁ hwarm₁ hready₁
  have hal : s.vm.Alike vm₁ := hwarm₁.alike
  obtain ⟨kA₁, hkA₁, heA⟩ := hal.2.2 _ _ hkA
  have hkindA₁ : kA₁.kind = .array cB (.array .int) := by rw [heA]; exact hkindA
  obtain ⟨kB₁, hkB₁, heB⟩ := hal.2.2 _ _ hkB
  have hkindB₁ : kB₁.kind = .array comp .int := by rw [heB]; exact hkindB
  have hlimit0 : ¬ n.toNatClampNeg > e.platform.arrayLengthLimit := by rw [Launch.admits_arrayLengthLimit X.admits]; omega
  have hheap0 : ¬ n.toNatClampNeg * componentBytes (.array .int) > e.platform.maxHeapBytes := by
    rw [Launch.admits_maxHeapBytes X.admits]; show ¬ n.toNatClampNeg * 4 > 536870912; omega
  have hlimit : ¬ w.toNatClampNeg > e.platform.arrayLengthLimit := by rw [Launch.admits_arrayLengthLimit X.admits]; omega
  have hheap : ¬ w.toNatClampNeg * componentBytes .int > e.platform.maxHeapBytes := by
    rw [Launch.admits_maxHeapBytes X.admits]; show ¬ w.toNatClampNeg * 4 > 536870912; omega
  have X₁ := X.noted hwarm₁
  obtain ⟨b1, b2, b3, b4, b5, b6⟩ := mu_facts (cA := cA) (cB := cB) (n := n.toNatClampNeg) (w := w.toNatClampNeg) X₁ hh n.toNatClampNeg (Nat.le_refl _)
  obtain ⟨t', a1, a2⟩ := kk _ b3 b4 b5 b6 (muS (T.setVm vm₁) cA cB n.toNatClampNeg w.toNatClampNeg T.heap.size n.toNatClampNeg) rfl b1
  refine ⟨t', ?_, a2⟩
  refine Steps.instr (c := _) (by simpa using X.here) ?_
  simp only [hdg, hexec]
  unfold wpRun
  show wp (Op.multianewarray.sem index 2) _ _ e false [] (T.setTop g)
  refine (mu_cold X.here.top hg₁ hready₁).mpr ?_
  refine mu_ready (S0 := T.setVm vm₁) X₁ hh X.here.top hready₁ hstack hkA₁ hkindA₁ hkB₁ hkindB₁ hn hw hlimit0 hheap0 hlimit hheap hcells hslots (fun d acts acts2 => ?_)
  rw [afterInstr_ok]
  exact a1
end
section
variable {Z : xd_Z} {C : xc_C} {A : Nat → Prop} {Q : State → Prop} {n nL : Nat} {cc : ByteArray} {own : String} {t t1 t2 : Prop} {pc : Nat} {lv lv' : List (Nat × Value)} {st : List Value} {σ : xd_S} {K : xd_K} {ret : Option FieldType}
/-- int[m][w]: the rows lie behind the table -/
def xd_mu (m w : Int32) (σ : xd_S) (f : Nat → xd_S → Prop) : Prop := ¬ m < 0 ∧ ¬ w < 0 ∧ m.toNatClampNeg ≤ 100 ∧ w.toNatClampNeg ≤ 100 ∧ 1 + m.toNatClampNeg ≤ σ.2.2.1 ∧ m.toNatClampNeg + m.toNatClampNeg * w.toNatClampNeg ≤ σ.2.2.2 ∧ ∀ a : Nat, (∀ j : Nat, j ≤ m.toNatClampNeg → σ.1 (a + j) = none) → f a ((fun b => if b = a then some (2, m.toNatClampNeg, fun _ => 0, fun j => if j < m.toNatClampNeg then some (a + 1 + j) else none) else if a < b ∧ b ≤ a + m.toNatClampNeg then some (0, w.toNatClampNeg, fun _ => 0, fun _ => none) else σ.1 b), σ.2.1, σ.2.2.1 - (1 + m.toNatClampNeg), σ.2.2.2 - (m.toNatClampNeg + m.toNatClampNeg * w.toNatClampNeg))
theorem va_D_snoc {A : Nat → Prop} {ws : va_W} {q : Nat} {e : va_E} (hD : va_D A ws) (hlt : ∀ (k : Nat) (x : Nat × va_E), ws[k]? = some x → x.1 < q) (hA : A q) : va_D A (ws ++ [(q, e)]) := by
  have key : ∀ (k : Nat) (x : Nat × va_E), (ws ++ [(q, e)])[k]? = some x → (ws[k]? = some x ∧ x.1 < q) ∨ (k = ws.length ∧ x.1 = q) := by
    intro k x hk
    by_cases hl : k < ws.length
    · rw [List.getElem?_append_left hl] at hk
      exact Or.inl ⟨hk, hlt k x hk⟩
    · rw [List.getElem?_append_right (by omega)] at hk
      have hz : k - ws.length < 1 := (List.getElem?_eq_some_iff.mp hk).1
      rw [show k - ws.length = 0 by omega] at hk
      cases hk
      exact Or.inr ⟨by omega, rfl⟩
  refine ⟨fun i j x y hi hj h => ?_, fun k x hk => ?_⟩
  · rcases key i x hi with ⟨a1, a2⟩ | ⟨a1, a2⟩ <;> rcases key j y hj with ⟨b1, b2⟩ | ⟨b1, b2⟩
    · exact hD.1 i j x y a1 b1 h
    · omega
    · omega
    · omega
  · rcases key k x hk with ⟨a1, a2⟩ | ⟨a1, a2⟩
    · exact hD.2 k x a1
    · rw [a2]
      exact hA
/-- one array more in the world, above all others -/
theorem mu_snoc {ds : List Nat} {q : Nat} {c2 : xd_C} {cA : ClassId} {a0 : vp_A} {H1 : Heap} (he : xd_ent Z c2 = .inl (cA, a0)) (hc : H1[q]? = some (vp_cell cA a0)) (hA : A q) (h1 : xd_dom σ.1 ds) (h2 : va_P Z.1.2.1 vwCl (xd_ws Z σ ds) H1) (h3 : va_D A (xd_ws Z σ ds)) (h4 : ∀ (k : Nat) (x : Nat × va_E), (xd_ws Z σ ds)[k]? = some x → x.1 < q) : xd_dom (xd_up σ.1 q c2) (ds ++ [q]) ∧ va_P Z.1.2.1 vwCl (xd_ws Z (xd_up σ.1 q c2, σ.2) (ds ++ [q])) H1 ∧ va_D A (xd_ws Z (xd_up σ.1 q c2, σ.2) (ds ++ [q])) ∧ ∀ (k : Nat) (x : Nat × va_E), (xd_ws Z (xd_up σ.1 q c2, σ.2) (ds ++ [q]))[k]? = some x → x.1 < q + 1 := by
  have hP1 := h2.app (w2 := [(q, xd_ent Z c2)]) (fun j x hx => by
    have hz : j < 1 := (List.getElem?_eq_some_iff.mp hx).1
    rw [show j = 0 by omega] at hx
    cases hx
    rw [he]
    exact hc)
  have hD1 := va_D_snoc (e := xd_ent Z c2) h3 h4 hA
  have hf := xd_fresh hD1
  have h5 : ∀ (k : Nat) (x : Nat × va_E), (xd_ws Z σ ds ++ [(q, xd_ent Z c2)])[k]? = some x → x.1 < q + 1 := fun k x hk => by
    by_cases hl : k < (xd_ws Z σ ds).length
    · rw [List.getElem?_append_left hl] at hk
      have := h4 k x hk
      omega
    · rw [List.getElem?_append_right (by omega)] at hk
      have hz : k - (xd_ws Z σ ds).length < 1 := (List.getElem?_eq_some_iff.mp hk).1
      rw [show k - (xd_ws Z σ ds).length = 0 by omega] at hk
      cases hk
      exact Nat.lt_succ_self _
  rw [xd_push (Z := Z) (σ := σ) (c2 := c2) hf] at hP1 hD1 h5
  exact ⟨xd_dom_push h1, hP1, hD1, h5⟩
theorem xd_multi (h : xd_Ok Z C A n cc own nL) {ix : Nat} {m w : Int32} {f : Nat → xd_S → Prop} (hd : decode cc pc = .ok (.multianewarray ix 2, 4)) (hw : Cond.classLink own ix "[[I" ∈ xc_T) (hac : Cond.arrayClass .int ∈ xc_T) (k : ∀ (a : Nat) (τ : xd_S), xd_T Z C A Q nL (f a τ) (pc + 4) lv (.ref a :: st) τ) : xd_T Z C A Q nL (xd_mu m w σ f) pc lv (.int w :: .int m :: st) σ := by
  intro ht H locs ls ds cu su hdm hcu hsu hP hD hS hl
  obtain ⟨hm, hw0, m1, w1, g1, g2, g3⟩ := ht
  have hK := h.2.2.2.2.2.1
  obtain ⟨comp, cA, kA, f1, f2, f3, f4, f5⟩ := arrayOverA_spec (args := #[]) (o := none) (idx := []) h.2.2.2.2.2.2.2.2.2.2.2.2.2.2.2.2.2.1
  have e0 : cA = Z.2.1.1 := Option.some.inj (f5.symm.trans (hK.2 3 _ rfl).2)
  have e1 : comp = Z.1.2.2.1.1 := Option.some.inj (f1.symm.trans (hK.2 0 _ rfl).2)
  subst e0 e1
  obtain ⟨-, kB, hkB, comp2, hkindB⟩ := (hK.2 0 _ rfl).1 1 (fun _ => .int 0)
  obtain ⟨mm, hmm⟩ : ∃ mm, mm = m.toNatClampNeg := ⟨_, rfl⟩
  obtain ⟨ww, hww⟩ : ∃ ww, ww = w.toNatClampNeg := ⟨_, rfl⟩
  refine mu_W (cA := Z.2.1.1) (cB := Z.1.2.2.1.1) h.1 h.2.1 h.2.2.2.1 (h.2.2.2.2.1 _ hw) f5 f3 f4 hkB hkindB rfl hd rfl hm hw0 m1 w1 (by omega) (by omega) hS.1 (fun H1 z1 z2 z3 z4 => ?_)
  have hbelow : ∀ (j : Nat) (x : Nat × va_E), (xd_ws Z σ ds)[j]? = some x → x.1 < H.size := fun j x hx => (hP j x hx).lt
  have hk : ∀ (j : Nat) (x : Nat × va_E), (xd_ws Z σ ds)[j]? = some x → H1[x.1]? = H[x.1]? := fun j x hx => z2 x.1 (hbelow j x hx)
  have hA : ∀ x, H.size ≤ x → A x := fun x hx => h.2.2.2.2.2.2.2.1 x (Nat.le_trans hS.1 hx)
  have loop : ∀ j, j ≤ m.toNatClampNeg → ∃ ds' : List Nat, xd_dom (fun b => if b = H.size then some (2, m.toNatClampNeg, fun _ => 0, fun j => if j < m.toNatClampNeg then some (H.size + 1 + j) else none) else if H.size < b ∧ b ≤ H.size + j then some (0, w.toNatClampNeg, fun _ => 0, fun _ => none) else σ.1 b) ds' ∧ va_P Z.1.2.1 vwCl (xd_ws Z ((fun b => if b = H.size then some (2, m.toNatClampNeg, fun _ => 0, fun j => if j < m.toNatClampNeg then some (H.size + 1 + j) else none) else if H.size < b ∧ b ≤ H.size + j then some (0, w.toNatClampNeg, fun _ => 0, fun _ => none) else σ.1 b), σ.2) ds') H1 ∧ va_D A (xd_ws Z ((fun b => if b = H.size then some (2, m.toNatClampNeg, fun _ => 0, fun j => if j < m.toNatClampNeg then some (H.size + 1 + j) else none) else if H.size < b ∧ b ≤ H.size + j then some (0, w.toNatClampNeg, fun _ => 0, fun _ => none) else σ.1 b), σ.2) ds') ∧ ∀ (k : Nat) (x : Nat × va_E), (xd_ws Z ((fun b => if b = H.size then some (2, m.toNatClampNeg, fun _ => 0, fun j => if j < m.toNatClampNeg then some (H.size + 1 + j) else none) else if H.size < b ∧ b ≤ H.size + j then some (0, w.toNatClampNeg, fun _ => 0, fun _ => none) else σ.1 b), σ.2) ds')[k]? = some x → x.1 < H.size + 1 + j := by
    intro j
    induction j with
    | zero =>
      intro _
      have hr : (fun i => if i < m.toNatClampNeg then Value.ref (H.size + 1 + i) else .null) = fun i => va_rf (if i < m.toNatClampNeg then some (H.size + 1 + i) else none) := by
        funext i
        by_cases z : i < m.toNatClampNeg
        · rw [if_pos z, if_pos z]
          rfl
        · rw [if_neg z, if_neg z]
          rfl
      rw [hr] at z3
      obtain ⟨b1, b2, b3, b4⟩ := mu_snoc (Z := Z) (σ := σ) (ds := ds) (q := H.size) (c2 := (2, m.toNatClampNeg, fun _ => 0, fun j => if j < m.toNatClampNeg then some (H.size + 1 + j) else none)) (cA := Z.2.1.1) (a0 := (m.toNatClampNeg, .inr (.inr (.inr (.inr (fun j => if j < m.toNatClampNeg then some (H.size + 1 + j) else none)))))) rfl z3 (hA _ (Nat.le_refl _)) hdm (hP.kept hk) hD hbelow
      have e2 : xd_up σ.1 H.size (2, m.toNatClampNeg, fun _ => 0, fun j => if j < m.toNatClampNeg then some (H.size + 1 + j) else none) = fun b => if b = H.size then some (2, m.toNatClampNeg, fun _ => 0, fun j => if j < m.toNatClampNeg then some (H.size + 1 + j) else none) else if H.size < b ∧ b ≤ H.size + 0 then some (0, w.toNatClampNeg, fun _ => 0, fun _ => none) else σ.1 b := by
        funext b
        show (if b = H.size then _ else _) = _
        by_cases z : b = H.size
        · rw [if_pos z, if_pos z]
        · rw [if_neg z, if_neg z, if_neg (by omega)]
      rw [e2] at b1 b2 b3 b4
      exact ⟨_, b1, b2, b3, b4⟩
    | succ j ih =>
      intro hj
      obtain ⟨ds', b1, b2, b3, b4⟩ := ih (by omega)
      obtain ⟨M1, hM1⟩ : ∃ M1 : xd_M, M1 = fun b => if b = H.size then some (2, m.toNatClampNeg, fun _ => 0, fun j => if j < m.toNatClampNeg then some (H.size + 1 + j) else none) else if H.size < b ∧ b ≤ H.size + j then some (0, w.toNatClampNeg, fun _ => 0, fun _ => none) else σ.1 b := ⟨_, rfl⟩
      rw [← hM1] at b1 b2 b3 b4
      obtain ⟨d1, d2, d3, d4⟩ := mu_snoc (Z := Z) (σ := (M1, σ.2)) (ds := ds') (q := H.size + 1 + j) (c2 := (0, w.toNatClampNeg, fun _ => 0, fun _ => none)) (cA := Z.1.2.2.1.1) (a0 := (w.toNatClampNeg, .inl (fun _ => 0))) rfl (z4 j (by omega)) (hA _ (by omega)) b1 b2 b3 b4
      have e2 : xd_up M1 (H.size + 1 + j) (0, w.toNatClampNeg, fun _ => 0, fun _ => none) = fun b => if b = H.size then some (2, m.toNatClampNeg, fun _ => 0, fun j => if j < m.toNatClampNeg then some (H.size + 1 + j) else none) else if H.size < b ∧ b ≤ H.size + (j + 1) then some (0, w.toNatClampNeg, fun _ => 0, fun _ => none) else σ.1 b := by
        funext b
        show (if b = H.size + 1 + j then _ else M1 b) = _
        rw [hM1]
        dsimp only
        by_cases z : b = H.size + 1 + j
        · rw [if_pos z, if_neg (by omega), if_pos (by omega)]
        · rw [if_neg z]
          by_cases z2 : b = H.size
          · rw [if_pos z2, if_pos z2]
          · rw [if_neg z2, if_neg z2]
            by_cases z3 : H.size < b ∧ b ≤ H.size + j
            · rw [if_pos z3, if_pos (by omega)]
            · rw [if_neg z3, if_neg (by omega)]
      rw [e2] at d1 d2 d3 d4
      exact ⟨_, d1, d2, d3, fun k x hx => by have := d4 k x hx; omega⟩
  obtain ⟨ds', b1, b2, b3, -⟩ := loop m.toNatClampNeg (Nat.le_refl _)
  have hnone : ∀ j : Nat, j ≤ m.toNatClampNeg → σ.1 (H.size + j) = none := fun j hj => xd_none hdm (fun hmem => by
    obtain ⟨k2, hk2⟩ := va_pl_get (X := xc_ws Z.1 σ.2.1) (f := xd_fc Z σ.1) hmem
    have h9 := hbelow k2 _ hk2
    have h8 : H.size + j < H.size := h9
    omega)
  refine k H.size _ (g3 H.size hnone) H1 locs ls ds' (cu + (1 + m.toNatClampNeg)) (su + (m.toNatClampNeg + m.toNatClampNeg * w.toNatClampNeg)) b1 ?_ ?_ b2 b3 ⟨Nat.le_trans hS.1 (by omega), fun x h1 h2 => (z2 x (Nat.lt_of_lt_of_le h1 hS.1)).trans (hS.2.1 x h1 h2), hS.2.2⟩ hl
  · show cu + (1 + m.toNatClampNeg) + (σ.2.2.1 - (1 + m.toNatClampNeg)) ≤ _
    omega
  · show su + (m.toNatClampNeg + m.toNatClampNeg * w.toNatClampNeg) + (σ.2.2.2 - (m.toNatClampNeg + m.toNatClampNeg * w.toNatClampNeg)) ≤ _
    omega
end
