section
variable {Z : xd_Z} {C : xc_C} {A : Nat → Prop} {Q : State → Prop} {n nL : Nat} {cc : ByteArray} {own : String} {t t1 t2 : Prop} {pc : Nat} {lv lv' : List (Nat × Value)} {st : List Value} {σ : xd_S} {K : xd_K} {ret : Option FieldType}

/-- where the method's own end is what its caller waits for -/
def xd_E (Z : xd_Z) (C : xc_C) (A : Nat → Prop) (ret : Option FieldType) (Q : State → Prop) (K : xd_K) : Prop := Q = xd_MQ Z C A ret K ∧ C.2.2.2.2.2.2.2.1.sig.returnType = ret ∧ C.2.2.2.2.2.2.2.1.locks = false

theorem xd_iret (h : xd_Ok Z C A n cc own nL)  {x : Int32} (hE : xd_E Z C A (some .int) Q K) (hd : decode cc pc = .ok (.ireturn, 1)) : xd_T Z C A Q nL (K x none σ) pc lv [.int x] σ := by
  intro ht H locs ls ds cu su hdm hcu hsu hP hD hS hl
  obtain ⟨rfl, e1, e2⟩ := hE
  skip
  refine W.widen (k := C.2.2.1.cells) (n := C.2.2.1.slots) (by omega) (by omega) ?_
  exact W.iret h.1 h.2.1 e1 (fun t3 ht2 hW => ⟨⟨x, (σ, ds), rfl, ht, by rw [ht2]; exact hP, va_K.moved hW.alike h.2.2.2.2.2.1, hD, hdm⟩, hS.F ht2⟩) hS.2.2 hd e2
theorem xd_zret (h : xd_Ok Z C A n cc own nL)  {x : Int32} (hE : xd_E Z C A (some .boolean) Q K) (hd : decode cc pc = .ok (.ireturn, 1)) : xd_T Z C A Q nL (xd_rb x K σ) pc lv [.int x] σ := by
  intro ht H locs ls ds cu su hdm hcu hsu hP hD hS hl
  obtain ⟨rfl, e1, e2⟩ := hE
  obtain ⟨q, ht⟩ := ht
  refine W.widen (k := C.2.2.1.cells) (n := C.2.2.1.slots) (by omega) (by omega) ?_
  exact W.zret h.1 h.2.1 e1 (by rcases q with rfl | rfl <;> rfl) (fun t3 ht2 hW => ⟨⟨x, (σ, ds), rfl, ht, by rw [ht2]; exact hP, va_K.moved hW.alike h.2.2.2.2.2.1, hD, hdm⟩, hS.F ht2⟩) hS.2.2 hd e2
theorem xd_bret (h : xd_Ok Z C A n cc own nL)  {x : Int32} (hE : xd_E Z C A (some .byte) Q K) (hd : decode cc pc = .ok (.ireturn, 1)) : xd_T Z C A Q nL (xd_rb x K σ) pc lv [.int x] σ := by
  intro ht H locs ls ds cu su hdm hcu hsu hP hD hS hl
  obtain ⟨rfl, e1, e2⟩ := hE
  obtain ⟨q, ht⟩ := ht
  refine W.widen (k := C.2.2.1.cells) (n := C.2.2.1.slots) (by omega) (by omega) ?_
  exact W.zret h.1 h.2.1 e1 (by rcases q with rfl | rfl <;> rfl) (fun t3 ht2 hW => ⟨⟨x, (σ, ds), rfl, ht, by rw [ht2]; exact hP, va_K.moved hW.alike h.2.2.2.2.2.1, hD, hdm⟩, hS.F ht2⟩) hS.2.2 hd e2
def xd_rc (x : Int32) (K : xd_K) (σ : xd_S) : Prop := (x.toUInt32 % 65536).toInt32 = x ∧ K x none σ
theorem xd_cret (h : xd_Ok Z C A n cc own nL)  {x : Int32} (hE : xd_E Z C A (some .char) Q K) (hd : decode cc pc = .ok (.ireturn, 1)) : xd_T Z C A Q nL (xd_rc x K σ) pc lv [.int x] σ := by
  intro ht H locs ls ds cu su hdm hcu hsu hP hD hS hl
  obtain ⟨rfl, e1, e2⟩ := hE
  obtain ⟨q, ht⟩ := ht
  refine W.widen (k := C.2.2.1.cells) (n := C.2.2.1.slots) (by omega) (by omega) ?_
  exact W.zret h.1 h.2.1 e1 (by rw [← q]; exact pk_nc _) (fun t3 ht2 hW => ⟨⟨x, (σ, ds), rfl, ht, by rw [ht2]; exact hP, va_K.moved hW.alike h.2.2.2.2.2.1, hD, hdm⟩, hS.F ht2⟩) hS.2.2 hd e2
theorem xd_vret (h : xd_Ok Z C A n cc own nL)  (hE : xd_E Z C A none Q K) (hd : decode cc pc = .ok (.return_, 1)) : xd_T Z C A Q nL (K 0 none σ) pc lv [] σ := by
  intro ht H locs ls ds cu su hdm hcu hsu hP hD hS hl
  obtain ⟨rfl, e1, e2⟩ := hE
  skip
  refine W.widen (k := C.2.2.1.cells) (n := C.2.2.1.slots) (by omega) (by omega) ?_
  exact W.vret h.1 h.2.1 e1 (fun t3 ht2 hW => ⟨⟨(σ, ds), rfl, ht, by rw [ht2]; exact hP, va_K.moved hW.alike h.2.2.2.2.2.1, hD, hdm⟩, hS.F ht2⟩) hS.2.2 hd e2
theorem xd_aretO (h : xd_Ok Z C A n cc own nL)  {r : Option Nat} {rt : FieldType} (hrt : (∃ m, rt = .object m) ∨ ∃ t, rt = .array t) (hE : xd_E Z C A (some rt) Q K) (hd : decode cc pc = .ok (.areturn, 1)) : xd_T Z C A Q nL (K 0 r σ) pc lv [va_rf r] σ := by
  intro ht H locs ls ds cu su hdm hcu hsu hP hD hS hl
  obtain ⟨rfl, e1, e2⟩ := hE
  have e3 : xd_isI rt = false := by rcases hrt with ⟨m, rfl⟩ | ⟨t, rfl⟩ <;> rfl
  refine W.widen (k := C.2.2.1.cells) (n := C.2.2.1.slots) (by omega) (by omega) ?_
  exact W.aret h.1 h.2.1 e1 hrt (by cases r; exact Or.inl rfl; exact Or.inr ⟨_, rfl⟩) (fun t3 ht2 hW => by
    unfold xd_Q
    simp only [e3]
    exact ⟨⟨r, (σ, ds), rfl, ht, by rw [ht2]; exact hP, va_K.moved hW.alike h.2.2.2.2.2.1, hD, hdm⟩, hS.F ht2⟩) hS.2.2 hd e2
theorem xd_aret (h : xd_Ok Z C A n cc own nL)  {a : Nat} {rt : FieldType} (hrt : (∃ m, rt = .object m) ∨ ∃ t, rt = .array t) (hE : xd_E Z C A (some rt) Q K) (hd : decode cc pc = .ok (.areturn, 1)) : xd_T Z C A Q nL (K 0 (some a) σ) pc lv [.ref a] σ := by
  intro ht H locs ls ds cu su hdm hcu hsu hP hD hS hl
  obtain ⟨rfl, e1, e2⟩ := hE
  have e3 : xd_isI rt = false := by rcases hrt with ⟨m, rfl⟩ | ⟨t, rfl⟩ <;> rfl
  refine W.widen (k := C.2.2.1.cells) (n := C.2.2.1.slots) (by omega) (by omega) ?_
  exact W.aret h.1 h.2.1 e1 hrt (Or.inr ⟨_, rfl⟩) (fun t3 ht2 hW => by
    unfold xd_Q
    simp only [e3]
    exact ⟨⟨some a, (σ, ds), rfl, ht, by rw [ht2]; exact hP, va_K.moved hW.alike h.2.2.2.2.2.1, hD, hdm⟩, hS.F ht2⟩) hS.2.2 hd e2
theorem xd_Cf.of {y : MethodName} {av : List Value} {p : xd_K → Prop} (hy : plainName y.cls = true) (hlen : (lg_sl av).length ≤ nL) (body : ∀ (C : xc_C) (A : Nat → Prop) (Q : State → Prop) (K : xd_K), xd_Ok Z C A n cc y.cls nL → xd_E Z C A ret Q K → C.2.2.2.2.2.2.2.1.name = y.name → xd_T Z C A Q nL (p K) 0 (lv_args 0 av) [] σ) : xd_Cf Z n y cc nL ret av σ p := by
  intro K hr sz ds hdm
  refine Met.ofW (cc := cc) (maxL := nL) (ret := ret) hy rfl ?_
  intro p e s m args below meth c s₁ B hml hv
  obtain ⟨rfl, hsz, hP, hK, hD0, hZ⟩ := hv
  subst hsz
  have hts := atoms_spec (ws := Cond.code y cc nL ret :: xc_T) B.pre
  have hD := hD0.self (sz := s.heap.size)
  have hl := lv_entry av (n := nL) hlen
  rw [lg_entry_eq]
  refine body (p, e, (headSpec (Cond.code y cc nL ret :: xc_T) (xd_rm n σ.2.2.1 σ.2.2.2)).room, s, m, av.toArray, below, meth, c) (va_A (xd_ws Z σ ds) s.heap.size) _ K ⟨B.exec, B.bytes, hml, findClass_of_methodNamed B.named, fun w hw => hts w (List.mem_cons_of_mem _ hw), hK, ⟨Nat.le_refl _, Nat.le_refl _⟩, fun q hq => Or.inr hq, hZ⟩ ⟨rfl, B.returns, B.notSynchronized⟩ (name_of_methodNamed B.named B.method).1 hr s.heap [] _ ds 0 0 hdm (by show 0 + σ.2.2.1 ≤ σ.2.2.1; omega) (by show 0 + σ.2.2.2 ≤ σ.2.2.2; omega) hP hD va_S.rf hl
end
