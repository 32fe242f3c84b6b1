section
variable {Z : xd_Z} {C : xc_C} {A : Nat → Prop} {Q : State → Prop} {n nL : Nat} {cc : ByteArray} {own : String} {t t1 t2 : Prop} {pc : Nat} {lv lv' : List (Nat × Value)} {st : List Value} {σ : xd_S}

theorem xd_fresh {Z : xd_Z} {σ : xd_S} {ds : List Nat} {A : Nat → Prop} {q : Nat} {e : va_E} (h : va_D A (xd_ws Z σ ds ++ [(q, e)])) : q ∉ ds := fun hm => by
  obtain ⟨k, hk⟩ := va_pl_get (X := xc_ws Z.1 σ.2.1) (f := xd_fc Z σ.1) hm
  have hk : (xd_ws Z σ ds)[k]? = some (q, xd_fc Z σ.1 q) := hk
  have hl := (List.getElem?_eq_some_iff.mp hk).1
  have h1 : (xd_ws Z σ ds ++ [(q, e)])[k]? = some (q, xd_fc Z σ.1 q) := by rw [List.getElem?_append_left hl]; exact hk
  have h2 : (xd_ws Z σ ds ++ [(q, e)])[(xd_ws Z σ ds).length]? = some (q, e) := by simp
  have := h.1 _ _ _ _ h1 h2 rfl
  omega
theorem xd_iald (h : xd_Ok Z C A n cc own nL) {a : Nat} {i : Int32} {f : Int32 → Prop} (hd : decode cc pc = .ok (.iaload, 1)) (k : ∀ v : Int32, xd_T Z C A Q nL (f v) (pc + 1) lv (.int v :: st) σ) : xd_T Z C A Q nL (xd_aI 0 a i σ f) pc lv (.int i :: .ref a :: st) σ := by
  intro ht H locs ls ds cu su hdm hcu hsu hP hD hS hl
  obtain ⟨cl, h1, h2, h3, h4⟩ := ht
  obtain ⟨q, hq⟩ := xd_get (Z := Z) hdm h1
  have e5 : xd_ent Z cl = .inl (Z.1.2.2.1.1, cl.2.1, .inl cl.2.2.1) := by simp [xd_ent, h2]
  rw [e5] at hq
  exact va_iald h.1 h.2.1 h.2.2.2.2.2.1 hP q 0 hq rfl h3 hd (k _ h4 H locs ls ds cu su hdm hcu hsu hP hD hS hl)
theorem xd_bald (h : xd_Ok Z C A n cc own nL) {a : Nat} {i : Int32} {f : Int32 → Prop} (hd : decode cc pc = .ok (.baload, 1)) (k : ∀ v : Int32, xd_T Z C A Q nL (f v) (pc + 1) lv (.int v :: st) σ) : xd_T Z C A Q nL (xd_aI 1 a i σ f) pc lv (.int i :: .ref a :: st) σ := by
  intro ht H locs ls ds cu su hdm hcu hsu hP hD hS hl
  obtain ⟨cl, h1, h2, h3, h4⟩ := ht
  obtain ⟨q, hq⟩ := xd_get (Z := Z) hdm h1
  have e5 : xd_ent Z cl = .inl (Z.1.2.2.1.2.1, cl.2.1, .inl cl.2.2.1) := by simp [xd_ent, h2]
  rw [e5] at hq
  exact va_bald h.1 h.2.1 h.2.2.2.2.2.1 hP q 1 hq rfl h3 hd (k _ h4 H locs ls ds cu su hdm hcu hsu hP hD hS hl)
theorem xd_iast (h : xd_Ok Z C A n cc own nL) {a : Nat} {i v : Int32} {f : xd_S → Prop} (hd : decode cc pc = .ok (.iastore, 1)) (k : ∀ τ : xd_S, xd_T Z C A Q nL (f τ) (pc + 1) lv st τ) : xd_T Z C A Q nL (xd_sI 0 a i v σ f) pc lv (.int v :: .int i :: .ref a :: st) σ := by
  intro ht H locs ls ds cu su hdm hcu hsu hP hD hS hl
  obtain ⟨cl, h1, h2, h3, h4⟩ := ht
  obtain ⟨q, hq⟩ := xd_get (Z := Z) hdm h1
  have e5 : xd_ent Z cl = .inl (Z.1.2.2.1.1, cl.2.1, .inl cl.2.2.1) := by simp [xd_ent, h2]
  have hq2 := hq
  rw [e5] at hq2
  refine va_iast h.1 h.2.1 h.2.2.2.2.2.1 hP hD hS q 0 hq2 rfl h3 hd (fun H1 locs1 hP1 hD1 hS1 => ?_)
  rw [show (xd_ws Z σ ds).set q (a, .inl (Z.1.2.2.1.1, cl.2.1, .inl (upd cl.2.2.1 i.toNatClampNeg v))) = xd_ws Z (xd_up σ.1 a (0, cl.2.1, upd cl.2.2.1 i.toNatClampNeg v, cl.2.2.2), σ.2) ds from xd_set (c2 := (0, cl.2.1, upd cl.2.2.1 i.toNatClampNeg v, cl.2.2.2)) hdm h1 hD hq] at hP1 hD1
  exact k _ h4 H1 locs1 ls ds cu su (xd_dom_up hdm h1) hcu hsu hP1 hD1 hS1 hl
theorem xd_bast (h : xd_Ok Z C A n cc own nL) {a : Nat} {i v : Int32} {f : xd_S → Prop} (hd : decode cc pc = .ok (.bastore, 1)) (k : ∀ τ : xd_S, xd_T Z C A Q nL (f τ) (pc + 1) lv st τ) : xd_T Z C A Q nL (xd_sI 1 a i (vp_nar .byte v) σ f) pc lv (.int v :: .int i :: .ref a :: st) σ := by
  intro ht H locs ls ds cu su hdm hcu hsu hP hD hS hl
  obtain ⟨cl, h1, h2, h3, h4⟩ := ht
  obtain ⟨q, hq⟩ := xd_get (Z := Z) hdm h1
  have e5 : xd_ent Z cl = .inl (Z.1.2.2.1.2.1, cl.2.1, .inl cl.2.2.1) := by simp [xd_ent, h2]
  have hq2 := hq
  rw [e5] at hq2
  refine va_bast h.1 h.2.1 h.2.2.2.2.2.1 hP hD hS q 1 hq2 rfl h3 hd (fun H1 locs1 hP1 hD1 hS1 => ?_)
  rw [show (xd_ws Z σ ds).set q (a, .inl (Z.1.2.2.1.2.1, cl.2.1, .inl (upd cl.2.2.1 i.toNatClampNeg (vp_nar .byte v)))) = xd_ws Z (xd_up σ.1 a (1, cl.2.1, upd cl.2.2.1 i.toNatClampNeg (vp_nar .byte v), cl.2.2.2), σ.2) ds from xd_set (c2 := (1, cl.2.1, upd cl.2.2.1 i.toNatClampNeg (vp_nar .byte v), cl.2.2.2)) hdm h1 hD hq] at hP1 hD1
  exact k _ h4 H1 locs1 ls ds cu su (xd_dom_up hdm h1) hcu hsu hP1 hD1 hS1 hl
theorem xd_aaldW {C0 : xc_C} {Z : xd_Z} {H : Heap} {locs : List Loc} {cu su : Nat} {tys : List (ClassId × FieldType)} {D : va_G} {ws : va_W} {ls : Array Slot} {st0 : List Value} (hx : C0.1.tables.exec = Jvm.exec) (hb : C0.2.2.2.2.2.2.2.2.code = cc) (hK : va_K D vwCl tys C0.2.2.2.1) (hP : va_P D vwCl ws H) (q0 t0 : Nat) {a : Nat} {cA : ClassId} {ty : FieldType} {m : Nat} {f : Nat → Option Nat} (ha : ws[q0]? = some (a, .inl (cA, m, .inr (.inr (.inr (.inr f)))))) (ht : tys[t0]? = some (cA, ty)) (hty : ty.isReference = true) {i : Int32} (hin : vp_in i m) (hdg : decode cc pc = .ok (.aaload, 1))
    (kk : xd_W Z C0 H locs cu su Q (F0 C0.2.2.2.2.1 (pc + 1) ls (va_rf (f i.toNatClampNeg) :: st0))) : xd_W Z C0 H locs cu su Q (F0 C0.2.2.2.2.1 pc ls (.int i :: .ref a :: st0)) := by
  have hlt : i.toNatClampNeg < m := Nat.not_le.mp fun q => hin (Or.inr q)
  exact W.aald (v := va_rf (f i.toNatClampNeg)) (ty := ty) hx hb (hP q0 _ ha) ((hK.2 t0 _ ht).1 m (fun j => va_rf (f j))) hty (fun q => by cases q) (by show ¬ (i < 0 ∨ (arrV _ _ _).slots.size ≤ _); rw [arrV_size]; exact hin) (by show (arrV _ _ _).slots[_]? = _; rw [arrV_read _ _ hlt]) rfl rfl hdg kk
theorem xd_aald2 (h : xd_Ok Z C A n cc own nL) {a : Nat} {i : Int32} {f : Nat → Prop} (hd : decode cc pc = .ok (.aaload, 1)) (k : ∀ b : Nat, xd_T Z C A Q nL (f b) (pc + 1) lv (.ref b :: st) σ) : xd_T Z C A Q nL (xd_aR 2 a i σ f) pc lv (.int i :: .ref a :: st) σ := by
  intro ht H locs ls ds cu su hdm hcu hsu hP hD hS hl
  obtain ⟨cl, b, h1, h2, h3, h4, h5⟩ := ht
  obtain ⟨q, hq⟩ := xd_get (Z := Z) hdm h1
  have e5 : xd_ent Z cl = .inl (Z.2.1.1, cl.2.1, .inr (.inr (.inr (.inr cl.2.2.2)))) := by simp [xd_ent, h2]
  rw [e5] at hq
  refine xd_aaldW h.1 h.2.1 h.2.2.2.2.2.1 hP q 3 hq rfl rfl h3 hd ?_
  rw [h4]
  exact k _ h5 H locs ls ds cu su hdm hcu hsu hP hD hS hl
theorem xd_aald3 (h : xd_Ok Z C A n cc own nL) {a : Nat} {i : Int32} {f : Nat → Prop} (hd : decode cc pc = .ok (.aaload, 1)) (k : ∀ b : Nat, xd_T Z C A Q nL (f b) (pc + 1) lv (.ref b :: st) σ) : xd_T Z C A Q nL (xd_aR 3 a i σ f) pc lv (.int i :: .ref a :: st) σ := by
  intro ht H locs ls ds cu su hdm hcu hsu hP hD hS hl
  obtain ⟨cl, b, h1, h2, h3, h4, h5⟩ := ht
  obtain ⟨q, hq⟩ := xd_get (Z := Z) hdm h1
  have e5 : xd_ent Z cl = .inl (Z.2.1.2.1, cl.2.1, .inr (.inr (.inr (.inr cl.2.2.2)))) := by simp [xd_ent, h2]
  rw [e5] at hq
  refine xd_aaldW h.1 h.2.1 h.2.2.2.2.2.1 hP q 4 hq rfl rfl h3 hd ?_
  rw [h4]
  exact k _ h5 H locs ls ds cu su hdm hcu hsu hP hD hS hl
theorem xd_aald4 (h : xd_Ok Z C A n cc own nL) {a : Nat} {i : Int32} {f : Nat → Prop} (hd : decode cc pc = .ok (.aaload, 1)) (k : ∀ b : Nat, xd_T Z C A Q nL (f b) (pc + 1) lv (.ref b :: st) σ) : xd_T Z C A Q nL (xd_aR 4 a i σ f) pc lv (.int i :: .ref a :: st) σ := by
  intro ht H locs ls ds cu su hdm hcu hsu hP hD hS hl
  obtain ⟨cl, b, h1, h2, h3, h4, h5⟩ := ht
  obtain ⟨q, hq⟩ := xd_get (Z := Z) hdm h1
  have e5 : xd_ent Z cl = .inl (Z.2.1.2.2, cl.2.1, .inr (.inr (.inr (.inr cl.2.2.2)))) := by simp [xd_ent, h2]
  rw [e5] at hq
  refine xd_aaldW h.1 h.2.1 h.2.2.2.2.2.1 hP q 5 hq rfl rfl h3 hd ?_
  rw [h4]
  exact k _ h5 H locs ls ds cu su hdm hcu hsu hP hD hS hl
theorem xd_compA {s : State} {Z : xd_Z} {D : va_G} {t : FieldType} {cA cB : ClassId} (hK : va_K D vwCl (xd_ty Z) s) (hA : xd_AA t s) (t0 t1 : Nat) (h0 : (xd_ty Z)[t0]? = some (cA, .array t)) (h1 : (xd_ty Z)[t1]? = some (cB, t)) : ∃ kA : Class, s.vm.classes[cA]? = some kA ∧ kA.kind = .array cB (.array t) := by
  obtain ⟨comp, c, k, g1, g2, g3, g4, g5⟩ := arrayOverA_spec (args := #[]) (first := s) (o := none) (s := s) (idx := []) hA
  have r0 : s.vm.findClass ("[" ++ (FieldType.array t).toString) = some cA := (hK.2 t0 _ h0).2
  have r1 : s.vm.findClass ("[" ++ t.toString) = some cB := by
    have := (hK.2 t1 _ h1).2
    cases t with
    | object N => obtain ⟨_, _, _, _, _, h⟩ := this; exact h
    | _ => exact this
  have e0 : c = cA := Option.some.inj (g5.symm.trans r0)
  have e1 : comp = cB := Option.some.inj (g1.symm.trans r1)
  subst e0 e1
  exact ⟨k, g3, g4⟩
theorem xd_aast2 (h : xd_Ok Z C A n cc own nL) {a b : Nat} {i : Int32} {f : xd_S → Prop} (hd : decode cc pc = .ok (.aastore, 1)) (k : ∀ τ : xd_S, xd_T Z C A Q nL (f τ) (pc + 1) lv st τ) : xd_T Z C A Q nL (xd_sR 2 0 a i b σ f) pc lv (.ref b :: .int i :: .ref a :: st) σ := by
  intro ht H locs ls ds cu su hdm hcu hsu hP hD hS hl
  obtain ⟨cl, d, h1, h2, h6, h7, h3, h4⟩ := ht
  obtain ⟨q, hq⟩ := xd_get (Z := Z) hdm h1
  obtain ⟨q2, hq2⟩ := xd_get (Z := Z) hdm h6
  have e5 : xd_ent Z cl = .inl (Z.2.1.1, cl.2.1, .inr (.inr (.inr (.inr cl.2.2.2)))) := by simp [xd_ent, h2]
  have e6 : xd_ent Z d = .inl (Z.1.2.2.1.1, d.2.1, .inl d.2.2.1) := by simp [xd_ent, h7]
  have hq3 := hq
  rw [e5] at hq3
  rw [e6] at hq2
  have hK := h.2.2.2.2.2.1
  obtain ⟨kA, k1, k2⟩ := xd_compA hK h.2.2.2.2.2.2.2.2.2.2.2.2.2.2.2.2.2.1 3 0 rfl rfl
  obtain ⟨-, kB, kB1, -⟩ := (hK.2 0 _ rfl).1 0 (fun _ => .null)
  have hlt : i.toNatClampNeg < cl.2.1 := Nat.not_le.mp fun z => h3 (Or.inr z)
  have h0 : ¬ i < 0 := fun z => h3 (Or.inl z)
  refine W.aast h.1 h.2.1 (hP q _ hq3) (fun z y => by cases y) (fun y => by cases y) k1 k2 rfl kB1 ⟨h0, by show _ < (arrV _ _ _).slots.size; rw [arrV_size]; exact hlt⟩ (hP q2 _ hq2) (fun z y => by cases y) kB1 (va_asg _ _) rfl rfl hd fun H1 e z oq => ?_
  have hP1 := hP.set (e := .inl (Z.2.1.1, cl.2.1, .inr (.inr (.inr (.inr (va_up cl.2.2.2 i.toNatClampNeg (some b))))))) hD hq3 (by
    show H1[a]? = some (vp_cell _ _)
    rw [e, vp_cell_q, vp_cell_q, arrV_store]
    congr 2
    funext j
    by_cases hj : j = i.toNatClampNeg
    · subst hj
      simp [updV, va_up, va_rf]
    · simp [updV, va_up, hj]) oq
  have hD1 := hD.set (e := .inl (Z.2.1.1, cl.2.1, .inr (.inr (.inr (.inr (va_up cl.2.2.2 i.toNatClampNeg (some b))))))) hq3
  rw [show (xd_ws Z σ ds).set q (a, .inl (Z.2.1.1, cl.2.1, .inr (.inr (.inr (.inr (va_up cl.2.2.2 i.toNatClampNeg (some b))))))) = xd_ws Z (xd_up σ.1 a (2, cl.2.1, cl.2.2.1, va_up cl.2.2.2 i.toNatClampNeg (some b)), σ.2) ds from xd_set (c2 := (2, cl.2.1, cl.2.2.1, va_up cl.2.2.2 i.toNatClampNeg (some b))) hdm h1 hD hq] at hP1 hD1
  exact k _ h4 H1 _ ls ds cu su (xd_dom_up hdm h1) hcu hsu hP1 hD1 (hS.put z oq (hD.2 q _ hq3)) hl
theorem xd_aast3 (h : xd_Ok Z C A n cc own nL) {a b : Nat} {i : Int32} {f : xd_S → Prop} (hd : decode cc pc = .ok (.aastore, 1)) (k : ∀ τ : xd_S, xd_T Z C A Q nL (f τ) (pc + 1) lv st τ) : xd_T Z C A Q nL (xd_sR 3 2 a i b σ f) pc lv (.ref b :: .int i :: .ref a :: st) σ := by
  intro ht H locs ls ds cu su hdm hcu hsu hP hD hS hl
  obtain ⟨cl, d, h1, h2, h6, h7, h3, h4⟩ := ht
  obtain ⟨q, hq⟩ := xd_get (Z := Z) hdm h1
  obtain ⟨q2, hq2⟩ := xd_get (Z := Z) hdm h6
  have e5 : xd_ent Z cl = .inl (Z.2.1.2.1, cl.2.1, .inr (.inr (.inr (.inr cl.2.2.2)))) := by simp [xd_ent, h2]
  have e6 : xd_ent Z d = .inl (Z.2.1.1, d.2.1, .inr (.inr (.inr (.inr d.2.2.2)))) := by simp [xd_ent, h7]
  have hq3 := hq
  rw [e5] at hq3
  rw [e6] at hq2
  have hK := h.2.2.2.2.2.1
  obtain ⟨kA, k1, k2⟩ := xd_compA hK h.2.2.2.2.2.2.2.2.2.2.2.2.2.2.2.2.2.2.1 4 3 rfl rfl
  obtain ⟨-, kB, kB1, -⟩ := (hK.2 3 _ rfl).1 0 (fun _ => .null)
  have hlt : i.toNatClampNeg < cl.2.1 := Nat.not_le.mp fun z => h3 (Or.inr z)
  have h0 : ¬ i < 0 := fun z => h3 (Or.inl z)
  refine W.aast h.1 h.2.1 (hP q _ hq3) (fun z y => by cases y) (fun y => by cases y) k1 k2 rfl kB1 ⟨h0, by show _ < (arrV _ _ _).slots.size; rw [arrV_size]; exact hlt⟩ (hP q2 _ hq2) (fun z y => by cases y) kB1 (va_asg _ _) rfl rfl hd fun H1 e z oq => ?_
  have hP1 := hP.set (e := .inl (Z.2.1.2.1, cl.2.1, .inr (.inr (.inr (.inr (va_up cl.2.2.2 i.toNatClampNeg (some b))))))) hD hq3 (by
    show H1[a]? = some (vp_cell _ _)
    rw [e, vp_cell_q, vp_cell_q, arrV_store]
    congr 2
    funext j
    by_cases hj : j = i.toNatClampNeg
    · subst hj
      simp [updV, va_up, va_rf]
    · simp [updV, va_up, hj]) oq
  have hD1 := hD.set (e := .inl (Z.2.1.2.1, cl.2.1, .inr (.inr (.inr (.inr (va_up cl.2.2.2 i.toNatClampNeg (some b))))))) hq3
  rw [show (xd_ws Z σ ds).set q (a, .inl (Z.2.1.2.1, cl.2.1, .inr (.inr (.inr (.inr (va_up cl.2.2.2 i.toNatClampNeg (some b))))))) = xd_ws Z (xd_up σ.1 a (3, cl.2.1, cl.2.2.1, va_up cl.2.2.2 i.toNatClampNeg (some b)), σ.2) ds from xd_set (c2 := (3, cl.2.1, cl.2.2.1, va_up cl.2.2.2 i.toNatClampNeg (some b))) hdm h1 hD hq] at hP1 hD1
  exact k _ h4 H1 _ ls ds cu su (xd_dom_up hdm h1) hcu hsu hP1 hD1 (hS.put z oq (hD.2 q _ hq3)) hl
theorem xd_aast4 (h : xd_Ok Z C A n cc own nL) {a b : Nat} {i : Int32} {f : xd_S → Prop} (hd : decode cc pc = .ok (.aastore, 1)) (k : ∀ τ : xd_S, xd_T Z C A Q nL (f τ) (pc + 1) lv st τ) : xd_T Z C A Q nL (xd_sR 4 14 a i b σ f) pc lv (.ref b :: .int i :: .ref a :: st) σ := by
  intro ht H locs ls ds cu su hdm hcu hsu hP hD hS hl
  obtain ⟨cl, d, h1, h2, h6, h7, h3, h4⟩ := ht
  obtain ⟨q, hq⟩ := xd_get (Z := Z) hdm h1
  obtain ⟨q2, hq2⟩ := xd_get (Z := Z) hdm h6
  have e5 : xd_ent Z cl = .inl (Z.2.1.2.2, cl.2.1, .inr (.inr (.inr (.inr cl.2.2.2)))) := by simp [xd_ent, h2]
  have e6 : xd_ent Z d = .inr (9, xd_fs 9 d) := by simp [xd_ent, h7]
  have hq3 := hq
  rw [e5] at hq3
  rw [e6] at hq2
  refine va_astq (r := (RX10, TX10, 16)) h.1 h.2.1 h.2.2.2.2.2.1 hP hD hS q 5 q2 9 hq3 rfl hq2 rfl h3 hd (fun H1 locs1 hP1 hD1 hS1 => ?_)
  rw [show (xd_ws Z σ ds).set q (a, .inl (Z.2.1.2.2, cl.2.1, .inr (.inr (.inr (.inr (va_up cl.2.2.2 i.toNatClampNeg (some b))))))) = xd_ws Z (xd_up σ.1 a (4, cl.2.1, cl.2.2.1, va_up cl.2.2.2 i.toNatClampNeg (some b)), σ.2) ds from xd_set (c2 := (4, cl.2.1, cl.2.2.1, va_up cl.2.2.2 i.toNatClampNeg (some b))) hdm h1 hD hq] at hP1 hD1
  exact k _ h4 H1 _ ls ds cu su (xd_dom_up hdm h1) hcu hsu hP1 hD1 hS1 hl
theorem xd_alen0 (h : xd_Ok Z C A n cc own nL) {a : Nat} {f : Int32 → Prop} (hd : decode cc pc = .ok (.arraylength, 1)) (k : ∀ v : Int32, xd_T Z C A Q nL (f v) (pc + 1) lv (.int v :: st) σ) : xd_T Z C A Q nL (xd_al 0 a σ f) pc lv (.ref a :: st) σ := by
  intro ht H locs ls ds cu su hdm hcu hsu hP hD hS hl
  obtain ⟨cl, h1, h2, h4⟩ := ht
  obtain ⟨q, hq⟩ := xd_get (Z := Z) hdm h1
  have e5 : xd_ent Z cl = .inl (Z.1.2.2.1.1, cl.2.1, .inl cl.2.2.1) := by simp [xd_ent, h2]
  rw [e5] at hq
  exact va_alen h.1 h.2.1 h.2.2.2.2.2.1 hP q 0 hq (ty := .int) rfl rfl hd (k _ h4 H locs ls ds cu su hdm hcu hsu hP hD hS hl)
theorem xd_alen1 (h : xd_Ok Z C A n cc own nL) {a : Nat} {f : Int32 → Prop} (hd : decode cc pc = .ok (.arraylength, 1)) (k : ∀ v : Int32, xd_T Z C A Q nL (f v) (pc + 1) lv (.int v :: st) σ) : xd_T Z C A Q nL (xd_al 1 a σ f) pc lv (.ref a :: st) σ := by
  intro ht H locs ls ds cu su hdm hcu hsu hP hD hS hl
  obtain ⟨cl, h1, h2, h4⟩ := ht
  obtain ⟨q, hq⟩ := xd_get (Z := Z) hdm h1
  have e5 : xd_ent Z cl = .inl (Z.1.2.2.1.2.1, cl.2.1, .inl cl.2.2.1) := by simp [xd_ent, h2]
  rw [e5] at hq
  exact va_alen h.1 h.2.1 h.2.2.2.2.2.1 hP q 1 hq (ty := .byte) rfl rfl hd (k _ h4 H locs ls ds cu su hdm hcu hsu hP hD hS hl)
theorem xd_alen2 (h : xd_Ok Z C A n cc own nL) {a : Nat} {f : Int32 → Prop} (hd : decode cc pc = .ok (.arraylength, 1)) (k : ∀ v : Int32, xd_T Z C A Q nL (f v) (pc + 1) lv (.int v :: st) σ) : xd_T Z C A Q nL (xd_al 2 a σ f) pc lv (.ref a :: st) σ := by
  intro ht H locs ls ds cu su hdm hcu hsu hP hD hS hl
  obtain ⟨cl, h1, h2, h4⟩ := ht
  obtain ⟨q, hq⟩ := xd_get (Z := Z) hdm h1
  have e5 : xd_ent Z cl = .inl (Z.2.1.1, cl.2.1, .inr (.inr (.inr (.inr cl.2.2.2)))) := by simp [xd_ent, h2]
  rw [e5] at hq
  exact va_alen h.1 h.2.1 h.2.2.2.2.2.1 hP q 3 hq (ty := .array .int) rfl rfl hd (k _ h4 H locs ls ds cu su hdm hcu hsu hP hD hS hl)
theorem xd_alen3 (h : xd_Ok Z C A n cc own nL) {a : Nat} {f : Int32 → Prop} (hd : decode cc pc = .ok (.arraylength, 1)) (k : ∀ v : Int32, xd_T Z C A Q nL (f v) (pc + 1) lv (.int v :: st) σ) : xd_T Z C A Q nL (xd_al 3 a σ f) pc lv (.ref a :: st) σ := by
  intro ht H locs ls ds cu su hdm hcu hsu hP hD hS hl
  obtain ⟨cl, h1, h2, h4⟩ := ht
  obtain ⟨q, hq⟩ := xd_get (Z := Z) hdm h1
  have e5 : xd_ent Z cl = .inl (Z.2.1.2.1, cl.2.1, .inr (.inr (.inr (.inr cl.2.2.2)))) := by simp [xd_ent, h2]
  rw [e5] at hq
  exact va_alen h.1 h.2.1 h.2.2.2.2.2.1 hP q 4 hq (ty := .array (.array .int)) rfl rfl hd (k _ h4 H locs ls ds cu su hdm hcu hsu hP hD hS hl)
theorem xd_alen4 (h : xd_Ok Z C A n cc own nL) {a : Nat} {f : Int32 → Prop} (hd : decode cc pc = .ok (.arraylength, 1)) (k : ∀ v : Int32, xd_T Z C A Q nL (f v) (pc + 1) lv (.int v :: st) σ) : xd_T Z C A Q nL (xd_al 4 a σ f) pc lv (.ref a :: st) σ := by
  intro ht H locs ls ds cu su hdm hcu hsu hP hD hS hl
  obtain ⟨cl, h1, h2, h4⟩ := ht
  obtain ⟨q, hq⟩ := xd_get (Z := Z) hdm h1
  have e5 : xd_ent Z cl = .inl (Z.2.1.2.2, cl.2.1, .inr (.inr (.inr (.inr cl.2.2.2)))) := by simp [xd_ent, h2]
  rw [e5] at hq
  exact va_alen h.1 h.2.1 h.2.2.2.2.2.1 hP q 5 hq (ty := .object "UnsaidWordsLaw$Talk") rfl rfl hd (k _ h4 H locs ls ds cu su hdm hcu hsu hP hD hS hl)
theorem xd_sld (h : xd_Ok Z C A n cc own nL) {i : Int32} {f : Int32 → Prop} (hd : decode cc pc = .ok (.iaload, 1)) (k : ∀ v : Int32, xd_T Z C A Q nL (f v) (pc + 1) lv (.int v :: st) σ) : xd_T Z C A Q nL (xd_sc Z.2.2.1 i f) pc lv (.int i :: .ref Z.2.2.1.1 :: st) σ := by
  intro ht H locs ls ds cu su hdm hcu hsu hP hD hS hl
  have hz := h.2.2.2.2.2.2.2.2.2.2.2.1
  exact va_sld h.1 h.2.1 hz.1 hz.2.1 hz.2.2 hS ht.1 hd (k _ ht.2 H locs ls ds cu su hdm hcu hsu hP hD hS hl)
theorem xd_slen (h : xd_Ok Z C A n cc own nL) (hd : decode cc pc = .ok (.arraylength, 1)) (k : xd_T Z C A Q nL t (pc + 1) lv (.int (nI Z.2.2.1.2.1) :: st) σ) : xd_T Z C A Q nL t pc lv (.ref Z.2.2.1.1 :: st) σ := by
  intro ht H locs ls ds cu su hdm hcu hsu hP hD hS hl
  have hz := h.2.2.2.2.2.2.2.2.2.2.2.1
  exact va_slen h.1 h.2.1 hz.1 hz.2.1 hz.2.2 hS hd (k ht H locs ls ds cu su hdm hcu hsu hP hD hS hl)
theorem xd_ldcS (h : xd_Ok Z C A n cc RL nL) {ix : Nat} (i : Nat) (hd : decode cc pc = .ok (.ldc ix, 2)) (hi : i < yk_n) (he : yk_ix.getD i 0 = ix) (k : xd_T Z C A Q nL t (pc + 2) lv (.ref (Z.2.2.2.1 i) :: st) σ) : xd_T Z C A Q nL t pc lv st σ := fun ht H locs ls ds cu su hdm hcu hsu hP hD hS hl => va_ldcS (tx := yk_tx.getD i "") h.1 h.2.1 h.2.2.2.1 (by rw [← he]; exact h.2.2.2.2.2.2.2.2.2.2.1 i hi) hd (k ht H locs ls ds cu su hdm hcu hsu hP hD hS hl)
theorem xd_scoder (h : xd_Ok Z C A n cc own nL) {ix i : Nat} (hd : decode cc pc = .ok (.getfield ix, 3)) (hw : Cond.fieldLink own ix "java/lang/String" "coder" "B" ∈ xc_T) (hi : i < yk_n) (k : xd_T Z C A Q nL t (pc + 3) lv (.int 0 :: st) σ) : xd_T Z C A Q nL t pc lv (.ref (Z.2.2.2.1 i) :: st) σ := fun ht H locs ls ds cu su hdm hcu hsu hP hD hS hl => vk_getf h.1 h.2.1 (h.2.2.2.2.2.2.2.2.2.1.1 i hi).2.1 hS h.2.2.2.1 (h.2.2.2.2.1 _ hw) (fun _ q => q) hd (k ht H locs ls ds cu su hdm hcu hsu hP hD hS hl)
theorem xd_sval (h : xd_Ok Z C A n cc own nL) {ix i : Nat} (hd : decode cc pc = .ok (.getfield ix, 3)) (hw : Cond.fieldLink own ix "java/lang/String" "value" "[B" ∈ xc_T) (hi : i < yk_n) (k : xd_T Z C A Q nL t (pc + 3) lv (.ref (Z.2.2.2.2.1 i) :: st) σ) : xd_T Z C A Q nL t pc lv (.ref (Z.2.2.2.1 i) :: st) σ := fun ht H locs ls ds cu su hdm hcu hsu hP hD hS hl => vk_getf h.1 h.2.1 (h.2.2.2.2.2.2.2.2.2.1.1 i hi).2.2.1 hS h.2.2.2.1 (h.2.2.2.2.1 _ hw) (fun _ q => q) hd (k ht H locs ls ds cu su hdm hcu hsu hP hD hS hl)
theorem xd_salen (h : xd_Ok Z C A n cc own nL) {i : Nat} (hd : decode cc pc = .ok (.arraylength, 1)) (hi : i < yk_n) (k : xd_T Z C A Q nL t (pc + 1) lv (.int (nI (yk_len.getD i 0)) :: st) σ) : xd_T Z C A Q nL t pc lv (.ref (Z.2.2.2.2.1 i) :: st) σ := fun ht H locs ls ds cu su hdm hcu hsu hP hD hS hl => va_tlen h.1 h.2.1 (h.2.2.2.2.2.2.2.2.2.1.1 i hi).2.2.2 hS rfl hd (k ht H locs ls ds cu su hdm hcu hsu hP hD hS hl)
theorem xd_getcs (h : xd_Ok Z C A n cc own nL) {ix : Nat} (hd : decode cc pc = .ok (.getstatic ix, 3)) (hw : Cond.fieldLink own ix "java/lang/String" "COMPACT_STRINGS" "Z" ∈ xc_T) (k : xd_T Z C A Q nL t (pc + 3) lv (.int 1 :: st) σ) : xd_T Z C A Q nL t pc lv st σ := fun ht H locs ls ds cu su hdm hcu hsu hP hD hS hl => va_gets h.1 h.2.1 h.2.2.2.2.2.2.2.2.1.2.2.1 hS h.2.2.2.1 (h.2.2.2.2.1 _ hw) (fun _ q => q) hd (k ht H locs ls ds cu su hdm hcu hsu hP hD hS hl)
theorem xd_get_ones (h : xd_Ok Z C A n cc own nL) {ix : Nat} (hd : decode cc pc = .ok (.getstatic ix, 3)) (hw : Cond.fieldLink own ix "java/lang/Integer" "DigitOnes" "[B" ∈ xc_T) (k : xd_T Z C A Q nL t (pc + 3) lv (.ref Z.2.2.2.2.2.1 :: st) σ) : xd_T Z C A Q nL t pc lv st σ := fun ht H locs ls ds cu su hdm hcu hsu hP hD hS hl => va_gets h.1 h.2.1 h.2.2.2.2.2.2.2.2.2.2.2.2.1.1 hS h.2.2.2.1 (h.2.2.2.2.1 _ hw) (fun _ q => q) hd (k ht H locs ls ds cu su hdm hcu hsu hP hD hS hl)
theorem xd_bald_ones (h : xd_Ok Z C A n cc own nL) {i : Int32} {f : Int32 → Prop} (hd : decode cc pc = .ok (.baload, 1)) (k : ∀ v : Int32, xd_T Z C A Q nL (f v) (pc + 1) lv (.int v :: st) σ) : xd_T Z C A Q nL (xd_dg yd_ones i f) pc lv (.int i :: .ref Z.2.2.2.2.2.1 :: st) σ := fun ht H locs ls ds cu su hdm hcu hsu hP hD hS hl => va_tb h.1 h.2.1 h.2.2.2.2.2.2.2.2.2.2.2.2.1.2 hS ht.1 rfl hd (k _ ht.2 H locs ls ds cu su hdm hcu hsu hP hD hS hl)
theorem xd_get_tens (h : xd_Ok Z C A n cc own nL) {ix : Nat} (hd : decode cc pc = .ok (.getstatic ix, 3)) (hw : Cond.fieldLink own ix "java/lang/Integer" "DigitTens" "[B" ∈ xc_T) (k : xd_T Z C A Q nL t (pc + 3) lv (.ref Z.2.2.2.2.2.2 :: st) σ) : xd_T Z C A Q nL t pc lv st σ := fun ht H locs ls ds cu su hdm hcu hsu hP hD hS hl => va_gets h.1 h.2.1 h.2.2.2.2.2.2.2.2.2.2.2.2.2.1.1 hS h.2.2.2.1 (h.2.2.2.2.1 _ hw) (fun _ q => q) hd (k ht H locs ls ds cu su hdm hcu hsu hP hD hS hl)
theorem xd_bald_tens (h : xd_Ok Z C A n cc own nL) {i : Int32} {f : Int32 → Prop} (hd : decode cc pc = .ok (.baload, 1)) (k : ∀ v : Int32, xd_T Z C A Q nL (f v) (pc + 1) lv (.int v :: st) σ) : xd_T Z C A Q nL (xd_dg yd_tens i f) pc lv (.int i :: .ref Z.2.2.2.2.2.2 :: st) σ := fun ht H locs ls ds cu su hdm hcu hsu hP hD hS hl => va_tb h.1 h.2.1 h.2.2.2.2.2.2.2.2.2.2.2.2.2.1.2 hS ht.1 rfl hd (k _ ht.2 H locs ls ds cu su hdm hcu hsu hP hD hS hl)
theorem xd_new (h : xd_Ok Z C A n cc own nL) {c ix N : Nat} {R : String} {T : u_T} {ty : Nat → FieldType} (hK : xd_Kl c R T N ty) {f : Nat → xd_S → Prop} (hd : decode cc pc = .ok (.new ix, 3)) (hcl : Cond.classLink own ix R ∈ xc_T) (hin : Cond.instantiable R N ∈ xc_T) (hiz : Cond.initialized R ∈ xc_T) (hz : ∀ j, j < N → defaultValue (ty j) = vp_V (xd_fs c (c + 5, 0, fun _ => 0, fun _ => none)) j) (k : ∀ (a : Nat) (τ : xd_S), xd_T Z C A Q nL (f a τ) (pc + 3) lv (.ref a :: st) τ) : xd_T Z C A Q nL (xd_nw (c + 5, 0, fun _ => 0, fun _ => none) N σ f) pc lv st σ := by
  intro ht H locs ls ds cu su hdm hcu hsu hP hD hS hl
  obtain ⟨g1, g2, g3⟩ := ht
  refine va_new (fs := xd_fs c (c + 5, 0, fun _ => 0, fun _ => none)) h.1 h.2.1 h.2.2.2.2.1 hK.2.1 ty hK.2.2.1 h.2.2.2.1 (h.2.2.2.2.1 _ hcl) (h.2.2.2.2.1 _ hin) (h.2.2.2.2.1 _ hiz) h.2.2.2.2.2.1 hP hD hS h.2.2.2.2.2.2.2.1 hK.1 hz (by omega) (by omega) hd (fun q H1 hP1 hD1 hS1 => ?_)
  have hf := xd_fresh hD1
  rw [show xd_ws Z σ ds ++ [(q, .inr (c, xd_fs c (c + 5, 0, fun _ => 0, fun _ => none)))] = xd_ws Z (xd_up σ.1 q (c + 5, 0, fun _ => 0, fun _ => none), σ.2.1, σ.2.2.1 - 1, σ.2.2.2 - N) (ds ++ [q]) from xd_push (Z := Z) (σ := σ) (c2 := (c + 5, 0, fun _ => 0, fun _ => none)) hf] at hP1 hD1
  exact k q _ (g3 q (xd_none hdm hf)) H1 locs ls (ds ++ [q]) (cu + 1) (su + N) (xd_dom_push hdm) (by show cu + 1 + (σ.2.2.1 - 1) ≤ _; omega) (by show su + N + (σ.2.2.2 - N) ≤ _; omega) hP1 hD1 hS1 hl
theorem xd_newa0 (h : xd_Ok Z C A n cc own nL) {m : Int32} {f : Nat → xd_S → Prop} (hd : decode cc pc = .ok (.newarray .int, 2)) (hw : Cond.arrayClass .int ∈ xc_T) (k : ∀ (a : Nat) (τ : xd_S), xd_T Z C A Q nL (f a τ) (pc + 2) lv (.ref a :: st) τ) : xd_T Z C A Q nL (xd_na 0 m σ f) pc lv (.int m :: st) σ := by
  intro ht H locs ls ds cu su hdm hcu hsu hP hD hS hl
  obtain ⟨hm, hb, g1, g2, g3⟩ := ht
  refine va_newa (atype := .int) (ty := .int) (N' := m.toNatClampNeg) (a0 := (m.toNatClampNeg, .inl (fun _ => 0))) h.1 h.2.1 (h.2.2.2.2.1 _ hw) rfl h.2.2.2.2.2.1 hP hD hS h.2.2.2.2.2.2.2.1 (fun cA => rfl) hm rfl (by show m.toNatClampNeg * 4 ≤ _; omega) (by omega) (by omega) hd (fun q cA H1 hK1 hP1 hD1 hS1 => ?_)
  have e0 : cA = Z.1.2.2.1.1 := by
    have r1 : C.2.2.2.1.vm.findClass ("[" ++ (FieldType.toString .int)) = some cA := (hK1.2 6 _ rfl).2
    have r2 : C.2.2.2.1.vm.findClass ("[" ++ (FieldType.toString .int)) = some Z.1.2.2.1.1 := (h.2.2.2.2.2.1.2 0 _ rfl).2
    exact Option.some.inj (r1.symm.trans r2)
  subst e0
  have hf := xd_fresh hD1
  rw [show xd_ws Z σ ds ++ [(q, .inl (Z.1.2.2.1.1, m.toNatClampNeg, .inl (fun _ => 0)))] = xd_ws Z (xd_up σ.1 q (0, m.toNatClampNeg, fun _ => 0, fun _ => none), σ.2.1, σ.2.2.1 - 1, σ.2.2.2 - m.toNatClampNeg) (ds ++ [q]) from xd_push (Z := Z) (σ := σ) (c2 := (0, m.toNatClampNeg, fun _ => 0, fun _ => none)) hf] at hP1 hD1
  exact k q _ (g3 q (xd_none hdm hf)) H1 locs ls (ds ++ [q]) (cu + 1) (su + m.toNatClampNeg) (xd_dom_push hdm) (by show cu + 1 + (σ.2.2.1 - 1) ≤ _; omega) (by show su + m.toNatClampNeg + (σ.2.2.2 - m.toNatClampNeg) ≤ _; omega) hP1 hD1 hS1 hl
theorem xd_newa1 (h : xd_Ok Z C A n cc own nL) {m : Int32} {f : Nat → xd_S → Prop} (hd : decode cc pc = .ok (.newarray .byte, 2)) (hw : Cond.arrayClass .byte ∈ xc_T) (k : ∀ (a : Nat) (τ : xd_S), xd_T Z C A Q nL (f a τ) (pc + 2) lv (.ref a :: st) τ) : xd_T Z C A Q nL (xd_na 1 m σ f) pc lv (.int m :: st) σ := by
  intro ht H locs ls ds cu su hdm hcu hsu hP hD hS hl
  obtain ⟨hm, hb, g1, g2, g3⟩ := ht
  refine va_newa (atype := .byte) (ty := .byte) (N' := m.toNatClampNeg) (a0 := (m.toNatClampNeg, .inl (fun _ => 0))) h.1 h.2.1 (h.2.2.2.2.1 _ hw) rfl h.2.2.2.2.2.1 hP hD hS h.2.2.2.2.2.2.2.1 (fun cA => rfl) hm rfl (by show m.toNatClampNeg * 1 ≤ _; omega) (by omega) (by omega) hd (fun q cA H1 hK1 hP1 hD1 hS1 => ?_)
  have e0 : cA = Z.1.2.2.1.2.1 := by
    have r1 : C.2.2.2.1.vm.findClass ("[" ++ (FieldType.toString .byte)) = some cA := (hK1.2 6 _ rfl).2
    have r2 : C.2.2.2.1.vm.findClass ("[" ++ (FieldType.toString .byte)) = some Z.1.2.2.1.2.1 := (h.2.2.2.2.2.1.2 1 _ rfl).2
    exact Option.some.inj (r1.symm.trans r2)
  subst e0
  have hf := xd_fresh hD1
  rw [show xd_ws Z σ ds ++ [(q, .inl (Z.1.2.2.1.2.1, m.toNatClampNeg, .inl (fun _ => 0)))] = xd_ws Z (xd_up σ.1 q (1, m.toNatClampNeg, fun _ => 0, fun _ => none), σ.2.1, σ.2.2.1 - 1, σ.2.2.2 - m.toNatClampNeg) (ds ++ [q]) from xd_push (Z := Z) (σ := σ) (c2 := (1, m.toNatClampNeg, fun _ => 0, fun _ => none)) hf] at hP1 hD1
  exact k q _ (g3 q (xd_none hdm hf)) H1 locs ls (ds ++ [q]) (cu + 1) (su + m.toNatClampNeg) (xd_dom_push hdm) (by show cu + 1 + (σ.2.2.1 - 1) ≤ _; omega) (by show su + m.toNatClampNeg + (σ.2.2.2 - m.toNatClampNeg) ≤ _; omega) hP1 hD1 hS1 hl
theorem xd_newq4 (h : xd_Ok Z C A n cc own nL) {ix : Nat} {m : Int32} {f : Nat → xd_S → Prop} (hd : decode cc pc = .ok (.anewarray ix, 3)) (hw : Cond.classLink own ix "UnsaidWordsLaw$Talk" ∈ xc_T) (k : ∀ (a : Nat) (τ : xd_S), xd_T Z C A Q nL (f a τ) (pc + 3) lv (.ref a :: st) τ) : xd_T Z C A Q nL (xd_na 4 m σ f) pc lv (.int m :: st) σ := by
  intro ht H locs ls ds cu su hdm hcu hsu hP hD hS hl
  obtain ⟨hm, hb, g1, g2, g3⟩ := ht
  refine va_newq (N' := m.toNatClampNeg) h.1 h.2.1 h.2.2.2.1 (h.2.2.2.2.1 _ hw) h.2.2.2.2.2.2.2.2.2.2.2.2.2.2.2.2.2.2.2.1 h.2.2.2.2.2.1 hP hD hS h.2.2.2.2.2.2.2.1 hm rfl hb (by omega) (by omega) hd (fun q cA H1 hK1 hP1 hD1 hS1 => ?_)
  have e0 : cA = Z.2.1.2.2 := by
    obtain ⟨_, _, _, _, _, r1⟩ := (hK1.2 6 _ rfl).2
    obtain ⟨_, _, _, _, _, r2⟩ := (h.2.2.2.2.2.1.2 5 _ rfl).2
    exact Option.some.inj (r1.symm.trans r2)
  subst e0
  have hf := xd_fresh hD1
  rw [show xd_ws Z σ ds ++ [(q, .inl (Z.2.1.2.2, m.toNatClampNeg, .inr (.inr (.inr (.inr (fun _ => none))))))] = xd_ws Z (xd_up σ.1 q (4, m.toNatClampNeg, fun _ => 0, fun _ => none), σ.2.1, σ.2.2.1 - 1, σ.2.2.2 - m.toNatClampNeg) (ds ++ [q]) from xd_push (Z := Z) (σ := σ) (c2 := (4, m.toNatClampNeg, fun _ => 0, fun _ => none)) hf] at hP1 hD1
  exact k q _ (g3 q (xd_none hdm hf)) H1 locs ls (ds ++ [q]) (cu + 1) (su + m.toNatClampNeg) (xd_dom_push hdm) (by show cu + 1 + (σ.2.2.1 - 1) ≤ _; omega) (by show su + m.toNatClampNeg + (σ.2.2.2 - m.toNatClampNeg) ≤ _; omega) hP1 hD1 hS1 hl
theorem xd_newq2 (h : xd_Ok Z C A n cc own nL) {ix : Nat} {m : Int32} {f : Nat → xd_S → Prop} (hd : decode cc pc = .ok (.anewarray ix, 3)) (hw : Cond.classLink own ix "[I" ∈ xc_T) (k : ∀ (a : Nat) (τ : xd_S), xd_T Z C A Q nL (f a τ) (pc + 3) lv (.ref a :: st) τ) : xd_T Z C A Q nL (xd_na 2 m σ f) pc lv (.int m :: st) σ := by
  intro ht H locs ls ds cu su hdm hcu hsu hP hD hS hl
  obtain ⟨hm, hb, g1, g2, g3⟩ := ht
  refine W.anewA (t := .int) h.1 h.2.1 h.2.2.2.1 (h.2.2.2.2.1 _ hw) h.2.2.2.2.2.2.2.2.2.2.2.2.2.2.2.2.2.1 rfl hd rfl hm hb (by omega) (by omega) fun cA kA comp f1 f2 f3 f4 => ?_
  have e0 : cA = Z.2.1.1 := Option.some.inj (f1.symm.trans (h.2.2.2.2.2.1.2 3 _ rfl).2)
  subst e0
  generalize hH1 : H.push ({ cls := Z.2.1.1, slots := Array.replicate m.toNatClampNeg .null, vm := .none } : Cell) = H1
  have z1 : H1.size = H.size + 1 := by rw [← hH1, Array.size_push]
  have e1 : H1[H.size]? = some (arrV Z.2.1.1 m.toNatClampNeg (fun _ => .null)) := by rw [← hH1, Array.getElem?_push_size, ← arrV_new]
  have o1 : ∀ q : Nat, q < H.size → H1[q]? = H[q]? := fun q hq => by rw [← hH1, Array.getElem?_push, if_neg (Nat.ne_of_lt hq)]
  have hk : ∀ (j : Nat) (x : Nat × va_E), (xd_ws Z σ ds)[j]? = some x → H1[x.1]? = H[x.1]? := fun j x hx => o1 x.1 ((hP j x hx).lt)
  have hP1 := (hP.kept hk).app (w2 := [(H.size, .inl (Z.2.1.1, m.toNatClampNeg, .inr (.inr (.inr (.inr (fun _ => none))))))]) (fun j x hx => by
    have hz : j < 1 := (List.getElem?_eq_some_iff.mp hx).1
    rw [show j = 0 by omega] at hx
    cases hx
    show H1[H.size]? = some (vp_cell _ _)
    rw [vp_cell_q]
    exact e1)
  have hD1 := hD.push (e := .inl (Z.2.1.1, m.toNatClampNeg, .inr (.inr (.inr (.inr (fun _ => none)))))) hP rfl (h.2.2.2.2.2.2.2.1 _ hS.1)
  have hf := xd_fresh hD1
  rw [show xd_ws Z σ ds ++ [(H.size, .inl (Z.2.1.1, m.toNatClampNeg, .inr (.inr (.inr (.inr (fun _ => none))))))] = xd_ws Z (xd_up σ.1 H.size (2, m.toNatClampNeg, fun _ => 0, fun _ => none), σ.2.1, σ.2.2.1 - 1, σ.2.2.2 - m.toNatClampNeg) (ds ++ [H.size]) from xd_push (Z := Z) (σ := σ) (c2 := (2, m.toNatClampNeg, fun _ => 0, fun _ => none)) hf] at hP1 hD1
  exact k H.size _ (g3 H.size (xd_none hdm hf)) H1 locs ls (ds ++ [H.size]) (cu + 1) (su + m.toNatClampNeg) (xd_dom_push hdm) (by show cu + 1 + (σ.2.2.1 - 1) ≤ _; omega) (by show su + m.toNatClampNeg + (σ.2.2.2 - m.toNatClampNeg) ≤ _; omega) hP1 hD1 ⟨Nat.le_trans hS.1 (by omega), fun x h1 h2 => (o1 x (Nat.lt_of_lt_of_le h1 hS.1)).trans (hS.2.1 x h1 h2), hS.2.2⟩ hl
theorem xd_newq3 (h : xd_Ok Z C A n cc own nL) {ix : Nat} {m : Int32} {f : Nat → xd_S → Prop} (hd : decode cc pc = .ok (.anewarray ix, 3)) (hw : Cond.classLink own ix "[[I" ∈ xc_T) (k : ∀ (a : Nat) (τ : xd_S), xd_T Z C A Q nL (f a τ) (pc + 3) lv (.ref a :: st) τ) : xd_T Z C A Q nL (xd_na 3 m σ f) pc lv (.int m :: st) σ := by
  intro ht H locs ls ds cu su hdm hcu hsu hP hD hS hl
  obtain ⟨hm, hb, g1, g2, g3⟩ := ht
  refine W.anewA (t := (.array .int)) h.1 h.2.1 h.2.2.2.1 (h.2.2.2.2.1 _ hw) h.2.2.2.2.2.2.2.2.2.2.2.2.2.2.2.2.2.2.1 rfl hd rfl hm hb (by omega) (by omega) fun cA kA comp f1 f2 f3 f4 => ?_
  have e0 : cA = Z.2.1.2.1 := Option.some.inj (f1.symm.trans (h.2.2.2.2.2.1.2 4 _ rfl).2)
  subst e0
  generalize hH1 : H.push ({ cls := Z.2.1.2.1, slots := Array.replicate m.toNatClampNeg .null, vm := .none } : Cell) = H1
  have z1 : H1.size = H.size + 1 := by rw [← hH1, Array.size_push]
  have e1 : H1[H.size]? = some (arrV Z.2.1.2.1 m.toNatClampNeg (fun _ => .null)) := by rw [← hH1, Array.getElem?_push_size, ← arrV_new]
  have o1 : ∀ q : Nat, q < H.size → H1[q]? = H[q]? := fun q hq => by rw [← hH1, Array.getElem?_push, if_neg (Nat.ne_of_lt hq)]
  have hk : ∀ (j : Nat) (x : Nat × va_E), (xd_ws Z σ ds)[j]? = some x → H1[x.1]? = H[x.1]? := fun j x hx => o1 x.1 ((hP j x hx).lt)
  have hP1 := (hP.kept hk).app (w2 := [(H.size, .inl (Z.2.1.2.1, m.toNatClampNeg, .inr (.inr (.inr (.inr (fun _ => none))))))]) (fun j x hx => by
    have hz : j < 1 := (List.getElem?_eq_some_iff.mp hx).1
    rw [show j = 0 by omega] at hx
    cases hx
    show H1[H.size]? = some (vp_cell _ _)
    rw [vp_cell_q]
    exact e1)
  have hD1 := hD.push (e := .inl (Z.2.1.2.1, m.toNatClampNeg, .inr (.inr (.inr (.inr (fun _ => none)))))) hP rfl (h.2.2.2.2.2.2.2.1 _ hS.1)
  have hf := xd_fresh hD1
  rw [show xd_ws Z σ ds ++ [(H.size, .inl (Z.2.1.2.1, m.toNatClampNeg, .inr (.inr (.inr (.inr (fun _ => none))))))] = xd_ws Z (xd_up σ.1 H.size (3, m.toNatClampNeg, fun _ => 0, fun _ => none), σ.2.1, σ.2.2.1 - 1, σ.2.2.2 - m.toNatClampNeg) (ds ++ [H.size]) from xd_push (Z := Z) (σ := σ) (c2 := (3, m.toNatClampNeg, fun _ => 0, fun _ => none)) hf] at hP1 hD1
  exact k H.size _ (g3 H.size (xd_none hdm hf)) H1 locs ls (ds ++ [H.size]) (cu + 1) (su + m.toNatClampNeg) (xd_dom_push hdm) (by show cu + 1 + (σ.2.2.1 - 1) ≤ _; omega) (by show su + m.toNatClampNeg + (σ.2.2.2 - m.toNatClampNeg) ≤ _; omega) hP1 hD1 ⟨Nat.le_trans hS.1 (by omega), fun x h1 h2 => (o1 x (Nat.lt_of_lt_of_le h1 hS.1)).trans (hS.2.1 x h1 h2), hS.2.2⟩ hl
def xd_Lk (own : String) (ix : Nat) : Prop := Cond.methodLink own ix ⟨"[I", "clone", "()Ljava/lang/Object;"⟩ ∈ xc_T ∧ Cond.sameMethod "[I" "java/lang/Object" "clone" "()Ljava/lang/Object;" ∈ xc_T ∧ Cond.native ⟨"java/lang/Object", "clone", "()Ljava/lang/Object;"⟩ ∈ xc_T ∧ Cond.instanceMethod ⟨"java/lang/Object", "clone", "()Ljava/lang/Object;"⟩ ∈ xc_T ∧ Cond.selects "[I" ⟨"[I", "clone", "()Ljava/lang/Object;"⟩ ⟨"java/lang/Object", "clone", "()Ljava/lang/Object;"⟩ ∈ xc_T
theorem xd_clone (h : xd_Ok Z C A n cc own nL) {ix a : Nat} {f : Nat → xd_S → Prop} (hd : decode cc pc = .ok (.invokevirtual ix, 3)) (hw : xd_Lk own ix) (hcat : (st.map fun v => v.category).sum ≤ 8) (k : ∀ (b : Nat) (τ : xd_S), xd_T Z C A Q nL (f b τ) (pc + 3) lv (.ref b :: st) τ) : xd_T Z C A Q nL (xd_cl a σ f) pc lv (.ref a :: st) σ := by
  intro ht H locs ls ds cu su hdm hcu hsu hP hD hS hl
  obtain ⟨cl, h1, h2, g1, g2, g3⟩ := ht
  obtain ⟨q, hq⟩ := xd_get (Z := Z) hdm h1
  have e5 : xd_ent Z cl = .inl (Z.1.2.2.1.1, cl.2.1, .inl cl.2.2.1) := by simp [xd_ent, h2]
  rw [e5] at hq
  have hK := h.2.2.2.2.2.1
  have hr := h.2.2.2.2.2.2.1
  refine va_clone (ad := "[I") h.1 h.2.1 (h.2.2.1.trans hl.1.symm) h.2.2.2.1 (h.2.2.2.2.1 _ hw.1) (h.2.2.2.2.1 _ hw.2.1) (h.2.2.2.2.1 _ hw.2.2.1) (h.2.2.2.2.1 _ hw.2.2.2.1) (h.2.2.2.2.1 _ hw.2.2.2.2) h.2.2.2.2.2.2.2.2.2.2.2.2.2.2.2.2.1 hK hP hD hS h.2.2.2.2.2.2.2.1 q 0 hq rfl (hK.2 0 _ rfl).2 (fun i v hv => ?_) (by omega) (by omega) (by omega) (by show su + cl.2.1 ≤ _; omega) hd (fun q1 H1 hK1 hP1 hD1 hS1 => ?_)
  · have hl2 : i < cl.2.1 := by
      have := (Array.getElem?_eq_some_iff.mp hv).1
      rw [vp_cell_i, arrV_size] at this
      exact this
    rw [vp_cell_i, arrV_read _ _ hl2] at hv
    cases hv
    rfl
  · have hf := xd_fresh hD1
    rw [show xd_ws Z σ ds ++ [(q1, .inl (Z.1.2.2.1.1, cl.2.1, .inl cl.2.2.1))] = xd_ws Z (xd_up σ.1 q1 (0, cl.2.1, cl.2.2.1, fun _ => none), σ.2.1, σ.2.2.1 - 1, σ.2.2.2 - cl.2.1) (ds ++ [q1]) from xd_push (Z := Z) (σ := σ) (c2 := (0, cl.2.1, cl.2.2.1, fun _ => none)) hf] at hP1 hD1
    exact k q1 _ (g3 q1 (xd_none hdm hf)) H1 locs ls (ds ++ [q1]) (cu + 1) (su + cl.2.1) (xd_dom_push hdm) (by show cu + 1 + (σ.2.2.1 - 1) ≤ _; omega) (by show su + cl.2.1 + (σ.2.2.2 - cl.2.1) ≤ _; omega) hP1 hD1 hS1 hl
def xd_is (k a : Nat) (σ : xd_S) (t : Prop) : Prop := (∃ c : xd_C, σ.1 a = some c ∧ c.1 = k) ∧ t
theorem xd_castI (h : xd_Ok Z C A n cc own nL) {ix a : Nat} (hd : decode cc pc = .ok (.checkcast ix, 3)) (hw : Cond.classLink own ix "[I" ∈ xc_T) (k : xd_T Z C A Q nL t (pc + 3) lv (.ref a :: st) σ) : xd_T Z C A Q nL (xd_is 0 a σ t) pc lv (.ref a :: st) σ := by
  intro ht H locs ls ds cu su hdm hcu hsu hP hD hS hl
  obtain ⟨⟨cl, h1, h2⟩, h3⟩ := ht
  obtain ⟨q, hq⟩ := xd_get (Z := Z) hdm h1
  have e5 : xd_ent Z cl = .inl (Z.1.2.2.1.1, cl.2.1, .inl cl.2.2.1) := by simp [xd_ent, h2]
  rw [e5] at hq
  exact va_castA (nm := "[I") h.1 h.2.1 h.2.2.2.1 (h.2.2.2.2.1 _ hw) hP q hq (h.2.2.2.2.2.1.2 0 _ rfl).2 hd (k h3 H locs ls ds cu su hdm hcu hsu hP hD hS hl)
end
