section
variable {p : Program} {l : Launch} {e : Env} {R : Room} {s : State} {m : MethodId} {args : Array Value} {below : List Frame} {meth : Method} {c : Code} {H : Heap} {locs : List Loc} {cells slots : Nat} {Q : State → Prop} {cc : ByteArray} {pc : Nat} {ls : Array Slot} {rest : List Value} {D : va_G} {A : Nat → Prop} {ids : ClassId × ClassId × ClassId × (Nat → Nat) × (Nat → Nat)} {own : String}
theorem xn_arrQ {nL ci k N ix ix2 : Nat} {a : Nat} {RC : String} {T : u_T} {ty : Nat → FieldType} {fs : List Value} {ws : va_W} {v : Int32} {len : Nat} (h : xn_Ok p s m args meth c D ids A cc own nL) (hin : meth.name = "<init>") (hd : decode cc pc = .ok (.anewarray ix2, 3)) (hn : ¬ v < 0) (hN : v.toNatClampNeg = len) (hbytes : len * 4 ≤ 536870912) (hc1 : cells + 1 ≤ R.cells) (hc2 : slots + len ≤ R.slots) (hK : xc_Kl ci RC T N ty) (hRo : RC = own) (hd2 : decode cc (pc + 3) = .ok (.putfield ix, 3)) (hw : Cond.fieldLink own ix RC (T k).2.1 (T k).2.2.1 ∈ xc_T) (hk : k < N) (hfin : (T k).2.2.2 = true) (hty : ty k = .array (.object RX0)) (hl : k < fs.length) (hcl : Cond.classLink own ix2 RX0 ∈ xc_T)
    (hP : va_P D vwCl ((a, .inr (ci, fs)) :: ws) H) (hD : va_D A ((a, .inr (ci, fs)) :: ws)) (hS : va_S A s.heap H locs)
    (kk : ∀ (q : Nat) (H1 : Heap) (locs1 : List Loc), va_P D vwCl ((a, .inr (ci, fs.set k (.ref q))) :: (ws ++ [(q, .inl (ids.2.2.1, len, .inr (.inr (.inr (.inr (fun _ => none))))))])) H1 → va_D A ((a, .inr (ci, fs.set k (.ref q))) :: (ws ++ [(q, .inl (ids.2.2.1, len, .inr (.inr (.inr (.inr (fun _ => none))))))])) → va_S A s.heap H1 locs1 → W p l e R s m args below meth c H1 locs1 (cells + 1) (slots + len) Q (F0 m (pc + 3 + 3) ls rest)) : W p l e R s m args below meth c H locs cells slots Q (F0 m pc ls (.int v :: .ref a :: rest)) := by
  refine va_newq (C := RX0) h.1 h.2.1 h.2.2.2.1 (h.2.2.2.2.1 _ hcl) h.2.2.2.2.2.2.2 h.2.2.2.2.2.1 hP hD hS h.2.2.2.2.2.2.1 hn hN hbytes hc1 hc2 hd (fun q cA H1 hK1 hP1 hD1 hS1 => ?_)
  have e : cA = ids.2.2.1 := by
    obtain ⟨_, _, _, _, _, h1⟩ := (h.2.2.2.2.2.1.2 2 (ids.2.2.1, .object "UnsaidWords$Being") rfl).2
    obtain ⟨_, _, _, _, _, h2⟩ := (hK1.2 3 (cA, .object RX0) rfl).2
    exact Option.some.inj (h2.symm.trans h1)
  subst e
  refine va_putF (ty := .array (.object RX0)) h.1 h.2.1 h.2.2.2.2.1 hK.2.1 ty hK.2.2.1 hK.2.2.2.1 h.2.2.2.1 h.2.2.2.2.2.1 hP1 hD1 hS1 0 rfl hK.1 k hk (h.2.2.2.2.1 _ hw) (by rw [hK.2.2.2.2.2 k hk]; exact fun _ q => q) hfin hin (by rw [hK.2.2.2.2.2 k hk]; exact hRo) (by rw [← hty]; exact hK.2.2.1 k hk) rfl rfl hl hd2 (fun H2 locs2 hP2 hD2 hS2 => ?_)
  exact kk q H2 locs2 hP2 hD2 hS2
end
