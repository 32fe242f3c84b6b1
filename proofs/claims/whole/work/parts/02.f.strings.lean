def xc_sx (c : Int32) : List Int32 → Nat → Int32
  | [], _ => -1
  | b :: l, j => if b = c then nI j else xc_sx c l (j + 1)
def xc_si (k : Nat) (c : Int32) : Int32 := xc_sx c (xk_byt.getD k []) 0
section
variable {X : xc_X} {C : xc_C} {A : Nat → Prop} {n nL : Nat} {ret : Option FieldType} {cc : ByteArray} {own : String} {α : Type} {fin : α → Int32 × xc_M} {t : Option α} {pc : Nat} {lv : List (Nat × Value)} {st : List Value} {I : xc_M}
theorem xi_slen (h : xc_Ok X C A n cc own nL ret) {ix k : Nat} (hd : decode cc pc = .ok (.invokevirtual ix, 3)) (hw : Cond.methodLink own ix ⟨"java/lang/String", "length", "()I"⟩ ∈ xc_T) (hn : 6 ≤ n) (hk : k < 25) (kk : xc_S X C A nL ret fin t (pc + 3) lv (.int (nI (xk_len.getD k 0)) :: st) I) : xc_S X C A nL ret fin t pc lv (.ref (X.2.2.1.2.2.2.1 k) :: st) I := by
  sorry
theorem xi_schar (h : xc_Ok X C A n cc own nL ret) {ix k : Nat} {i : Int32} {f : Int32 → Option α} (hd : decode cc pc = .ok (.invokevirtual ix, 3)) (hw : Cond.methodLink own ix ⟨"java/lang/String", "charAt", "(I)C"⟩ ∈ xc_T) (hn : 6 ≤ n) (hk : k < 25) (hcat : (st.map fun v => v.category).sum ≤ 8) (kk : ∀ v : Int32, xc_S X C A nL ret fin (f v) (pc + 3) lv (.int v :: st) I) : xc_S X C A nL ret fin (xc_sc k i f) pc lv (.int i :: .ref (X.2.2.1.2.2.2.1 k) :: st) I := by
  sorry
theorem xi_sindex (h : xc_Ok X C A n cc own nL ret) {ix k : Nat} {i : Int32} {f : Int32 → Option α} (hd : decode cc pc = .ok (.invokevirtual ix, 3)) (hw : Cond.methodLink own ix ⟨"java/lang/String", "indexOf", "(I)I"⟩ ∈ xc_T) (hn : 6 ≤ n) (hk : k < 25) (hcat : (st.map fun v => v.category).sum ≤ 8) (kk : ∀ v : Int32, xc_S X C A nL ret fin (f v) (pc + 3) lv (.int v :: st) I) : xc_S X C A nL ret fin (xc_lt (xc_si k i) f) pc lv (.int i :: .ref (X.2.2.1.2.2.2.1 k) :: st) I := by
  sorry
end
