-- ===== running a program step by step, from its head =====
section
variable {α : Type}
theorem e_lt {x v : Int32} {f : Int32 → Option α} {r : Option α} (hx : x = v) (h : f v = r) : xc_lt x f = r := by rw [hx]; exact h
theorem e_rd {n a k : Nat} {i v : Int32} {I : xc_M} {f : Int32 → Option α} {r : Option α} (hi : i = nI k) (hk : k < n ∧ n < 2 ^ 31) (hv : I a k = v) (h : f v = r) : xc_rd n a i I f = r := by
  rw [hi, xp_rd hk.1 hk.2, hv]
  exact h
theorem e_st {n a k : Nat} {i u v : Int32} {I : xc_M} {f : xc_M → Option α} {r : Option α} (hi : i = nI k) (hk : k < n ∧ n < 2 ^ 31) (hv : u = v) (h : f (xc_wr I a k v) = r) : xc_st n a i u I f = r := by
  rw [hi, xp_st hk.1 hk.2, hv]
  exact h
theorem e_mw {a k : Nat} {u v : Int32} {I : xc_M} {f : xc_M → Option α} {r : Option α} (hv : u = v) (h : f (xc_wr I a k v) = r) : xc_mw I a k u f = r := by
  rw [hv]
  exact h
theorem e_cr {t : Option Int32} {v : Int32} {f : Int32 → Option α} {r : Option α} (ht : t = some v) (h : f v = r) : xc_cr t f = r := by
  rw [ht]
  exact h
theorem e_cl {t : Option (Int32 × xc_M)} {v : Int32} {J : xc_M} {f : Int32 → xc_M → Option α} {r : Option α} (ht : t = some (v, J)) (h : f v J = r) : xc_cl t f = r := by
  rw [ht]
  exact h
theorem e_cv {t : Option (Int32 × xc_M)} {v : Int32} {J : xc_M} {f : xc_M → Option α} {r : Option α} (ht : t = some (v, J)) (h : f J = r) : xc_cv t f = r := by
  rw [ht]
  exact h
theorem e_t {c : Prop} {d : Decidable c} {A B r : Option α} (hc : c) (h : A = r) : @ite _ c d A B = r := by rw [if_pos hc]; exact h
theorem e_f {c : Prop} {d : Decidable c} {A B r : Option α} (hc : ¬ c) (h : B = r) : @ite _ c d A B = r := by rw [if_neg hc]; exact h
theorem e_dv {x y v : Int32} {f : Int32 → Option α} {r : Option α} (hy : ¬ y = 0) (hv : x / y = v) (h : f v = r) : xc_dv x y f = r := by
  unfold xc_dv
  rw [if_neg hy, hv]
  exact h
theorem e_rem {x y v : Int32} {f : Int32 → Option α} {r : Option α} (hy : ¬ y = 0) (hv : x - x / y * y = v) (h : f v = r) : xc_rem x y f = r := by
  unfold xc_rem
  rw [if_neg hy, hv]
  exact h
theorem e_rb {x : Int32} {v : α} {r : Option α} (hx : x = 0 ∨ x = 1) (h : some v = r) : xc_rb x v = r := by
  unfold xc_rb
  rw [if_pos hx]
  exact h
theorem e_mz {a k : Nat} {u v : Int32} {I : xc_M} {f : xc_M → Option α} {r : Option α} (hv : u = v) (hb : v = 0 ∨ v = 1) (h : f (xc_wr I a k v) = r) : xc_mz I a k u f = r := by
  unfold xc_mz
  rw [hv, if_pos hb]
  exact h
theorem e_ro {t : Option Int32} {v : Int32} {I : xc_M} {r : Option (Int32 × xc_M)} (ht : t = some v) (h : some (v, I) = r) : xc_ro t I = r := by
  rw [ht]
  exact h
end
theorem b_01 (b : Bool) : nI b.toNat = 0 ∨ nI b.toNat = 1 := by cases b <;> simp <;> decide
theorem b_n0 : nI 0 = 0 ∨ nI 0 = 1 := Or.inl rfl
theorem b_n1 : nI 1 = 0 ∨ nI 1 = 1 := Or.inr rfl
