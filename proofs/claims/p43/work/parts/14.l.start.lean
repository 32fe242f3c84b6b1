-- ===== the law from the start, for every script =====
theorem law_xz {b L : Nat} {xs : Nat → Int32} (hL : L ≤ 260) : hL_law 100000 100 (b, L, xs) (fun _ => none, xz_I, 599864, 7295376) (fun _ _ _ => True) :=
  law_all (σ := (fun _ => none, xz_I, 599864, 7295376)) (J := xz_J) (Sc := (b, L, xs)) (by omega) (by omega) (by show L < 2 ^ 31; omega) RR_xz (xz_J0 18 (by omega)) (fun j hj => xz_J1 j (Or.inl (by omega))) (Nat.le_refl _) (Nat.le_refl _) (fun _ => trivial)
