-- ===== the class's made cells as a world, block by block =====
def xz_go (X : xc_X) (I : xc_M) : Nat → List (Nat × Nat) → va_W
  | _, [] => []
  | i, k :: ks => (X.2.2.2.2.2 i, xc_ent X I i k) :: xz_go X I (i + 1) ks
theorem xz_go_app (X : xc_X) (I : xc_M) (a b : List (Nat × Nat)) : ∀ i n : Nat, n = i + a.length → xz_go X I i (a ++ b) = xz_go X I i a ++ xz_go X I n b := by
  induction a with
  | nil =>
    intro i n h
    have e : n = i := h
    rw [e]
    rfl
  | cons k ks ih =>
    intro i n h
    have h2 : n = i + 1 + ks.length := by
      rw [List.length_cons] at h
      omega
    show (X.2.2.2.2.2 i, xc_ent X I i k) :: xz_go X I (i + 1) (ks ++ b) = (X.2.2.2.2.2 i, xc_ent X I i k) :: (xz_go X I (i + 1) ks ++ xz_go X I n b)
    rw [ih (i + 1) n h2]
theorem xz_go_get (X : xc_X) (I : xc_M) (ks : List (Nat × Nat)) : ∀ i j : Nat, (xz_go X I i ks)[j]? = (ks[j]?).map (fun k => (X.2.2.2.2.2 (i + j), xc_ent X I (i + j) k)) := by
  induction ks with
  | nil => intros; rfl
  | cons k ks ih =>
    intro i j
    match j with
    | 0 => rfl
    | j + 1 =>
      have e := ih (i + 1) j
      rw [show i + 1 + j = i + (j + 1) by omega] at e
      exact e
theorem xz_go_ws (X : xc_X) (I : xc_M) : xc_ws X I = xz_go X I 0 X.2.2.2.1 := by
  apply List.ext_getElem?
  intro j
  unfold xc_ws
  rw [List.getElem?_mapIdx, xz_go_get, Nat.zero_add]
set_option maxRecDepth 100000 in
theorem xz_c0 (l : Launch) (D : va_G) (ids : ClassId × ClassId × ClassId × (Nat → Nat) × (Nat → Nat)) (ad : Nat → Nat) : xc_ent (l, D, ids, xw_Sh, xw_P, ad) xz_I 0 (11, 0) = .inr (8, [.ref (ad 1), .ref (ad 31), .ref (ad 61), .ref (ad 91), .ref (ad 130), .ref (ad 132), .int 0]) := by rfl
set_option maxRecDepth 100000 in
theorem xz_c1 (l : Launch) (D : va_G) (ids : ClassId × ClassId × ClassId × (Nat → Nat) × (Nat → Nat)) (ad : Nat → Nat) : xc_ent (l, D, ids, xw_Sh, xw_P, ad) xz_I 1 (10, 0) = .inr (7, [.int 0, .int 0, .int 0, .ref (ad 2), .ref (ad 3), .ref (ad 4), .ref (ad 5), .ref (ad 11), .ref (ad 13), .ref (ad 15), .ref (ad 17), .ref (ad 19), .ref (ad 23), .ref (ad 30)]) := by rfl
set_option maxRecDepth 100000 in
theorem xz_c2 (l : Launch) (D : va_G) (ids : ClassId × ClassId × ClassId × (Nat → Nat) × (Nat → Nat)) (ad : Nat → Nat) : xc_ent (l, D, ids, xw_Sh, xw_P, ad) xz_I 2 (0, 14) = .inl (ids.1, 14, .inl (fun _ => 0)) := by rfl
set_option maxRecDepth 100000 in
theorem xz_c3 (l : Launch) (D : va_G) (ids : ClassId × ClassId × ClassId × (Nat → Nat) × (Nat → Nat)) (ad : Nat → Nat) : xc_ent (l, D, ids, xw_Sh, xw_P, ad) xz_I 3 (0, 14) = .inl (ids.1, 14, .inl (fun _ => 0)) := by rfl
set_option maxRecDepth 100000 in
theorem xz_c4 (l : Launch) (D : va_G) (ids : ClassId × ClassId × ClassId × (Nat → Nat) × (Nat → Nat)) (ad : Nat → Nat) : xc_ent (l, D, ids, xw_Sh, xw_P, ad) xz_I 4 (0, 100) = .inl (ids.1, 100, .inl (xd_f 100)) := by rfl
set_option maxRecDepth 100000 in
theorem xz_c5 (l : Launch) (D : va_G) (ids : ClassId × ClassId × ClassId × (Nat → Nat) × (Nat → Nat)) (ad : Nat → Nat) : xc_ent (l, D, ids, xw_Sh, xw_P, ad) xz_I 5 (3, 0) = .inr (0, [.int 0, .int 0, .int 0, .ref (ad 6), .ref (ad 7), .ref (ad 8), .ref (ad 9), .ref (ad 10)]) := by rfl
set_option maxRecDepth 100000 in
theorem xz_c6 (l : Launch) (D : va_G) (ids : ClassId × ClassId × ClassId × (Nat → Nat) × (Nat → Nat)) (ad : Nat → Nat) : xc_ent (l, D, ids, xw_Sh, xw_P, ad) xz_I 6 (0, 14) = .inl (ids.1, 14, .inl (fun _ => 0)) := by rfl
set_option maxRecDepth 100000 in
theorem xz_c7 (l : Launch) (D : va_G) (ids : ClassId × ClassId × ClassId × (Nat → Nat) × (Nat → Nat)) (ad : Nat → Nat) : xc_ent (l, D, ids, xw_Sh, xw_P, ad) xz_I 7 (0, 14) = .inl (ids.1, 14, .inl (fun _ => 0)) := by rfl
set_option maxRecDepth 100000 in
theorem xz_c8 (l : Launch) (D : va_G) (ids : ClassId × ClassId × ClassId × (Nat → Nat) × (Nat → Nat)) (ad : Nat → Nat) : xc_ent (l, D, ids, xw_Sh, xw_P, ad) xz_I 8 (0, 10) = .inl (ids.1, 10, .inl (fun _ => 0)) := by rfl
set_option maxRecDepth 100000 in
theorem xz_c9 (l : Launch) (D : va_G) (ids : ClassId × ClassId × ClassId × (Nat → Nat) × (Nat → Nat)) (ad : Nat → Nat) : xc_ent (l, D, ids, xw_Sh, xw_P, ad) xz_I 9 (0, 10) = .inl (ids.1, 10, .inl (fun _ => 0)) := by rfl
set_option maxRecDepth 100000 in
theorem xz_c10 (l : Launch) (D : va_G) (ids : ClassId × ClassId × ClassId × (Nat → Nat) × (Nat → Nat)) (ad : Nat → Nat) : xc_ent (l, D, ids, xw_Sh, xw_P, ad) xz_I 10 (0, 10) = .inl (ids.1, 10, .inl (fun _ => 0)) := by rfl
set_option maxRecDepth 100000 in
theorem xz_c11 (l : Launch) (D : va_G) (ids : ClassId × ClassId × ClassId × (Nat → Nat) × (Nat → Nat)) (ad : Nat → Nat) : xc_ent (l, D, ids, xw_Sh, xw_P, ad) xz_I 11 (7, 0) = .inr (4, [.int 0, .ref (ad 12)]) := by rfl
set_option maxRecDepth 100000 in
theorem xz_c12 (l : Launch) (D : va_G) (ids : ClassId × ClassId × ClassId × (Nat → Nat) × (Nat → Nat)) (ad : Nat → Nat) : xc_ent (l, D, ids, xw_Sh, xw_P, ad) xz_I 12 (0, 600) = .inl (ids.1, 600, .inl (fun _ => 0)) := by rfl
set_option maxRecDepth 100000 in
theorem xz_c13 (l : Launch) (D : va_G) (ids : ClassId × ClassId × ClassId × (Nat → Nat) × (Nat → Nat)) (ad : Nat → Nat) : xc_ent (l, D, ids, xw_Sh, xw_P, ad) xz_I 13 (7, 0) = .inr (4, [.int 0, .ref (ad 14)]) := by rfl
set_option maxRecDepth 100000 in
theorem xz_c14 (l : Launch) (D : va_G) (ids : ClassId × ClassId × ClassId × (Nat → Nat) × (Nat → Nat)) (ad : Nat → Nat) : xc_ent (l, D, ids, xw_Sh, xw_P, ad) xz_I 14 (0, 64) = .inl (ids.1, 64, .inl (fun _ => 0)) := by rfl
set_option maxRecDepth 100000 in
theorem xz_c15 (l : Launch) (D : va_G) (ids : ClassId × ClassId × ClassId × (Nat → Nat) × (Nat → Nat)) (ad : Nat → Nat) : xc_ent (l, D, ids, xw_Sh, xw_P, ad) xz_I 15 (7, 0) = .inr (4, [.int 0, .ref (ad 16)]) := by rfl
set_option maxRecDepth 100000 in
theorem xz_c16 (l : Launch) (D : va_G) (ids : ClassId × ClassId × ClassId × (Nat → Nat) × (Nat → Nat)) (ad : Nat → Nat) : xc_ent (l, D, ids, xw_Sh, xw_P, ad) xz_I 16 (0, 48) = .inl (ids.1, 48, .inl (fun _ => 0)) := by rfl
set_option maxRecDepth 100000 in
theorem xz_c17 (l : Launch) (D : va_G) (ids : ClassId × ClassId × ClassId × (Nat → Nat) × (Nat → Nat)) (ad : Nat → Nat) : xc_ent (l, D, ids, xw_Sh, xw_P, ad) xz_I 17 (7, 0) = .inr (4, [.int 0, .ref (ad 18)]) := by rfl
set_option maxRecDepth 100000 in
theorem xz_c18 (l : Launch) (D : va_G) (ids : ClassId × ClassId × ClassId × (Nat → Nat) × (Nat → Nat)) (ad : Nat → Nat) : xc_ent (l, D, ids, xw_Sh, xw_P, ad) xz_I 18 (0, 40) = .inl (ids.1, 40, .inl (fun _ => 0)) := by rfl
set_option maxRecDepth 100000 in
theorem xz_c19 (l : Launch) (D : va_G) (ids : ClassId × ClassId × ClassId × (Nat → Nat) × (Nat → Nat)) (ad : Nat → Nat) : xc_ent (l, D, ids, xw_Sh, xw_P, ad) xz_I 19 (5, 0) = .inr (2, [.int 0, .ref (ad 20), .ref (ad 21), .ref (ad 22)]) := by rfl
set_option maxRecDepth 100000 in
theorem xz_c20 (l : Launch) (D : va_G) (ids : ClassId × ClassId × ClassId × (Nat → Nat) × (Nat → Nat)) (ad : Nat → Nat) : xc_ent (l, D, ids, xw_Sh, xw_P, ad) xz_I 20 (0, 10) = .inl (ids.1, 10, .inl (fun _ => 0)) := by rfl
set_option maxRecDepth 100000 in
theorem xz_c21 (l : Launch) (D : va_G) (ids : ClassId × ClassId × ClassId × (Nat → Nat) × (Nat → Nat)) (ad : Nat → Nat) : xc_ent (l, D, ids, xw_Sh, xw_P, ad) xz_I 21 (0, 60) = .inl (ids.1, 60, .inl (fun _ => 0)) := by rfl
set_option maxRecDepth 100000 in
theorem xz_c22 (l : Launch) (D : va_G) (ids : ClassId × ClassId × ClassId × (Nat → Nat) × (Nat → Nat)) (ad : Nat → Nat) : xc_ent (l, D, ids, xw_Sh, xw_P, ad) xz_I 22 (0, 60) = .inl (ids.1, 60, .inl (fun _ => 0)) := by rfl
set_option maxRecDepth 100000 in
theorem xz_c23 (l : Launch) (D : va_G) (ids : ClassId × ClassId × ClassId × (Nat → Nat) × (Nat → Nat)) (ad : Nat → Nat) : xc_ent (l, D, ids, xw_Sh, xw_P, ad) xz_I 23 (4, 0) = .inr (1, [.int 0, .int 0, .ref (ad 24), .ref (ad 25), .ref (ad 26), .ref (ad 27), .ref (ad 28), .ref (ad 29)]) := by rfl
set_option maxRecDepth 100000 in
theorem xz_c24 (l : Launch) (D : va_G) (ids : ClassId × ClassId × ClassId × (Nat → Nat) × (Nat → Nat)) (ad : Nat → Nat) : xc_ent (l, D, ids, xw_Sh, xw_P, ad) xz_I 24 (0, 16) = .inl (ids.1, 16, .inl (fun _ => 0)) := by rfl
set_option maxRecDepth 100000 in
theorem xz_c25 (l : Launch) (D : va_G) (ids : ClassId × ClassId × ClassId × (Nat → Nat) × (Nat → Nat)) (ad : Nat → Nat) : xc_ent (l, D, ids, xw_Sh, xw_P, ad) xz_I 25 (0, 16) = .inl (ids.1, 16, .inl (fun _ => 0)) := by rfl
set_option maxRecDepth 100000 in
theorem xz_c26 (l : Launch) (D : va_G) (ids : ClassId × ClassId × ClassId × (Nat → Nat) × (Nat → Nat)) (ad : Nat → Nat) : xc_ent (l, D, ids, xw_Sh, xw_P, ad) xz_I 26 (0, 16) = .inl (ids.1, 16, .inl (fun _ => 0)) := by rfl
set_option maxRecDepth 100000 in
theorem xz_c27 (l : Launch) (D : va_G) (ids : ClassId × ClassId × ClassId × (Nat → Nat) × (Nat → Nat)) (ad : Nat → Nat) : xc_ent (l, D, ids, xw_Sh, xw_P, ad) xz_I 27 (0, 16) = .inl (ids.1, 16, .inl (fun _ => 0)) := by rfl
set_option maxRecDepth 100000 in
theorem xz_c28 (l : Launch) (D : va_G) (ids : ClassId × ClassId × ClassId × (Nat → Nat) × (Nat → Nat)) (ad : Nat → Nat) : xc_ent (l, D, ids, xw_Sh, xw_P, ad) xz_I 28 (0, 400) = .inl (ids.1, 400, .inl (fun _ => 0)) := by rfl
set_option maxRecDepth 100000 in
theorem xz_c29 (l : Launch) (D : va_G) (ids : ClassId × ClassId × ClassId × (Nat → Nat) × (Nat → Nat)) (ad : Nat → Nat) : xc_ent (l, D, ids, xw_Sh, xw_P, ad) xz_I 29 (0, 32) = .inl (ids.1, 32, .inl (fun _ => 0)) := by rfl
set_option maxRecDepth 100000 in
theorem xz_c30 (l : Launch) (D : va_G) (ids : ClassId × ClassId × ClassId × (Nat → Nat) × (Nat → Nat)) (ad : Nat → Nat) : xc_ent (l, D, ids, xw_Sh, xw_P, ad) xz_I 30 (0, 8) = .inl (ids.1, 8, .inl (fun _ => 0)) := by rfl
set_option maxRecDepth 100000 in
theorem xz_c31 (l : Launch) (D : va_G) (ids : ClassId × ClassId × ClassId × (Nat → Nat) × (Nat → Nat)) (ad : Nat → Nat) : xc_ent (l, D, ids, xw_Sh, xw_P, ad) xz_I 31 (10, 0) = .inr (7, [.int 0, .int 0, .int 0, .ref (ad 32), .ref (ad 33), .ref (ad 34), .ref (ad 35), .ref (ad 41), .ref (ad 43), .ref (ad 45), .ref (ad 47), .ref (ad 49), .ref (ad 53), .ref (ad 60)]) := by rfl
set_option maxRecDepth 100000 in
theorem xz_c32 (l : Launch) (D : va_G) (ids : ClassId × ClassId × ClassId × (Nat → Nat) × (Nat → Nat)) (ad : Nat → Nat) : xc_ent (l, D, ids, xw_Sh, xw_P, ad) xz_I 32 (0, 14) = .inl (ids.1, 14, .inl (fun _ => 0)) := by rfl
set_option maxRecDepth 100000 in
theorem xz_c33 (l : Launch) (D : va_G) (ids : ClassId × ClassId × ClassId × (Nat → Nat) × (Nat → Nat)) (ad : Nat → Nat) : xc_ent (l, D, ids, xw_Sh, xw_P, ad) xz_I 33 (0, 14) = .inl (ids.1, 14, .inl (fun _ => 0)) := by rfl
set_option maxRecDepth 100000 in
theorem xz_c34 (l : Launch) (D : va_G) (ids : ClassId × ClassId × ClassId × (Nat → Nat) × (Nat → Nat)) (ad : Nat → Nat) : xc_ent (l, D, ids, xw_Sh, xw_P, ad) xz_I 34 (0, 100) = .inl (ids.1, 100, .inl (xd_f 100)) := by rfl
set_option maxRecDepth 100000 in
theorem xz_c35 (l : Launch) (D : va_G) (ids : ClassId × ClassId × ClassId × (Nat → Nat) × (Nat → Nat)) (ad : Nat → Nat) : xc_ent (l, D, ids, xw_Sh, xw_P, ad) xz_I 35 (3, 0) = .inr (0, [.int 0, .int 0, .int 0, .ref (ad 36), .ref (ad 37), .ref (ad 38), .ref (ad 39), .ref (ad 40)]) := by rfl
set_option maxRecDepth 100000 in
theorem xz_c36 (l : Launch) (D : va_G) (ids : ClassId × ClassId × ClassId × (Nat → Nat) × (Nat → Nat)) (ad : Nat → Nat) : xc_ent (l, D, ids, xw_Sh, xw_P, ad) xz_I 36 (0, 14) = .inl (ids.1, 14, .inl (fun _ => 0)) := by rfl
set_option maxRecDepth 100000 in
theorem xz_c37 (l : Launch) (D : va_G) (ids : ClassId × ClassId × ClassId × (Nat → Nat) × (Nat → Nat)) (ad : Nat → Nat) : xc_ent (l, D, ids, xw_Sh, xw_P, ad) xz_I 37 (0, 14) = .inl (ids.1, 14, .inl (fun _ => 0)) := by rfl
set_option maxRecDepth 100000 in
theorem xz_c38 (l : Launch) (D : va_G) (ids : ClassId × ClassId × ClassId × (Nat → Nat) × (Nat → Nat)) (ad : Nat → Nat) : xc_ent (l, D, ids, xw_Sh, xw_P, ad) xz_I 38 (0, 10) = .inl (ids.1, 10, .inl (fun _ => 0)) := by rfl
set_option maxRecDepth 100000 in
theorem xz_c39 (l : Launch) (D : va_G) (ids : ClassId × ClassId × ClassId × (Nat → Nat) × (Nat → Nat)) (ad : Nat → Nat) : xc_ent (l, D, ids, xw_Sh, xw_P, ad) xz_I 39 (0, 10) = .inl (ids.1, 10, .inl (fun _ => 0)) := by rfl
set_option maxRecDepth 100000 in
theorem xz_c40 (l : Launch) (D : va_G) (ids : ClassId × ClassId × ClassId × (Nat → Nat) × (Nat → Nat)) (ad : Nat → Nat) : xc_ent (l, D, ids, xw_Sh, xw_P, ad) xz_I 40 (0, 10) = .inl (ids.1, 10, .inl (fun _ => 0)) := by rfl
set_option maxRecDepth 100000 in
theorem xz_c41 (l : Launch) (D : va_G) (ids : ClassId × ClassId × ClassId × (Nat → Nat) × (Nat → Nat)) (ad : Nat → Nat) : xc_ent (l, D, ids, xw_Sh, xw_P, ad) xz_I 41 (7, 0) = .inr (4, [.int 0, .ref (ad 42)]) := by rfl
set_option maxRecDepth 100000 in
theorem xz_c42 (l : Launch) (D : va_G) (ids : ClassId × ClassId × ClassId × (Nat → Nat) × (Nat → Nat)) (ad : Nat → Nat) : xc_ent (l, D, ids, xw_Sh, xw_P, ad) xz_I 42 (0, 600) = .inl (ids.1, 600, .inl (fun _ => 0)) := by rfl
set_option maxRecDepth 100000 in
theorem xz_c43 (l : Launch) (D : va_G) (ids : ClassId × ClassId × ClassId × (Nat → Nat) × (Nat → Nat)) (ad : Nat → Nat) : xc_ent (l, D, ids, xw_Sh, xw_P, ad) xz_I 43 (7, 0) = .inr (4, [.int 0, .ref (ad 44)]) := by rfl
set_option maxRecDepth 100000 in
theorem xz_c44 (l : Launch) (D : va_G) (ids : ClassId × ClassId × ClassId × (Nat → Nat) × (Nat → Nat)) (ad : Nat → Nat) : xc_ent (l, D, ids, xw_Sh, xw_P, ad) xz_I 44 (0, 64) = .inl (ids.1, 64, .inl (fun _ => 0)) := by rfl
set_option maxRecDepth 100000 in
theorem xz_c45 (l : Launch) (D : va_G) (ids : ClassId × ClassId × ClassId × (Nat → Nat) × (Nat → Nat)) (ad : Nat → Nat) : xc_ent (l, D, ids, xw_Sh, xw_P, ad) xz_I 45 (7, 0) = .inr (4, [.int 0, .ref (ad 46)]) := by rfl
set_option maxRecDepth 100000 in
theorem xz_c46 (l : Launch) (D : va_G) (ids : ClassId × ClassId × ClassId × (Nat → Nat) × (Nat → Nat)) (ad : Nat → Nat) : xc_ent (l, D, ids, xw_Sh, xw_P, ad) xz_I 46 (0, 48) = .inl (ids.1, 48, .inl (fun _ => 0)) := by rfl
set_option maxRecDepth 100000 in
theorem xz_c47 (l : Launch) (D : va_G) (ids : ClassId × ClassId × ClassId × (Nat → Nat) × (Nat → Nat)) (ad : Nat → Nat) : xc_ent (l, D, ids, xw_Sh, xw_P, ad) xz_I 47 (7, 0) = .inr (4, [.int 0, .ref (ad 48)]) := by rfl
set_option maxRecDepth 100000 in
theorem xz_c48 (l : Launch) (D : va_G) (ids : ClassId × ClassId × ClassId × (Nat → Nat) × (Nat → Nat)) (ad : Nat → Nat) : xc_ent (l, D, ids, xw_Sh, xw_P, ad) xz_I 48 (0, 40) = .inl (ids.1, 40, .inl (fun _ => 0)) := by rfl
set_option maxRecDepth 100000 in
theorem xz_c49 (l : Launch) (D : va_G) (ids : ClassId × ClassId × ClassId × (Nat → Nat) × (Nat → Nat)) (ad : Nat → Nat) : xc_ent (l, D, ids, xw_Sh, xw_P, ad) xz_I 49 (5, 0) = .inr (2, [.int 0, .ref (ad 50), .ref (ad 51), .ref (ad 52)]) := by rfl
set_option maxRecDepth 100000 in
theorem xz_c50 (l : Launch) (D : va_G) (ids : ClassId × ClassId × ClassId × (Nat → Nat) × (Nat → Nat)) (ad : Nat → Nat) : xc_ent (l, D, ids, xw_Sh, xw_P, ad) xz_I 50 (0, 10) = .inl (ids.1, 10, .inl (fun _ => 0)) := by rfl
set_option maxRecDepth 100000 in
theorem xz_c51 (l : Launch) (D : va_G) (ids : ClassId × ClassId × ClassId × (Nat → Nat) × (Nat → Nat)) (ad : Nat → Nat) : xc_ent (l, D, ids, xw_Sh, xw_P, ad) xz_I 51 (0, 60) = .inl (ids.1, 60, .inl (fun _ => 0)) := by rfl
set_option maxRecDepth 100000 in
theorem xz_c52 (l : Launch) (D : va_G) (ids : ClassId × ClassId × ClassId × (Nat → Nat) × (Nat → Nat)) (ad : Nat → Nat) : xc_ent (l, D, ids, xw_Sh, xw_P, ad) xz_I 52 (0, 60) = .inl (ids.1, 60, .inl (fun _ => 0)) := by rfl
set_option maxRecDepth 100000 in
theorem xz_c53 (l : Launch) (D : va_G) (ids : ClassId × ClassId × ClassId × (Nat → Nat) × (Nat → Nat)) (ad : Nat → Nat) : xc_ent (l, D, ids, xw_Sh, xw_P, ad) xz_I 53 (4, 0) = .inr (1, [.int 0, .int 0, .ref (ad 54), .ref (ad 55), .ref (ad 56), .ref (ad 57), .ref (ad 58), .ref (ad 59)]) := by rfl
set_option maxRecDepth 100000 in
theorem xz_c54 (l : Launch) (D : va_G) (ids : ClassId × ClassId × ClassId × (Nat → Nat) × (Nat → Nat)) (ad : Nat → Nat) : xc_ent (l, D, ids, xw_Sh, xw_P, ad) xz_I 54 (0, 16) = .inl (ids.1, 16, .inl (fun _ => 0)) := by rfl
set_option maxRecDepth 100000 in
theorem xz_c55 (l : Launch) (D : va_G) (ids : ClassId × ClassId × ClassId × (Nat → Nat) × (Nat → Nat)) (ad : Nat → Nat) : xc_ent (l, D, ids, xw_Sh, xw_P, ad) xz_I 55 (0, 16) = .inl (ids.1, 16, .inl (fun _ => 0)) := by rfl
set_option maxRecDepth 100000 in
theorem xz_c56 (l : Launch) (D : va_G) (ids : ClassId × ClassId × ClassId × (Nat → Nat) × (Nat → Nat)) (ad : Nat → Nat) : xc_ent (l, D, ids, xw_Sh, xw_P, ad) xz_I 56 (0, 16) = .inl (ids.1, 16, .inl (fun _ => 0)) := by rfl
set_option maxRecDepth 100000 in
theorem xz_c57 (l : Launch) (D : va_G) (ids : ClassId × ClassId × ClassId × (Nat → Nat) × (Nat → Nat)) (ad : Nat → Nat) : xc_ent (l, D, ids, xw_Sh, xw_P, ad) xz_I 57 (0, 16) = .inl (ids.1, 16, .inl (fun _ => 0)) := by rfl
set_option maxRecDepth 100000 in
theorem xz_c58 (l : Launch) (D : va_G) (ids : ClassId × ClassId × ClassId × (Nat → Nat) × (Nat → Nat)) (ad : Nat → Nat) : xc_ent (l, D, ids, xw_Sh, xw_P, ad) xz_I 58 (0, 400) = .inl (ids.1, 400, .inl (fun _ => 0)) := by rfl
set_option maxRecDepth 100000 in
theorem xz_c59 (l : Launch) (D : va_G) (ids : ClassId × ClassId × ClassId × (Nat → Nat) × (Nat → Nat)) (ad : Nat → Nat) : xc_ent (l, D, ids, xw_Sh, xw_P, ad) xz_I 59 (0, 32) = .inl (ids.1, 32, .inl (fun _ => 0)) := by rfl
set_option maxRecDepth 100000 in
theorem xz_c60 (l : Launch) (D : va_G) (ids : ClassId × ClassId × ClassId × (Nat → Nat) × (Nat → Nat)) (ad : Nat → Nat) : xc_ent (l, D, ids, xw_Sh, xw_P, ad) xz_I 60 (0, 8) = .inl (ids.1, 8, .inl (fun _ => 0)) := by rfl
set_option maxRecDepth 100000 in
theorem xz_c61 (l : Launch) (D : va_G) (ids : ClassId × ClassId × ClassId × (Nat → Nat) × (Nat → Nat)) (ad : Nat → Nat) : xc_ent (l, D, ids, xw_Sh, xw_P, ad) xz_I 61 (10, 0) = .inr (7, [.int 0, .int 0, .int 0, .ref (ad 62), .ref (ad 63), .ref (ad 64), .ref (ad 65), .ref (ad 71), .ref (ad 73), .ref (ad 75), .ref (ad 77), .ref (ad 79), .ref (ad 83), .ref (ad 90)]) := by rfl
set_option maxRecDepth 100000 in
theorem xz_c62 (l : Launch) (D : va_G) (ids : ClassId × ClassId × ClassId × (Nat → Nat) × (Nat → Nat)) (ad : Nat → Nat) : xc_ent (l, D, ids, xw_Sh, xw_P, ad) xz_I 62 (0, 14) = .inl (ids.1, 14, .inl (fun _ => 0)) := by rfl
set_option maxRecDepth 100000 in
theorem xz_c63 (l : Launch) (D : va_G) (ids : ClassId × ClassId × ClassId × (Nat → Nat) × (Nat → Nat)) (ad : Nat → Nat) : xc_ent (l, D, ids, xw_Sh, xw_P, ad) xz_I 63 (0, 14) = .inl (ids.1, 14, .inl (fun _ => 0)) := by rfl
set_option maxRecDepth 100000 in
theorem xz_c64 (l : Launch) (D : va_G) (ids : ClassId × ClassId × ClassId × (Nat → Nat) × (Nat → Nat)) (ad : Nat → Nat) : xc_ent (l, D, ids, xw_Sh, xw_P, ad) xz_I 64 (0, 100) = .inl (ids.1, 100, .inl (xd_f 100)) := by rfl
set_option maxRecDepth 100000 in
theorem xz_c65 (l : Launch) (D : va_G) (ids : ClassId × ClassId × ClassId × (Nat → Nat) × (Nat → Nat)) (ad : Nat → Nat) : xc_ent (l, D, ids, xw_Sh, xw_P, ad) xz_I 65 (3, 0) = .inr (0, [.int 0, .int 0, .int 0, .ref (ad 66), .ref (ad 67), .ref (ad 68), .ref (ad 69), .ref (ad 70)]) := by rfl
set_option maxRecDepth 100000 in
theorem xz_c66 (l : Launch) (D : va_G) (ids : ClassId × ClassId × ClassId × (Nat → Nat) × (Nat → Nat)) (ad : Nat → Nat) : xc_ent (l, D, ids, xw_Sh, xw_P, ad) xz_I 66 (0, 14) = .inl (ids.1, 14, .inl (fun _ => 0)) := by rfl
set_option maxRecDepth 100000 in
theorem xz_c67 (l : Launch) (D : va_G) (ids : ClassId × ClassId × ClassId × (Nat → Nat) × (Nat → Nat)) (ad : Nat → Nat) : xc_ent (l, D, ids, xw_Sh, xw_P, ad) xz_I 67 (0, 14) = .inl (ids.1, 14, .inl (fun _ => 0)) := by rfl
set_option maxRecDepth 100000 in
theorem xz_c68 (l : Launch) (D : va_G) (ids : ClassId × ClassId × ClassId × (Nat → Nat) × (Nat → Nat)) (ad : Nat → Nat) : xc_ent (l, D, ids, xw_Sh, xw_P, ad) xz_I 68 (0, 10) = .inl (ids.1, 10, .inl (fun _ => 0)) := by rfl
set_option maxRecDepth 100000 in
theorem xz_c69 (l : Launch) (D : va_G) (ids : ClassId × ClassId × ClassId × (Nat → Nat) × (Nat → Nat)) (ad : Nat → Nat) : xc_ent (l, D, ids, xw_Sh, xw_P, ad) xz_I 69 (0, 10) = .inl (ids.1, 10, .inl (fun _ => 0)) := by rfl
set_option maxRecDepth 100000 in
theorem xz_c70 (l : Launch) (D : va_G) (ids : ClassId × ClassId × ClassId × (Nat → Nat) × (Nat → Nat)) (ad : Nat → Nat) : xc_ent (l, D, ids, xw_Sh, xw_P, ad) xz_I 70 (0, 10) = .inl (ids.1, 10, .inl (fun _ => 0)) := by rfl
set_option maxRecDepth 100000 in
theorem xz_c71 (l : Launch) (D : va_G) (ids : ClassId × ClassId × ClassId × (Nat → Nat) × (Nat → Nat)) (ad : Nat → Nat) : xc_ent (l, D, ids, xw_Sh, xw_P, ad) xz_I 71 (7, 0) = .inr (4, [.int 0, .ref (ad 72)]) := by rfl
set_option maxRecDepth 100000 in
theorem xz_c72 (l : Launch) (D : va_G) (ids : ClassId × ClassId × ClassId × (Nat → Nat) × (Nat → Nat)) (ad : Nat → Nat) : xc_ent (l, D, ids, xw_Sh, xw_P, ad) xz_I 72 (0, 600) = .inl (ids.1, 600, .inl (fun _ => 0)) := by rfl
set_option maxRecDepth 100000 in
theorem xz_c73 (l : Launch) (D : va_G) (ids : ClassId × ClassId × ClassId × (Nat → Nat) × (Nat → Nat)) (ad : Nat → Nat) : xc_ent (l, D, ids, xw_Sh, xw_P, ad) xz_I 73 (7, 0) = .inr (4, [.int 0, .ref (ad 74)]) := by rfl
set_option maxRecDepth 100000 in
theorem xz_c74 (l : Launch) (D : va_G) (ids : ClassId × ClassId × ClassId × (Nat → Nat) × (Nat → Nat)) (ad : Nat → Nat) : xc_ent (l, D, ids, xw_Sh, xw_P, ad) xz_I 74 (0, 64) = .inl (ids.1, 64, .inl (fun _ => 0)) := by rfl
set_option maxRecDepth 100000 in
theorem xz_c75 (l : Launch) (D : va_G) (ids : ClassId × ClassId × ClassId × (Nat → Nat) × (Nat → Nat)) (ad : Nat → Nat) : xc_ent (l, D, ids, xw_Sh, xw_P, ad) xz_I 75 (7, 0) = .inr (4, [.int 0, .ref (ad 76)]) := by rfl
set_option maxRecDepth 100000 in
theorem xz_c76 (l : Launch) (D : va_G) (ids : ClassId × ClassId × ClassId × (Nat → Nat) × (Nat → Nat)) (ad : Nat → Nat) : xc_ent (l, D, ids, xw_Sh, xw_P, ad) xz_I 76 (0, 48) = .inl (ids.1, 48, .inl (fun _ => 0)) := by rfl
set_option maxRecDepth 100000 in
theorem xz_c77 (l : Launch) (D : va_G) (ids : ClassId × ClassId × ClassId × (Nat → Nat) × (Nat → Nat)) (ad : Nat → Nat) : xc_ent (l, D, ids, xw_Sh, xw_P, ad) xz_I 77 (7, 0) = .inr (4, [.int 0, .ref (ad 78)]) := by rfl
set_option maxRecDepth 100000 in
theorem xz_c78 (l : Launch) (D : va_G) (ids : ClassId × ClassId × ClassId × (Nat → Nat) × (Nat → Nat)) (ad : Nat → Nat) : xc_ent (l, D, ids, xw_Sh, xw_P, ad) xz_I 78 (0, 40) = .inl (ids.1, 40, .inl (fun _ => 0)) := by rfl
set_option maxRecDepth 100000 in
theorem xz_c79 (l : Launch) (D : va_G) (ids : ClassId × ClassId × ClassId × (Nat → Nat) × (Nat → Nat)) (ad : Nat → Nat) : xc_ent (l, D, ids, xw_Sh, xw_P, ad) xz_I 79 (5, 0) = .inr (2, [.int 0, .ref (ad 80), .ref (ad 81), .ref (ad 82)]) := by rfl
set_option maxRecDepth 100000 in
theorem xz_c80 (l : Launch) (D : va_G) (ids : ClassId × ClassId × ClassId × (Nat → Nat) × (Nat → Nat)) (ad : Nat → Nat) : xc_ent (l, D, ids, xw_Sh, xw_P, ad) xz_I 80 (0, 10) = .inl (ids.1, 10, .inl (fun _ => 0)) := by rfl
set_option maxRecDepth 100000 in
theorem xz_c81 (l : Launch) (D : va_G) (ids : ClassId × ClassId × ClassId × (Nat → Nat) × (Nat → Nat)) (ad : Nat → Nat) : xc_ent (l, D, ids, xw_Sh, xw_P, ad) xz_I 81 (0, 60) = .inl (ids.1, 60, .inl (fun _ => 0)) := by rfl
set_option maxRecDepth 100000 in
theorem xz_c82 (l : Launch) (D : va_G) (ids : ClassId × ClassId × ClassId × (Nat → Nat) × (Nat → Nat)) (ad : Nat → Nat) : xc_ent (l, D, ids, xw_Sh, xw_P, ad) xz_I 82 (0, 60) = .inl (ids.1, 60, .inl (fun _ => 0)) := by rfl
set_option maxRecDepth 100000 in
theorem xz_c83 (l : Launch) (D : va_G) (ids : ClassId × ClassId × ClassId × (Nat → Nat) × (Nat → Nat)) (ad : Nat → Nat) : xc_ent (l, D, ids, xw_Sh, xw_P, ad) xz_I 83 (4, 0) = .inr (1, [.int 0, .int 0, .ref (ad 84), .ref (ad 85), .ref (ad 86), .ref (ad 87), .ref (ad 88), .ref (ad 89)]) := by rfl
set_option maxRecDepth 100000 in
theorem xz_c84 (l : Launch) (D : va_G) (ids : ClassId × ClassId × ClassId × (Nat → Nat) × (Nat → Nat)) (ad : Nat → Nat) : xc_ent (l, D, ids, xw_Sh, xw_P, ad) xz_I 84 (0, 16) = .inl (ids.1, 16, .inl (fun _ => 0)) := by rfl
set_option maxRecDepth 100000 in
theorem xz_c85 (l : Launch) (D : va_G) (ids : ClassId × ClassId × ClassId × (Nat → Nat) × (Nat → Nat)) (ad : Nat → Nat) : xc_ent (l, D, ids, xw_Sh, xw_P, ad) xz_I 85 (0, 16) = .inl (ids.1, 16, .inl (fun _ => 0)) := by rfl
set_option maxRecDepth 100000 in
theorem xz_c86 (l : Launch) (D : va_G) (ids : ClassId × ClassId × ClassId × (Nat → Nat) × (Nat → Nat)) (ad : Nat → Nat) : xc_ent (l, D, ids, xw_Sh, xw_P, ad) xz_I 86 (0, 16) = .inl (ids.1, 16, .inl (fun _ => 0)) := by rfl
set_option maxRecDepth 100000 in
theorem xz_c87 (l : Launch) (D : va_G) (ids : ClassId × ClassId × ClassId × (Nat → Nat) × (Nat → Nat)) (ad : Nat → Nat) : xc_ent (l, D, ids, xw_Sh, xw_P, ad) xz_I 87 (0, 16) = .inl (ids.1, 16, .inl (fun _ => 0)) := by rfl
set_option maxRecDepth 100000 in
theorem xz_c88 (l : Launch) (D : va_G) (ids : ClassId × ClassId × ClassId × (Nat → Nat) × (Nat → Nat)) (ad : Nat → Nat) : xc_ent (l, D, ids, xw_Sh, xw_P, ad) xz_I 88 (0, 400) = .inl (ids.1, 400, .inl (fun _ => 0)) := by rfl
set_option maxRecDepth 100000 in
theorem xz_c89 (l : Launch) (D : va_G) (ids : ClassId × ClassId × ClassId × (Nat → Nat) × (Nat → Nat)) (ad : Nat → Nat) : xc_ent (l, D, ids, xw_Sh, xw_P, ad) xz_I 89 (0, 32) = .inl (ids.1, 32, .inl (fun _ => 0)) := by rfl
set_option maxRecDepth 100000 in
theorem xz_c90 (l : Launch) (D : va_G) (ids : ClassId × ClassId × ClassId × (Nat → Nat) × (Nat → Nat)) (ad : Nat → Nat) : xc_ent (l, D, ids, xw_Sh, xw_P, ad) xz_I 90 (0, 8) = .inl (ids.1, 8, .inl (fun _ => 0)) := by rfl
set_option maxRecDepth 100000 in
theorem xz_c91 (l : Launch) (D : va_G) (ids : ClassId × ClassId × ClassId × (Nat → Nat) × (Nat → Nat)) (ad : Nat → Nat) : xc_ent (l, D, ids, xw_Sh, xw_P, ad) xz_I 91 (6, 0) = .inr (3, [.int 0, .int 0, .ref (ad 92), .ref (ad 93)]) := by rfl
theorem xz_c92 (l : Launch) (D : va_G) (ids : ClassId × ClassId × ClassId × (Nat → Nat) × (Nat → Nat)) (ad : Nat → Nat) : xc_ent (l, D, ids, xw_Sh, xw_P, ad) xz_I 92 (2, 6) = .inl (ids.2.2.1, 6, .inr (.inr (.inr (.inr (va_up (va_up (va_up (va_up (va_up (va_up (fun _ => none) 0 (some (ad 94))) 1 (some (ad 100))) 2 (some (ad 106))) 3 (some (ad 112))) 4 (some (ad 118))) 5 (some (ad 124))))))) := by
  have e : (fun j => (xw_P 92 j).map ad) = va_up (va_up (va_up (va_up (va_up (va_up (fun _ => none) 0 (some (ad 94))) 1 (some (ad 100))) 2 (some (ad 106))) 3 (some (ad 112))) 4 (some (ad 118))) 5 (some (ad 124)) := by
    funext j
    rcases (show j = 0 ∨ j = 1 ∨ j = 2 ∨ j = 3 ∨ j = 4 ∨ j = 5 ∨ 6 ≤ j by omega) with rfl | rfl | rfl | rfl | rfl | rfl | h
    · rfl
    · rfl
    · rfl
    · rfl
    · rfl
    · rfl
    · obtain ⟨i, rfl⟩ : ∃ i, j = i + 6 := ⟨j - 6, by omega⟩
      rfl
  show (.inl (ids.2.2.1, 6, .inr (.inr (.inr (.inr (fun j => (xw_P 92 j).map ad)))))  : va_E) = _
  rw [e]
set_option maxRecDepth 100000 in
theorem xz_c93 (l : Launch) (D : va_G) (ids : ClassId × ClassId × ClassId × (Nat → Nat) × (Nat → Nat)) (ad : Nat → Nat) : xc_ent (l, D, ids, xw_Sh, xw_P, ad) xz_I 93 (0, 6) = .inl (ids.1, 6, .inl (fun _ => 0)) := by rfl
set_option maxRecDepth 100000 in
theorem xz_c94 (l : Launch) (D : va_G) (ids : ClassId × ClassId × ClassId × (Nat → Nat) × (Nat → Nat)) (ad : Nat → Nat) : xc_ent (l, D, ids, xw_Sh, xw_P, ad) xz_I 94 (3, 0) = .inr (0, [.int 0, .int 0, .int 0, .ref (ad 95), .ref (ad 96), .ref (ad 97), .ref (ad 98), .ref (ad 99)]) := by rfl
set_option maxRecDepth 100000 in
theorem xz_c95 (l : Launch) (D : va_G) (ids : ClassId × ClassId × ClassId × (Nat → Nat) × (Nat → Nat)) (ad : Nat → Nat) : xc_ent (l, D, ids, xw_Sh, xw_P, ad) xz_I 95 (0, 14) = .inl (ids.1, 14, .inl (fun _ => 0)) := by rfl
set_option maxRecDepth 100000 in
theorem xz_c96 (l : Launch) (D : va_G) (ids : ClassId × ClassId × ClassId × (Nat → Nat) × (Nat → Nat)) (ad : Nat → Nat) : xc_ent (l, D, ids, xw_Sh, xw_P, ad) xz_I 96 (0, 14) = .inl (ids.1, 14, .inl (fun _ => 0)) := by rfl
set_option maxRecDepth 100000 in
theorem xz_c97 (l : Launch) (D : va_G) (ids : ClassId × ClassId × ClassId × (Nat → Nat) × (Nat → Nat)) (ad : Nat → Nat) : xc_ent (l, D, ids, xw_Sh, xw_P, ad) xz_I 97 (0, 10) = .inl (ids.1, 10, .inl (fun _ => 0)) := by rfl
set_option maxRecDepth 100000 in
theorem xz_c98 (l : Launch) (D : va_G) (ids : ClassId × ClassId × ClassId × (Nat → Nat) × (Nat → Nat)) (ad : Nat → Nat) : xc_ent (l, D, ids, xw_Sh, xw_P, ad) xz_I 98 (0, 10) = .inl (ids.1, 10, .inl (fun _ => 0)) := by rfl
set_option maxRecDepth 100000 in
theorem xz_c99 (l : Launch) (D : va_G) (ids : ClassId × ClassId × ClassId × (Nat → Nat) × (Nat → Nat)) (ad : Nat → Nat) : xc_ent (l, D, ids, xw_Sh, xw_P, ad) xz_I 99 (0, 10) = .inl (ids.1, 10, .inl (fun _ => 0)) := by rfl
set_option maxRecDepth 100000 in
theorem xz_c100 (l : Launch) (D : va_G) (ids : ClassId × ClassId × ClassId × (Nat → Nat) × (Nat → Nat)) (ad : Nat → Nat) : xc_ent (l, D, ids, xw_Sh, xw_P, ad) xz_I 100 (3, 0) = .inr (0, [.int 0, .int 0, .int 0, .ref (ad 101), .ref (ad 102), .ref (ad 103), .ref (ad 104), .ref (ad 105)]) := by rfl
set_option maxRecDepth 100000 in
theorem xz_c101 (l : Launch) (D : va_G) (ids : ClassId × ClassId × ClassId × (Nat → Nat) × (Nat → Nat)) (ad : Nat → Nat) : xc_ent (l, D, ids, xw_Sh, xw_P, ad) xz_I 101 (0, 14) = .inl (ids.1, 14, .inl (fun _ => 0)) := by rfl
set_option maxRecDepth 100000 in
theorem xz_c102 (l : Launch) (D : va_G) (ids : ClassId × ClassId × ClassId × (Nat → Nat) × (Nat → Nat)) (ad : Nat → Nat) : xc_ent (l, D, ids, xw_Sh, xw_P, ad) xz_I 102 (0, 14) = .inl (ids.1, 14, .inl (fun _ => 0)) := by rfl
set_option maxRecDepth 100000 in
theorem xz_c103 (l : Launch) (D : va_G) (ids : ClassId × ClassId × ClassId × (Nat → Nat) × (Nat → Nat)) (ad : Nat → Nat) : xc_ent (l, D, ids, xw_Sh, xw_P, ad) xz_I 103 (0, 10) = .inl (ids.1, 10, .inl (fun _ => 0)) := by rfl
set_option maxRecDepth 100000 in
theorem xz_c104 (l : Launch) (D : va_G) (ids : ClassId × ClassId × ClassId × (Nat → Nat) × (Nat → Nat)) (ad : Nat → Nat) : xc_ent (l, D, ids, xw_Sh, xw_P, ad) xz_I 104 (0, 10) = .inl (ids.1, 10, .inl (fun _ => 0)) := by rfl
set_option maxRecDepth 100000 in
theorem xz_c105 (l : Launch) (D : va_G) (ids : ClassId × ClassId × ClassId × (Nat → Nat) × (Nat → Nat)) (ad : Nat → Nat) : xc_ent (l, D, ids, xw_Sh, xw_P, ad) xz_I 105 (0, 10) = .inl (ids.1, 10, .inl (fun _ => 0)) := by rfl
set_option maxRecDepth 100000 in
theorem xz_c106 (l : Launch) (D : va_G) (ids : ClassId × ClassId × ClassId × (Nat → Nat) × (Nat → Nat)) (ad : Nat → Nat) : xc_ent (l, D, ids, xw_Sh, xw_P, ad) xz_I 106 (3, 0) = .inr (0, [.int 0, .int 0, .int 0, .ref (ad 107), .ref (ad 108), .ref (ad 109), .ref (ad 110), .ref (ad 111)]) := by rfl
set_option maxRecDepth 100000 in
theorem xz_c107 (l : Launch) (D : va_G) (ids : ClassId × ClassId × ClassId × (Nat → Nat) × (Nat → Nat)) (ad : Nat → Nat) : xc_ent (l, D, ids, xw_Sh, xw_P, ad) xz_I 107 (0, 14) = .inl (ids.1, 14, .inl (fun _ => 0)) := by rfl
set_option maxRecDepth 100000 in
theorem xz_c108 (l : Launch) (D : va_G) (ids : ClassId × ClassId × ClassId × (Nat → Nat) × (Nat → Nat)) (ad : Nat → Nat) : xc_ent (l, D, ids, xw_Sh, xw_P, ad) xz_I 108 (0, 14) = .inl (ids.1, 14, .inl (fun _ => 0)) := by rfl
set_option maxRecDepth 100000 in
theorem xz_c109 (l : Launch) (D : va_G) (ids : ClassId × ClassId × ClassId × (Nat → Nat) × (Nat → Nat)) (ad : Nat → Nat) : xc_ent (l, D, ids, xw_Sh, xw_P, ad) xz_I 109 (0, 10) = .inl (ids.1, 10, .inl (fun _ => 0)) := by rfl
set_option maxRecDepth 100000 in
theorem xz_c110 (l : Launch) (D : va_G) (ids : ClassId × ClassId × ClassId × (Nat → Nat) × (Nat → Nat)) (ad : Nat → Nat) : xc_ent (l, D, ids, xw_Sh, xw_P, ad) xz_I 110 (0, 10) = .inl (ids.1, 10, .inl (fun _ => 0)) := by rfl
set_option maxRecDepth 100000 in
theorem xz_c111 (l : Launch) (D : va_G) (ids : ClassId × ClassId × ClassId × (Nat → Nat) × (Nat → Nat)) (ad : Nat → Nat) : xc_ent (l, D, ids, xw_Sh, xw_P, ad) xz_I 111 (0, 10) = .inl (ids.1, 10, .inl (fun _ => 0)) := by rfl
set_option maxRecDepth 100000 in
theorem xz_c112 (l : Launch) (D : va_G) (ids : ClassId × ClassId × ClassId × (Nat → Nat) × (Nat → Nat)) (ad : Nat → Nat) : xc_ent (l, D, ids, xw_Sh, xw_P, ad) xz_I 112 (3, 0) = .inr (0, [.int 0, .int 0, .int 0, .ref (ad 113), .ref (ad 114), .ref (ad 115), .ref (ad 116), .ref (ad 117)]) := by rfl
set_option maxRecDepth 100000 in
theorem xz_c113 (l : Launch) (D : va_G) (ids : ClassId × ClassId × ClassId × (Nat → Nat) × (Nat → Nat)) (ad : Nat → Nat) : xc_ent (l, D, ids, xw_Sh, xw_P, ad) xz_I 113 (0, 14) = .inl (ids.1, 14, .inl (fun _ => 0)) := by rfl
set_option maxRecDepth 100000 in
theorem xz_c114 (l : Launch) (D : va_G) (ids : ClassId × ClassId × ClassId × (Nat → Nat) × (Nat → Nat)) (ad : Nat → Nat) : xc_ent (l, D, ids, xw_Sh, xw_P, ad) xz_I 114 (0, 14) = .inl (ids.1, 14, .inl (fun _ => 0)) := by rfl
set_option maxRecDepth 100000 in
theorem xz_c115 (l : Launch) (D : va_G) (ids : ClassId × ClassId × ClassId × (Nat → Nat) × (Nat → Nat)) (ad : Nat → Nat) : xc_ent (l, D, ids, xw_Sh, xw_P, ad) xz_I 115 (0, 10) = .inl (ids.1, 10, .inl (fun _ => 0)) := by rfl
set_option maxRecDepth 100000 in
theorem xz_c116 (l : Launch) (D : va_G) (ids : ClassId × ClassId × ClassId × (Nat → Nat) × (Nat → Nat)) (ad : Nat → Nat) : xc_ent (l, D, ids, xw_Sh, xw_P, ad) xz_I 116 (0, 10) = .inl (ids.1, 10, .inl (fun _ => 0)) := by rfl
set_option maxRecDepth 100000 in
theorem xz_c117 (l : Launch) (D : va_G) (ids : ClassId × ClassId × ClassId × (Nat → Nat) × (Nat → Nat)) (ad : Nat → Nat) : xc_ent (l, D, ids, xw_Sh, xw_P, ad) xz_I 117 (0, 10) = .inl (ids.1, 10, .inl (fun _ => 0)) := by rfl
set_option maxRecDepth 100000 in
theorem xz_c118 (l : Launch) (D : va_G) (ids : ClassId × ClassId × ClassId × (Nat → Nat) × (Nat → Nat)) (ad : Nat → Nat) : xc_ent (l, D, ids, xw_Sh, xw_P, ad) xz_I 118 (3, 0) = .inr (0, [.int 0, .int 0, .int 0, .ref (ad 119), .ref (ad 120), .ref (ad 121), .ref (ad 122), .ref (ad 123)]) := by rfl
set_option maxRecDepth 100000 in
theorem xz_c119 (l : Launch) (D : va_G) (ids : ClassId × ClassId × ClassId × (Nat → Nat) × (Nat → Nat)) (ad : Nat → Nat) : xc_ent (l, D, ids, xw_Sh, xw_P, ad) xz_I 119 (0, 14) = .inl (ids.1, 14, .inl (fun _ => 0)) := by rfl
set_option maxRecDepth 100000 in
theorem xz_c120 (l : Launch) (D : va_G) (ids : ClassId × ClassId × ClassId × (Nat → Nat) × (Nat → Nat)) (ad : Nat → Nat) : xc_ent (l, D, ids, xw_Sh, xw_P, ad) xz_I 120 (0, 14) = .inl (ids.1, 14, .inl (fun _ => 0)) := by rfl
set_option maxRecDepth 100000 in
theorem xz_c121 (l : Launch) (D : va_G) (ids : ClassId × ClassId × ClassId × (Nat → Nat) × (Nat → Nat)) (ad : Nat → Nat) : xc_ent (l, D, ids, xw_Sh, xw_P, ad) xz_I 121 (0, 10) = .inl (ids.1, 10, .inl (fun _ => 0)) := by rfl
set_option maxRecDepth 100000 in
theorem xz_c122 (l : Launch) (D : va_G) (ids : ClassId × ClassId × ClassId × (Nat → Nat) × (Nat → Nat)) (ad : Nat → Nat) : xc_ent (l, D, ids, xw_Sh, xw_P, ad) xz_I 122 (0, 10) = .inl (ids.1, 10, .inl (fun _ => 0)) := by rfl
set_option maxRecDepth 100000 in
theorem xz_c123 (l : Launch) (D : va_G) (ids : ClassId × ClassId × ClassId × (Nat → Nat) × (Nat → Nat)) (ad : Nat → Nat) : xc_ent (l, D, ids, xw_Sh, xw_P, ad) xz_I 123 (0, 10) = .inl (ids.1, 10, .inl (fun _ => 0)) := by rfl
set_option maxRecDepth 100000 in
theorem xz_c124 (l : Launch) (D : va_G) (ids : ClassId × ClassId × ClassId × (Nat → Nat) × (Nat → Nat)) (ad : Nat → Nat) : xc_ent (l, D, ids, xw_Sh, xw_P, ad) xz_I 124 (3, 0) = .inr (0, [.int 0, .int 0, .int 0, .ref (ad 125), .ref (ad 126), .ref (ad 127), .ref (ad 128), .ref (ad 129)]) := by rfl
set_option maxRecDepth 100000 in
theorem xz_c125 (l : Launch) (D : va_G) (ids : ClassId × ClassId × ClassId × (Nat → Nat) × (Nat → Nat)) (ad : Nat → Nat) : xc_ent (l, D, ids, xw_Sh, xw_P, ad) xz_I 125 (0, 14) = .inl (ids.1, 14, .inl (fun _ => 0)) := by rfl
set_option maxRecDepth 100000 in
theorem xz_c126 (l : Launch) (D : va_G) (ids : ClassId × ClassId × ClassId × (Nat → Nat) × (Nat → Nat)) (ad : Nat → Nat) : xc_ent (l, D, ids, xw_Sh, xw_P, ad) xz_I 126 (0, 14) = .inl (ids.1, 14, .inl (fun _ => 0)) := by rfl
set_option maxRecDepth 100000 in
theorem xz_c127 (l : Launch) (D : va_G) (ids : ClassId × ClassId × ClassId × (Nat → Nat) × (Nat → Nat)) (ad : Nat → Nat) : xc_ent (l, D, ids, xw_Sh, xw_P, ad) xz_I 127 (0, 10) = .inl (ids.1, 10, .inl (fun _ => 0)) := by rfl
set_option maxRecDepth 100000 in
theorem xz_c128 (l : Launch) (D : va_G) (ids : ClassId × ClassId × ClassId × (Nat → Nat) × (Nat → Nat)) (ad : Nat → Nat) : xc_ent (l, D, ids, xw_Sh, xw_P, ad) xz_I 128 (0, 10) = .inl (ids.1, 10, .inl (fun _ => 0)) := by rfl
set_option maxRecDepth 100000 in
theorem xz_c129 (l : Launch) (D : va_G) (ids : ClassId × ClassId × ClassId × (Nat → Nat) × (Nat → Nat)) (ad : Nat → Nat) : xc_ent (l, D, ids, xw_Sh, xw_P, ad) xz_I 129 (0, 10) = .inl (ids.1, 10, .inl (fun _ => 0)) := by rfl
set_option maxRecDepth 100000 in
theorem xz_c130 (l : Launch) (D : va_G) (ids : ClassId × ClassId × ClassId × (Nat → Nat) × (Nat → Nat)) (ad : Nat → Nat) : xc_ent (l, D, ids, xw_Sh, xw_P, ad) xz_I 130 (8, 0) = .inr (5, [.int 0, .ref (ad 131)]) := by rfl
set_option maxRecDepth 100000 in
theorem xz_c131 (l : Launch) (D : va_G) (ids : ClassId × ClassId × ClassId × (Nat → Nat) × (Nat → Nat)) (ad : Nat → Nat) : xc_ent (l, D, ids, xw_Sh, xw_P, ad) xz_I 131 (1, 400) = .inl (ids.2.1, 400, .inl (fun _ => 0)) := by rfl
set_option maxRecDepth 100000 in
theorem xz_c132 (l : Launch) (D : va_G) (ids : ClassId × ClassId × ClassId × (Nat → Nat) × (Nat → Nat)) (ad : Nat → Nat) : xc_ent (l, D, ids, xw_Sh, xw_P, ad) xz_I 132 (9, 0) = .inr (6, [.int 0, .int (-1), .int 0, .int 0, .ref (ad 133), .ref (ad 134), .ref (ad 135), .int 0]) := by rfl
set_option maxRecDepth 100000 in
theorem xz_c133 (l : Launch) (D : va_G) (ids : ClassId × ClassId × ClassId × (Nat → Nat) × (Nat → Nat)) (ad : Nat → Nat) : xc_ent (l, D, ids, xw_Sh, xw_P, ad) xz_I 133 (0, 401) = .inl (ids.1, 401, .inl (fun _ => 0)) := by rfl
set_option maxRecDepth 100000 in
theorem xz_c134 (l : Launch) (D : va_G) (ids : ClassId × ClassId × ClassId × (Nat → Nat) × (Nat → Nat)) (ad : Nat → Nat) : xc_ent (l, D, ids, xw_Sh, xw_P, ad) xz_I 134 (0, 401) = .inl (ids.1, 401, .inl (fun _ => 0)) := by rfl
set_option maxRecDepth 100000 in
theorem xz_c135 (l : Launch) (D : va_G) (ids : ClassId × ClassId × ClassId × (Nat → Nat) × (Nat → Nat)) (ad : Nat → Nat) : xc_ent (l, D, ids, xw_Sh, xw_P, ad) xz_I 135 (0, 401) = .inl (ids.1, 401, .inl (fun _ => 0)) := by rfl
def xz_sh1 : List (Nat × Nat) := [(10, 0), (0, 14), (0, 14), (0, 100), (3, 0), (0, 14), (0, 14), (0, 10), (0, 10), (0, 10), (7, 0), (0, 600), (7, 0), (0, 64), (7, 0), (0, 48), (7, 0), (0, 40), (5, 0), (0, 10), (0, 60), (0, 60), (4, 0), (0, 16), (0, 16), (0, 16), (0, 16), (0, 400), (0, 32), (0, 8)]
set_option maxRecDepth 100000 in
set_option maxHeartbeats 4000000 in
theorem xz_b1 (l : Launch) (D : va_G) (ids : ClassId × ClassId × ClassId × (Nat → Nat) × (Nat → Nat)) (ad : Nat → Nat) : xz_go (l, D, ids, xw_Sh, xw_P, ad) xz_I 1 xz_sh1 = bk_X8 ids (ad 1) (ad 2, ad 3, ad 4, ad 5, (ad 6, ad 7, ad 8, ad 9, ad 10), ad 11, ad 12, ad 13, ad 14, ad 15, ad 16, ad 17, ad 18, ad 19, (ad 20, ad 21, ad 22), ad 23, (ad 24, ad 25, ad 26, ad 27, ad 28, ad 29), ad 30) := by
  simp only [xz_sh1, xz_go, Nat.reduceAdd, xz_c1, xz_c2, xz_c3, xz_c4, xz_c5, xz_c6, xz_c7, xz_c8, xz_c9, xz_c10, xz_c11, xz_c12, xz_c13, xz_c14, xz_c15, xz_c16, xz_c17, xz_c18, xz_c19, xz_c20, xz_c21, xz_c22, xz_c23, xz_c24, xz_c25, xz_c26, xz_c27, xz_c28, xz_c29, xz_c30]
  rfl
def xz_sh31 : List (Nat × Nat) := [(10, 0), (0, 14), (0, 14), (0, 100), (3, 0), (0, 14), (0, 14), (0, 10), (0, 10), (0, 10), (7, 0), (0, 600), (7, 0), (0, 64), (7, 0), (0, 48), (7, 0), (0, 40), (5, 0), (0, 10), (0, 60), (0, 60), (4, 0), (0, 16), (0, 16), (0, 16), (0, 16), (0, 400), (0, 32), (0, 8)]
set_option maxRecDepth 100000 in
set_option maxHeartbeats 4000000 in
theorem xz_b31 (l : Launch) (D : va_G) (ids : ClassId × ClassId × ClassId × (Nat → Nat) × (Nat → Nat)) (ad : Nat → Nat) : xz_go (l, D, ids, xw_Sh, xw_P, ad) xz_I 31 xz_sh31 = bk_X8 ids (ad 31) (ad 32, ad 33, ad 34, ad 35, (ad 36, ad 37, ad 38, ad 39, ad 40), ad 41, ad 42, ad 43, ad 44, ad 45, ad 46, ad 47, ad 48, ad 49, (ad 50, ad 51, ad 52), ad 53, (ad 54, ad 55, ad 56, ad 57, ad 58, ad 59), ad 60) := by
  simp only [xz_sh31, xz_go, Nat.reduceAdd, xz_c31, xz_c32, xz_c33, xz_c34, xz_c35, xz_c36, xz_c37, xz_c38, xz_c39, xz_c40, xz_c41, xz_c42, xz_c43, xz_c44, xz_c45, xz_c46, xz_c47, xz_c48, xz_c49, xz_c50, xz_c51, xz_c52, xz_c53, xz_c54, xz_c55, xz_c56, xz_c57, xz_c58, xz_c59, xz_c60]
  rfl
def xz_sh61 : List (Nat × Nat) := [(10, 0), (0, 14), (0, 14), (0, 100), (3, 0), (0, 14), (0, 14), (0, 10), (0, 10), (0, 10), (7, 0), (0, 600), (7, 0), (0, 64), (7, 0), (0, 48), (7, 0), (0, 40), (5, 0), (0, 10), (0, 60), (0, 60), (4, 0), (0, 16), (0, 16), (0, 16), (0, 16), (0, 400), (0, 32), (0, 8)]
set_option maxRecDepth 100000 in
set_option maxHeartbeats 4000000 in
theorem xz_b61 (l : Launch) (D : va_G) (ids : ClassId × ClassId × ClassId × (Nat → Nat) × (Nat → Nat)) (ad : Nat → Nat) : xz_go (l, D, ids, xw_Sh, xw_P, ad) xz_I 61 xz_sh61 = bk_X8 ids (ad 61) (ad 62, ad 63, ad 64, ad 65, (ad 66, ad 67, ad 68, ad 69, ad 70), ad 71, ad 72, ad 73, ad 74, ad 75, ad 76, ad 77, ad 78, ad 79, (ad 80, ad 81, ad 82), ad 83, (ad 84, ad 85, ad 86, ad 87, ad 88, ad 89), ad 90) := by
  simp only [xz_sh61, xz_go, Nat.reduceAdd, xz_c61, xz_c62, xz_c63, xz_c64, xz_c65, xz_c66, xz_c67, xz_c68, xz_c69, xz_c70, xz_c71, xz_c72, xz_c73, xz_c74, xz_c75, xz_c76, xz_c77, xz_c78, xz_c79, xz_c80, xz_c81, xz_c82, xz_c83, xz_c84, xz_c85, xz_c86, xz_c87, xz_c88, xz_c89, xz_c90]
  rfl
def xz_sh91 : List (Nat × Nat) := [(6, 0), (2, 6), (0, 6), (3, 0), (0, 14), (0, 14), (0, 10), (0, 10), (0, 10), (3, 0), (0, 14), (0, 14), (0, 10), (0, 10), (0, 10), (3, 0), (0, 14), (0, 14), (0, 10), (0, 10), (0, 10), (3, 0), (0, 14), (0, 14), (0, 10), (0, 10), (0, 10), (3, 0), (0, 14), (0, 14), (0, 10), (0, 10), (0, 10), (3, 0), (0, 14), (0, 14), (0, 10), (0, 10), (0, 10)]
set_option maxRecDepth 100000 in
set_option maxHeartbeats 4000000 in
theorem xz_b91 (l : Launch) (D : va_G) (ids : ClassId × ClassId × ClassId × (Nat → Nat) × (Nat → Nat)) (ad : Nat → Nat) : xz_go (l, D, ids, xw_Sh, xw_P, ad) xz_I 91 xz_sh91 = bk_X3 ids (ad 91) (ad 92, ad 93, ad 94, (ad 95, ad 96, ad 97, ad 98, ad 99), ad 100, (ad 101, ad 102, ad 103, ad 104, ad 105), ad 106, (ad 107, ad 108, ad 109, ad 110, ad 111), ad 112, (ad 113, ad 114, ad 115, ad 116, ad 117), ad 118, (ad 119, ad 120, ad 121, ad 122, ad 123), ad 124, (ad 125, ad 126, ad 127, ad 128, ad 129)) := by
  simp only [xz_sh91, xz_go, Nat.reduceAdd, xz_c91, xz_c92, xz_c93, xz_c94, xz_c95, xz_c96, xz_c97, xz_c98, xz_c99, xz_c100, xz_c101, xz_c102, xz_c103, xz_c104, xz_c105, xz_c106, xz_c107, xz_c108, xz_c109, xz_c110, xz_c111, xz_c112, xz_c113, xz_c114, xz_c115, xz_c116, xz_c117, xz_c118, xz_c119, xz_c120, xz_c121, xz_c122, xz_c123, xz_c124, xz_c125, xz_c126, xz_c127, xz_c128, xz_c129]
  rfl
def xz_sh130 : List (Nat × Nat) := [(8, 0), (1, 400)]
set_option maxRecDepth 100000 in
set_option maxHeartbeats 4000000 in
theorem xz_b130 (l : Launch) (D : va_G) (ids : ClassId × ClassId × ClassId × (Nat → Nat) × (Nat → Nat)) (ad : Nat → Nat) : xz_go (l, D, ids, xw_Sh, xw_P, ad) xz_I 130 xz_sh130 = bk_X5 ids (ad 130) (ad 131) := by
  simp only [xz_sh130, xz_go, Nat.reduceAdd, xz_c130, xz_c131]
  rfl
def xz_sh132 : List (Nat × Nat) := [(9, 0), (0, 401), (0, 401), (0, 401)]
set_option maxRecDepth 100000 in
set_option maxHeartbeats 4000000 in
theorem xz_b132 (l : Launch) (D : va_G) (ids : ClassId × ClassId × ClassId × (Nat → Nat) × (Nat → Nat)) (ad : Nat → Nat) : xz_go (l, D, ids, xw_Sh, xw_P, ad) xz_I 132 xz_sh132 = bk_X6 ids (ad 132) (ad 133, ad 134, ad 135) := by
  simp only [xz_sh132, xz_go, Nat.reduceAdd, xz_c132, xz_c133, xz_c134, xz_c135]
  rfl
theorem xz_sh : xw_Sh = (11, 0) :: (xz_sh1 ++ (xz_sh31 ++ (xz_sh61 ++ (xz_sh91 ++ (xz_sh130 ++ xz_sh132))))) := by rfl
theorem xz_ws9 (l : Launch) (D : va_G) (ids : ClassId × ClassId × ClassId × (Nat → Nat) × (Nat → Nat)) (ad : Nat → Nat) : xc_ws (l, D, ids, xw_Sh, xw_P, ad) xz_I = bk_X9 ids (ad 0) (ad 1, (ad 2, ad 3, ad 4, ad 5, (ad 6, ad 7, ad 8, ad 9, ad 10), ad 11, ad 12, ad 13, ad 14, ad 15, ad 16, ad 17, ad 18, ad 19, (ad 20, ad 21, ad 22), ad 23, (ad 24, ad 25, ad 26, ad 27, ad 28, ad 29), ad 30), ad 31, (ad 32, ad 33, ad 34, ad 35, (ad 36, ad 37, ad 38, ad 39, ad 40), ad 41, ad 42, ad 43, ad 44, ad 45, ad 46, ad 47, ad 48, ad 49, (ad 50, ad 51, ad 52), ad 53, (ad 54, ad 55, ad 56, ad 57, ad 58, ad 59), ad 60), ad 61, (ad 62, ad 63, ad 64, ad 65, (ad 66, ad 67, ad 68, ad 69, ad 70), ad 71, ad 72, ad 73, ad 74, ad 75, ad 76, ad 77, ad 78, ad 79, (ad 80, ad 81, ad 82), ad 83, (ad 84, ad 85, ad 86, ad 87, ad 88, ad 89), ad 90), ad 91, (ad 92, ad 93, ad 94, (ad 95, ad 96, ad 97, ad 98, ad 99), ad 100, (ad 101, ad 102, ad 103, ad 104, ad 105), ad 106, (ad 107, ad 108, ad 109, ad 110, ad 111), ad 112, (ad 113, ad 114, ad 115, ad 116, ad 117), ad 118, (ad 119, ad 120, ad 121, ad 122, ad 123), ad 124, (ad 125, ad 126, ad 127, ad 128, ad 129)), ad 130, ad 131, ad 132, (ad 133, ad 134, ad 135)) := by
  rw [xz_go_ws]
  show xz_go (l, D, ids, xw_Sh, xw_P, ad) xz_I 0 xw_Sh = _
  rw [xz_sh]
  show (ad 0, xc_ent (l, D, ids, xw_Sh, xw_P, ad) xz_I 0 (11, 0)) :: xz_go (l, D, ids, xw_Sh, xw_P, ad) xz_I 1 _ = _
  rw [xz_c0, xz_go_app _ _ xz_sh1 _ 1 31 rfl, xz_go_app _ _ xz_sh31 _ 31 61 rfl, xz_go_app _ _ xz_sh61 _ 61 91 rfl, xz_go_app _ _ xz_sh91 _ 91 130 rfl, xz_go_app _ _ xz_sh130 _ 130 132 rfl, xz_b1, xz_b31, xz_b61, xz_b91, xz_b130, xz_b132]
  unfold bk_X9
  simp only [List.nil_append, List.append_assoc]
  all_goals rfl
set_option maxRecDepth 100000 in
set_option maxHeartbeats 4000000 in
theorem xz_ex9 (h0 : Nat) (u : (Nat × (Nat × Nat × Nat × Nat × (Nat × Nat × Nat × Nat × Nat) × Nat × Nat × Nat × Nat × Nat × Nat × Nat × Nat × Nat × (Nat × Nat × Nat) × Nat × (Nat × Nat × Nat × Nat × Nat × Nat) × Nat) × Nat × (Nat × Nat × Nat × Nat × (Nat × Nat × Nat × Nat × Nat) × Nat × Nat × Nat × Nat × Nat × Nat × Nat × Nat × Nat × (Nat × Nat × Nat) × Nat × (Nat × Nat × Nat × Nat × Nat × Nat) × Nat) × Nat × (Nat × Nat × Nat × Nat × (Nat × Nat × Nat × Nat × Nat) × Nat × Nat × Nat × Nat × Nat × Nat × Nat × Nat × Nat × (Nat × Nat × Nat) × Nat × (Nat × Nat × Nat × Nat × Nat × Nat) × Nat) × Nat × (Nat × Nat × Nat × (Nat × Nat × Nat × Nat × Nat) × Nat × (Nat × Nat × Nat × Nat × Nat) × Nat × (Nat × Nat × Nat × Nat × Nat) × Nat × (Nat × Nat × Nat × Nat × Nat) × Nat × (Nat × Nat × Nat × Nat × Nat) × Nat × (Nat × Nat × Nat × Nat × Nat)) × Nat × Nat × Nat × (Nat × Nat × Nat))) : ∃ ad : Nat → Nat, ad 0 = h0 ∧ (ad 1, (ad 2, ad 3, ad 4, ad 5, (ad 6, ad 7, ad 8, ad 9, ad 10), ad 11, ad 12, ad 13, ad 14, ad 15, ad 16, ad 17, ad 18, ad 19, (ad 20, ad 21, ad 22), ad 23, (ad 24, ad 25, ad 26, ad 27, ad 28, ad 29), ad 30), ad 31, (ad 32, ad 33, ad 34, ad 35, (ad 36, ad 37, ad 38, ad 39, ad 40), ad 41, ad 42, ad 43, ad 44, ad 45, ad 46, ad 47, ad 48, ad 49, (ad 50, ad 51, ad 52), ad 53, (ad 54, ad 55, ad 56, ad 57, ad 58, ad 59), ad 60), ad 61, (ad 62, ad 63, ad 64, ad 65, (ad 66, ad 67, ad 68, ad 69, ad 70), ad 71, ad 72, ad 73, ad 74, ad 75, ad 76, ad 77, ad 78, ad 79, (ad 80, ad 81, ad 82), ad 83, (ad 84, ad 85, ad 86, ad 87, ad 88, ad 89), ad 90), ad 91, (ad 92, ad 93, ad 94, (ad 95, ad 96, ad 97, ad 98, ad 99), ad 100, (ad 101, ad 102, ad 103, ad 104, ad 105), ad 106, (ad 107, ad 108, ad 109, ad 110, ad 111), ad 112, (ad 113, ad 114, ad 115, ad 116, ad 117), ad 118, (ad 119, ad 120, ad 121, ad 122, ad 123), ad 124, (ad 125, ad 126, ad 127, ad 128, ad 129)), ad 130, ad 131, ad 132, (ad 133, ad 134, ad 135)) = u := ⟨fun a => (xz_a9 h0 u).getD a 0, rfl, rfl⟩
