-- ===== the two memories at the start stand in RR =====
theorem xz_I0 (a k : Nat) (a4 : a ≠ 4) (a34 : a ≠ 34) (a64 : a ≠ 64) (a132 : a ≠ 132) : xz_I a k = nI 0 := by
  unfold xz_I
  split
  · exact absurd rfl a4
  · exact absurd rfl a34
  · exact absurd rfl a64
  · exact absurd rfl a132
  · rfl
theorem xz_I4 (j : Nat) (hj : j < 100) : xz_I 4 j = if j / 10 = j % 10 then nI 0 else nI 10 := by
  show (if j < 100 then (if j / 10 = j % 10 then (0 : Int32) else 10) else 0) = _
  rw [if_pos hj]
  rfl
theorem xz_m27 : ∀ k : Nat, (k ≠ 27) → (match k with | 27 => (-1 : Int32) | _ => 0) = nI 0 := by
  intro k hk
  split
  · exact absurd rfl hk
  · rfl
theorem xz_J0 (k : Nat) (hk : k ≠ 27) : xz_J 0 k = nI 0 := xz_m27 k hk
theorem xz_J1 (j : Nat) (hj : j < 98 ∨ 198 ≤ j) : xz_J 1 j = nI 0 := by
  show (if 98 ≤ j ∧ j < 98 + 100 then (if (j - 98) / 10 = (j - 98) % 10 then (0 : Int32) else 10) else 0) = nI 0
  rw [if_neg (by omega)]
  rfl
theorem xz_J2 (j : Nat) (hj : j < 100) : xz_J 1 (98 + j) = if j / 10 = j % 10 then nI 0 else nI 10 := by
  show (if 98 ≤ 98 + j ∧ 98 + j < 98 + 100 then (if (98 + j - 98) / 10 = (98 + j - 98) % 10 then (0 : Int32) else 10) else 0) = _
  rw [if_pos (by omega), show 98 + j - 98 = j by omega]
  rfl
theorem RR_xz : RR xz_I xz_J :=
  RR_start (fun a h4 h34 h64 h132 k => xz_I0 a k h4 h34 h64 h132) xz_I4 ⟨rfl, rfl⟩ xz_J0 rfl xz_J1 xz_J2
