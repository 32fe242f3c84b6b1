-- ===== the law from its entry to its end =====
theorem whole_start {p : Program} {e : Env} {s : State} {m : MethodId} {below : List Frame} {meth : Method} {c : Code} (l : Launch) (hflags : l.flags = flags0) {b L : Nat} {xs : Nat → Int32} (hL : L ≤ 3072) (C0 : lw_At p s m meth c b L xs) : W p l e room_1 s m #[Value.ref b] below meth c s.heap [] 0 0 (lw_Z below #[Value.ref b] s) (entryFrame m ([Value.ref b] : List Value).toArray 4) := by
  refine xv_enter l C0 (fun X Y C kc ks h hX hY => ?_)
  have h18 := slL_18 h hX hY 100000 100 (by omega) (L + 1) 0 (xz_I, xz_J)
  rw [show lL_18 100000 100 L xs (L + 1) 0 (xz_I, xz_J) = some 1 from whole_pure xs hL] at h18
  exact h18
