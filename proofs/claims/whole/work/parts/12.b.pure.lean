-- ===== the law's loop from the start, for every script =====
theorem whole_pure {L : Nat} (xs : Nat → Int32) (hL : L ≤ 3072) : lL_18 100000 100 L xs (L + 1) (nI 0) (xz_I, xz_J) = some 1 :=
  law_run (by omega) (by omega) hL L 0 (L + 1) xz_I xz_J (by omega) (by omega) (by omega) RR_xz
