def bX10_saysAll_75 (N : Nat) (I : xc_M) (k2 : Int32 → Int32 → Int32 → Option Int32) (k31 : Int32 → Int32 → Int32 → Int32 → Int32 → Option Int32) (v1 v2 v3 v5 s0 : Int32) : Option Int32 := xc_lt s0 fun v4_8 => xc_lt (v5 + 1) fun v5_9 => (k31 v1 v2 v3 v4_8 v5_9)
def bX10_saysAll_83 (N : Nat) (I : xc_M) (k2 : Int32 → Int32 → Int32 → Option Int32) (v1 v2 v3 v4 : Int32) : Option Int32 := (if v4 ≠ (0 : Int32) then xc_lt (v3 + 1) fun v3_7 => (k2 v1 v2 v3_7) else some 0)
def bX10_saysAll_31 (N : Nat) (I : xc_M) (k2 : Int32 → Int32 → Int32 → Option Int32) (k31 : Int32 → Int32 → Int32 → Int32 → Int32 → Option Int32) (v1 v2 v3 v4 v5 : Int32) : Option Int32 := xc_rd 2232 1 ((198 : Int32) + v3) I fun x5 => (if x5 ≤ v5 then (bX10_saysAll_83 N I k2 v1 v2 v3 v4) else (if v4 ≠ (0 : Int32) then (bX10_saysAll_83 N I k2 v1 v2 v3 v4) else xc_rd 60 13 (((6 : Int32) * v3) + v5) I fun x6 => (if (x6 &&& (v2 ^^^ (-1))) ≠ (0 : Int32) then (bX10_saysAll_75 N I k2 k31 v1 v2 v3 v5 0) else (bX10_saysAll_75 N I k2 k31 v1 v2 v3 v5 1))))
def lX10_saysAll_31 (N : Nat) (I : xc_M) (k2 : Int32 → Int32 → Int32 → Option Int32) : Nat → Int32 → Int32 → Int32 → Int32 → Int32 → Option Int32
  | 0 => fun _ _ _ _ _ => none
  | fu + 1 => bX10_saysAll_31 N I k2 (lX10_saysAll_31 N I k2 fu)
def bX10_saysAll_26 (N : Nat) (I : xc_M) (k2 : Int32 → Int32 → Int32 → Option Int32) (v1 v2 v3 s0 : Int32) : Option Int32 := xc_lt s0 fun v4_3 => xc_lt 0 fun v5_4 => (lX10_saysAll_31 N I k2 N v1 v2 v3 v4_3 v5_4)
def bX10_saysAll_2 (N : Nat) (I : xc_M) (k2 : Int32 → Int32 → Int32 → Option Int32) (v1 v2 v3 : Int32) : Option Int32 := xc_rd 2232 1 66 I fun x2 => (if x2 ≤ v3 then some 1 else (if ((v1 >>> (v3 &&& 31)) &&& 1) ≠ (0 : Int32) then (bX10_saysAll_26 N I k2 v1 v2 v3 0) else (bX10_saysAll_26 N I k2 v1 v2 v3 1)))
def lX10_saysAll_2 (N : Nat) (I : xc_M) : Nat → Int32 → Int32 → Int32 → Option Int32
  | 0 => fun _ _ _ => none
  | fu + 1 => bX10_saysAll_2 N I (lX10_saysAll_2 N I fu)
def fX10_saysAll (N : Nat) (I : xc_M) (v1 v2 : Int32) : Option Int32 := xc_lt 0 fun v3_1 => (lX10_saysAll_2 N I N v1 v2 v3_1)
def bX10_mostToGo_60 (N : Nat) (I : xc_M) (k16 : Int32 → Int32 → Int32 → Int32 → Option Int32) (v1 v2 v3 v4 : Int32) : Option Int32 := xc_lt (v4 + 1) fun v4_11 => (k16 v1 v2 v3 v4_11)
def bX10_mostToGo_16 (N : Nat) (I : xc_M) (k16 : Int32 → Int32 → Int32 → Int32 → Option Int32) (v1 v2 v3 v4 : Int32) : Option Int32 := (if v1 < v4 then some v3 else (if (v4 &&& (v1 ^^^ (-1))) ≠ (0 : Int32) then (bX10_mostToGo_60 N I k16 v1 v2 v3 v4) else xc_cr (fX10_count N v4) fun x7 => xc_cr (fX10_count N v3) fun x8 => (if x7 ≤ x8 then (bX10_mostToGo_60 N I k16 v1 v2 v3 v4) else xc_cr (fX10_saysAll N I v2 (v1 &&& (v4 ^^^ (-1)))) fun x9 => (if x9 = (0 : Int32) then (bX10_mostToGo_60 N I k16 v1 v2 v3 v4) else xc_lt v4 fun v3_10 => (bX10_mostToGo_60 N I k16 v1 v2 v3_10 v4)))))
def lX10_mostToGo_16 (N : Nat) (I : xc_M) : Nat → Int32 → Int32 → Int32 → Int32 → Option Int32
  | 0 => fun _ _ _ _ => none
  | fu + 1 => bX10_mostToGo_16 N I (lX10_mostToGo_16 N I fu)
def fX10_mostToGo (N : Nat) (I : xc_M) : Option Int32 := xc_cr (fX10_living I) fun x1 => xc_lt x1 fun v1_2 => xc_cr (fX10_saidBy N I v1_2) fun x3 => xc_lt x3 fun v2_4 => xc_lt 0 fun v3_5 => xc_lt 0 fun v4_6 => (lX10_mostToGo_16 N I N v1_2 v2_4 v3_5 v4_6)
def bX10_fewestToAdd_56 (N : Nat) (I : xc_M) (k6 : Int32 → Int32 → Int32 → Int32 → Int32 → Option Int32) (v1 v2 v3 v4 v5 : Int32) : Option Int32 := xc_lt (v5 + 1) fun v5_5 => (k6 v1 v2 v3 v4 v5_5)
def bX10_fewestToAdd_40 (N : Nat) (I : xc_M) (k6 : Int32 → Int32 → Int32 → Int32 → Int32 → Option Int32) (v1 v2 v3 v4 v5 : Int32) : Option Int32 := xc_cr (fX10_saysAll N I v1 (v2 ||| v5)) fun x6 => (if x6 = (0 : Int32) then (bX10_fewestToAdd_56 N I k6 v1 v2 v3 v4 v5) else xc_lt v5 fun v4_7 => (bX10_fewestToAdd_56 N I k6 v1 v2 v3 v4_7 v5))
def bX10_fewestToAdd_6 (N : Nat) (I : xc_M) (k6 : Int32 → Int32 → Int32 → Int32 → Int32 → Option Int32) (v1 v2 v3 v4 v5 : Int32) : Option Int32 := (if v3 < v5 then some v4 else (if (v5 &&& (v3 ^^^ (-1))) ≠ (0 : Int32) then (bX10_fewestToAdd_56 N I k6 v1 v2 v3 v4 v5) else (if v4 = ((-1) : Int32) then (bX10_fewestToAdd_40 N I k6 v1 v2 v3 v4 v5) else xc_cr (fX10_count N v5) fun x3 => xc_cr (fX10_count N v4) fun x4 => (if x4 ≤ x3 then (bX10_fewestToAdd_56 N I k6 v1 v2 v3 v4 v5) else (bX10_fewestToAdd_40 N I k6 v1 v2 v3 v4 v5)))))
def lX10_fewestToAdd_6 (N : Nat) (I : xc_M) : Nat → Int32 → Int32 → Int32 → Int32 → Int32 → Option Int32
  | 0 => fun _ _ _ _ _ => none
  | fu + 1 => bX10_fewestToAdd_6 N I (lX10_fewestToAdd_6 N I fu)
def fX10_fewestToAdd (N : Nat) (I : xc_M) (v1 v2 v3 : Int32) : Option Int32 := xc_lt (-1) fun v4_1 => xc_lt 0 fun v5_2 => (lX10_fewestToAdd_6 N I N v1 v2 v3 v4_1 v5_2)
def bX10_go_52 (N : Nat) (v1 s0 : Int32) (I : xc_M) : Option (Int32 × xc_M) := xc_lt s0 fun v2_8 => xc_rem v1 2 fun q9 => (if q9 ≠ (0 : Int32) then some (v2_8, I) else xc_cr (fX10_count N v2_8) fun x10 => some (x10, I))
def fX10_go (N : Nat) (v1 : Int32) (I : xc_M) : Option (Int32 × xc_M) := xc_cr (fX10_isIn v1 0 3) fun x1 => (if x1 ≠ (0 : Int32) then xc_cv (fX10_laysMeanings N I) fun I2 => (if (2 : Int32) ≤ v1 then xc_rd 2232 1 66 I2 fun x3 => xc_cr (fX10_living I2) fun x4 => xc_rd 2232 1 3 I2 fun x5 => xc_cr (fX10_fewestToAdd N I2 (((1 : Int32) <<< (x3 &&& 31)) - 1) x4 x5) fun x6 => (bX10_go_52 N v1 x6 I2) else xc_cr (fX10_mostToGo N I2) fun x7 => (bX10_go_52 N v1 x7 I2)) else some ((-1), I))
def fX10_school (N : Nat) (v1 v2 : Int32) (I : xc_M) : Option (Int32 × xc_M) := xc_cr (fX10_isPerson I v1) fun x1 => (if x1 = (0 : Int32) then some ((-1), I) else xc_cr (fX10_isIn v2 0 1) fun x2 => (if x2 ≠ (0 : Int32) then xc_cv (fX10_laysMeanings N I) fun I3 => xc_cr (fX10_living I3) fun x4 => xc_cr (fX10_saidBy N I3 x4) fun x5 => xc_rd 2232 1 ((42 : Int32) + v1) I3 fun x6 => xc_cr (fX10_living I3) fun x7 => xc_rd 2232 1 ((42 : Int32) + v1) I3 fun x8 => xc_cr (fX10_fewestToAdd N I3 x5 x6 (x7 &&& (x8 ^^^ (-1)))) fun x9 => xc_lt x9 fun v3_10 => (if v2 ≠ (0 : Int32) then some (v3_10, I3) else xc_cr (fX10_count N v3_10) fun x11 => some (x11, I3)) else some ((-1), I)))
def bX10_boast_110 (N : Nat) (I : xc_M) (k27 : Int32 → Int32 → Int32 → Int32 → Int32 → Option Int32) (k42 : Int32 → Int32 → Int32 → Int32 → Int32 → Int32 → Option Int32) (v1 v2 v3 v4 v5 v6 : Int32) : Option Int32 := xc_lt (v6 + 1) fun v6_16 => (k42 v1 v2 v3 v4 v5 v6_16)
def bX10_boast_42 (N : Nat) (I : xc_M) (k27 : Int32 → Int32 → Int32 → Int32 → Int32 → Option Int32) (k42 : Int32 → Int32 → Int32 → Int32 → Int32 → Int32 → Option Int32) (v1 v2 v3 v4 v5 v6 : Int32) : Option Int32 := xc_rd 2232 1 ((198 : Int32) + v5) I fun x8 => (if x8 ≤ v6 then xc_lt (v5 + 1) fun v5_9 => (k27 v1 v2 v3 v4 v5_9) else xc_cr (fX10_wordsOf N I v5 v6) fun x10 => xc_rd 2232 1 ((42 : Int32) + v1) I fun x11 => (if (x10 &&& (x11 ^^^ (-1))) ≠ (0 : Int32) then (bX10_boast_110 N I k27 k42 v1 v2 v3 v4 v5 v6) else xc_cr (fX10_longOf N I v5 v6) fun x12 => (if v4 < x12 then xc_cr (fX10_longOf N I v5 v6) fun x13 => xc_lt x13 fun v4_14 => xc_lt v5 fun v3_15 => (bX10_boast_110 N I k27 k42 v1 v2 v3_15 v4_14 v5 v6) else (bX10_boast_110 N I k27 k42 v1 v2 v3 v4 v5 v6))))
def lX10_boast_42 (N : Nat) (I : xc_M) (k27 : Int32 → Int32 → Int32 → Int32 → Int32 → Option Int32) : Nat → Int32 → Int32 → Int32 → Int32 → Int32 → Int32 → Option Int32
  | 0 => fun _ _ _ _ _ _ => none
  | fu + 1 => bX10_boast_42 N I k27 (lX10_boast_42 N I k27 fu)
def bX10_boast_27 (N : Nat) (I : xc_M) (k27 : Int32 → Int32 → Int32 → Int32 → Int32 → Option Int32) (v1 v2 v3 v4 v5 : Int32) : Option Int32 := xc_rd 2232 1 66 I fun x6 => (if x6 ≤ v5 then (if v2 ≠ (0 : Int32) then some v3 else some v4) else xc_lt 0 fun v6_7 => (lX10_boast_42 N I k27 N v1 v2 v3 v4 v5 v6_7))
def lX10_boast_27 (N : Nat) (I : xc_M) : Nat → Int32 → Int32 → Int32 → Int32 → Int32 → Option Int32
  | 0 => fun _ _ _ _ _ => none
  | fu + 1 => bX10_boast_27 N I (lX10_boast_27 N I fu)
def fX10_boast (N : Nat) (I : xc_M) (v1 v2 : Int32) : Option Int32 := xc_cr (fX10_isPerson I v1) fun x1 => (if x1 = (0 : Int32) then some (-1) else xc_cr (fX10_isIn v2 0 1) fun x2 => (if x2 ≠ (0 : Int32) then xc_lt (-1) fun v3_3 => xc_lt (-1) fun v4_4 => xc_lt 0 fun v5_5 => (lX10_boast_27 N I N v1 v2 v3_3 v4_4 v5_5) else some (-1)))
def bX10_lays_2 (N : Nat) (k2 : Int32 → xc_M → Option (Int32 × xc_M)) (v1 : Int32) (I : xc_M) : Option (Int32 × xc_M) := (if (62 : Int32) ≤ v1 then xc_mz I 0 29 0 fun I2 => xc_mw I2 0 30 (-1) fun I3 => xc_mw I3 0 31 (-1) fun I4 => some (0, I4) else xc_rd 2232 1 v1 I fun x5 => xc_st 62 4 v1 x5 I fun I6 => xc_lt (v1 + 1) fun v1_7 => (k2 v1_7 I6))
def lX10_lays_2 (N : Nat) : Nat → Int32 → xc_M → Option (Int32 × xc_M)
  | 0 => fun _ _ => none
  | fu + 1 => bX10_lays_2 N (lX10_lays_2 N fu)
def fX10_lays (N : Nat) (I : xc_M) : Option (Int32 × xc_M) := xc_lt 0 fun v1_1 => (lX10_lays_2 N N v1_1 I)
def bX10_putsBack_2 (N : Nat) (k2 : Int32 → xc_M → Option (Int32 × xc_M)) (v1 : Int32) (I : xc_M) : Option (Int32 × xc_M) := (if (62 : Int32) ≤ v1 then some (0, I) else xc_rd 62 4 v1 I fun x2 => xc_st 2232 1 v1 x2 I fun I3 => xc_lt (v1 + 1) fun v1_4 => (k2 v1_4 I3))
def lX10_putsBack_2 (N : Nat) : Nat → Int32 → xc_M → Option (Int32 × xc_M)
  | 0 => fun _ _ => none
  | fu + 1 => bX10_putsBack_2 N (lX10_putsBack_2 N fu)
def fX10_putsBack (N : Nat) (I : xc_M) : Option (Int32 × xc_M) := xc_lt 0 fun v1_1 => (lX10_putsBack_2 N N v1_1 I)
def bX10_goes_29 (N : Nat) (k29 : Int32 → Int32 → Int32 → xc_M → Option (Int32 × xc_M)) (v1 v2 v3 : Int32) (I : xc_M) : Option (Int32 × xc_M) := (if v1 ≤ v3 then xc_rd 2232 1 3 I fun x5 => xc_cr (fX10_count N x5) fun x6 => xc_lt x6 fun v3_7 => xc_cv (fX10_putsBack N I) fun I8 => (if v2 ≠ (0 : Int32) then (if v2 ≠ (1 : Int32) then some ((I8 0 31), I8) else some ((I8 0 30), I8)) else some (v3_7, I8)) else xc_cl (fX10_works N I) fun x9 I10 => xc_cv (fX10_ends N I10) fun I11 => xc_lt (v3 + 1) fun v3_12 => (k29 v1 v2 v3_12 I11))
def lX10_goes_29 (N : Nat) : Nat → Int32 → Int32 → Int32 → xc_M → Option (Int32 × xc_M)
  | 0 => fun _ _ _ _ => none
  | fu + 1 => bX10_goes_29 N (lX10_goes_29 N fu)
def fX10_goes (N : Nat) (v1 v2 : Int32) (I : xc_M) : Option (Int32 × xc_M) := xc_cr (fX10_isIn v1 1 400) fun x1 => (if x1 = (0 : Int32) then some ((-2), I) else xc_cr (fX10_isIn v2 0 2) fun x2 => (if x2 ≠ (0 : Int32) then xc_cv (fX10_lays N I) fun I3 => xc_lt 0 fun v3_4 => (lX10_goes_29 N N v1 v2 v3_4 I3) else some ((-2), I)))
def bX10_misses_178 (N : Nat) (k60 : Int32 → Int32 → Int32 → Int32 → xc_M → Option (Int32 × xc_M)) (k78 : Int32 → Int32 → Int32 → Int32 → Int32 → xc_M → Option (Int32 × xc_M)) (v1 v2 v3 v4 v5 : Int32) (I : xc_M) : Option (Int32 × xc_M) := xc_lt (v5 + 1) fun v5_28 => (k78 v1 v2 v3 v4 v5_28 I)
def bX10_misses_177 (N : Nat) (k60 : Int32 → Int32 → Int32 → Int32 → xc_M → Option (Int32 × xc_M)) (k78 : Int32 → Int32 → Int32 → Int32 → Int32 → xc_M → Option (Int32 × xc_M)) (v1 v2 v4 v5 s0 : Int32) (I : xc_M) : Option (Int32 × xc_M) := xc_lt s0 fun v3_29 => (bX10_misses_178 N k60 k78 v1 v2 v3_29 v4 v5 I)
def bX10_misses_171 (N : Nat) (k60 : Int32 → Int32 → Int32 → Int32 → xc_M → Option (Int32 × xc_M)) (k78 : Int32 → Int32 → Int32 → Int32 → Int32 → xc_M → Option (Int32 × xc_M)) (v1 v2 v3 v4 v5 : Int32) (I : xc_M) : Option (Int32 × xc_M) := (bX10_misses_177 N k60 k78 v1 v2 v4 v5 v3 I)
def bX10_misses_158 (N : Nat) (k60 : Int32 → Int32 → Int32 → Int32 → xc_M → Option (Int32 × xc_M)) (k78 : Int32 → Int32 → Int32 → Int32 → Int32 → xc_M → Option (Int32 × xc_M)) (v1 v2 v3 v5 v7 s0 s1 : Int32) (I : xc_M) : Option (Int32 × xc_M) := xc_lt (s1 + s0) fun v4_27 => (if v7 ≠ (0 : Int32) then (bX10_misses_171 N k60 k78 v1 v2 v3 v4_27 v5 I) else (if v3 = ((-1) : Int32) then (bX10_misses_177 N k60 k78 v1 v2 v4_27 v5 v5 I) else (bX10_misses_171 N k60 k78 v1 v2 v3 v4_27 v5 I)))
def bX10_misses_78 (N : Nat) (k60 : Int32 → Int32 → Int32 → Int32 → xc_M → Option (Int32 × xc_M)) (k78 : Int32 → Int32 → Int32 → Int32 → Int32 → xc_M → Option (Int32 × xc_M)) (v1 v2 v3 v4 v5 : Int32) (I : xc_M) : Option (Int32 × xc_M) := xc_rd 2232 1 68 I fun x17 => (if x17 ≤ v5 then xc_cv (fX10_ends N I) fun I18 => (k60 v1 v2 v3 v4 I18) else xc_lt ((692 : Int32) + ((3 : Int32) * v5)) fun v6_19 => xc_rd 2232 1 (v6_19 + 1) I fun x20 => xc_rd 2232 1 0 I fun x21 => (if x20 = x21 then xc_rd 2232 1 v6_19 I fun x22 => xc_cr (fX10_living I) fun x23 => xc_cr (fX10_canBeSaid N I x22 x23) fun x24 => xc_lt x24 fun v7_25 => (if v7_25 = (0 : Int32) then (bX10_misses_158 N k60 k78 v1 v2 v3 v5 v7_25 0 v4 I) else xc_rd 2232 1 (v6_19 + 2) I fun x26 => (bX10_misses_158 N k60 k78 v1 v2 v3 v5 v7_25 x26 v4 I)) else (bX10_misses_178 N k60 k78 v1 v2 v3 v4 v5 I)))
def lX10_misses_78 (N : Nat) (k60 : Int32 → Int32 → Int32 → Int32 → xc_M → Option (Int32 × xc_M)) : Nat → Int32 → Int32 → Int32 → Int32 → Int32 → xc_M → Option (Int32 × xc_M)
  | 0 => fun _ _ _ _ _ _ => none
  | fu + 1 => bX10_misses_78 N k60 (lX10_misses_78 N k60 fu)
def bX10_misses_60 (N : Nat) (k60 : Int32 → Int32 → Int32 → Int32 → xc_M → Option (Int32 × xc_M)) (v1 v2 v3 v4 : Int32) (I : xc_M) : Option (Int32 × xc_M) := xc_rd 2232 1 0 I fun x12 => (if v2 < x12 then xc_cv (fX10_putsBack N I) fun I13 => (if v1 ≠ (0 : Int32) then some (v4, I13) else some (v3, I13)) else xc_cl (fX10_works N I) fun x14 I15 => xc_lt 0 fun v5_16 => (lX10_misses_78 N k60 N v1 v2 v3 v4 v5_16 I15))
def lX10_misses_60 (N : Nat) : Nat → Int32 → Int32 → Int32 → Int32 → xc_M → Option (Int32 × xc_M)
  | 0 => fun _ _ _ _ _ => none
  | fu + 1 => bX10_misses_60 N (lX10_misses_60 N fu)
def bX10_misses_15 (N : Nat) (k15 : Int32 → Int32 → Int32 → xc_M → Option (Int32 × xc_M)) (v1 v2 v3 : Int32) (I : xc_M) : Option (Int32 × xc_M) := xc_rd 2232 1 68 I fun x4 => (if x4 ≤ v3 then xc_lt (-1) fun v3_5 => xc_lt 0 fun v4_6 => xc_cv (fX10_lays N I) fun I7 => (lX10_misses_60 N N v1 v2 v3_5 v4_6 I7) else xc_rd 2232 1 (((692 : Int32) + ((3 : Int32) * v3)) + 1) I fun x8 => xc_cr (fX10_greater v2 x8) fun x9 => xc_lt x9 fun v2_10 => xc_lt (v3 + 1) fun v3_11 => (k15 v1 v2_10 v3_11 I))
def lX10_misses_15 (N : Nat) : Nat → Int32 → Int32 → Int32 → xc_M → Option (Int32 × xc_M)
  | 0 => fun _ _ _ _ => none
  | fu + 1 => bX10_misses_15 N (lX10_misses_15 N fu)
def fX10_misses (N : Nat) (v1 : Int32) (I : xc_M) : Option (Int32 × xc_M) := xc_cr (fX10_isIn v1 0 1) fun x1 => (if x1 ≠ (0 : Int32) then xc_lt (-1) fun v2_2 => xc_lt 0 fun v3_3 => (lX10_misses_15 N N v1 v2_2 v3_3 I) else some ((-1), I))
def bX10_tonguesOf_38 (N : Nat) (I : xc_M) (k4 : Int32 → Int32 → Int32 → Option Int32) (v1 v3 s0 s1 : Int32) : Option Int32 := xc_lt (s1 ||| s0) fun v2_5 => xc_lt (v3 + 1) fun v3_6 => (k4 v1 v2_5 v3_6)
def bX10_tonguesOf_4 (N : Nat) (I : xc_M) (k4 : Int32 → Int32 → Int32 → Option Int32) (v1 v2 v3 : Int32) : Option Int32 := xc_rd 2232 1 63 I fun x3 => (if x3 ≤ v3 then some v2 else (if ((v1 >>> (v3 &&& 31)) &&& 1) ≠ (1 : Int32) then (bX10_tonguesOf_38 N I k4 v1 v3 0 v2) else xc_rd 2232 1 ((42 : Int32) + v3) I fun x4 => (bX10_tonguesOf_38 N I k4 v1 v3 x4 v2)))
def lX10_tonguesOf_4 (N : Nat) (I : xc_M) : Nat → Int32 → Int32 → Int32 → Option Int32
  | 0 => fun _ _ _ => none
  | fu + 1 => bX10_tonguesOf_4 N I (lX10_tonguesOf_4 N I fu)
def fX10_tonguesOf (N : Nat) (I : xc_M) (v1 : Int32) : Option Int32 := xc_lt 0 fun v2_1 => xc_lt 0 fun v3_2 => (lX10_tonguesOf_4 N I N v1 v2_1 v3_2)
def fX10_aloneIn (N : Nat) (I : xc_M) (v1 : Int32) : Option Int32 := xc_rd 2232 1 ((42 : Int32) + v1) I fun x1 => xc_rd 2232 1 63 I fun x2 => xc_cr (fX10_tonguesOf N I ((((1 : Int32) <<< (x2 &&& 31)) - 1) &&& (((1 : Int32) <<< (v1 &&& 31)) ^^^ (-1)))) fun x3 => xc_cr (fX10_count N (x1 &&& (x3 ^^^ (-1)))) fun x4 => some x4
def fX10_costs (N : Nat) (I : xc_M) (v1 : Int32) : Option Int32 := xc_cr (fX10_isPerson I v1) fun x1 => (if x1 = (0 : Int32) then some (-1) else xc_cr (fX10_aloneIn N I v1) fun x2 => some x2)
def bX10_keepers_76 (N : Nat) (I : xc_M) (k47 : Int32 → Int32 → Option Int32) (v3 v4 : Int32) : Option Int32 := xc_lt (v4 + 1) fun v4_20 => (k47 v3 v4_20)
def bX10_keepers_47 (N : Nat) (I : xc_M) (k47 : Int32 → Int32 → Option Int32) (v3 v4 : Int32) : Option Int32 := xc_rd 2232 1 63 I fun x16 => (if x16 ≤ v4 then some v3 else xc_cr (fX10_aloneIn N I v4) fun x17 => xc_cr (fX10_aloneIn N I v3) fun x18 => (if x17 ≤ x18 then (bX10_keepers_76 N I k47 v3 v4) else xc_lt v4 fun v3_19 => (bX10_keepers_76 N I k47 v3_19 v4)))
def lX10_keepers_47 (N : Nat) (I : xc_M) : Nat → Int32 → Int32 → Option Int32
  | 0 => fun _ _ => none
  | fu + 1 => bX10_keepers_47 N I (lX10_keepers_47 N I fu)
def bX10_keepers_43 (N : Nat) (I : xc_M) (s0 : Int32) : Option Int32 := xc_lt s0 fun v3_13 => xc_lt 1 fun v4_14 => (lX10_keepers_47 N I N v3_13 v4_14)
def bX10_keepers_123 (N : Nat) (I : xc_M) (k89 : Int32 → Int32 → Int32 → Int32 → Option Int32) (v1 v2 v3 v4 : Int32) : Option Int32 := xc_lt (v4 + (-1)) fun v4_15 => (k89 v1 v2 v3 v4_15)
def bX10_keepers_89 (N : Nat) (I : xc_M) (k89 : Int32 → Int32 → Int32 → Int32 → Option Int32) (v1 v2 v3 v4 : Int32) : Option Int32 := (if v4 < (0 : Int32) then (if v1 ≠ (0 : Int32) then some v3 else xc_cr (fX10_count N v3) fun x7 => some x7) else xc_cr (fX10_count N v4) fun x8 => xc_cr (fX10_count N v3) fun x9 => (if x9 < x8 then (bX10_keepers_123 N I k89 v1 v2 v3 v4) else xc_cr (fX10_tonguesOf N I v4) fun x10 => xc_cr (fX10_tonguesOf N I v2) fun x11 => (if x10 ≠ x11 then (bX10_keepers_123 N I k89 v1 v2 v3 v4) else xc_lt v4 fun v3_12 => (bX10_keepers_123 N I k89 v1 v2 v3_12 v4))))
def lX10_keepers_89 (N : Nat) (I : xc_M) : Nat → Int32 → Int32 → Int32 → Int32 → Option Int32
  | 0 => fun _ _ _ _ => none
  | fu + 1 => bX10_keepers_89 N I (lX10_keepers_89 N I fu)
def fX10_keepers (N : Nat) (I : xc_M) (v1 : Int32) : Option Int32 := xc_cr (fX10_isIn v1 0 2) fun x1 => (if x1 ≠ (0 : Int32) then xc_rd 2232 1 63 I fun x2 => xc_lt (((1 : Int32) <<< (x2 &&& 31)) - 1) fun v2_3 => (if v1 ≠ (2 : Int32) then xc_lt v2_3 fun v3_4 => xc_lt v2_3 fun v4_5 => (lX10_keepers_89 N I N v1 v2_3 v3_4 v4_5) else xc_rd 2232 1 63 I fun x6 => (if x6 ≠ (0 : Int32) then (bX10_keepers_43 N I 0) else (bX10_keepers_43 N I (-1)))) else some (-1))
def bX10_goesRound_23 (N : Nat) (r_X10_goesRound : Int32 → Int32 → Int32 → Int32 → xc_M → Option (Int32 × xc_M)) (k23 : Int32 → Int32 → xc_M → Option (Int32 × xc_M)) (v3 v5 : Int32) (I : xc_M) : Option (Int32 × xc_M) := (if v3 ≤ v5 then some (0, I) else xc_rd 6 14 v5 I fun x7 => xc_st 6 15 v5 x7 I fun I8 => xc_lt (v5 + 1) fun v5_9 => (k23 v3 v5_9 I8))
def lX10_goesRound_23 (N : Nat) (r_X10_goesRound : Int32 → Int32 → Int32 → Int32 → xc_M → Option (Int32 × xc_M)) : Nat → Int32 → Int32 → xc_M → Option (Int32 × xc_M)
  | 0 => fun _ _ _ => none
  | fu + 1 => bX10_goesRound_23 N r_X10_goesRound (lX10_goesRound_23 N r_X10_goesRound fu)
def bX10_goesRound_107 (N : Nat) (r_X10_goesRound : Int32 → Int32 → Int32 → Int32 → xc_M → Option (Int32 × xc_M)) (k53 : Int32 → Int32 → Int32 → Int32 → Int32 → xc_M → Option (Int32 × xc_M)) (v1 v2 v3 v4 v5 : Int32) (I : xc_M) : Option (Int32 × xc_M) := xc_lt (v5 + 1) fun v5_10 => (k53 v1 v2 v3 v4 v5_10 I)
def bX10_goesRound_53 (N : Nat) (r_X10_goesRound : Int32 → Int32 → Int32 → Int32 → xc_M → Option (Int32 × xc_M)) (k53 : Int32 → Int32 → Int32 → Int32 → Int32 → xc_M → Option (Int32 × xc_M)) (v1 v2 v3 v4 v5 : Int32) (I : xc_M) : Option (Int32 × xc_M) := (if (10 : Int32) ≤ v5 then some (0, I) else (if ((v2 >>> (v5 &&& 31)) &&& 1) ≠ (0 : Int32) then xc_st 6 14 v3 v5 I fun I4 => xc_cr (fX10_milesOf I4 v1 v5) fun x5 => xc_cv (r_X10_goesRound v5 (v2 &&& (((1 : Int32) <<< (v5 &&& 31)) ^^^ (-1))) (v3 + 1) (v4 + x5) I4) fun I6 => (bX10_goesRound_107 N r_X10_goesRound k53 v1 v2 v3 v4 v5 I6) else (bX10_goesRound_107 N r_X10_goesRound k53 v1 v2 v3 v4 v5 I)))
def lX10_goesRound_53 (N : Nat) (r_X10_goesRound : Int32 → Int32 → Int32 → Int32 → xc_M → Option (Int32 × xc_M)) : Nat → Int32 → Int32 → Int32 → Int32 → Int32 → xc_M → Option (Int32 × xc_M)
  | 0 => fun _ _ _ _ _ _ => none
  | fu + 1 => bX10_goesRound_53 N r_X10_goesRound (lX10_goesRound_53 N r_X10_goesRound fu)
def gX10_goesRound (N : Nat) (r_X10_goesRound : Int32 → Int32 → Int32 → Int32 → xc_M → Option (Int32 × xc_M)) (v1 v2 v3 v4 : Int32) (I : xc_M) : Option (Int32 × xc_M) := (if v2 ≠ (0 : Int32) then xc_lt 0 fun v5_1 => (lX10_goesRound_53 N r_X10_goesRound N v1 v2 v3 v4 v5_1 I) else (if v4 < (I 0 35) then xc_mw I 0 35 v4 fun I2 => xc_lt 0 fun v5_3 => (lX10_goesRound_23 N r_X10_goesRound N v3 v5_3 I2) else some (0, I)))
def zX10_goesRound (N : Nat) : Nat → Nat → Int32 → Int32 → Int32 → Int32 → xc_M → Option (Int32 × xc_M)
  | 0 => fun _ => fun _ _ _ _ _ => none
  | fu + 1 => fun t => fun v1 v2 v3 v4 I => gX10_goesRound N (zX10_goesRound N fu 0) v1 v2 v3 v4 I
def fX10_goesRound (N : Nat) (M : Nat) (v1 : Int32) (v2 : Int32) (v3 : Int32) (v4 : Int32) (I : xc_M) : Option (Int32 × xc_M) := zX10_goesRound N M 0 v1 v2 v3 v4 I
def bX10_round_54 (N : Nat) (M : Nat) (v1 v2 v3 : Int32) (I : xc_M) : Option (Int32 × xc_M) := xc_mw I 0 35 1000000 fun I6 => xc_rd 2232 1 ((32 : Int32) + v1) I6 fun x7 => xc_cv (fX10_goesRound N M x7 v2 0 0 I6) fun I8 => (if v3 ≠ (0 : Int32) then xc_rd 6 15 (v3 - 10) I8 fun x9 => some (x9, I8) else some ((I8 0 35), I8))
def fX10_round (N : Nat) (M : Nat) (v1 v2 v3 : Int32) (I : xc_M) : Option (Int32 × xc_M) := xc_cr (fX10_isPerson I v1) fun x1 => (if x1 = (0 : Int32) then some ((-1), I) else xc_cr (fX10_isIn v2 0 1023) fun x2 => (if x2 ≠ (0 : Int32) then xc_cr (fX10_count N v2) fun x3 => xc_lt x3 fun v4_4 => (if (6 : Int32) < v4_4 then some ((-1), I) else (if v3 = (0 : Int32) then (bX10_round_54 N M v1 v2 v3 I) else xc_cr (fX10_isIn v3 10 ((9 : Int32) + v4_4)) fun x5 => (if x5 ≠ (0 : Int32) then (bX10_round_54 N M v1 v2 v3 I) else some ((-1), I)))) else some ((-1), I)))
def bX10_unsaidOf_37 (N : Nat) (I : xc_M) (k4 : Int32 → Int32 → Int32 → Option Int32) (v1 v3 s0 s1 : Int32) : Option Int32 := xc_lt (s1 + s0) fun v2_5 => xc_lt (v3 + 1) fun v3_6 => (k4 v1 v2_5 v3_6)
def bX10_unsaidOf_4 (N : Nat) (I : xc_M) (k4 : Int32 → Int32 → Int32 → Option Int32) (v1 v2 v3 : Int32) : Option Int32 := xc_rd 2232 1 62 I fun x3 => (if x3 ≤ v3 then some v2 else (if ((v1 >>> (v3 &&& 31)) &&& 1) ≠ (1 : Int32) then (bX10_unsaidOf_37 N I k4 v1 v3 0 v2) else xc_rd 2232 1 ((4 : Int32) + v3) I fun x4 => (bX10_unsaidOf_37 N I k4 v1 v3 x4 v2)))
def lX10_unsaidOf_4 (N : Nat) (I : xc_M) : Nat → Int32 → Int32 → Int32 → Option Int32
  | 0 => fun _ _ _ => none
  | fu + 1 => bX10_unsaidOf_4 N I (lX10_unsaidOf_4 N I fu)
def fX10_unsaidOf (N : Nat) (I : xc_M) (v1 : Int32) : Option Int32 := xc_lt 0 fun v2_1 => xc_lt 0 fun v3_2 => (lX10_unsaidOf_4 N I N v1 v2_1 v3_2)
def bX10_quarrel_132 (N : Nat) (I : xc_M) (k81 : Int32 → Int32 → Int32 → Int32 → Int32 → Option Int32) (v3 v4 v5 v6 v7 : Int32) : Option Int32 := xc_lt (v7 + 1) fun v7_15 => (k81 v3 v4 v5 v6 v7_15)
def bX10_quarrel_128 (N : Nat) (I : xc_M) (k81 : Int32 → Int32 → Int32 → Int32 → Int32 → Option Int32) (v3 v4 v5 v7 : Int32) : Option Int32 := xc_lt v7 fun v6_16 => (bX10_quarrel_132 N I k81 v3 v4 v5 v6_16 v7)
def bX10_quarrel_150 (N : Nat) (I : xc_M) (v6 : Int32) : Option Int32 := some v6
def bX10_quarrel_81 (N : Nat) (I : xc_M) (k81 : Int32 → Int32 → Int32 → Int32 → Int32 → Option Int32) (v3 v4 v5 v6 v7 : Int32) : Option Int32 := (if v5 < v7 then (if v6 = ((-1) : Int32) then (bX10_quarrel_150 N I v6) else (if v4 ≠ (2 : Int32) then xc_cr (fX10_unsaidOf N I v6) fun x11 => some x11 else (bX10_quarrel_150 N I v6))) else (if (v7 &&& (v5 ^^^ (-1))) ≠ (0 : Int32) then (bX10_quarrel_132 N I k81 v3 v4 v5 v6 v7) else xc_cr (fX10_count N v7) fun x12 => (if x12 ≠ v3 then (bX10_quarrel_132 N I k81 v3 v4 v5 v6 v7) else (if v6 = ((-1) : Int32) then (bX10_quarrel_128 N I k81 v3 v4 v5 v7) else xc_cr (fX10_unsaidOf N I v7) fun x13 => xc_cr (fX10_unsaidOf N I v6) fun x14 => (if x13 ≤ x14 then (bX10_quarrel_132 N I k81 v3 v4 v5 v6 v7) else (bX10_quarrel_128 N I k81 v3 v4 v5 v7))))))
def lX10_quarrel_81 (N : Nat) (I : xc_M) : Nat → Int32 → Int32 → Int32 → Int32 → Int32 → Option Int32
  | 0 => fun _ _ _ _ _ => none
  | fu + 1 => bX10_quarrel_81 N I (lX10_quarrel_81 N I fu)
def fX10_quarrel (N : Nat) (I : xc_M) (v1 v2 v3 v4 : Int32) : Option Int32 := xc_cr (fX10_isPerson I v1) fun x1 => (if x1 = (0 : Int32) then some (-1) else xc_cr (fX10_isPerson I v2) fun x2 => (if x2 = (0 : Int32) then some (-1) else (if v1 = v2 then some (-1) else xc_cr (fX10_isIn v3 1 6) fun x3 => (if x3 = (0 : Int32) then some (-1) else xc_cr (fX10_isIn v4 0 2) fun x4 => (if x4 ≠ (0 : Int32) then xc_rd 2232 1 ((42 : Int32) + v1) I fun x5 => xc_rd 2232 1 ((42 : Int32) + v2) I fun x6 => xc_lt (x5 &&& x6) fun v5_7 => (if v4 ≠ (0 : Int32) then xc_lt (-1) fun v6_8 => xc_lt 0 fun v7_9 => (lX10_quarrel_81 N I N v3 v4 v5_7 v6_8 v7_9) else xc_cr (fX10_count N v5_7) fun x10 => some x10) else some (-1))))))
def bX10_talk_35 (v1 v2 : Int32) (I : xc_M) : Option (Int32 × xc_M) := xc_rd 2232 1 69 I fun x4 => (if x4 ≠ (10 : Int32) then xc_rd 2232 1 69 I fun x5 => xc_st 2232 1 ((728 : Int32) + ((2 : Int32) * x5)) v1 I fun I6 => xc_rd 2232 1 69 I6 fun x7 => xc_st 2232 1 (((728 : Int32) + ((2 : Int32) * x7)) + 1) v2 I6 fun I8 => xc_rd 2232 1 69 I8 fun x9 => xc_st 2232 1 69 (x9 + 1) I8 fun I10 => xc_rd 2232 1 69 I10 fun x11 => some (x11, I10) else some ((-1), I))
def fX10_talk (v1 v2 : Int32) (I : xc_M) : Option (Int32 × xc_M) := (if v1 ≠ ((-1) : Int32) then xc_cr (fX10_isWord I v1) fun x1 => (if x1 = (0 : Int32) then some ((-1), I) else (if v2 = ((-1) : Int32) then (bX10_talk_35 v1 v2 I) else xc_cr (fX10_isPlace v2) fun x2 => (if x2 = (0 : Int32) then some ((-1), I) else (bX10_talk_35 v1 v2 I)))) else xc_st 2232 1 69 0 I fun I3 => some (0, I3))
def bX10_spokeSet_108 (N : Nat) (I : xc_M) (k4 : Int32 → Int32 → Option Int32) (k20 : Int32 → Int32 → Int32 → Int32 → Option Int32) (v1 v2 v4 s0 : Int32) : Option Int32 := xc_lt s0 fun v3_14 => xc_lt (v4 + 1) fun v4_15 => (k20 v1 v2 v3_14 v4_15)
def bX10_spokeSet_103 (N : Nat) (I : xc_M) (k4 : Int32 → Int32 → Option Int32) (k20 : Int32 → Int32 → Int32 → Int32 → Option Int32) (v1 v2 v4 : Int32) : Option Int32 := (bX10_spokeSet_108 N I k4 k20 v1 v2 v4 1)
def bX10_spokeSet_107 (N : Nat) (I : xc_M) (k4 : Int32 → Int32 → Option Int32) (k20 : Int32 → Int32 → Int32 → Int32 → Option Int32) (v1 v2 v4 : Int32) : Option Int32 := (bX10_spokeSet_108 N I k4 k20 v1 v2 v4 0)
def bX10_spokeSet_127 (N : Nat) (I : xc_M) (k4 : Int32 → Int32 → Option Int32) (v2 s0 s1 : Int32) : Option Int32 := xc_lt (s1 ||| s0) fun v1_12 => xc_lt (v2 + 1) fun v2_13 => (k4 v1_12 v2_13)
def bX10_spokeSet_20 (N : Nat) (I : xc_M) (k4 : Int32 → Int32 → Option Int32) (k20 : Int32 → Int32 → Int32 → Int32 → Option Int32) (v1 v2 v3 v4 : Int32) : Option Int32 := xc_rd 2232 1 69 I fun x6 => (if x6 ≤ v4 then (if v3 = (0 : Int32) then (bX10_spokeSet_127 N I k4 v2 0 v1) else (bX10_spokeSet_127 N I k4 v2 ((1 : Int32) <<< (v2 &&& 31)) v1)) else (if v3 = (0 : Int32) then (bX10_spokeSet_107 N I k4 k20 v1 v2 v4) else xc_rd 2232 1 ((728 : Int32) + ((2 : Int32) * v4)) I fun x7 => xc_cr (fX10_has I v2 x7) fun x8 => (if x8 = (0 : Int32) then (bX10_spokeSet_107 N I k4 k20 v1 v2 v4) else xc_rd 2232 1 (((728 : Int32) + ((2 : Int32) * v4)) + 1) I fun x9 => (if x9 = ((-1) : Int32) then (bX10_spokeSet_103 N I k4 k20 v1 v2 v4) else xc_rd 2232 1 (((728 : Int32) + ((2 : Int32) * v4)) + 1) I fun x10 => xc_rd 2232 1 ((32 : Int32) + v2) I fun x11 => (if x10 ≠ x11 then (bX10_spokeSet_107 N I k4 k20 v1 v2 v4) else (bX10_spokeSet_103 N I k4 k20 v1 v2 v4))))))
def lX10_spokeSet_20 (N : Nat) (I : xc_M) (k4 : Int32 → Int32 → Option Int32) : Nat → Int32 → Int32 → Int32 → Int32 → Option Int32
  | 0 => fun _ _ _ _ => none
  | fu + 1 => bX10_spokeSet_20 N I k4 (lX10_spokeSet_20 N I k4 fu)
def bX10_spokeSet_4 (N : Nat) (I : xc_M) (k4 : Int32 → Int32 → Option Int32) (v1 v2 : Int32) : Option Int32 := xc_rd 2232 1 63 I fun x3 => (if x3 ≤ v2 then some v1 else xc_lt 1 fun v3_4 => xc_lt 0 fun v4_5 => (lX10_spokeSet_20 N I k4 N v1 v2 v3_4 v4_5))
def lX10_spokeSet_4 (N : Nat) (I : xc_M) : Nat → Int32 → Int32 → Option Int32
  | 0 => fun _ _ => none
  | fu + 1 => bX10_spokeSet_4 N I (lX10_spokeSet_4 N I fu)
def fX10_spokeSet (N : Nat) (I : xc_M) : Option Int32 := xc_lt 0 fun v1_1 => xc_lt 0 fun v2_2 => (lX10_spokeSet_4 N I N v1_1 v2_2)
def fX10_greaterBy (N : Nat) (I : xc_M) (v1 v2 : Int32) : Option Int32 := xc_cr (fX10_knowers N I v1) fun x1 => xc_cr (fX10_count N (x1 &&& v2)) fun x2 => xc_lt x2 fun v3_3 => xc_cr (fX10_count N v2) fun x4 => xc_cr (fX10_greater v3_3 (x4 - v3_3)) fun x5 => some x5
def bX10_spoke_67 (N : Nat) (I : xc_M) (k36 : Int32 → Int32 → Int32 → Option Int32) (v2 v3 v4 : Int32) : Option Int32 := xc_lt (v4 + 1) fun v4_11 => (k36 v2 v3 v4_11)
def bX10_spoke_36 (N : Nat) (I : xc_M) (k36 : Int32 → Int32 → Int32 → Option Int32) (v2 v3 v4 : Int32) : Option Int32 := xc_rd 2232 1 62 I fun x7 => (if x7 ≤ v4 then some v3 else xc_cr (fX10_greaterBy N I v4 v2) fun x8 => xc_cr (fX10_greaterBy N I v3 v2) fun x9 => (if x9 ≤ x8 then (bX10_spoke_67 N I k36 v2 v3 v4) else xc_lt v4 fun v3_10 => (bX10_spoke_67 N I k36 v2 v3_10 v4)))
def lX10_spoke_36 (N : Nat) (I : xc_M) : Nat → Int32 → Int32 → Int32 → Option Int32
  | 0 => fun _ _ _ => none
  | fu + 1 => bX10_spoke_36 N I (lX10_spoke_36 N I fu)
def fX10_spoke (N : Nat) (I : xc_M) (v1 : Int32) : Option Int32 := xc_cr (fX10_spokeSet N I) fun x1 => xc_lt x1 fun v2_2 => (if v1 = (0 : Int32) then xc_cr (fX10_count N v2_2) fun x3 => (if x3 < (2 : Int32) then some (-1) else xc_rd 2232 1 62 I fun x4 => (if x4 ≠ (0 : Int32) then xc_lt 0 fun v3_5 => xc_lt 1 fun v4_6 => (lX10_spoke_36 N I N v2_2 v3_5 v4_6) else some (-1))) else some v2_2)
def fX10_graspsOf (N : Nat) (I : xc_M) (v1 v2 : Int32) : Option Int32 := xc_rd 2232 1 ((42 : Int32) + v1) I fun x1 => xc_rd 2232 1 ((42 : Int32) + v2) I fun x2 => xc_cr (fX10_saidBy N I (x1 &&& x2)) fun x3 => xc_cr (fX10_count N x3) fun x4 => some x4
def fX10_grasps (N : Nat) (I : xc_M) (v1 v2 : Int32) : Option Int32 := xc_cr (fX10_isPerson I v1) fun x1 => (if x1 = (0 : Int32) then some (-1) else xc_cr (fX10_isPerson I v2) fun x2 => (if x2 = (0 : Int32) then some (-1) else xc_cr (fX10_graspsOf N I v1 v2) fun x3 => some x3))
def bX10_circle_89 (N : Nat) (I : xc_M) (k16 : Int32 → Int32 → Option Int32) (k25 : Int32 → Int32 → Int32 → Option Int32) (k40 : Int32 → Int32 → Int32 → Int32 → Option Int32) (v2 v3 v4 v5 : Int32) : Option Int32 := xc_lt (v5 + 1) fun v5_12 => (k40 v2 v3 v4 v5_12)
def bX10_circle_40 (N : Nat) (I : xc_M) (k16 : Int32 → Int32 → Option Int32) (k25 : Int32 → Int32 → Int32 → Option Int32) (k40 : Int32 → Int32 → Int32 → Int32 → Option Int32) (v2 v3 v4 v5 : Int32) : Option Int32 := xc_rd 2232 1 63 I fun x8 => (if x8 ≤ v5 then xc_lt (v4 + 1) fun v4_9 => (k25 v2 v3 v4_9) else (if ((v2 >>> (v4 &&& 31)) &&& 1) ≠ (1 : Int32) then (bX10_circle_89 N I k16 k25 k40 v2 v3 v4 v5) else (if ((v2 >>> (v5 &&& 31)) &&& 1) ≠ (0 : Int32) then (bX10_circle_89 N I k16 k25 k40 v2 v3 v4 v5) else xc_cr (fX10_graspsOf N I v4 v5) fun x10 => (if x10 ≤ (0 : Int32) then (bX10_circle_89 N I k16 k25 k40 v2 v3 v4 v5) else xc_lt (v2 ||| ((1 : Int32) <<< (v5 &&& 31))) fun v2_11 => (bX10_circle_89 N I k16 k25 k40 v2_11 v3 v4 v5)))))
def lX10_circle_40 (N : Nat) (I : xc_M) (k16 : Int32 → Int32 → Option Int32) (k25 : Int32 → Int32 → Int32 → Option Int32) : Nat → Int32 → Int32 → Int32 → Int32 → Option Int32
  | 0 => fun _ _ _ _ => none
  | fu + 1 => bX10_circle_40 N I k16 k25 (lX10_circle_40 N I k16 k25 fu)
def bX10_circle_25 (N : Nat) (I : xc_M) (k16 : Int32 → Int32 → Option Int32) (k25 : Int32 → Int32 → Int32 → Option Int32) (v2 v3 v4 : Int32) : Option Int32 := xc_rd 2232 1 63 I fun x5 => (if x5 ≤ v4 then xc_lt (v3 + 1) fun v3_6 => (k16 v2 v3_6) else xc_lt 0 fun v5_7 => (lX10_circle_40 N I k16 k25 N v2 v3 v4 v5_7))
def lX10_circle_25 (N : Nat) (I : xc_M) (k16 : Int32 → Int32 → Option Int32) : Nat → Int32 → Int32 → Int32 → Option Int32
  | 0 => fun _ _ _ => none
  | fu + 1 => bX10_circle_25 N I k16 (lX10_circle_25 N I k16 fu)
def bX10_circle_16 (N : Nat) (I : xc_M) (k16 : Int32 → Int32 → Option Int32) (v2 v3 : Int32) : Option Int32 := (if (10 : Int32) ≤ v3 then some v2 else xc_lt 0 fun v4_4 => (lX10_circle_25 N I k16 N v2 v3 v4_4))
def lX10_circle_16 (N : Nat) (I : xc_M) : Nat → Int32 → Int32 → Option Int32
  | 0 => fun _ _ => none
  | fu + 1 => bX10_circle_16 N I (lX10_circle_16 N I fu)
def fX10_circle (N : Nat) (I : xc_M) (v1 : Int32) : Option Int32 := xc_cr (fX10_isPerson I v1) fun x1 => (if x1 ≠ (0 : Int32) then xc_lt ((1 : Int32) <<< (v1 &&& 31)) fun v2_2 => xc_lt 0 fun v3_3 => (lX10_circle_16 N I N v2_2 v3_3) else some (-1))
def bX10_peopleAt_36 (N : Nat) (I : xc_M) (k4 : Int32 → Int32 → Int32 → Option Int32) (v1 v3 s0 s1 : Int32) : Option Int32 := xc_lt (s1 ||| s0) fun v2_5 => xc_lt (v3 + 1) fun v3_6 => (k4 v1 v2_5 v3_6)
def bX10_peopleAt_4 (N : Nat) (I : xc_M) (k4 : Int32 → Int32 → Int32 → Option Int32) (v1 v2 v3 : Int32) : Option Int32 := xc_rd 2232 1 63 I fun x3 => (if x3 ≤ v3 then some v2 else xc_rd 2232 1 ((32 : Int32) + v3) I fun x4 => (if x4 ≠ v1 then (bX10_peopleAt_36 N I k4 v1 v3 0 v2) else (bX10_peopleAt_36 N I k4 v1 v3 ((1 : Int32) <<< (v3 &&& 31)) v2)))
def lX10_peopleAt_4 (N : Nat) (I : xc_M) : Nat → Int32 → Int32 → Int32 → Option Int32
  | 0 => fun _ _ _ => none
  | fu + 1 => bX10_peopleAt_4 N I (lX10_peopleAt_4 N I fu)
def fX10_peopleAt (N : Nat) (I : xc_M) (v1 : Int32) : Option Int32 := xc_lt 0 fun v2_1 => xc_lt 0 fun v3_2 => (lX10_peopleAt_4 N I N v1 v2_1 v3_2)
def bX10_sharedBy_48 (N : Nat) (I : xc_M) (k14 : Int32 → Int32 → Int32 → Option Int32) (v1 v3 s0 s1 : Int32) : Option Int32 := xc_lt (s1 &&& s0) fun v2_5 => xc_lt (v3 + 1) fun v3_6 => (k14 v1 v2_5 v3_6)
def bX10_sharedBy_14 (N : Nat) (I : xc_M) (k14 : Int32 → Int32 → Int32 → Option Int32) (v1 v2 v3 : Int32) : Option Int32 := xc_rd 2232 1 63 I fun x3 => (if x3 ≤ v3 then some v2 else (if ((v1 >>> (v3 &&& 31)) &&& 1) ≠ (1 : Int32) then (bX10_sharedBy_48 N I k14 v1 v3 v2 v2) else xc_rd 2232 1 ((42 : Int32) + v3) I fun x4 => (bX10_sharedBy_48 N I k14 v1 v3 x4 v2)))
def lX10_sharedBy_14 (N : Nat) (I : xc_M) : Nat → Int32 → Int32 → Int32 → Option Int32
  | 0 => fun _ _ _ => none
  | fu + 1 => bX10_sharedBy_14 N I (lX10_sharedBy_14 N I fu)
def bX10_sharedBy_11 (N : Nat) (I : xc_M) (v1 s0 : Int32) : Option Int32 := xc_lt s0 fun v2_1 => xc_lt 0 fun v3_2 => (lX10_sharedBy_14 N I N v1 v2_1 v3_2)
def fX10_sharedBy (N : Nat) (I : xc_M) (v1 : Int32) : Option Int32 := (if v1 ≠ (0 : Int32) then (bX10_sharedBy_11 N I v1 16383) else (bX10_sharedBy_11 N I v1 0))
def bX10_crowd_42 (N : Nat) (I : xc_M) (k15 : Int32 → Int32 → Int32 → Option Int32) (v1 v2 v3 : Int32) : Option Int32 := xc_lt (v3 + 1) fun v3_14 => (k15 v1 v2 v3_14)
def bX10_crowd_15 (N : Nat) (I : xc_M) (k15 : Int32 → Int32 → Int32 → Option Int32) (v1 v2 v3 : Int32) : Option Int32 := (if (10 : Int32) ≤ v3 then (if v1 ≠ (0 : Int32) then (if v1 ≠ (1 : Int32) then xc_cr (fX10_peopleAt N I v2) fun x4 => xc_cr (fX10_sharedBy N I x4) fun x5 => xc_cr (fX10_count N x5) fun x6 => some x6 else xc_cr (fX10_peopleAt N I v2) fun x7 => xc_cr (fX10_count N x7) fun x8 => some x8) else some v2) else xc_cr (fX10_peopleAt N I v3) fun x9 => xc_cr (fX10_count N x9) fun x10 => xc_cr (fX10_peopleAt N I v2) fun x11 => xc_cr (fX10_count N x11) fun x12 => (if x10 ≤ x12 then (bX10_crowd_42 N I k15 v1 v2 v3) else xc_lt v3 fun v2_13 => (bX10_crowd_42 N I k15 v1 v2_13 v3)))
def lX10_crowd_15 (N : Nat) (I : xc_M) : Nat → Int32 → Int32 → Int32 → Option Int32
  | 0 => fun _ _ _ => none
  | fu + 1 => bX10_crowd_15 N I (lX10_crowd_15 N I fu)
def fX10_crowd (N : Nat) (I : xc_M) (v1 : Int32) : Option Int32 := xc_cr (fX10_isIn v1 0 2) fun x1 => (if x1 ≠ (0 : Int32) then xc_lt 0 fun v2_2 => xc_lt 1 fun v3_3 => (lX10_crowd_15 N I N v1 v2_2 v3_3) else some (-1))
def bX10_odds_29 (N : Nat) (I : xc_M) (k29 : Int32 → Int32 → Int32 → Int32 → Option Int32) (v1 v2 v3 v4 : Int32) : Option Int32 := (if (v1 * v2) ≤ v4 then some ((1000000 : Int32) - v3) else xc_dv v3 1000 fun q5 => xc_rd 2232 1 64 I fun x6 => xc_rem v3 1000 fun q7 => xc_rd 2232 1 64 I fun x8 => xc_dv (q7 * ((1000 : Int32) - x8)) 1000 fun q9 => xc_lt ((q5 * ((1000 : Int32) - x6)) + q9) fun v3_10 => xc_lt (v4 + 1) fun v4_11 => (k29 v1 v2 v3_10 v4_11))
def lX10_odds_29 (N : Nat) (I : xc_M) : Nat → Int32 → Int32 → Int32 → Int32 → Option Int32
  | 0 => fun _ _ _ _ => none
  | fu + 1 => bX10_odds_29 N I (lX10_odds_29 N I fu)
def fX10_odds (N : Nat) (I : xc_M) (v1 v2 : Int32) : Option Int32 := xc_cr (fX10_isIn v1 1 60) fun x1 => (if x1 = (0 : Int32) then some (-1) else xc_cr (fX10_isIn v2 0 9) fun x2 => (if x2 ≠ (0 : Int32) then xc_lt 1000000 fun v3_3 => xc_lt 0 fun v4_4 => (lX10_odds_29 N I N v1 v2 v3_3 v4_4) else some (-1)))
def bX10_longOfSet_54 (N : Nat) (I : xc_M) (k4 : Int32 → Int32 → Int32 → Option Int32) (v1 v2 v3 : Int32) : Option Int32 := xc_lt (v3 + 1) fun v3_7 => (k4 v1 v2 v3_7)
def bX10_longOfSet_4 (N : Nat) (I : xc_M) (k4 : Int32 → Int32 → Int32 → Option Int32) (v1 v2 v3 : Int32) : Option Int32 := xc_rd 2232 1 62 I fun x3 => (if x3 ≤ v3 then some v2 else (if ((v1 >>> (v3 &&& 31)) &&& 1) ≠ (0 : Int32) then xc_rd 2232 1 ((84 : Int32) + v3) I fun x4 => (if (x4 &&& v1) = (0 : Int32) then xc_rd 2232 1 ((70 : Int32) + v3) I fun x5 => xc_lt (v2 + x5) fun v2_6 => (bX10_longOfSet_54 N I k4 v1 v2_6 v3) else some (-1)) else (bX10_longOfSet_54 N I k4 v1 v2 v3)))
def lX10_longOfSet_4 (N : Nat) (I : xc_M) : Nat → Int32 → Int32 → Int32 → Option Int32
  | 0 => fun _ _ _ => none
  | fu + 1 => bX10_longOfSet_4 N I (lX10_longOfSet_4 N I fu)
def fX10_longOfSet (N : Nat) (I : xc_M) (v1 : Int32) : Option Int32 := xc_lt 0 fun v2_1 => xc_lt 0 fun v3_2 => (lX10_longOfSet_4 N I N v1 v2_1 v3_2)
def bX10_verse_68 (N : Nat) (I : xc_M) (k24 : Int32 → Int32 → Int32 → Int32 → Int32 → Option Int32) (v1 v2 v3 v4 v5 : Int32) : Option Int32 := xc_lt (v5 + 1) fun v5_11 => (k24 v1 v2 v3 v4 v5_11)
def bX10_verse_49 (N : Nat) (I : xc_M) (k24 : Int32 → Int32 → Int32 → Int32 → Int32 → Option Int32) (v1 v2 v3 v4 v5 s0 : Int32) : Option Int32 := xc_lt s0 fun v6_8 => (if v4 < v6_8 then xc_lt v6_8 fun v4_9 => xc_lt v5 fun v3_10 => (bX10_verse_68 N I k24 v1 v2 v3_10 v4_9 v5) else (bX10_verse_68 N I k24 v1 v2 v3 v4 v5))
def bX10_verse_24 (N : Nat) (I : xc_M) (k24 : Int32 → Int32 → Int32 → Int32 → Int32 → Option Int32) (v1 v2 v3 v4 v5 : Int32) : Option Int32 := (if v2 < v5 then (if v1 ≠ (0 : Int32) then some v3 else some v4) else (if (v5 &&& (v2 ^^^ (-1))) = (0 : Int32) then xc_cr (fX10_longOfSet N I v5) fun x7 => (bX10_verse_49 N I k24 v1 v2 v3 v4 v5 x7) else (bX10_verse_49 N I k24 v1 v2 v3 v4 v5 (-1))))
def lX10_verse_24 (N : Nat) (I : xc_M) : Nat → Int32 → Int32 → Int32 → Int32 → Int32 → Option Int32
  | 0 => fun _ _ _ _ _ => none
  | fu + 1 => bX10_verse_24 N I (lX10_verse_24 N I fu)
def fX10_verse (N : Nat) (I : xc_M) (v1 : Int32) : Option Int32 := xc_cr (fX10_isIn v1 0 1) fun x1 => (if x1 ≠ (0 : Int32) then xc_cr (fX10_living I) fun x2 => xc_lt x2 fun v2_3 => xc_lt 0 fun v3_4 => xc_lt 0 fun v4_5 => xc_lt 1 fun v5_6 => (lX10_verse_24 N I N v1 v2_3 v3_4 v4_5 v5_6) else some (-1))
def fX10_heapOf (I : xc_M) (v1 : Int32) : Option Int32 := xc_cr (fX10_hasLapsed I v1) fun x1 => (if x1 = (0 : Int32) then xc_rd 2232 1 ((4 : Int32) + v1) I fun x2 => xc_rem x2 8 fun q3 => some q3 else some 0)
def bX10_silence_42 (N : Nat) (I : xc_M) (k42 : Int32 → Int32 → Int32 → Option Int32) (v1 v2 v3 : Int32) : Option Int32 := xc_rd 2232 1 62 I fun x9 => (if x9 ≤ v3 then some (-1) else xc_cr (fX10_heapOf I v3) fun x10 => xc_cr (fX10_heapOf I v3) fun x11 => (if x11 ≤ (x10 ^^^ v2) then xc_lt (v3 + 1) fun v3_12 => (k42 v1 v2 v3_12) else (if v1 ≠ (0 : Int32) then xc_cr (fX10_heapOf I v3) fun x13 => some (x13 ^^^ v2) else some v3)))
def lX10_silence_42 (N : Nat) (I : xc_M) : Nat → Int32 → Int32 → Int32 → Option Int32
  | 0 => fun _ _ _ => none
  | fu + 1 => bX10_silence_42 N I (lX10_silence_42 N I fu)
def bX10_silence_15 (N : Nat) (I : xc_M) (k15 : Int32 → Int32 → Int32 → Option Int32) (v1 v2 v3 : Int32) : Option Int32 := xc_rd 2232 1 62 I fun x4 => (if x4 ≤ v3 then xc_lt 0 fun v3_5 => (lX10_silence_42 N I N v1 v2 v3_5) else xc_cr (fX10_heapOf I v3) fun x6 => xc_lt (v2 ^^^ x6) fun v2_7 => xc_lt (v3 + 1) fun v3_8 => (k15 v1 v2_7 v3_8))
def lX10_silence_15 (N : Nat) (I : xc_M) : Nat → Int32 → Int32 → Int32 → Option Int32
  | 0 => fun _ _ _ => none
  | fu + 1 => bX10_silence_15 N I (lX10_silence_15 N I fu)
def fX10_silence (N : Nat) (I : xc_M) (v1 : Int32) : Option Int32 := xc_cr (fX10_isIn v1 0 1) fun x1 => (if x1 ≠ (0 : Int32) then xc_lt 0 fun v2_2 => xc_lt 0 fun v3_3 => (lX10_silence_15 N I N v1 v2_2 v3_3) else some (-1))
def bX10_image_53 (N : Nat) (k15 : Int32 → Int32 → xc_M → Option (Int32 × xc_M)) (v1 v2 : Int32) (I : xc_M) : Option (Int32 × xc_M) := xc_lt (v2 + 1) fun v2_8 => (k15 v1 v2_8 I)
def bX10_image_67 (N : Nat) (I : xc_M) : Option (Int32 × xc_M) := xc_mz I 0 5 1 fun I7 => some (1, I7)
def bX10_image_15 (N : Nat) (k15 : Int32 → Int32 → xc_M → Option (Int32 × xc_M)) (v1 v2 : Int32) (I : xc_M) : Option (Int32 × xc_M) := (if (2232 : Int32) ≤ v2 then (if v1 ≠ (0 : Int32) then (bX10_image_67 N I) else xc_cv (fX10_forgets I) fun I2 => (bX10_image_67 N I2)) else (if v1 = (0 : Int32) then xc_rd 2232 2 v2 I fun x3 => xc_st 2232 1 v2 x3 I fun I4 => (bX10_image_53 N k15 v1 v2 I4) else xc_rd 2232 1 v2 I fun x5 => xc_st 2232 2 v2 x5 I fun I6 => (bX10_image_53 N k15 v1 v2 I6)))
def lX10_image_15 (N : Nat) : Nat → Int32 → Int32 → xc_M → Option (Int32 × xc_M)
  | 0 => fun _ _ _ => none
  | fu + 1 => bX10_image_15 N (lX10_image_15 N fu)
def bX10_image_13 (N : Nat) (v1 : Int32) (I : xc_M) : Option (Int32 × xc_M) := xc_lt 0 fun v2_1 => (lX10_image_15 N N v1 v2_1 I)
def fX10_image (N : Nat) (v1 : Int32) (I : xc_M) : Option (Int32 × xc_M) := (if v1 ≠ (0 : Int32) then (bX10_image_13 N v1 I) else (if (I 0 5) ≠ (0 : Int32) then (bX10_image_13 N v1 I) else some (0, I)))
def fX10_look (N : Nat) (I : xc_M) (v1 : Int32) : Option Int32 := (if v1 = 0 then xc_rd 2232 1 62 I fun x28 => some x28 else (if v1 = 1 then xc_rd 2232 1 63 I fun x27 => some x27 else (if v1 = 2 then xc_rd 2232 1 0 I fun x26 => some x26 else (if v1 = 3 then xc_rd 2232 1 64 I fun x25 => some x25 else (if v1 = 4 then xc_rd 2232 1 3 I fun x24 => some x24 else (if v1 = 5 then xc_rd 2232 1 2 I fun x23 => some x23 else (if v1 = 6 then xc_rd 2232 1 1 I fun x22 => some x22 else (if v1 = 7 then xc_rd 2232 1 66 I fun x21 => some x21 else (if v1 = 8 then xc_rd 2232 1 65 I fun x20 => some x20 else (if v1 = 9 then xc_rd 2232 1 67 I fun x19 => some x19 else (if v1 = 10 then xc_rd 2232 1 68 I fun x18 => some x18 else (if v1 = 11 then xc_rd 2232 1 69 I fun x17 => some x17 else (if v1 = 12 then some (I 0 4) else (if v1 = 13 then xc_cr (fX10_living I) fun x15 => xc_cr (fX10_saidBy N I x15) fun x16 => some x16 else some (-1)))))))))))))))
