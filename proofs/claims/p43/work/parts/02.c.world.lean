def xw_Sh : xc_Sh := [(11, 0), (10, 0), (0, 14), (0, 14), (0, 100), (3, 0), (0, 14), (0, 14), (0, 10), (0, 10), (0, 10), (7, 0), (0, 600), (7, 0), (0, 64), (7, 0), (0, 48), (7, 0), (0, 40), (5, 0), (0, 10), (0, 60), (0, 60), (4, 0), (0, 16), (0, 16), (0, 16), (0, 16), (0, 400), (0, 32), (0, 8), (10, 0), (0, 14), (0, 14), (0, 100), (3, 0), (0, 14), (0, 14), (0, 10), (0, 10), (0, 10), (7, 0), (0, 600), (7, 0), (0, 64), (7, 0), (0, 48), (7, 0), (0, 40), (5, 0), (0, 10), (0, 60), (0, 60), (4, 0), (0, 16), (0, 16), (0, 16), (0, 16), (0, 400), (0, 32), (0, 8), (10, 0), (0, 14), (0, 14), (0, 100), (3, 0), (0, 14), (0, 14), (0, 10), (0, 10), (0, 10), (7, 0), (0, 600), (7, 0), (0, 64), (7, 0), (0, 48), (7, 0), (0, 40), (5, 0), (0, 10), (0, 60), (0, 60), (4, 0), (0, 16), (0, 16), (0, 16), (0, 16), (0, 400), (0, 32), (0, 8), (6, 0), (2, 6), (0, 6), (3, 0), (0, 14), (0, 14), (0, 10), (0, 10), (0, 10), (3, 0), (0, 14), (0, 14), (0, 10), (0, 10), (0, 10), (3, 0), (0, 14), (0, 14), (0, 10), (0, 10), (0, 10), (3, 0), (0, 14), (0, 14), (0, 10), (0, 10), (0, 10), (3, 0), (0, 14), (0, 14), (0, 10), (0, 10), (0, 10), (3, 0), (0, 14), (0, 14), (0, 10), (0, 10), (0, 10), (8, 0), (1, 400), (9, 0), (0, 401), (0, 401), (0, 401)]
def xw_PL : List (List (Option Nat)) := [[some 1, some 31, some 61, some 91, some 130, some 132], [none, none, none, some 2, some 3, some 4, some 5, some 11, some 13, some 15, some 17, some 19, some 23, some 30], [], [], [], [none, none, none, some 6, some 7, some 8, some 9, some 10], [], [], [], [], [], [none, some 12], [], [none, some 14], [], [none, some 16], [], [none, some 18], [], [none, some 20, some 21, some 22], [], [], [], [none, none, some 24, some 25, some 26, some 27, some 28, some 29], [], [], [], [], [], [], [], [none, none, none, some 32, some 33, some 34, some 35, some 41, some 43, some 45, some 47, some 49, some 53, some 60], [], [], [], [none, none, none, some 36, some 37, some 38, some 39, some 40], [], [], [], [], [], [none, some 42], [], [none, some 44], [], [none, some 46], [], [none, some 48], [], [none, some 50, some 51, some 52], [], [], [], [none, none, some 54, some 55, some 56, some 57, some 58, some 59], [], [], [], [], [], [], [], [none, none, none, some 62, some 63, some 64, some 65, some 71, some 73, some 75, some 77, some 79, some 83, some 90], [], [], [], [none, none, none, some 66, some 67, some 68, some 69, some 70], [], [], [], [], [], [none, some 72], [], [none, some 74], [], [none, some 76], [], [none, some 78], [], [none, some 80, some 81, some 82], [], [], [], [none, none, some 84, some 85, some 86, some 87, some 88, some 89], [], [], [], [], [], [], [], [none, none, some 92, some 93], [some 94, some 100, some 106, some 112, some 118, some 124], [], [none, none, none, some 95, some 96, some 97, some 98, some 99], [], [], [], [], [], [none, none, none, some 101, some 102, some 103, some 104, some 105], [], [], [], [], [], [none, none, none, some 107, some 108, some 109, some 110, some 111], [], [], [], [], [], [none, none, none, some 113, some 114, some 115, some 116, some 117], [], [], [], [], [], [none, none, none, some 119, some 120, some 121, some 122, some 123], [], [], [], [], [], [none, none, none, some 125, some 126, some 127, some 128, some 129], [], [], [], [], [], [none, some 131], [], [none, none, none, none, some 133, some 134, some 135], [], [], []]
def xw_P : xc_Px := fun a k => (xw_PL.getD a []).getD k none
def xw_ShM : xc_Sh := [(12, 0), (0, 2232), (0, 2232), (0, 372), (0, 62), (0, 64), (0, 820), (0, 10), (0, 420), (0, 64), (0, 400), (0, 420), (0, 9), (0, 60), (0, 6), (0, 6)]
def xw_PLM : List (Option Nat) := [none, none, none, none, none, none, none, none, none, none, none, none, none, none, none, none, none, none, none, none, none, none, none, none, none, none, none, none, none, none, none, none, none, none, none, none]
def xw_PM : xc_Px := fun a k => if a = 0 then xw_PLM.getD k none else none
def xw_is (X : xc_X) : Prop := X.2.2.2.1 = xw_Sh ∧ X.2.2.2.2.1 = xw_P
def xw_isM (X : xc_X) : Prop := X.2.2.2.1 = xw_ShM ∧ X.2.2.2.2.1 = xw_PM
theorem xw_s {X : xc_X} (hX : xw_is X) {a : Nat} {k : Nat × Nat} (h : xw_Sh[a]? = some k) : X.2.2.2.1[a]? = some k := by rw [hX.1]; exact h
theorem xw_sM {X : xc_X} (hX : xw_isM X) {a : Nat} {k : Nat × Nat} (h : xw_ShM[a]? = some k) : X.2.2.2.1[a]? = some k := by rw [hX.1]; exact h
theorem xw_p {X : xc_X} (hX : xw_is X) {a k b : Nat} (h : xw_P a k = some b) : X.2.2.2.2.1 a k = some b := by rw [hX.2]; exact h
theorem xw_pM {X : xc_X} (hX : xw_isM X) {a k b : Nat} (h : xw_PM a k = some b) : X.2.2.2.2.1 a k = some b := by rw [hX.2]; exact h
def xw_X0 : List Nat := [5, 35, 65, 94, 100, 106, 112, 118, 124]
def xw_X1 : List Nat := [23, 53, 83]
def xw_X2 : List Nat := [19, 49, 79]
def xw_X4 : List Nat := [11, 13, 15, 17, 41, 43, 45, 47, 71, 73, 75, 77]
def xw_X8 : List Nat := [1, 31, 61]
def xl_X4 (r : Nat) : Nat := if r % 30 = 11 then 600 else if r % 30 = 13 then 64 else if r % 30 = 15 then 48 else 40
theorem xw_bj {j : Nat} (h : j < 6) : 94 + 6 * j ∈ xw_X0 := (by decide : ∀ j, j < 6 → 94 + 6 * j ∈ xw_X0) j h
theorem sh_X0 {X : xc_X} (hX : xw_is X) {a : Nat} (h : a ∈ xw_X0) : X.2.2.2.1[a]? = some (3, 0) := xw_s hX ((by decide : ∀ a ∈ xw_X0, xw_Sh[a]? = some (3, 0)) a h)
theorem px_X0_3 {X : xc_X} (hX : xw_is X) {a : Nat} (h : a ∈ xw_X0) : X.2.2.2.2.1 a 3 = some (a + 1) := xw_p hX ((by decide : ∀ a ∈ xw_X0, xw_P a 3 = some (a + 1)) a h)
theorem sa_X0_3 {X : xc_X} (hX : xw_is X) {a : Nat} (h : a ∈ xw_X0) : X.2.2.2.1[a + 1]? = some (0, 14) := xw_s hX ((by decide : ∀ a ∈ xw_X0, xw_Sh[a + 1]? = some (0, 14)) a h)
theorem px_X0_4 {X : xc_X} (hX : xw_is X) {a : Nat} (h : a ∈ xw_X0) : X.2.2.2.2.1 a 4 = some (a + 2) := xw_p hX ((by decide : ∀ a ∈ xw_X0, xw_P a 4 = some (a + 2)) a h)
theorem sa_X0_4 {X : xc_X} (hX : xw_is X) {a : Nat} (h : a ∈ xw_X0) : X.2.2.2.1[a + 2]? = some (0, 14) := xw_s hX ((by decide : ∀ a ∈ xw_X0, xw_Sh[a + 2]? = some (0, 14)) a h)
theorem px_X0_5 {X : xc_X} (hX : xw_is X) {a : Nat} (h : a ∈ xw_X0) : X.2.2.2.2.1 a 5 = some (a + 3) := xw_p hX ((by decide : ∀ a ∈ xw_X0, xw_P a 5 = some (a + 3)) a h)
theorem sa_X0_5 {X : xc_X} (hX : xw_is X) {a : Nat} (h : a ∈ xw_X0) : X.2.2.2.1[a + 3]? = some (0, 10) := xw_s hX ((by decide : ∀ a ∈ xw_X0, xw_Sh[a + 3]? = some (0, 10)) a h)
theorem px_X0_6 {X : xc_X} (hX : xw_is X) {a : Nat} (h : a ∈ xw_X0) : X.2.2.2.2.1 a 6 = some (a + 4) := xw_p hX ((by decide : ∀ a ∈ xw_X0, xw_P a 6 = some (a + 4)) a h)
theorem sa_X0_6 {X : xc_X} (hX : xw_is X) {a : Nat} (h : a ∈ xw_X0) : X.2.2.2.1[a + 4]? = some (0, 10) := xw_s hX ((by decide : ∀ a ∈ xw_X0, xw_Sh[a + 4]? = some (0, 10)) a h)
theorem px_X0_7 {X : xc_X} (hX : xw_is X) {a : Nat} (h : a ∈ xw_X0) : X.2.2.2.2.1 a 7 = some (a + 5) := xw_p hX ((by decide : ∀ a ∈ xw_X0, xw_P a 7 = some (a + 5)) a h)
theorem sa_X0_7 {X : xc_X} (hX : xw_is X) {a : Nat} (h : a ∈ xw_X0) : X.2.2.2.1[a + 5]? = some (0, 10) := xw_s hX ((by decide : ∀ a ∈ xw_X0, xw_Sh[a + 5]? = some (0, 10)) a h)
theorem sh_X1 {X : xc_X} (hX : xw_is X) {a : Nat} (h : a ∈ xw_X1) : X.2.2.2.1[a]? = some (4, 0) := xw_s hX ((by decide : ∀ a ∈ xw_X1, xw_Sh[a]? = some (4, 0)) a h)
theorem px_X1_2 {X : xc_X} (hX : xw_is X) {a : Nat} (h : a ∈ xw_X1) : X.2.2.2.2.1 a 2 = some (a + 1) := xw_p hX ((by decide : ∀ a ∈ xw_X1, xw_P a 2 = some (a + 1)) a h)
theorem sa_X1_2 {X : xc_X} (hX : xw_is X) {a : Nat} (h : a ∈ xw_X1) : X.2.2.2.1[a + 1]? = some (0, 16) := xw_s hX ((by decide : ∀ a ∈ xw_X1, xw_Sh[a + 1]? = some (0, 16)) a h)
theorem px_X1_3 {X : xc_X} (hX : xw_is X) {a : Nat} (h : a ∈ xw_X1) : X.2.2.2.2.1 a 3 = some (a + 2) := xw_p hX ((by decide : ∀ a ∈ xw_X1, xw_P a 3 = some (a + 2)) a h)
theorem sa_X1_3 {X : xc_X} (hX : xw_is X) {a : Nat} (h : a ∈ xw_X1) : X.2.2.2.1[a + 2]? = some (0, 16) := xw_s hX ((by decide : ∀ a ∈ xw_X1, xw_Sh[a + 2]? = some (0, 16)) a h)
theorem px_X1_4 {X : xc_X} (hX : xw_is X) {a : Nat} (h : a ∈ xw_X1) : X.2.2.2.2.1 a 4 = some (a + 3) := xw_p hX ((by decide : ∀ a ∈ xw_X1, xw_P a 4 = some (a + 3)) a h)
theorem sa_X1_4 {X : xc_X} (hX : xw_is X) {a : Nat} (h : a ∈ xw_X1) : X.2.2.2.1[a + 3]? = some (0, 16) := xw_s hX ((by decide : ∀ a ∈ xw_X1, xw_Sh[a + 3]? = some (0, 16)) a h)
theorem px_X1_5 {X : xc_X} (hX : xw_is X) {a : Nat} (h : a ∈ xw_X1) : X.2.2.2.2.1 a 5 = some (a + 4) := xw_p hX ((by decide : ∀ a ∈ xw_X1, xw_P a 5 = some (a + 4)) a h)
theorem sa_X1_5 {X : xc_X} (hX : xw_is X) {a : Nat} (h : a ∈ xw_X1) : X.2.2.2.1[a + 4]? = some (0, 16) := xw_s hX ((by decide : ∀ a ∈ xw_X1, xw_Sh[a + 4]? = some (0, 16)) a h)
theorem px_X1_6 {X : xc_X} (hX : xw_is X) {a : Nat} (h : a ∈ xw_X1) : X.2.2.2.2.1 a 6 = some (a + 5) := xw_p hX ((by decide : ∀ a ∈ xw_X1, xw_P a 6 = some (a + 5)) a h)
theorem sa_X1_6 {X : xc_X} (hX : xw_is X) {a : Nat} (h : a ∈ xw_X1) : X.2.2.2.1[a + 5]? = some (0, 400) := xw_s hX ((by decide : ∀ a ∈ xw_X1, xw_Sh[a + 5]? = some (0, 400)) a h)
theorem px_X1_7 {X : xc_X} (hX : xw_is X) {a : Nat} (h : a ∈ xw_X1) : X.2.2.2.2.1 a 7 = some (a + 6) := xw_p hX ((by decide : ∀ a ∈ xw_X1, xw_P a 7 = some (a + 6)) a h)
theorem sa_X1_7 {X : xc_X} (hX : xw_is X) {a : Nat} (h : a ∈ xw_X1) : X.2.2.2.1[a + 6]? = some (0, 32) := xw_s hX ((by decide : ∀ a ∈ xw_X1, xw_Sh[a + 6]? = some (0, 32)) a h)
theorem sh_X2 {X : xc_X} (hX : xw_is X) {a : Nat} (h : a ∈ xw_X2) : X.2.2.2.1[a]? = some (5, 0) := xw_s hX ((by decide : ∀ a ∈ xw_X2, xw_Sh[a]? = some (5, 0)) a h)
theorem px_X2_1 {X : xc_X} (hX : xw_is X) {a : Nat} (h : a ∈ xw_X2) : X.2.2.2.2.1 a 1 = some (a + 1) := xw_p hX ((by decide : ∀ a ∈ xw_X2, xw_P a 1 = some (a + 1)) a h)
theorem sa_X2_1 {X : xc_X} (hX : xw_is X) {a : Nat} (h : a ∈ xw_X2) : X.2.2.2.1[a + 1]? = some (0, 10) := xw_s hX ((by decide : ∀ a ∈ xw_X2, xw_Sh[a + 1]? = some (0, 10)) a h)
theorem px_X2_2 {X : xc_X} (hX : xw_is X) {a : Nat} (h : a ∈ xw_X2) : X.2.2.2.2.1 a 2 = some (a + 2) := xw_p hX ((by decide : ∀ a ∈ xw_X2, xw_P a 2 = some (a + 2)) a h)
theorem sa_X2_2 {X : xc_X} (hX : xw_is X) {a : Nat} (h : a ∈ xw_X2) : X.2.2.2.1[a + 2]? = some (0, 60) := xw_s hX ((by decide : ∀ a ∈ xw_X2, xw_Sh[a + 2]? = some (0, 60)) a h)
theorem px_X2_3 {X : xc_X} (hX : xw_is X) {a : Nat} (h : a ∈ xw_X2) : X.2.2.2.2.1 a 3 = some (a + 3) := xw_p hX ((by decide : ∀ a ∈ xw_X2, xw_P a 3 = some (a + 3)) a h)
theorem sa_X2_3 {X : xc_X} (hX : xw_is X) {a : Nat} (h : a ∈ xw_X2) : X.2.2.2.1[a + 3]? = some (0, 60) := xw_s hX ((by decide : ∀ a ∈ xw_X2, xw_Sh[a + 3]? = some (0, 60)) a h)
theorem sh_X4 {X : xc_X} (hX : xw_is X) {a : Nat} (h : a ∈ xw_X4) : X.2.2.2.1[a]? = some (7, 0) := xw_s hX ((by decide : ∀ a ∈ xw_X4, xw_Sh[a]? = some (7, 0)) a h)
theorem px_X4_1 {X : xc_X} (hX : xw_is X) {a : Nat} (h : a ∈ xw_X4) : X.2.2.2.2.1 a 1 = some (a + 1) := xw_p hX ((by decide : ∀ a ∈ xw_X4, xw_P a 1 = some (a + 1)) a h)
theorem sa_X4_1 {X : xc_X} (hX : xw_is X) {a : Nat} (h : a ∈ xw_X4) : X.2.2.2.1[a + 1]? = some (0, xl_X4 a) := xw_s hX ((by decide : ∀ a ∈ xw_X4, xw_Sh[a + 1]? = some (0, xl_X4 a)) a h)
theorem sh_X8 {X : xc_X} (hX : xw_is X) {a : Nat} (h : a ∈ xw_X8) : X.2.2.2.1[a]? = some (10, 0) := xw_s hX ((by decide : ∀ a ∈ xw_X8, xw_Sh[a]? = some (10, 0)) a h)
theorem px_X8_3 {X : xc_X} (hX : xw_is X) {a : Nat} (h : a ∈ xw_X8) : X.2.2.2.2.1 a 3 = some (a + 1) := xw_p hX ((by decide : ∀ a ∈ xw_X8, xw_P a 3 = some (a + 1)) a h)
theorem sa_X8_3 {X : xc_X} (hX : xw_is X) {a : Nat} (h : a ∈ xw_X8) : X.2.2.2.1[a + 1]? = some (0, 14) := xw_s hX ((by decide : ∀ a ∈ xw_X8, xw_Sh[a + 1]? = some (0, 14)) a h)
theorem px_X8_4 {X : xc_X} (hX : xw_is X) {a : Nat} (h : a ∈ xw_X8) : X.2.2.2.2.1 a 4 = some (a + 2) := xw_p hX ((by decide : ∀ a ∈ xw_X8, xw_P a 4 = some (a + 2)) a h)
theorem sa_X8_4 {X : xc_X} (hX : xw_is X) {a : Nat} (h : a ∈ xw_X8) : X.2.2.2.1[a + 2]? = some (0, 14) := xw_s hX ((by decide : ∀ a ∈ xw_X8, xw_Sh[a + 2]? = some (0, 14)) a h)
theorem px_X8_5 {X : xc_X} (hX : xw_is X) {a : Nat} (h : a ∈ xw_X8) : X.2.2.2.2.1 a 5 = some (a + 3) := xw_p hX ((by decide : ∀ a ∈ xw_X8, xw_P a 5 = some (a + 3)) a h)
theorem sa_X8_5 {X : xc_X} (hX : xw_is X) {a : Nat} (h : a ∈ xw_X8) : X.2.2.2.1[a + 3]? = some (0, 100) := xw_s hX ((by decide : ∀ a ∈ xw_X8, xw_Sh[a + 3]? = some (0, 100)) a h)
theorem px_X8_6 {X : xc_X} (hX : xw_is X) {a : Nat} (h : a ∈ xw_X8) : X.2.2.2.2.1 a 6 = some (a + 4) := xw_p hX ((by decide : ∀ a ∈ xw_X8, xw_P a 6 = some (a + 4)) a h)
theorem in_X8_6 {a : Nat} (h : a ∈ xw_X8) : a + 4 ∈ xw_X0 := (by decide : ∀ a ∈ xw_X8, a + 4 ∈ xw_X0) a h
theorem px_X8_7 {X : xc_X} (hX : xw_is X) {a : Nat} (h : a ∈ xw_X8) : X.2.2.2.2.1 a 7 = some (a + 10) := xw_p hX ((by decide : ∀ a ∈ xw_X8, xw_P a 7 = some (a + 10)) a h)
theorem in_X8_7 {a : Nat} (h : a ∈ xw_X8) : a + 10 ∈ xw_X4 := (by decide : ∀ a ∈ xw_X8, a + 10 ∈ xw_X4) a h
theorem px_X8_8 {X : xc_X} (hX : xw_is X) {a : Nat} (h : a ∈ xw_X8) : X.2.2.2.2.1 a 8 = some (a + 12) := xw_p hX ((by decide : ∀ a ∈ xw_X8, xw_P a 8 = some (a + 12)) a h)
theorem in_X8_8 {a : Nat} (h : a ∈ xw_X8) : a + 12 ∈ xw_X4 := (by decide : ∀ a ∈ xw_X8, a + 12 ∈ xw_X4) a h
theorem px_X8_9 {X : xc_X} (hX : xw_is X) {a : Nat} (h : a ∈ xw_X8) : X.2.2.2.2.1 a 9 = some (a + 14) := xw_p hX ((by decide : ∀ a ∈ xw_X8, xw_P a 9 = some (a + 14)) a h)
theorem in_X8_9 {a : Nat} (h : a ∈ xw_X8) : a + 14 ∈ xw_X4 := (by decide : ∀ a ∈ xw_X8, a + 14 ∈ xw_X4) a h
theorem px_X8_10 {X : xc_X} (hX : xw_is X) {a : Nat} (h : a ∈ xw_X8) : X.2.2.2.2.1 a 10 = some (a + 16) := xw_p hX ((by decide : ∀ a ∈ xw_X8, xw_P a 10 = some (a + 16)) a h)
theorem in_X8_10 {a : Nat} (h : a ∈ xw_X8) : a + 16 ∈ xw_X4 := (by decide : ∀ a ∈ xw_X8, a + 16 ∈ xw_X4) a h
theorem px_X8_11 {X : xc_X} (hX : xw_is X) {a : Nat} (h : a ∈ xw_X8) : X.2.2.2.2.1 a 11 = some (a + 18) := xw_p hX ((by decide : ∀ a ∈ xw_X8, xw_P a 11 = some (a + 18)) a h)
theorem in_X8_11 {a : Nat} (h : a ∈ xw_X8) : a + 18 ∈ xw_X2 := (by decide : ∀ a ∈ xw_X8, a + 18 ∈ xw_X2) a h
theorem px_X8_12 {X : xc_X} (hX : xw_is X) {a : Nat} (h : a ∈ xw_X8) : X.2.2.2.2.1 a 12 = some (a + 22) := xw_p hX ((by decide : ∀ a ∈ xw_X8, xw_P a 12 = some (a + 22)) a h)
theorem in_X8_12 {a : Nat} (h : a ∈ xw_X8) : a + 22 ∈ xw_X1 := (by decide : ∀ a ∈ xw_X8, a + 22 ∈ xw_X1) a h
theorem px_X8_13 {X : xc_X} (hX : xw_is X) {a : Nat} (h : a ∈ xw_X8) : X.2.2.2.2.1 a 13 = some (a + 29) := xw_p hX ((by decide : ∀ a ∈ xw_X8, xw_P a 13 = some (a + 29)) a h)
theorem sa_X8_13 {X : xc_X} (hX : xw_is X) {a : Nat} (h : a ∈ xw_X8) : X.2.2.2.1[a + 29]? = some (0, 8) := xw_s hX ((by decide : ∀ a ∈ xw_X8, xw_Sh[a + 29]? = some (0, 8)) a h)
section
variable {X : xc_X} {C : xc_C} {A : Nat → Prop} {n nL : Nat} {ret : Option FieldType} {cc : ByteArray} {own : String} {α : Type} {fin : α → Int32 × xc_M} {t : Option α} {pc : Nat} {lv : List (Nat × Value)} {st : List Value} {I : xc_M}
theorem xc_neL {x c : Int32} {m : Int} (hc : c.toInt = m) (h : x ≠ c) : x.toInt ≠ m := hc ▸ xc_ne h
def xc_rdR {α : Type} (n : Nat) (i : Int32) (f : Nat → Option α) : Option α := if i < 0 ∨ n ≤ i.toNatClampNeg then none else f i.toNatClampNeg
theorem xi_aaldB (hX : xw_is X) (h : xc_Ok X C A n cc own nL ret) {i : Int32} {f : Nat → Option α} (hd : decode cc pc = .ok (.aaload, 1)) (k : ∀ j : Nat, j < 6 → xc_S X C A nL ret fin (f j) (pc + 1) lv (.ref (X.2.2.2.2.2 (94 + 6 * j)) :: st) I) : xc_S X C A nL ret fin (xc_rdR 6 i f) pc lv (.int i :: .ref (X.2.2.2.2.2 92) :: st) I := by
  intro r hr
  unfold xc_rdR at hr
  split at hr
  · cases hr
  · rename_i q
    intro H locs ls hP hD hS hl
    have hlt : i.toNatClampNeg < 6 := Nat.not_le.mp fun z => q (Or.inr z)
    have hs : X.2.2.2.1[92]? = some (2, 6) := xw_s hX rfl
    have hf : X.2.2.2.2.1 92 i.toNatClampNeg = some (94 + 6 * i.toNatClampNeg) := xw_p hX ((by decide : ∀ j, j < 6 → xw_P 92 j = some (94 + 6 * j)) _ hlt)
    refine va_aldq h.1 h.2.1 h.2.2.2.2.2.1 hP 92 2 (xc_at I hs) rfl q hd ?_
    have e : va_rf ((X.2.2.2.2.1 92 i.toNatClampNeg).map X.2.2.2.2.2) = .ref (X.2.2.2.2.2 (94 + 6 * i.toNatClampNeg)) := by rw [hf]; rfl
    rw [e]
    exact k _ hlt r hr H locs ls hP hD hS hl
def xc_cpy (I : xc_M) (a s b d n : Nat) : xc_M := fun c j => if c = b ∧ d ≤ j ∧ j < d + n then I a (s + (j - d)) else I c j
theorem xc_cpy_arr (I : xc_M) (a s b d n : Nat) : va_cpy (I a) (I b) s d n = xc_cpy I a s b d n b := by
  funext j
  simp [va_cpy, xc_cpy]
def xc_cp {α : Type} (n0 a0 : Nat) (sp : Int32) (n1 a1 : Nat) (dp m : Int32) (I : xc_M) (f : xc_M → Option α) : Option α := if sp < 0 ∨ dp < 0 ∨ m < 0 ∨ n0 < sp.toNatClampNeg + m.toNatClampNeg ∨ n1 < dp.toNatClampNeg + m.toNatClampNeg then none else f (xc_cpy I a0 sp.toNatClampNeg a1 dp.toNatClampNeg m.toNatClampNeg)
theorem xc_setG {X : xc_X} {I J : xc_M} {a : Nat} {s : Nat × Nat} {e : va_E} (h : X.2.2.2.1[a]? = some s) (he : e = xc_ent X J a s) (hJ : ∀ b, b ≠ a → J b = I b) : (xc_ws X I).set a (X.2.2.2.2.2 a, e) = xc_ws X J := by
  apply List.ext_getElem?
  intro j
  have hlen : a < (xc_ws X I).length := (List.getElem?_eq_some_iff.mp (xc_at I h)).1
  by_cases hj : j = a
  · subst hj
    rw [List.getElem?_set_self hlen, xc_at _ h, he]
  · rw [List.getElem?_set_ne (Ne.symm hj)]
    unfold xc_ws
    rw [List.getElem?_mapIdx, List.getElem?_mapIdx]
    cases hs : X.2.2.2.1[j]? with
    | none => rfl
    | some t =>
      simp only [Option.map_some]
      have h1 : J j = I j := hJ j hj
      have h2 : xc_ent X J j t = xc_ent X I j t := by
        obtain ⟨c, m⟩ := t
        match c with
        | 0 => simp [xc_ent, h1]
        | 1 => simp [xc_ent, h1]
        | 2 => rfl
        | c + 3 =>
          simp only [xc_ent, xc_fs]
          congr 2
          apply List.map_congr_left
          intro i _
          simp only [xc_fv, h1]
      rw [h2]
theorem xi_copy (h : xc_Ok X C A n cc own nL ret) {ix n0 a0 n1 a1 : Nat} {sp dp m : Int32} {f : xc_M → Option α} (hd : decode cc pc = .ok (.invokestatic ix, 3)) (hw : xc_Lc own ix) (h0 : X.2.2.2.1[a0]? = some (0, n0)) (h1 : X.2.2.2.1[a1]? = some (0, n1)) (hcat : (st.map fun v => v.category).sum ≤ 8) (k : ∀ J : xc_M, xc_S X C A nL ret fin (f J) (pc + 3) lv st J) : xc_S X C A nL ret fin (xc_cp n0 a0 sp n1 a1 dp m I f) pc lv (.int m :: .int dp :: .ref (X.2.2.2.2.2 a1) :: .int sp :: .ref (X.2.2.2.2.2 a0) :: st) I := by
  intro r hr
  unfold xc_cp at hr
  split at hr
  · cases hr
  · rename_i q
    intro H locs ls hP hD hS hl
    have q1 : ¬ sp < 0 := fun z => q (Or.inl z)
    have q2 : ¬ dp < 0 := fun z => q (Or.inr (Or.inl z))
    have q3 : ¬ m < 0 := fun z => q (Or.inr (Or.inr (Or.inl z)))
    have q4 : sp.toNatClampNeg + m.toNatClampNeg ≤ n0 := Nat.not_lt.mp fun z => q (Or.inr (Or.inr (Or.inr (Or.inl z))))
    have q5 : dp.toNatClampNeg + m.toNatClampNeg ≤ n1 := Nat.not_lt.mp fun z => q (Or.inr (Or.inr (Or.inr (Or.inr z))))
    have eR := h.2.2.2.2.2.2.2.2.1
    refine va_copyi h.1 h.2.1 (h.2.2.1.trans hl.1.symm) h.2.2.2.1 (h.2.2.2.2.1 _ hw.1) (h.2.2.2.2.1 _ hw.2.1) (h.2.2.2.2.1 _ hw.2.2.1) (h.2.2.2.2.1 _ hw.2.2.2) h.2.2.2.2.2.1 hP hD hS a0 a1 0 0 (xc_at I h0) (xc_at I h1) rfl rfl rfl q1 q2 q3 q4 q5 (fun _ _ => rfl) (by rw [eR]; show 1 ≤ n + 1; omega) ?_ hd (fun H1 locs1 hP1 hD1 hS1 => ?_)
    · rw [eR]
      have e : nativeFrameWords "java/lang/System" "arraycopy" 5 + 11 ≤ 56 := by decide +kernel
      show _ ≤ 64 * (n + 1)
      omega
    · rw [xc_setG (I := I) (J := xc_cpy I a0 sp.toNatClampNeg a1 dp.toNatClampNeg m.toNatClampNeg) h1 (by simp only [xc_ent, xc_cpy_arr]) (fun b hb => by funext j; simp [xc_cpy, hb])] at hP1 hD1
      exact k _ r hr H1 locs1 ls hP1 hD1 hS1 hl
theorem xi_mmax (h : xc_Ok X C A n cc own nL ret) {ix : Nat} {x y : Int32} {f : Int32 → Option α} (hd : decode cc pc = .ok (.invokestatic ix, 3)) (hw : xc_Lm own ix Lib.Math.max.name Lib.Math.max.code) (hcat : (st.map fun v => v.category).sum ≤ 8) (k : ∀ v : Int32, xc_S X C A nL ret fin (f v) (pc + 3) lv (.int v :: st) I) : xc_S X C A nL ret fin (xc_lt (if x < y then y else x) f) pc lv (.int y :: .int x :: st) I := by
  intro r hr H locs ls hP hD hS hl
  have eR := h.2.2.2.2.2.2.2.2.1
  exact va_mmax h.1 h.2.1 (h.2.2.1.trans hl.1.symm) h.2.2.2.1 (h.2.2.2.2.1 _ hw.1) (h.2.2.2.2.1 _ hw.2.1) (h.2.2.2.2.1 _ hw.2.2.1) (h.2.2.2.2.1 _ hw.2.2.2) (by rw [eR]; show 1 ≤ n + 1; omega) (by rw [eR]; show _ ≤ 64 * (n + 1); omega) (Nat.zero_le _) (Nat.zero_le _) hd (k _ r hr H locs ls hP hD hS hl)
theorem xi_mmin (h : xc_Ok X C A n cc own nL ret) {ix : Nat} {x y : Int32} {f : Int32 → Option α} (hd : decode cc pc = .ok (.invokestatic ix, 3)) (hw : xc_Lm own ix Lib.Math.min.name Lib.Math.min.code) (hcat : (st.map fun v => v.category).sum ≤ 8) (k : ∀ v : Int32, xc_S X C A nL ret fin (f v) (pc + 3) lv (.int v :: st) I) : xc_S X C A nL ret fin (xc_lt (if y < x then y else x) f) pc lv (.int y :: .int x :: st) I := by
  intro r hr H locs ls hP hD hS hl
  have eR := h.2.2.2.2.2.2.2.2.1
  exact va_mmin h.1 h.2.1 (h.2.2.1.trans hl.1.symm) h.2.2.2.1 (h.2.2.2.2.1 _ hw.1) (h.2.2.2.2.1 _ hw.2.1) (h.2.2.2.2.1 _ hw.2.2.1) (h.2.2.2.2.1 _ hw.2.2.2) (by rw [eR]; show 1 ≤ n + 1; omega) (by rw [eR]; show _ ≤ 64 * (n + 1); omega) (Nat.zero_le _) (Nat.zero_le _) hd (k _ r hr H locs ls hP hD hS hl)
end

