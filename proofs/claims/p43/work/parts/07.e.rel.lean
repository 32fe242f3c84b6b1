-- ===== the reference's row, what it keeps to, and the class's World beside it =====
def xr (w : Nat → Int32) (j : Nat) : Nat := (w j).toNatClampNeg
def vN (w : Nat → Int32) (j n : Nat) : Prop := w j = nI (xr w j) ∧ xr w j < n
theorem vN_mk {w : Nat → Int32} {j n v : Nat} (h : w j = nI v) (hv : v < n) (hn : n ≤ 2 ^ 31) : vN w j n := by
  have e : xr w j = v := by
    unfold xr
    rw [h, nI_clamp (by omega)]
  exact ⟨by rw [e, h], by rw [e]; exact hv⟩
theorem xr_of {w : Nat → Int32} {j v : Nat} (h : w j = nI v) (hv : v < 2 ^ 31) : xr w j = v := by
  unfold xr
  rw [h, nI_clamp hv]
theorem xr_eq {w v : Nat → Int32} {j k : Nat} (h : w j = v k) : xr w j = xr v k := by
  unfold xr
  rw [h]
theorem vN_eq {w v : Nat → Int32} {j k n : Nat} (h : w j = v k) (hv : vN v k n) : vN w j n := by
  have e := xr_eq h
  exact ⟨by rw [e, h]; exact hv.1, by rw [e]; exact hv.2⟩
/-- what days and deeds change -/
def bI (nW : Nat) (w : Nat → Int32) : Prop := vN w 0 (2 ^ 30) ∧ vN w 2 151 ∧ vN w 3 (2 ^ nW) ∧ (∀ k, k < 14 → vN w (4 + k) 10000) ∧ (∀ p, p < 10 → vN w (32 + p) 10) ∧ (∀ p, p < 10 → vN w (42 + p) (2 ^ nW)) ∧ (∀ p, p < 10 → vN w (52 + p) 100)
-- the law's steps
def lseg (w : Nat → Int32) (a b : Nat) : List (Nat × Int32) := (List.range (b - a)).map fun j => (xr w (1412 + 2 * (a + j)), w (1412 + 2 * (a + j) + 1))
def ltyp : List (Nat × Int32) → List Bool → Option (List Bool)
  | [], st => some st
  | (s, v) :: r, st =>
    if 24 ≤ st.length then none
    else if s = 0 then (if 0 ≤ v ∧ v ≤ 9999 then ltyp r (false :: st) else none)
    else if s ≤ 8 then ltyp r (false :: st)
    else if s = 26 then (if 0 < v ∧ v ≤ 9999 then match st with
      | false :: q => ltyp r (false :: q)
      | _ => none else none)
    else if s = 30 then match st with
      | true :: q => ltyp r (true :: q)
      | _ => none
    else if s = 23 ∨ s = 24 ∨ s = 25 then match st with
      | false :: false :: q => ltyp r (false :: q)
      | _ => none
    else if s = 27 ∨ s = 28 ∨ s = 29 then match st with
      | false :: false :: q => ltyp r (true :: q)
      | _ => none
    else if s = 31 ∨ s = 32 then match st with
      | true :: true :: q => ltyp r (true :: q)
      | _ => none
    else none
def lopc (s : Nat) : Nat := if s = 23 then 43 else if s = 24 then 45 else if s = 25 then 42 else if s = 27 then 60 else if s = 28 then 61 else if s = 29 then 62 else if s = 30 then 103 else if s = 31 then 102 else 101
def lenc (q : Nat × Int32) : List Int32 := if q.1 = 0 then [q.2] else if q.1 ≤ 8 then [nI (9999 + q.1)] else if q.1 = 26 then [q.2, nI 20047] else [nI (20000 + lopc q.1)]
def lcod (I : xc_M) (c a b : Nat) : List Int32 := (List.range (b - a)).map fun j => I (c + 5) (a + j)
def lI (w : Nat → Int32) : Prop := ∀ i, i < xr w 65 → vN w (1348 + i) 411 ∧ vN w (1364 + i) 411 ∧ vN w (1380 + i) 411 ∧ vN w (1396 + i) 23 ∧ 20 ≤ xr w (1396 + i) ∧ xr w (1348 + i) ≤ xr w (1364 + i) ∧ xr w (1364 + i) ≤ xr w (1380 + i) ∧ (∀ j, j < xr w (1380 + i) → vN w (1412 + 2 * j) 33) ∧ ltyp (lseg w (xr w (1348 + i)) (xr w (1364 + i))) [] = some [false] ∧ (xr w (1364 + i) < xr w (1380 + i) → ltyp (lseg w (xr w (1364 + i)) (xr w (1380 + i))) [] = some [true])
def lR (c : Nat) (I : xc_M) (w : Nat → Int32) : Prop := I c 0 = w 65 ∧ ∀ i, i < xr w 65 → I (c + 1) i = nI (xr w (1396 + i) + 84) ∧ ∃ a m e : Nat, I (c + 2) i = nI a ∧ I (c + 3) i = nI m ∧ I (c + 4) i = nI e ∧ a ≤ m ∧ m ≤ e ∧ e ≤ 400 ∧ lcod I c a m = (lseg w (xr w (1348 + i)) (xr w (1364 + i))).flatMap lenc ∧ lcod I c m e = (lseg w (xr w (1364 + i)) (xr w (1380 + i))).flatMap lenc
-- meanings
def wC (w : Nat → Int32) (m i : Nat) : Nat := xr w (208 + 42 * m + 7 * i)
def wS (w : Nat → Int32) (m i : Nat) : Nat := itr (fun k acc => acc ||| 2 ^ xr w (208 + 42 * m + 7 * i + (1 + k))) 0 (wC w m i)
def wL (w : Nat → Int32) (m i : Nat) : Nat := itr (fun k acc => acc + xr w (70 + xr w (208 + 42 * m + 7 * i + (1 + k)))) 0 (wC w m i)
def mIv (w : Nat → Int32) : Prop := ∀ m, m < xr w 66 → vN w (198 + m) 7 ∧ ∀ i, i < xr w (198 + m) → vN w (208 + 42 * m + 7 * i) 7 ∧ ∀ k, k < wC w m i → vN w (208 + 42 * m + 7 * i + (1 + k)) (xr w 62)
def mR (c : Nat) (I : xc_M) (w : Nat → Int32) : Prop := I c 0 = w 66 ∧ ∀ m, m < xr w 66 → I (c + 1) m = w (198 + m) ∧ ∀ i, i < xr w (198 + m) → I (c + 2) (6 * m + i) = nI (wS w m i) ∧ I (c + 3) (6 * m + i) = nI (wL w m i)
-- walks, needs, talks
def kIv (w : Nat → Int32) : Prop := ∀ i, i < xr w 67 → vN w (628 + 4 * i) 1000 ∧ vN w (629 + 4 * i) (xr w 63) ∧ vN w (630 + 4 * i) 12 ∧ 9 ≤ xr w (630 + 4 * i) ∧ (xr w (630 + 4 * i) = 9 → vN w (631 + 4 * i) 10) ∧ (xr w (630 + 4 * i) = 10 → vN w (631 + 4 * i) (xr w 62))
def kR (c : Nat) (I : xc_M) (w : Nat → Int32) : Prop := I c 0 = w 67 ∧ ∀ i, i < xr w 67 → I (c + 1) (4 * i) = w (628 + 4 * i) ∧ I (c + 1) (4 * i + 1) = w (629 + 4 * i) ∧ I (c + 1) (4 * i + 2) = nI (xr w (630 + 4 * i) + 108) ∧ (xr w (630 + 4 * i) ≠ 11 → I (c + 1) (4 * i + 3) = w (631 + 4 * i))
def nIv (w : Nat → Int32) : Prop := ∀ i, i < xr w 68 → vN w (692 + 3 * i) (xr w 66) ∧ vN w (693 + 3 * i) 1000 ∧ vN w (694 + 3 * i) 100
def nR (c : Nat) (I : xc_M) (w : Nat → Int32) : Prop := I c 0 = w 68 ∧ ∀ i, i < xr w 68 → I (c + 1) (4 * i) = w (692 + 3 * i) ∧ I (c + 1) (4 * i + 1) = w (693 + 3 * i) ∧ I (c + 1) (4 * i + 2) = w (694 + 3 * i)
/-- each meaning can be said somehow -/
def wIv (w : Nat → Int32) : Prop := ∀ m, m < xr w 66 → 1 ≤ xr w (198 + m)
def tIv (w : Nat → Int32) : Prop := ∀ i, i < xr w 69 → vN w (728 + 2 * i) (xr w 62) ∧ (w (729 + 2 * i) = mI ∨ vN w (729 + 2 * i) 10)
def tR (c : Nat) (I : xc_M) (w : Nat → Int32) : Prop := I c 0 = w 69 ∧ ∀ i, i < xr w 69 → I (c + 1) (4 * i) = w (728 + 2 * i) ∧ I (c + 1) (4 * i + 1) = w (729 + 2 * i)
/-- what stays over days and deeds -/
def cI (w : Nat → Int32) : Prop := vN w 62 15 ∧ vN w 63 11 ∧ vN w 64 1001 ∧ vN w 65 17 ∧ vN w 66 11 ∧ vN w 67 17 ∧ vN w 68 13 ∧ vN w 69 11 ∧ (∀ k, k < 14 → vN w (70 + k) 21) ∧ (∀ k, k < 14 → vN w (84 + k) (2 ^ xr w 62)) ∧ (∀ j, j < 100 → vN w (98 + j) 100) ∧ lI w ∧ (mIv w ∧ wIv w) ∧ kIv w ∧ nIv w ∧ tIv w
def bR (c : Nat) (I : xc_M) (w : Nat → Int32) : Prop := I c 0 = w 1 ∧ I c 1 = w 0 ∧ I c 2 = w 3 ∧ (∀ k, k < 14 → I (c + 1) k = w (4 + k)) ∧ (∀ k, k < 14 → I (c + 2) k = w (18 + k)) ∧ (∀ p, p < 10 → I (c + 3) p = w (32 + p)) ∧ (∀ p, p < 10 → I (c + 4) p = w (42 + p)) ∧ (∀ p, p < 10 → I (c + 5) p = w (52 + p))
def cR (fl : Bool) (b : Nat) (I : xc_M) (w : Nat → Int32) : Prop := I b 0 = w 62 ∧ I b 1 = w 63 ∧ I b 2 = (if fl then w 64 else 0) ∧ (∀ k, k < 14 → I (b + 1) k = w (70 + k)) ∧ (∀ k, k < 14 → I (b + 2) k = w (84 + k)) ∧ (∀ j, j < 100 → I (b + 3) j = w (98 + j)) ∧ lR (b + 22) I w ∧ mR (b + 18) I w ∧ kR (b + 12) I w ∧ nR (b + 14) I w ∧ tR (b + 16) I w
/-- the book, where it is the true one -/
def oR (fl : Bool) (c : Nat) (I : xc_M) (w : Nat → Int32) : Prop := (∃ n, n < 151 ∧ I c 0 = nI n) ∧ (fl = true → I c 0 = w 2 ∧ ∀ j, j < 600 → I (c + 1) j = w (748 + j))
def iW (w : Nat → Int32) : Prop := bI (xr w 62) w ∧ cI w
def xW (fl : Bool) (b : Nat) (I : xc_M) (w : Nat → Int32) : Prop := iW w ∧ bR (b + 4) I w ∧ cR fl b I w ∧ oR fl (b + 10) I w
section
variable {fl : Bool} {b : Nat} {I : xc_M} {w : Nat → Int32}
theorem p2_14 {n : Nat} (h : n < 15) : 2 ^ n ≤ 16384 := by
  have h1 : (2 : Nat) ^ n ≤ 2 ^ 14 := Nat.pow_le_pow_right (by decide) (by omega)
  exact h1
theorem p2_10 {n : Nat} (h : n < 11) : 2 ^ n ≤ 1024 := by
  have h1 : (2 : Nat) ^ n ≤ 2 ^ 10 := Nat.pow_le_pow_right (by decide) (by omega)
  exact h1
theorem iW.day (h : iW w) : w 0 = nI (xr w 0) := h.1.1.1
theorem iW.dayB (h : iW w) : xr w 0 < 2 ^ 30 := h.1.1.2
theorem iW.book (h : iW w) : w 2 = nI (xr w 2) := h.1.2.1.1
theorem iW.bookB (h : iW w) : xr w 2 < 151 := h.1.2.1.2
theorem iW.lapsed (h : iW w) : w 3 = nI (xr w 3) := h.1.2.2.1.1
theorem iW.lapsedP (h : iW w) : xr w 3 < 2 ^ xr w 62 := h.1.2.2.1.2
theorem iW.unsaid (h : iW w) {k : Nat} (hk : k < 14) : w (4 + k) = nI (xr w (4 + k)) := (h.1.2.2.2.1 k hk).1
theorem iW.unsaidB (h : iW w) {k : Nat} (hk : k < 14) : xr w (4 + k) < 10000 := (h.1.2.2.2.1 k hk).2
theorem iW.at (h : iW w) {p : Nat} (hp : p < 10) : w (32 + p) = nI (xr w (32 + p)) := (h.1.2.2.2.2.1 p hp).1
theorem iW.atB (h : iW w) {p : Nat} (hp : p < 10) : xr w (32 + p) < 10 := (h.1.2.2.2.2.1 p hp).2
theorem iW.tongue (h : iW w) {p : Nat} (hp : p < 10) : w (42 + p) = nI (xr w (42 + p)) := (h.1.2.2.2.2.2.1 p hp).1
theorem iW.tongueP (h : iW w) {p : Nat} (hp : p < 10) : xr w (42 + p) < 2 ^ xr w 62 := (h.1.2.2.2.2.2.1 p hp).2
theorem iW.breath (h : iW w) {p : Nat} (hp : p < 10) : w (52 + p) = nI (xr w (52 + p)) := (h.1.2.2.2.2.2.2 p hp).1
theorem iW.breathB (h : iW w) {p : Nat} (hp : p < 10) : xr w (52 + p) < 100 := (h.1.2.2.2.2.2.2 p hp).2
theorem iW.nW (h : iW w) : w 62 = nI (xr w 62) := h.2.1.1
theorem iW.nWB (h : iW w) : xr w 62 < 15 := h.2.1.2
theorem iW.nP (h : iW w) : w 63 = nI (xr w 63) := h.2.2.1.1
theorem iW.nPB (h : iW w) : xr w 63 < 11 := h.2.2.1.2
theorem iW.chat (h : iW w) : w 64 = nI (xr w 64) := h.2.2.2.1.1
theorem iW.chatB (h : iW w) : xr w 64 < 1001 := h.2.2.2.1.2
theorem iW.nL (h : iW w) : w 65 = nI (xr w 65) := h.2.2.2.2.1.1
theorem iW.nLB (h : iW w) : xr w 65 < 17 := h.2.2.2.2.1.2
theorem iW.nM (h : iW w) : w 66 = nI (xr w 66) := h.2.2.2.2.2.1.1
theorem iW.nMB (h : iW w) : xr w 66 < 11 := h.2.2.2.2.2.1.2
theorem iW.nK (h : iW w) : w 67 = nI (xr w 67) := h.2.2.2.2.2.2.1.1
theorem iW.nKB (h : iW w) : xr w 67 < 17 := h.2.2.2.2.2.2.1.2
theorem iW.nN (h : iW w) : w 68 = nI (xr w 68) := h.2.2.2.2.2.2.2.1.1
theorem iW.nNB (h : iW w) : xr w 68 < 13 := h.2.2.2.2.2.2.2.1.2
theorem iW.nT (h : iW w) : w 69 = nI (xr w 69) := h.2.2.2.2.2.2.2.2.1.1
theorem iW.nTB (h : iW w) : xr w 69 < 11 := h.2.2.2.2.2.2.2.2.1.2
theorem iW.long (h : iW w) {k : Nat} (hk : k < 14) : w (70 + k) = nI (xr w (70 + k)) := (h.2.2.2.2.2.2.2.2.2.1 k hk).1
theorem iW.longB (h : iW w) {k : Nat} (hk : k < 14) : xr w (70 + k) < 21 := (h.2.2.2.2.2.2.2.2.2.1 k hk).2
theorem iW.kin (h : iW w) {k : Nat} (hk : k < 14) : w (84 + k) = nI (xr w (84 + k)) := (h.2.2.2.2.2.2.2.2.2.2.1 k hk).1
theorem iW.kinP (h : iW w) {k : Nat} (hk : k < 14) : xr w (84 + k) < 2 ^ xr w 62 := (h.2.2.2.2.2.2.2.2.2.2.1 k hk).2
theorem iW.kinB (h : iW w) {k : Nat} (hk : k < 14) : xr w (84 + k) < 16384 := Nat.lt_of_lt_of_le (h.kinP hk) (p2_14 h.nWB)
theorem iW.miles (h : iW w) {j : Nat} (hj : j < 100) : w (98 + j) = nI (xr w (98 + j)) := (h.2.2.2.2.2.2.2.2.2.2.2.1 j hj).1
theorem iW.milesB (h : iW w) {j : Nat} (hj : j < 100) : xr w (98 + j) < 100 := (h.2.2.2.2.2.2.2.2.2.2.2.1 j hj).2
theorem iW.law (h : iW w) : lI w := h.2.2.2.2.2.2.2.2.2.2.2.2.1
theorem iW.means (h : iW w) : mIv w := h.2.2.2.2.2.2.2.2.2.2.2.2.2.1.1
theorem iW.ways1 (h : iW w) : wIv w := h.2.2.2.2.2.2.2.2.2.2.2.2.2.1.2
theorem iW.walks (h : iW w) : kIv w := h.2.2.2.2.2.2.2.2.2.2.2.2.2.2.1
theorem iW.needs (h : iW w) : nIv w := h.2.2.2.2.2.2.2.2.2.2.2.2.2.2.2.1
theorem iW.talks (h : iW w) : tIv w := h.2.2.2.2.2.2.2.2.2.2.2.2.2.2.2.2
theorem iW.lapsedB (h : iW w) : xr w 3 < 16384 := Nat.lt_of_lt_of_le h.lapsedP (p2_14 h.nWB)
theorem iW.tongueB (h : iW w) {p : Nat} (hp : p < 10) : xr w (42 + p) < 16384 := Nat.lt_of_lt_of_le (h.tongueP hp) (p2_14 h.nWB)
theorem iW.pW (h : iW w) : 2 ^ xr w 62 ≤ 16384 := p2_14 h.nWB
theorem iW.pP (h : iW w) : 2 ^ xr w 63 ≤ 1024 := p2_10 h.nPB
theorem iW.pM (h : iW w) : 2 ^ xr w 66 ≤ 1024 := p2_10 h.nMB
theorem xW.i (h : xW fl b I w) : iW w := h.1
theorem xW.draws (h : xW fl b I w) : I (b + 4) 0 = w 1 := h.2.1.1
theorem xW.day (h : xW fl b I w) : I (b + 4) 1 = nI (xr w 0) := h.2.1.2.1.trans h.1.day
theorem xW.lapsed (h : xW fl b I w) : I (b + 4) 2 = nI (xr w 3) := h.2.1.2.2.1.trans h.1.lapsed
theorem xW.unsaid (h : xW fl b I w) {k : Nat} (hk : k < 14) : I (b + 5) k = nI (xr w (4 + k)) := (h.2.1.2.2.2.1 k hk).trans (h.1.unsaid hk)
theorem xW.said (h : xW fl b I w) {k : Nat} (hk : k < 14) : I (b + 6) k = w (18 + k) := h.2.1.2.2.2.2.1 k hk
theorem xW.at (h : xW fl b I w) {p : Nat} (hp : p < 10) : I (b + 7) p = nI (xr w (32 + p)) := (h.2.1.2.2.2.2.2.1 p hp).trans (h.1.at hp)
theorem xW.tongue (h : xW fl b I w) {p : Nat} (hp : p < 10) : I (b + 8) p = nI (xr w (42 + p)) := (h.2.1.2.2.2.2.2.2.1 p hp).trans (h.1.tongue hp)
theorem xW.breath (h : xW fl b I w) {p : Nat} (hp : p < 10) : I (b + 9) p = nI (xr w (52 + p)) := (h.2.1.2.2.2.2.2.2.2 p hp).trans (h.1.breath hp)
theorem xW.nW (h : xW fl b I w) : I b 0 = nI (xr w 62) := h.2.2.1.1.trans h.1.nW
theorem xW.nP (h : xW fl b I w) : I b 1 = nI (xr w 63) := h.2.2.1.2.1.trans h.1.nP
theorem xW.chat (h : xW fl b I w) : I b 2 = (if fl then w 64 else 0) := h.2.2.1.2.2.1
theorem xW.long (h : xW fl b I w) {k : Nat} (hk : k < 14) : I (b + 1) k = nI (xr w (70 + k)) := (h.2.2.1.2.2.2.1 k hk).trans (h.1.long hk)
theorem xW.kin (h : xW fl b I w) {k : Nat} (hk : k < 14) : I (b + 2) k = nI (xr w (84 + k)) := (h.2.2.1.2.2.2.2.1 k hk).trans (h.1.kin hk)
theorem xW.miles (h : xW fl b I w) {j : Nat} (hj : j < 100) : I (b + 3) j = nI (xr w (98 + j)) := (h.2.2.1.2.2.2.2.2.1 j hj).trans (h.1.miles hj)
theorem xW.law (h : xW fl b I w) : lR (b + 22) I w := h.2.2.1.2.2.2.2.2.2.1
theorem xW.means (h : xW fl b I w) : mR (b + 18) I w := h.2.2.1.2.2.2.2.2.2.2.1
theorem xW.walks (h : xW fl b I w) : kR (b + 12) I w := h.2.2.1.2.2.2.2.2.2.2.2.1
theorem xW.needs (h : xW fl b I w) : nR (b + 14) I w := h.2.2.1.2.2.2.2.2.2.2.2.2.1
theorem xW.talks (h : xW fl b I w) : tR (b + 16) I w := h.2.2.1.2.2.2.2.2.2.2.2.2.2
theorem xW.book (h : xW fl b I w) : oR fl (b + 10) I w := h.2.2.2
end
