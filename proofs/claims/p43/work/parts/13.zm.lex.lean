-- ===== texts of pieces, and their tokens =====
/-- a piece: (0, _, letters), (1, number, _), (2, sign or blank, _) -/
abbrev Pc : Type := Nat × Nat × List Nat
def rn1 (p : Pc) : List Nat := if p.1 = 0 then p.2.2 else if p.1 = 1 then dec p.2.1 else [p.2.1]
def kwd (w : List Nat) : Nat := kwN (txc w) 0 w.length 0 23
def tk1 (p : Pc) : List (Nat × Nat) := if p.1 = 0 then [(kwd p.2.2, 0)] else if p.1 = 1 then [(2, p.2.1)] else if p.2.1 = 32 then [] else [(p.2.1, 0)]
def rnd (P : List Pc) : List Nat := P.flatMap rn1
def tks (P : List Pc) : List (Nat × Nat) := P.flatMap tk1
/-- l: 1 behind letters, 2 behind digits -/
def wfB : Nat → List Pc → Bool
  | _, [] => true
  | l, p :: P => (if p.1 = 0 then !decide (l = 1) && !p.2.2.isEmpty && p.2.2.all (fun c => isL c && decide (c < 128)) else if p.1 = 1 then !decide (l = 2) else (decide (p.2.1 = 32) || (sgB p.2.1 && decide (p.2.1 < 128)))) && wfB (if p.1 = 0 then 1 else if p.1 = 1 then 2 else 0) P
def nmB (P : List Pc) : Prop := ∀ p, p ∈ P → p.1 = 1 → p.2.1 < 1000
def kv (x : Tok) : Nat × Nat := (x.1, x.2.2)
def LX (u : List Nat) (L : List (Nat × Nat)) : Prop := ∀ (pre : List Nat) (f : Nat), u.length ≤ f → (lexF (txc (pre ++ u)) (pre ++ u).length f pre.length).map kv = L
theorem txc_app (pre u : List Nat) (i : Nat) : txc (pre ++ u) (pre.length + i) = txc u i := by
  unfold txc
  rw [List.getElem?_append_right (by omega), show pre.length + i - pre.length = i by omega]
theorem txc_l {u w : List Nat} {i : Nat} (h : i < u.length) : txc (u ++ w) i = txc u i := by
  unfold txc
  rw [List.getElem?_append_left h]
theorem ruP_run {P : Nat → Bool} {c : Nat → Nat} : ∀ (m d p : Nat), m ≤ d → (∀ j, j < m → P (c (p + j)) = true) → (m = d ∨ P (c (p + m)) = false) → ruP P c d p = p + m := by
  intro m
  induction m with
  | zero =>
    intro d p h1 h2 h3
    cases d with
    | zero => rfl
    | succ d =>
      rcases h3 with h3 | h3
      · omega
      · show (if P (c p) = true then _ else p) = p
        rw [if_neg (by rw [show P (c p) = false from h3]; decide)]
  | succ m ih =>
    intro d p h1 h2 h3
    cases d with
    | zero => omega
    | succ d =>
      show (if P (c p) = true then ruP P c d (p + 1) else p) = p + (m + 1)
      have h20 : P (c p) = true := h2 0 (by omega)
      rw [if_pos h20, ih d (p + 1) (by omega) (fun j hj => by
        have := h2 (j + 1) (by omega)
        rw [show p + 1 + j = p + (j + 1) by omega]
        exact this) (by
        rcases h3 with h3 | h3
        · exact Or.inl (by omega)
        · refine Or.inr ?_
          rw [show p + 1 + m = p + (m + 1) by omega]
          exact h3)]
      omega
theorem mB_cong {c c' : Nat → Nat} {q e q' e' k : Nat} (he : e - q = e' - q') (h : ∀ i, i < e - q → c (q + i) = c' (q' + i)) : mB c q e k = mB c' q' e' k := by
  rw [Bool.eq_iff_iff, mB_iff, mB_iff]
  constructor
  · rintro ⟨h1, h2⟩
    exact ⟨by omega, fun i hi => by rw [← h i (by omega)]; exact h2 i hi⟩
  · rintro ⟨h1, h2⟩
    exact ⟨by omega, fun i hi => by rw [h i (by omega)]; exact h2 i hi⟩
theorem kwN_cong {c c' : Nat → Nat} {q e q' e' : Nat} (he : e - q = e' - q') (h : ∀ i, i < e - q → c (q + i) = c' (q' + i)) : ∀ d j, kwN c q e j d = kwN c' q' e' j d := by
  intro d
  induction d with
  | zero => exact fun _ => rfl
  | succ d ih =>
    intro j
    show (if mB c q e (sj j) = true then _ else _) = if mB c' q' e' (sj j) = true then _ else _
    rw [mB_cong he h, ih]
theorem LX.nil : LX [] [(0, 0)] := by
  intro pre f hf
  rw [List.append_nil]
  cases f with
  | zero => rfl
  | succ f =>
    show List.map kv (if pre.length ≤ ruP isBl (txc pre) (pre.length - pre.length) pre.length then [(0, pre.length, 0)] else _) = _
    rw [Nat.sub_self]
    show List.map kv (if pre.length ≤ pre.length then [(0, pre.length, 0)] else _) = _
    rw [if_pos (Nat.le_refl _)]
    rfl
theorem LX.step {u w : List Nat} {L : List (Nat × Nat)} {k v : Nat} (h : LX u L) (hw : w ≠ []) (hb : ∀ c, w[0]? = some c → isBl c = false) (hk : ∀ (pre : List Nat), tkE (txc (pre ++ (w ++ u))) (pre ++ (w ++ u)).length pre.length = pre.length + w.length ∧ tkK (txc (pre ++ (w ++ u))) (pre ++ (w ++ u)).length pre.length = k ∧ tkV (txc (pre ++ (w ++ u))) (pre ++ (w ++ u)).length pre.length = v) : LX (w ++ u) ((k, v) :: L) := by
  intro pre f hf
  have hwl : 0 < w.length := List.length_pos_iff.mpr hw
  rw [List.length_append] at hf
  obtain ⟨f, rfl⟩ : ∃ g, f = g + 1 := ⟨f - 1, by omega⟩
  have hl : (pre ++ (w ++ u)).length = pre.length + (w.length + u.length) := by rw [List.length_append, List.length_append]
  have hc0 : ∃ c, w[0]? = some c := ⟨w[0], List.getElem?_eq_getElem hwl⟩
  obtain ⟨c, hc⟩ := hc0
  have hq : ruP isBl (txc (pre ++ (w ++ u))) ((pre ++ (w ++ u)).length - pre.length) pre.length = pre.length := by
    refine ruP_run 0 _ _ (by omega) (fun j hj => absurd hj (by omega)) (Or.inr ?_)
    rw [txc_app, txc_l hwl]
    unfold txc
    rw [hc]
    exact hb c hc
  show List.map kv (if (pre ++ (w ++ u)).length ≤ ruP isBl _ _ _ then _ else _) = _
  rw [hq, if_neg (by omega)]
  obtain ⟨h1, h2, h3⟩ := hk pre
  rw [h1, h2, h3, List.map_cons]
  have h4 := h (pre ++ w) f (by omega)
  rw [List.append_assoc, show (pre ++ w).length = pre.length + w.length from List.length_append] at h4
  rw [h4]
  rfl
theorem lexF_q {c : Nat → Nat} {t f p p' : Nat} (h : ruP isBl c (t - p) p = ruP isBl c (t - p') p') : lexF c t (f + 1) p = lexF c t (f + 1) p' := by
  unfold lexF
  rw [h]
theorem LX.bl {u : List Nat} {L : List (Nat × Nat)} (h : LX u L) : LX (32 :: u) L := by
  intro pre f hf
  rw [List.length_cons] at hf
  have h4 := h (pre ++ [32]) f (by omega)
  have hl1 : (pre ++ [32]).length = pre.length + 1 := by simp
  rw [List.append_assoc, hl1] at h4
  have h5 : (lexF (txc (pre ++ 32 :: u)) (pre ++ 32 :: u).length f (pre.length + 1)).map kv = L := h4
  rw [← h5]
  obtain ⟨g, rfl⟩ : ∃ g, f = g + 1 := ⟨f - 1, by omega⟩
  have hl : (pre ++ 32 :: u).length = pre.length + (u.length + 1) := by rw [List.length_append, List.length_cons]
  congr 1
  refine lexF_q ?_
  obtain ⟨d, hd⟩ : ∃ d, (pre ++ 32 :: u).length - pre.length = d + 1 := ⟨u.length, by omega⟩
  rw [hd, show (pre ++ 32 :: u).length - (pre.length + 1) = d by omega]
  have e : txc (pre ++ 32 :: u) pre.length = 32 := txc_app pre (32 :: u) 0
  show (if isBl (txc (pre ++ 32 :: u) pre.length) = true then _ else _) = _
  rw [e]
  rfl
/-- the next letter is none of P -/
def nxt (P : Nat → Bool) (u : List Nat) : Prop := ∀ c, u[0]? = some c → P c = false
theorem run_e {P : Nat → Bool} {pre w u : List Nat} (hw : w ≠ []) (hP : ∀ c, c ∈ w → P c = true) (hn : nxt P u) : ruP P (txc (pre ++ (w ++ u))) ((pre ++ (w ++ u)).length - (pre.length + 1)) (pre.length + 1) = pre.length + w.length := by
  have hwl : 0 < w.length := List.length_pos_iff.mpr hw
  have hl : (pre ++ (w ++ u)).length = pre.length + (w.length + u.length) := by rw [List.length_append, List.length_append]
  have h2 : ∀ j, j < w.length - 1 → P (txc (pre ++ (w ++ u)) (pre.length + 1 + j)) = true := by
    intro j hj
    rw [show pre.length + 1 + j = pre.length + (j + 1) by omega, txc_app, txc_l (by omega)]
    unfold txc
    rw [List.getElem?_eq_getElem (show j + 1 < w.length by omega)]
    exact hP _ (List.getElem_mem _)
  have h3 : w.length - 1 = (pre ++ (w ++ u)).length - (pre.length + 1) ∨ P (txc (pre ++ (w ++ u)) (pre.length + 1 + (w.length - 1))) = false := by
    by_cases hu : u = []
    · refine Or.inl ?_
      rw [hu, List.length_nil] at hl
      rw [hu]
      omega
    · refine Or.inr ?_
      have hul : 0 < u.length := List.length_pos_iff.mpr hu
      rw [show pre.length + 1 + (w.length - 1) = pre.length + (w.length + 0) by omega, txc_app, txc_app]
      unfold txc
      rw [List.getElem?_eq_getElem hul]
      exact hn _ (List.getElem?_eq_getElem hul)
  have e := ruP_run (P := P) (c := txc (pre ++ (w ++ u))) (w.length - 1) ((pre ++ (w ++ u)).length - (pre.length + 1)) (pre.length + 1) (by omega) h2 h3
  rw [e]
  omega
theorem txc_at (pre : List Nat) {w u : List Nat} {i c : Nat} (h : w[i]? = some c) : txc (pre ++ (w ++ u)) (pre.length + i) = c := by
  rw [txc_app, txc_l (List.getElem?_eq_some_iff.mp h).1]
  unfold txc
  rw [h]
  rfl
theorem ld_f : (List.range 128).all (fun c => (!isL c || (!isD c && !isBl c)) && (!isD c || (!isL c && !isBl c)) && (!sgB c || (!isL c && !isD c && !isBl c)) && (!isBl c || (!isL c && !isD c))) = true := by decide +kernel
theorem ld_c {c : Nat} (hc : c < 128) : (isL c = true → isD c = false ∧ isBl c = false) ∧ (isD c = true → isL c = false ∧ isBl c = false) ∧ (sgB c = true → isL c = false ∧ isD c = false ∧ isBl c = false) ∧ (isBl c = true → isL c = false ∧ isD c = false) := by
  have h := List.all_eq_true.mp ld_f c (List.mem_range.mpr hc)
  simp only [Bool.and_eq_true, Bool.or_eq_true, Bool.not_eq_true'] at h
  obtain ⟨⟨⟨h1, h2⟩, h3⟩, h4⟩ := h
  refine ⟨fun z => ?_, fun z => ?_, fun z => ?_, fun z => ?_⟩
  · rcases h1 with q | q
    · rw [z] at q
      exact nomatch q
    · exact q
  · rcases h2 with q | q
    · rw [z] at q
      exact nomatch q
    · exact q
  · rcases h3 with q | q
    · rw [z] at q
      exact nomatch q
    · exact ⟨q.1.1, q.1.2, q.2⟩
  · rcases h4 with q | q
    · rw [z] at q
      exact nomatch q
    · exact q
theorem LX.word {u w : List Nat} {L : List (Nat × Nat)} (h : LX u L) (hw : w ≠ []) (hP : ∀ c, c ∈ w → isL c = true ∧ c < 128) (hn : nxt isL u) : LX (w ++ u) ((kwd w, 0) :: L) := by
  have hwl : 0 < w.length := List.length_pos_iff.mpr hw
  obtain ⟨c, hc⟩ : ∃ c, w[0]? = some c := ⟨w[0], List.getElem?_eq_getElem hwl⟩
  have hcm : c ∈ w := List.mem_of_getElem? hc
  refine h.step hw (fun c2 hc2 => ((ld_c (hP c2 (List.mem_of_getElem? hc2)).2).1 (hP c2 (List.mem_of_getElem? hc2)).1).2) (fun pre => ?_)
  have h0 : txc (pre ++ (w ++ u)) pre.length = c := txc_at pre hc
  have hE : tkE (txc (pre ++ (w ++ u))) (pre ++ (w ++ u)).length pre.length = pre.length + w.length := by
    unfold tkE
    rw [h0, if_pos (hP c hcm).1]
    exact run_e hw (fun c hc => (hP c hc).1) hn
  refine ⟨hE, ?_, ?_⟩
  · unfold tkK
    rw [h0, if_pos (hP c hcm).1, hE]
    refine kwN_cong (by omega) (fun i hi => ?_) 23 0
    rw [txc_app, txc_l (by omega), Nat.zero_add]
  · unfold tkV
    rw [h0, if_pos (hP c hcm).1]
theorem dec_d {x c : Nat} (hx : x < 1000) (hc : c ∈ dec x) : isD c = true ∧ c < 128 := by
  have k : ∀ d, d < 10 → isD (48 + d) = true ∧ 48 + d < 128 := by decide
  unfold dec at hc
  split at hc
  · simp only [List.mem_cons, List.not_mem_nil, or_false] at hc
    rw [hc]
    exact k x (by omega)
  · split at hc
    · simp only [List.mem_cons, List.not_mem_nil, or_false] at hc
      rcases hc with rfl | rfl
      · exact k _ (by omega)
      · exact k _ (by omega)
    · simp only [List.mem_cons, List.not_mem_nil, or_false] at hc
      rcases hc with rfl | rfl | rfl
      · exact k _ (by omega)
      · exact k _ (by omega)
      · exact k _ (by omega)
theorem dec_ne (x : Nat) : dec x ≠ [] := by
  unfold dec
  split
  · simp
  · split <;> simp
theorem LX.num {u : List Nat} {x : Nat} {L : List (Nat × Nat)} (h : LX u L) (hx : x < 1000) (hn : nxt isD u) : LX (dec x ++ u) ((2, x) :: L) := by
  have hwl : 0 < (dec x).length := List.length_pos_iff.mpr (dec_ne x)
  obtain ⟨c, hc⟩ : ∃ c, (dec x)[0]? = some c := ⟨(dec x)[0], List.getElem?_eq_getElem hwl⟩
  have hcm := dec_d hx (List.mem_of_getElem? hc)
  have hcl := (ld_c hcm.2).2.1 hcm.1
  have h3 := dec_l (x := x)
  refine h.step (dec_ne x) (fun c2 hc2 => ((ld_c (dec_d hx (List.mem_of_getElem? hc2)).2).2.1 (dec_d hx (List.mem_of_getElem? hc2)).1).2) (fun pre => ?_)
  have h0 : txc (pre ++ (dec x ++ u)) pre.length = c := txc_at pre hc
  have hE : tkE (txc (pre ++ (dec x ++ u))) (pre ++ (dec x ++ u)).length pre.length = pre.length + (dec x).length := by
    unfold tkE
    rw [h0, if_neg (by rw [hcl.1]; decide), if_pos hcm.1]
    exact run_e (dec_ne x) (fun c hc => (dec_d hx hc).1) hn
  refine ⟨hE, ?_, ?_⟩
  · unfold tkK
    rw [h0, if_neg (by rw [hcl.1]; decide), if_pos hcm.1, hE, if_pos (by omega)]
  · unfold tkV
    rw [h0, if_neg (by rw [hcl.1]; decide), if_pos hcm.1, hE, show min 4 (pre.length + (dec x).length - pre.length) = (dec x).length by omega]
    have key : numV (txc (pre ++ (dec x ++ u))) pre.length (dec x).length = itr (fun i v => v * 10 + txc (dec x) i - 48) 0 (dec x).length := itr_congr (fun i v hi => by rw [txc_app, txc_l hi])
    rw [key]
    unfold dec
    split
    · show 0 * 10 + (48 + x) - 48 = x
      omega
    · split
      · show (0 * 10 + (48 + x / 10) - 48) * 10 + (48 + x % 10) - 48 = x
        omega
      · show ((0 * 10 + (48 + x / 100) - 48) * 10 + (48 + x / 10 % 10) - 48) * 10 + (48 + x % 10) - 48 = x
        omega
theorem LX.sgn {u : List Nat} {c : Nat} {L : List (Nat × Nat)} (h : LX u L) (hc : sgB c = true) (h128 : c < 128) : LX (c :: u) ((c, 0) :: L) := by
  have hcl := (ld_c h128).2.2.1 hc
  refine LX.step (w := [c]) h (by simp) (fun c2 hc2 => ?_) (fun pre => ?_)
  · simp only [List.getElem?_cons_zero, Option.some.injEq] at hc2
    rw [← hc2]
    exact hcl.2.2
  · have h0 : txc (pre ++ ([c] ++ u)) pre.length = c := txc_at pre (i := 0) rfl
    unfold tkE tkK tkV
    rw [h0, if_neg (by rw [hcl.1]; decide), if_neg (by rw [hcl.2.1]; decide), if_neg (by rw [hcl.1]; decide), if_neg (by rw [hcl.2.1]; decide), if_pos hc, if_neg (by rw [hcl.1]; decide), if_neg (by rw [hcl.2.1]; decide)]
    exact ⟨rfl, rfl, rfl⟩
