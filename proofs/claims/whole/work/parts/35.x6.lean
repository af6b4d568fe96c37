section X6
variable {C : Cst} {T : Nat → Pst → Nat → Lcs → List Value → Mem → Prop}
def F_bothLong (K : Mem) (n : Nat) (r w : Int32) : Ans :=
  if okR n r then if w < 0 ∨ 2 < w then (2, -2) else (0, if w = 2 then (bothK K (ix r)).1 else (bothK K (ix r)).2 5 (ix w) - K 5 (ix w)) else (1, -1)
set_option maxRecDepth 100000 in
theorem w2 {w : Int32} (h0 : ¬ w < 0) (h2 : ¬ 2 < w) : ∃ i, i ≤ 2 ∧ w = nI i := by
  obtain ⟨j, hj, rfl⟩ := nI_of h0
  refine ⟨j, ?_, rfl⟩
  revert h2
  simp (disch := omega) only [li0, li1, li2, li3, li4, li5, li6, li7, li8, li9, li10, li11, li12, li13, li14, li15, li16, li17, li18, li19, li20, li60, li96, li99, li255, li999, nI_leI, nI_ltI, nI_eq, nI_1, nI_add]
  omega
set_option maxRecDepth 100000 in
theorem X4_bothLong (H : Rules C T) {S K : Mem} {n : Nat} (X : XK S K n) {r w : Int32} {Q : Pst} (h1 : AnsX S (F_bothLong K n r w) Q) : C mX4_bothLong [.ref 0, .int r, .int w] S Q := by
  obtain ⟨R, hn, hn8, hz⟩ := X
  unfold F_bothLong at h1
  refine Rules.go H (by decide) (Nat.le_of_ble_eq_true rfl) ?_
  repeat' (first | (refine Rules.st H okX4_bothLong [] ?_; conv => whnf) | refine br_t (by first | decide | assumption) ?_ | refine br_f (by first | decide | assumption) ?_ | refine br_c (fun _ => ?_) (fun _ => ?_) | refine ⟨by decide, ?_⟩ | refine ⟨by first | assumption | (unfold vp_in; decide) | ((with_reducible (refine vp_in_nI ?_ ?_)) <;> omega), ?_⟩ | fail)
  refine X1_hasRoom H (Or.inl rfl) R hn hn8 (fun j hj e => ?_) (fun hno => ?_)
  · subst e
    rw [if_pos (okR_nI hn8 hj), show ix (nI j) = j from nIc (by omega)] at h1
    repeat' (first | (refine Rules.st H okX4_bothLong [] ?_; conv => whnf) | refine br_t (by first | decide | assumption) ?_ | refine br_f (by first | decide | assumption) ?_ | refine br_c (fun _ => ?_) (fun _ => ?_) | refine ⟨by decide, ?_⟩ | refine ⟨by first | assumption | (unfold vp_in; decide) | ((with_reducible (refine vp_in_nI ?_ ?_)) <;> omega), ?_⟩ | fail)
    · rw [if_pos (Or.inl (by assumption))] at h1
      refine X4_ref H (ScX.rf) (k := 2) (by omega) (by omega) (by decide) (fun S' hS' => ?_)
      repeat' (first | (refine Rules.st H okX4_bothLong [] ?_; conv => whnf) | refine br_t (by first | decide | assumption) ?_ | refine br_f (by first | decide | assumption) ?_ | refine br_c (fun _ => ?_) (fun _ => ?_) | refine ⟨by decide, ?_⟩ | refine ⟨by first | assumption | (unfold vp_in; decide) | ((with_reducible (refine vp_in_nI ?_ ?_)) <;> omega), ?_⟩ | fail)
      exact h1 S' hS'
    · rw [if_neg (fun z => z.elim (by assumption) (Int32.not_lt.mpr (by assumption)))] at h1
      have hw := w2 (w := w) (by assumption) (Int32.not_lt.mpr (by assumption))
      refine X4_think H R hz (fun S1 R1 F1 => ?_)
      repeat' (first | (refine Rules.st H okX4_bothLong [] ?_; conv => whnf) | refine br_t (by first | decide | assumption) ?_ | refine br_f (by first | decide | assumption) ?_ | refine br_c (fun _ => ?_) (fun _ => ?_) | refine ⟨by decide, ?_⟩ | refine ⟨by first | assumption | (unfold vp_in; decide) | ((with_reducible (refine vp_in_nI ?_ ?_)) <;> omega), ?_⟩ | fail)
      refine X1_visitByBoth H (Or.inr (Or.inl rfl)) R1 (by omega) (fun S2 R2 F2 => ?_)
      repeat' (first | (refine Rules.st H okX4_bothLong [] ?_; conv => whnf) | refine br_t (by first | decide | assumption) ?_ | refine br_f (by first | decide | assumption) ?_ | refine br_c (fun _ => ?_) (fun _ => ?_) | refine ⟨by decide, ?_⟩ | refine ⟨by first | assumption | (unfold vp_in; decide) | ((with_reducible (refine vp_in_nI ?_ ?_)) <;> omega), ?_⟩ | fail)
      · rw [if_pos (by assumption)] at h1
        exact h1 S2 (ScX.f7 (F1.tr F2))
      · have hne : ¬ w = 2 := by assumption
        rw [if_neg hne] at h1
        obtain ⟨i, hi, e⟩ := hw
        have hi2 : i < 2 := by
          rcases (show i < 2 ∨ i = 2 by omega) with h | h
          · exact h
          · exact absurd (by rw [e, h]; rfl) hne
        subst e
        rw [show ix (nI i) = i from nIc (by omega)] at h1
        refine X4_thoughtMinutes H (R.fr (F1.tr F2) (by omega)) R2 hi2 ?_
        repeat' (first | (refine Rules.st H okX4_bothLong [] ?_; conv => whnf) | refine br_t (by first | decide | assumption) ?_ | refine br_f (by first | decide | assumption) ?_ | refine br_c (fun _ => ?_) (fun _ => ?_) | refine ⟨by decide, ?_⟩ | refine ⟨by first | assumption | (unfold vp_in; decide) | ((with_reducible (refine vp_in_nI ?_ ?_)) <;> omega), ?_⟩ | fail)
        exact h1 S2 (ScX.f7 (F1.tr F2))
    · rw [if_pos (Or.inr (Int32.not_le.mp (by assumption)))] at h1
      refine X4_ref H (ScX.rf) (k := 2) (by omega) (by omega) (by decide) (fun S' hS' => ?_)
      repeat' (first | (refine Rules.st H okX4_bothLong [] ?_; conv => whnf) | refine br_t (by first | decide | assumption) ?_ | refine br_f (by first | decide | assumption) ?_ | refine br_c (fun _ => ?_) (fun _ => ?_) | refine ⟨by decide, ?_⟩ | refine ⟨by first | assumption | (unfold vp_in; decide) | ((with_reducible (refine vp_in_nI ?_ ?_)) <;> omega), ?_⟩ | fail)
      exact h1 S' hS'
  · rw [if_neg (okR_neg hn8 hno)] at h1
    repeat' (first | (refine Rules.st H okX4_bothLong [] ?_; conv => whnf) | refine br_t (by first | decide | assumption) ?_ | refine br_f (by first | decide | assumption) ?_ | refine br_c (fun _ => ?_) (fun _ => ?_) | refine ⟨by decide, ?_⟩ | refine ⟨by first | assumption | (unfold vp_in; decide) | ((with_reducible (refine vp_in_nI ?_ ?_)) <;> omega), ?_⟩ | fail)
    refine X4_ref H (ScX.rf) (k := 1) (by omega) (by omega) (by decide) (fun S' hS' => ?_)
    repeat' (first | (refine Rules.st H okX4_bothLong [] ?_; conv => whnf) | refine br_t (by first | decide | assumption) ?_ | refine br_f (by first | decide | assumption) ?_ | refine br_c (fun _ => ?_) (fun _ => ?_) | refine ⟨by decide, ?_⟩ | refine ⟨by first | assumption | (unfold vp_in; decide) | ((with_reducible (refine vp_in_nI ?_ ?_)) <;> omega), ?_⟩ | fail)
    exact h1 S' hS'
/-- the class between calls, with its row of q numbers -/
def XR (S : Mem) (row : Nat → Int32) (q : Nat) : Prop := q ≤ 16 ∧ S 0 6 = nI q ∧ ∀ j, j < 16 → S 21 j = row j
def F_round (K : Mem) (n : Nat) (row : Nat → Int32) (q : Nat) (m w : Int32) : Ans :=
  if okM m then if w < 0 ∨ 2 < w then (2, -2) else (0, if w = 0 then rowK n (ix m) row q 0 K 5 (ix m) - K 5 (ix m) else if w = 1 then rowK n (ix m) row q 0 K 0 1 &&& (K 0 1 ^^^ (-1)) else rowK n (ix m) row q 0 K 0 4) else (1, -1)
set_option maxRecDepth 100000 in
theorem X4_round (H : Rules C T) {S K : Mem} {n : Nat} (X : XK S K n) {row : Nat → Int32} {q : Nat} (XQ : XR S row q) {m w : Int32} {Q : Pst} (h1 : AnsX S (F_round K n row q m w) Q) : C mX4_round [.ref 0, .int m, .int w] S Q := by
  obtain ⟨R, hn, hn8, hz⟩ := X
  obtain ⟨hq, h6, hrow⟩ := XQ
  unfold F_round at h1
  refine Rules.go H (by decide) (Nat.le_of_ble_eq_true rfl) ?_
  repeat' (first | (refine Rules.st H okX4_round [] ?_; conv => whnf) | refine br_t (by first | decide | assumption) ?_ | refine br_f (by first | decide | assumption) ?_ | refine br_c (fun _ => ?_) (fun _ => ?_) | refine ⟨by decide, ?_⟩ | refine ⟨by first | assumption | (unfold vp_in; decide) | ((with_reducible (refine vp_in_nI ?_ ?_)) <;> omega), ?_⟩ | fail)
  refine X1_hasMaid H (fun i hi e => ?_) (fun hno => ?_)
  · subst e
    rw [show ix (nI i) = i from nIc (by omega), if_pos (okM_nI hi)] at h1
    repeat' (first | (refine Rules.st H okX4_round [] ?_; conv => whnf) | refine br_t (by first | decide | assumption) ?_ | refine br_f (by first | decide | assumption) ?_ | refine br_c (fun _ => ?_) (fun _ => ?_) | refine ⟨by decide, ?_⟩ | refine ⟨by first | assumption | (unfold vp_in; decide) | ((with_reducible (refine vp_in_nI ?_ ?_)) <;> omega), ?_⟩ | fail)
    · rw [if_pos (Or.inl (by assumption))] at h1
      refine X4_ref H (ScX.rf) (k := 2) (by omega) (by omega) (by decide) (fun S' hS' => ?_)
      repeat' (first | (refine Rules.st H okX4_round [] ?_; conv => whnf) | refine br_t (by first | decide | assumption) ?_ | refine br_f (by first | decide | assumption) ?_ | refine br_c (fun _ => ?_) (fun _ => ?_) | refine ⟨by decide, ?_⟩ | refine ⟨by first | assumption | (unfold vp_in; decide) | ((with_reducible (refine vp_in_nI ?_ ?_)) <;> omega), ?_⟩ | fail)
      exact h1 S' hS'
    · rw [if_neg (fun z => z.elim (by assumption) (Int32.not_lt.mpr (by assumption)))] at h1
      refine X4_thinkRow H hn8 hi hq h6 hrow R hz hn (fun S1 R1 F1 => ?_)
      have R0 := R.fr F1 (by omega)
      repeat' (first | (refine Rules.st H okX4_round [] ?_; conv => whnf) | refine br_t (by first | decide | assumption) ?_ | refine br_f (by first | decide | assumption) ?_ | refine br_c (fun _ => ?_) (fun _ => ?_) | refine ⟨by decide, ?_⟩ | refine ⟨by first | assumption | (unfold vp_in; decide) | ((with_reducible (refine vp_in_nI ?_ ?_)) <;> omega), ?_⟩ | fail)
      · rw [if_pos (by assumption)] at h1
        refine X4_thoughtMinutes H R0 R1 hi ?_
        repeat' (first | (refine Rules.st H okX4_round [] ?_; conv => whnf) | refine br_t (by first | decide | assumption) ?_ | refine br_f (by first | decide | assumption) ?_ | refine br_c (fun _ => ?_) (fun _ => ?_) | refine ⟨by decide, ?_⟩ | refine ⟨by first | assumption | (unfold vp_in; decide) | ((with_reducible (refine vp_in_nI ?_ ?_)) <;> omega), ?_⟩ | fail)
        exact h1 S1 (ScX.f7 F1)
      · rw [if_neg (by assumption), if_pos (by assumption)] at h1
        refine X1_doneBits H (Or.inr (Or.inl rfl)) R1 ?_
        repeat' (first | (refine Rules.st H okX4_round [] ?_; conv => whnf) | refine br_t (by first | decide | assumption) ?_ | refine br_f (by first | decide | assumption) ?_ | refine br_c (fun _ => ?_) (fun _ => ?_) | refine ⟨by decide, ?_⟩ | refine ⟨by first | assumption | (unfold vp_in; decide) | ((with_reducible (refine vp_in_nI ?_ ?_)) <;> omega), ?_⟩ | fail)
        refine X1_doneBits H (Or.inl rfl) R0 ?_
        repeat' (first | (refine Rules.st H okX4_round [] ?_; conv => whnf) | refine br_t (by first | decide | assumption) ?_ | refine br_f (by first | decide | assumption) ?_ | refine br_c (fun _ => ?_) (fun _ => ?_) | refine ⟨by decide, ?_⟩ | refine ⟨by first | assumption | (unfold vp_in; decide) | ((with_reducible (refine vp_in_nI ?_ ?_)) <;> omega), ?_⟩ | fail)
        exact h1 S1 (ScX.f7 F1)
      · rw [if_neg (by assumption), if_neg (by assumption)] at h1
        refine X1_timesDown H (Or.inr (Or.inl rfl)) R1 ?_
        repeat' (first | (refine Rules.st H okX4_round [] ?_; conv => whnf) | refine br_t (by first | decide | assumption) ?_ | refine br_f (by first | decide | assumption) ?_ | refine br_c (fun _ => ?_) (fun _ => ?_) | refine ⟨by decide, ?_⟩ | refine ⟨by first | assumption | (unfold vp_in; decide) | ((with_reducible (refine vp_in_nI ?_ ?_)) <;> omega), ?_⟩ | fail)
        exact h1 S1 (ScX.f7 F1)
    · rw [if_pos (Or.inr (Int32.not_le.mp (by assumption)))] at h1
      refine X4_ref H (ScX.rf) (k := 2) (by omega) (by omega) (by decide) (fun S' hS' => ?_)
      repeat' (first | (refine Rules.st H okX4_round [] ?_; conv => whnf) | refine br_t (by first | decide | assumption) ?_ | refine br_f (by first | decide | assumption) ?_ | refine br_c (fun _ => ?_) (fun _ => ?_) | refine ⟨by decide, ?_⟩ | refine ⟨by first | assumption | (unfold vp_in; decide) | ((with_reducible (refine vp_in_nI ?_ ?_)) <;> omega), ?_⟩ | fail)
      exact h1 S' hS'
  · rw [if_neg (okM_neg hno)] at h1
    repeat' (first | (refine Rules.st H okX4_round [] ?_; conv => whnf) | refine br_t (by first | decide | assumption) ?_ | refine br_f (by first | decide | assumption) ?_ | refine br_c (fun _ => ?_) (fun _ => ?_) | refine ⟨by decide, ?_⟩ | refine ⟨by first | assumption | (unfold vp_in; decide) | ((with_reducible (refine vp_in_nI ?_ ?_)) <;> omega), ?_⟩ | fail)
    refine X4_ref H (ScX.rf) (k := 1) (by omega) (by omega) (by decide) (fun S' hS' => ?_)
    repeat' (first | (refine Rules.st H okX4_round [] ?_; conv => whnf) | refine br_t (by first | decide | assumption) ?_ | refine br_f (by first | decide | assumption) ?_ | refine br_c (fun _ => ?_) (fun _ => ?_) | refine ⟨by decide, ?_⟩ | refine ⟨by first | assumption | (unfold vp_in; decide) | ((with_reducible (refine vp_in_nI ?_ ?_)) <;> omega), ?_⟩ | fail)
    exact h1 S' hS'
/-- the first of the least: what it is, and by how much -/
abbrev Pck : Type := Option (Nat × Int32)
def pick (b : Pck) (i : Nat) (ok : Bool) (v : Int32) : Pck := match b with
  | none => if ok = true then some (i, v) else none
  | some (j, f) => if ok = true ∧ v < f then some (i, v) else some (j, f)
def pkA (b : Pck) : Int32 := match b with
  | none => -9
  | some (j, _) => nI j
def pkF (d : Int32) (b : Pck) : Int32 := match b with
  | none => d
  | some (_, f) => f
def pkOK (b : Pck) (n : Nat) : Prop := ∀ j f, b = some (j, f) → j < n
set_option maxRecDepth 100000 in
theorem pick_ok {b : Pck} {i n : Nat} {ok : Bool} {v : Int32} (h : pkOK b n) (hi : i < n) : pkOK (pick b i ok v) n := by
  intro j f e
  unfold pick at e
  split at e
  · split at e
    · cases e; exact hi
    · cases e
  · split at e
    · cases e; exact hi
    · cases e; exact h _ _ rfl
def nearK (K : Mem) (m : Nat) : Nat → Nat → Pck → Pck
  | 0, _, b => b
  | k + 1, i, b => nearK K m k (i + 1) (pick b i (decide ((visitK K m i).1 = 3)) ((visitK K m i).2 5 m - K 5 m))
set_option maxRecDepth 100000 in
theorem nI_n9 : ∀ j, j < 64 → ¬ nI j = -9 := by decide +kernel
set_option maxRecDepth 100000 in
theorem X4_nearest_l (H : Rules C T) {K : Mem} {n m : Nat} (hm : m < 2) {Q : Pst} : ∀ (k i : Nat) (b : Pck) (S : Mem) (x y : Option Value), i + k = n → XK S K n → pkOK b 8 → (∀ S', Fr 7 12 S S' → Q (some (.int (pkA (nearK K m k i b)))) S') → T mX4_nearest Q 25 [some (.ref 0), some (.int (nI m)), some (.int (pkA b)), some (.int (pkF 0 b)), some (.int (nI i)), x, y] [] S := by
  intro k
  induction k with
  | zero =>
    intro i b S x y hi X hb h1
    obtain ⟨R, hn, hn8, hz⟩ := X
    have hge : nI n ≤ nI i := nI_le (by omega) (by omega)
    skip
    repeat' (first | (refine Rules.st H okX4_nearest [25] ?_; conv => whnf) | refine br_t (by first | decide | assumption) ?_ | refine br_f (by first | decide | assumption) ?_ | refine br_c (fun _ => ?_) (fun _ => ?_) | refine ⟨by decide, ?_⟩ | refine ⟨by first | assumption | (unfold vp_in; decide) | ((with_reducible (refine vp_in_nI ?_ ?_)) <;> omega), ?_⟩ | fail)
    refine X1_rooms H (Or.inl rfl) R ?_
    rw [hn]
    repeat' (first | (refine Rules.st H okX4_nearest [25] ?_; conv => whnf) | refine br_t (by first | decide | assumption) ?_ | refine br_f (by first | decide | assumption) ?_ | refine br_c (fun _ => ?_) (fun _ => ?_) | refine ⟨by decide, ?_⟩ | refine ⟨by first | assumption | (unfold vp_in; decide) | ((with_reducible (refine vp_in_nI ?_ ?_)) <;> omega), ?_⟩ | fail)
    exact h1 S Fr.rf
  | succ k ih =>
    intro i b S x y hi X hb h1
    obtain ⟨R, hn, hn8, hz⟩ := X
    have hge : ¬ nI n ≤ nI i := nI_ge (by omega) (by omega)
    unfold nearK at h1
    skip
    repeat' (first | (refine Rules.st H okX4_nearest [25] ?_; conv => whnf) | refine br_t (by first | decide | assumption) ?_ | refine br_f (by first | decide | assumption) ?_ | refine br_c (fun _ => ?_) (fun _ => ?_) | refine ⟨by decide, ?_⟩ | refine ⟨by first | assumption | (unfold vp_in; decide) | ((with_reducible (refine vp_in_nI ?_ ?_)) <;> omega), ?_⟩ | fail)
    refine X1_rooms H (Or.inl rfl) R ?_
    rw [hn]
    repeat' (first | (refine Rules.st H okX4_nearest [25] ?_; conv => whnf) | refine br_t (by first | decide | assumption) ?_ | refine br_f (by first | decide | assumption) ?_ | refine br_c (fun _ => ?_) (fun _ => ?_) | refine ⟨by decide, ?_⟩ | refine ⟨by first | assumption | (unfold vp_in; decide) | ((with_reducible (refine vp_in_nI ?_ ?_)) <;> omega), ?_⟩ | fail)
    refine X4_think H R hz (fun S1 R1 F1 => ?_)
    repeat' (first | (refine Rules.st H okX4_nearest [25] ?_; conv => whnf) | refine br_t (by first | decide | assumption) ?_ | refine br_f (by first | decide | assumption) ?_ | refine br_c (fun _ => ?_) (fun _ => ?_) | refine ⟨by decide, ?_⟩ | refine ⟨by first | assumption | (unfold vp_in; decide) | ((with_reducible (refine vp_in_nI ?_ ?_)) <;> omega), ?_⟩ | fail)
    refine X1_visitBy H (Or.inr (Or.inl rfl)) R1 hm (by omega) (fun S2 R2 F2 => ?_)
    have R0 := R.fr (F1.tr F2) (by omega)
    have nx : ∀ (b' : Pck) (y1 y2 : Int32), pick b i (decide ((visitK K m i).1 = 3)) ((visitK K m i).2 5 m - K 5 m) = b' → Halt (T mX4_nearest Q 25 [some (.ref 0), some (.int (nI m)), some (.int (pkA b')), some (.int (pkF 0 b')), some (.int (nI i + 1)), some (.int y1), some (.int y2)] [] S2) := fun b' y1 y2 e => Halt.mk (by
      rw [nI_1]
      exact ih (i + 1) b' S2 _ _ (by omega) ⟨R0, hn, hn8, hz⟩ (by rw [← e]; exact pick_ok hb (by omega)) (fun S' F' => by rw [← e]; exact h1 S' ((F1.tr F2).tr F')))
    by_cases h3 : (visitK K m i).1 = 3
    · cases b with
      | none =>
        repeat' (first | (refine Rules.st H okX4_nearest [25] ?_; conv => whnf) | refine br_t (by first | decide | assumption) ?_ | refine br_f (by first | decide | assumption) ?_ | refine br_c (fun _ => ?_) (fun _ => ?_) | refine ⟨by decide, ?_⟩ | refine ⟨by first | assumption | (unfold vp_in; decide) | ((with_reducible (refine vp_in_nI ?_ ?_)) <;> omega), ?_⟩ | fail)
        refine X4_thoughtMinutes H R0 R2 hm ?_
        repeat' (first | (refine Rules.st H okX4_nearest [25] ?_; conv => whnf) | refine br_t (by first | decide | assumption) ?_ | refine br_f (by first | decide | assumption) ?_ | refine br_c (fun _ => ?_) (fun _ => ?_) | refine ⟨by decide, ?_⟩ | refine ⟨by first | assumption | (unfold vp_in; decide) | ((with_reducible (refine vp_in_nI ?_ ?_)) <;> omega), ?_⟩ | fail)
        exact nx (some (i, _)) _ _ (by simp [pick, h3])
      | some b =>
        obtain ⟨j, f⟩ := b
        have hj : ¬ pkA (some (j, f)) = -9 := nI_n9 j (by have := hb j f rfl; omega)
        repeat' (first | (refine Rules.st H okX4_nearest [25] ?_; conv => whnf) | refine br_t (by first | decide | assumption) ?_ | refine br_f (by first | decide | assumption) ?_ | refine br_c (fun _ => ?_) (fun _ => ?_) | refine ⟨by decide, ?_⟩ | refine ⟨by first | assumption | (unfold vp_in; decide) | ((with_reducible (refine vp_in_nI ?_ ?_)) <;> omega), ?_⟩ | fail)
        refine X4_thoughtMinutes H R0 R2 hm ?_
        repeat' (first | (refine Rules.st H okX4_nearest [25] ?_; conv => whnf) | refine br_t (by first | decide | assumption) ?_ | refine br_f (by first | decide | assumption) ?_ | refine br_c (fun _ => ?_) (fun _ => ?_) | refine ⟨by decide, ?_⟩ | refine ⟨by first | assumption | (unfold vp_in; decide) | ((with_reducible (refine vp_in_nI ?_ ?_)) <;> omega), ?_⟩ | fail)
        · exact nx (some (j, f)) _ _ (if_neg (fun z => absurd z.2 (Int32.not_lt.mpr (by assumption))))
        · exact nx (some (i, _)) _ _ (if_pos ⟨by simp [h3], Int32.not_le.mp (by assumption)⟩)
    · repeat' (first | (refine Rules.st H okX4_nearest [25] ?_; conv => whnf) | refine br_t (by first | decide | assumption) ?_ | refine br_f (by first | decide | assumption) ?_ | refine br_c (fun _ => ?_) (fun _ => ?_) | refine ⟨by decide, ?_⟩ | refine ⟨by first | assumption | (unfold vp_in; decide) | ((with_reducible (refine vp_in_nI ?_ ?_)) <;> omega), ?_⟩ | fail)
      refine X4_thoughtMinutes H R0 R2 hm ?_
      repeat' (first | (refine Rules.st H okX4_nearest [25] ?_; conv => whnf) | refine br_t (by first | decide | assumption) ?_ | refine br_f (by first | decide | assumption) ?_ | refine br_c (fun _ => ?_) (fun _ => ?_) | refine ⟨by decide, ?_⟩ | refine ⟨by first | assumption | (unfold vp_in; decide) | ((with_reducible (refine vp_in_nI ?_ ?_)) <;> omega), ?_⟩ | fail)
      exact nx b _ _ (by cases b <;> simp [pick, h3])
def F_nearest (K : Mem) (n : Nat) (m : Int32) : Ans := if okM m then (0, pkA (nearK K (ix m) n 0 none)) else (1, -1)
set_option maxRecDepth 100000 in
theorem X4_nearest (H : Rules C T) {S K : Mem} {n : Nat} (X : XK S K n) {m : Int32} {Q : Pst} (h1 : AnsX S (F_nearest K n m) Q) : C mX4_nearest [.ref 0, .int m] S Q := by
  have X0 := X
  obtain ⟨R, hn, hn8, hz⟩ := X
  unfold F_nearest at h1
  refine Rules.go H (by decide) (Nat.le_of_ble_eq_true rfl) ?_
  repeat' (first | (refine Rules.st H okX4_nearest [25] ?_; conv => whnf) | refine br_t (by first | decide | assumption) ?_ | refine br_f (by first | decide | assumption) ?_ | refine br_c (fun _ => ?_) (fun _ => ?_) | refine ⟨by decide, ?_⟩ | refine ⟨by first | assumption | (unfold vp_in; decide) | ((with_reducible (refine vp_in_nI ?_ ?_)) <;> omega), ?_⟩ | fail)
  refine X1_hasMaid H (fun i hi e => ?_) (fun hno => ?_)
  · subst e
    rw [show ix (nI i) = i from nIc (by omega), if_pos (okM_nI hi)] at h1
    repeat' (first | (refine Rules.st H okX4_nearest [25] ?_; conv => whnf) | refine br_t (by first | decide | assumption) ?_ | refine br_f (by first | decide | assumption) ?_ | refine br_c (fun _ => ?_) (fun _ => ?_) | refine ⟨by decide, ?_⟩ | refine ⟨by first | assumption | (unfold vp_in; decide) | ((with_reducible (refine vp_in_nI ?_ ?_)) <;> omega), ?_⟩ | fail)
    exact Halt.mk (X4_nearest_l H hi n 0 none S none none (by omega) X0 (fun _ _ z => by cases z) (fun S' F' => h1 S' (ScX.f7 F')))
  · rw [if_neg (okM_neg hno)] at h1
    repeat' (first | (refine Rules.st H okX4_nearest [25] ?_; conv => whnf) | refine br_t (by first | decide | assumption) ?_ | refine br_f (by first | decide | assumption) ?_ | refine br_c (fun _ => ?_) (fun _ => ?_) | refine ⟨by decide, ?_⟩ | refine ⟨by first | assumption | (unfold vp_in; decide) | ((with_reducible (refine vp_in_nI ?_ ?_)) <;> omega), ?_⟩ | fail)
    refine X4_ref H (ScX.rf) (k := 1) (by omega) (by omega) (by decide) (fun S' hS' => ?_)
    repeat' (first | (refine Rules.st H okX4_nearest [25] ?_; conv => whnf) | refine br_t (by first | decide | assumption) ?_ | refine br_f (by first | decide | assumption) ?_ | refine br_c (fun _ => ?_) (fun _ => ?_) | refine ⟨by decide, ?_⟩ | refine ⟨by first | assumption | (unfold vp_in; decide) | ((with_reducible (refine vp_in_nI ?_ ?_)) <;> omega), ?_⟩ | fail)
    exact h1 S' hS'
end X6
