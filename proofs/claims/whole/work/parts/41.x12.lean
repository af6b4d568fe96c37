section X12
variable {C : Cst} {T : Nat → Pst → Nat → Lcs → List Value → Mem → Prop}
/-! ## orders: s is a row of places into the list ls of told rooms -/
def gN (s : List Nat) (i : Nat) : Nat := s.getD i 0
def swL (s : List Nat) (i j : Nat) : List Nat := (s.set i (gN s j)).set j (gN s i)
def fI (s : List Nat) : Nat → Option Nat
  | 0 => none
  | k + 1 => if gN s (k + 1) < gN s k then fI s k else some k
def fJ (s : List Nat) (i : Nat) : Nat → Nat
  | 0 => 0
  | j + 1 => if i < j + 1 ∧ gN s (j + 1) < gN s i then fJ s i j else j + 1
def rvL : Nat → List Nat → Nat → Nat → List Nat
  | 0, s, _, _ => s
  | f + 1, s, a, b => if a < b then rvL f (swL s a b) (a + 1) (b - 1) else s
def npL (s : List Nat) : Option (List Nat) := match fI s (s.length - 1) with
  | none => none
  | some i => some (rvL 5 (swL s i (fJ s i (s.length - 1))) (i + 1) (s.length - 1))
/-- the path in memory is the list's rooms in the order s -/
def RepP (S : Mem) (ls s : List Nat) : Prop := ∀ j, j < s.length → S 23 j = nI (gN ls (gN s j))
def okL (ls s : List Nat) (l : Nat) : Prop := l ≤ 5 ∧ s.length = l ∧ (∀ j, j < l → gN s j < l) ∧ (∀ a b, a < b → b < l → gN ls a < gN ls b) ∧ ∀ a, a < l → gN ls a < 8
set_option maxRecDepth 100000 in
theorem gN_set {s : List Nat} {i x j : Nat} : gN (s.set i x) j = if i = j ∧ i < s.length then x else gN s j := by
  unfold gN
  rw [List.getD_eq_getElem?_getD, List.getD_eq_getElem?_getD, List.getElem?_set]
  by_cases h1 : i = j
  · subst h1
    by_cases h2 : i < s.length
    · simp [h2]
    · simp [h2]
  · simp [h1]
set_option maxRecDepth 100000 in
theorem okL.cmp {ls s : List Nat} {l : Nat} (h : okL ls s l) {a b : Nat} (ha : a < l) (hb : b < l) : nI (gN ls (gN s a)) < nI (gN ls (gN s b)) ↔ gN s a < gN s b := by
  obtain ⟨h1, h2, h3, h4, h5⟩ := h
  have ga := h5 _ (h3 a ha)
  have gb := h5 _ (h3 b hb)
  rw [nI_ltI (by omega) (by omega)]
  constructor
  · intro g
    rcases Nat.lt_or_ge (gN s a) (gN s b) with q | q
    · exact q
    · rcases Nat.lt_or_eq_of_le q with q | q
      · have := h4 _ _ q (h3 a ha); omega
      · rw [q] at g; omega
  · intro g
    exact h4 _ _ g (h3 b hb)
set_option maxRecDepth 100000 in
theorem okL.sw {ls s : List Nat} {l : Nat} (h : okL ls s l) {a b : Nat} (ha : a < l) (hb : b < l) : okL ls (swL s a b) l := by
  obtain ⟨h1, h2, h3, h4, h5⟩ := h
  refine ⟨h1, by simp [swL, h2], fun j hj => ?_, h4, h5⟩
  unfold swL
  rw [gN_set, gN_set]
  split
  · exact h3 a ha
  · split
    · exact h3 b hb
    · exact h3 j hj
set_option maxRecDepth 100000 in
theorem RepP.sw {S : Mem} {ls s : List Nat} {l : Nat} (R : RepP S ls s) (h : okL ls s l) {a b : Nat} (ha : a < l) (hb : b < l) : RepP (up (up S 23 a (S 23 b)) 23 b (S 23 a)) ls (swL s a b) := by
  intro j hj
  have hl : s.length = l := h.2.1
  have hj' : j < l := by simpa [swL, hl] using hj
  unfold swL
  rw [gN_set, gN_set]
  simp only [List.length_set]
  by_cases h1 : j = b
  · subst h1
    rw [up_at, if_pos ⟨rfl, by omega⟩]
    exact R a (by omega)
  · rw [up_j h1, if_neg (fun z => h1 z.1.symm)]
    by_cases h2 : j = a
    · subst h2
      rw [up_at, if_pos ⟨rfl, by omega⟩]
      exact R b (by omega)
    · rw [up_j h2, if_neg (fun z => h2 z.1.symm)]
      exact R j (by omega)
set_option maxRecDepth 100000 in
theorem RepP.scr {S S' : Mem} {ls s : List Nat} (R : RepP S ls s) (h : ∀ j, S' 23 j = S 23 j) : RepP S' ls s := fun j hj => by rw [h j]; exact R j hj
set_option maxRecDepth 100000 in
theorem nI_m1 (k : Nat) : nI (k + 1) - 1 = nI k := nI_pred k
set_option maxRecDepth 100000 in
theorem nI_m2 (k : Nat) : nI (k + 1) - 1 + (-1) = nI k - 1 := by
  rw [nI_pred, Int32.sub_eq_add_neg]
/- turning the tail about -/
set_option maxRecDepth 100000 in
theorem X4_nextPath_c (H : Rules C T) {ls : List Nat} {l i j0 : Nat} {Q : Pst} {S0 : Mem} : ∀ (f : Nat) (s : List Nat) (a b : Nat) (S : Mem), okL ls s l → RepP S ls s → Fr 23 23 S0 S → b < l → a ≤ 5 → b < a + 2 * f → (∀ S', RepP S' ls (rvL f s a b) → Fr 23 23 S0 S' → Q (some (.int 1)) S') → T mX4_nextPath Q 82 [some (.ref 0), some (.int (nI l)), some (.int (nI i)), some (.int (nI j0)), some (.int (nI b)), some (.int (nI a))] [] S := by
  intro f
  induction f with
  | zero =>
    intro s a b S hk R F hb ha hf h1
    have hge : nI b ≤ nI a := nI_le (by omega) (by have := hk.1; omega)
    skip
    repeat' (first | (refine Rules.st H okX4_nextPath [82] ?_; conv => whnf) | refine br_t (by first | decide | assumption) ?_ | refine br_f (by first | decide | assumption) ?_ | refine br_c (fun _ => ?_) (fun _ => ?_) | refine ⟨by decide, ?_⟩ | refine ⟨by first | assumption | (unfold vp_in; decide) | ((with_reducible (refine vp_in_nI ?_ ?_)) <;> omega), ?_⟩ | fail)
    exact h1 S R F
  | succ f ih =>
    intro s a b S hk R F hb ha hf h1
    have hl5 := hk.1
    unfold rvL at h1
    by_cases hab : a < b
    · have hge : ¬ nI b ≤ nI a := nI_ge hab (by omega)
      rw [if_pos hab] at h1
      skip
      repeat' (first | (refine Rules.st H okX4_nextPath [82] ?_; conv => whnf) | refine br_t (by first | decide | assumption) ?_ | refine br_f (by first | decide | assumption) ?_ | refine br_c (fun _ => ?_) (fun _ => ?_) | refine ⟨by decide, ?_⟩ | refine ⟨by first | assumption | (unfold vp_in; decide) | ((with_reducible (refine vp_in_nI ?_ ?_)) <;> omega), ?_⟩ | fail)
      refine X4_exchange H (a := 23) (ln := 5) (Or.inr ⟨rfl, rfl⟩) (by omega) (by omega) ?_
      repeat' (first | (refine Rules.st H okX4_nextPath [82] ?_; conv => whnf) | refine br_t (by first | decide | assumption) ?_ | refine br_f (by first | decide | assumption) ?_ | refine br_c (fun _ => ?_) (fun _ => ?_) | refine ⟨by decide, ?_⟩ | refine ⟨by first | assumption | (unfold vp_in; decide) | ((with_reducible (refine vp_in_nI ?_ ?_)) <;> omega), ?_⟩ | fail)
      refine Halt.mk ?_
      show T mX4_nextPath Q 82 [some (.ref 0), some (.int (nI l)), some (.int (nI i)), some (.int (nI j0)), some (.int (nI b + (-1))), some (.int (nI a + 1))] [] _
      rw [nI_1, show nI b + (-1) = nI (b - 1) by
        rw [show b = (b - 1) + 1 by omega, ← Int32.sub_eq_add_neg, nI_pred]; rfl]
      exact ih (swL s a b) (a + 1) (b - 1) _ (hk.sw (by omega) (by omega)) (R.sw hk (by omega) (by omega)) ((F.tr (Fr.put (by omega) (by omega))).tr (Fr.put (by omega) (by omega))) (by omega) (by omega) (by omega) h1
    · have hge : nI b ≤ nI a := nI_le (by omega) (by omega)
      rw [if_neg hab] at h1
      skip
      repeat' (first | (refine Rules.st H okX4_nextPath [82] ?_; conv => whnf) | refine br_t (by first | decide | assumption) ?_ | refine br_f (by first | decide | assumption) ?_ | refine br_c (fun _ => ?_) (fun _ => ?_) | refine ⟨by decide, ?_⟩ | refine ⟨by first | assumption | (unfold vp_in; decide) | ((with_reducible (refine vp_in_nI ?_ ?_)) <;> omega), ?_⟩ | fail)
      exact h1 S R F
/- the later place -/
set_option maxRecDepth 100000 in
theorem X4_nextPath_b (H : Rules C T) {ls s : List Nat} {l i : Nat} (hk : okL ls s l) (hi : i < l) {Q : Pst} {S : Mem} (R : RepP S ls s) (h1 : ∀ S', RepP S' ls (rvL 5 (swL s i (fJ s i (l - 1))) (i + 1) (l - 1)) → Fr 23 23 S S' → Q (some (.int 1)) S') : ∀ (j : Nat) (x y : Option Value), j < l → fJ s i (l - 1) = fJ s i j → T mX4_nextPath Q 39 [some (.ref 0), some (.int (nI l)), some (.int (nI i)), some (.int (nI j)), x, y] [] S := by
  have hl5 := hk.1
  have go : ∀ j x y, j < l → fJ s i (l - 1) = j → (nI j ≤ nI i ∨ ¬ S 23 j < S 23 i) → T mX4_nextPath Q 39 [some (.ref 0), some (.int (nI l)), some (.int (nI i)), some (.int (nI j)), x, y] [] S := by
    intro j x y hj e hc
    rw [e] at h1
    have fin : T mX4_nextPath Q 63 [some (.ref 0), some (.int (nI l)), some (.int (nI i)), some (.int (nI j)), x, y] [] S := by
      skip
      repeat' (first | (refine Rules.st H okX4_nextPath [82] ?_; conv => whnf) | refine br_t (by first | decide | assumption) ?_ | refine br_f (by first | decide | assumption) ?_ | refine br_c (fun _ => ?_) (fun _ => ?_) | refine ⟨by decide, ?_⟩ | refine ⟨by first | assumption | (unfold vp_in; decide) | ((with_reducible (refine vp_in_nI ?_ ?_)) <;> omega), ?_⟩ | fail)
      refine X4_exchange H (a := 23) (ln := 5) (Or.inr ⟨rfl, rfl⟩) (by omega) (by omega) ?_
      repeat' (first | (refine Rules.st H okX4_nextPath [82] ?_; conv => whnf) | refine br_t (by first | decide | assumption) ?_ | refine br_f (by first | decide | assumption) ?_ | refine br_c (fun _ => ?_) (fun _ => ?_) | refine ⟨by decide, ?_⟩ | refine ⟨by first | assumption | (unfold vp_in; decide) | ((with_reducible (refine vp_in_nI ?_ ?_)) <;> omega), ?_⟩ | fail)
      refine Halt.mk ?_
      show T mX4_nextPath Q 82 [some (.ref 0), some (.int (nI l)), some (.int (nI i)), some (.int (nI j)), some (.int (nI l - 1)), some (.int (nI i + 1))] [] _
      rw [nI_1, show nI l - 1 = nI (l - 1) by rw [show l = (l - 1) + 1 by omega, nI_pred]; rfl]
      exact X4_nextPath_c H 5 _ (i + 1) (l - 1) _ (hk.sw hi hj) (R.sw hk hi hj) ((Fr.put (by omega) (by omega)).tr (Fr.put (by omega) (by omega))) (by omega) (by omega) (by omega) h1
    by_cases h0 : nI j ≤ nI i
    · skip
      repeat' (first | (refine Rules.st H okX4_nextPath [63] ?_; conv => whnf) | refine br_t (by first | decide | assumption) ?_ | refine br_f (by first | decide | assumption) ?_ | refine br_c (fun _ => ?_) (fun _ => ?_) | refine ⟨by decide, ?_⟩ | refine ⟨by first | assumption | (unfold vp_in; decide) | ((with_reducible (refine vp_in_nI ?_ ?_)) <;> omega), ?_⟩ | fail)
      exact Halt.mk fin
    · have h2 : ¬ S 23 j < S 23 i := hc.resolve_left h0
      have h3 : S 23 i ≤ S 23 j := Int32.not_lt.mp h2
      skip
      repeat' (first | (refine Rules.st H okX4_nextPath [63] ?_; conv => whnf) | refine br_t (by first | decide | assumption) ?_ | refine br_f (by first | decide | assumption) ?_ | refine br_c (fun _ => ?_) (fun _ => ?_) | refine ⟨by decide, ?_⟩ | refine ⟨by first | assumption | (unfold vp_in; decide) | ((with_reducible (refine vp_in_nI ?_ ?_)) <;> omega), ?_⟩ | fail)
      refine X4_pathAt H (by omega) ?_
      repeat' (first | (refine Rules.st H okX4_nextPath [63] ?_; conv => whnf) | refine br_t (by first | decide | assumption) ?_ | refine br_f (by first | decide | assumption) ?_ | refine br_c (fun _ => ?_) (fun _ => ?_) | refine ⟨by decide, ?_⟩ | refine ⟨by first | assumption | (unfold vp_in; decide) | ((with_reducible (refine vp_in_nI ?_ ?_)) <;> omega), ?_⟩ | fail)
      refine X4_pathAt H (by omega) ?_
      repeat' (first | (refine Rules.st H okX4_nextPath [63] ?_; conv => whnf) | refine br_t (by first | decide | assumption) ?_ | refine br_f (by first | decide | assumption) ?_ | refine br_c (fun _ => ?_) (fun _ => ?_) | refine ⟨by decide, ?_⟩ | refine ⟨by first | assumption | (unfold vp_in; decide) | ((with_reducible (refine vp_in_nI ?_ ?_)) <;> omega), ?_⟩ | fail)
      exact Halt.mk fin
  intro j
  induction j with
  | zero =>
    intro x y hj e
    exact go 0 x y hj e (Or.inl (nI_le (Nat.zero_le i) (by omega)))
  | succ j ih =>
    intro x y hj e
    rw [show fJ s i (j + 1) = if i < j + 1 ∧ gN s (j + 1) < gN s i then fJ s i j else j + 1 from rfl] at e
    by_cases hc : i < j + 1 ∧ gN s (j + 1) < gN s i
    · rw [if_pos hc] at e
      have c1 : ¬ nI (j + 1) ≤ nI i := nI_ge hc.1 (by omega)
      have c2 : ¬ S 23 i ≤ S 23 (j + 1) := by
        rw [R i (by rw [hk.2.1]; exact hi), R (j + 1) (by rw [hk.2.1]; exact hj)]
        exact Int32.not_le.mpr ((hk.cmp hj hi).mpr hc.2)
      skip
      repeat' (first | (refine Rules.st H okX4_nextPath [39] ?_; conv => whnf) | refine br_t (by first | decide | assumption) ?_ | refine br_f (by first | decide | assumption) ?_ | refine br_c (fun _ => ?_) (fun _ => ?_) | refine ⟨by decide, ?_⟩ | refine ⟨by first | assumption | (unfold vp_in; decide) | ((with_reducible (refine vp_in_nI ?_ ?_)) <;> omega), ?_⟩ | fail)
      refine X4_pathAt H (by omega) ?_
      repeat' (first | (refine Rules.st H okX4_nextPath [39] ?_; conv => whnf) | refine br_t (by first | decide | assumption) ?_ | refine br_f (by first | decide | assumption) ?_ | refine br_c (fun _ => ?_) (fun _ => ?_) | refine ⟨by decide, ?_⟩ | refine ⟨by first | assumption | (unfold vp_in; decide) | ((with_reducible (refine vp_in_nI ?_ ?_)) <;> omega), ?_⟩ | fail)
      refine X4_pathAt H (by omega) ?_
      repeat' (first | (refine Rules.st H okX4_nextPath [39] ?_; conv => whnf) | refine br_t (by first | decide | assumption) ?_ | refine br_f (by first | decide | assumption) ?_ | refine br_c (fun _ => ?_) (fun _ => ?_) | refine ⟨by decide, ?_⟩ | refine ⟨by first | assumption | (unfold vp_in; decide) | ((with_reducible (refine vp_in_nI ?_ ?_)) <;> omega), ?_⟩ | fail)
      refine Halt.mk ?_
      show T mX4_nextPath Q 39 [some (.ref 0), some (.int (nI l)), some (.int (nI i)), some (.int (nI (j + 1) + (-1))), x, y] [] _
      rw [← Int32.sub_eq_add_neg, nI_pred]
      exact ih x y (by omega) e
    · rw [if_neg hc] at e
      refine go (j + 1) x y hj e ?_
      by_cases h0 : i < j + 1
      · refine Or.inr ?_
        rw [R i (by rw [hk.2.1]; exact hi), R (j + 1) (by rw [hk.2.1]; exact hj)]
        exact fun z => hc ⟨h0, (hk.cmp hj hi).mp z⟩
      · exact Or.inl (nI_le (by omega) (by omega))
set_option maxRecDepth 100000 in
theorem X4_nextPath_a (H : Rules C T) {ls s : List Nat} {l : Nat} (hk : okL ls s l) (hl : 0 < l) {Q : Pst} {S : Mem} (R : RepP S ls s) (h0 : npL s = none → Q (some (.int 0)) S) (h1 : ∀ s', npL s = some s' → ∀ S', RepP S' ls s' → Fr 23 23 S S' → Q (some (.int 1)) S') : ∀ (k : Nat) (x y z : Option Value), k < l → fI s (l - 1) = fI s k → T mX4_nextPath Q 4 [some (.ref 0), some (.int (nI l)), some (.int (nI k - 1)), x, y, z] [] S := by
  have hl5 := hk.1
  have hlen := hk.2.1
  intro k
  induction k with
  | zero =>
    intro x y z hj e
    have c1 : nI 0 - 1 < 0 := by decide
    have c2 : ¬ 0 ≤ nI 0 - 1 := by decide
    have h0 := h0 (by unfold npL; rw [hlen, e]; rfl)
    skip
    repeat' (first | (refine Rules.st H okX4_nextPath [39] ?_; conv => whnf) | refine br_t (by first | decide | assumption) ?_ | refine br_f (by first | decide | assumption) ?_ | refine br_c (fun _ => ?_) (fun _ => ?_) | refine ⟨by decide, ?_⟩ | refine ⟨by first | assumption | (unfold vp_in; decide) | ((with_reducible (refine vp_in_nI ?_ ?_)) <;> omega), ?_⟩ | fail)
    exact h0
  | succ k ih =>
    intro x y z hj e
    have c1 : ¬ nI (k + 1) - 1 < 0 := by rw [nI_pred]; exact nI_pos (by omega)
    rw [show fI s (k + 1) = if gN s (k + 1) < gN s k then fI s k else some k from rfl] at e
    have Rk := R k (by omega)
    have Rk1 := R (k + 1) (by omega)
    have cm := hk.cmp (a := k + 1) (b := k) (by omega) (by omega)
    rw [← Rk, ← Rk1] at cm
    by_cases hc : gN s (k + 1) < gN s k
    · rw [if_pos hc] at e
      have c2 : ¬ S 23 k ≤ S 23 (k + 1) := Int32.not_le.mpr (cm.mpr hc)
      skip
      repeat' (first | (refine Rules.st H okX4_nextPath [4] ?_; conv => whnf) | refine br_t (by first | decide | assumption) ?_ | refine br_f (by first | decide | assumption) ?_ | refine br_c (fun _ => ?_) (fun _ => ?_) | refine ⟨by decide, ?_⟩ | refine ⟨by first | assumption | (unfold vp_in; decide) | ((with_reducible (refine vp_in_nI ?_ ?_)) <;> omega), ?_⟩ | fail)
      rw [nI_pred]
      refine X4_pathAt H (by omega) ?_
      repeat' (first | (refine Rules.st H okX4_nextPath [4] ?_; conv => whnf) | refine br_t (by first | decide | assumption) ?_ | refine br_f (by first | decide | assumption) ?_ | refine br_c (fun _ => ?_) (fun _ => ?_) | refine ⟨by decide, ?_⟩ | refine ⟨by first | assumption | (unfold vp_in; decide) | ((with_reducible (refine vp_in_nI ?_ ?_)) <;> omega), ?_⟩ | fail)
      rw [nI_1]
      refine X4_pathAt H (by omega) ?_
      repeat' (first | (refine Rules.st H okX4_nextPath [4] ?_; conv => whnf) | refine br_t (by first | decide | assumption) ?_ | refine br_f (by first | decide | assumption) ?_ | refine br_c (fun _ => ?_) (fun _ => ?_) | refine ⟨by decide, ?_⟩ | refine ⟨by first | assumption | (unfold vp_in; decide) | ((with_reducible (refine vp_in_nI ?_ ?_)) <;> omega), ?_⟩ | fail)
      refine Halt.mk ?_
      show T mX4_nextPath Q 4 [some (.ref 0), some (.int (nI l)), some (.int (nI k + (-1))), x, y, z] [] _
      rw [← Int32.sub_eq_add_neg]
      exact ih x y z (by omega) e
    · rw [if_neg hc] at e
      have c2 : S 23 k ≤ S 23 (k + 1) := Int32.not_lt.mp (fun q => hc (cm.mp q))
      have h1 := h1 _ (by unfold npL; rw [hlen, e])
      have key := X4_nextPath_b H (ls := ls) (s := s) (l := l) (i := k) hk (by omega) (Q := Q) R h1 (l - 1) y z (by omega) rfl
      have c3 : 0 ≤ nI k := nI_pos' (by omega)
      skip
      repeat' (first | (refine Rules.st H okX4_nextPath [39] ?_; conv => whnf) | refine br_t (by first | decide | assumption) ?_ | refine br_f (by first | decide | assumption) ?_ | refine br_c (fun _ => ?_) (fun _ => ?_) | refine ⟨by decide, ?_⟩ | refine ⟨by first | assumption | (unfold vp_in; decide) | ((with_reducible (refine vp_in_nI ?_ ?_)) <;> omega), ?_⟩ | fail)
      rw [nI_pred]
      refine X4_pathAt H (by omega) ?_
      repeat' (first | (refine Rules.st H okX4_nextPath [39] ?_; conv => whnf) | refine br_t (by first | decide | assumption) ?_ | refine br_f (by first | decide | assumption) ?_ | refine br_c (fun _ => ?_) (fun _ => ?_) | refine ⟨by decide, ?_⟩ | refine ⟨by first | assumption | (unfold vp_in; decide) | ((with_reducible (refine vp_in_nI ?_ ?_)) <;> omega), ?_⟩ | fail)
      rw [nI_1]
      refine X4_pathAt H (by omega) ?_
      repeat' (first | (refine Rules.st H okX4_nextPath [39] ?_; conv => whnf) | refine br_t (by first | decide | assumption) ?_ | refine br_f (by first | decide | assumption) ?_ | refine br_c (fun _ => ?_) (fun _ => ?_) | refine ⟨by decide, ?_⟩ | refine ⟨by first | assumption | (unfold vp_in; decide) | ((with_reducible (refine vp_in_nI ?_ ?_)) <;> omega), ?_⟩ | fail)
      refine Halt.mk ?_
      show T mX4_nextPath Q 39 [some (.ref 0), some (.int (nI l)), some (.int (nI k)), some (.int (nI l - 1)), y, z] [] _
      rw [show nI l - 1 = nI (l - 1) by rw [show l = (l - 1) + 1 by omega, nI_pred]; rfl]
      exact key
set_option maxRecDepth 100000 in
theorem X4_nextPath (H : Rules C T) {ls s : List Nat} {l : Nat} (hk : okL ls s l) {Q : Pst} {S : Mem} (R : RepP S ls s) (h0 : npL s = none → Q (some (.int 0)) S) (h1 : ∀ s', npL s = some s' → ∀ S', RepP S' ls s' → Fr 23 23 S S' → Q (some (.int 1)) S') : C mX4_nextPath [.ref 0, .int (nI l)] S Q := by
  have hl5 := hk.1
  by_cases hl : 0 < l
  · have key := X4_nextPath_a H hk hl R h0 h1 (l - 1) none none none (by omega) rfl
    rw [show nI (l - 1) - 1 = nI l - 2 by
      rw [show l = (l - 1) + 1 by omega, ← nI_1]
      show nI (l - 1) - 1 = nI (l - 1) + 1 - 2
      rw [Int32.sub_eq_add_neg, Int32.sub_eq_add_neg, Int32.add_assoc]
      rfl] at key
    refine Rules.go H (by decide) (Nat.le_of_ble_eq_true rfl) ?_
    repeat' (first | (refine Rules.st H okX4_nextPath [4] ?_; conv => whnf) | refine br_t (by first | decide | assumption) ?_ | refine br_f (by first | decide | assumption) ?_ | refine br_c (fun _ => ?_) (fun _ => ?_) | refine ⟨by decide, ?_⟩ | refine ⟨by first | assumption | (unfold vp_in; decide) | ((with_reducible (refine vp_in_nI ?_ ?_)) <;> omega), ?_⟩ | fail)
    exact Halt.mk key
  · have hl0 : l = 0 := by omega
    subst hl0
    have hs : s = [] := List.length_eq_zero_iff.mp hk.2.1
    have h0 := h0 (by rw [hs]; rfl)
    have c1 : nI 0 - 2 < 0 := by decide
    have c2 : ¬ 0 ≤ nI 0 - 2 := by decide
    refine Rules.go H (by decide) (Nat.le_of_ble_eq_true rfl) ?_
    repeat' (first | (refine Rules.st H okX4_nextPath [] ?_; conv => whnf) | refine br_t (by first | decide | assumption) ?_ | refine br_f (by first | decide | assumption) ?_ | refine br_c (fun _ => ?_) (fun _ => ?_) | refine ⟨by decide, ?_⟩ | refine ⟨by first | assumption | (unfold vp_in; decide) | ((with_reducible (refine vp_in_nI ?_ ?_)) <;> omega), ?_⟩ | fail)
    exact h0
end X12
