section X2
variable {C : Cst} {T : Nat → Pst → Nat → Lcs → List Value → Mem → Prop}
/-- the room not done with most work: (answer, most) -/
def mostK (K : Mem) : Nat → Nat → Int32 → Int32 → Int32
  | 0, _, a, _ => a
  | k + 1, i, a, w => if bt (K 0 1) i = 0 ∧ w < workK K i then mostK K k (i + 1) (nI i) (workK K i) else mostK K k (i + 1) a w
set_option maxRecDepth 100000 in
theorem X4_mostWork_l (H : Rules C T) {n : Nat} (hn8 : n ≤ 8) {S K : Mem} (R : RepC 1 S K) (hn : K 0 0 = nI n) {Q : Pst} : ∀ (k i : Nat) (a w : Int32), i + k = n → Q (some (.int (mostK K k i a w))) S → T mX4_mostWork Q 7 [some (.ref 0), some (.int a), some (.int w), some (.int (nI i))] [] S := by
  intro k
  induction k with
  | zero =>
    intro i a w hi h1
    have hge : nI n ≤ nI i := nI_le (by omega) (by omega)
    skip
    repeat' (first | (refine Rules.st H okX4_mostWork [7] ?_; conv => whnf) | refine br_t (by first | decide | assumption) ?_ | refine br_f (by first | decide | assumption) ?_ | refine br_c (fun _ => ?_) (fun _ => ?_) | refine ⟨by decide, ?_⟩ | refine ⟨by first | assumption | (unfold vp_in; decide) | ((with_reducible (refine vp_in_nI ?_ ?_)) <;> omega), ?_⟩ | fail)
    refine X1_rooms H (Or.inl rfl) R ?_
    rw [hn]
    repeat' (first | (refine Rules.st H okX4_mostWork [7] ?_; conv => whnf) | refine br_t (by first | decide | assumption) ?_ | refine br_f (by first | decide | assumption) ?_ | refine br_c (fun _ => ?_) (fun _ => ?_) | refine ⟨by decide, ?_⟩ | refine ⟨by first | assumption | (unfold vp_in; decide) | ((with_reducible (refine vp_in_nI ?_ ?_)) <;> omega), ?_⟩ | fail)
    exact h1
  | succ k ih =>
    intro i a w hi h1
    have hge : ¬ nI n ≤ nI i := nI_ge (by omega) (by omega)
    have nx : ∀ (a w : Int32), Q (some (.int (mostK K k (i + 1) a w))) S → Halt (T mX4_mostWork Q 7 [some (.ref 0), some (.int a), some (.int w), some (.int (nI i + 1))] [] S) := fun a w h => Halt.mk (by rw [nI_1]; exact ih (i + 1) a w (by omega) h)
    unfold mostK at h1
    skip
    repeat' (first | (refine Rules.st H okX4_mostWork [7] ?_; conv => whnf) | refine br_t (by first | decide | assumption) ?_ | refine br_f (by first | decide | assumption) ?_ | refine br_c (fun _ => ?_) (fun _ => ?_) | refine ⟨by decide, ?_⟩ | refine ⟨by first | assumption | (unfold vp_in; decide) | ((with_reducible (refine vp_in_nI ?_ ?_)) <;> omega), ?_⟩ | fail)
    refine X1_rooms H (Or.inl rfl) R ?_
    rw [hn]
    repeat' (first | (refine Rules.st H okX4_mostWork [7] ?_; conv => whnf) | refine br_t (by first | decide | assumption) ?_ | refine br_f (by first | decide | assumption) ?_ | refine br_c (fun _ => ?_) (fun _ => ?_) | refine ⟨by decide, ?_⟩ | refine ⟨by first | assumption | (unfold vp_in; decide) | ((with_reducible (refine vp_in_nI ?_ ?_)) <;> omega), ?_⟩ | fail)
    refine X1_isDone H (Or.inl rfl) R (fun g => ?_) (fun g => ?_)
    · rw [if_neg (fun z => g z.1)] at h1
      repeat' (first | (refine Rules.st H okX4_mostWork [7] ?_; conv => whnf) | refine br_t (by first | decide | assumption) ?_ | refine br_f (by first | decide | assumption) ?_ | refine br_c (fun _ => ?_) (fun _ => ?_) | refine ⟨by decide, ?_⟩ | refine ⟨by first | assumption | (unfold vp_in; decide) | ((with_reducible (refine vp_in_nI ?_ ?_)) <;> omega), ?_⟩ | fail)
      exact nx _ _ h1
    · repeat' (first | (refine Rules.st H okX4_mostWork [7] ?_; conv => whnf) | refine br_t (by first | decide | assumption) ?_ | refine br_f (by first | decide | assumption) ?_ | refine br_c (fun _ => ?_) (fun _ => ?_) | refine ⟨by decide, ?_⟩ | refine ⟨by first | assumption | (unfold vp_in; decide) | ((with_reducible (refine vp_in_nI ?_ ?_)) <;> omega), ?_⟩ | fail)
      refine X1_workOf H (Or.inl rfl) R (by omega) ?_
      repeat' (first | (refine Rules.st H okX4_mostWork [7] ?_; conv => whnf) | refine br_t (by first | decide | assumption) ?_ | refine br_f (by first | decide | assumption) ?_ | refine br_c (fun _ => ?_) (fun _ => ?_) | refine ⟨by decide, ?_⟩ | refine ⟨by first | assumption | (unfold vp_in; decide) | ((with_reducible (refine vp_in_nI ?_ ?_)) <;> omega), ?_⟩ | fail)
      · rw [if_neg (fun z => absurd z.2 (Int32.not_lt.mpr (by assumption)))] at h1
        exact nx _ _ h1
      · rw [if_pos ⟨g, Int32.not_le.mp (by assumption)⟩] at h1
        refine X1_workOf H (Or.inl rfl) R (by omega) ?_
        repeat' (first | (refine Rules.st H okX4_mostWork [7] ?_; conv => whnf) | refine br_t (by first | decide | assumption) ?_ | refine br_f (by first | decide | assumption) ?_ | refine br_c (fun _ => ?_) (fun _ => ?_) | refine ⟨by decide, ?_⟩ | refine ⟨by first | assumption | (unfold vp_in; decide) | ((with_reducible (refine vp_in_nI ?_ ?_)) <;> omega), ?_⟩ | fail)
        exact nx _ _ h1
set_option maxRecDepth 100000 in
theorem X4_mostWork (H : Rules C T) {n : Nat} (hn8 : n ≤ 8) {S K : Mem} (R : RepC 1 S K) (hn : K 0 0 = nI n) {Q : Pst} (h1 : Q (some (.int (mostK K n 0 (-9) 0))) S) : C mX4_mostWork [.ref 0] S Q := by
  have key := X4_mostWork_l H hn8 R hn (Q := Q) n 0 (-9) 0 (by omega) h1
  refine Rules.go H (by decide) (Nat.le_of_ble_eq_true rfl) ?_
  repeat' (first | (refine Rules.st H okX4_mostWork [7] ?_; conv => whnf) | refine br_t (by first | decide | assumption) ?_ | refine br_f (by first | decide | assumption) ?_ | refine br_c (fun _ => ?_) (fun _ => ?_) | refine ⟨by decide, ?_⟩ | refine ⟨by first | assumption | (unfold vp_in; decide) | ((with_reducible (refine vp_in_nI ?_ ?_)) <;> omega), ?_⟩ | fail)
  exact Halt.mk key
def outsK (K : Mem) (t : Int32) : Nat → Nat → Int32 → Int32
  | 0, _, a => a
  | k + 1, i, a => outsK K t k (i + 1) (if outK K i t = true then a ||| (1 <<< (nI i &&& 31)) else a)
set_option maxRecDepth 100000 in
theorem X4_outNow_l (H : Rules C T) {n : Nat} (hn8 : n ≤ 8) {S K : Mem} (R : RepC 1 S K) (hn : K 0 0 = nI n) {Q : Pst} : ∀ (k i : Nat) (a : Int32), i + k = n → Q (some (.int (outsK K (K 5 0) k i a))) S → T mX4_outNow Q 4 [some (.ref 0), some (.int a), some (.int (nI i))] [] S := by
  intro k
  induction k with
  | zero =>
    intro i a hi h1
    have hge : nI n ≤ nI i := nI_le (by omega) (by omega)
    skip
    repeat' (first | (refine Rules.st H okX4_outNow [4] ?_; conv => whnf) | refine br_t (by first | decide | assumption) ?_ | refine br_f (by first | decide | assumption) ?_ | refine br_c (fun _ => ?_) (fun _ => ?_) | refine ⟨by decide, ?_⟩ | refine ⟨by first | assumption | (unfold vp_in; decide) | ((with_reducible (refine vp_in_nI ?_ ?_)) <;> omega), ?_⟩ | fail)
    refine X1_rooms H (Or.inl rfl) R ?_
    rw [hn]
    repeat' (first | (refine Rules.st H okX4_outNow [4] ?_; conv => whnf) | refine br_t (by first | decide | assumption) ?_ | refine br_f (by first | decide | assumption) ?_ | refine br_c (fun _ => ?_) (fun _ => ?_) | refine ⟨by decide, ?_⟩ | refine ⟨by first | assumption | (unfold vp_in; decide) | ((with_reducible (refine vp_in_nI ?_ ?_)) <;> omega), ?_⟩ | fail)
    exact h1
  | succ k ih =>
    intro i a hi h1
    have hge : ¬ nI n ≤ nI i := nI_ge (by omega) (by omega)
    have nx : ∀ (a : Int32), Q (some (.int (outsK K (K 5 0) k (i + 1) a))) S → Halt (T mX4_outNow Q 4 [some (.ref 0), some (.int a), some (.int (nI i + 1))] [] S) := fun a h => Halt.mk (by rw [nI_1]; exact ih (i + 1) a (by omega) h)
    unfold outsK at h1
    skip
    repeat' (first | (refine Rules.st H okX4_outNow [4] ?_; conv => whnf) | refine br_t (by first | decide | assumption) ?_ | refine br_f (by first | decide | assumption) ?_ | refine br_c (fun _ => ?_) (fun _ => ?_) | refine ⟨by decide, ?_⟩ | refine ⟨by first | assumption | (unfold vp_in; decide) | ((with_reducible (refine vp_in_nI ?_ ?_)) <;> omega), ?_⟩ | fail)
    refine X1_rooms H (Or.inl rfl) R ?_
    rw [hn]
    repeat' (first | (refine Rules.st H okX4_outNow [4] ?_; conv => whnf) | refine br_t (by first | decide | assumption) ?_ | refine br_f (by first | decide | assumption) ?_ | refine br_c (fun _ => ?_) (fun _ => ?_) | refine ⟨by decide, ?_⟩ | refine ⟨by first | assumption | (unfold vp_in; decide) | ((with_reducible (refine vp_in_nI ?_ ?_)) <;> omega), ?_⟩ | fail)
    refine X1_clockOf H (Or.inl rfl) R (r := 0) (by omega) ?_
    repeat' (first | (refine Rules.st H okX4_outNow [4] ?_; conv => whnf) | refine br_t (by first | decide | assumption) ?_ | refine br_f (by first | decide | assumption) ?_ | refine br_c (fun _ => ?_) (fun _ => ?_) | refine ⟨by decide, ?_⟩ | refine ⟨by first | assumption | (unfold vp_in; decide) | ((with_reducible (refine vp_in_nI ?_ ?_)) <;> omega), ?_⟩ | fail)
    refine X1_guestOut H (Or.inl rfl) R (by omega) (fun g => ?_) (fun g => ?_)
    · rw [if_pos g] at h1
      repeat' (first | (refine Rules.st H okX4_outNow [4] ?_; conv => whnf) | refine br_t (by first | decide | assumption) ?_ | refine br_f (by first | decide | assumption) ?_ | refine br_c (fun _ => ?_) (fun _ => ?_) | refine ⟨by decide, ?_⟩ | refine ⟨by first | assumption | (unfold vp_in; decide) | ((with_reducible (refine vp_in_nI ?_ ?_)) <;> omega), ?_⟩ | fail)
      exact nx _ h1
    · rw [if_neg (by rw [g]; decide)] at h1
      repeat' (first | (refine Rules.st H okX4_outNow [4] ?_; conv => whnf) | refine br_t (by first | decide | assumption) ?_ | refine br_f (by first | decide | assumption) ?_ | refine br_c (fun _ => ?_) (fun _ => ?_) | refine ⟨by decide, ?_⟩ | refine ⟨by first | assumption | (unfold vp_in; decide) | ((with_reducible (refine vp_in_nI ?_ ?_)) <;> omega), ?_⟩ | fail)
      exact nx _ h1
set_option maxRecDepth 100000 in
theorem X4_outNow (H : Rules C T) {n : Nat} (hn8 : n ≤ 8) {S K : Mem} (R : RepC 1 S K) (hn : K 0 0 = nI n) {Q : Pst} (h1 : Q (some (.int (outsK K (K 5 0) n 0 0))) S) : C mX4_outNow [.ref 0] S Q := by
  have key := X4_outNow_l H hn8 R hn (Q := Q) n 0 0 (by omega) h1
  refine Rules.go H (by decide) (Nat.le_of_ble_eq_true rfl) ?_
  repeat' (first | (refine Rules.st H okX4_outNow [4] ?_; conv => whnf) | refine br_t (by first | decide | assumption) ?_ | refine br_f (by first | decide | assumption) ?_ | refine br_c (fun _ => ?_) (fun _ => ?_) | refine ⟨by decide, ?_⟩ | refine ⟨by first | assumption | (unfold vp_in; decide) | ((with_reducible (refine vp_in_nI ?_ ?_)) <;> omega), ?_⟩ | fail)
  exact Halt.mk key
def lensK (K : Mem) : Nat → Nat → Int32 → Int32
  | 0, _, a => a
  | k + 1, i, a => lensK K k (i + 1) (if bt (K 0 1) i = 0 then a + linK K i else a)
set_option maxRecDepth 100000 in
theorem X4_linenLeft_l (H : Rules C T) {n : Nat} (hn8 : n ≤ 8) {S K : Mem} (R : RepC 1 S K) (hn : K 0 0 = nI n) {Q : Pst} : ∀ (k i : Nat) (a : Int32), i + k = n → Q (some (.int (lensK K k i a))) S → T mX4_linenLeft Q 4 [some (.ref 0), some (.int a), some (.int (nI i))] [] S := by
  intro k
  induction k with
  | zero =>
    intro i a hi h1
    have hge : nI n ≤ nI i := nI_le (by omega) (by omega)
    skip
    repeat' (first | (refine Rules.st H okX4_linenLeft [4] ?_; conv => whnf) | refine br_t (by first | decide | assumption) ?_ | refine br_f (by first | decide | assumption) ?_ | refine br_c (fun _ => ?_) (fun _ => ?_) | refine ⟨by decide, ?_⟩ | refine ⟨by first | assumption | (unfold vp_in; decide) | ((with_reducible (refine vp_in_nI ?_ ?_)) <;> omega), ?_⟩ | fail)
    refine X1_rooms H (Or.inl rfl) R ?_
    rw [hn]
    repeat' (first | (refine Rules.st H okX4_linenLeft [4] ?_; conv => whnf) | refine br_t (by first | decide | assumption) ?_ | refine br_f (by first | decide | assumption) ?_ | refine br_c (fun _ => ?_) (fun _ => ?_) | refine ⟨by decide, ?_⟩ | refine ⟨by first | assumption | (unfold vp_in; decide) | ((with_reducible (refine vp_in_nI ?_ ?_)) <;> omega), ?_⟩ | fail)
    exact h1
  | succ k ih =>
    intro i a hi h1
    have hge : ¬ nI n ≤ nI i := nI_ge (by omega) (by omega)
    have nx : ∀ (a : Int32), Q (some (.int (lensK K k (i + 1) a))) S → Halt (T mX4_linenLeft Q 4 [some (.ref 0), some (.int a), some (.int (nI i + 1))] [] S) := fun a h => Halt.mk (by rw [nI_1]; exact ih (i + 1) a (by omega) h)
    unfold lensK at h1
    skip
    repeat' (first | (refine Rules.st H okX4_linenLeft [4] ?_; conv => whnf) | refine br_t (by first | decide | assumption) ?_ | refine br_f (by first | decide | assumption) ?_ | refine br_c (fun _ => ?_) (fun _ => ?_) | refine ⟨by decide, ?_⟩ | refine ⟨by first | assumption | (unfold vp_in; decide) | ((with_reducible (refine vp_in_nI ?_ ?_)) <;> omega), ?_⟩ | fail)
    refine X1_rooms H (Or.inl rfl) R ?_
    rw [hn]
    repeat' (first | (refine Rules.st H okX4_linenLeft [4] ?_; conv => whnf) | refine br_t (by first | decide | assumption) ?_ | refine br_f (by first | decide | assumption) ?_ | refine br_c (fun _ => ?_) (fun _ => ?_) | refine ⟨by decide, ?_⟩ | refine ⟨by first | assumption | (unfold vp_in; decide) | ((with_reducible (refine vp_in_nI ?_ ?_)) <;> omega), ?_⟩ | fail)
    refine X1_isDone H (Or.inl rfl) R (fun g => ?_) (fun g => ?_)
    · rw [if_neg g] at h1
      repeat' (first | (refine Rules.st H okX4_linenLeft [4] ?_; conv => whnf) | refine br_t (by first | decide | assumption) ?_ | refine br_f (by first | decide | assumption) ?_ | refine br_c (fun _ => ?_) (fun _ => ?_) | refine ⟨by decide, ?_⟩ | refine ⟨by first | assumption | (unfold vp_in; decide) | ((with_reducible (refine vp_in_nI ?_ ?_)) <;> omega), ?_⟩ | fail)
      exact nx _ h1
    · rw [if_pos g] at h1
      repeat' (first | (refine Rules.st H okX4_linenLeft [4] ?_; conv => whnf) | refine br_t (by first | decide | assumption) ?_ | refine br_f (by first | decide | assumption) ?_ | refine br_c (fun _ => ?_) (fun _ => ?_) | refine ⟨by decide, ?_⟩ | refine ⟨by first | assumption | (unfold vp_in; decide) | ((with_reducible (refine vp_in_nI ?_ ?_)) <;> omega), ?_⟩ | fail)
      refine X1_linenOf H (Or.inl rfl) R (by omega) ?_
      repeat' (first | (refine Rules.st H okX4_linenLeft [4] ?_; conv => whnf) | refine br_t (by first | decide | assumption) ?_ | refine br_f (by first | decide | assumption) ?_ | refine br_c (fun _ => ?_) (fun _ => ?_) | refine ⟨by decide, ?_⟩ | refine ⟨by first | assumption | (unfold vp_in; decide) | ((with_reducible (refine vp_in_nI ?_ ?_)) <;> omega), ?_⟩ | fail)
      exact nx _ h1
set_option maxRecDepth 100000 in
theorem X4_linenLeft (H : Rules C T) {n : Nat} (hn8 : n ≤ 8) {S K : Mem} (R : RepC 1 S K) (hn : K 0 0 = nI n) {Q : Pst} (h1 : Q (some (.int (lensK K n 0 0))) S) : C mX4_linenLeft [.ref 0] S Q := by
  have key := X4_linenLeft_l H hn8 R hn (Q := Q) n 0 0 (by omega) h1
  refine Rules.go H (by decide) (Nat.le_of_ble_eq_true rfl) ?_
  repeat' (first | (refine Rules.st H okX4_linenLeft [4] ?_; conv => whnf) | refine br_t (by first | decide | assumption) ?_ | refine br_f (by first | decide | assumption) ?_ | refine br_c (fun _ => ?_) (fun _ => ?_) | refine ⟨by decide, ?_⟩ | refine ⟨by first | assumption | (unfold vp_in; decide) | ((with_reducible (refine vp_in_nI ?_ ?_)) <;> omega), ?_⟩ | fail)
  exact Halt.mk key
/-- whether all pairs of the row from place i on are so, k pairs to go -/
def soK (row : Nat → Int32) (kd f : Int32) : Nat → Nat → Bool
  | 0, _ => true
  | k + 1, i => if outB kd f (row i) = decide (¬ row (i + 1) = 0) then soK row kd f k (i + 2) else false
set_option maxRecDepth 100000 in
theorem X4_rowIsSo_l (H : Rules C T) {q : Nat} (hq : q ≤ 8) {row : Nat → Int32} {S : Mem} (h6 : S 0 6 = nI (2 * q)) (hrow : ∀ j, j < 16 → S 21 j = row j) {kd f : Int32} {Q : Pst} : ∀ (k i : Nat) (x : Option Value), i + 2 * k = 2 * q → (soK row kd f k i = true → Q (some (.int 1)) S) → (soK row kd f k i = false → Q (some (.int 0)) S) → T mX4_rowIsSo Q 2 [some (.ref 0), some (.int kd), some (.int f), some (.int (nI i)), x] [] S := by
  intro k
  induction k with
  | zero =>
    intro i x hi h1 h0
    have hge : S 0 6 ≤ nI i + 1 := by rw [h6, nI_1]; exact nI_le (by omega) (by omega)
    skip
    repeat' (first | (refine Rules.st H okX4_rowIsSo [2] ?_; conv => whnf) | refine br_t (by first | decide | assumption) ?_ | refine br_f (by first | decide | assumption) ?_ | refine br_c (fun _ => ?_) (fun _ => ?_) | refine ⟨by decide, ?_⟩ | refine ⟨by first | assumption | (unfold vp_in; decide) | ((with_reducible (refine vp_in_nI ?_ ?_)) <;> omega), ?_⟩ | fail)
    exact h1 rfl
  | succ k ih =>
    intro i x hi h1 h0
    have hge : ¬ S 0 6 ≤ nI i + 1 := by rw [h6, nI_1]; exact nI_ge (by omega) (by omega)
    have nx : (soK row kd f k (i + 2) = true → Q (some (.int 1)) S) → (soK row kd f k (i + 2) = false → Q (some (.int 0)) S) → ∀ y : Int32, Halt (T mX4_rowIsSo Q 2 [some (.ref 0), some (.int kd), some (.int f), some (.int (nI i + 2)), some (.int y)] [] S) := fun g1 g0 y => Halt.mk (by rw [show nI i + 2 = nI (i + 2) from (nI_add i 2)]; exact ih (i + 2) _ (by omega) g1 g0)
    unfold soK at h1 h0
    skip
    repeat' (first | (refine Rules.st H okX4_rowIsSo [2] ?_; conv => whnf) | refine br_t (by first | decide | assumption) ?_ | refine br_f (by first | decide | assumption) ?_ | refine br_c (fun _ => ?_) (fun _ => ?_) | refine ⟨by decide, ?_⟩ | refine ⟨by first | assumption | (unfold vp_in; decide) | ((with_reducible (refine vp_in_nI ?_ ?_)) <;> omega), ?_⟩ | fail)
    rw [nI_1]
    refine X4_numberAt H (by omega) ?_
    rw [hrow _ (by omega)]
    repeat' (first | (refine Rules.st H okX4_rowIsSo [2] ?_; conv => whnf) | refine br_t (by first | decide | assumption) ?_ | refine br_f (by first | decide | assumption) ?_ | refine br_c (fun _ => ?_) (fun _ => ?_) | refine ⟨by decide, ?_⟩ | refine ⟨by first | assumption | (unfold vp_in; decide) | ((with_reducible (refine vp_in_nI ?_ ?_)) <;> omega), ?_⟩ | fail)
    · refine X4_numberAt H (by omega) ?_
      rw [hrow _ (by omega)]
      repeat' (first | (refine Rules.st H okX4_rowIsSo [2] ?_; conv => whnf) | refine br_t (by first | decide | assumption) ?_ | refine br_f (by first | decide | assumption) ?_ | refine br_c (fun _ => ?_) (fun _ => ?_) | refine ⟨by decide, ?_⟩ | refine ⟨by first | assumption | (unfold vp_in; decide) | ((with_reducible (refine vp_in_nI ?_ ?_)) <;> omega), ?_⟩ | fail)
      refine X2_isOut H (fun g => ?_) (fun g => ?_)
      · repeat' (first | (refine Rules.st H okX4_rowIsSo [2] ?_; conv => whnf) | refine br_t (by first | decide | assumption) ?_ | refine br_f (by first | decide | assumption) ?_ | refine br_c (fun _ => ?_) (fun _ => ?_) | refine ⟨by decide, ?_⟩ | refine ⟨by first | assumption | (unfold vp_in; decide) | ((with_reducible (refine vp_in_nI ?_ ?_)) <;> omega), ?_⟩ | fail)
        exact h0 (by rw [g, if_neg (by simp [*])])
      · rw [g, if_pos (by simp [*])] at h1 h0
        repeat' (first | (refine Rules.st H okX4_rowIsSo [2] ?_; conv => whnf) | refine br_t (by first | decide | assumption) ?_ | refine br_f (by first | decide | assumption) ?_ | refine br_c (fun _ => ?_) (fun _ => ?_) | refine ⟨by decide, ?_⟩ | refine ⟨by first | assumption | (unfold vp_in; decide) | ((with_reducible (refine vp_in_nI ?_ ?_)) <;> omega), ?_⟩ | fail)
        exact nx h1 h0 _
    · refine X4_numberAt H (by omega) ?_
      rw [hrow _ (by omega)]
      repeat' (first | (refine Rules.st H okX4_rowIsSo [2] ?_; conv => whnf) | refine br_t (by first | decide | assumption) ?_ | refine br_f (by first | decide | assumption) ?_ | refine br_c (fun _ => ?_) (fun _ => ?_) | refine ⟨by decide, ?_⟩ | refine ⟨by first | assumption | (unfold vp_in; decide) | ((with_reducible (refine vp_in_nI ?_ ?_)) <;> omega), ?_⟩ | fail)
      refine X2_isOut H (fun g => ?_) (fun g => ?_)
      · rw [g, if_pos (by simp [*])] at h1 h0
        repeat' (first | (refine Rules.st H okX4_rowIsSo [2] ?_; conv => whnf) | refine br_t (by first | decide | assumption) ?_ | refine br_f (by first | decide | assumption) ?_ | refine br_c (fun _ => ?_) (fun _ => ?_) | refine ⟨by decide, ?_⟩ | refine ⟨by first | assumption | (unfold vp_in; decide) | ((with_reducible (refine vp_in_nI ?_ ?_)) <;> omega), ?_⟩ | fail)
        exact nx h1 h0 _
      · repeat' (first | (refine Rules.st H okX4_rowIsSo [2] ?_; conv => whnf) | refine br_t (by first | decide | assumption) ?_ | refine br_f (by first | decide | assumption) ?_ | refine br_c (fun _ => ?_) (fun _ => ?_) | refine ⟨by decide, ?_⟩ | refine ⟨by first | assumption | (unfold vp_in; decide) | ((with_reducible (refine vp_in_nI ?_ ?_)) <;> omega), ?_⟩ | fail)
        exact h0 (by rw [g, if_neg (by simp [*])])
set_option maxRecDepth 100000 in
theorem X4_rowIsSo (H : Rules C T) {q : Nat} (hq : q ≤ 8) {row : Nat → Int32} {S : Mem} (h6 : S 0 6 = nI (2 * q)) (hrow : ∀ j, j < 16 → S 21 j = row j) {kd f : Int32} {Q : Pst} (h1 : soK row kd f q 0 = true → Q (some (.int 1)) S) (h0 : soK row kd f q 0 = false → Q (some (.int 0)) S) : C mX4_rowIsSo [.ref 0, .int kd, .int f] S Q := by
  have key := X4_rowIsSo_l H hq h6 hrow (kd := kd) (f := f) (Q := Q) q 0 none (by omega) h1 h0
  refine Rules.go H (by decide) (Nat.le_of_ble_eq_true rfl) ?_
  repeat' (first | (refine Rules.st H okX4_rowIsSo [2] ?_; conv => whnf) | refine br_t (by first | decide | assumption) ?_ | refine br_f (by first | decide | assumption) ?_ | refine br_c (fun _ => ?_) (fun _ => ?_) | refine ⟨by decide, ?_⟩ | refine ⟨by first | assumption | (unfold vp_in; decide) | ((with_reducible (refine vp_in_nI ?_ ?_)) <;> omega), ?_⟩ | fail)
  exact Halt.mk key
/-- which kinds, which figures the row leaves -/
def kindsK (row : Nat → Int32) (q : Nat) (f : Int32) : Nat → Nat → Int32 → Int32
  | 0, _, a => a
  | k + 1, i, a => kindsK row q f k (i + 1) (if soK row (nI i) f q 0 = true then a ||| (1 <<< (nI i &&& 31)) else a)
def figsK (row : Nat → Int32) (q : Nat) (kd : Int32) : Nat → Nat → Int32 → Int32
  | 0, _, a => a
  | k + 1, i, a => figsK row q kd k (i + 1) (if soK row kd (nI i) q 0 = true then a ||| (1 <<< (nI i &&& 31)) else a)
set_option maxRecDepth 100000 in
theorem X4_kindsByRow_l (H : Rules C T) {q : Nat} (hq : q ≤ 8) {row : Nat → Int32} {S : Mem} (h6 : S 0 6 = nI (2 * q)) (hrow : ∀ j, j < 16 → S 21 j = row j) {f : Int32} {Q : Pst} : ∀ (k i : Nat) (a : Int32), i + k = 7 → Q (some (.int (kindsK row q f k i a))) S → T mX4_kindsByRow Q 4 [some (.ref 0), some (.int f), some (.int a), some (.int (nI i))] [] S := by
  intro k
  induction k with
  | zero =>
    intro i a hi h1
    have hge : (7 : Int32) ≤ nI i := nI_le (a := 7) (by omega) (by omega)
    skip
    repeat' (first | (refine Rules.st H okX4_kindsByRow [4] ?_; conv => whnf) | refine br_t (by first | decide | assumption) ?_ | refine br_f (by first | decide | assumption) ?_ | refine br_c (fun _ => ?_) (fun _ => ?_) | refine ⟨by decide, ?_⟩ | refine ⟨by first | assumption | (unfold vp_in; decide) | ((with_reducible (refine vp_in_nI ?_ ?_)) <;> omega), ?_⟩ | fail)
    exact h1
  | succ k ih =>
    intro i a hi h1
    have hge : ¬ (7 : Int32) ≤ nI i := nI_ge (b := 7) (by omega) (by omega)
    have nx : ∀ (a : Int32), Q (some (.int (kindsK row q f k (i + 1) a))) S → Halt (T mX4_kindsByRow Q 4 [some (.ref 0), some (.int f), some (.int a), some (.int (nI i + 1))] [] S) := fun a h => Halt.mk (by rw [nI_1]; exact ih (i + 1) a (by omega) h)
    unfold kindsK at h1
    skip
    repeat' (first | (refine Rules.st H okX4_kindsByRow [4] ?_; conv => whnf) | refine br_t (by first | decide | assumption) ?_ | refine br_f (by first | decide | assumption) ?_ | refine br_c (fun _ => ?_) (fun _ => ?_) | refine ⟨by decide, ?_⟩ | refine ⟨by first | assumption | (unfold vp_in; decide) | ((with_reducible (refine vp_in_nI ?_ ?_)) <;> omega), ?_⟩ | fail)
    refine X4_rowIsSo H hq h6 hrow (fun g => ?_) (fun g => ?_)
    · rw [if_pos g] at h1
      repeat' (first | (refine Rules.st H okX4_kindsByRow [4] ?_; conv => whnf) | refine br_t (by first | decide | assumption) ?_ | refine br_f (by first | decide | assumption) ?_ | refine br_c (fun _ => ?_) (fun _ => ?_) | refine ⟨by decide, ?_⟩ | refine ⟨by first | assumption | (unfold vp_in; decide) | ((with_reducible (refine vp_in_nI ?_ ?_)) <;> omega), ?_⟩ | fail)
      exact nx _ h1
    · rw [if_neg (by rw [g]; decide)] at h1
      repeat' (first | (refine Rules.st H okX4_kindsByRow [4] ?_; conv => whnf) | refine br_t (by first | decide | assumption) ?_ | refine br_f (by first | decide | assumption) ?_ | refine br_c (fun _ => ?_) (fun _ => ?_) | refine ⟨by decide, ?_⟩ | refine ⟨by first | assumption | (unfold vp_in; decide) | ((with_reducible (refine vp_in_nI ?_ ?_)) <;> omega), ?_⟩ | fail)
      exact nx _ h1
set_option maxRecDepth 100000 in
theorem X4_kindsByRow (H : Rules C T) {q : Nat} (hq : q ≤ 8) {row : Nat → Int32} {S : Mem} (h6 : S 0 6 = nI (2 * q)) (hrow : ∀ j, j < 16 → S 21 j = row j) {f : Int32} {Q : Pst} (h1 : Q (some (.int (kindsK row q f 7 0 0))) S) : C mX4_kindsByRow [.ref 0, .int f] S Q := by
  have key := X4_kindsByRow_l H hq h6 hrow (f := f) (Q := Q) 7 0 0 (by omega) h1
  refine Rules.go H (by decide) (Nat.le_of_ble_eq_true rfl) ?_
  repeat' (first | (refine Rules.st H okX4_kindsByRow [4] ?_; conv => whnf) | refine br_t (by first | decide | assumption) ?_ | refine br_f (by first | decide | assumption) ?_ | refine br_c (fun _ => ?_) (fun _ => ?_) | refine ⟨by decide, ?_⟩ | refine ⟨by first | assumption | (unfold vp_in; decide) | ((with_reducible (refine vp_in_nI ?_ ?_)) <;> omega), ?_⟩ | fail)
  exact Halt.mk key
set_option maxRecDepth 100000 in
theorem X4_figuresByRow_l (H : Rules C T) {q : Nat} (hq : q ≤ 8) {row : Nat → Int32} {S : Mem} (h6 : S 0 6 = nI (2 * q)) (hrow : ∀ j, j < 16 → S 21 j = row j) {kd : Int32} {Q : Pst} : ∀ (k i : Nat) (a : Int32), i + k = 10 → Q (some (.int (figsK row q kd k i a))) S → T mX4_figuresByRow Q 4 [some (.ref 0), some (.int kd), some (.int a), some (.int (nI i))] [] S := by
  intro k
  induction k with
  | zero =>
    intro i a hi h1
    have hge : (9 : Int32) < nI i := nI_lt (a := 9) (by omega) (by omega)
    skip
    repeat' (first | (refine Rules.st H okX4_figuresByRow [4] ?_; conv => whnf) | refine br_t (by first | decide | assumption) ?_ | refine br_f (by first | decide | assumption) ?_ | refine br_c (fun _ => ?_) (fun _ => ?_) | refine ⟨by decide, ?_⟩ | refine ⟨by first | assumption | (unfold vp_in; decide) | ((with_reducible (refine vp_in_nI ?_ ?_)) <;> omega), ?_⟩ | fail)
    exact h1
  | succ k ih =>
    intro i a hi h1
    have hge : ¬ (9 : Int32) < nI i := nI_nlt (a := 9) (by omega) (by omega)
    have nx : ∀ (a : Int32), Q (some (.int (figsK row q kd k (i + 1) a))) S → Halt (T mX4_figuresByRow Q 4 [some (.ref 0), some (.int kd), some (.int a), some (.int (nI i + 1))] [] S) := fun a h => Halt.mk (by rw [nI_1]; exact ih (i + 1) a (by omega) h)
    unfold figsK at h1
    skip
    repeat' (first | (refine Rules.st H okX4_figuresByRow [4] ?_; conv => whnf) | refine br_t (by first | decide | assumption) ?_ | refine br_f (by first | decide | assumption) ?_ | refine br_c (fun _ => ?_) (fun _ => ?_) | refine ⟨by decide, ?_⟩ | refine ⟨by first | assumption | (unfold vp_in; decide) | ((with_reducible (refine vp_in_nI ?_ ?_)) <;> omega), ?_⟩ | fail)
    refine X4_rowIsSo H hq h6 hrow (fun g => ?_) (fun g => ?_)
    · rw [if_pos g] at h1
      repeat' (first | (refine Rules.st H okX4_figuresByRow [4] ?_; conv => whnf) | refine br_t (by first | decide | assumption) ?_ | refine br_f (by first | decide | assumption) ?_ | refine br_c (fun _ => ?_) (fun _ => ?_) | refine ⟨by decide, ?_⟩ | refine ⟨by first | assumption | (unfold vp_in; decide) | ((with_reducible (refine vp_in_nI ?_ ?_)) <;> omega), ?_⟩ | fail)
      exact nx _ h1
    · rw [if_neg (by rw [g]; decide)] at h1
      repeat' (first | (refine Rules.st H okX4_figuresByRow [4] ?_; conv => whnf) | refine br_t (by first | decide | assumption) ?_ | refine br_f (by first | decide | assumption) ?_ | refine br_c (fun _ => ?_) (fun _ => ?_) | refine ⟨by decide, ?_⟩ | refine ⟨by first | assumption | (unfold vp_in; decide) | ((with_reducible (refine vp_in_nI ?_ ?_)) <;> omega), ?_⟩ | fail)
      exact nx _ h1
set_option maxRecDepth 100000 in
theorem X4_figuresByRow (H : Rules C T) {q : Nat} (hq : q ≤ 8) {row : Nat → Int32} {S : Mem} (h6 : S 0 6 = nI (2 * q)) (hrow : ∀ j, j < 16 → S 21 j = row j) {kd : Int32} {Q : Pst} (h1 : Q (some (.int (figsK row q kd 10 0 0))) S) : C mX4_figuresByRow [.ref 0, .int kd] S Q := by
  have key := X4_figuresByRow_l H hq h6 hrow (kd := kd) (Q := Q) 10 0 0 (by omega) h1
  refine Rules.go H (by decide) (Nat.le_of_ble_eq_true rfl) ?_
  repeat' (first | (refine Rules.st H okX4_figuresByRow [4] ?_; conv => whnf) | refine br_t (by first | decide | assumption) ?_ | refine br_f (by first | decide | assumption) ?_ | refine br_c (fun _ => ?_) (fun _ => ?_) | refine ⟨by decide, ?_⟩ | refine ⟨by first | assumption | (unfold vp_in; decide) | ((with_reducible (refine vp_in_nI ?_ ?_)) <;> omega), ?_⟩ | fail)
  exact Halt.mk key
end X2
