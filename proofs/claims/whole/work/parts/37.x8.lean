section X8
variable {C : Cst} {T : Nat → Pst → Nat → Lcs → List Value → Mem → Prop}
def F_dearest (K : Mem) (n : Nat) (w : Int32) : Ans := if w = 0 then (0, mostK K n 0 (-9) 0) else if w = 1 then (0, outsK K (K 5 0) n 0 0) else if w = 2 then (0, lensK K n 0 0) else (2, -2)
set_option maxRecDepth 100000 in
theorem X4_dearest (H : Rules C T) {S K : Mem} {n : Nat} (X : XK S K n) {w : Int32} {Q : Pst} (h1 : AnsX S (F_dearest K n w) Q) : C mX4_dearest [.ref 0, .int w] S Q := by
  obtain ⟨R, hn, hn8, hz⟩ := X
  unfold F_dearest at h1
  refine Rules.go H (by decide) (Nat.le_of_ble_eq_true rfl) ?_
  repeat' (first | (refine Rules.st H okX4_dearest [] ?_; conv => whnf) | refine br_t (by first | decide | assumption) ?_ | refine br_f (by first | decide | assumption) ?_ | refine br_c (fun _ => ?_) (fun _ => ?_) | refine ⟨by decide, ?_⟩ | refine ⟨by first | assumption | (unfold vp_in; decide) | ((with_reducible (refine vp_in_nI ?_ ?_)) <;> omega), ?_⟩ | fail)
  · rw [if_pos (by assumption)] at h1
    refine X4_mostWork H hn8 R hn ?_
    repeat' (first | (refine Rules.st H okX4_dearest [] ?_; conv => whnf) | refine br_t (by first | decide | assumption) ?_ | refine br_f (by first | decide | assumption) ?_ | refine br_c (fun _ => ?_) (fun _ => ?_) | refine ⟨by decide, ?_⟩ | refine ⟨by first | assumption | (unfold vp_in; decide) | ((with_reducible (refine vp_in_nI ?_ ?_)) <;> omega), ?_⟩ | fail)
    exact h1 S ScX.rf
  · rw [if_neg (by assumption), if_pos (by assumption)] at h1
    refine X4_outNow H hn8 R hn ?_
    repeat' (first | (refine Rules.st H okX4_dearest [] ?_; conv => whnf) | refine br_t (by first | decide | assumption) ?_ | refine br_f (by first | decide | assumption) ?_ | refine br_c (fun _ => ?_) (fun _ => ?_) | refine ⟨by decide, ?_⟩ | refine ⟨by first | assumption | (unfold vp_in; decide) | ((with_reducible (refine vp_in_nI ?_ ?_)) <;> omega), ?_⟩ | fail)
    exact h1 S ScX.rf
  · rw [if_neg (by assumption), if_neg (by assumption), if_pos (by assumption)] at h1
    refine X4_linenLeft H hn8 R hn ?_
    repeat' (first | (refine Rules.st H okX4_dearest [] ?_; conv => whnf) | refine br_t (by first | decide | assumption) ?_ | refine br_f (by first | decide | assumption) ?_ | refine br_c (fun _ => ?_) (fun _ => ?_) | refine ⟨by decide, ?_⟩ | refine ⟨by first | assumption | (unfold vp_in; decide) | ((with_reducible (refine vp_in_nI ?_ ?_)) <;> omega), ?_⟩ | fail)
    exact h1 S ScX.rf
  · rw [if_neg (by assumption), if_neg (by assumption), if_neg (by assumption)] at h1
    refine X4_ref H (ScX.rf) (k := 2) (by omega) (by omega) (by decide) (fun S' hS' => ?_)
    repeat' (first | (refine Rules.st H okX4_dearest [] ?_; conv => whnf) | refine br_t (by first | decide | assumption) ?_ | refine br_f (by first | decide | assumption) ?_ | refine br_c (fun _ => ?_) (fun _ => ?_) | refine ⟨by decide, ?_⟩ | refine ⟨by first | assumption | (unfold vp_in; decide) | ((with_reducible (refine vp_in_nI ?_ ?_)) <;> omega), ?_⟩ | fail)
    exact h1 S' hS'
def overK (K : Mem) (a b : Nat) : Nat → Nat → Int32 → Int32
  | 0, _, x => x
  | k + 1, i, x => overK K a b k (i + 1) (if outK K a (K 5 0 + nI i) = true ∧ outK K b (K 5 0 + nI i) = true then x + 1 else x)
set_option maxRecDepth 100000 in
theorem X4_overlap_l (H : Rules C T) {S K : Mem} {n a b q : Nat} (X : XK S K n) (ha : a < n) (hb : b < n) (hq : q < 100) {Q : Pst} : ∀ (k i : Nat) (x : Int32) (y : Option Value), i + k = q → Q (some (.int (overK K a b k i x))) S → T mX4_overlap Q 45 [some (.ref 0), some (.int (nI a)), some (.int (nI b)), some (.int (nI q)), some (.int x), some (.int (nI i)), y] [] S := by
  obtain ⟨R, hn, hn8, hz⟩ := X
  intro k
  induction k with
  | zero =>
    intro i x y hi h1
    have hge : nI q ≤ nI i := nI_le (by omega) (by omega)
    skip
    repeat' (first | (refine Rules.st H okX4_overlap [45] ?_; conv => whnf) | refine br_t (by first | decide | assumption) ?_ | refine br_f (by first | decide | assumption) ?_ | refine br_c (fun _ => ?_) (fun _ => ?_) | refine ⟨by decide, ?_⟩ | refine ⟨by first | assumption | (unfold vp_in; decide) | ((with_reducible (refine vp_in_nI ?_ ?_)) <;> omega), ?_⟩ | fail)
    exact h1
  | succ k ih =>
    intro i x y hi h1
    have hge : ¬ nI q ≤ nI i := nI_ge (by omega) (by omega)
    unfold overK at h1
    have nx : ∀ (x z : Int32), Q (some (.int (overK K a b k (i + 1) x))) S → Halt (T mX4_overlap Q 45 [some (.ref 0), some (.int (nI a)), some (.int (nI b)), some (.int (nI q)), some (.int x), some (.int (nI i + 1)), some (.int z)] [] S) := fun x z h => Halt.mk (by rw [nI_1]; exact ih (i + 1) x _ (by omega) h)
    skip
    repeat' (first | (refine Rules.st H okX4_overlap [45] ?_; conv => whnf) | refine br_t (by first | decide | assumption) ?_ | refine br_f (by first | decide | assumption) ?_ | refine br_c (fun _ => ?_) (fun _ => ?_) | refine ⟨by decide, ?_⟩ | refine ⟨by first | assumption | (unfold vp_in; decide) | ((with_reducible (refine vp_in_nI ?_ ?_)) <;> omega), ?_⟩ | fail)
    refine X1_clockOf H (Or.inl rfl) R (r := 0) (by omega) ?_
    repeat' (first | (refine Rules.st H okX4_overlap [45] ?_; conv => whnf) | refine br_t (by first | decide | assumption) ?_ | refine br_f (by first | decide | assumption) ?_ | refine br_c (fun _ => ?_) (fun _ => ?_) | refine ⟨by decide, ?_⟩ | refine ⟨by first | assumption | (unfold vp_in; decide) | ((with_reducible (refine vp_in_nI ?_ ?_)) <;> omega), ?_⟩ | fail)
    refine X1_guestOut H (Or.inl rfl) R (by omega) (fun g => ?_) (fun g => ?_)
    · repeat' (first | (refine Rules.st H okX4_overlap [45] ?_; conv => whnf) | refine br_t (by first | decide | assumption) ?_ | refine br_f (by first | decide | assumption) ?_ | refine br_c (fun _ => ?_) (fun _ => ?_) | refine ⟨by decide, ?_⟩ | refine ⟨by first | assumption | (unfold vp_in; decide) | ((with_reducible (refine vp_in_nI ?_ ?_)) <;> omega), ?_⟩ | fail)
      refine X1_guestOut H (Or.inl rfl) R (by omega) (fun g2 => ?_) (fun g2 => ?_)
      · rw [if_pos ⟨g, g2⟩] at h1
        repeat' (first | (refine Rules.st H okX4_overlap [45] ?_; conv => whnf) | refine br_t (by first | decide | assumption) ?_ | refine br_f (by first | decide | assumption) ?_ | refine br_c (fun _ => ?_) (fun _ => ?_) | refine ⟨by decide, ?_⟩ | refine ⟨by first | assumption | (unfold vp_in; decide) | ((with_reducible (refine vp_in_nI ?_ ?_)) <;> omega), ?_⟩ | fail)
        exact nx _ _ h1
      · rw [if_neg (fun z => by rw [g2] at z; exact absurd z.2 (by decide))] at h1
        repeat' (first | (refine Rules.st H okX4_overlap [45] ?_; conv => whnf) | refine br_t (by first | decide | assumption) ?_ | refine br_f (by first | decide | assumption) ?_ | refine br_c (fun _ => ?_) (fun _ => ?_) | refine ⟨by decide, ?_⟩ | refine ⟨by first | assumption | (unfold vp_in; decide) | ((with_reducible (refine vp_in_nI ?_ ?_)) <;> omega), ?_⟩ | fail)
        exact nx _ _ h1
    · rw [if_neg (fun z => by rw [g] at z; exact absurd z.1 (by decide))] at h1
      repeat' (first | (refine Rules.st H okX4_overlap [45] ?_; conv => whnf) | refine br_t (by first | decide | assumption) ?_ | refine br_f (by first | decide | assumption) ?_ | refine br_c (fun _ => ?_) (fun _ => ?_) | refine ⟨by decide, ?_⟩ | refine ⟨by first | assumption | (unfold vp_in; decide) | ((with_reducible (refine vp_in_nI ?_ ?_)) <;> omega), ?_⟩ | fail)
      exact nx _ _ h1
def F_overlap (K : Mem) (a b t : Int32) : Ans := if t < 0 then (4, -4) else if 99 < t then (6, -6) else (0, overK K (ix a) (ix b) (ix t) 0 0)
set_option maxRecDepth 100000 in
theorem X4_overlap (H : Rules C T) {S K : Mem} {n : Nat} (X : XK S K n) {a b t : Int32} {Q : Pst} (h1 : two2 n a b → AnsX S (F_overlap K a b t) Q) (h0 : ¬ two2 n a b → AnsX S (1, -1) Q) : C mX4_overlap [.ref 0, .int a, .int b, .int t] S Q := by
  have X0 := X
  obtain ⟨R, hn, hn8, hz⟩ := X
  refine Rules.go H (by decide) (Nat.le_of_ble_eq_true rfl) ?_
  repeat' (first | (refine Rules.st H okX4_overlap [45] ?_; conv => whnf) | refine br_t (by first | decide | assumption) ?_ | refine br_f (by first | decide | assumption) ?_ | refine br_c (fun _ => ?_) (fun _ => ?_) | refine ⟨by decide, ?_⟩ | refine ⟨by first | assumption | (unfold vp_in; decide) | ((with_reducible (refine vp_in_nI ?_ ?_)) <;> omega), ?_⟩ | fail)
  refine X4_areTwoRooms H hn8 R hn (fun i j hi hj hne e1 e2 => ?_) (fun hno => ?_)
  · have h1 := h1 ⟨by rw [e1]; exact okR_nI hn8 hi, by rw [e2]; exact okR_nI hn8 hj, fun z => hne ((nI_eq (by omega) (by omega)).mp (e1.symm.trans (z.trans e2)))⟩
    subst e1
    subst e2
    unfold F_overlap at h1
    rw [show ix (nI i) = i from nIc (by omega), show ix (nI j) = j from nIc (by omega)] at h1
    repeat' (first | (refine Rules.st H okX4_overlap [45] ?_; conv => whnf) | refine br_t (by first | decide | assumption) ?_ | refine br_f (by first | decide | assumption) ?_ | refine br_c (fun _ => ?_) (fun _ => ?_) | refine ⟨by decide, ?_⟩ | refine ⟨by first | assumption | (unfold vp_in; decide) | ((with_reducible (refine vp_in_nI ?_ ?_)) <;> omega), ?_⟩ | fail)
    · have g1 : 0 ≤ t := by assumption
      have g2 : t ≤ 99 := by assumption
      rw [if_neg (Int32.not_lt.mpr g1), if_neg (Int32.not_lt.mpr g2)] at h1
      obtain ⟨q, hq, e⟩ := nI_of (Int32.not_lt.mpr g1)
      have hq9 : q < 100 := by
        rw [e] at g2
        have := (nI_leI (b := 99) hq (by omega)).mp g2
        omega
      subst e
      rw [show ix (nI q) = q from nIc (by omega)] at h1
      exact Halt.mk (X4_overlap_l H X0 hi hj hq9 q 0 0 none (by omega) (h1 S ScX.rf))
    · rw [if_neg (Int32.not_lt.mpr (by assumption)), if_pos (Int32.not_le.mp (by assumption))] at h1
      refine X4_ref H (ScX.rf) (k := 6) (by omega) (by omega) (by decide) (fun S' hS' => ?_)
      repeat' (first | (refine Rules.st H okX4_overlap [45] ?_; conv => whnf) | refine br_t (by first | decide | assumption) ?_ | refine br_f (by first | decide | assumption) ?_ | refine br_c (fun _ => ?_) (fun _ => ?_) | refine ⟨by decide, ?_⟩ | refine ⟨by first | assumption | (unfold vp_in; decide) | ((with_reducible (refine vp_in_nI ?_ ?_)) <;> omega), ?_⟩ | fail)
      exact h1 S' hS'
    · rw [if_pos (Int32.not_le.mp (by assumption))] at h1
      refine X4_ref H (ScX.rf) (k := 4) (by omega) (by omega) (by decide) (fun S' hS' => ?_)
      repeat' (first | (refine Rules.st H okX4_overlap [45] ?_; conv => whnf) | refine br_t (by first | decide | assumption) ?_ | refine br_f (by first | decide | assumption) ?_ | refine br_c (fun _ => ?_) (fun _ => ?_) | refine ⟨by decide, ?_⟩ | refine ⟨by first | assumption | (unfold vp_in; decide) | ((with_reducible (refine vp_in_nI ?_ ?_)) <;> omega), ?_⟩ | fail)
      exact h1 S' hS'
  · repeat' (first | (refine Rules.st H okX4_overlap [45] ?_; conv => whnf) | refine br_t (by first | decide | assumption) ?_ | refine br_f (by first | decide | assumption) ?_ | refine br_c (fun _ => ?_) (fun _ => ?_) | refine ⟨by decide, ?_⟩ | refine ⟨by first | assumption | (unfold vp_in; decide) | ((with_reducible (refine vp_in_nI ?_ ?_)) <;> omega), ?_⟩ | fail)
    refine X4_ref H (ScX.rf) (k := 1) (by omega) (by omega) (by decide) (fun S' hS' => ?_)
    repeat' (first | (refine Rules.st H okX4_overlap [45] ?_; conv => whnf) | refine br_t (by first | decide | assumption) ?_ | refine br_f (by first | decide | assumption) ?_ | refine br_c (fun _ => ?_) (fun _ => ?_) | refine ⟨by decide, ?_⟩ | refine ⟨by first | assumption | (unfold vp_in; decide) | ((with_reducible (refine vp_in_nI ?_ ?_)) <;> omega), ?_⟩ | fail)
    exact h0 hno S' hS'
def twoK (K : Mem) (a b : Nat) : Int32 := if neitherK K a a b b then 0 else if neitherK K a b b a then 1 else if neitherK K b a a b then 10 else if neitherK K b b a a then 11 else -9
set_option maxRecDepth 100000 in
theorem X4_two (H : Rules C T) {S K : Mem} {n : Nat} (X : XK S K n) {a b : Int32} {Q : Pst} (h1 : two2 n a b → AnsX S (0, twoK K (ix a) (ix b)) Q) (h0 : ¬ two2 n a b → AnsX S (1, -1) Q) : C mX4_two [.ref 0, .int a, .int b] S Q := by
  obtain ⟨R, hn, hn8, hz⟩ := X
  refine Rules.go H (by decide) (Nat.le_of_ble_eq_true rfl) ?_
  repeat' (first | (refine Rules.st H okX4_two [] ?_; conv => whnf) | refine br_t (by first | decide | assumption) ?_ | refine br_f (by first | decide | assumption) ?_ | refine br_c (fun _ => ?_) (fun _ => ?_) | refine ⟨by decide, ?_⟩ | refine ⟨by first | assumption | (unfold vp_in; decide) | ((with_reducible (refine vp_in_nI ?_ ?_)) <;> omega), ?_⟩ | fail)
  refine X4_areTwoRooms H hn8 R hn (fun i j hi hj hne e1 e2 => ?_) (fun hno => ?_)
  · have h1 := h1 ⟨by rw [e1]; exact okR_nI hn8 hi, by rw [e2]; exact okR_nI hn8 hj, fun z => hne ((nI_eq (by omega) (by omega)).mp (e1.symm.trans (z.trans e2)))⟩
    subst e1
    subst e2
    rw [show ix (nI i) = i from nIc (by omega), show ix (nI j) = j from nIc (by omega)] at h1
    unfold twoK at h1
    have hi8 : i < 8 := by omega
    have hj8 : j < 8 := by omega
    repeat' (first | (refine Rules.st H okX4_two [] ?_; conv => whnf) | refine br_t (by first | decide | assumption) ?_ | refine br_f (by first | decide | assumption) ?_ | refine br_c (fun _ => ?_) (fun _ => ?_) | refine ⟨by decide, ?_⟩ | refine ⟨by first | assumption | (unfold vp_in; decide) | ((with_reducible (refine vp_in_nI ?_ ?_)) <;> omega), ?_⟩ | fail)
    refine X4_neitherWouldChange H R hz hi8 hi8 hj8 hj8 (fun g S1 F1 => ?_) (fun g S1 F1 => ?_)
    · rw [if_pos g] at h1
      repeat' (first | (refine Rules.st H okX4_two [] ?_; conv => whnf) | refine br_t (by first | decide | assumption) ?_ | refine br_f (by first | decide | assumption) ?_ | refine br_c (fun _ => ?_) (fun _ => ?_) | refine ⟨by decide, ?_⟩ | refine ⟨by first | assumption | (unfold vp_in; decide) | ((with_reducible (refine vp_in_nI ?_ ?_)) <;> omega), ?_⟩ | fail)
      exact h1 S1 (ScX.f7 F1)
    · rw [if_neg g] at h1
      repeat' (first | (refine Rules.st H okX4_two [] ?_; conv => whnf) | refine br_t (by first | decide | assumption) ?_ | refine br_f (by first | decide | assumption) ?_ | refine br_c (fun _ => ?_) (fun _ => ?_) | refine ⟨by decide, ?_⟩ | refine ⟨by first | assumption | (unfold vp_in; decide) | ((with_reducible (refine vp_in_nI ?_ ?_)) <;> omega), ?_⟩ | fail)
      refine X4_neitherWouldChange H (R.fr F1 (by omega)) hz hi8 hj8 hj8 hi8 (fun g S2 F2 => ?_) (fun g S2 F2 => ?_)
      · rw [if_pos g] at h1
        repeat' (first | (refine Rules.st H okX4_two [] ?_; conv => whnf) | refine br_t (by first | decide | assumption) ?_ | refine br_f (by first | decide | assumption) ?_ | refine br_c (fun _ => ?_) (fun _ => ?_) | refine ⟨by decide, ?_⟩ | refine ⟨by first | assumption | (unfold vp_in; decide) | ((with_reducible (refine vp_in_nI ?_ ?_)) <;> omega), ?_⟩ | fail)
        exact h1 S2 (ScX.f7 (F1.tr F2))
      · rw [if_neg g] at h1
        repeat' (first | (refine Rules.st H okX4_two [] ?_; conv => whnf) | refine br_t (by first | decide | assumption) ?_ | refine br_f (by first | decide | assumption) ?_ | refine br_c (fun _ => ?_) (fun _ => ?_) | refine ⟨by decide, ?_⟩ | refine ⟨by first | assumption | (unfold vp_in; decide) | ((with_reducible (refine vp_in_nI ?_ ?_)) <;> omega), ?_⟩ | fail)
        refine X4_neitherWouldChange H (R.fr (F1.tr F2) (by omega)) hz hj8 hi8 hi8 hj8 (fun g S3 F3 => ?_) (fun g S3 F3 => ?_)
        · rw [if_pos g] at h1
          repeat' (first | (refine Rules.st H okX4_two [] ?_; conv => whnf) | refine br_t (by first | decide | assumption) ?_ | refine br_f (by first | decide | assumption) ?_ | refine br_c (fun _ => ?_) (fun _ => ?_) | refine ⟨by decide, ?_⟩ | refine ⟨by first | assumption | (unfold vp_in; decide) | ((with_reducible (refine vp_in_nI ?_ ?_)) <;> omega), ?_⟩ | fail)
          exact h1 S3 (ScX.f7 ((F1.tr F2).tr F3))
        · rw [if_neg g] at h1
          repeat' (first | (refine Rules.st H okX4_two [] ?_; conv => whnf) | refine br_t (by first | decide | assumption) ?_ | refine br_f (by first | decide | assumption) ?_ | refine br_c (fun _ => ?_) (fun _ => ?_) | refine ⟨by decide, ?_⟩ | refine ⟨by first | assumption | (unfold vp_in; decide) | ((with_reducible (refine vp_in_nI ?_ ?_)) <;> omega), ?_⟩ | fail)
          refine X4_neitherWouldChange H (R.fr ((F1.tr F2).tr F3) (by omega)) hz hj8 hj8 hi8 hi8 (fun g S4 F4 => ?_) (fun g S4 F4 => ?_)
          · rw [if_pos g] at h1
            repeat' (first | (refine Rules.st H okX4_two [] ?_; conv => whnf) | refine br_t (by first | decide | assumption) ?_ | refine br_f (by first | decide | assumption) ?_ | refine br_c (fun _ => ?_) (fun _ => ?_) | refine ⟨by decide, ?_⟩ | refine ⟨by first | assumption | (unfold vp_in; decide) | ((with_reducible (refine vp_in_nI ?_ ?_)) <;> omega), ?_⟩ | fail)
            exact h1 S4 (ScX.f7 (((F1.tr F2).tr F3).tr F4))
          · rw [if_neg g] at h1
            repeat' (first | (refine Rules.st H okX4_two [] ?_; conv => whnf) | refine br_t (by first | decide | assumption) ?_ | refine br_f (by first | decide | assumption) ?_ | refine br_c (fun _ => ?_) (fun _ => ?_) | refine ⟨by decide, ?_⟩ | refine ⟨by first | assumption | (unfold vp_in; decide) | ((with_reducible (refine vp_in_nI ?_ ?_)) <;> omega), ?_⟩ | fail)
            exact h1 S4 (ScX.f7 (((F1.tr F2).tr F3).tr F4))
  · repeat' (first | (refine Rules.st H okX4_two [] ?_; conv => whnf) | refine br_t (by first | decide | assumption) ?_ | refine br_f (by first | decide | assumption) ?_ | refine br_c (fun _ => ?_) (fun _ => ?_) | refine ⟨by decide, ?_⟩ | refine ⟨by first | assumption | (unfold vp_in; decide) | ((with_reducible (refine vp_in_nI ?_ ?_)) <;> omega), ?_⟩ | fail)
    refine X4_ref H (ScX.rf) (k := 1) (by omega) (by omega) (by decide) (fun S' hS' => ?_)
    repeat' (first | (refine Rules.st H okX4_two [] ?_; conv => whnf) | refine br_t (by first | decide | assumption) ?_ | refine br_f (by first | decide | assumption) ?_ | refine br_c (fun _ => ?_) (fun _ => ?_) | refine ⟨by decide, ?_⟩ | refine ⟨by first | assumption | (unfold vp_in; decide) | ((with_reducible (refine vp_in_nI ?_ ?_)) <;> omega), ?_⟩ | fail)
    exact h0 hno S' hS'
/-! tips -/
set_option maxRecDepth 100000 in
theorem shl1 : ∀ n, n ≤ 8 → (1 : Int32) <<< (nI n &&& 31) = nI (2 ^ n) := by decide +kernel
set_option maxRecDepth 100000 in
theorem pow_le8 {n : Nat} (h : n ≤ 8) : 2 ^ n ≤ 256 := by
  have := Nat.pow_le_pow_right (n := 2) (by omega) h
  omega
def sel1 (w : Int32) (p : Int32 × Int32) : Int32 := if w = 1 then p.1 else p.2
def fairK (K : Mem) (n : Nat) (all done : Int32) : Nat → Nat → Int32 → Int32 → Int32 × Int32
  | 0, _, a, f => (a, f)
  | k + 1, i, a, f => if nI i &&& (done ^^^ (-1)) = 0 ∧ absI (all - 2 * tipsK K (nI i) n 0 0) < f then fairK K n all done k (i + 1) (nI i) (absI (all - 2 * tipsK K (nI i) n 0 0)) else fairK K n all done k (i + 1) a f
set_option maxRecDepth 100000 in
theorem X4_tips_l (H : Rules C T) {S K : Mem} {n : Nat} (X : XK S K n) {w all done : Int32} {Q : Pst} : ∀ (k i : Nat) (a f : Int32) (y : Option Value), i + k = 2 ^ n → Q (some (.int (sel1 w (fairK K n all done k i a f)))) S → T mX4_tips Q 48 [some (.ref 0), some (.int w), some (.int done), some (.int all), some (.int a), some (.int f), some (.int (nI i)), y] [] S := by
  obtain ⟨R, hn, hn8, hz⟩ := X
  have h256 := pow_le8 hn8
  intro k
  induction k with
  | zero =>
    intro i a f y hi h1
    have hge : nI (2 ^ n) ≤ nI i := nI_le (by omega) (by omega)
    skip
    repeat' (first | (refine Rules.st H okX4_tips [48] ?_; conv => whnf) | refine br_t (by first | decide | assumption) ?_ | refine br_f (by first | decide | assumption) ?_ | refine br_c (fun _ => ?_) (fun _ => ?_) | refine ⟨by decide, ?_⟩ | refine ⟨by first | assumption | (unfold vp_in; decide) | ((with_reducible (refine vp_in_nI ?_ ?_)) <;> omega), ?_⟩ | fail)
    refine X1_rooms H (Or.inl rfl) R ?_
    rw [hn]
    repeat (refine Rules.st H okX4_tips [48] ?_; conv => whnf)
    rw [shl1 n hn8]
    unfold sel1 at h1
    repeat' (first | (refine Rules.st H okX4_tips [48] ?_; conv => whnf) | refine br_t (by first | decide | assumption) ?_ | refine br_f (by first | decide | assumption) ?_ | refine br_c (fun _ => ?_) (fun _ => ?_) | refine ⟨by decide, ?_⟩ | refine ⟨by first | assumption | (unfold vp_in; decide) | ((with_reducible (refine vp_in_nI ?_ ?_)) <;> omega), ?_⟩ | fail)
    · rw [if_pos (by assumption)] at h1
      exact h1
    · rw [if_neg (by assumption)] at h1
      exact h1
  | succ k ih =>
    intro i a f y hi h1
    have hge : ¬ nI (2 ^ n) ≤ nI i := nI_ge (by omega) (by omega)
    unfold fairK at h1
    have nx : ∀ (a f z : Int32), Q (some (.int (sel1 w (fairK K n all done k (i + 1) a f)))) S → Halt (T mX4_tips Q 48 [some (.ref 0), some (.int w), some (.int done), some (.int all), some (.int a), some (.int f), some (.int (nI i + 1)), some (.int z)] [] S) := fun a f z h => Halt.mk (by rw [nI_1]; exact ih (i + 1) a f _ (by omega) h)
    skip
    repeat' (first | (refine Rules.st H okX4_tips [48] ?_; conv => whnf) | refine br_t (by first | decide | assumption) ?_ | refine br_f (by first | decide | assumption) ?_ | refine br_c (fun _ => ?_) (fun _ => ?_) | refine ⟨by decide, ?_⟩ | refine ⟨by first | assumption | (unfold vp_in; decide) | ((with_reducible (refine vp_in_nI ?_ ?_)) <;> omega), ?_⟩ | fail)
    refine X1_rooms H (Or.inl rfl) R ?_
    rw [hn]
    repeat (refine Rules.st H okX4_tips [48] ?_; conv => whnf)
    rw [shl1 n hn8]
    repeat' (first | (refine Rules.st H okX4_tips [48] ?_; conv => whnf) | refine br_t (by first | decide | assumption) ?_ | refine br_f (by first | decide | assumption) ?_ | refine br_c (fun _ => ?_) (fun _ => ?_) | refine ⟨by decide, ?_⟩ | refine ⟨by first | assumption | (unfold vp_in; decide) | ((with_reducible (refine vp_in_nI ?_ ?_)) <;> omega), ?_⟩ | fail)
    refine X1_tipsOf H (Or.inl rfl) hn8 R hn ?_
    repeat' (first | (refine Rules.st H okX4_tips [48] ?_; conv => whnf) | refine br_t (by first | decide | assumption) ?_ | refine br_f (by first | decide | assumption) ?_ | refine br_c (fun _ => ?_) (fun _ => ?_) | refine ⟨by decide, ?_⟩ | refine ⟨by first | assumption | (unfold vp_in; decide) | ((with_reducible (refine vp_in_nI ?_ ?_)) <;> omega), ?_⟩ | fail)
    · rw [if_neg (fun z => absurd z.2 (Int32.not_lt.mpr (by assumption)))] at h1
      exact nx _ _ _ h1
    · rw [if_pos ⟨by assumption, Int32.not_le.mp (by assumption)⟩] at h1
      exact nx _ _ _ h1
    · rw [if_neg (fun z => absurd z.1 (by assumption))] at h1
      exact nx _ _ _ h1
def allT (K : Mem) (n : Nat) : Int32 := tipsK K (K 0 1) n 0 0
def F_tips (K : Mem) (n : Nat) (w : Int32) : Ans := if w < 0 ∨ 2 < w then (2, -2) else (0, if w = 0 then allT K n else sel1 w (fairK K n (allT K n) (K 0 1) (2 ^ n) 0 0 (allT K n)))
set_option maxRecDepth 100000 in
theorem X4_tips (H : Rules C T) {S K : Mem} {n : Nat} (X : XK S K n) {w : Int32} {Q : Pst} (h1 : AnsX S (F_tips K n w) Q) : C mX4_tips [.ref 0, .int w] S Q := by
  have X0 := X
  obtain ⟨R, hn, hn8, hz⟩ := X
  unfold F_tips at h1
  refine Rules.go H (by decide) (Nat.le_of_ble_eq_true rfl) ?_
  repeat' (first | (refine Rules.st H okX4_tips [48] ?_; conv => whnf) | refine br_t (by first | decide | assumption) ?_ | refine br_f (by first | decide | assumption) ?_ | refine br_c (fun _ => ?_) (fun _ => ?_) | refine ⟨by decide, ?_⟩ | refine ⟨by first | assumption | (unfold vp_in; decide) | ((with_reducible (refine vp_in_nI ?_ ?_)) <;> omega), ?_⟩ | fail)
  · rw [if_pos (Or.inl (by assumption))] at h1
    refine X4_ref H (ScX.rf) (k := 2) (by omega) (by omega) (by decide) (fun S' hS' => ?_)
    repeat' (first | (refine Rules.st H okX4_tips [48] ?_; conv => whnf) | refine br_t (by first | decide | assumption) ?_ | refine br_f (by first | decide | assumption) ?_ | refine br_c (fun _ => ?_) (fun _ => ?_) | refine ⟨by decide, ?_⟩ | refine ⟨by first | assumption | (unfold vp_in; decide) | ((with_reducible (refine vp_in_nI ?_ ?_)) <;> omega), ?_⟩ | fail)
    exact h1 S' hS'
  · rw [if_neg (fun z => z.elim (by assumption) (Int32.not_lt.mpr (by assumption)))] at h1
    refine X1_doneBits H (Or.inl rfl) R ?_
    repeat' (first | (refine Rules.st H okX4_tips [48] ?_; conv => whnf) | refine br_t (by first | decide | assumption) ?_ | refine br_f (by first | decide | assumption) ?_ | refine br_c (fun _ => ?_) (fun _ => ?_) | refine ⟨by decide, ?_⟩ | refine ⟨by first | assumption | (unfold vp_in; decide) | ((with_reducible (refine vp_in_nI ?_ ?_)) <;> omega), ?_⟩ | fail)
    refine X1_tipsOf H (Or.inl rfl) hn8 R hn ?_
    repeat' (first | (refine Rules.st H okX4_tips [48] ?_; conv => whnf) | refine br_t (by first | decide | assumption) ?_ | refine br_f (by first | decide | assumption) ?_ | refine br_c (fun _ => ?_) (fun _ => ?_) | refine ⟨by decide, ?_⟩ | refine ⟨by first | assumption | (unfold vp_in; decide) | ((with_reducible (refine vp_in_nI ?_ ?_)) <;> omega), ?_⟩ | fail)
    · rw [if_pos (by assumption)] at h1
      exact h1 S ScX.rf
    · rw [if_neg (by assumption)] at h1
      exact Halt.mk (X4_tips_l H X0 (2 ^ n) 0 0 (allT K n) none (by omega) (h1 S ScX.rf))
  · rw [if_pos (Or.inr (Int32.not_le.mp (by assumption)))] at h1
    refine X4_ref H (ScX.rf) (k := 2) (by omega) (by omega) (by decide) (fun S' hS' => ?_)
    repeat' (first | (refine Rules.st H okX4_tips [48] ?_; conv => whnf) | refine br_t (by first | decide | assumption) ?_ | refine br_f (by first | decide | assumption) ?_ | refine br_c (fun _ => ?_) (fun _ => ?_) | refine ⟨by decide, ?_⟩ | refine ⟨by first | assumption | (unfold vp_in; decide) | ((with_reducible (refine vp_in_nI ?_ ?_)) <;> omega), ?_⟩ | fail)
    exact h1 S' hS'
/-! what kind, what figure -/
def F_whatIs (K : Mem) (n : Nat) (row : Nat → Int32) (q : Nat) (r w : Int32) : Ans :=
  if okR n r then if w < 0 ∨ 1 < w then (2, -2) else if q % 2 = 1 then (3, -3) else (0, if w = 0 then kindsK row (q / 2) (K 2 (ix r)) 7 0 0 else figsK row (q / 2) (K 1 (ix r)) 10 0 0) else (1, -1)
set_option maxRecDepth 100000 in
theorem irm2 : ∀ q, q ≤ 16 → (irm (nI q) 2 = 0 ↔ q % 2 = 0) := by decide +kernel
set_option maxRecDepth 100000 in
theorem X4_whatIs (H : Rules C T) {S K : Mem} {n : Nat} (X : XK S K n) {row : Nat → Int32} {q : Nat} (XQ : XR S row q) {r w : Int32} {Q : Pst} (h1 : AnsX S (F_whatIs K n row q r w) Q) : C mX4_whatIs [.ref 0, .int r, .int w] S Q := by
  obtain ⟨R, hn, hn8, hz⟩ := X
  obtain ⟨hq, h6, hrow⟩ := XQ
  unfold F_whatIs at h1
  refine Rules.go H (by decide) (Nat.le_of_ble_eq_true rfl) ?_
  repeat' (first | (refine Rules.st H okX4_whatIs [] ?_; conv => whnf) | refine br_t (by first | decide | assumption) ?_ | refine br_f (by first | decide | assumption) ?_ | refine br_c (fun _ => ?_) (fun _ => ?_) | refine ⟨by decide, ?_⟩ | refine ⟨by first | assumption | (unfold vp_in; decide) | ((with_reducible (refine vp_in_nI ?_ ?_)) <;> omega), ?_⟩ | fail)
  refine X1_hasRoom H (Or.inl rfl) R hn hn8 (fun j hj e => ?_) (fun hno => ?_)
  · subst e
    rw [if_pos (okR_nI hn8 hj), show ix (nI j) = j from nIc (by omega)] at h1
    by_cases he : q % 2 = 0
    · have hr : irm (S 0 6) 2 = 0 := by rw [h6]; exact (irm2 q hq).mpr he
      have h6' : S 0 6 = nI (2 * (q / 2)) := by rw [h6]; congr 1; omega
      repeat' (first | (refine Rules.st H okX4_whatIs [] ?_; conv => whnf) | refine br_t (by first | decide | assumption) ?_ | refine br_f (by first | decide | assumption) ?_ | refine br_c (fun _ => ?_) (fun _ => ?_) | refine ⟨by decide, ?_⟩ | refine ⟨by first | assumption | (unfold vp_in; decide) | ((with_reducible (refine vp_in_nI ?_ ?_)) <;> omega), ?_⟩ | fail)
      · rw [if_pos (Or.inl (by assumption))] at h1
        refine X4_ref H (ScX.rf) (k := 2) (by omega) (by omega) (by decide) (fun S' hS' => ?_)
        repeat' (first | (refine Rules.st H okX4_whatIs [] ?_; conv => whnf) | refine br_t (by first | decide | assumption) ?_ | refine br_f (by first | decide | assumption) ?_ | refine br_c (fun _ => ?_) (fun _ => ?_) | refine ⟨by decide, ?_⟩ | refine ⟨by first | assumption | (unfold vp_in; decide) | ((with_reducible (refine vp_in_nI ?_ ?_)) <;> omega), ?_⟩ | fail)
        exact h1 S' hS'
      · rw [if_neg (fun z => z.elim (by assumption) (Int32.not_lt.mpr (by assumption))), if_neg (by omega), if_pos (by assumption)] at h1
        refine X1_figureOf H (Or.inl rfl) R (by omega) ?_
        repeat' (first | (refine Rules.st H okX4_whatIs [] ?_; conv => whnf) | refine br_t (by first | decide | assumption) ?_ | refine br_f (by first | decide | assumption) ?_ | refine br_c (fun _ => ?_) (fun _ => ?_) | refine ⟨by decide, ?_⟩ | refine ⟨by first | assumption | (unfold vp_in; decide) | ((with_reducible (refine vp_in_nI ?_ ?_)) <;> omega), ?_⟩ | fail)
        refine X4_kindsByRow H (by omega) h6' hrow ?_
        repeat' (first | (refine Rules.st H okX4_whatIs [] ?_; conv => whnf) | refine br_t (by first | decide | assumption) ?_ | refine br_f (by first | decide | assumption) ?_ | refine br_c (fun _ => ?_) (fun _ => ?_) | refine ⟨by decide, ?_⟩ | refine ⟨by first | assumption | (unfold vp_in; decide) | ((with_reducible (refine vp_in_nI ?_ ?_)) <;> omega), ?_⟩ | fail)
        exact h1 S ScX.rf
      · rw [if_neg (fun z => z.elim (by assumption) (Int32.not_lt.mpr (by assumption))), if_neg (by omega), if_neg (by assumption)] at h1
        refine X1_kindOf H (Or.inl rfl) R (by omega) ?_
        repeat' (first | (refine Rules.st H okX4_whatIs [] ?_; conv => whnf) | refine br_t (by first | decide | assumption) ?_ | refine br_f (by first | decide | assumption) ?_ | refine br_c (fun _ => ?_) (fun _ => ?_) | refine ⟨by decide, ?_⟩ | refine ⟨by first | assumption | (unfold vp_in; decide) | ((with_reducible (refine vp_in_nI ?_ ?_)) <;> omega), ?_⟩ | fail)
        refine X4_figuresByRow H (by omega) h6' hrow ?_
        repeat' (first | (refine Rules.st H okX4_whatIs [] ?_; conv => whnf) | refine br_t (by first | decide | assumption) ?_ | refine br_f (by first | decide | assumption) ?_ | refine br_c (fun _ => ?_) (fun _ => ?_) | refine ⟨by decide, ?_⟩ | refine ⟨by first | assumption | (unfold vp_in; decide) | ((with_reducible (refine vp_in_nI ?_ ?_)) <;> omega), ?_⟩ | fail)
        exact h1 S ScX.rf
      · rw [if_pos (Or.inr (Int32.not_le.mp (by assumption)))] at h1
        refine X4_ref H (ScX.rf) (k := 2) (by omega) (by omega) (by decide) (fun S' hS' => ?_)
        repeat' (first | (refine Rules.st H okX4_whatIs [] ?_; conv => whnf) | refine br_t (by first | decide | assumption) ?_ | refine br_f (by first | decide | assumption) ?_ | refine br_c (fun _ => ?_) (fun _ => ?_) | refine ⟨by decide, ?_⟩ | refine ⟨by first | assumption | (unfold vp_in; decide) | ((with_reducible (refine vp_in_nI ?_ ?_)) <;> omega), ?_⟩ | fail)
        exact h1 S' hS'
    · have hr : ¬ irm (S 0 6) 2 = 0 := by rw [h6]; exact fun z => he ((irm2 q hq).mp z)
      repeat' (first | (refine Rules.st H okX4_whatIs [] ?_; conv => whnf) | refine br_t (by first | decide | assumption) ?_ | refine br_f (by first | decide | assumption) ?_ | refine br_c (fun _ => ?_) (fun _ => ?_) | refine ⟨by decide, ?_⟩ | refine ⟨by first | assumption | (unfold vp_in; decide) | ((with_reducible (refine vp_in_nI ?_ ?_)) <;> omega), ?_⟩ | fail)
      · rw [if_pos (Or.inl (by assumption))] at h1
        refine X4_ref H (ScX.rf) (k := 2) (by omega) (by omega) (by decide) (fun S' hS' => ?_)
        repeat' (first | (refine Rules.st H okX4_whatIs [] ?_; conv => whnf) | refine br_t (by first | decide | assumption) ?_ | refine br_f (by first | decide | assumption) ?_ | refine br_c (fun _ => ?_) (fun _ => ?_) | refine ⟨by decide, ?_⟩ | refine ⟨by first | assumption | (unfold vp_in; decide) | ((with_reducible (refine vp_in_nI ?_ ?_)) <;> omega), ?_⟩ | fail)
        exact h1 S' hS'
      · rw [if_neg (fun z => z.elim (by assumption) (Int32.not_lt.mpr (by assumption))), if_pos (by omega)] at h1
        refine X4_ref H (ScX.rf) (k := 3) (by omega) (by omega) (by decide) (fun S' hS' => ?_)
        repeat' (first | (refine Rules.st H okX4_whatIs [] ?_; conv => whnf) | refine br_t (by first | decide | assumption) ?_ | refine br_f (by first | decide | assumption) ?_ | refine br_c (fun _ => ?_) (fun _ => ?_) | refine ⟨by decide, ?_⟩ | refine ⟨by first | assumption | (unfold vp_in; decide) | ((with_reducible (refine vp_in_nI ?_ ?_)) <;> omega), ?_⟩ | fail)
        exact h1 S' hS'
      · rw [if_pos (Or.inr (Int32.not_le.mp (by assumption)))] at h1
        refine X4_ref H (ScX.rf) (k := 2) (by omega) (by omega) (by decide) (fun S' hS' => ?_)
        repeat' (first | (refine Rules.st H okX4_whatIs [] ?_; conv => whnf) | refine br_t (by first | decide | assumption) ?_ | refine br_f (by first | decide | assumption) ?_ | refine br_c (fun _ => ?_) (fun _ => ?_) | refine ⟨by decide, ?_⟩ | refine ⟨by first | assumption | (unfold vp_in; decide) | ((with_reducible (refine vp_in_nI ?_ ?_)) <;> omega), ?_⟩ | fail)
        exact h1 S' hS'
  · rw [if_neg (okR_neg hn8 hno)] at h1
    repeat' (first | (refine Rules.st H okX4_whatIs [] ?_; conv => whnf) | refine br_t (by first | decide | assumption) ?_ | refine br_f (by first | decide | assumption) ?_ | refine br_c (fun _ => ?_) (fun _ => ?_) | refine ⟨by decide, ?_⟩ | refine ⟨by first | assumption | (unfold vp_in; decide) | ((with_reducible (refine vp_in_nI ?_ ?_)) <;> omega), ?_⟩ | fail)
    refine X4_ref H (ScX.rf) (k := 1) (by omega) (by omega) (by decide) (fun S' hS' => ?_)
    repeat' (first | (refine Rules.st H okX4_whatIs [] ?_; conv => whnf) | refine br_t (by first | decide | assumption) ?_ | refine br_f (by first | decide | assumption) ?_ | refine br_c (fun _ => ?_) (fun _ => ?_) | refine ⟨by decide, ?_⟩ | refine ⟨by first | assumption | (unfold vp_in; decide) | ((with_reducible (refine vp_in_nI ?_ ?_)) <;> omega), ?_⟩ | fail)
    exact h1 S' hS'
end X8
