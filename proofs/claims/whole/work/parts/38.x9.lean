section X9
variable {C : Cst} {T : Nat → Pst → Nat → Lcs → List Value → Mem → Prop}
/-! long answers -/
abbrev AnsL : Type := Nat × Int64
def AnsXL (S : Mem) (a : AnsL) (Q : Pst) : Prop := ∀ S', ScX a.1 S S' → Q (some (.long a.2)) S'
def refL (x : Int32) : Int64 := 4000000000000000000 - x.toInt64
def meanW (K : Mem) : Nat → Nat → Int64 × Int64 → Int64 × Int64
  | 0, _, p => p
  | k + 1, i, p => meanW K k (i + 1) (if bt (K 0 1) i = 0 then (p.1 + (workK K i).toInt64, p.2 + 1) else p)
set_option maxRecDepth 100000 in
theorem X4_mean_l (H : Rules C T) {S K : Mem} {n : Nat} (X : XK S K n) {w : Int32} {Q : Pst} : ∀ (k i : Nat) (p : Int64 × Int64), i + k = n → Q (some (.long (partL (meanW K k i p).1 (meanW K k i p).2 w))) S → T mX4_mean Q 24 [some (.ref 0), some (.int w), some (.long p.1), none, some (.long p.2), none, some (.int (nI i))] [] S := by
  obtain ⟨R, hn, hn8, hz⟩ := X
  intro k
  induction k with
  | zero =>
    intro i p hi h1
    have hge : nI n ≤ nI i := nI_le (by omega) (by omega)
    skip
    repeat' (first | (refine Rules.st H okX4_mean [24] ?_; conv => whnf) | refine br_t (by first | decide | assumption) ?_ | refine br_f (by first | decide | assumption) ?_ | refine br_c (fun _ => ?_) (fun _ => ?_) | refine ⟨by decide, ?_⟩ | refine ⟨by first | assumption | (unfold vp_in; decide) | ((with_reducible (refine vp_in_nI ?_ ?_)) <;> omega), ?_⟩ | fail)
    refine X1_rooms H (Or.inl rfl) R ?_
    rw [hn]
    repeat' (first | (refine Rules.st H okX4_mean [24] ?_; conv => whnf) | refine br_t (by first | decide | assumption) ?_ | refine br_f (by first | decide | assumption) ?_ | refine br_c (fun _ => ?_) (fun _ => ?_) | refine ⟨by decide, ?_⟩ | refine ⟨by first | assumption | (unfold vp_in; decide) | ((with_reducible (refine vp_in_nI ?_ ?_)) <;> omega), ?_⟩ | fail)
    refine X4_partOf H ?_
    repeat' (first | (refine Rules.st H okX4_mean [24] ?_; conv => whnf) | refine br_t (by first | decide | assumption) ?_ | refine br_f (by first | decide | assumption) ?_ | refine br_c (fun _ => ?_) (fun _ => ?_) | refine ⟨by decide, ?_⟩ | refine ⟨by first | assumption | (unfold vp_in; decide) | ((with_reducible (refine vp_in_nI ?_ ?_)) <;> omega), ?_⟩ | fail)
    exact h1
  | succ k ih =>
    intro i p hi h1
    have hge : ¬ nI n ≤ nI i := nI_ge (by omega) (by omega)
    unfold meanW at h1
    skip
    repeat' (first | (refine Rules.st H okX4_mean [24] ?_; conv => whnf) | refine br_t (by first | decide | assumption) ?_ | refine br_f (by first | decide | assumption) ?_ | refine br_c (fun _ => ?_) (fun _ => ?_) | refine ⟨by decide, ?_⟩ | refine ⟨by first | assumption | (unfold vp_in; decide) | ((with_reducible (refine vp_in_nI ?_ ?_)) <;> omega), ?_⟩ | fail)
    refine X1_rooms H (Or.inl rfl) R ?_
    rw [hn]
    repeat' (first | (refine Rules.st H okX4_mean [24] ?_; conv => whnf) | refine br_t (by first | decide | assumption) ?_ | refine br_f (by first | decide | assumption) ?_ | refine br_c (fun _ => ?_) (fun _ => ?_) | refine ⟨by decide, ?_⟩ | refine ⟨by first | assumption | (unfold vp_in; decide) | ((with_reducible (refine vp_in_nI ?_ ?_)) <;> omega), ?_⟩ | fail)
    refine X1_isDone H (Or.inl rfl) R (fun g => ?_) (fun g => ?_)
    · rw [if_neg g] at h1
      repeat' (first | (refine Rules.st H okX4_mean [24] ?_; conv => whnf) | refine br_t (by first | decide | assumption) ?_ | refine br_f (by first | decide | assumption) ?_ | refine br_c (fun _ => ?_) (fun _ => ?_) | refine ⟨by decide, ?_⟩ | refine ⟨by first | assumption | (unfold vp_in; decide) | ((with_reducible (refine vp_in_nI ?_ ?_)) <;> omega), ?_⟩ | fail)
      refine Halt.mk ?_
      show T mX4_mean Q 24 [some (.ref 0), some (.int w), some (.long p.1), none, some (.long p.2), none, some (.int (nI i + 1))] [] S
      rw [nI_1]
      exact ih (i + 1) p (by omega) h1
    · rw [if_pos g] at h1
      repeat' (first | (refine Rules.st H okX4_mean [24] ?_; conv => whnf) | refine br_t (by first | decide | assumption) ?_ | refine br_f (by first | decide | assumption) ?_ | refine br_c (fun _ => ?_) (fun _ => ?_) | refine ⟨by decide, ?_⟩ | refine ⟨by first | assumption | (unfold vp_in; decide) | ((with_reducible (refine vp_in_nI ?_ ?_)) <;> omega), ?_⟩ | fail)
      refine X1_workOf H (Or.inl rfl) R (by omega) ?_
      repeat' (first | (refine Rules.st H okX4_mean [24] ?_; conv => whnf) | refine br_t (by first | decide | assumption) ?_ | refine br_f (by first | decide | assumption) ?_ | refine br_c (fun _ => ?_) (fun _ => ?_) | refine ⟨by decide, ?_⟩ | refine ⟨by first | assumption | (unfold vp_in; decide) | ((with_reducible (refine vp_in_nI ?_ ?_)) <;> omega), ?_⟩ | fail)
      refine Halt.mk ?_
      show T mX4_mean Q 24 [some (.ref 0), some (.int w), some (.long (p.1 + (workK K i).toInt64)), none, some (.long (p.2 + 1)), none, some (.int (nI i + 1))] [] S
      rw [nI_1]
      exact ih (i + 1) _ (by omega) h1
def F_mean (K : Mem) (n : Nat) (w : Int32) : AnsL := if w < 0 ∨ 1 < w then (2, refL (-2)) else (0, partL (meanW K n 0 (0, 0)).1 (meanW K n 0 (0, 0)).2 w)
set_option maxRecDepth 100000 in
theorem X4_mean (H : Rules C T) {S K : Mem} {n : Nat} (X : XK S K n) {w : Int32} {Q : Pst} (h1 : AnsXL S (F_mean K n w) Q) : C mX4_mean [.ref 0, .int w] S Q := by
  unfold F_mean refL at h1
  refine Rules.go H (by decide) (Nat.le_of_ble_eq_true rfl) ?_
  repeat' (first | (refine Rules.st H okX4_mean [24] ?_; conv => whnf) | refine br_t (by first | decide | assumption) ?_ | refine br_f (by first | decide | assumption) ?_ | refine br_c (fun _ => ?_) (fun _ => ?_) | refine ⟨by decide, ?_⟩ | refine ⟨by first | assumption | (unfold vp_in; decide) | ((with_reducible (refine vp_in_nI ?_ ?_)) <;> omega), ?_⟩ | fail)
  · rw [if_pos (Or.inl (by assumption))] at h1
    refine X4_refL H (ScX.rf) (k := 2) (by omega) (by omega) (by decide) (fun S' hS' => ?_)
    repeat' (first | (refine Rules.st H okX4_mean [24] ?_; conv => whnf) | refine br_t (by first | decide | assumption) ?_ | refine br_f (by first | decide | assumption) ?_ | refine br_c (fun _ => ?_) (fun _ => ?_) | refine ⟨by decide, ?_⟩ | refine ⟨by first | assumption | (unfold vp_in; decide) | ((with_reducible (refine vp_in_nI ?_ ?_)) <;> omega), ?_⟩ | fail)
    exact h1 S' hS'
  · rw [if_neg (fun z => z.elim (by assumption) (Int32.not_lt.mpr (by assumption)))] at h1
    exact Halt.mk (X4_mean_l H X n 0 (0, 0) (by omega) (h1 S ScX.rf))
  · rw [if_pos (Or.inr (Int32.not_le.mp (by assumption)))] at h1
    refine X4_refL H (ScX.rf) (k := 2) (by omega) (by omega) (by decide) (fun S' hS' => ?_)
    repeat' (first | (refine Rules.st H okX4_mean [24] ?_; conv => whnf) | refine br_t (by first | decide | assumption) ?_ | refine br_f (by first | decide | assumption) ?_ | refine br_c (fun _ => ?_) (fun _ => ?_) | refine ⟨by decide, ?_⟩ | refine ⟨by first | assumption | (unfold vp_in; decide) | ((with_reducible (refine vp_in_nI ?_ ?_)) <;> omega), ?_⟩ | fail)
    exact h1 S' hS'
def F_inspected (K : Mem) (n : Nat) (k p : Int32) : AnsL :=
  if k < 0 then (4, refL (-4)) else if 8 < k then (6, refL (-6)) else if nI n < k then (3, refL (-3)) else if p < 0 ∨ 1 < p then (2, refL (-2))
  else (0, partL (waysL (nI n) (ix k) 0 1 - waysL (pcI (K 0 1)) (ix k) 0 1) (waysL (nI n) (ix k) 0 1) p)
/-- the choices looked at one by one: all of q, and those with one that is not done -/
def insK (d q : Int32) : Nat → Nat → Int64 × Int64 → Int64 × Int64
  | 0, _, a => a
  | k + 1, i, a => insK d q k (i + 1) (if pcI (nI i) = q then (a.1 + 1, if nI i &&& (d ^^^ (-1)) = 0 then a.2 + 0 else a.2 + 1) else a)
set_option maxRecDepth 100000 in
theorem X4_inspected_l (H : Rules C T) {S K : Mem} {n : Nat} (X : XK S K n) {q p : Int32} {Q : Pst} : ∀ (k i : Nat) (a : Int64 × Int64), i + k = 2 ^ n → Q (some (.long (partL (insK (K 0 1) q k i a).2 (insK (K 0 1) q k i a).1 p))) S → T mX4_inspected Q 66 [some (.ref 0), some (.int q), some (.int p), some (.long a.1), none, some (.long a.2), none, some (.int (nI i))] [] S := by
  obtain ⟨R, hn, hn8, hz⟩ := X
  have h256 := pow_le8 hn8
  intro k
  induction k with
  | zero =>
    intro i a hi h1
    have hge : (1 : Int32) <<< (nI n &&& 31) ≤ nI i := by rw [shl1 n hn8]; exact nI_le (by omega) (by omega)
    skip
    repeat' (first | (refine Rules.st H okX4_inspected [66] ?_; conv => whnf) | refine br_t (by first | decide | assumption) ?_ | refine br_f (by first | decide | assumption) ?_ | refine br_c (fun _ => ?_) (fun _ => ?_) | refine ⟨by decide, ?_⟩ | refine ⟨by first | assumption | (unfold vp_in; decide) | ((with_reducible (refine vp_in_nI ?_ ?_)) <;> omega), ?_⟩ | fail)
    refine X1_rooms H (Or.inl rfl) R ?_
    rw [hn]
    repeat' (first | (refine Rules.st H okX4_inspected [66] ?_; conv => whnf) | refine br_t (by first | decide | assumption) ?_ | refine br_f (by first | decide | assumption) ?_ | refine br_c (fun _ => ?_) (fun _ => ?_) | refine ⟨by decide, ?_⟩ | refine ⟨by first | assumption | (unfold vp_in; decide) | ((with_reducible (refine vp_in_nI ?_ ?_)) <;> omega), ?_⟩ | fail)
    refine X4_partOf H ?_
    repeat' (first | (refine Rules.st H okX4_inspected [66] ?_; conv => whnf) | refine br_t (by first | decide | assumption) ?_ | refine br_f (by first | decide | assumption) ?_ | refine br_c (fun _ => ?_) (fun _ => ?_) | refine ⟨by decide, ?_⟩ | refine ⟨by first | assumption | (unfold vp_in; decide) | ((with_reducible (refine vp_in_nI ?_ ?_)) <;> omega), ?_⟩ | fail)
    exact h1
  | succ k ih =>
    intro i a hi h1
    have hge : ¬ (1 : Int32) <<< (nI n &&& 31) ≤ nI i := by rw [shl1 n hn8]; exact nI_ge (by omega) (by omega)
    unfold insK at h1
    have nx : ∀ (a' : Int64 × Int64), Q (some (.long (partL (insK (K 0 1) q k (i + 1) a').2 (insK (K 0 1) q k (i + 1) a').1 p))) S → Halt (T mX4_inspected Q 66 [some (.ref 0), some (.int q), some (.int p), some (.long a'.1), none, some (.long a'.2), none, some (.int (nI i + 1))] [] S) := fun a' e => Halt.mk (by
      rw [nI_1]
      exact ih (i + 1) a' (by omega) e)
    skip
    repeat' (first | (refine Rules.st H okX4_inspected [66] ?_; conv => whnf) | refine br_t (by first | decide | assumption) ?_ | refine br_f (by first | decide | assumption) ?_ | refine br_c (fun _ => ?_) (fun _ => ?_) | refine ⟨by decide, ?_⟩ | refine ⟨by first | assumption | (unfold vp_in; decide) | ((with_reducible (refine vp_in_nI ?_ ?_)) <;> omega), ?_⟩ | fail)
    refine X1_rooms H (Or.inl rfl) R ?_
    rw [hn]
    repeat' (first | (refine Rules.st H okX4_inspected [66] ?_; conv => whnf) | refine br_t (by first | decide | assumption) ?_ | refine br_f (by first | decide | assumption) ?_ | refine br_c (fun _ => ?_) (fun _ => ?_) | refine ⟨by decide, ?_⟩ | refine ⟨by first | assumption | (unfold vp_in; decide) | ((with_reducible (refine vp_in_nI ?_ ?_)) <;> omega), ?_⟩ | fail)
    refine J6_bitCount H ?_
    repeat' (first | (refine Rules.st H okX4_inspected [66] ?_; conv => whnf) | refine br_t (by first | decide | assumption) ?_ | refine br_f (by first | decide | assumption) ?_ | refine br_c (fun _ => ?_) (fun _ => ?_) | refine ⟨by decide, ?_⟩ | refine ⟨by first | assumption | (unfold vp_in; decide) | ((with_reducible (refine vp_in_nI ?_ ?_)) <;> omega), ?_⟩ | fail)
    · rw [if_pos (by assumption)] at h1
      refine X1_doneBits H (Or.inl rfl) R ?_
      repeat' (first | (refine Rules.st H okX4_inspected [66] ?_; conv => whnf) | refine br_t (by first | decide | assumption) ?_ | refine br_f (by first | decide | assumption) ?_ | refine br_c (fun _ => ?_) (fun _ => ?_) | refine ⟨by decide, ?_⟩ | refine ⟨by first | assumption | (unfold vp_in; decide) | ((with_reducible (refine vp_in_nI ?_ ?_)) <;> omega), ?_⟩ | fail)
      · rw [if_pos (by assumption)] at h1
        exact nx _ h1
      · rw [if_neg (by assumption)] at h1
        exact nx _ h1
    · rw [if_neg (by assumption)] at h1
      exact nx a h1
def F_inspectedC (K : Mem) (n : Nat) (k p : Int32) : AnsL :=
  if k < 0 then (4, refL (-4)) else if 8 < k then (6, refL (-6)) else if nI n < k then (3, refL (-3)) else if p < 0 ∨ 1 < p then (2, refL (-2))
  else (0, partL (insK (K 0 1) k (2 ^ n) 0 (0, 0)).2 (insK (K 0 1) k (2 ^ n) 0 (0, 0)).1 p)
set_option maxRecDepth 100000 in
theorem X4_inspectedC (H : Rules C T) {S K : Mem} {n : Nat} (X : XK S K n) {k p : Int32} {Q : Pst} (h1 : AnsXL S (F_inspectedC K n k p) Q) : C mX4_inspected [.ref 0, .int k, .int p] S Q := by
  have X0 := X
  obtain ⟨R, hn, hn8, hz⟩ := X
  unfold F_inspectedC refL at h1
  refine Rules.go H (by decide) (Nat.le_of_ble_eq_true rfl) ?_
  repeat' (first | (refine Rules.st H okX4_inspected [66] ?_; conv => whnf) | refine br_t (by first | decide | assumption) ?_ | refine br_f (by first | decide | assumption) ?_ | refine br_c (fun _ => ?_) (fun _ => ?_) | refine ⟨by decide, ?_⟩ | refine ⟨by first | assumption | (unfold vp_in; decide) | ((with_reducible (refine vp_in_nI ?_ ?_)) <;> omega), ?_⟩ | fail)
  · have g1 : 0 ≤ k := by assumption
    have g2 : k ≤ 8 := by assumption
    rw [if_neg (Int32.not_lt.mpr g1), if_neg (Int32.not_lt.mpr g2)] at h1
    refine X1_rooms H (Or.inl rfl) R ?_
    rw [hn]
    repeat' (first | (refine Rules.st H okX4_inspected [66] ?_; conv => whnf) | refine br_t (by first | decide | assumption) ?_ | refine br_f (by first | decide | assumption) ?_ | refine br_c (fun _ => ?_) (fun _ => ?_) | refine ⟨by decide, ?_⟩ | refine ⟨by first | assumption | (unfold vp_in; decide) | ((with_reducible (refine vp_in_nI ?_ ?_)) <;> omega), ?_⟩ | fail)
    · rw [if_neg (Int32.not_lt.mpr (by assumption)), if_pos (Or.inl (by assumption))] at h1
      refine X4_refL H (ScX.rf) (k := 2) (by omega) (by omega) (by decide) (fun S' hS' => ?_)
      repeat' (first | (refine Rules.st H okX4_inspected [66] ?_; conv => whnf) | refine br_t (by first | decide | assumption) ?_ | refine br_f (by first | decide | assumption) ?_ | refine br_c (fun _ => ?_) (fun _ => ?_) | refine ⟨by decide, ?_⟩ | refine ⟨by first | assumption | (unfold vp_in; decide) | ((with_reducible (refine vp_in_nI ?_ ?_)) <;> omega), ?_⟩ | fail)
      exact h1 S' hS'
    · rw [if_neg (Int32.not_lt.mpr (by assumption)), if_neg (fun z => z.elim (by assumption) (Int32.not_lt.mpr (by assumption)))] at h1
      exact Halt.mk (X4_inspected_l H X0 (2 ^ n) 0 (0, 0) (by omega) (h1 S ScX.rf))
    · rw [if_neg (Int32.not_lt.mpr (by assumption)), if_pos (Or.inr (Int32.not_le.mp (by assumption)))] at h1
      refine X4_refL H (ScX.rf) (k := 2) (by omega) (by omega) (by decide) (fun S' hS' => ?_)
      repeat' (first | (refine Rules.st H okX4_inspected [66] ?_; conv => whnf) | refine br_t (by first | decide | assumption) ?_ | refine br_f (by first | decide | assumption) ?_ | refine br_c (fun _ => ?_) (fun _ => ?_) | refine ⟨by decide, ?_⟩ | refine ⟨by first | assumption | (unfold vp_in; decide) | ((with_reducible (refine vp_in_nI ?_ ?_)) <;> omega), ?_⟩ | fail)
      exact h1 S' hS'
    · rw [if_pos (Int32.not_le.mp (by assumption))] at h1
      refine X4_refL H (ScX.rf) (k := 3) (by omega) (by omega) (by decide) (fun S' hS' => ?_)
      repeat' (first | (refine Rules.st H okX4_inspected [66] ?_; conv => whnf) | refine br_t (by first | decide | assumption) ?_ | refine br_f (by first | decide | assumption) ?_ | refine br_c (fun _ => ?_) (fun _ => ?_) | refine ⟨by decide, ?_⟩ | refine ⟨by first | assumption | (unfold vp_in; decide) | ((with_reducible (refine vp_in_nI ?_ ?_)) <;> omega), ?_⟩ | fail)
      exact h1 S' hS'
  · rw [if_neg (Int32.not_lt.mpr (by assumption)), if_pos (Int32.not_le.mp (by assumption))] at h1
    refine X4_refL H (ScX.rf) (k := 6) (by omega) (by omega) (by decide) (fun S' hS' => ?_)
    repeat' (first | (refine Rules.st H okX4_inspected [66] ?_; conv => whnf) | refine br_t (by first | decide | assumption) ?_ | refine br_f (by first | decide | assumption) ?_ | refine br_c (fun _ => ?_) (fun _ => ?_) | refine ⟨by decide, ?_⟩ | refine ⟨by first | assumption | (unfold vp_in; decide) | ((with_reducible (refine vp_in_nI ?_ ?_)) <;> omega), ?_⟩ | fail)
    exact h1 S' hS'
  · rw [if_pos (Int32.not_le.mp (by assumption))] at h1
    refine X4_refL H (ScX.rf) (k := 4) (by omega) (by omega) (by decide) (fun S' hS' => ?_)
    repeat' (first | (refine Rules.st H okX4_inspected [66] ?_; conv => whnf) | refine br_t (by first | decide | assumption) ?_ | refine br_f (by first | decide | assumption) ?_ | refine br_c (fun _ => ?_) (fun _ => ?_) | refine ⟨by decide, ?_⟩ | refine ⟨by first | assumption | (unfold vp_in; decide) | ((with_reducible (refine vp_in_nI ?_ ?_)) <;> omega), ?_⟩ | fail)
    exact h1 S' hS'
/-! how likely -/
def popN (i : Nat) : Nat := i % 2 + i / 2 % 2 + i / 4 % 2 + i / 8 % 2 + i / 16 % 2 + i / 32 % 2 + i / 64 % 2 + i / 128 % 2
set_option maxRecDepth 100000 in
theorem pop_sub : ∀ n, n ≤ 8 → ∀ i, i < 2 ^ n → nI n - pcI (nI i) = nI (n - popN i) := by decide +kernel
def likK (K : Mem) (n m : Nat) (v t : Int32) : Nat → Nat → Int64 → Int64
  | 0, _, a => a
  | k + 1, i, a => likK K n m v t k (i + 1) (if v ≤ pcI (longK m n (up K 0 3 (nI i)) 0 1) then a + powL (t - 1).toInt64 (n - popN i) 1 else a)
set_option maxRecDepth 100000 in
theorem X4_likely_l (H : Rules C T) {K : Mem} {n m : Nat} (hm : m < 2) {v t p : Int32} {Q : Pst} : ∀ (k i : Nat) (a : Int64) (S : Mem), i + k = 2 ^ n → XK S K n → (∀ S', Fr 7 12 S S' → Q (some (.long (partL (likK K n m v t k i a) (powL t.toInt64 n 1) p))) S') → T mX4_likely Q 85 [some (.ref 0), some (.int (nI m)), some (.int v), some (.int t), some (.int p), some (.int (nI n)), some (.long a), none, some (.int (nI i))] [] S := by
  intro k
  induction k with
  | zero =>
    intro i a S hi X h1
    obtain ⟨R, hn, hn8, hz⟩ := X
    have h256 := pow_le8 hn8
    have hge : (1 : Int32) <<< (nI n &&& 31) ≤ nI i := by rw [shl1 n hn8]; exact nI_le (by omega) (by omega)
    skip
    repeat' (first | (refine Rules.st H okX4_likely [85] ?_; conv => whnf) | refine br_t (by first | decide | assumption) ?_ | refine br_f (by first | decide | assumption) ?_ | refine br_c (fun _ => ?_) (fun _ => ?_) | refine ⟨by decide, ?_⟩ | refine ⟨by first | assumption | (unfold vp_in; decide) | ((with_reducible (refine vp_in_nI ?_ ?_)) <;> omega), ?_⟩ | fail)
    refine X4_power H (by omega) ?_
    repeat' (first | (refine Rules.st H okX4_likely [85] ?_; conv => whnf) | refine br_t (by first | decide | assumption) ?_ | refine br_f (by first | decide | assumption) ?_ | refine br_c (fun _ => ?_) (fun _ => ?_) | refine ⟨by decide, ?_⟩ | refine ⟨by first | assumption | (unfold vp_in; decide) | ((with_reducible (refine vp_in_nI ?_ ?_)) <;> omega), ?_⟩ | fail)
    refine X4_partOf H ?_
    repeat' (first | (refine Rules.st H okX4_likely [85] ?_; conv => whnf) | refine br_t (by first | decide | assumption) ?_ | refine br_f (by first | decide | assumption) ?_ | refine br_c (fun _ => ?_) (fun _ => ?_) | refine ⟨by decide, ?_⟩ | refine ⟨by first | assumption | (unfold vp_in; decide) | ((with_reducible (refine vp_in_nI ?_ ?_)) <;> omega), ?_⟩ | fail)
    exact h1 S Fr.rf
  | succ k ih =>
    intro i a S hi X h1
    obtain ⟨R, hn, hn8, hz⟩ := X
    have h256 := pow_le8 hn8
    have hge : ¬ (1 : Int32) <<< (nI n &&& 31) ≤ nI i := by rw [shl1 n hn8]; exact nI_ge (by omega) (by omega)
    unfold likK at h1
    have nx : ∀ (a' : Int64) (S1 : Mem), Fr 7 12 S S1 → (∀ S', Fr 7 12 S S' → Q (some (.long (partL (likK K n m v t k (i + 1) a') (powL t.toInt64 n 1) p))) S') → Halt (T mX4_likely Q 85 [some (.ref 0), some (.int (nI m)), some (.int v), some (.int t), some (.int p), some (.int (nI n)), some (.long a'), none, some (.int (nI i + 1))] [] S1) := fun a' S1 F e => Halt.mk (by
      rw [nI_1]
      exact ih (i + 1) a' S1 (by omega) ⟨R.fr F (by omega), hn, hn8, hz⟩ (fun S' F' => e S' (F.tr F')))
    skip
    repeat' (first | (refine Rules.st H okX4_likely [85] ?_; conv => whnf) | refine br_t (by first | decide | assumption) ?_ | refine br_f (by first | decide | assumption) ?_ | refine br_c (fun _ => ?_) (fun _ => ?_) | refine ⟨by decide, ?_⟩ | refine ⟨by first | assumption | (unfold vp_in; decide) | ((with_reducible (refine vp_in_nI ?_ ?_)) <;> omega), ?_⟩ | fail)
    refine X4_think H R hz (fun S1 R1 F1 => ?_)
    repeat' (first | (refine Rules.st H okX4_likely [85] ?_; conv => whnf) | refine br_t (by first | decide | assumption) ?_ | refine br_f (by first | decide | assumption) ?_ | refine br_c (fun _ => ?_) (fun _ => ?_) | refine ⟨by decide, ?_⟩ | refine ⟨by first | assumption | (unfold vp_in; decide) | ((with_reducible (refine vp_in_nI ?_ ?_)) <;> omega), ?_⟩ | fail)
    refine X1_keepIn H (Or.inr (Or.inl rfl)) R1 (fun S2 R2 F2 => ?_)
    repeat' (first | (refine Rules.st H okX4_likely [85] ?_; conv => whnf) | refine br_t (by first | decide | assumption) ?_ | refine br_f (by first | decide | assumption) ?_ | refine br_c (fun _ => ?_) (fun _ => ?_) | refine ⟨by decide, ?_⟩ | refine ⟨by first | assumption | (unfold vp_in; decide) | ((with_reducible (refine vp_in_nI ?_ ?_)) <;> omega), ?_⟩ | fail)
    refine X1_longRound H (Or.inr (Or.inl rfl)) hn8 hm R2 (by rw [up_j (by omega)]; exact hn) (fun S3 R3 F3 => ?_)
    have F : Fr 7 12 S S3 := (F1.tr F2).tr F3
    repeat' (first | (refine Rules.st H okX4_likely [85] ?_; conv => whnf) | refine br_t (by first | decide | assumption) ?_ | refine br_f (by first | decide | assumption) ?_ | refine br_c (fun _ => ?_) (fun _ => ?_) | refine ⟨by decide, ?_⟩ | refine ⟨by first | assumption | (unfold vp_in; decide) | ((with_reducible (refine vp_in_nI ?_ ?_)) <;> omega), ?_⟩ | fail)
    refine X1_doneCount H (Or.inr (Or.inl rfl)) R3 ?_
    repeat' (first | (refine Rules.st H okX4_likely [85] ?_; conv => whnf) | refine br_t (by first | decide | assumption) ?_ | refine br_f (by first | decide | assumption) ?_ | refine br_c (fun _ => ?_) (fun _ => ?_) | refine ⟨by decide, ?_⟩ | refine ⟨by first | assumption | (unfold vp_in; decide) | ((with_reducible (refine vp_in_nI ?_ ?_)) <;> omega), ?_⟩ | fail)
    · rw [if_neg (Int32.not_le.mpr (by assumption))] at h1
      exact nx a S3 F h1
    · rw [if_pos (Int32.not_lt.mp (by assumption))] at h1
      refine J6_bitCount H ?_
      repeat' (first | (refine Rules.st H okX4_likely [85] ?_; conv => whnf) | refine br_t (by first | decide | assumption) ?_ | refine br_f (by first | decide | assumption) ?_ | refine br_c (fun _ => ?_) (fun _ => ?_) | refine ⟨by decide, ?_⟩ | refine ⟨by first | assumption | (unfold vp_in; decide) | ((with_reducible (refine vp_in_nI ?_ ?_)) <;> omega), ?_⟩ | fail)
      rw [pop_sub n hn8 i (by omega)]
      refine X4_power H (by omega) ?_
      repeat' (first | (refine Rules.st H okX4_likely [85] ?_; conv => whnf) | refine br_t (by first | decide | assumption) ?_ | refine br_f (by first | decide | assumption) ?_ | refine br_c (fun _ => ?_) (fun _ => ?_) | refine ⟨by decide, ?_⟩ | refine ⟨by first | assumption | (unfold vp_in; decide) | ((with_reducible (refine vp_in_nI ?_ ?_)) <;> omega), ?_⟩ | fail)
      exact nx _ S3 F h1
def F_likely (K : Mem) (n : Nat) (m v t p : Int32) : AnsL :=
  if okM m then if v < 0 ∨ t < 2 then (4, refL (-4)) else if 8 < v ∨ 20 < t then (6, refL (-6)) else if p < 0 ∨ 1 < p then (2, refL (-2))
    else (0, partL (likK K n (ix m) v t (2 ^ n) 0 0) (powL t.toInt64 n 1) p) else (1, refL (-1))
set_option maxRecDepth 100000 in
theorem X4_likely (H : Rules C T) {S K : Mem} {n : Nat} (X : XK S K n) {m v t p : Int32} {Q : Pst} (h1 : AnsXL S (F_likely K n m v t p) Q) : C mX4_likely [.ref 0, .int m, .int v, .int t, .int p] S Q := by
  have X0 := X
  obtain ⟨R, hn, hn8, hz⟩ := X
  unfold F_likely refL at h1
  refine Rules.go H (by decide) (Nat.le_of_ble_eq_true rfl) ?_
  repeat' (first | (refine Rules.st H okX4_likely [85] ?_; conv => whnf) | refine br_t (by first | decide | assumption) ?_ | refine br_f (by first | decide | assumption) ?_ | refine br_c (fun _ => ?_) (fun _ => ?_) | refine ⟨by decide, ?_⟩ | refine ⟨by first | assumption | (unfold vp_in; decide) | ((with_reducible (refine vp_in_nI ?_ ?_)) <;> omega), ?_⟩ | fail)
  refine X1_hasMaid H (fun i hi e => ?_) (fun hno => ?_)
  · subst e
    rw [show ix (nI i) = i from nIc (by omega), if_pos (okM_nI hi)] at h1
    by_cases g1 : v < 0
    · rw [if_pos (Or.inl g1)] at h1
      repeat' (first | (refine Rules.st H okX4_likely [85] ?_; conv => whnf) | refine br_t (by first | decide | assumption) ?_ | refine br_f (by first | decide | assumption) ?_ | refine br_c (fun _ => ?_) (fun _ => ?_) | refine ⟨by decide, ?_⟩ | refine ⟨by first | assumption | (unfold vp_in; decide) | ((with_reducible (refine vp_in_nI ?_ ?_)) <;> omega), ?_⟩ | fail)
      refine X4_refL H (ScX.rf) (k := 4) (by omega) (by omega) (by decide) (fun S' hS' => ?_)
      repeat' (first | (refine Rules.st H okX4_likely [85] ?_; conv => whnf) | refine br_t (by first | decide | assumption) ?_ | refine br_f (by first | decide | assumption) ?_ | refine br_c (fun _ => ?_) (fun _ => ?_) | refine ⟨by decide, ?_⟩ | refine ⟨by first | assumption | (unfold vp_in; decide) | ((with_reducible (refine vp_in_nI ?_ ?_)) <;> omega), ?_⟩ | fail)
      exact h1 S' hS'
    · by_cases g2 : 2 ≤ t
      · rw [if_neg (fun z => z.elim g1 (Int32.not_lt.mpr g2))] at h1
        by_cases g3 : 8 < v
        · rw [if_pos (Or.inl g3)] at h1
          repeat' (first | (refine Rules.st H okX4_likely [85] ?_; conv => whnf) | refine br_t (by first | decide | assumption) ?_ | refine br_f (by first | decide | assumption) ?_ | refine br_c (fun _ => ?_) (fun _ => ?_) | refine ⟨by decide, ?_⟩ | refine ⟨by first | assumption | (unfold vp_in; decide) | ((with_reducible (refine vp_in_nI ?_ ?_)) <;> omega), ?_⟩ | fail)
          refine X4_refL H (ScX.rf) (k := 6) (by omega) (by omega) (by decide) (fun S' hS' => ?_)
          repeat' (first | (refine Rules.st H okX4_likely [85] ?_; conv => whnf) | refine br_t (by first | decide | assumption) ?_ | refine br_f (by first | decide | assumption) ?_ | refine br_c (fun _ => ?_) (fun _ => ?_) | refine ⟨by decide, ?_⟩ | refine ⟨by first | assumption | (unfold vp_in; decide) | ((with_reducible (refine vp_in_nI ?_ ?_)) <;> omega), ?_⟩ | fail)
          exact h1 S' hS'
        · by_cases g4 : t ≤ 20
          · rw [if_neg (fun z => z.elim g3 (Int32.not_lt.mpr g4))] at h1
            by_cases g5 : p < 0
            · rw [if_pos (Or.inl g5)] at h1
              repeat' (first | (refine Rules.st H okX4_likely [85] ?_; conv => whnf) | refine br_t (by first | decide | assumption) ?_ | refine br_f (by first | decide | assumption) ?_ | refine br_c (fun _ => ?_) (fun _ => ?_) | refine ⟨by decide, ?_⟩ | refine ⟨by first | assumption | (unfold vp_in; decide) | ((with_reducible (refine vp_in_nI ?_ ?_)) <;> omega), ?_⟩ | fail)
              refine X4_refL H (ScX.rf) (k := 2) (by omega) (by omega) (by decide) (fun S' hS' => ?_)
              repeat' (first | (refine Rules.st H okX4_likely [85] ?_; conv => whnf) | refine br_t (by first | decide | assumption) ?_ | refine br_f (by first | decide | assumption) ?_ | refine br_c (fun _ => ?_) (fun _ => ?_) | refine ⟨by decide, ?_⟩ | refine ⟨by first | assumption | (unfold vp_in; decide) | ((with_reducible (refine vp_in_nI ?_ ?_)) <;> omega), ?_⟩ | fail)
              exact h1 S' hS'
            · by_cases g6 : p ≤ 1
              · rw [if_neg (fun z => z.elim g5 (Int32.not_lt.mpr g6))] at h1
                repeat' (first | (refine Rules.st H okX4_likely [85] ?_; conv => whnf) | refine br_t (by first | decide | assumption) ?_ | refine br_f (by first | decide | assumption) ?_ | refine br_c (fun _ => ?_) (fun _ => ?_) | refine ⟨by decide, ?_⟩ | refine ⟨by first | assumption | (unfold vp_in; decide) | ((with_reducible (refine vp_in_nI ?_ ?_)) <;> omega), ?_⟩ | fail)
                refine X1_rooms H (Or.inl rfl) R ?_
                rw [hn]
                repeat' (first | (refine Rules.st H okX4_likely [85] ?_; conv => whnf) | refine br_t (by first | decide | assumption) ?_ | refine br_f (by first | decide | assumption) ?_ | refine br_c (fun _ => ?_) (fun _ => ?_) | refine ⟨by decide, ?_⟩ | refine ⟨by first | assumption | (unfold vp_in; decide) | ((with_reducible (refine vp_in_nI ?_ ?_)) <;> omega), ?_⟩ | fail)
                exact Halt.mk (X4_likely_l H hi (2 ^ n) 0 0 S (by omega) X0 (fun S' F' => h1 S' (ScX.f7 F')))
              · rw [if_pos (Or.inr (Int32.not_le.mp g6))] at h1
                repeat' (first | (refine Rules.st H okX4_likely [85] ?_; conv => whnf) | refine br_t (by first | decide | assumption) ?_ | refine br_f (by first | decide | assumption) ?_ | refine br_c (fun _ => ?_) (fun _ => ?_) | refine ⟨by decide, ?_⟩ | refine ⟨by first | assumption | (unfold vp_in; decide) | ((with_reducible (refine vp_in_nI ?_ ?_)) <;> omega), ?_⟩ | fail)
                refine X4_refL H (ScX.rf) (k := 2) (by omega) (by omega) (by decide) (fun S' hS' => ?_)
                repeat' (first | (refine Rules.st H okX4_likely [85] ?_; conv => whnf) | refine br_t (by first | decide | assumption) ?_ | refine br_f (by first | decide | assumption) ?_ | refine br_c (fun _ => ?_) (fun _ => ?_) | refine ⟨by decide, ?_⟩ | refine ⟨by first | assumption | (unfold vp_in; decide) | ((with_reducible (refine vp_in_nI ?_ ?_)) <;> omega), ?_⟩ | fail)
                exact h1 S' hS'
          · rw [if_pos (Or.inr (Int32.not_le.mp g4))] at h1
            repeat' (first | (refine Rules.st H okX4_likely [85] ?_; conv => whnf) | refine br_t (by first | decide | assumption) ?_ | refine br_f (by first | decide | assumption) ?_ | refine br_c (fun _ => ?_) (fun _ => ?_) | refine ⟨by decide, ?_⟩ | refine ⟨by first | assumption | (unfold vp_in; decide) | ((with_reducible (refine vp_in_nI ?_ ?_)) <;> omega), ?_⟩ | fail)
            refine X4_refL H (ScX.rf) (k := 6) (by omega) (by omega) (by decide) (fun S' hS' => ?_)
            repeat' (first | (refine Rules.st H okX4_likely [85] ?_; conv => whnf) | refine br_t (by first | decide | assumption) ?_ | refine br_f (by first | decide | assumption) ?_ | refine br_c (fun _ => ?_) (fun _ => ?_) | refine ⟨by decide, ?_⟩ | refine ⟨by first | assumption | (unfold vp_in; decide) | ((with_reducible (refine vp_in_nI ?_ ?_)) <;> omega), ?_⟩ | fail)
            exact h1 S' hS'
      · rw [if_pos (Or.inr (Int32.not_le.mp g2))] at h1
        repeat' (first | (refine Rules.st H okX4_likely [85] ?_; conv => whnf) | refine br_t (by first | decide | assumption) ?_ | refine br_f (by first | decide | assumption) ?_ | refine br_c (fun _ => ?_) (fun _ => ?_) | refine ⟨by decide, ?_⟩ | refine ⟨by first | assumption | (unfold vp_in; decide) | ((with_reducible (refine vp_in_nI ?_ ?_)) <;> omega), ?_⟩ | fail)
        refine X4_refL H (ScX.rf) (k := 4) (by omega) (by omega) (by decide) (fun S' hS' => ?_)
        repeat' (first | (refine Rules.st H okX4_likely [85] ?_; conv => whnf) | refine br_t (by first | decide | assumption) ?_ | refine br_f (by first | decide | assumption) ?_ | refine br_c (fun _ => ?_) (fun _ => ?_) | refine ⟨by decide, ?_⟩ | refine ⟨by first | assumption | (unfold vp_in; decide) | ((with_reducible (refine vp_in_nI ?_ ?_)) <;> omega), ?_⟩ | fail)
        exact h1 S' hS'
  · rw [if_neg (okM_neg hno)] at h1
    repeat' (first | (refine Rules.st H okX4_likely [85] ?_; conv => whnf) | refine br_t (by first | decide | assumption) ?_ | refine br_f (by first | decide | assumption) ?_ | refine br_c (fun _ => ?_) (fun _ => ?_) | refine ⟨by decide, ?_⟩ | refine ⟨by first | assumption | (unfold vp_in; decide) | ((with_reducible (refine vp_in_nI ?_ ?_)) <;> omega), ?_⟩ | fail)
    refine X4_refL H (ScX.rf) (k := 1) (by omega) (by omega) (by decide) (fun S' hS' => ?_)
    repeat' (first | (refine Rules.st H okX4_likely [85] ?_; conv => whnf) | refine br_t (by first | decide | assumption) ?_ | refine br_f (by first | decide | assumption) ?_ | refine br_c (fun _ => ?_) (fun _ => ?_) | refine ⟨by decide, ?_⟩ | refine ⟨by first | assumption | (unfold vp_in; decide) | ((with_reducible (refine vp_in_nI ?_ ?_)) <;> omega), ?_⟩ | fail)
    exact h1 S' hS'
/-! shares -/
def shareK (K : Mem) (n : Nat) (set : Int32) : Nat → Nat → Bst → Bst
  | 0, _, b => b
  | k + 1, i, b => shareK K n set k (i + 1) (if nI i &&& (set ^^^ (-1)) = 0 then
      offB b (nI i) (pcI (roundK 1 (nI i) n 0 (roundK 0 (set &&& (nI i ^^^ (-1))) n 0 K) 0 1)) (laterK (roundK 1 (nI i) n 0 (roundK 0 (set &&& (nI i ^^^ (-1))) n 0 K))) else b)
def bsA (w : Int32) (b : Bst) : Int32 := match b with
  | none => 0
  | some (a, d, t) => if w = 0 then a else if w = 1 then d else t
set_option maxRecDepth 100000 in
theorem offB_some (b : Bst) (a d t : Int32) : ¬ offB b a d t = none := by
  unfold offB
  split
  · intro z; cases z
  · split
    · intro z; cases z
    · intro z; cases z
set_option maxRecDepth 100000 in
theorem RepB.fr {S S' : Mem} {b : Bst} {x y : Nat} (h : RepB S b) (F : Fr x y S S') (hxy : y < 24 ∨ 24 < x) : RepB S' b := by
  unfold RepB at h ⊢
  split
  · rw [F 24 0 (by omega)]; exact h
  · rw [F 24 0 (by omega), F 24 1 (by omega), F 24 2 (by omega), F 24 3 (by omega)]; exact h
set_option maxRecDepth 100000 in
theorem X4_share_l (H : Rules C T) {K : Mem} {n : Nat} {set w : Int32} {x : Int32} {Q : Pst} {S0 : Mem} : ∀ (k i : Nat) (b : Bst) (S : Mem), i + k = 2 ^ n → (i = 0 ∨ ¬ b = none) → XK S K n → RepB S b → ScX 0 S0 S → (∀ S', ScX 0 S0 S' → Q (some (.int (bsA w (shareK K n set k i b)))) S') → T mX4_share Q 42 [some (.ref 0), some (.int set), some (.int w), some (.int x), some (.int (nI i))] [] S := by
  intro k
  induction k with
  | zero =>
    intro i b S hi hb X B hs h1
    obtain ⟨R, hn, hn8, hz⟩ := X
    have h256 := pow_le8 hn8
    have hp : 0 < 2 ^ n := Nat.pow_pos (by omega)
    have hge : (1 : Int32) <<< (nI n &&& 31) ≤ nI i := by rw [shl1 n hn8]; exact nI_le (by omega) (by omega)
    cases b with
    | none => exact (hb.elim (by omega) (fun z => z rfl)).elim
    | some b =>
      obtain ⟨a, d, t⟩ := b
      skip
      repeat' (first | (refine Rules.st H okX4_share [42] ?_; conv => whnf) | refine br_t (by first | decide | assumption) ?_ | refine br_f (by first | decide | assumption) ?_ | refine br_c (fun _ => ?_) (fun _ => ?_) | refine ⟨by decide, ?_⟩ | refine ⟨by first | assumption | (unfold vp_in; decide) | ((with_reducible (refine vp_in_nI ?_ ?_)) <;> omega), ?_⟩ | fail)
      refine X1_rooms H (Or.inl rfl) R ?_
      rw [hn]
      repeat' (first | (refine Rules.st H okX4_share [42] ?_; conv => whnf) | refine br_t (by first | decide | assumption) ?_ | refine br_f (by first | decide | assumption) ?_ | refine br_c (fun _ => ?_) (fun _ => ?_) | refine ⟨by decide, ?_⟩ | refine ⟨by first | assumption | (unfold vp_in; decide) | ((with_reducible (refine vp_in_nI ?_ ?_)) <;> omega), ?_⟩ | fail)
      refine X0_answer H B ?_
      repeat' (first | (refine Rules.st H okX4_share [42] ?_; conv => whnf) | refine br_t (by first | decide | assumption) ?_ | refine br_f (by first | decide | assumption) ?_ | refine br_c (fun _ => ?_) (fun _ => ?_) | refine ⟨by decide, ?_⟩ | refine ⟨by first | assumption | (unfold vp_in; decide) | ((with_reducible (refine vp_in_nI ?_ ?_)) <;> omega), ?_⟩ | fail)
      exact h1 S hs
  | succ k ih =>
    intro i b S hi hb X B hs h1
    obtain ⟨R, hn, hn8, hz⟩ := X
    have h256 := pow_le8 hn8
    have hge : ¬ (1 : Int32) <<< (nI n &&& 31) ≤ nI i := by rw [shl1 n hn8]; exact nI_ge (by omega) (by omega)
    unfold shareK at h1
    skip
    repeat' (first | (refine Rules.st H okX4_share [42] ?_; conv => whnf) | refine br_t (by first | decide | assumption) ?_ | refine br_f (by first | decide | assumption) ?_ | refine br_c (fun _ => ?_) (fun _ => ?_) | refine ⟨by decide, ?_⟩ | refine ⟨by first | assumption | (unfold vp_in; decide) | ((with_reducible (refine vp_in_nI ?_ ?_)) <;> omega), ?_⟩ | fail)
    refine X1_rooms H (Or.inl rfl) R ?_
    rw [hn]
    repeat' (first | (refine Rules.st H okX4_share [42] ?_; conv => whnf) | refine br_t (by first | decide | assumption) ?_ | refine br_f (by first | decide | assumption) ?_ | refine br_c (fun _ => ?_) (fun _ => ?_) | refine ⟨by decide, ?_⟩ | refine ⟨by first | assumption | (unfold vp_in; decide) | ((with_reducible (refine vp_in_nI ?_ ?_)) <;> omega), ?_⟩ | fail)
    · rw [if_pos (by assumption)] at h1
      refine X4_think H R hz (fun S1 R1 F1 => ?_)
      repeat' (first | (refine Rules.st H okX4_share [42] ?_; conv => whnf) | refine br_t (by first | decide | assumption) ?_ | refine br_f (by first | decide | assumption) ?_ | refine br_c (fun _ => ?_) (fun _ => ?_) | refine ⟨by decide, ?_⟩ | refine ⟨by first | assumption | (unfold vp_in; decide) | ((with_reducible (refine vp_in_nI ?_ ?_)) <;> omega), ?_⟩ | fail)
      refine X1_roundOver H (Or.inr (Or.inl rfl)) hn8 (m := 0) (by omega) R1 hn (fun S2 R2 F2 => ?_)
      repeat' (first | (refine Rules.st H okX4_share [42] ?_; conv => whnf) | refine br_t (by first | decide | assumption) ?_ | refine br_f (by first | decide | assumption) ?_ | refine br_c (fun _ => ?_) (fun _ => ?_) | refine ⟨by decide, ?_⟩ | refine ⟨by first | assumption | (unfold vp_in; decide) | ((with_reducible (refine vp_in_nI ?_ ?_)) <;> omega), ?_⟩ | fail)
      refine X1_roundOver H (Or.inr (Or.inl rfl)) hn8 (m := 1) (by omega) R2 ((roundK_n _ _ _ _ _).trans hn) (fun S3 R3 F3 => ?_)
      have F : Fr 7 12 S S3 := (F1.tr F2).tr F3
      repeat' (first | (refine Rules.st H okX4_share [42] ?_; conv => whnf) | refine br_t (by first | decide | assumption) ?_ | refine br_f (by first | decide | assumption) ?_ | refine br_c (fun _ => ?_) (fun _ => ?_) | refine ⟨by decide, ?_⟩ | refine ⟨by first | assumption | (unfold vp_in; decide) | ((with_reducible (refine vp_in_nI ?_ ?_)) <;> omega), ?_⟩ | fail)
      refine X1_doneCount H (Or.inr (Or.inl rfl)) R3 ?_
      repeat' (first | (refine Rules.st H okX4_share [42] ?_; conv => whnf) | refine br_t (by first | decide | assumption) ?_ | refine br_f (by first | decide | assumption) ?_ | refine br_c (fun _ => ?_) (fun _ => ?_) | refine ⟨by decide, ?_⟩ | refine ⟨by first | assumption | (unfold vp_in; decide) | ((with_reducible (refine vp_in_nI ?_ ?_)) <;> omega), ?_⟩ | fail)
      refine X1_laterClock H (Or.inr (Or.inl rfl)) R3 ?_
      repeat' (first | (refine Rules.st H okX4_share [42] ?_; conv => whnf) | refine br_t (by first | decide | assumption) ?_ | refine br_f (by first | decide | assumption) ?_ | refine br_c (fun _ => ?_) (fun _ => ?_) | refine ⟨by decide, ?_⟩ | refine ⟨by first | assumption | (unfold vp_in; decide) | ((with_reducible (refine vp_in_nI ?_ ?_)) <;> omega), ?_⟩ | fail)
      refine X0_offer H (B.fr F (by omega)) (fun S4 B4 F4 => ?_)
      repeat' (first | (refine Rules.st H okX4_share [42] ?_; conv => whnf) | refine br_t (by first | decide | assumption) ?_ | refine br_f (by first | decide | assumption) ?_ | refine br_c (fun _ => ?_) (fun _ => ?_) | refine ⟨by decide, ?_⟩ | refine ⟨by first | assumption | (unfold vp_in; decide) | ((with_reducible (refine vp_in_nI ?_ ?_)) <;> omega), ?_⟩ | fail)
      refine Halt.mk ?_
      show T mX4_share Q 42 [some (.ref 0), some (.int set), some (.int w), some (.int x), some (.int (nI i + 1))] [] _
      rw [nI_1]
      exact ih (i + 1) _ S4 (by omega) (Or.inr (offB_some _ _ _ _)) ⟨(R.fr F (by omega)).fr F4 (by omega), hn, hn8, hz⟩ B4 ((hs.tr (ScX.f7 F)).tr (ScX.f24 F4)) h1
    · have hne : ¬ nI i &&& (set ^^^ (-1)) = 0 := by assumption
      rw [if_neg hne] at h1
      refine Halt.mk ?_
      show T mX4_share Q 42 [some (.ref 0), some (.int set), some (.int w), some (.int x), some (.int (nI i + 1))] [] _
      rw [nI_1]
      exact ih (i + 1) b S (by omega) (Or.inr (hb.elim (fun z => absurd (by rw [z]; show (0 : Int32) &&& _ = 0; simp) hne) id)) ⟨R, hn, hn8, hz⟩ B hs h1
set_option maxRecDepth 100000 in
theorem setF_k {n : Nat} {x : Int32} : setF n x = 0 ∨ (kOf (setF n x) < 7 ∧ ¬ kOf (setF n x) = 0 ∧ -(setF n x) = nI (kOf (setF n x))) := by
  unfold setF
  split
  · exact Or.inr (by decide)
  · split
    · exact Or.inl rfl
    · exact Or.inr (by decide)
def F_share (K : Mem) (n : Nat) (set w : Int32) : Ans := if setF n set = 0 then if w < 0 ∨ 2 < w then (2, -2) else (0, bsA w (shareK K n set (2 ^ n) 0 none)) else (kOf (setF n set), setF n set)
set_option maxRecDepth 100000 in
theorem X4_share (H : Rules C T) {S K : Mem} {n : Nat} (X : XK S K n) {set w : Int32} {Q : Pst} (h1 : AnsX S (F_share K n set w) Q) : C mX4_share [.ref 0, .int set, .int w] S Q := by
  have X0 := X
  obtain ⟨R, hn, hn8, hz⟩ := X
  unfold F_share at h1
  refine Rules.go H (by decide) (Nat.le_of_ble_eq_true rfl) ?_
  repeat' (first | (refine Rules.st H okX4_share [42] ?_; conv => whnf) | refine br_t (by first | decide | assumption) ?_ | refine br_f (by first | decide | assumption) ?_ | refine br_c (fun _ => ?_) (fun _ => ?_) | refine ⟨by decide, ?_⟩ | refine ⟨by first | assumption | (unfold vp_in; decide) | ((with_reducible (refine vp_in_nI ?_ ?_)) <;> omega), ?_⟩ | fail)
  refine X4_setRefusal H R hn ?_
  repeat' (first | (refine Rules.st H okX4_share [42] ?_; conv => whnf) | refine br_t (by first | decide | assumption) ?_ | refine br_f (by first | decide | assumption) ?_ | refine br_c (fun _ => ?_) (fun _ => ?_) | refine ⟨by decide, ?_⟩ | refine ⟨by first | assumption | (unfold vp_in; decide) | ((with_reducible (refine vp_in_nI ?_ ?_)) <;> omega), ?_⟩ | fail)
  · rw [if_pos (by assumption), if_pos (Or.inl (by assumption))] at h1
    refine X4_ref H (ScX.rf) (k := 2) (by omega) (by omega) (by decide) (fun S' hS' => ?_)
    repeat' (first | (refine Rules.st H okX4_share [42] ?_; conv => whnf) | refine br_t (by first | decide | assumption) ?_ | refine br_f (by first | decide | assumption) ?_ | refine br_c (fun _ => ?_) (fun _ => ?_) | refine ⟨by decide, ?_⟩ | refine ⟨by first | assumption | (unfold vp_in; decide) | ((with_reducible (refine vp_in_nI ?_ ?_)) <;> omega), ?_⟩ | fail)
    exact h1 S' hS'
  · rw [if_pos (by assumption), if_neg (fun z => z.elim (by assumption) (Int32.not_lt.mpr (by assumption)))] at h1
    refine X0_forget H (fun S1 B1 F1 => ?_)
    repeat' (first | (refine Rules.st H okX4_share [42] ?_; conv => whnf) | refine br_t (by first | decide | assumption) ?_ | refine br_f (by first | decide | assumption) ?_ | refine br_c (fun _ => ?_) (fun _ => ?_) | refine ⟨by decide, ?_⟩ | refine ⟨by first | assumption | (unfold vp_in; decide) | ((with_reducible (refine vp_in_nI ?_ ?_)) <;> omega), ?_⟩ | fail)
    exact Halt.mk (X4_share_l H (2 ^ n) 0 none S1 (by omega) (Or.inl rfl) ⟨R.fr F1 (by omega), hn, hn8, hz⟩ B1 (ScX.f24 F1) h1)
  · rw [if_pos (by assumption), if_pos (Or.inr (Int32.not_le.mp (by assumption)))] at h1
    refine X4_ref H (ScX.rf) (k := 2) (by omega) (by omega) (by decide) (fun S' hS' => ?_)
    repeat' (first | (refine Rules.st H okX4_share [42] ?_; conv => whnf) | refine br_t (by first | decide | assumption) ?_ | refine br_f (by first | decide | assumption) ?_ | refine br_c (fun _ => ?_) (fun _ => ?_) | refine ⟨by decide, ?_⟩ | refine ⟨by first | assumption | (unfold vp_in; decide) | ((with_reducible (refine vp_in_nI ?_ ?_)) <;> omega), ?_⟩ | fail)
    exact h1 S' hS'
  · have g : ¬ setF n set = 0 := by assumption
    rw [if_neg g] at h1
    obtain ⟨k1, k2, k3⟩ := setF_k.resolve_left g
    refine X4_ref H ScX.rf k1 k2 k3 (fun S' hS' => ?_)
    repeat' (first | (refine Rules.st H okX4_share [42] ?_; conv => whnf) | refine br_t (by first | decide | assumption) ?_ | refine br_f (by first | decide | assumption) ?_ | refine br_c (fun _ => ?_) (fun _ => ?_) | refine ⟨by decide, ?_⟩ | refine ⟨by first | assumption | (unfold vp_in; decide) | ((with_reducible (refine vp_in_nI ?_ ?_)) <;> omega), ?_⟩ | fail)
    exact h1 S' hS'
end X9
