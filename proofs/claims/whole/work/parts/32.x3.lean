section X3
variable {C : Cst} {T : Nat → Pst → Nat → Lcs → List Value → Mem → Prop}
/-! ## numbers -/
def powL (b : Int64) : Nat → Int64 → Int64
  | 0, a => a
  | k + 1, a => powL b k (a * b)
set_option maxRecDepth 100000 in
theorem X4_power_l (H : Rules C T) {b : Int64} {e : Nat} (he : e < 100) {S : Mem} {Q : Pst} : ∀ (k i : Nat) (a : Int64), i + k = e → Q (some (.long (powL b k a))) S → T mX4_power Q 5 [some (.long b), none, some (.int (nI e)), some (.long a), none, some (.int (nI i))] [] S := by
  intro k
  induction k with
  | zero =>
    intro i a hi h1
    have hge : nI e ≤ nI i := nI_le (by omega) (by omega)
    skip
    repeat' (first | (refine Rules.st H okX4_power [5] ?_; conv => whnf) | refine br_t (by first | decide | assumption) ?_ | refine br_f (by first | decide | assumption) ?_ | refine br_c (fun _ => ?_) (fun _ => ?_) | refine ⟨by decide, ?_⟩ | refine ⟨by first | assumption | (unfold vp_in; decide) | ((with_reducible (refine vp_in_nI ?_ ?_)) <;> omega), ?_⟩ | fail)
    exact h1
  | succ k ih =>
    intro i a hi h1
    have hge : ¬ nI e ≤ nI i := nI_ge (by omega) (by omega)
    unfold powL at h1
    skip
    repeat' (first | (refine Rules.st H okX4_power [5] ?_; conv => whnf) | refine br_t (by first | decide | assumption) ?_ | refine br_f (by first | decide | assumption) ?_ | refine br_c (fun _ => ?_) (fun _ => ?_) | refine ⟨by decide, ?_⟩ | refine ⟨by first | assumption | (unfold vp_in; decide) | ((with_reducible (refine vp_in_nI ?_ ?_)) <;> omega), ?_⟩ | fail)
    refine Halt.mk ?_
    show T mX4_power Q 5 [some (.long b), none, some (.int (nI e)), some (.long (a * b)), none, some (.int (nI i + 1))] [] S
    rw [nI_1]
    exact ih (i + 1) _ (by omega) h1
set_option maxRecDepth 100000 in
theorem X4_power (H : Rules C T) {b : Int64} {e : Nat} (he : e < 100) {S : Mem} {Q : Pst} (h1 : Q (some (.long (powL b e 1))) S) : C mX4_power [.long b, .int (nI e)] S Q := by
  have key := X4_power_l H (b := b) he (S := S) (Q := Q) e 0 1 (by omega) h1
  refine Rules.go H (by decide) (Nat.le_of_ble_eq_true rfl) ?_
  repeat' (first | (refine Rules.st H okX4_power [5] ?_; conv => whnf) | refine br_t (by first | decide | assumption) ?_ | refine br_f (by first | decide | assumption) ?_ | refine br_c (fun _ => ?_) (fun _ => ?_) | refine ⟨by decide, ?_⟩ | refine ⟨by first | assumption | (unfold vp_in; decide) | ((with_reducible (refine vp_in_nI ?_ ?_)) <;> omega), ?_⟩ | fail)
  exact Halt.mk key
def waysL (n : Int32) : Nat → Nat → Int64 → Int64
  | 0, _, a => a
  | k + 1, i, a => waysL n k (i + 1) (a * (n - nI i).toInt64 / (nI i + 1).toInt64)
set_option maxRecDepth 100000 in
theorem nI_l1 : ∀ i, i < 8 → ¬ (nI i + 1).toInt64 = 0 := by decide +kernel
def gcdL : Nat → Int64 → Int64 → Int64
  | 0, a, _ => a
  | k + 1, a, b => if b = 0 then a else gcdL k b (lrm a b)
set_option maxRecDepth 100000 in
theorem X4_commonDivisor_l (H : Rules C T) {a0 b0 : Int64} {S : Mem} {Q : Pst} : ∀ (k i : Nat) (a b : Int64) (x y : Option Value), i + k = 100 → Q (some (.long (gcdL k a b))) S → T mX4_commonDivisor Q 9 [some (.long a0), none, some (.long b0), none, some (.long a), none, some (.long b), none, some (.int (nI i)), x, y] [] S := by
  intro k
  induction k with
  | zero =>
    intro i a b x y hi h1
    have hge : (100 : Int32) ≤ nI i := nI_le (a := 100) (by omega) (by omega)
    skip
    repeat' (first | (refine Rules.st H okX4_commonDivisor [9] ?_; conv => whnf) | refine br_t (by first | decide | assumption) ?_ | refine br_f (by first | decide | assumption) ?_ | refine br_c (fun _ => ?_) (fun _ => ?_) | refine ⟨by decide, ?_⟩ | refine ⟨by first | assumption | (unfold vp_in; decide) | ((with_reducible (refine vp_in_nI ?_ ?_)) <;> omega), ?_⟩ | fail)
    exact h1
  | succ k ih =>
    intro i a b x y hi h1
    have hge : ¬ (100 : Int32) ≤ nI i := nI_ge (b := 100) (by omega) (by omega)
    unfold gcdL at h1
    by_cases hb : b = 0
    · have hc : lg_cmp b (Int64.ofNat 0) = 0 := (lg_cmp_eq b 0).mpr hb
      rw [if_pos hb] at h1
      skip
      repeat' (first | (refine Rules.st H okX4_commonDivisor [9] ?_; conv => whnf) | refine br_t (by first | decide | assumption) ?_ | refine br_f (by first | decide | assumption) ?_ | refine br_c (fun _ => ?_) (fun _ => ?_) | refine ⟨by decide, ?_⟩ | refine ⟨by first | assumption | (unfold vp_in; decide) | ((with_reducible (refine vp_in_nI ?_ ?_)) <;> omega), ?_⟩ | fail)
      exact h1
    · have hc : ¬ lg_cmp b (Int64.ofNat 0) = 0 := fun z => hb ((lg_cmp_eq b 0).mp z)
      rw [if_neg hb] at h1
      skip
      repeat' (first | (refine Rules.st H okX4_commonDivisor [9] ?_; conv => whnf) | refine br_t (by first | decide | assumption) ?_ | refine br_f (by first | decide | assumption) ?_ | refine br_c (fun _ => ?_) (fun _ => ?_) | refine ⟨by decide, ?_⟩ | refine ⟨by first | assumption | (unfold vp_in; decide) | ((with_reducible (refine vp_in_nI ?_ ?_)) <;> omega), ?_⟩ | fail)
      refine Halt.mk ?_
      show T mX4_commonDivisor Q 9 [some (.long a0), none, some (.long b0), none, some (.long b), none, some (.long (lrm a b)), none, some (.int (nI i + 1)), some (.long (lrm a b)), none] [] S
      rw [nI_1]
      exact ih (i + 1) _ _ _ _ (by omega) h1
set_option maxRecDepth 100000 in
theorem X4_commonDivisor (H : Rules C T) {a b : Int64} {S : Mem} {Q : Pst} (h1 : Q (some (.long (gcdL 100 a b))) S) : C mX4_commonDivisor [.long a, .long b] S Q := by
  have key := X4_commonDivisor_l H (a0 := a) (b0 := b) (S := S) (Q := Q) 100 0 a b none none (by omega) h1
  refine Rules.go H (by decide) (Nat.le_of_ble_eq_true rfl) ?_
  repeat' (first | (refine Rules.st H okX4_commonDivisor [9] ?_; conv => whnf) | refine br_t (by first | decide | assumption) ?_ | refine br_f (by first | decide | assumption) ?_ | refine br_c (fun _ => ?_) (fun _ => ?_) | refine ⟨by decide, ?_⟩ | refine ⟨by first | assumption | (unfold vp_in; decide) | ((with_reducible (refine vp_in_nI ?_ ?_)) <;> omega), ?_⟩ | fail)
  exact Halt.mk key
def partL (a b : Int64) (p : Int32) : Int64 := if a = 0 ∨ b = 0 then p.toInt64 else if gcdL 100 a b = 0 then p.toInt64 else if p = 0 then a / gcdL 100 a b else b / gcdL 100 a b
set_option maxRecDepth 100000 in
theorem X4_partOf (H : Rules C T) {a b : Int64} {p : Int32} {S : Mem} {Q : Pst} (h1 : Q (some (.long (partL a b p))) S) : C mX4_partOf [.long a, .long b, .int p] S Q := by
  unfold partL at h1
  by_cases ha : a = 0
  · have hc : lg_cmp a (Int64.ofNat 0) = 0 := (lg_cmp_eq a 0).mpr ha
    rw [if_pos (Or.inl ha)] at h1
    refine Rules.go H (by decide) (Nat.le_of_ble_eq_true rfl) ?_
    repeat' (first | (refine Rules.st H okX4_partOf [] ?_; conv => whnf) | refine br_t (by first | decide | assumption) ?_ | refine br_f (by first | decide | assumption) ?_ | refine br_c (fun _ => ?_) (fun _ => ?_) | refine ⟨by decide, ?_⟩ | refine ⟨by first | assumption | (unfold vp_in; decide) | ((with_reducible (refine vp_in_nI ?_ ?_)) <;> omega), ?_⟩ | fail)
    exact h1
  · have hc : ¬ lg_cmp a (Int64.ofNat 0) = 0 := fun z => ha ((lg_cmp_eq a 0).mp z)
    by_cases hb : b = 0
    · have hcb : lg_cmp b (Int64.ofNat 0) = 0 := (lg_cmp_eq b 0).mpr hb
      rw [if_pos (Or.inr hb)] at h1
      refine Rules.go H (by decide) (Nat.le_of_ble_eq_true rfl) ?_
      repeat' (first | (refine Rules.st H okX4_partOf [] ?_; conv => whnf) | refine br_t (by first | decide | assumption) ?_ | refine br_f (by first | decide | assumption) ?_ | refine br_c (fun _ => ?_) (fun _ => ?_) | refine ⟨by decide, ?_⟩ | refine ⟨by first | assumption | (unfold vp_in; decide) | ((with_reducible (refine vp_in_nI ?_ ?_)) <;> omega), ?_⟩ | fail)
      exact h1
    · have hcb : ¬ lg_cmp b (Int64.ofNat 0) = 0 := fun z => hb ((lg_cmp_eq b 0).mp z)
      rw [if_neg (fun z => z.elim ha hb)] at h1
      refine Rules.go H (by decide) (Nat.le_of_ble_eq_true rfl) ?_
      repeat' (first | (refine Rules.st H okX4_partOf [] ?_; conv => whnf) | refine br_t (by first | decide | assumption) ?_ | refine br_f (by first | decide | assumption) ?_ | refine br_c (fun _ => ?_) (fun _ => ?_) | refine ⟨by decide, ?_⟩ | refine ⟨by first | assumption | (unfold vp_in; decide) | ((with_reducible (refine vp_in_nI ?_ ?_)) <;> omega), ?_⟩ | fail)
      refine X4_commonDivisor H ?_
      by_cases hd : gcdL 100 a b = 0
      · have hcd : lg_cmp (gcdL 100 a b) (Int64.ofNat 0) = 0 := (lg_cmp_eq _ 0).mpr hd
        rw [if_pos hd] at h1
        repeat' (first | (refine Rules.st H okX4_partOf [] ?_; conv => whnf) | refine br_t (by first | decide | assumption) ?_ | refine br_f (by first | decide | assumption) ?_ | refine br_c (fun _ => ?_) (fun _ => ?_) | refine ⟨by decide, ?_⟩ | refine ⟨by first | assumption | (unfold vp_in; decide) | ((with_reducible (refine vp_in_nI ?_ ?_)) <;> omega), ?_⟩ | fail)
        exact h1
      · have hcd : ¬ lg_cmp (gcdL 100 a b) (Int64.ofNat 0) = 0 := fun z => hd ((lg_cmp_eq _ 0).mp z)
        rw [if_neg hd] at h1
        repeat' (first | (refine Rules.st H okX4_partOf [] ?_; conv => whnf) | refine br_t (by first | decide | assumption) ?_ | refine br_f (by first | decide | assumption) ?_ | refine br_c (fun _ => ?_) (fun _ => ?_) | refine ⟨by decide, ?_⟩ | refine ⟨by first | assumption | (unfold vp_in; decide) | ((with_reducible (refine vp_in_nI ?_ ?_)) <;> omega), ?_⟩ | fail)
        · rw [if_pos (by assumption)] at h1
          exact h1
        · rw [if_neg (by assumption)] at h1
          exact h1
def seedI (z : Int32) : Int32 := z * 1664525 + 1013904223
def drawI (z : Int32) : Int32 := irm ((z &&& 2147483647) / 256) 10
set_option maxRecDepth 100000 in
theorem X4_nextSeed (H : Rules C T) {z : Int32} {S : Mem} {Q : Pst} (h1 : Q (some (.int (seedI z))) S) : C mX4_nextSeed [.int z] S Q := by
  refine Rules.go H (by decide) (Nat.le_of_ble_eq_true rfl) ?_
  repeat' (first | (refine Rules.st H okX4_nextSeed [] ?_; conv => whnf) | refine br_t (by first | decide | assumption) ?_ | refine br_f (by first | decide | assumption) ?_ | refine br_c (fun _ => ?_) (fun _ => ?_) | refine ⟨by decide, ?_⟩ | refine ⟨by first | assumption | (unfold vp_in; decide) | ((with_reducible (refine vp_in_nI ?_ ?_)) <;> omega), ?_⟩ | fail)
  exact h1
set_option maxRecDepth 100000 in
theorem X4_drawBelowTen (H : Rules C T) {z : Int32} {S : Mem} {Q : Pst} (h1 : Q (some (.int (drawI z))) S) : C mX4_drawBelowTen [.int z] S Q := by
  refine Rules.go H (by decide) (Nat.le_of_ble_eq_true rfl) ?_
  repeat' (first | (refine Rules.st H okX4_drawBelowTen [] ?_; conv => whnf) | refine br_t (by first | decide | assumption) ?_ | refine br_f (by first | decide | assumption) ?_ | refine br_c (fun _ => ?_) (fun _ => ?_) | refine ⟨by decide, ?_⟩ | refine ⟨by first | assumption | (unfold vp_in; decide) | ((with_reducible (refine vp_in_nI ?_ ?_)) <;> omega), ?_⟩ | fail)
  exact h1
/-! ## rows and the best -/
set_option maxRecDepth 100000 in
theorem X4_exchange (H : Rules C T) {a : Nat} {ln : Nat} (ha : (a = 21 ∧ ln = 16) ∨ (a = 23 ∧ ln = 5)) {i j : Nat} (hi : i < ln) (hj : j < ln) {S : Mem} {Q : Pst} (h1 : Q none (up (up S a i (S a j)) a j (S a i))) : C mX4_exchange [.ref a, .int (nI i), .int (nI j)] S Q := by
  rcases ha with ⟨rfl, rfl⟩ | ⟨rfl, rfl⟩ <;>
  · have c1 : ¬ nI i < 0 := nI_pos (by omega)
    have c2 : ¬ nI j < 0 := nI_pos (by omega)
    have c3 := nI_ge hi (by omega)
    have c4 := nI_ge hj (by omega)
    refine Rules.go H (by decide) (Nat.le_of_ble_eq_true rfl) ?_
    repeat' (first | (refine Rules.st H okX4_exchange [] ?_; conv => whnf) | refine br_t (by first | decide | assumption) ?_ | refine br_f (by first | decide | assumption) ?_ | refine br_c (fun _ => ?_) (fun _ => ?_) | refine ⟨by decide, ?_⟩ | refine ⟨by first | assumption | (unfold vp_in; decide) | ((with_reducible (refine vp_in_nI ?_ ?_)) <;> omega), ?_⟩ | fail)
    rw [nIc (show i < 2 ^ 31 by omega), nIc (show j < 2 ^ 31 by omega)]
    exact h1
set_option maxRecDepth 100000 in
theorem X4_pathAt (H : Rules C T) {S : Mem} {i : Nat} (hi : i < 5) {Q : Pst} (h1 : Q (some (.int (S 23 i))) S) : C mX4_pathAt [.ref 0, .int (nI i)] S Q := by
  refine Rules.go H (by decide) (Nat.le_of_ble_eq_true rfl) ?_
  repeat' (first | (refine Rules.st H okX4_pathAt [] ?_; conv => whnf) | refine br_t (by first | decide | assumption) ?_ | refine br_f (by first | decide | assumption) ?_ | refine br_c (fun _ => ?_) (fun _ => ?_) | refine ⟨by decide, ?_⟩ | refine ⟨by first | assumption | (unfold vp_in; decide) | ((with_reducible (refine vp_in_nI ?_ ?_)) <;> omega), ?_⟩ | fail)
  all_goals (try (exfalso; (simp (disch := omega) only [li0, li1, li2, li3, li4, li5, li6, li7, li8, li9, li10, li11, li12, li13, li14, li15, li16, li17, li18, li19, li20, li60, li96, li99, li255, li999, ofN, nI_leI, nI_ltI, nI_eq, nI_1, nI_add] at *); first | done | omega))
  rw [nIc (by omega)]
  exact h1
def pnumK (p : Nat → Int32) : Nat → Nat → Int32 → Int32
  | 0, _, a => a
  | k + 1, i, a => pnumK p k (i + 1) (10 * a + p i + 1)
set_option maxRecDepth 100000 in
theorem X4_pathNumber_l (H : Rules C T) {n : Nat} (hn : n ≤ 5) {S : Mem} {Q : Pst} : ∀ (k i : Nat) (a : Int32), i + k = n → Q (some (.int (pnumK (S 23) k i a))) S → T mX4_pathNumber Q 4 [some (.ref 0), some (.int (nI n)), some (.int a), some (.int (nI i))] [] S := by
  intro k
  induction k with
  | zero =>
    intro i a hi h1
    have hge : nI n ≤ nI i := nI_le (by omega) (by omega)
    skip
    repeat' (first | (refine Rules.st H okX4_pathNumber [4] ?_; conv => whnf) | refine br_t (by first | decide | assumption) ?_ | refine br_f (by first | decide | assumption) ?_ | refine br_c (fun _ => ?_) (fun _ => ?_) | refine ⟨by decide, ?_⟩ | refine ⟨by first | assumption | (unfold vp_in; decide) | ((with_reducible (refine vp_in_nI ?_ ?_)) <;> omega), ?_⟩ | fail)
    exact h1
  | succ k ih =>
    intro i a hi h1
    have hge : ¬ nI n ≤ nI i := nI_ge (by omega) (by omega)
    unfold pnumK at h1
    skip
    repeat' (first | (refine Rules.st H okX4_pathNumber [4] ?_; conv => whnf) | refine br_t (by first | decide | assumption) ?_ | refine br_f (by first | decide | assumption) ?_ | refine br_c (fun _ => ?_) (fun _ => ?_) | refine ⟨by decide, ?_⟩ | refine ⟨by first | assumption | (unfold vp_in; decide) | ((with_reducible (refine vp_in_nI ?_ ?_)) <;> omega), ?_⟩ | fail)
    refine X4_pathAt H (by omega) ?_
    repeat' (first | (refine Rules.st H okX4_pathNumber [4] ?_; conv => whnf) | refine br_t (by first | decide | assumption) ?_ | refine br_f (by first | decide | assumption) ?_ | refine br_c (fun _ => ?_) (fun _ => ?_) | refine ⟨by decide, ?_⟩ | refine ⟨by first | assumption | (unfold vp_in; decide) | ((with_reducible (refine vp_in_nI ?_ ?_)) <;> omega), ?_⟩ | fail)
    refine Halt.mk ?_
    show T mX4_pathNumber Q 4 [some (.ref 0), some (.int (nI n)), some (.int (10 * a + S 23 i + 1)), some (.int (nI i + 1))] [] S
    rw [nI_1]
    exact ih (i + 1) _ (by omega) h1
set_option maxRecDepth 100000 in
theorem X4_pathNumber (H : Rules C T) {n : Nat} (hn : n ≤ 5) {S : Mem} {Q : Pst} (h1 : Q (some (.int (pnumK (S 23) n 0 0))) S) : C mX4_pathNumber [.ref 0, .int (nI n)] S Q := by
  have key := X4_pathNumber_l H hn (S := S) (Q := Q) n 0 0 (by omega) h1
  refine Rules.go H (by decide) (Nat.le_of_ble_eq_true rfl) ?_
  repeat' (first | (refine Rules.st H okX4_pathNumber [4] ?_; conv => whnf) | refine br_t (by first | decide | assumption) ?_ | refine br_f (by first | decide | assumption) ?_ | refine br_c (fun _ => ?_) (fun _ => ?_) | refine ⟨by decide, ?_⟩ | refine ⟨by first | assumption | (unfold vp_in; decide) | ((with_reducible (refine vp_in_nI ?_ ?_)) <;> omega), ?_⟩ | fail)
  exact Halt.mk key
abbrev Bst : Type := Option (Int32 × Int32 × Int32)
def RepB (S : Mem) : Bst → Prop
  | none => S 24 0 = 0
  | some (n, d, t) => S 24 0 = 1 ∧ S 24 1 = n ∧ S 24 2 = d ∧ S 24 3 = t
def offB : Bst → Int32 → Int32 → Int32 → Bst
  | none, n, d, t => some (n, d, t)
  | some (n0, d0, t0), n, d, t => if d0 < d ∨ (d = d0 ∧ t < t0) then some (n, d, t) else some (n0, d0, t0)
set_option maxRecDepth 100000 in
theorem X0_forget (H : Rules C T) {S : Mem} {Q : Pst} (h1 : ∀ S', RepB S' none → Fr 24 24 S S' → Q none S') : C mX0_forget [.ref 24] S Q := by
  have h1 := h1 (up (up (up (up S 24 0 0) 24 1 0) 24 2 0) 24 3 0) (by simp [RepB, up]) ((((Fr.put (by omega) (by omega)).tr (Fr.put (by omega) (by omega))).tr (Fr.put (by omega) (by omega))).tr (Fr.put (by omega) (by omega)))
  refine Rules.go H (by decide) (Nat.le_of_ble_eq_true rfl) ?_
  repeat' (first | (refine Rules.st H okX0_forget [] ?_; conv => whnf) | refine br_t (by first | decide | assumption) ?_ | refine br_f (by first | decide | assumption) ?_ | refine br_c (fun _ => ?_) (fun _ => ?_) | refine ⟨by decide, ?_⟩ | refine ⟨by first | assumption | (unfold vp_in; decide) | ((with_reducible (refine vp_in_nI ?_ ?_)) <;> omega), ?_⟩ | fail)
  exact h1
set_option maxRecDepth 100000 in
theorem X0_offer (H : Rules C T) {S : Mem} {b : Bst} (R : RepB S b) {n d t : Int32} {Q : Pst} (h1 : ∀ S', RepB S' (offB b n d t) → Fr 24 24 S S' → Q none S') : C mX0_offer [.ref 24, .int n, .int d, .int t] S Q := by
  have put : ∀ (hb : offB b n d t = some (n, d, t)), Q none (up (up (up (up S 24 0 1) 24 1 n) 24 2 d) 24 3 t) := fun hb => h1 _ (by rw [hb]; simp [RepB, up]) ((((Fr.put (by omega) (by omega)).tr (Fr.put (by omega) (by omega))).tr (Fr.put (by omega) (by omega))).tr (Fr.put (by omega) (by omega)))
  cases b with
  | none =>
    have e0 : S 24 0 = 0 := R
    refine Rules.go H (by decide) (Nat.le_of_ble_eq_true rfl) ?_
    repeat' (first | (refine Rules.st H okX0_offer [] ?_; conv => whnf) | refine br_t (by first | decide | assumption) ?_ | refine br_f (by first | decide | assumption) ?_ | refine br_c (fun _ => ?_) (fun _ => ?_) | refine ⟨by decide, ?_⟩ | refine ⟨by first | assumption | (unfold vp_in; decide) | ((with_reducible (refine vp_in_nI ?_ ?_)) <;> omega), ?_⟩ | fail)
    all_goals exact put rfl
  | some b =>
    obtain ⟨n0, d0, t0⟩ := b
    obtain ⟨e0, e1, e2, e3⟩ := R
    have en : ¬ S 24 0 = 0 := by rw [e0]; decide
    have same : ∀ (hb : offB (some (n0, d0, t0)) n d t = some (n0, d0, t0)), Q none S := fun hb => h1 S (by rw [hb]; exact ⟨e0, e1, e2, e3⟩) Fr.rf
    refine Rules.go H (by decide) (Nat.le_of_ble_eq_true rfl) ?_
    repeat' (first | (refine Rules.st H okX0_offer [] ?_; conv => whnf) | refine br_t (by first | decide | assumption) ?_ | refine br_f (by first | decide | assumption) ?_ | refine br_c (fun _ => ?_) (fun _ => ?_) | refine ⟨by decide, ?_⟩ | refine ⟨by first | assumption | (unfold vp_in; decide) | ((with_reducible (refine vp_in_nI ?_ ?_)) <;> omega), ?_⟩ | fail)
    all_goals rw [e2] at *
    all_goals (try rw [e3] at *)
    · exact put (if_pos (Or.inl (by assumption)))
    · exact same (if_neg (fun z => z.elim (fun z => absurd z (by assumption)) (fun z => absurd z.2 (Int32.not_lt.mpr (by assumption)))))
    · exact put (if_pos (Or.inr ⟨by assumption, Int32.not_le.mp (by assumption)⟩))
    · exact same (if_neg (fun z => z.elim (fun z => absurd z (by assumption)) (fun z => absurd z.1 (by assumption))))
set_option maxRecDepth 100000 in
theorem X0_answer (H : Rules C T) {S : Mem} {n d t : Int32} (R : RepB S (some (n, d, t))) {w : Int32} {Q : Pst} (h1 : Q (some (.int (if w = 0 then n else if w = 1 then d else t))) S) : C mX0_answer [.ref 24, .int w] S Q := by
  obtain ⟨e0, e1, e2, e3⟩ := R
  rw [← e1, ← e2, ← e3] at h1
  refine Rules.go H (by decide) (Nat.le_of_ble_eq_true rfl) ?_
  repeat' (first | (refine Rules.st H okX0_answer [] ?_; conv => whnf) | refine br_t (by first | decide | assumption) ?_ | refine br_f (by first | decide | assumption) ?_ | refine br_c (fun _ => ?_) (fun _ => ?_) | refine ⟨by decide, ?_⟩ | refine ⟨by first | assumption | (unfold vp_in; decide) | ((with_reducible (refine vp_in_nI ?_ ?_)) <;> omega), ?_⟩ | fail)
  · rw [if_pos (by assumption)] at h1
    exact h1
  · rw [if_neg (by assumption), if_pos (by assumption)] at h1
    exact h1
  · rw [if_neg (by assumption), if_neg (by assumption)] at h1
    exact h1
end X3
