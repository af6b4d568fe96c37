/-! ## the reference: small words -/
section M1
variable {C : Cst} {T : Nat → Pst → Nat → Lcs → List Value → Mem → Prop}
/-- what a call may change in the reference for itself -/
def scrM (a j : Nat) : Prop := (a = 25 ∧ ((14 ≤ j ∧ j ≤ 16) ∨ j = 19 ∨ j = 20 ∨ j = 22 ∨ j = 23 ∨ j = 26 ∨ (28 ≤ j ∧ j ≤ 33) ∨ j = 35)) ∨ a = 35 ∨ a = 36 ∨ a = 37 ∨ a = 40 ∨ a = 41 ∨ (a = 38 ∧ 39 ≤ j)
def ScM (k : Nat) (S S' : Mem) : Prop := ∀ a j, ¬ scrM a j → S' a j = if a = 26 ∧ j = k ∧ ¬ k = 0 then S a j + 1 else S a j
def AnsM (S : Mem) (a : Ans) (Q : Pst) : Prop := ∀ S', ScM a.1 S S' → Q (some (.int a.2)) S'
set_option maxRecDepth 100000 in
theorem ScM.rf {S : Mem} : ScM 0 S S := fun a j _ => by simp
set_option maxRecDepth 100000 in
theorem ScM.tr {k : Nat} {S S1 S2 : Mem} (h1 : ScM 0 S S1) (h2 : ScM k S1 S2) : ScM k S S2 := fun a j h3 => by
  have e := h1 a j h3
  rw [if_neg (fun z => z.2.2 rfl)] at e
  rw [h2 a j h3, e]
set_option maxRecDepth 100000 in
theorem ScM.at {S S' : Mem} (h : ScM 0 S S') {a j : Nat} (ha : ¬ scrM a j) : S' a j = S a j := by
  rw [h a j ha, if_neg (fun z => z.2.2 rfl)]
set_option maxRecDepth 100000 in
theorem X5_no (H : Rules C T) {S0 S : Mem} (F : ScM 0 S0 S) {k : Nat} (hk1 : 1 ≤ k) (hk : k < 7) {x : Int32} (hx : 0 - x = nI k) {Q : Pst} (h1 : ∀ S', ScM k S0 S' → Q (some (.int x)) S') : C mX5_no [.ref 25, .int x] S Q := by
  have key : Q (some (.int x)) (up S 26 (0 - x).toNatClampNeg (S 26 (0 - x).toNatClampNeg + 1)) := by
    rw [hx, nIc (by omega)]
    refine h1 _ (fun a j ha => ?_)
    unfold up
    by_cases q : a = 26 ∧ j = k
    · obtain ⟨rfl, rfl⟩ := q
      rw [if_pos ⟨rfl, rfl⟩, if_pos ⟨rfl, rfl, by omega⟩, F.at ha]
    · rw [if_neg q, if_neg (fun z => q ⟨z.1, z.2.1⟩), F.at ha]
  have hv : vp_in (0 - x) 7 := by rw [hx]; exact vp_in_nI hk (by omega)
  refine Rules.go H (by decide) (Nat.le_of_ble_eq_true rfl) ?_
  repeat' (first | (refine Rules.st H okX5_no [] ?_; conv => whnf) | refine br_t (by first | decide | assumption) ?_ | refine br_f (by first | decide | assumption) ?_ | refine br_c (fun _ => ?_) (fun _ => ?_) | refine ⟨by decide, ?_⟩ | refine ⟨by first | assumption | (unfold vp_in; decide) | ((with_reducible (refine vp_in_nI ?_ ?_)) <;> omega), ?_⟩ | fail)
  exact key
set_option maxRecDepth 100000 in
theorem X5_isIn (H : Rules C T) {v a b : Int32} {S : Mem} {Q : Pst} (h1 : a ≤ v → v ≤ b → Q (some (.int 1)) S) (h0 : ¬ (a ≤ v ∧ v ≤ b) → Q (some (.int 0)) S) : C mX5_isIn [.int v, .int a, .int b] S Q := by
  refine Rules.go H (by decide) (Nat.le_of_ble_eq_true rfl) ?_
  repeat' (first | (refine Rules.st H okX5_isIn [] ?_; conv => whnf) | refine br_t (by first | decide | assumption) ?_ | refine br_f (by first | decide | assumption) ?_ | refine br_c (fun _ => ?_) (fun _ => ?_) | refine ⟨by decide, ?_⟩ | refine ⟨by first | assumption | (unfold vp_in; decide) | ((with_reducible (refine vp_in_nI ?_ ?_)) <;> omega), ?_⟩ | fail)
  all_goals (try simp only [Int32.not_lt, Int32.not_le] at *)
  · exact h0 (fun z => absurd z.1 (Int32.not_le.mpr ‹_›))
  · exact h0 (fun z => absurd z.2 (Int32.not_le.mpr ‹_›))
  · exact h1 ‹_› ‹_›
set_option maxRecDepth 100000 in
theorem X5_bound (H : Rules C T) {v a b : Int32} {S : Mem} {Q : Pst} (hb : v < a → Q (some (.int (-4))) S) (ha : ¬ v < a → b < v → Q (some (.int (-6))) S) (h1 : ¬ v < a → ¬ b < v → Q (some (.int 0)) S) : C mX5_bound [.int v, .int a, .int b] S Q := by
  refine Rules.go H (by decide) (Nat.le_of_ble_eq_true rfl) ?_
  repeat' (first | (refine Rules.st H okX5_bound [] ?_; conv => whnf) | refine br_t (by first | decide | assumption) ?_ | refine br_f (by first | decide | assumption) ?_ | refine br_c (fun _ => ?_) (fun _ => ?_) | refine ⟨by decide, ?_⟩ | refine ⟨by first | assumption | (unfold vp_in; decide) | ((with_reducible (refine vp_in_nI ?_ ?_)) <;> omega), ?_⟩ | fail)
  all_goals (try simp only [Int32.not_lt, Int32.not_le] at *)
  · exact h1 ‹_› ‹_›
  · exact ha ‹_› ‹_›
  · exact hb ‹_›
set_option maxRecDepth 100000 in
theorem X5_has (H : Rules C T) {s : Int32} {r : Nat} {S : Mem} {Q : Pst} (h1 : bt s r = 1 → Q (some (.int 1)) S) (h0 : ¬ bt s r = 1 → Q (some (.int 0)) S) : C mX5_has [.int s, .int (nI r)] S Q := by
  refine Rules.go H (by decide) (Nat.le_of_ble_eq_true rfl) ?_
  repeat' (first | (refine Rules.st H okX5_has [] ?_; conv => whnf) | refine br_t (by first | decide | assumption) ?_ | refine br_f (by first | decide | assumption) ?_ | refine br_c (fun _ => ?_) (fun _ => ?_) | refine ⟨by decide, ?_⟩ | refine ⟨by first | assumption | (unfold vp_in; decide) | ((with_reducible (refine vp_in_nI ?_ ?_)) <;> omega), ?_⟩ | fail)
  · exact h1 ‹_›
  · exact h0 ‹_›
set_option maxRecDepth 100000 in
theorem X5_apart (H : Rules C T) {a b : Int32} {S : Mem} {Q : Pst} (h : Q (some (.int (if a < b then b - a else a - b))) S) : C mX5_apart [.int a, .int b] S Q := by
  refine Rules.go H (by decide) (Nat.le_of_ble_eq_true rfl) ?_
  repeat' (first | (refine Rules.st H okX5_apart [] ?_; conv => whnf) | refine br_t (by first | decide | assumption) ?_ | refine br_f (by first | decide | assumption) ?_ | refine br_c (fun _ => ?_) (fun _ => ?_) | refine ⟨by decide, ?_⟩ | refine ⟨by first | assumption | (unfold vp_in; decide) | ((with_reducible (refine vp_in_nI ?_ ?_)) <;> omega), ?_⟩ | fail)
  · rw [if_neg (Int32.not_lt.mpr ‹_›)] at h
    exact h
  · rw [if_pos (Int32.not_le.mp ‹_›)] at h
    exact h
set_option maxRecDepth 100000 in
theorem X5_isMaid (H : Rules C T) {x : Int32} {S : Mem} {Q : Pst} (h1 : ∀ m, m < 2 → x = nI m → Q (some (.int 1)) S) (h0 : (∀ m, m < 2 → ¬ x = nI m) → Q (some (.int 0)) S) : C mX5_isMaid [.int x] S Q := by
  refine Rules.go H (by decide) (Nat.le_of_ble_eq_true rfl) ?_
  repeat' (first | (refine Rules.st H okX5_isMaid [] ?_; conv => whnf) | refine br_t (by first | decide | assumption) ?_ | refine br_f (by first | decide | assumption) ?_ | refine br_c (fun _ => ?_) (fun _ => ?_) | refine ⟨by decide, ?_⟩ | refine ⟨by first | assumption | (unfold vp_in; decide) | ((with_reducible (refine vp_in_nI ?_ ?_)) <;> omega), ?_⟩ | fail)
  refine X5_isIn H (fun g1 g2 => ?_) (fun g => ?_)
  · repeat' (first | (refine Rules.st H okX5_isMaid [] ?_; conv => whnf) | refine br_t (by first | decide | assumption) ?_ | refine br_f (by first | decide | assumption) ?_ | refine br_c (fun _ => ?_) (fun _ => ?_) | refine ⟨by decide, ?_⟩ | refine ⟨by first | assumption | (unfold vp_in; decide) | ((with_reducible (refine vp_in_nI ?_ ?_)) <;> omega), ?_⟩ | fail)
    obtain ⟨j, hj, e⟩ := nI_of (Int32.not_lt.mpr g1)
    rw [e, li1, nI_leI hj (by omega)] at g2
    exact h1 j (by omega) e
  · repeat' (first | (refine Rules.st H okX5_isMaid [] ?_; conv => whnf) | refine br_t (by first | decide | assumption) ?_ | refine br_f (by first | decide | assumption) ?_ | refine br_c (fun _ => ?_) (fun _ => ?_) | refine ⟨by decide, ?_⟩ | refine ⟨by first | assumption | (unfold vp_in; decide) | ((with_reducible (refine vp_in_nI ?_ ?_)) <;> omega), ?_⟩ | fail)
    refine h0 (fun m hm e => g ?_)
    rw [e]
    rcases (show m = 0 ∨ m = 1 by omega) with rfl | rfl <;> decide
set_option maxRecDepth 100000 in
theorem X5_isRoom (H : Rules C T) {S : Mem} {n : Nat} (hn : S 25 8 = nI n) (hn8 : n ≤ 8) {x : Int32} {Q : Pst} (h1 : ∀ r, r < n → x = nI r → Q (some (.int 1)) S) (h0 : (∀ r, r < n → ¬ x = nI r) → Q (some (.int 0)) S) : C mX5_isRoom [.ref 25, .int x] S Q := by
  refine Rules.go H (by decide) (Nat.le_of_ble_eq_true rfl) ?_
  repeat' (first | (refine Rules.st H okX5_isRoom [] ?_; conv => whnf) | refine br_t (by first | decide | assumption) ?_ | refine br_f (by first | decide | assumption) ?_ | refine br_c (fun _ => ?_) (fun _ => ?_) | refine ⟨by decide, ?_⟩ | refine ⟨by first | assumption | (unfold vp_in; decide) | ((with_reducible (refine vp_in_nI ?_ ?_)) <;> omega), ?_⟩ | fail)
  rw [hn]
  refine X5_isIn H (fun g1 g2 => ?_) (fun g => ?_)
  · repeat' (first | (refine Rules.st H okX5_isRoom [] ?_; conv => whnf) | refine br_t (by first | decide | assumption) ?_ | refine br_f (by first | decide | assumption) ?_ | refine br_c (fun _ => ?_) (fun _ => ?_) | refine ⟨by decide, ?_⟩ | refine ⟨by first | assumption | (unfold vp_in; decide) | ((with_reducible (refine vp_in_nI ?_ ?_)) <;> omega), ?_⟩ | fail)
    obtain ⟨j, hj, e⟩ := nI_of (Int32.not_lt.mpr g1)
    cases n with
    | zero => rw [e] at g1 g2; exact absurd (Int32.le_trans g1 g2) (by decide)
    | succ n =>
      rw [e, show nI (n + 1) - 1 = nI n from by rw [← nI_1]; exact Int32.add_sub_cancel _ _, nI_leI hj (by omega)] at g2
      exact h1 j (by omega) e
  · repeat' (first | (refine Rules.st H okX5_isRoom [] ?_; conv => whnf) | refine br_t (by first | decide | assumption) ?_ | refine br_f (by first | decide | assumption) ?_ | refine br_c (fun _ => ?_) (fun _ => ?_) | refine ⟨by decide, ?_⟩ | refine ⟨by first | assumption | (unfold vp_in; decide) | ((with_reducible (refine vp_in_nI ?_ ?_)) <;> omega), ?_⟩ | fail)
    refine h0 (fun r hr e => g ?_)
    rw [e]
    refine ⟨nI_le (a := 0) (Nat.zero_le _) (by omega), ?_⟩
    cases n with
    | zero => omega
    | succ n =>
      rw [show nI (n + 1) - 1 = nI n from by rw [← nI_1]; exact Int32.add_sub_cancel _ _]
      exact nI_le (by omega) (by omega)
/-- the places that the reference keeps: 39, one behind the other -/
def kp (j : Nat) : Nat × Nat := if j < 8 then (27, j) else if j < 16 then (28, j - 8) else if j < 24 then (29, j - 16) else if j < 32 then (30, j - 24) else if j < 34 then (31, j - 32) else if j < 36 then (32, j - 34) else if j < 38 then (33, j - 36) else (25, 8)
def isA (a len : Nat) : Prop := (a = 27 ∧ len = 8) ∨ (a = 28 ∧ len = 8) ∨ (a = 29 ∧ len = 8) ∨ (a = 30 ∧ len = 8) ∨ (a = 31 ∧ len = 2) ∨ (a = 32 ∧ len = 2) ∨ (a = 33 ∧ len = 2)
/-- a row kept from the place c on -/
def pK (a len c i : Nat) (S : Mem) : Mem := fun b j => if b = 38 ∧ c + i ≤ j ∧ j < c + len then S a (j - c) else if b = 25 ∧ j = 20 then nI (c + len) else S b j
/-- a row put back from the place c on -/
def pB (a len c i : Nat) (S : Mem) : Mem := fun b j => if b = a ∧ i ≤ j ∧ j < len then S 38 (c + j) else if b = 25 ∧ j = 20 then nI (c + len) else S b j
set_option maxRecDepth 100000 in
theorem X5_passes_k (H : Rules C T) {a len c : Nat} (ha : isA a len) (hc : c + len ≤ 117) {Q : Pst} : ∀ (k i : Nat) (S : Mem), i + k = len → S 25 19 = 1 → S 25 20 = nI (c + i) → Q none (pK a len c i S) → T mX5_passes Q 2 [some (.ref 25), some (.ref a), some (.int (nI i))] [] S := by
  intro k
  induction k with
  | zero =>
    intro i S hi hkp hcu h1
    have e : pK a len c i S = S := by
      funext b j
      unfold pK
      rw [if_neg (by omega)]
      split
      · next q => rw [q.1, q.2, hcu, show c + i = c + len by omega]
      · rfl
    rw [e] at h1
    have hge : nI len ≤ nI i := nI_le (by omega) (by unfold isA at ha; omega)
    unfold isA at ha
    rcases ha with ⟨rfl, rfl⟩ | ⟨rfl, rfl⟩ | ⟨rfl, rfl⟩ | ⟨rfl, rfl⟩ | ⟨rfl, rfl⟩ | ⟨rfl, rfl⟩ | ⟨rfl, rfl⟩ <;>
    · skip
      repeat' (first | (refine Rules.st H okX5_passes [2] ?_; conv => whnf) | refine br_t (by first | decide | assumption) ?_ | refine br_f (by first | decide | assumption) ?_ | refine br_c (fun _ => ?_) (fun _ => ?_) | refine ⟨by decide, ?_⟩ | refine ⟨by first | assumption | (unfold vp_in; decide) | ((with_reducible (refine vp_in_nI ?_ ?_)) <;> omega), ?_⟩ | fail)
      all_goals first | exact h1 | skip
  | succ k ih =>
    intro i S hi hkp hcu h1
    have hk0 : ¬ S 25 19 = 0 := by rw [hkp]; decide
    have hv : vp_in (S 25 20) 117 := by rw [hcu]; exact vp_in_nI (by unfold isA at ha; omega) (by omega)
    have e : pK a len c (i + 1) (up (up S 38 (c + i) (S a i)) 25 20 (nI (c + (i + 1)))) = pK a len c i S := by
      funext b j
      unfold pK up
      unfold isA at ha
      by_cases q : b = 38 ∧ j = c + i
      · obtain ⟨rfl, rfl⟩ := q
        rw [if_neg (by omega), if_neg (by omega), if_neg (by omega), if_pos ⟨rfl, rfl⟩, if_pos ⟨rfl, by omega, by omega⟩, show c + i - c = i by omega]
      · by_cases q1 : b = 38 ∧ c + i ≤ j ∧ j < c + len
        · rw [if_pos ⟨q1.1, by omega, q1.2.2⟩, if_neg (by omega), if_neg (by omega), if_pos q1]
        · rw [if_neg (fun z => q1 ⟨z.1, by omega, z.2.2⟩), if_neg q1]
          by_cases q2 : b = 25 ∧ j = 20
          · rw [if_pos q2, if_pos q2]
          · rw [if_neg q2, if_neg q2, if_neg q2, if_neg q]
    rw [← e] at h1
    have key := ih (i + 1) (up (up S 38 (c + i) (S a i)) 25 20 (nI (c + (i + 1)))) (by omega) (by rw [up_j (by omega), up_k (by omega), hkp]) up_at h1
    rw [show nI (c + (i + 1)) = S 25 20 + 1 from by rw [hcu, nI_1]; rfl, show c + i = (S 25 20).toNatClampNeg from by rw [hcu]; exact (nIc (by unfold isA at ha; omega)).symm, ← nI_1] at key
    have hx : S a i = S a (nI i).toNatClampNeg := by rw [nIc (by unfold isA at ha; omega)]
    rw [hx] at key
    have hge : ¬ nI len ≤ nI i := nI_ge (by omega) (by unfold isA at ha; omega)
    have hvi : vp_in (nI i) len := vp_in_nI (by omega) (by unfold isA at ha; omega)
    unfold isA at ha
    rcases ha with ⟨rfl, rfl⟩ | ⟨rfl, rfl⟩ | ⟨rfl, rfl⟩ | ⟨rfl, rfl⟩ | ⟨rfl, rfl⟩ | ⟨rfl, rfl⟩ | ⟨rfl, rfl⟩ <;>
    · skip
      repeat' (first | (refine Rules.st H okX5_passes [2] ?_; conv => whnf) | refine br_t (by first | decide | assumption) ?_ | refine br_f (by first | decide | assumption) ?_ | refine br_c (fun _ => ?_) (fun _ => ?_) | refine ⟨by decide, ?_⟩ | refine ⟨by first | assumption | (unfold vp_in; decide) | ((with_reducible (refine vp_in_nI ?_ ?_)) <;> omega), ?_⟩ | fail)
      all_goals first | exact Halt.mk key | skip
set_option maxRecDepth 100000 in
theorem X5_passes_b (H : Rules C T) {a len c : Nat} (ha : isA a len) (hc : c + len ≤ 117) {Q : Pst} : ∀ (k i : Nat) (S : Mem), i + k = len → S 25 19 = 0 → S 25 20 = nI (c + i) → Q none (pB a len c i S) → T mX5_passes Q 2 [some (.ref 25), some (.ref a), some (.int (nI i))] [] S := by
  intro k
  induction k with
  | zero =>
    intro i S hi hkp hcu h1
    have e : pB a len c i S = S := by
      funext b j
      unfold pB
      rw [if_neg (by omega)]
      split
      · next q => rw [q.1, q.2, hcu, show c + i = c + len by omega]
      · rfl
    rw [e] at h1
    have hge : nI len ≤ nI i := nI_le (by omega) (by unfold isA at ha; omega)
    unfold isA at ha
    rcases ha with ⟨rfl, rfl⟩ | ⟨rfl, rfl⟩ | ⟨rfl, rfl⟩ | ⟨rfl, rfl⟩ | ⟨rfl, rfl⟩ | ⟨rfl, rfl⟩ | ⟨rfl, rfl⟩ <;>
    · skip
      repeat' (first | (refine Rules.st H okX5_passes [2] ?_; conv => whnf) | refine br_t (by first | decide | assumption) ?_ | refine br_f (by first | decide | assumption) ?_ | refine br_c (fun _ => ?_) (fun _ => ?_) | refine ⟨by decide, ?_⟩ | refine ⟨by first | assumption | (unfold vp_in; decide) | ((with_reducible (refine vp_in_nI ?_ ?_)) <;> omega), ?_⟩ | fail)
      all_goals first | exact h1 | skip
  | succ k ih =>
    intro i S hi hkp hcu h1
    have hv : vp_in (S 25 20) 117 := by rw [hcu]; exact vp_in_nI (by unfold isA at ha; omega) (by omega)
    have e : pB a len c (i + 1) (up (up S a i (S 38 (c + i))) 25 20 (nI (c + (i + 1)))) = pB a len c i S := by
      funext b j
      unfold pB up
      unfold isA at ha
      by_cases q : b = a ∧ j = i
      · obtain ⟨rfl, rfl⟩ := q
        rw [if_neg (by omega), if_neg (by omega), if_neg (by omega), if_pos ⟨rfl, rfl⟩, if_pos ⟨rfl, by omega, by omega⟩]
      · by_cases q1 : b = a ∧ i ≤ j ∧ j < len
        · rw [if_pos ⟨q1.1, by omega, q1.2.2⟩, if_neg (by omega), if_neg (by omega), if_pos q1]
        · rw [if_neg (fun z => q1 ⟨z.1, by omega, z.2.2⟩), if_neg q1]
          by_cases q2 : b = 25 ∧ j = 20
          · rw [if_pos q2, if_pos q2]
          · rw [if_neg q2, if_neg q2, if_neg q2, if_neg q]
    rw [← e] at h1
    have key := ih (i + 1) (up (up S a i (S 38 (c + i))) 25 20 (nI (c + (i + 1)))) (by omega) (by rw [up_j (by omega), up_k (by unfold isA at ha; omega), hkp]) up_at h1
    rw [show nI (c + (i + 1)) = S 25 20 + 1 from by rw [hcu, nI_1]; rfl, show c + i = (S 25 20).toNatClampNeg from by rw [hcu]; exact (nIc (by unfold isA at ha; omega)).symm, ← nI_1] at key
    have hx : ∀ v, up S a i v = up S a (nI i).toNatClampNeg v := fun v => by rw [nIc (by unfold isA at ha; omega)]
    rw [hx] at key
    have hge : ¬ nI len ≤ nI i := nI_ge (by omega) (by unfold isA at ha; omega)
    have hvi : vp_in (nI i) len := vp_in_nI (by omega) (by unfold isA at ha; omega)
    unfold isA at ha
    rcases ha with ⟨rfl, rfl⟩ | ⟨rfl, rfl⟩ | ⟨rfl, rfl⟩ | ⟨rfl, rfl⟩ | ⟨rfl, rfl⟩ | ⟨rfl, rfl⟩ | ⟨rfl, rfl⟩ <;>
    · skip
      repeat' (first | (refine Rules.st H okX5_passes [2] ?_; conv => whnf) | refine br_t (by first | decide | assumption) ?_ | refine br_f (by first | decide | assumption) ?_ | refine br_c (fun _ => ?_) (fun _ => ?_) | refine ⟨by decide, ?_⟩ | refine ⟨by first | assumption | (unfold vp_in; decide) | ((with_reducible (refine vp_in_nI ?_ ?_)) <;> omega), ?_⟩ | fail)
      all_goals first | exact Halt.mk key | skip
set_option maxRecDepth 100000 in
theorem X5_passes_K (H : Rules C T) {a len c : Nat} (ha : isA a len) (hc : c + len ≤ 117) {S : Mem} (hkp : S 25 19 = 1) (hcu : S 25 20 = nI c) {Q : Pst} (h1 : Q none (pK a len c 0 S)) : C mX5_passes [.ref 25, .ref a] S Q := by
  refine Rules.go H (by decide) (Nat.le_of_ble_eq_true rfl) ?_
  repeat' (first | (refine Rules.st H okX5_passes [2] ?_; conv => whnf) | refine br_t (by first | decide | assumption) ?_ | refine br_f (by first | decide | assumption) ?_ | refine br_c (fun _ => ?_) (fun _ => ?_) | refine ⟨by decide, ?_⟩ | refine ⟨by first | assumption | (unfold vp_in; decide) | ((with_reducible (refine vp_in_nI ?_ ?_)) <;> omega), ?_⟩ | fail)
  exact Halt.mk (X5_passes_k H ha hc len 0 S (Nat.zero_add _) hkp hcu h1)
set_option maxRecDepth 100000 in
theorem X5_passes_B (H : Rules C T) {a len c : Nat} (ha : isA a len) (hc : c + len ≤ 117) {S : Mem} (hkp : S 25 19 = 0) (hcu : S 25 20 = nI c) {Q : Pst} (h1 : Q none (pB a len c 0 S)) : C mX5_passes [.ref 25, .ref a] S Q := by
  refine Rules.go H (by decide) (Nat.le_of_ble_eq_true rfl) ?_
  repeat' (first | (refine Rules.st H okX5_passes [2] ?_; conv => whnf) | refine br_t (by first | decide | assumption) ?_ | refine br_f (by first | decide | assumption) ?_ | refine br_c (fun _ => ?_) (fun _ => ?_) | refine ⟨by decide, ?_⟩ | refine ⟨by first | assumption | (unfold vp_in; decide) | ((with_reducible (refine vp_in_nI ?_ ?_)) <;> omega), ?_⟩ | fail)
  exact Halt.mk (X5_passes_b H ha hc len 0 S (Nat.zero_add _) hkp hcu h1)
end M1
