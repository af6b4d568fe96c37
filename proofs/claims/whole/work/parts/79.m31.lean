section M31
variable {C : Cst} {T : Nat → Pst → Nat → Lcs → List Value → Mem → Prop}
def AnsML (S : Mem) (a : AnsL) (Q : Pst) : Prop := ∀ S', ScM a.1 S S' → Q (some (.long a.2)) S'
set_option maxRecDepth 100000 in
theorem X5_lowestOf (H : Rules C T) {S0 S : Mem} (F : ScM 0 S0 S) {k : Nat} (hk1 : 1 ≤ k) (hk : k < 7) {x : Int32} (hx : -x = nI k) {Q : Pst} (h1 : ∀ S', ScM k S0 S' → Q (some (.long (refL x))) S') : C mX5_lowestOf [.ref 25, .int x] S Q := by
  have key : Q (some (.long (refL x))) (up S 26 (-x).toNatClampNeg (S 26 (-x).toNatClampNeg + 1)) := by
    rw [hx, nIc (by omega)]
    refine h1 _ (fun a j ha => ?_)
    unfold up
    by_cases q : a = 26 ∧ j = k
    · obtain ⟨rfl, rfl⟩ := q
      rw [if_pos ⟨rfl, rfl⟩, if_pos ⟨rfl, rfl, by omega⟩, F.at ha]
    · rw [if_neg q, if_neg (fun z => q ⟨z.1, z.2.1⟩), F.at ha]
  have hv : vp_in (-x) 7 := by rw [hx]; exact vp_in_nI hk (by omega)
  unfold refL at key
  refine Rules.go H (by decide) (Nat.le_of_ble_eq_true rfl) ?_
  repeat' (first | (refine Rules.st H okX5_lowestOf [] ?_; (conv => whnf); try (show T _ _ _ [_, _] _ _)) | refine br_t (by first | decide | assumption) ?_ | refine br_f (by first | decide | assumption) ?_ | refine br_c (fun _ => ?_) (fun _ => ?_) | refine ⟨by decide, ?_⟩ | refine ⟨by first | assumption | (unfold vp_in; decide) | ((with_reducible (refine vp_in_nI ?_ ?_)) <;> omega), ?_⟩ | fail)
  exact key
/-- the divisor's loop ends within so many turns -/
def finL : Nat → Int64 → Int64 → Prop
  | 0, _, b => b = 0
  | k + 1, a, b => b = 0 ∨ finL k b (lrm a b)
set_option maxRecDepth 100000 in
theorem X5_divisor_l (H : Rules C T) {a0 b0 : Int64} {S : Mem} {Q : Pst} : ∀ (k : Nat) (a b : Int64) (x y : Option Value), finL k a b → Q (some (.long (gcdL k a b))) S → T mX5_divisor Q 6 [some (.long a0), none, some (.long b0), none, some (.long a), none, some (.long b), none, x, y] [] S := by
  intro k
  induction k with
  | zero =>
    intro a b x y f h1
    have hc : lg_cmp b (Int64.ofNat 0) = 0 := (lg_cmp_eq b 0).mpr f
    skip
    repeat' (first | (refine Rules.st H okX5_divisor [6] ?_; (conv => whnf); try (show T _ _ _ [_, _, _, _, _, _, _, _, _, _] _ _)) | refine br_t (by first | decide | assumption) ?_ | refine br_f (by first | decide | assumption) ?_ | refine br_c (fun _ => ?_) (fun _ => ?_) | refine ⟨by decide, ?_⟩ | refine ⟨by first | assumption | (unfold vp_in; decide) | ((with_reducible (refine vp_in_nI ?_ ?_)) <;> omega), ?_⟩ | fail)
    exact h1
  | succ k ih =>
    intro a b x y f h1
    unfold gcdL at h1
    by_cases hb : b = 0
    · have hc : lg_cmp b (Int64.ofNat 0) = 0 := (lg_cmp_eq b 0).mpr hb
      rw [if_pos hb] at h1
      skip
      repeat' (first | (refine Rules.st H okX5_divisor [6] ?_; (conv => whnf); try (show T _ _ _ [_, _, _, _, _, _, _, _, _, _] _ _)) | refine br_t (by first | decide | assumption) ?_ | refine br_f (by first | decide | assumption) ?_ | refine br_c (fun _ => ?_) (fun _ => ?_) | refine ⟨by decide, ?_⟩ | refine ⟨by first | assumption | (unfold vp_in; decide) | ((with_reducible (refine vp_in_nI ?_ ?_)) <;> omega), ?_⟩ | fail)
      exact h1
    · have hc : ¬ lg_cmp b (Int64.ofNat 0) = 0 := fun z => hb ((lg_cmp_eq b 0).mp z)
      rw [if_neg hb] at h1
      skip
      repeat' (first | (refine Rules.st H okX5_divisor [6] ?_; (conv => whnf); try (show T _ _ _ [_, _, _, _, _, _, _, _, _, _] _ _)) | refine br_t (by first | decide | assumption) ?_ | refine br_f (by first | decide | assumption) ?_ | refine br_c (fun _ => ?_) (fun _ => ?_) | refine ⟨by decide, ?_⟩ | refine ⟨by first | assumption | (unfold vp_in; decide) | ((with_reducible (refine vp_in_nI ?_ ?_)) <;> omega), ?_⟩ | fail)
      refine Halt.mk ?_
      exact ih _ _ _ _ (f.resolve_left hb) h1
set_option maxRecDepth 100000 in
theorem X5_divisor (H : Rules C T) {a b : Int64} (f : finL 100 a b) {S : Mem} {Q : Pst} (h1 : Q (some (.long (gcdL 100 a b))) S) : C mX5_divisor [.long a, .long b] S Q := by
  have key := X5_divisor_l H (a0 := a) (b0 := b) (S := S) (Q := Q) 100 a b none none f h1
  refine Rules.go H (by decide) (Nat.le_of_ble_eq_true rfl) ?_
  repeat' (first | (refine Rules.st H okX5_divisor [6] ?_; (conv => whnf); try (show T _ _ _ [_, _, _, _, _, _, _, _, _, _] _ _)) | refine br_t (by first | decide | assumption) ?_ | refine br_f (by first | decide | assumption) ?_ | refine br_c (fun _ => ?_) (fun _ => ?_) | refine ⟨by decide, ?_⟩ | refine ⟨by first | assumption | (unfold vp_in; decide) | ((with_reducible (refine vp_in_nI ?_ ?_)) <;> omega), ?_⟩ | fail)
  exact Halt.mk key
set_option maxRecDepth 100000 in
theorem gcd_0 : ∀ (k : Nat) (a b : Int64), finL k a b → gcdL k a b = 0 → a = 0 ∧ b = 0
  | 0, a, b, f, h => ⟨h, f⟩
  | k + 1, a, b, f, h => by
    unfold gcdL at h
    by_cases hb : b = 0
    · rw [if_pos hb] at h
      exact ⟨h, hb⟩
    · rw [if_neg hb] at h
      exact absurd (gcd_0 k b _ (f.resolve_left hb) h).1 hb
set_option maxRecDepth 100000 in
theorem gcd_l0 {b : Int64} : gcdL 100 0 b = b := by
  unfold gcdL
  by_cases hb : b = 0
  · rw [if_pos hb, hb]
  · rw [if_neg hb]
    have e : lrm 0 b = 0 := by
      unfold lrm
      rw [Int64.zero_div, Int64.zero_mul, Int64.sub_self]
    rw [e]
    unfold gcdL
    rw [if_pos rfl]
set_option maxRecDepth 100000 in
theorem X5_partOf (H : Rules C T) {a b : Int64} {p : Int32} (f : finL 100 a b) (hb : ¬ b = 0) (hp : p = 0 ∨ p = 1) {S : Mem} {Q : Pst} (h1 : Q (some (.long (partL a b p))) S) : C mX5_partOf [.long a, .long b, .int p] S Q := by
  have hg : ¬ gcdL 100 a b = 0 := fun z => hb (gcd_0 100 a b f z).2
  have e : partL a b p = if p = 0 then a / gcdL 100 a b else b / gcdL 100 a b := by
    unfold partL
    by_cases ha : a = 0
    · rw [if_pos (Or.inl ha), ha, gcd_l0]
      rcases hp with rfl | rfl
      · rw [if_pos rfl, Int64.zero_div]
        rfl
      · rw [if_neg (by decide), Int64.div_self, if_neg hb]
        rfl
    · rw [if_neg (fun z => z.elim ha hb), if_neg hg]
  rw [e] at h1
  rcases hp with rfl | rfl
  · rw [if_pos rfl] at h1
    refine Rules.go H (by decide) (Nat.le_of_ble_eq_true rfl) ?_
    repeat' (first | (refine Rules.st H okX5_partOf [] ?_; (conv => whnf); try (show T _ _ _ [_, _, _, _, _] _ _)) | refine br_t (by first | decide | assumption) ?_ | refine br_f (by first | decide | assumption) ?_ | refine br_c (fun _ => ?_) (fun _ => ?_) | refine ⟨by decide, ?_⟩ | refine ⟨by first | assumption | (unfold vp_in; decide) | ((with_reducible (refine vp_in_nI ?_ ?_)) <;> omega), ?_⟩ | fail)
    refine X5_divisor H f ?_
    repeat' (first | (refine Rules.st H okX5_partOf [] ?_; (conv => whnf); try (show T _ _ _ [_, _, _, _, _] _ _)) | refine br_t (by first | decide | assumption) ?_ | refine br_f (by first | decide | assumption) ?_ | refine br_c (fun _ => ?_) (fun _ => ?_) | refine ⟨by decide, ?_⟩ | refine ⟨by first | assumption | (unfold vp_in; decide) | ((with_reducible (refine vp_in_nI ?_ ?_)) <;> omega), ?_⟩ | fail)
    exact h1
  · rw [if_neg (by decide)] at h1
    refine Rules.go H (by decide) (Nat.le_of_ble_eq_true rfl) ?_
    repeat' (first | (refine Rules.st H okX5_partOf [] ?_; (conv => whnf); try (show T _ _ _ [_, _, _, _, _] _ _)) | refine br_t (by first | decide | assumption) ?_ | refine br_f (by first | decide | assumption) ?_ | refine br_c (fun _ => ?_) (fun _ => ?_) | refine ⟨by decide, ?_⟩ | refine ⟨by first | assumption | (unfold vp_in; decide) | ((with_reducible (refine vp_in_nI ?_ ?_)) <;> omega), ?_⟩ | fail)
    refine X5_divisor H f ?_
    repeat' (first | (refine Rules.st H okX5_partOf [] ?_; (conv => whnf); try (show T _ _ _ [_, _, _, _, _] _ _)) | refine br_t (by first | decide | assumption) ?_ | refine br_f (by first | decide | assumption) ?_ | refine br_c (fun _ => ?_) (fun _ => ?_) | refine ⟨by decide, ?_⟩ | refine ⟨by first | assumption | (unfold vp_in; decide) | ((with_reducible (refine vp_in_nI ?_ ?_)) <;> omega), ?_⟩ | fail)
    exact h1
set_option maxRecDepth 100000 in
theorem lrm_t {a b : Int64} (ha : 0 ≤ a.toInt) (hb : 0 < b.toInt) : (lrm a b).toInt = a.toInt % b.toInt := by
  have h2 := Int64.toInt_lt a
  have h3 := Int64.toInt_lt b
  have q0 : 0 ≤ a.toInt / b.toInt := Int.ediv_nonneg ha (by omega)
  have q1 : a.toInt / b.toInt ≤ a.toInt := Int.ediv_le_self _ ha
  have q2 : a.toInt / b.toInt * b.toInt ≤ a.toInt := Int.ediv_mul_le _ (by omega)
  have q3 : 0 ≤ a.toInt / b.toInt * b.toInt := Int.mul_nonneg q0 (by omega)
  have e1 : (a / b).toInt = a.toInt / b.toInt := by
    rw [Int64.toInt_div, Int.tdiv_eq_ediv_of_nonneg ha]
    exact Int.bmod_eq_of_le (by omega) (by omega)
  have e2 : (a / b * b).toInt = a.toInt / b.toInt * b.toInt := by
    rw [Int64.toInt_mul, e1]
    exact Int.bmod_eq_of_le (by omega) (by omega)
  unfold lrm
  rw [Int64.toInt_sub, e2, Int.bmod_eq_of_le (by omega) (by omega), Int.emod_def, Int.mul_comm b.toInt]
set_option maxRecDepth 100000 in
theorem fin_of : ∀ (j k : Nat) (a b : Int64), 2 * j ≤ k → 0 ≤ a.toInt → 0 ≤ b.toInt → b.toInt < 2 ^ j → finL k a b
  | 0, k, a, b, _, _, h0, h1 => by
    have hb : b = 0 := Int64.toInt_inj.mp (by
      have z : (0 : Int64).toInt = 0 := by decide
      rw [z]
      have : (2 : Int) ^ 0 = 1 := rfl
      omega)
    cases k with
    | zero => exact hb
    | succ k => exact Or.inl hb
  | j + 1, k, a, b, hk, ha, h0, h1 => by
    obtain ⟨k, rfl⟩ : ∃ i, k = i + 2 := ⟨k - 2, by omega⟩
    by_cases hb : b = 0
    · exact Or.inl hb
    · refine Or.inr ?_
      have hb1 : 0 < b.toInt := by
        rcases Int.lt_or_eq_of_le h0 with h | h
        · exact h
        · exact absurd (Int64.toInt_inj.mp (h.symm.trans (by decide : (0 : Int) = (0 : Int64).toInt))) hb
      have er := lrm_t ha hb1
      have r0 : 0 ≤ (lrm a b).toInt := by rw [er]; exact Int.emod_nonneg _ (by omega)
      have r1 : (lrm a b).toInt < b.toInt := by rw [er]; exact Int.emod_lt_of_pos _ hb1
      generalize lrm a b = r at r0 r1 ⊢
      by_cases hr : r = 0
      · exact Or.inl hr
      · refine Or.inr ?_
        have hr1 : 0 < r.toInt := by
          rcases Int.lt_or_eq_of_le r0 with h | h
          · exact h
          · exact absurd (Int64.toInt_inj.mp (h.symm.trans (by decide : (0 : Int) = (0 : Int64).toInt))) hr
        have es := lrm_t h0 hr1
        have s0 := Int.emod_nonneg b.toInt (show r.toInt ≠ 0 by omega)
        have s1 := Int.emod_lt_of_pos b.toInt hr1
        have s2 : b.toInt % r.toInt ≤ b.toInt - r.toInt := by
          rw [Int.emod_def]
          have d1 : 1 ≤ b.toInt / r.toInt := (Int.le_ediv_iff_mul_le hr1).mpr (by omega)
          have := Int.mul_le_mul_of_nonneg_left d1 (show 0 ≤ r.toInt by omega)
          omega
        refine fin_of j k r _ (by omega) r0 (by rw [es]; exact s0) ?_
        rw [es]
        have : (2 : Int) ^ (j + 1) = 2 ^ j * 2 := Int.pow_succ 2 j
        omega
set_option maxRecDepth 100000 in
theorem i1_n0 : ∀ i, i < 9 → ¬ (nI i + 1).toInt64 = 0 := by decide
set_option maxRecDepth 100000 in
theorem X5_choose_l (H : Rules C T) {n : Int32} {q : Nat} (hq : q ≤ 8) {S : Mem} {Q : Pst} : ∀ (k i : Nat) (a : Int64), i + k = q → Q (some (.long (if n < nI q then 0 else waysL n k i a))) S → T mX5_choose Q 5 [some (.int n), some (.int (nI q)), some (.long a), none, some (.int (nI i))] [] S := by
  intro k
  induction k with
  | zero =>
    intro i a hi h1
    have hge : nI q ≤ nI i := nI_le (by omega) (by omega)
    by_cases h : n < nI q
    · have h2 := Int32.not_le.mpr h
      rw [if_pos h] at h1
      skip
      repeat' (first | (refine Rules.st H okX5_choose [5] ?_; (conv => whnf); try (show T _ _ _ [_, _, _, _, _] _ _)) | refine br_t (by first | decide | assumption) ?_ | refine br_f (by first | decide | assumption) ?_ | refine br_c (fun _ => ?_) (fun _ => ?_) | refine ⟨by decide, ?_⟩ | refine ⟨by first | assumption | (unfold vp_in; decide) | ((with_reducible (refine vp_in_nI ?_ ?_)) <;> omega), ?_⟩ | fail)
      exact h1
    · have h2 := Int32.not_lt.mp h
      rw [if_neg h] at h1
      skip
      repeat' (first | (refine Rules.st H okX5_choose [5] ?_; (conv => whnf); try (show T _ _ _ [_, _, _, _, _] _ _)) | refine br_t (by first | decide | assumption) ?_ | refine br_f (by first | decide | assumption) ?_ | refine br_c (fun _ => ?_) (fun _ => ?_) | refine ⟨by decide, ?_⟩ | refine ⟨by first | assumption | (unfold vp_in; decide) | ((with_reducible (refine vp_in_nI ?_ ?_)) <;> omega), ?_⟩ | fail)
      exact h1
  | succ k ih =>
    intro i a hi h1
    have hge : ¬ nI q ≤ nI i := nI_ge (by omega) (by omega)
    have h0 := i1_n0 i (by omega)
    unfold waysL at h1
    skip
    repeat' (first | (refine Rules.st H okX5_choose [5] ?_; (conv => whnf); try (show T _ _ _ [_, _, _, _, _] _ _)) | refine br_t (by first | decide | assumption) ?_ | refine br_f (by first | decide | assumption) ?_ | refine br_c (fun _ => ?_) (fun _ => ?_) | refine ⟨by decide, ?_⟩ | refine ⟨by first | assumption | (unfold vp_in; decide) | ((with_reducible (refine vp_in_nI ?_ ?_)) <;> omega), ?_⟩ | fail)
    refine Halt.mk ?_
    rw [nI_1]
    rw [nI_1] at h1
    exact ih (i + 1) _ (by omega) h1
set_option maxRecDepth 100000 in
theorem X5_choose (H : Rules C T) {n : Int32} {q : Nat} (hq : q ≤ 8) {S : Mem} {Q : Pst} (h1 : Q (some (.long (if n < nI q then 0 else waysL n q 0 1))) S) : C mX5_choose [.int n, .int (nI q)] S Q := by
  refine Rules.go H (by decide) (Nat.le_of_ble_eq_true rfl) ?_
  repeat' (first | (refine Rules.st H okX5_choose [5] ?_; (conv => whnf); try (show T _ _ _ [_, _, _, _, _] _ _)) | refine br_t (by first | decide | assumption) ?_ | refine br_f (by first | decide | assumption) ?_ | refine br_c (fun _ => ?_) (fun _ => ?_) | refine ⟨by decide, ?_⟩ | refine ⟨by first | assumption | (unfold vp_in; decide) | ((with_reducible (refine vp_in_nI ?_ ?_)) <;> omega), ?_⟩ | fail)
  exact Halt.mk (X5_choose_l H hq q 0 1 (by omega) h1)
set_option maxRecDepth 100000 in
theorem ways_0 : ∀ n, n < 9 → ∀ q, q < 9 → nI n < nI q → waysL (nI n) q 0 1 = 0 := by decide +kernel
set_option maxRecDepth 100000 in
theorem ways_f {n q : Nat} (hn : n < 9) (hq : q < 9) : (if nI n < nI q then 0 else waysL (nI n) q 0 1) = waysL (nI n) q 0 1 := by
  by_cases h : nI n < nI q
  · rw [if_pos h, ways_0 n hn q hq h]
  · rw [if_neg h]
set_option maxRecDepth 100000 in
theorem ways_t : ∀ n, n < 9 → ∀ d, d ≤ n → ∀ q, q ≤ n → 0 ≤ (waysL (nI n) q 0 1 - waysL (nI d) q 0 1).toInt ∧ 0 < (waysL (nI n) q 0 1).toInt ∧ (waysL (nI n) q 0 1).toInt < 2 ^ 40 := by decide +kernel
set_option maxRecDepth 100000 in
theorem pop_t : ∀ n, n < 9 → ∀ D, D < 2 ^ n → pcI (nI D) = nI (popN D) ∧ popN D ≤ n := by decide +kernel
set_option maxRecDepth 100000 in
theorem ne0 {b : Int64} (h : 0 < b.toInt) : ¬ b = 0 := fun z => by
  rw [z] at h
  exact absurd h (by decide)
set_option maxRecDepth 100000 in
theorem w2' {w : Int32} (h0 : 0 ≤ w) (h2 : w ≤ 1) : w = 0 ∨ w = 1 := by
  rcases w3 h0 (Int32.le_trans h2 (by decide)) with h | h | h
  · exact Or.inl h
  · exact Or.inr h
  · rw [h] at h2; exact absurd h2 (by decide)
set_option maxRecDepth 100000 in
theorem X5_inspected (H : Rules C T) {S K : Mem} {n : Nat} (X : XM S K n) {k p : Int32} {Q : Pst} (h1 : AnsML S (F_inspected K n k p) Q) : C mX5_inspected [.ref 25, .int k, .int p] S Q := by
  obtain ⟨⟨d, R⟩, g, hz⟩ := X
  have h8 := g.2.1
  unfold F_inspected at h1
  refine Rules.go H (by decide) (Nat.le_of_ble_eq_true rfl) ?_
  repeat' (first | (refine Rules.st H okX5_inspected [] ?_; (conv => whnf); try (show T _ _ _ [_, _, _, _] _ _)) | refine br_t (by first | decide | assumption) ?_ | refine br_f (by first | decide | assumption) ?_ | refine br_c (fun _ => ?_) (fun _ => ?_) | refine ⟨by decide, ?_⟩ | refine ⟨by first | assumption | (unfold vp_in; decide) | ((with_reducible (refine vp_in_nI ?_ ?_)) <;> omega), ?_⟩ | fail)
  refine X5_bound H (fun q3 => ?_) (fun q3 q4 => ?_) (fun q3 q4 => ?_)
  · rw [if_pos q3] at h1
    repeat' (first | (refine Rules.st H okX5_inspected [] ?_; (conv => whnf); try (show T _ _ _ [_, _, _, _] _ _)) | refine br_t (by first | decide | assumption) ?_ | refine br_f (by first | decide | assumption) ?_ | refine br_c (fun _ => ?_) (fun _ => ?_) | refine ⟨by decide, ?_⟩ | refine ⟨by first | assumption | (unfold vp_in; decide) | ((with_reducible (refine vp_in_nI ?_ ?_)) <;> omega), ?_⟩ | fail)
    refine X5_lowestOf H ScM.rf (k := 4) (by omega) (by omega) (by decide) (fun S' hS' => ?_)
    repeat' (first | (refine Rules.st H okX5_inspected [] ?_; (conv => whnf); try (show T _ _ _ [_, _, _, _] _ _)) | refine br_t (by first | decide | assumption) ?_ | refine br_f (by first | decide | assumption) ?_ | refine br_c (fun _ => ?_) (fun _ => ?_) | refine ⟨by decide, ?_⟩ | refine ⟨by first | assumption | (unfold vp_in; decide) | ((with_reducible (refine vp_in_nI ?_ ?_)) <;> omega), ?_⟩ | fail)
    exact h1 S' hS'
  · rw [if_neg q3, if_pos q4] at h1
    repeat' (first | (refine Rules.st H okX5_inspected [] ?_; (conv => whnf); try (show T _ _ _ [_, _, _, _] _ _)) | refine br_t (by first | decide | assumption) ?_ | refine br_f (by first | decide | assumption) ?_ | refine br_c (fun _ => ?_) (fun _ => ?_) | refine ⟨by decide, ?_⟩ | refine ⟨by first | assumption | (unfold vp_in; decide) | ((with_reducible (refine vp_in_nI ?_ ?_)) <;> omega), ?_⟩ | fail)
    refine X5_lowestOf H ScM.rf (k := 6) (by omega) (by omega) (by decide) (fun S' hS' => ?_)
    repeat' (first | (refine Rules.st H okX5_inspected [] ?_; (conv => whnf); try (show T _ _ _ [_, _, _, _] _ _)) | refine br_t (by first | decide | assumption) ?_ | refine br_f (by first | decide | assumption) ?_ | refine br_c (fun _ => ?_) (fun _ => ?_) | refine ⟨by decide, ?_⟩ | refine ⟨by first | assumption | (unfold vp_in; decide) | ((with_reducible (refine vp_in_nI ?_ ?_)) <;> omega), ?_⟩ | fail)
    exact h1 S' hS'
  · rw [if_neg q3, if_neg q4] at h1
    obtain ⟨q, hq, rfl⟩ := nI_of q3
    have q8 : q ≤ 8 := by
      rw [ltT, nIt hq] at q4
      have : (8 : Int32).toInt = 8 := by decide
      omega
    rw [show ix (nI q) = q from nIc (by omega)] at h1
    have e8 : S 25 8 = nI n := R.rm.trans g.1
    by_cases q5 : nI n < nI q
    · have q6 : ¬ nI q ≤ S 25 8 := by rw [e8]; exact Int32.not_le.mpr q5
      rw [if_pos q5] at h1
      repeat' (first | (refine Rules.st H okX5_inspected [] ?_; (conv => whnf); try (show T _ _ _ [_, _, _, _] _ _)) | refine br_t (by first | decide | assumption) ?_ | refine br_f (by first | decide | assumption) ?_ | refine br_c (fun _ => ?_) (fun _ => ?_) | refine ⟨by decide, ?_⟩ | refine ⟨by first | assumption | (unfold vp_in; decide) | ((with_reducible (refine vp_in_nI ?_ ?_)) <;> omega), ?_⟩ | fail)
      refine X5_lowestOf H ScM.rf (k := 3) (by omega) (by omega) (by decide) (fun S' hS' => ?_)
      repeat' (first | (refine Rules.st H okX5_inspected [] ?_; (conv => whnf); try (show T _ _ _ [_, _, _, _] _ _)) | refine br_t (by first | decide | assumption) ?_ | refine br_f (by first | decide | assumption) ?_ | refine br_c (fun _ => ?_) (fun _ => ?_) | refine ⟨by decide, ?_⟩ | refine ⟨by first | assumption | (unfold vp_in; decide) | ((with_reducible (refine vp_in_nI ?_ ?_)) <;> omega), ?_⟩ | fail)
      exact h1 S' hS'
    · have q6 : nI q ≤ S 25 8 := by rw [e8]; exact Int32.not_lt.mp q5
      rw [if_neg q5] at h1
      repeat' (first | (refine Rules.st H okX5_inspected [] ?_; (conv => whnf); try (show T _ _ _ [_, _, _, _] _ _)) | refine br_t (by first | decide | assumption) ?_ | refine br_f (by first | decide | assumption) ?_ | refine br_c (fun _ => ?_) (fun _ => ?_) | refine ⟨by decide, ?_⟩ | refine ⟨by first | assumption | (unfold vp_in; decide) | ((with_reducible (refine vp_in_nI ?_ ?_)) <;> omega), ?_⟩ | fail)
      refine X5_isIn H (fun p1 p2 => ?_) (fun p0 => ?_)
      · rw [if_neg (w2y p1 p2)] at h1
        have qn : q ≤ n := by
          rw [nI_ltI (by omega) (by omega)] at q5
          omega
        obtain ⟨D, hD, eD⟩ := g.2.2.1
        obtain ⟨t1, t2⟩ := pop_t n (by omega) D hD
        obtain ⟨u1, u2, u3⟩ := ways_t n (by omega) (popN D) t2 q qn
        have h1 := h1 S ScM.rf
        change Q (some (.long (partL (waysL (nI n) q 0 1 - waysL (pcI (K 0 1)) q 0 1) (waysL (nI n) q 0 1) p))) S at h1
        rw [eD, t1] at h1
        repeat' (first | (refine Rules.st H okX5_inspected [] ?_; (conv => whnf); try (show T _ _ _ [_, _, _, _] _ _)) | refine br_t (by first | decide | assumption) ?_ | refine br_f (by first | decide | assumption) ?_ | refine br_c (fun _ => ?_) (fun _ => ?_) | refine ⟨by decide, ?_⟩ | refine ⟨by first | assumption | (unfold vp_in; decide) | ((with_reducible (refine vp_in_nI ?_ ?_)) <;> omega), ?_⟩ | fail)
        rw [e8]
        refine X5_choose H q8 ?_
        rw [ways_f (by omega) (by omega)]
        repeat' (first | (refine Rules.st H okX5_inspected [] ?_; (conv => whnf); try (show T _ _ _ [_, _, _, _] _ _)) | refine br_t (by first | decide | assumption) ?_ | refine br_f (by first | decide | assumption) ?_ | refine br_c (fun _ => ?_) (fun _ => ?_) | refine ⟨by decide, ?_⟩ | refine ⟨by first | assumption | (unfold vp_in; decide) | ((with_reducible (refine vp_in_nI ?_ ?_)) <;> omega), ?_⟩ | fail)
        refine X5_manyDone H R g ?_
        rw [eD, t1]
        repeat' (first | (refine Rules.st H okX5_inspected [] ?_; (conv => whnf); try (show T _ _ _ [_, _, _, _] _ _)) | refine br_t (by first | decide | assumption) ?_ | refine br_f (by first | decide | assumption) ?_ | refine br_c (fun _ => ?_) (fun _ => ?_) | refine ⟨by decide, ?_⟩ | refine ⟨by first | assumption | (unfold vp_in; decide) | ((with_reducible (refine vp_in_nI ?_ ?_)) <;> omega), ?_⟩ | fail)
        refine X5_choose H q8 ?_
        rw [ways_f (by omega) (by omega)]
        repeat' (first | (refine Rules.st H okX5_inspected [] ?_; (conv => whnf); try (show T _ _ _ [_, _, _, _] _ _)) | refine br_t (by first | decide | assumption) ?_ | refine br_f (by first | decide | assumption) ?_ | refine br_c (fun _ => ?_) (fun _ => ?_) | refine ⟨by decide, ?_⟩ | refine ⟨by first | assumption | (unfold vp_in; decide) | ((with_reducible (refine vp_in_nI ?_ ?_)) <;> omega), ?_⟩ | fail)
        rw [e8]
        refine X5_choose H q8 ?_
        rw [ways_f (by omega) (by omega)]
        repeat' (first | (refine Rules.st H okX5_inspected [] ?_; (conv => whnf); try (show T _ _ _ [_, _, _, _] _ _)) | refine br_t (by first | decide | assumption) ?_ | refine br_f (by first | decide | assumption) ?_ | refine br_c (fun _ => ?_) (fun _ => ?_) | refine ⟨by decide, ?_⟩ | refine ⟨by first | assumption | (unfold vp_in; decide) | ((with_reducible (refine vp_in_nI ?_ ?_)) <;> omega), ?_⟩ | fail)
        refine X5_partOf H (fin_of 40 100 _ _ (by omega) u1 (by omega) u3) (ne0 u2) (w2' p1 p2) ?_
        repeat' (first | (refine Rules.st H okX5_inspected [] ?_; (conv => whnf); try (show T _ _ _ [_, _, _, _] _ _)) | refine br_t (by first | decide | assumption) ?_ | refine br_f (by first | decide | assumption) ?_ | refine br_c (fun _ => ?_) (fun _ => ?_) | refine ⟨by decide, ?_⟩ | refine ⟨by first | assumption | (unfold vp_in; decide) | ((with_reducible (refine vp_in_nI ?_ ?_)) <;> omega), ?_⟩ | fail)
        exact h1
      · rw [if_pos (w2n p0)] at h1
        repeat' (first | (refine Rules.st H okX5_inspected [] ?_; (conv => whnf); try (show T _ _ _ [_, _, _, _] _ _)) | refine br_t (by first | decide | assumption) ?_ | refine br_f (by first | decide | assumption) ?_ | refine br_c (fun _ => ?_) (fun _ => ?_) | refine ⟨by decide, ?_⟩ | refine ⟨by first | assumption | (unfold vp_in; decide) | ((with_reducible (refine vp_in_nI ?_ ?_)) <;> omega), ?_⟩ | fail)
        refine X5_lowestOf H ScM.rf (k := 2) (by omega) (by omega) (by decide) (fun S' hS' => ?_)
        repeat' (first | (refine Rules.st H okX5_inspected [] ?_; (conv => whnf); try (show T _ _ _ [_, _, _, _] _ _)) | refine br_t (by first | decide | assumption) ?_ | refine br_f (by first | decide | assumption) ?_ | refine br_c (fun _ => ?_) (fun _ => ?_) | refine ⟨by decide, ?_⟩ | refine ⟨by first | assumption | (unfold vp_in; decide) | ((with_reducible (refine vp_in_nI ?_ ?_)) <;> omega), ?_⟩ | fail)
        exact h1 S' hS'
end M31
