section X1
variable {C : Cst} {T : Nat → Pst → Nat → Lcs → List Value → Mem → Prop}
/-- a room, a maid -/
abbrev okR (n : Nat) (x : Int32) : Prop := 0 ≤ x ∧ x < nI n
abbrev okM (x : Int32) : Prop := x = 0 ∨ x = 1
set_option maxRecDepth 100000 in
theorem okR_nI {n r : Nat} (hn : n ≤ 8) (h : r < n) : okR n (nI r) := ⟨nI_le (Nat.zero_le r) (by omega), nI_lt h (by omega)⟩
set_option maxRecDepth 100000 in
theorem okR_iff {n : Nat} (hn : n ≤ 8) {x : Int32} : okR n x ↔ ∃ r, r < n ∧ x = nI r := by
  constructor
  · intro h
    obtain ⟨r, hr, e⟩ := nI_bound2 (n := n) (by omega) (Int32.not_lt.mpr h.1) h.2
    exact ⟨r, hr, e⟩
  · rintro ⟨r, hr, rfl⟩
    exact okR_nI hn hr
set_option maxRecDepth 100000 in
theorem okM_iff {x : Int32} : okM x ↔ ∃ m, m < 2 ∧ x = nI m := by
  constructor
  · rintro (rfl | rfl)
    · exact ⟨0, by omega, rfl⟩
    · exact ⟨1, by omega, rfl⟩
  · rintro ⟨m, hm, rfl⟩
    rcases (show m = 0 ∨ m = 1 by omega) with rfl | rfl
    · exact Or.inl rfl
    · exact Or.inr rfl
def KZ (K : Mem) : Prop := K 0 3 = 0 ∧ K 0 4 = 0
set_option maxRecDepth 100000 in
theorem RepC.fresh {c : Nat} {S K : Mem} (h : RepC c S (freshK K)) (hz : KZ K) : RepC c S K := by
  intro o j hi
  rw [h o j hi]
  unfold freshK
  by_cases h4 : o = 0 ∧ j = 4
  · rw [h4.1, h4.2, up_at, hz.2]
  · by_cases h3 : o = 0 ∧ j = 3
    · rw [h3.1, h3.2, up_j (by omega), up_at, hz.1]
    · simp [up, h3, h4]
set_option maxRecDepth 100000 in
theorem X4_think (H : Rules C T) {S K : Mem} (R : RepC 1 S K) (hz : KZ K) {Q : Pst} (h1 : ∀ S', RepC 7 S' K → Fr 7 12 S S' → Q none S') : C mX4_think [.ref 0] S Q := by
  refine Rules.go H (by decide) (Nat.le_of_ble_eq_true rfl) ?_
  repeat' (first | (refine Rules.st H okX4_think [] ?_; conv => whnf) | refine br_t (by first | decide | assumption) ?_ | refine br_f (by first | decide | assumption) ?_ | refine br_c (fun _ => ?_) (fun _ => ?_) | refine ⟨by decide, ?_⟩ | refine ⟨by first | assumption | (unfold vp_in; decide) | ((with_reducible (refine vp_in_nI ?_ ?_)) <;> omega), ?_⟩ | fail)
  refine X1_become H (Or.inl ⟨rfl, rfl⟩) R (fun S1 R1 F1 => ?_)
  repeat' (first | (refine Rules.st H okX4_think [] ?_; conv => whnf) | refine br_t (by first | decide | assumption) ?_ | refine br_f (by first | decide | assumption) ?_ | refine br_c (fun _ => ?_) (fun _ => ?_) | refine ⟨by decide, ?_⟩ | refine ⟨by first | assumption | (unfold vp_in; decide) | ((with_reducible (refine vp_in_nI ?_ ?_)) <;> omega), ?_⟩ | fail)
  exact h1 S1 (R1.fresh hz) F1
set_option maxRecDepth 100000 in
theorem X4_thoughtMinutes (H : Rules C T) {S K K' : Mem} (R : RepC 1 S K) (R' : RepC 7 S K') {m : Nat} (hm : m < 2) {Q : Pst} (h1 : Q (some (.int (K' 5 m - K 5 m))) S) : C mX4_thoughtMinutes [.ref 0, .int (nI m)] S Q := by
  refine Rules.go H (by decide) (Nat.le_of_ble_eq_true rfl) ?_
  repeat' (first | (refine Rules.st H okX4_thoughtMinutes [] ?_; conv => whnf) | refine br_t (by first | decide | assumption) ?_ | refine br_f (by first | decide | assumption) ?_ | refine br_c (fun _ => ?_) (fun _ => ?_) | refine ⟨by decide, ?_⟩ | refine ⟨by first | assumption | (unfold vp_in; decide) | ((with_reducible (refine vp_in_nI ?_ ?_)) <;> omega), ?_⟩ | fail)
  refine X1_clockOf H (Or.inr (Or.inl rfl)) R' hm ?_
  repeat' (first | (refine Rules.st H okX4_thoughtMinutes [] ?_; conv => whnf) | refine br_t (by first | decide | assumption) ?_ | refine br_f (by first | decide | assumption) ?_ | refine br_c (fun _ => ?_) (fun _ => ?_) | refine ⟨by decide, ?_⟩ | refine ⟨by first | assumption | (unfold vp_in; decide) | ((with_reducible (refine vp_in_nI ?_ ?_)) <;> omega), ?_⟩ | fail)
  refine X1_clockOf H (Or.inl rfl) R hm ?_
  repeat' (first | (refine Rules.st H okX4_thoughtMinutes [] ?_; conv => whnf) | refine br_t (by first | decide | assumption) ?_ | refine br_f (by first | decide | assumption) ?_ | refine br_c (fun _ => ?_) (fun _ => ?_) | refine ⟨by decide, ?_⟩ | refine ⟨by first | assumption | (unfold vp_in; decide) | ((with_reducible (refine vp_in_nI ?_ ?_)) <;> omega), ?_⟩ | fail)
  exact h1
set_option maxRecDepth 100000 in
theorem X4_numberAt (H : Rules C T) {S : Mem} {i : Nat} (hi : i < 16) {Q : Pst} (h1 : Q (some (.int (S 21 i))) S) : C mX4_numberAt [.ref 0, .int (nI i)] S Q := by
  refine Rules.go H (by decide) (Nat.le_of_ble_eq_true rfl) ?_
  repeat' (first | (refine Rules.st H okX4_numberAt [] ?_; conv => whnf) | refine br_t (by first | decide | assumption) ?_ | refine br_f (by first | decide | assumption) ?_ | refine br_c (fun _ => ?_) (fun _ => ?_) | refine ⟨by decide, ?_⟩ | refine ⟨by first | assumption | (unfold vp_in; decide) | ((with_reducible (refine vp_in_nI ?_ ?_)) <;> omega), ?_⟩ | fail)
  all_goals (try (exfalso; (simp (disch := omega) only [li0, li1, li2, li3, li4, li5, li6, li7, li8, li9, li10, li11, li12, li13, li14, li15, li16, li17, li18, li19, li20, li60, li96, li99, li255, li999, ofN, nI_leI, nI_ltI, nI_eq, nI_1, nI_add] at *); first | done | omega))
  rw [nIc (by omega)]
  exact h1
/-- the round over a row -/
def rowK (n m : Nat) (row : Nat → Int32) : Nat → Nat → Mem → Mem
  | 0, _, K => K
  | k + 1, i, K => rowK n m row k (i + 1) (if okR n (row i) then (visitK K m (row i).toNatClampNeg).2 else K)
set_option maxRecDepth 100000 in
theorem X4_thinkRow_l (H : Rules C T) {n m q : Nat} (hn8 : n ≤ 8) (hm : m < 2) (hq : q ≤ 16) {row : Nat → Int32} {Q : Pst} : ∀ (k i : Nat) (S K : Mem) (x3 : Option Value), i + k = q → S 0 6 = nI q → (∀ j, j < 16 → S 21 j = row j) → RepC 7 S K → K 0 0 = nI n → (∀ S', RepC 7 S' (rowK n m row k i K) → Fr 7 12 S S' → Q none S') → T mX4_thinkRow Q 6 [some (.ref 0), some (.int (nI m)), some (.int (nI i)), x3] [] S := by
  intro k
  induction k with
  | zero =>
    intro i S K x3 hi h6 hrow R hn h1
    have hge : S 0 6 ≤ nI i := by rw [h6]; exact nI_le (by omega) (by omega)
    skip
    repeat' (first | (refine Rules.st H okX4_thinkRow [6] ?_; conv => whnf) | refine br_t (by first | decide | assumption) ?_ | refine br_f (by first | decide | assumption) ?_ | refine br_c (fun _ => ?_) (fun _ => ?_) | refine ⟨by decide, ?_⟩ | refine ⟨by first | assumption | (unfold vp_in; decide) | ((with_reducible (refine vp_in_nI ?_ ?_)) <;> omega), ?_⟩ | fail)
    exact h1 S R Fr.rf
  | succ k ih =>
    intro i S K x3 hi h6 hrow R hn h1
    have hge : ¬ S 0 6 ≤ nI i := by rw [h6]; exact nI_ge (by omega) (by omega)
    unfold rowK at h1
    skip
    repeat' (first | (refine Rules.st H okX4_thinkRow [6] ?_; conv => whnf) | refine br_t (by first | decide | assumption) ?_ | refine br_f (by first | decide | assumption) ?_ | refine br_c (fun _ => ?_) (fun _ => ?_) | refine ⟨by decide, ?_⟩ | refine ⟨by first | assumption | (unfold vp_in; decide) | ((with_reducible (refine vp_in_nI ?_ ?_)) <;> omega), ?_⟩ | fail)
    refine X4_numberAt H (by omega) ?_
    rw [hrow i (by omega)]
    repeat' (first | (refine Rules.st H okX4_thinkRow [6] ?_; conv => whnf) | refine br_t (by first | decide | assumption) ?_ | refine br_f (by first | decide | assumption) ?_ | refine br_c (fun _ => ?_) (fun _ => ?_) | refine ⟨by decide, ?_⟩ | refine ⟨by first | assumption | (unfold vp_in; decide) | ((with_reducible (refine vp_in_nI ?_ ?_)) <;> omega), ?_⟩ | fail)
    refine X1_hasRoom H (Or.inr (Or.inl rfl)) R hn hn8 (fun r hr e => ?_) (fun hno => ?_)
    · repeat' (first | (refine Rules.st H okX4_thinkRow [6] ?_; conv => whnf) | refine br_t (by first | decide | assumption) ?_ | refine br_f (by first | decide | assumption) ?_ | refine br_c (fun _ => ?_) (fun _ => ?_) | refine ⟨by decide, ?_⟩ | refine ⟨by first | assumption | (unfold vp_in; decide) | ((with_reducible (refine vp_in_nI ?_ ?_)) <;> omega), ?_⟩ | fail)
      rw [if_pos (by rw [e]; exact okR_nI hn8 hr)] at h1
      rw [e] at h1 ⊢
      rw [nIc (by omega)] at h1
      refine X1_visitBy H (Or.inr (Or.inl rfl)) R hm (by omega) (fun S1 R1 F1 => ?_)
      repeat' (first | (refine Rules.st H okX4_thinkRow [6] ?_; conv => whnf) | refine br_t (by first | decide | assumption) ?_ | refine br_f (by first | decide | assumption) ?_ | refine br_c (fun _ => ?_) (fun _ => ?_) | refine ⟨by decide, ?_⟩ | refine ⟨by first | assumption | (unfold vp_in; decide) | ((with_reducible (refine vp_in_nI ?_ ?_)) <;> omega), ?_⟩ | fail)
      refine Halt.mk ?_
      show T mX4_thinkRow Q 6 [some (.ref 0), some (.int (nI m)), some (.int (nI i + 1)), some (.int (nI r))] [] _
      rw [nI_1]
      exact ih (i + 1) S1 _ _ (by omega) (by rw [F1 0 6 (by omega)]; exact h6) (fun j hj => by rw [F1 21 j (by omega)]; exact hrow j hj) R1 ((visitK_n K m r).trans hn) (fun S' R' F' => h1 S' R' (F1.tr F'))
    · repeat' (first | (refine Rules.st H okX4_thinkRow [6] ?_; conv => whnf) | refine br_t (by first | decide | assumption) ?_ | refine br_f (by first | decide | assumption) ?_ | refine br_c (fun _ => ?_) (fun _ => ?_) | refine ⟨by decide, ?_⟩ | refine ⟨by first | assumption | (unfold vp_in; decide) | ((with_reducible (refine vp_in_nI ?_ ?_)) <;> omega), ?_⟩ | fail)
      rw [if_neg (fun z => by obtain ⟨r, hr, e⟩ := (okR_iff hn8).mp z; exact hno r hr e)] at h1
      refine Halt.mk ?_
      show T mX4_thinkRow Q 6 [some (.ref 0), some (.int (nI m)), some (.int (nI i + 1)), some (.int (row i))] [] _
      rw [nI_1]
      exact ih (i + 1) S _ _ (by omega) h6 hrow R hn h1
set_option maxRecDepth 100000 in
theorem X4_thinkRow (H : Rules C T) {n m q : Nat} (hn8 : n ≤ 8) (hm : m < 2) (hq : q ≤ 16) {row : Nat → Int32} {S K : Mem} (h6 : S 0 6 = nI q) (hrow : ∀ j, j < 16 → S 21 j = row j) (R : RepC 1 S K) (hz : KZ K) (hn : K 0 0 = nI n) {Q : Pst} (h1 : ∀ S', RepC 7 S' (rowK n m row q 0 K) → Fr 7 12 S S' → Q none S') : C mX4_thinkRow [.ref 0, .int (nI m)] S Q := by
  refine Rules.go H (by decide) (Nat.le_of_ble_eq_true rfl) ?_
  repeat' (first | (refine Rules.st H okX4_thinkRow [6] ?_; conv => whnf) | refine br_t (by first | decide | assumption) ?_ | refine br_f (by first | decide | assumption) ?_ | refine br_c (fun _ => ?_) (fun _ => ?_) | refine ⟨by decide, ?_⟩ | refine ⟨by first | assumption | (unfold vp_in; decide) | ((with_reducible (refine vp_in_nI ?_ ?_)) <;> omega), ?_⟩ | fail)
  refine X4_think H R hz (fun S1 R1 F1 => ?_)
  repeat' (first | (refine Rules.st H okX4_thinkRow [6] ?_; conv => whnf) | refine br_t (by first | decide | assumption) ?_ | refine br_f (by first | decide | assumption) ?_ | refine br_c (fun _ => ?_) (fun _ => ?_) | refine ⟨by decide, ?_⟩ | refine ⟨by first | assumption | (unfold vp_in; decide) | ((with_reducible (refine vp_in_nI ?_ ?_)) <;> omega), ?_⟩ | fail)
  refine Halt.mk (X4_thinkRow_l H hn8 hm hq (row := row) q 0 S1 K none (by omega) (by rw [F1 0 6 (by omega)]; exact h6) (fun j hj => by rw [F1 21 j (by omega)]; exact hrow j hj) R1 hn (fun S' R' F' => h1 S' R' (F1.tr F')))
set_option maxRecDepth 100000 in
theorem X4_refuse (H : Rules C T) {S : Mem} {x : Int32} {k : Nat} (hk : k < 7) (hx : -x = nI k) {Q : Pst} (h1 : Q (some (.int x)) (up S 22 k (S 22 k + 1))) : C mX4_refuse [.ref 0, .int x] S Q := by
  have c1 : ¬ -x < 0 := by rw [hx]; exact nI_pos (by omega)
  have c2 : ¬ Int32.ofNat 7 ≤ -x := by rw [hx]; exact nI_ge hk (by omega)
  have c3 : vp_in (-x) 7 := by rw [hx]; exact vp_in_nI hk (by omega)
  refine Rules.go H (by decide) (Nat.le_of_ble_eq_true rfl) ?_
  repeat' (first | (refine Rules.st H okX4_refuse [] ?_; conv => whnf) | refine br_t (by first | decide | assumption) ?_ | refine br_f (by first | decide | assumption) ?_ | refine br_c (fun _ => ?_) (fun _ => ?_) | refine ⟨by decide, ?_⟩ | refine ⟨by first | assumption | (unfold vp_in; decide) | ((with_reducible (refine vp_in_nI ?_ ?_)) <;> omega), ?_⟩ | fail)
  rw [hx, nIc (by omega)]
  exact h1
set_option maxRecDepth 100000 in
theorem X4_refuseLong (H : Rules C T) {S : Mem} {x : Int32} {k : Nat} (hk : k < 7) (hx : -x = nI k) {Q : Pst} (h1 : Q (some (.long (4000000000000000000 - x.toInt64))) (up S 22 k (S 22 k + 1))) : C mX4_refuseLong [.ref 0, .int x] S Q := by
  refine Rules.go H (by decide) (Nat.le_of_ble_eq_true rfl) ?_
  repeat' (first | (refine Rules.st H okX4_refuseLong [] ?_; conv => whnf) | refine br_t (by first | decide | assumption) ?_ | refine br_f (by first | decide | assumption) ?_ | refine br_c (fun _ => ?_) (fun _ => ?_) | refine ⟨by decide, ?_⟩ | refine ⟨by first | assumption | (unfold vp_in; decide) | ((with_reducible (refine vp_in_nI ?_ ?_)) <;> omega), ?_⟩ | fail)
  refine X4_refuse H hk hx ?_
  repeat' (first | (refine Rules.st H okX4_refuseLong [] ?_; conv => whnf) | refine br_t (by first | decide | assumption) ?_ | refine br_f (by first | decide | assumption) ?_ | refine br_c (fun _ => ?_) (fun _ => ?_) | refine ⟨by decide, ?_⟩ | refine ⟨by first | assumption | (unfold vp_in; decide) | ((with_reducible (refine vp_in_nI ?_ ?_)) <;> omega), ?_⟩ | fail)
  exact h1
/-- a minute's bounds: 0, or the refusal -/
def minF (n : Nat) (r t : Int32) : Int32 := if okR n r then if t < 0 then -4 else if 999 < t then -6 else 0 else -1
set_option maxRecDepth 100000 in
theorem okR_neg {n : Nat} (hn8 : n ≤ 8) {x : Int32} (h : ∀ r, r < n → ¬ x = nI r) : ¬ okR n x := fun z => by
  obtain ⟨r, hr, e⟩ := (okR_iff hn8).mp z
  exact h r hr e
set_option maxRecDepth 100000 in
theorem X4_minuteRefusal (H : Rules C T) {n : Nat} (hn8 : n ≤ 8) {S K : Mem} (R : RepC 1 S K) (hn : K 0 0 = nI n) {r t : Int32} {Q : Pst} (h1 : Q (some (.int (minF n r t))) S) : C mX4_minuteRefusal [.ref 0, .int r, .int t] S Q := by
  unfold minF at h1
  refine Rules.go H (by decide) (Nat.le_of_ble_eq_true rfl) ?_
  repeat' (first | (refine Rules.st H okX4_minuteRefusal [] ?_; conv => whnf) | refine br_t (by first | decide | assumption) ?_ | refine br_f (by first | decide | assumption) ?_ | refine br_c (fun _ => ?_) (fun _ => ?_) | refine ⟨by decide, ?_⟩ | refine ⟨by first | assumption | (unfold vp_in; decide) | ((with_reducible (refine vp_in_nI ?_ ?_)) <;> omega), ?_⟩ | fail)
  refine X1_hasRoom H (Or.inl rfl) R hn hn8 (fun i hi e => ?_) (fun hno => ?_)
  · rw [if_pos (by rw [e]; exact okR_nI hn8 hi)] at h1
    repeat' (first | (refine Rules.st H okX4_minuteRefusal [] ?_; conv => whnf) | refine br_t (by first | decide | assumption) ?_ | refine br_f (by first | decide | assumption) ?_ | refine br_c (fun _ => ?_) (fun _ => ?_) | refine ⟨by decide, ?_⟩ | refine ⟨by first | assumption | (unfold vp_in; decide) | ((with_reducible (refine vp_in_nI ?_ ?_)) <;> omega), ?_⟩ | fail)
    all_goals (try simp only [Int32.not_lt, Int32.not_le] at *)
    · rw [if_neg (Int32.not_lt.mpr (by assumption)), if_neg (Int32.not_lt.mpr (by assumption))] at h1
      exact h1
    · rw [if_neg (Int32.not_lt.mpr (by assumption)), if_pos (by assumption)] at h1
      exact h1
    · rw [if_pos (by assumption)] at h1
      exact h1
  · rw [if_neg (okR_neg hn8 hno)] at h1
    repeat' (first | (refine Rules.st H okX4_minuteRefusal [] ?_; conv => whnf) | refine br_t (by first | decide | assumption) ?_ | refine br_f (by first | decide | assumption) ?_ | refine br_c (fun _ => ?_) (fun _ => ?_) | refine ⟨by decide, ?_⟩ | refine ⟨by first | assumption | (unfold vp_in; decide) | ((with_reducible (refine vp_in_nI ?_ ?_)) <;> omega), ?_⟩ | fail)
    exact h1
def setF (n : Nat) (x : Int32) : Int32 := if x < 0 then -4 else if x >>> (nI n &&& 31) = 0 then 0 else -6
set_option maxRecDepth 100000 in
theorem X4_setRefusal (H : Rules C T) {n : Nat} {S K : Mem} (R : RepC 1 S K) (hn : K 0 0 = nI n) {x : Int32} {Q : Pst} (h1 : Q (some (.int (setF n x))) S) : C mX4_setRefusal [.ref 0, .int x] S Q := by
  unfold setF at h1
  refine Rules.go H (by decide) (Nat.le_of_ble_eq_true rfl) ?_
  repeat' (first | (refine Rules.st H okX4_setRefusal [] ?_; conv => whnf) | refine br_t (by first | decide | assumption) ?_ | refine br_f (by first | decide | assumption) ?_ | refine br_c (fun _ => ?_) (fun _ => ?_) | refine ⟨by decide, ?_⟩ | refine ⟨by first | assumption | (unfold vp_in; decide) | ((with_reducible (refine vp_in_nI ?_ ?_)) <;> omega), ?_⟩ | fail)
  · rw [if_neg (Int32.not_lt.mpr (by assumption))] at h1
    refine X1_rooms H (Or.inl rfl) R ?_
    rw [hn]
    repeat' (first | (refine Rules.st H okX4_setRefusal [] ?_; conv => whnf) | refine br_t (by first | decide | assumption) ?_ | refine br_f (by first | decide | assumption) ?_ | refine br_c (fun _ => ?_) (fun _ => ?_) | refine ⟨by decide, ?_⟩ | refine ⟨by first | assumption | (unfold vp_in; decide) | ((with_reducible (refine vp_in_nI ?_ ?_)) <;> omega), ?_⟩ | fail)
    · rw [if_pos (by assumption)] at h1
      exact h1
    · rw [if_neg (by assumption)] at h1
      exact h1
  · rw [if_pos (Int32.not_le.mp (by assumption))] at h1
    exact h1
set_option maxRecDepth 100000 in
theorem X4_areTwoRooms (H : Rules C T) {n : Nat} (hn8 : n ≤ 8) {S K : Mem} (R : RepC 1 S K) (hn : K 0 0 = nI n) {x y : Int32} {Q : Pst} (h1 : ∀ a b, a < n → b < n → ¬ a = b → x = nI a → y = nI b → Q (some (.int 1)) S) (h0 : ¬ (okR n x ∧ okR n y ∧ ¬ x = y) → Q (some (.int 0)) S) : C mX4_areTwoRooms [.ref 0, .int x, .int y] S Q := by
  refine Rules.go H (by decide) (Nat.le_of_ble_eq_true rfl) ?_
  repeat' (first | (refine Rules.st H okX4_areTwoRooms [] ?_; conv => whnf) | refine br_t (by first | decide | assumption) ?_ | refine br_f (by first | decide | assumption) ?_ | refine br_c (fun _ => ?_) (fun _ => ?_) | refine ⟨by decide, ?_⟩ | refine ⟨by first | assumption | (unfold vp_in; decide) | ((with_reducible (refine vp_in_nI ?_ ?_)) <;> omega), ?_⟩ | fail)
  refine X1_hasRoom H (Or.inl rfl) R hn hn8 (fun i hi e => ?_) (fun hno => ?_)
  · repeat' (first | (refine Rules.st H okX4_areTwoRooms [] ?_; conv => whnf) | refine br_t (by first | decide | assumption) ?_ | refine br_f (by first | decide | assumption) ?_ | refine br_c (fun _ => ?_) (fun _ => ?_) | refine ⟨by decide, ?_⟩ | refine ⟨by first | assumption | (unfold vp_in; decide) | ((with_reducible (refine vp_in_nI ?_ ?_)) <;> omega), ?_⟩ | fail)
    refine X1_hasRoom H (Or.inl rfl) R hn hn8 (fun j hj e2 => ?_) (fun hno => ?_)
    · repeat' (first | (refine Rules.st H okX4_areTwoRooms [] ?_; conv => whnf) | refine br_t (by first | decide | assumption) ?_ | refine br_f (by first | decide | assumption) ?_ | refine br_c (fun _ => ?_) (fun _ => ?_) | refine ⟨by decide, ?_⟩ | refine ⟨by first | assumption | (unfold vp_in; decide) | ((with_reducible (refine vp_in_nI ?_ ?_)) <;> omega), ?_⟩ | fail)
      · exact h0 (fun z => z.2.2 (by assumption))
      · exact h1 i j hi hj (fun z => by subst z; exact absurd (e.trans e2.symm) (by assumption)) e e2
    · repeat' (first | (refine Rules.st H okX4_areTwoRooms [] ?_; conv => whnf) | refine br_t (by first | decide | assumption) ?_ | refine br_f (by first | decide | assumption) ?_ | refine br_c (fun _ => ?_) (fun _ => ?_) | refine ⟨by decide, ?_⟩ | refine ⟨by first | assumption | (unfold vp_in; decide) | ((with_reducible (refine vp_in_nI ?_ ?_)) <;> omega), ?_⟩ | fail)
      exact h0 (fun z => okR_neg hn8 hno z.2.1)
  · repeat' (first | (refine Rules.st H okX4_areTwoRooms [] ?_; conv => whnf) | refine br_t (by first | decide | assumption) ?_ | refine br_f (by first | decide | assumption) ?_ | refine br_c (fun _ => ?_) (fun _ => ?_) | refine ⟨by decide, ?_⟩ | refine ⟨by first | assumption | (unfold vp_in; decide) | ((with_reducible (refine vp_in_nI ?_ ?_)) <;> omega), ?_⟩ | fail)
    exact h0 (fun z => okR_neg hn8 hno z.1)
/-- both maids on their ways: the same room together, or each her own -/
def behindK (K : Mem) (a b : Nat) : Mem := if a = b then (bothK K a).2 else (visitK (visitK K 0 a).2 1 b).2
set_option maxRecDepth 100000 in
theorem X4_clockBehind (H : Rules C T) {S K : Mem} (R : RepC 1 S K) (hz : KZ K) {m a b : Nat} (hm : m < 2) (ha : a < 8) (hb : b < 8) {Q : Pst} (h1 : ∀ S', Fr 7 12 S S' → Q (some (.int (behindK K a b 5 m))) S') : C mX4_clockBehind [.ref 0, .int (nI m), .int (nI a), .int (nI b)] S Q := by
  unfold behindK at h1
  refine Rules.go H (by decide) (Nat.le_of_ble_eq_true rfl) ?_
  repeat' (first | (refine Rules.st H okX4_clockBehind [] ?_; conv => whnf) | refine br_t (by first | decide | assumption) ?_ | refine br_f (by first | decide | assumption) ?_ | refine br_c (fun _ => ?_) (fun _ => ?_) | refine ⟨by decide, ?_⟩ | refine ⟨by first | assumption | (unfold vp_in; decide) | ((with_reducible (refine vp_in_nI ?_ ?_)) <;> omega), ?_⟩ | fail)
  refine X4_think H R hz (fun S1 R1 F1 => ?_)
  have hab : nI a = nI b ↔ a = b := nI_eq (by omega) (by omega)
  repeat' (first | (refine Rules.st H okX4_clockBehind [] ?_; conv => whnf) | refine br_t (by first | decide | assumption) ?_ | refine br_f (by first | decide | assumption) ?_ | refine br_c (fun _ => ?_) (fun _ => ?_) | refine ⟨by decide, ?_⟩ | refine ⟨by first | assumption | (unfold vp_in; decide) | ((with_reducible (refine vp_in_nI ?_ ?_)) <;> omega), ?_⟩ | fail)
  · rw [if_pos (hab.mp (by assumption))] at h1
    refine X1_visitByBoth H (Or.inr (Or.inl rfl)) R1 ha (fun S2 R2 F2 => ?_)
    repeat' (first | (refine Rules.st H okX4_clockBehind [] ?_; conv => whnf) | refine br_t (by first | decide | assumption) ?_ | refine br_f (by first | decide | assumption) ?_ | refine br_c (fun _ => ?_) (fun _ => ?_) | refine ⟨by decide, ?_⟩ | refine ⟨by first | assumption | (unfold vp_in; decide) | ((with_reducible (refine vp_in_nI ?_ ?_)) <;> omega), ?_⟩ | fail)
    refine X1_clockOf H (Or.inr (Or.inl rfl)) R2 hm ?_
    repeat' (first | (refine Rules.st H okX4_clockBehind [] ?_; conv => whnf) | refine br_t (by first | decide | assumption) ?_ | refine br_f (by first | decide | assumption) ?_ | refine br_c (fun _ => ?_) (fun _ => ?_) | refine ⟨by decide, ?_⟩ | refine ⟨by first | assumption | (unfold vp_in; decide) | ((with_reducible (refine vp_in_nI ?_ ?_)) <;> omega), ?_⟩ | fail)
    exact h1 S2 (F1.tr F2)
  · rw [if_neg (fun z => absurd (hab.mpr z) (by assumption))] at h1
    refine X1_visitBy H (Or.inr (Or.inl rfl)) R1 (m := 0) (by omega) ha (fun S2 R2 F2 => ?_)
    repeat' (first | (refine Rules.st H okX4_clockBehind [] ?_; conv => whnf) | refine br_t (by first | decide | assumption) ?_ | refine br_f (by first | decide | assumption) ?_ | refine br_c (fun _ => ?_) (fun _ => ?_) | refine ⟨by decide, ?_⟩ | refine ⟨by first | assumption | (unfold vp_in; decide) | ((with_reducible (refine vp_in_nI ?_ ?_)) <;> omega), ?_⟩ | fail)
    refine X1_visitBy H (Or.inr (Or.inl rfl)) R2 (m := 1) (by omega) hb (fun S3 R3 F3 => ?_)
    repeat' (first | (refine Rules.st H okX4_clockBehind [] ?_; conv => whnf) | refine br_t (by first | decide | assumption) ?_ | refine br_f (by first | decide | assumption) ?_ | refine br_c (fun _ => ?_) (fun _ => ?_) | refine ⟨by decide, ?_⟩ | refine ⟨by first | assumption | (unfold vp_in; decide) | ((with_reducible (refine vp_in_nI ?_ ?_)) <;> omega), ?_⟩ | fail)
    refine X1_clockOf H (Or.inr (Or.inl rfl)) R3 hm ?_
    repeat' (first | (refine Rules.st H okX4_clockBehind [] ?_; conv => whnf) | refine br_t (by first | decide | assumption) ?_ | refine br_f (by first | decide | assumption) ?_ | refine br_c (fun _ => ?_) (fun _ => ?_) | refine ⟨by decide, ?_⟩ | refine ⟨by first | assumption | (unfold vp_in; decide) | ((with_reducible (refine vp_in_nI ?_ ?_)) <;> omega), ?_⟩ | fail)
    exact h1 S3 ((F1.tr F2).tr F3)
abbrev neitherK (K : Mem) (a b c d : Nat) : Prop := behindK K a b 5 0 ≤ behindK K c b 5 0 ∧ behindK K a b 5 1 ≤ behindK K a d 5 1
set_option maxRecDepth 100000 in
theorem X4_neitherWouldChange (H : Rules C T) {S K : Mem} (R : RepC 1 S K) (hz : KZ K) {a b c d : Nat} (ha : a < 8) (hb : b < 8) (hc : c < 8) (hd : d < 8) {Q : Pst} (h1 : neitherK K a b c d → ∀ S', Fr 7 12 S S' → Q (some (.int 1)) S') (h0 : ¬ neitherK K a b c d → ∀ S', Fr 7 12 S S' → Q (some (.int 0)) S') : C mX4_neitherWouldChange [.ref 0, .int (nI a), .int (nI b), .int (nI c), .int (nI d)] S Q := by
  have fr : ∀ {S' : Mem}, Fr 7 12 S S' → RepC 1 S' K := fun F => R.fr F (by omega)
  refine Rules.go H (by decide) (Nat.le_of_ble_eq_true rfl) ?_
  repeat' (first | (refine Rules.st H okX4_neitherWouldChange [] ?_; conv => whnf) | refine br_t (by first | decide | assumption) ?_ | refine br_f (by first | decide | assumption) ?_ | refine br_c (fun _ => ?_) (fun _ => ?_) | refine ⟨by decide, ?_⟩ | refine ⟨by first | assumption | (unfold vp_in; decide) | ((with_reducible (refine vp_in_nI ?_ ?_)) <;> omega), ?_⟩ | fail)
  refine X4_clockBehind H R hz (m := 0) (by omega) ha hb (fun S1 F1 => ?_)
  repeat' (first | (refine Rules.st H okX4_neitherWouldChange [] ?_; conv => whnf) | refine br_t (by first | decide | assumption) ?_ | refine br_f (by first | decide | assumption) ?_ | refine br_c (fun _ => ?_) (fun _ => ?_) | refine ⟨by decide, ?_⟩ | refine ⟨by first | assumption | (unfold vp_in; decide) | ((with_reducible (refine vp_in_nI ?_ ?_)) <;> omega), ?_⟩ | fail)
  refine X4_clockBehind H (fr F1) hz (m := 0) (by omega) hc hb (fun S2 F2 => ?_)
  repeat' (first | (refine Rules.st H okX4_neitherWouldChange [] ?_; conv => whnf) | refine br_t (by first | decide | assumption) ?_ | refine br_f (by first | decide | assumption) ?_ | refine br_c (fun _ => ?_) (fun _ => ?_) | refine ⟨by decide, ?_⟩ | refine ⟨by first | assumption | (unfold vp_in; decide) | ((with_reducible (refine vp_in_nI ?_ ?_)) <;> omega), ?_⟩ | fail)
  · exact h0 (fun z => absurd z.1 (Int32.not_le.mpr (by assumption))) S2 (F1.tr F2)
  · refine X4_clockBehind H (fr (F1.tr F2)) hz (m := 1) (by omega) ha hb (fun S3 F3 => ?_)
    repeat' (first | (refine Rules.st H okX4_neitherWouldChange [] ?_; conv => whnf) | refine br_t (by first | decide | assumption) ?_ | refine br_f (by first | decide | assumption) ?_ | refine br_c (fun _ => ?_) (fun _ => ?_) | refine ⟨by decide, ?_⟩ | refine ⟨by first | assumption | (unfold vp_in; decide) | ((with_reducible (refine vp_in_nI ?_ ?_)) <;> omega), ?_⟩ | fail)
    refine X4_clockBehind H (fr ((F1.tr F2).tr F3)) hz (m := 1) (by omega) ha hd (fun S4 F4 => ?_)
    repeat' (first | (refine Rules.st H okX4_neitherWouldChange [] ?_; conv => whnf) | refine br_t (by first | decide | assumption) ?_ | refine br_f (by first | decide | assumption) ?_ | refine br_c (fun _ => ?_) (fun _ => ?_) | refine ⟨by decide, ?_⟩ | refine ⟨by first | assumption | (unfold vp_in; decide) | ((with_reducible (refine vp_in_nI ?_ ?_)) <;> omega), ?_⟩ | fail)
    · exact h0 (fun z => absurd z.2 (Int32.not_le.mpr (by assumption))) S4 (((F1.tr F2).tr F3).tr F4)
    · exact h1 ⟨Int32.not_lt.mp (by assumption), Int32.not_lt.mp (by assumption)⟩ S4 (((F1.tr F2).tr F3).tr F4)
end X1
