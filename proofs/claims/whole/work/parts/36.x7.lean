section X7
variable {C : Cst} {T : Nat → Pst → Nat → Lcs → List Value → Mem → Prop}
/-! waiting -/
def waitK (K : Mem) (m r : Nat) : Nat → Nat → Pck → Pck
  | 0, _, b => b
  | k + 1, i, b => waitK K m r k (i + 1) (pick b i (decide ((visitK (passK K m (nI i)) m r).1 = 3)) ((visitK (passK K m (nI i)) m r).2 5 m - K 5 m))
set_option maxRecDepth 100000 in
theorem X4_waitFor_l (H : Rules C T) {K : Mem} {n m r : Nat} (hm : m < 2) (hr : r < n) {w : Int32} {Q : Pst} : ∀ (k i : Nat) (b : Pck) (S : Mem) (x y : Option Value), i + k = 31 → XK S K n → pkOK b 31 → (∀ S', Fr 7 12 S S' → Q (some (.int (if w = 0 then pkA (waitK K m r k i b) else pkF (-9) (waitK K m r k i b)))) S') → T mX4_waitFor Q 55 [some (.ref 0), some (.int (nI m)), some (.int (nI r)), some (.int w), some (.int (pkA b)), some (.int (pkF (-9) b)), some (.int (nI i)), x, y] [] S := by
  intro k
  induction k with
  | zero =>
    intro i b S x y hi X hb h1
    obtain ⟨R, hn, hn8, hz⟩ := X
    have hge : (30 : Int32) < nI i := nI_lt (a := 30) (by omega) (by omega)
    have h1 := h1 S Fr.rf
    skip
    repeat' (first | (refine Rules.st H okX4_waitFor [55] ?_; conv => whnf) | refine br_t (by first | decide | assumption) ?_ | refine br_f (by first | decide | assumption) ?_ | refine br_c (fun _ => ?_) (fun _ => ?_) | refine ⟨by decide, ?_⟩ | refine ⟨by first | assumption | (unfold vp_in; decide) | ((with_reducible (refine vp_in_nI ?_ ?_)) <;> omega), ?_⟩ | fail)
    · rw [if_pos (by assumption)] at h1
      exact h1
    · rw [if_neg (by assumption)] at h1
      exact h1
  | succ k ih =>
    intro i b S x y hi X hb h1
    obtain ⟨R, hn, hn8, hz⟩ := X
    have hge : ¬ (30 : Int32) < nI i := nI_nlt (a := 30) (by omega) (by omega)
    unfold waitK at h1
    skip
    repeat' (first | (refine Rules.st H okX4_waitFor [55] ?_; conv => whnf) | refine br_t (by first | decide | assumption) ?_ | refine br_f (by first | decide | assumption) ?_ | refine br_c (fun _ => ?_) (fun _ => ?_) | refine ⟨by decide, ?_⟩ | refine ⟨by first | assumption | (unfold vp_in; decide) | ((with_reducible (refine vp_in_nI ?_ ?_)) <;> omega), ?_⟩ | fail)
    refine X4_think H R hz (fun S1 R1 F1 => ?_)
    repeat' (first | (refine Rules.st H okX4_waitFor [55] ?_; conv => whnf) | refine br_t (by first | decide | assumption) ?_ | refine br_f (by first | decide | assumption) ?_ | refine br_c (fun _ => ?_) (fun _ => ?_) | refine ⟨by decide, ?_⟩ | refine ⟨by first | assumption | (unfold vp_in; decide) | ((with_reducible (refine vp_in_nI ?_ ?_)) <;> omega), ?_⟩ | fail)
    refine X1_pass H (Or.inr (Or.inl rfl)) R1 hm (fun S2 R2 F2 => ?_)
    repeat' (first | (refine Rules.st H okX4_waitFor [55] ?_; conv => whnf) | refine br_t (by first | decide | assumption) ?_ | refine br_f (by first | decide | assumption) ?_ | refine br_c (fun _ => ?_) (fun _ => ?_) | refine ⟨by decide, ?_⟩ | refine ⟨by first | assumption | (unfold vp_in; decide) | ((with_reducible (refine vp_in_nI ?_ ?_)) <;> omega), ?_⟩ | fail)
    refine X1_visitBy H (Or.inr (Or.inl rfl)) R2 hm (by omega) (fun S3 R3 F3 => ?_)
    have F : Fr 7 12 S S3 := (F1.tr F2).tr F3
    have R0 := R.fr F (by omega)
    have nx : ∀ (b' : Pck) (y1 y2 : Int32), pick b i (decide ((visitK (passK K m (nI i)) m r).1 = 3)) ((visitK (passK K m (nI i)) m r).2 5 m - K 5 m) = b' → Halt (T mX4_waitFor Q 55 [some (.ref 0), some (.int (nI m)), some (.int (nI r)), some (.int w), some (.int (pkA b')), some (.int (pkF (-9) b')), some (.int (nI i + 1)), some (.int y1), some (.int y2)] [] S3) := fun b' y1 y2 e => Halt.mk (by
      rw [nI_1]
      exact ih (i + 1) b' S3 _ _ (by omega) ⟨R0, hn, hn8, hz⟩ (by rw [← e]; exact pick_ok hb (by omega)) (fun S' F' => by rw [← e]; exact h1 S' (F.tr F')))
    by_cases h3 : (visitK (passK K m (nI i)) m r).1 = 3
    · cases b with
      | none =>
        repeat' (first | (refine Rules.st H okX4_waitFor [55] ?_; conv => whnf) | refine br_t (by first | decide | assumption) ?_ | refine br_f (by first | decide | assumption) ?_ | refine br_c (fun _ => ?_) (fun _ => ?_) | refine ⟨by decide, ?_⟩ | refine ⟨by first | assumption | (unfold vp_in; decide) | ((with_reducible (refine vp_in_nI ?_ ?_)) <;> omega), ?_⟩ | fail)
        refine X4_thoughtMinutes H R0 R3 hm ?_
        repeat' (first | (refine Rules.st H okX4_waitFor [55] ?_; conv => whnf) | refine br_t (by first | decide | assumption) ?_ | refine br_f (by first | decide | assumption) ?_ | refine br_c (fun _ => ?_) (fun _ => ?_) | refine ⟨by decide, ?_⟩ | refine ⟨by first | assumption | (unfold vp_in; decide) | ((with_reducible (refine vp_in_nI ?_ ?_)) <;> omega), ?_⟩ | fail)
        exact nx (some (i, _)) _ _ (by simp [pick, h3])
      | some b =>
        obtain ⟨j, f⟩ := b
        have hj : ¬ pkA (some (j, f)) = -9 := nI_n9 j (by have := hb j f rfl; omega)
        repeat' (first | (refine Rules.st H okX4_waitFor [55] ?_; conv => whnf) | refine br_t (by first | decide | assumption) ?_ | refine br_f (by first | decide | assumption) ?_ | refine br_c (fun _ => ?_) (fun _ => ?_) | refine ⟨by decide, ?_⟩ | refine ⟨by first | assumption | (unfold vp_in; decide) | ((with_reducible (refine vp_in_nI ?_ ?_)) <;> omega), ?_⟩ | fail)
        refine X4_thoughtMinutes H R0 R3 hm ?_
        repeat' (first | (refine Rules.st H okX4_waitFor [55] ?_; conv => whnf) | refine br_t (by first | decide | assumption) ?_ | refine br_f (by first | decide | assumption) ?_ | refine br_c (fun _ => ?_) (fun _ => ?_) | refine ⟨by decide, ?_⟩ | refine ⟨by first | assumption | (unfold vp_in; decide) | ((with_reducible (refine vp_in_nI ?_ ?_)) <;> omega), ?_⟩ | fail)
        · exact nx (some (j, f)) _ _ (if_neg (fun z => absurd z.2 (Int32.not_lt.mpr (by assumption))))
        · exact nx (some (i, _)) _ _ (if_pos ⟨by simp [h3], Int32.not_le.mp (by assumption)⟩)
    · repeat' (first | (refine Rules.st H okX4_waitFor [55] ?_; conv => whnf) | refine br_t (by first | decide | assumption) ?_ | refine br_f (by first | decide | assumption) ?_ | refine br_c (fun _ => ?_) (fun _ => ?_) | refine ⟨by decide, ?_⟩ | refine ⟨by first | assumption | (unfold vp_in; decide) | ((with_reducible (refine vp_in_nI ?_ ?_)) <;> omega), ?_⟩ | fail)
      refine X4_thoughtMinutes H R0 R3 hm ?_
      repeat' (first | (refine Rules.st H okX4_waitFor [55] ?_; conv => whnf) | refine br_t (by first | decide | assumption) ?_ | refine br_f (by first | decide | assumption) ?_ | refine br_c (fun _ => ?_) (fun _ => ?_) | refine ⟨by decide, ?_⟩ | refine ⟨by first | assumption | (unfold vp_in; decide) | ((with_reducible (refine vp_in_nI ?_ ?_)) <;> omega), ?_⟩ | fail)
      exact nx b _ _ (by cases b <;> simp [pick, h3])
def F_waitFor (K : Mem) (n : Nat) (m r w : Int32) : Ans := if okM m ∧ okR n r then if w < 0 ∨ 1 < w then (2, -2) else (0, if w = 0 then pkA (waitK K (ix m) (ix r) 31 0 none) else pkF (-9) (waitK K (ix m) (ix r) 31 0 none)) else (1, -1)
set_option maxRecDepth 100000 in
theorem X4_waitFor (H : Rules C T) {S K : Mem} {n : Nat} (X : XK S K n) {m r w : Int32} {Q : Pst} (h1 : AnsX S (F_waitFor K n m r w) Q) : C mX4_waitFor [.ref 0, .int m, .int r, .int w] S Q := by
  have X0 := X
  obtain ⟨R, hn, hn8, hz⟩ := X
  unfold F_waitFor at h1
  refine Rules.go H (by decide) (Nat.le_of_ble_eq_true rfl) ?_
  repeat' (first | (refine Rules.st H okX4_waitFor [55] ?_; conv => whnf) | refine br_t (by first | decide | assumption) ?_ | refine br_f (by first | decide | assumption) ?_ | refine br_c (fun _ => ?_) (fun _ => ?_) | refine ⟨by decide, ?_⟩ | refine ⟨by first | assumption | (unfold vp_in; decide) | ((with_reducible (refine vp_in_nI ?_ ?_)) <;> omega), ?_⟩ | fail)
  refine X1_hasMaid H (fun i hi e => ?_) (fun hno => ?_)
  · subst e
    rw [show ix (nI i) = i from nIc (by omega)] at h1
    repeat' (first | (refine Rules.st H okX4_waitFor [55] ?_; conv => whnf) | refine br_t (by first | decide | assumption) ?_ | refine br_f (by first | decide | assumption) ?_ | refine br_c (fun _ => ?_) (fun _ => ?_) | refine ⟨by decide, ?_⟩ | refine ⟨by first | assumption | (unfold vp_in; decide) | ((with_reducible (refine vp_in_nI ?_ ?_)) <;> omega), ?_⟩ | fail)
    refine X1_hasRoom H (Or.inl rfl) R hn hn8 (fun j hj e => ?_) (fun hno => ?_)
    · subst e
      rw [if_pos ⟨okM_nI hi, okR_nI hn8 hj⟩, show ix (nI j) = j from nIc (by omega)] at h1
      repeat' (first | (refine Rules.st H okX4_waitFor [55] ?_; conv => whnf) | refine br_t (by first | decide | assumption) ?_ | refine br_f (by first | decide | assumption) ?_ | refine br_c (fun _ => ?_) (fun _ => ?_) | refine ⟨by decide, ?_⟩ | refine ⟨by first | assumption | (unfold vp_in; decide) | ((with_reducible (refine vp_in_nI ?_ ?_)) <;> omega), ?_⟩ | fail)
      · rw [if_pos (Or.inl (by assumption))] at h1
        refine X4_ref H (ScX.rf) (k := 2) (by omega) (by omega) (by decide) (fun S' hS' => ?_)
        repeat' (first | (refine Rules.st H okX4_waitFor [55] ?_; conv => whnf) | refine br_t (by first | decide | assumption) ?_ | refine br_f (by first | decide | assumption) ?_ | refine br_c (fun _ => ?_) (fun _ => ?_) | refine ⟨by decide, ?_⟩ | refine ⟨by first | assumption | (unfold vp_in; decide) | ((with_reducible (refine vp_in_nI ?_ ?_)) <;> omega), ?_⟩ | fail)
        exact h1 S' hS'
      · rw [if_neg (fun z => z.elim (by assumption) (Int32.not_lt.mpr (by assumption)))] at h1
        exact Halt.mk (X4_waitFor_l H hi hj 31 0 none S none none (by omega) X0 (fun _ _ z => by cases z) (fun S' F' => h1 S' (ScX.f7 F')))
      · rw [if_pos (Or.inr (Int32.not_le.mp (by assumption)))] at h1
        refine X4_ref H (ScX.rf) (k := 2) (by omega) (by omega) (by decide) (fun S' hS' => ?_)
        repeat' (first | (refine Rules.st H okX4_waitFor [55] ?_; conv => whnf) | refine br_t (by first | decide | assumption) ?_ | refine br_f (by first | decide | assumption) ?_ | refine br_c (fun _ => ?_) (fun _ => ?_) | refine ⟨by decide, ?_⟩ | refine ⟨by first | assumption | (unfold vp_in; decide) | ((with_reducible (refine vp_in_nI ?_ ?_)) <;> omega), ?_⟩ | fail)
        exact h1 S' hS'
    · rw [if_neg (fun z => okR_neg hn8 hno z.2)] at h1
      repeat' (first | (refine Rules.st H okX4_waitFor [55] ?_; conv => whnf) | refine br_t (by first | decide | assumption) ?_ | refine br_f (by first | decide | assumption) ?_ | refine br_c (fun _ => ?_) (fun _ => ?_) | refine ⟨by decide, ?_⟩ | refine ⟨by first | assumption | (unfold vp_in; decide) | ((with_reducible (refine vp_in_nI ?_ ?_)) <;> omega), ?_⟩ | fail)
      refine X4_ref H (ScX.rf) (k := 1) (by omega) (by omega) (by decide) (fun S' hS' => ?_)
      repeat' (first | (refine Rules.st H okX4_waitFor [55] ?_; conv => whnf) | refine br_t (by first | decide | assumption) ?_ | refine br_f (by first | decide | assumption) ?_ | refine br_c (fun _ => ?_) (fun _ => ?_) | refine ⟨by decide, ?_⟩ | refine ⟨by first | assumption | (unfold vp_in; decide) | ((with_reducible (refine vp_in_nI ?_ ?_)) <;> omega), ?_⟩ | fail)
      exact h1 S' hS'
  · rw [if_neg (fun z => okM_neg hno z.1)] at h1
    repeat' (first | (refine Rules.st H okX4_waitFor [55] ?_; conv => whnf) | refine br_t (by first | decide | assumption) ?_ | refine br_f (by first | decide | assumption) ?_ | refine br_c (fun _ => ?_) (fun _ => ?_) | refine ⟨by decide, ?_⟩ | refine ⟨by first | assumption | (unfold vp_in; decide) | ((with_reducible (refine vp_in_nI ?_ ?_)) <;> omega), ?_⟩ | fail)
    refine X4_ref H (ScX.rf) (k := 1) (by omega) (by omega) (by decide) (fun S' hS' => ?_)
    repeat' (first | (refine Rules.st H okX4_waitFor [55] ?_; conv => whnf) | refine br_t (by first | decide | assumption) ?_ | refine br_f (by first | decide | assumption) ?_ | refine br_c (fun _ => ?_) (fun _ => ?_) | refine ⟨by decide, ?_⟩ | refine ⟨by first | assumption | (unfold vp_in; decide) | ((with_reducible (refine vp_in_nI ?_ ?_)) <;> omega), ?_⟩ | fail)
    exact h1 S' hS'
/-! the long round -/
def leastK (K : Mem) (n m : Nat) : Nat → Nat → Int32
  | 0, _ => -9
  | k + 1, i => if longK m n (up K 4 m (nI i)) 0 4 = 0 then nI i else leastK K n m k (i + 1)
set_option maxRecDepth 100000 in
theorem X4_leastLoad_l (H : Rules C T) {K : Mem} {n m : Nat} (hm : m < 2) {Q : Pst} : ∀ (k i : Nat) (S : Mem), i + k = 7 → XK S K n → (∀ S', Fr 7 12 S S' → Q (some (.int (leastK K n m k i))) S') → T mX4_leastLoad Q 19 [some (.ref 0), some (.int (nI m)), some (.int (nI i))] [] S := by
  intro k
  induction k with
  | zero =>
    intro i S hi X h1
    have hge : (6 : Int32) < nI i := nI_lt (a := 6) (by omega) (by omega)
    skip
    repeat' (first | (refine Rules.st H okX4_leastLoad [19] ?_; conv => whnf) | refine br_t (by first | decide | assumption) ?_ | refine br_f (by first | decide | assumption) ?_ | refine br_c (fun _ => ?_) (fun _ => ?_) | refine ⟨by decide, ?_⟩ | refine ⟨by first | assumption | (unfold vp_in; decide) | ((with_reducible (refine vp_in_nI ?_ ?_)) <;> omega), ?_⟩ | fail)
    exact h1 S Fr.rf
  | succ k ih =>
    intro i S hi X h1
    obtain ⟨R, hn, hn8, hz⟩ := X
    have hge : ¬ (6 : Int32) < nI i := nI_nlt (a := 6) (by omega) (by omega)
    unfold leastK at h1
    skip
    repeat' (first | (refine Rules.st H okX4_leastLoad [19] ?_; conv => whnf) | refine br_t (by first | decide | assumption) ?_ | refine br_f (by first | decide | assumption) ?_ | refine br_c (fun _ => ?_) (fun _ => ?_) | refine ⟨by decide, ?_⟩ | refine ⟨by first | assumption | (unfold vp_in; decide) | ((with_reducible (refine vp_in_nI ?_ ?_)) <;> omega), ?_⟩ | fail)
    refine X4_think H R hz (fun S1 R1 F1 => ?_)
    repeat' (first | (refine Rules.st H okX4_leastLoad [19] ?_; conv => whnf) | refine br_t (by first | decide | assumption) ?_ | refine br_f (by first | decide | assumption) ?_ | refine br_c (fun _ => ?_) (fun _ => ?_) | refine ⟨by decide, ?_⟩ | refine ⟨by first | assumption | (unfold vp_in; decide) | ((with_reducible (refine vp_in_nI ?_ ?_)) <;> omega), ?_⟩ | fail)
    refine X1_setLoad H (Or.inr (Or.inl rfl)) R1 hm (fun S2 R2 F2 => ?_)
    repeat' (first | (refine Rules.st H okX4_leastLoad [19] ?_; conv => whnf) | refine br_t (by first | decide | assumption) ?_ | refine br_f (by first | decide | assumption) ?_ | refine br_c (fun _ => ?_) (fun _ => ?_) | refine ⟨by decide, ?_⟩ | refine ⟨by first | assumption | (unfold vp_in; decide) | ((with_reducible (refine vp_in_nI ?_ ?_)) <;> omega), ?_⟩ | fail)
    refine X1_longRound H (Or.inr (Or.inl rfl)) hn8 hm R2 (by rw [up_k (by omega)]; exact hn) (fun S3 R3 F3 => ?_)
    repeat' (first | (refine Rules.st H okX4_leastLoad [19] ?_; conv => whnf) | refine br_t (by first | decide | assumption) ?_ | refine br_f (by first | decide | assumption) ?_ | refine br_c (fun _ => ?_) (fun _ => ?_) | refine ⟨by decide, ?_⟩ | refine ⟨by first | assumption | (unfold vp_in; decide) | ((with_reducible (refine vp_in_nI ?_ ?_)) <;> omega), ?_⟩ | fail)
    have F : Fr 7 12 S S3 := (F1.tr F2).tr F3
    refine X1_timesDown H (Or.inr (Or.inl rfl)) R3 ?_
    repeat' (first | (refine Rules.st H okX4_leastLoad [19] ?_; conv => whnf) | refine br_t (by first | decide | assumption) ?_ | refine br_f (by first | decide | assumption) ?_ | refine br_c (fun _ => ?_) (fun _ => ?_) | refine ⟨by decide, ?_⟩ | refine ⟨by first | assumption | (unfold vp_in; decide) | ((with_reducible (refine vp_in_nI ?_ ?_)) <;> omega), ?_⟩ | fail)
    · rw [if_pos (by assumption)] at h1
      exact h1 S3 F
    · rw [if_neg (by assumption)] at h1
      refine Halt.mk ?_
      show T mX4_leastLoad Q 19 [some (.ref 0), some (.int (nI m)), some (.int (nI i + 1))] [] _
      rw [nI_1]
      exact ih (i + 1) S3 (by omega) ⟨R.fr F (by omega), hn, hn8, hz⟩ (fun S' F' => h1 S' (F.tr F'))
def F_leastLoad (K : Mem) (n : Nat) (m : Int32) : Ans := if okM m then (0, leastK K n (ix m) 7 0) else (1, -1)
set_option maxRecDepth 100000 in
theorem X4_leastLoad (H : Rules C T) {S K : Mem} {n : Nat} (X : XK S K n) {m : Int32} {Q : Pst} (h1 : AnsX S (F_leastLoad K n m) Q) : C mX4_leastLoad [.ref 0, .int m] S Q := by
  have X0 := X
  obtain ⟨R, hn, hn8, hz⟩ := X
  unfold F_leastLoad at h1
  refine Rules.go H (by decide) (Nat.le_of_ble_eq_true rfl) ?_
  repeat' (first | (refine Rules.st H okX4_leastLoad [19] ?_; conv => whnf) | refine br_t (by first | decide | assumption) ?_ | refine br_f (by first | decide | assumption) ?_ | refine br_c (fun _ => ?_) (fun _ => ?_) | refine ⟨by decide, ?_⟩ | refine ⟨by first | assumption | (unfold vp_in; decide) | ((with_reducible (refine vp_in_nI ?_ ?_)) <;> omega), ?_⟩ | fail)
  refine X1_hasMaid H (fun i hi e => ?_) (fun hno => ?_)
  · subst e
    rw [show ix (nI i) = i from nIc (by omega), if_pos (okM_nI hi)] at h1
    repeat' (first | (refine Rules.st H okX4_leastLoad [19] ?_; conv => whnf) | refine br_t (by first | decide | assumption) ?_ | refine br_f (by first | decide | assumption) ?_ | refine br_c (fun _ => ?_) (fun _ => ?_) | refine ⟨by decide, ?_⟩ | refine ⟨by first | assumption | (unfold vp_in; decide) | ((with_reducible (refine vp_in_nI ?_ ?_)) <;> omega), ?_⟩ | fail)
    exact Halt.mk (X4_leastLoad_l H hi 7 0 S (by omega) X0 (fun S' F' => h1 S' (ScX.f7 F')))
  · rw [if_neg (okM_neg hno)] at h1
    repeat' (first | (refine Rules.st H okX4_leastLoad [19] ?_; conv => whnf) | refine br_t (by first | decide | assumption) ?_ | refine br_f (by first | decide | assumption) ?_ | refine br_c (fun _ => ?_) (fun _ => ?_) | refine ⟨by decide, ?_⟩ | refine ⟨by first | assumption | (unfold vp_in; decide) | ((with_reducible (refine vp_in_nI ?_ ?_)) <;> omega), ?_⟩ | fail)
    refine X4_ref H (ScX.rf) (k := 1) (by omega) (by omega) (by decide) (fun S' hS' => ?_)
    repeat' (first | (refine Rules.st H okX4_leastLoad [19] ?_; conv => whnf) | refine br_t (by first | decide | assumption) ?_ | refine br_f (by first | decide | assumption) ?_ | refine br_c (fun _ => ?_) (fun _ => ?_) | refine ⟨by decide, ?_⟩ | refine ⟨by first | assumption | (unfold vp_in; decide) | ((with_reducible (refine vp_in_nI ?_ ?_)) <;> omega), ?_⟩ | fail)
    exact h1 S' hS'
def savesK (K : Mem) (n m : Nat) : Int32 := if pcI (longK m n (downK K m) 0 1) < pcI (longK m n K 0 1) then 0 else maxI 0 (longK m n K 5 m - longK m n (downK K m) 5 m)
def F_saves (K : Mem) (n : Nat) (m : Int32) : Ans := if okM m then (0, savesK K n (ix m)) else (1, -1)
set_option maxRecDepth 100000 in
theorem downK_n (K : Mem) (m : Nat) : downK K m 0 0 = K 0 0 := by simp [downK, walkK, passK, up]
set_option maxRecDepth 100000 in
theorem X4_saves (H : Rules C T) {S K : Mem} {n : Nat} (X : XK S K n) {m : Int32} {Q : Pst} (h1 : AnsX S (F_saves K n m) Q) : C mX4_saves [.ref 0, .int m] S Q := by
  obtain ⟨R, hn, hn8, hz⟩ := X
  unfold F_saves savesK at h1
  refine Rules.go H (by decide) (Nat.le_of_ble_eq_true rfl) ?_
  repeat' (first | (refine Rules.st H okX4_saves [] ?_; conv => whnf) | refine br_t (by first | decide | assumption) ?_ | refine br_f (by first | decide | assumption) ?_ | refine br_c (fun _ => ?_) (fun _ => ?_) | refine ⟨by decide, ?_⟩ | refine ⟨by first | assumption | (unfold vp_in; decide) | ((with_reducible (refine vp_in_nI ?_ ?_)) <;> omega), ?_⟩ | fail)
  refine X1_hasMaid H (fun i hi e => ?_) (fun hno => ?_)
  · subst e
    rw [show ix (nI i) = i from nIc (by omega), if_pos (okM_nI hi)] at h1
    repeat' (first | (refine Rules.st H okX4_saves [] ?_; conv => whnf) | refine br_t (by first | decide | assumption) ?_ | refine br_f (by first | decide | assumption) ?_ | refine br_c (fun _ => ?_) (fun _ => ?_) | refine ⟨by decide, ?_⟩ | refine ⟨by first | assumption | (unfold vp_in; decide) | ((with_reducible (refine vp_in_nI ?_ ?_)) <;> omega), ?_⟩ | fail)
    refine X4_think H R hz (fun S1 R1 F1 => ?_)
    repeat' (first | (refine Rules.st H okX4_saves [] ?_; conv => whnf) | refine br_t (by first | decide | assumption) ?_ | refine br_f (by first | decide | assumption) ?_ | refine br_c (fun _ => ?_) (fun _ => ?_) | refine ⟨by decide, ?_⟩ | refine ⟨by first | assumption | (unfold vp_in; decide) | ((with_reducible (refine vp_in_nI ?_ ?_)) <;> omega), ?_⟩ | fail)
    refine X1_longRound H (Or.inr (Or.inl rfl)) hn8 hi R1 hn (fun S2 R2 F2 => ?_)
    repeat' (first | (refine Rules.st H okX4_saves [] ?_; conv => whnf) | refine br_t (by first | decide | assumption) ?_ | refine br_f (by first | decide | assumption) ?_ | refine br_c (fun _ => ?_) (fun _ => ?_) | refine ⟨by decide, ?_⟩ | refine ⟨by first | assumption | (unfold vp_in; decide) | ((with_reducible (refine vp_in_nI ?_ ?_)) <;> omega), ?_⟩ | fail)
    refine X1_clockOf H (Or.inr (Or.inl rfl)) R2 hi ?_
    repeat' (first | (refine Rules.st H okX4_saves [] ?_; conv => whnf) | refine br_t (by first | decide | assumption) ?_ | refine br_f (by first | decide | assumption) ?_ | refine br_c (fun _ => ?_) (fun _ => ?_) | refine ⟨by decide, ?_⟩ | refine ⟨by first | assumption | (unfold vp_in; decide) | ((with_reducible (refine vp_in_nI ?_ ?_)) <;> omega), ?_⟩ | fail)
    refine X1_doneCount H (Or.inr (Or.inl rfl)) R2 ?_
    repeat' (first | (refine Rules.st H okX4_saves [] ?_; conv => whnf) | refine br_t (by first | decide | assumption) ?_ | refine br_f (by first | decide | assumption) ?_ | refine br_c (fun _ => ?_) (fun _ => ?_) | refine ⟨by decide, ?_⟩ | refine ⟨by first | assumption | (unfold vp_in; decide) | ((with_reducible (refine vp_in_nI ?_ ?_)) <;> omega), ?_⟩ | fail)
    have R0 := R.fr (F1.tr F2) (by omega)
    refine X4_think H R0 hz (fun S3 R3 F3 => ?_)
    repeat' (first | (refine Rules.st H okX4_saves [] ?_; conv => whnf) | refine br_t (by first | decide | assumption) ?_ | refine br_f (by first | decide | assumption) ?_ | refine br_c (fun _ => ?_) (fun _ => ?_) | refine ⟨by decide, ?_⟩ | refine ⟨by first | assumption | (unfold vp_in; decide) | ((with_reducible (refine vp_in_nI ?_ ?_)) <;> omega), ?_⟩ | fail)
    refine X1_goDown H (Or.inr (Or.inl rfl)) R3 hi (fun S4 R4 F4 => ?_)
    repeat' (first | (refine Rules.st H okX4_saves [] ?_; conv => whnf) | refine br_t (by first | decide | assumption) ?_ | refine br_f (by first | decide | assumption) ?_ | refine br_c (fun _ => ?_) (fun _ => ?_) | refine ⟨by decide, ?_⟩ | refine ⟨by first | assumption | (unfold vp_in; decide) | ((with_reducible (refine vp_in_nI ?_ ?_)) <;> omega), ?_⟩ | fail)
    refine X1_longRound H (Or.inr (Or.inl rfl)) hn8 hi R4 ((downK_n K i).trans hn) (fun S5 R5 F5 => ?_)
    have F : Fr 7 12 S S5 := (((F1.tr F2).tr F3).tr F4).tr F5
    have h1 := h1 S5 (ScX.f7 F)
    repeat' (first | (refine Rules.st H okX4_saves [] ?_; conv => whnf) | refine br_t (by first | decide | assumption) ?_ | refine br_f (by first | decide | assumption) ?_ | refine br_c (fun _ => ?_) (fun _ => ?_) | refine ⟨by decide, ?_⟩ | refine ⟨by first | assumption | (unfold vp_in; decide) | ((with_reducible (refine vp_in_nI ?_ ?_)) <;> omega), ?_⟩ | fail)
    refine X1_doneCount H (Or.inr (Or.inl rfl)) R5 ?_
    repeat' (first | (refine Rules.st H okX4_saves [] ?_; conv => whnf) | refine br_t (by first | decide | assumption) ?_ | refine br_f (by first | decide | assumption) ?_ | refine br_c (fun _ => ?_) (fun _ => ?_) | refine ⟨by decide, ?_⟩ | refine ⟨by first | assumption | (unfold vp_in; decide) | ((with_reducible (refine vp_in_nI ?_ ?_)) <;> omega), ?_⟩ | fail)
    · rw [if_neg (Int32.not_lt.mpr (by assumption))] at h1
      refine X1_clockOf H (Or.inr (Or.inl rfl)) R5 hi ?_
      repeat' (first | (refine Rules.st H okX4_saves [] ?_; conv => whnf) | refine br_t (by first | decide | assumption) ?_ | refine br_f (by first | decide | assumption) ?_ | refine br_c (fun _ => ?_) (fun _ => ?_) | refine ⟨by decide, ?_⟩ | refine ⟨by first | assumption | (unfold vp_in; decide) | ((with_reducible (refine vp_in_nI ?_ ?_)) <;> omega), ?_⟩ | fail)
      exact h1
    · rw [if_pos (Int32.not_le.mp (by assumption))] at h1
      exact h1
  · rw [if_neg (okM_neg hno)] at h1
    repeat' (first | (refine Rules.st H okX4_saves [] ?_; conv => whnf) | refine br_t (by first | decide | assumption) ?_ | refine br_f (by first | decide | assumption) ?_ | refine br_c (fun _ => ?_) (fun _ => ?_) | refine ⟨by decide, ?_⟩ | refine ⟨by first | assumption | (unfold vp_in; decide) | ((with_reducible (refine vp_in_nI ?_ ?_)) <;> omega), ?_⟩ | fail)
    refine X4_ref H (ScX.rf) (k := 1) (by omega) (by omega) (by decide) (fun S' hS' => ?_)
    repeat' (first | (refine Rules.st H okX4_saves [] ?_; conv => whnf) | refine br_t (by first | decide | assumption) ?_ | refine br_f (by first | decide | assumption) ?_ | refine br_c (fun _ => ?_) (fun _ => ?_) | refine ⟨by decide, ?_⟩ | refine ⟨by first | assumption | (unfold vp_in; decide) | ((with_reducible (refine vp_in_nI ?_ ?_)) <;> omega), ?_⟩ | fail)
    exact h1 S' hS'
def firstK (K0 : Mem) (m : Nat) : Nat → Nat → Mem → Int32
  | 0, _, _ => -9
  | k + 1, i, K => if (visitK K m i).1 = 3 ∧ (K0 1 i = 1 ∨ K0 1 i = 3 ∨ K0 1 i = 5) then nI i else firstK K0 m k (i + 1) (visitK K m i).2
set_option maxRecDepth 100000 in
theorem X4_first_l (H : Rules C T) {K0 : Mem} {n m : Nat} (hm : m < 2) {Q : Pst} : ∀ (k i : Nat) (S K : Mem) (x : Option Value), i + k = n → XK S K0 n → RepC 7 S K → (∀ S', Fr 7 12 S S' → Q (some (.int (firstK K0 m k i K))) S') → T mX4_first Q 23 [some (.ref 0), some (.int (nI m)), some (.int (nI i)), x] [] S := by
  intro k
  induction k with
  | zero =>
    intro i S K x hi X R7 h1
    obtain ⟨R, hn, hn8, hz⟩ := X
    have hge : nI n ≤ nI i := nI_le (by omega) (by omega)
    skip
    repeat' (first | (refine Rules.st H okX4_first [23] ?_; conv => whnf) | refine br_t (by first | decide | assumption) ?_ | refine br_f (by first | decide | assumption) ?_ | refine br_c (fun _ => ?_) (fun _ => ?_) | refine ⟨by decide, ?_⟩ | refine ⟨by first | assumption | (unfold vp_in; decide) | ((with_reducible (refine vp_in_nI ?_ ?_)) <;> omega), ?_⟩ | fail)
    refine X1_rooms H (Or.inl rfl) R ?_
    rw [hn]
    repeat' (first | (refine Rules.st H okX4_first [23] ?_; conv => whnf) | refine br_t (by first | decide | assumption) ?_ | refine br_f (by first | decide | assumption) ?_ | refine br_c (fun _ => ?_) (fun _ => ?_) | refine ⟨by decide, ?_⟩ | refine ⟨by first | assumption | (unfold vp_in; decide) | ((with_reducible (refine vp_in_nI ?_ ?_)) <;> omega), ?_⟩ | fail)
    exact h1 S Fr.rf
  | succ k ih =>
    intro i S K x hi X R7 h1
    obtain ⟨R, hn, hn8, hz⟩ := X
    have hge : ¬ nI n ≤ nI i := nI_ge (by omega) (by omega)
    unfold firstK at h1
    skip
    repeat' (first | (refine Rules.st H okX4_first [23] ?_; conv => whnf) | refine br_t (by first | decide | assumption) ?_ | refine br_f (by first | decide | assumption) ?_ | refine br_c (fun _ => ?_) (fun _ => ?_) | refine ⟨by decide, ?_⟩ | refine ⟨by first | assumption | (unfold vp_in; decide) | ((with_reducible (refine vp_in_nI ?_ ?_)) <;> omega), ?_⟩ | fail)
    refine X1_rooms H (Or.inl rfl) R ?_
    rw [hn]
    repeat' (first | (refine Rules.st H okX4_first [23] ?_; conv => whnf) | refine br_t (by first | decide | assumption) ?_ | refine br_f (by first | decide | assumption) ?_ | refine br_c (fun _ => ?_) (fun _ => ?_) | refine ⟨by decide, ?_⟩ | refine ⟨by first | assumption | (unfold vp_in; decide) | ((with_reducible (refine vp_in_nI ?_ ?_)) <;> omega), ?_⟩ | fail)
    refine X1_visitBy H (Or.inr (Or.inl rfl)) R7 hm (by omega) (fun S1 R1 F1 => ?_)
    have R0 := R.fr F1 (by omega)
    have nx : ∀ (y : Int32), ¬ ((visitK K m i).1 = 3 ∧ (K0 1 i = 1 ∨ K0 1 i = 3 ∨ K0 1 i = 5)) → Halt (T mX4_first Q 23 [some (.ref 0), some (.int (nI m)), some (.int (nI i + 1)), some (.int y)] [] S1) := fun y e => Halt.mk (by
      rw [nI_1]
      exact ih (i + 1) S1 _ _ (by omega) ⟨R0, hn, hn8, hz⟩ R1 (fun S' F' => by
        have h1 := h1 S' (F1.tr F')
        rw [if_neg e] at h1
        exact h1))
    by_cases h3 : (visitK K m i).1 = 3
    · repeat' (first | (refine Rules.st H okX4_first [23] ?_; conv => whnf) | refine br_t (by first | decide | assumption) ?_ | refine br_f (by first | decide | assumption) ?_ | refine br_c (fun _ => ?_) (fun _ => ?_) | refine ⟨by decide, ?_⟩ | refine ⟨by first | assumption | (unfold vp_in; decide) | ((with_reducible (refine vp_in_nI ?_ ?_)) <;> omega), ?_⟩ | fail)
      refine X1_kindOf H (Or.inl rfl) R0 (by omega) ?_
      repeat' (first | (refine Rules.st H okX4_first [23] ?_; conv => whnf) | refine br_t (by first | decide | assumption) ?_ | refine br_f (by first | decide | assumption) ?_ | refine br_c (fun _ => ?_) (fun _ => ?_) | refine ⟨by decide, ?_⟩ | refine ⟨by first | assumption | (unfold vp_in; decide) | ((with_reducible (refine vp_in_nI ?_ ?_)) <;> omega), ?_⟩ | fail)
      refine X2_isUnderLeft H (fun g => ?_) (fun g => ?_)
      · repeat' (first | (refine Rules.st H okX4_first [23] ?_; conv => whnf) | refine br_t (by first | decide | assumption) ?_ | refine br_f (by first | decide | assumption) ?_ | refine br_c (fun _ => ?_) (fun _ => ?_) | refine ⟨by decide, ?_⟩ | refine ⟨by first | assumption | (unfold vp_in; decide) | ((with_reducible (refine vp_in_nI ?_ ?_)) <;> omega), ?_⟩ | fail)
        have h1 := h1 S1 F1
        rw [if_pos ⟨h3, g⟩] at h1
        exact h1
      · repeat' (first | (refine Rules.st H okX4_first [23] ?_; conv => whnf) | refine br_t (by first | decide | assumption) ?_ | refine br_f (by first | decide | assumption) ?_ | refine br_c (fun _ => ?_) (fun _ => ?_) | refine ⟨by decide, ?_⟩ | refine ⟨by first | assumption | (unfold vp_in; decide) | ((with_reducible (refine vp_in_nI ?_ ?_)) <;> omega), ?_⟩ | fail)
        exact nx _ (fun z => g z.2)
    · repeat' (first | (refine Rules.st H okX4_first [23] ?_; conv => whnf) | refine br_t (by first | decide | assumption) ?_ | refine br_f (by first | decide | assumption) ?_ | refine br_c (fun _ => ?_) (fun _ => ?_) | refine ⟨by decide, ?_⟩ | refine ⟨by first | assumption | (unfold vp_in; decide) | ((with_reducible (refine vp_in_nI ?_ ?_)) <;> omega), ?_⟩ | fail)
      exact nx _ (fun z => h3 z.1)
def F_first (K : Mem) (n : Nat) (m : Int32) : Ans := if okM m then (0, firstK K (ix m) n 0 K) else (1, -1)
set_option maxRecDepth 100000 in
theorem X4_first (H : Rules C T) {S K : Mem} {n : Nat} (X : XK S K n) {m : Int32} {Q : Pst} (h1 : AnsX S (F_first K n m) Q) : C mX4_first [.ref 0, .int m] S Q := by
  obtain ⟨R, hn, hn8, hz⟩ := X
  unfold F_first at h1
  refine Rules.go H (by decide) (Nat.le_of_ble_eq_true rfl) ?_
  repeat' (first | (refine Rules.st H okX4_first [23] ?_; conv => whnf) | refine br_t (by first | decide | assumption) ?_ | refine br_f (by first | decide | assumption) ?_ | refine br_c (fun _ => ?_) (fun _ => ?_) | refine ⟨by decide, ?_⟩ | refine ⟨by first | assumption | (unfold vp_in; decide) | ((with_reducible (refine vp_in_nI ?_ ?_)) <;> omega), ?_⟩ | fail)
  refine X1_hasMaid H (fun i hi e => ?_) (fun hno => ?_)
  · subst e
    rw [show ix (nI i) = i from nIc (by omega), if_pos (okM_nI hi)] at h1
    repeat' (first | (refine Rules.st H okX4_first [23] ?_; conv => whnf) | refine br_t (by first | decide | assumption) ?_ | refine br_f (by first | decide | assumption) ?_ | refine br_c (fun _ => ?_) (fun _ => ?_) | refine ⟨by decide, ?_⟩ | refine ⟨by first | assumption | (unfold vp_in; decide) | ((with_reducible (refine vp_in_nI ?_ ?_)) <;> omega), ?_⟩ | fail)
    refine X4_think H R hz (fun S1 R1 F1 => ?_)
    repeat' (first | (refine Rules.st H okX4_first [23] ?_; conv => whnf) | refine br_t (by first | decide | assumption) ?_ | refine br_f (by first | decide | assumption) ?_ | refine br_c (fun _ => ?_) (fun _ => ?_) | refine ⟨by decide, ?_⟩ | refine ⟨by first | assumption | (unfold vp_in; decide) | ((with_reducible (refine vp_in_nI ?_ ?_)) <;> omega), ?_⟩ | fail)
    exact Halt.mk (X4_first_l H hi n 0 S1 K none (by omega) ⟨R.fr F1 (by omega), hn, hn8, hz⟩ R1 (fun S' F' => h1 S' (ScX.f7 (F1.tr F'))))
  · rw [if_neg (okM_neg hno)] at h1
    repeat' (first | (refine Rules.st H okX4_first [23] ?_; conv => whnf) | refine br_t (by first | decide | assumption) ?_ | refine br_f (by first | decide | assumption) ?_ | refine br_c (fun _ => ?_) (fun _ => ?_) | refine ⟨by decide, ?_⟩ | refine ⟨by first | assumption | (unfold vp_in; decide) | ((with_reducible (refine vp_in_nI ?_ ?_)) <;> omega), ?_⟩ | fail)
    refine X4_ref H (ScX.rf) (k := 1) (by omega) (by omega) (by decide) (fun S' hS' => ?_)
    repeat' (first | (refine Rules.st H okX4_first [23] ?_; conv => whnf) | refine br_t (by first | decide | assumption) ?_ | refine br_f (by first | decide | assumption) ?_ | refine br_c (fun _ => ?_) (fun _ => ?_) | refine ⟨by decide, ?_⟩ | refine ⟨by first | assumption | (unfold vp_in; decide) | ((with_reducible (refine vp_in_nI ?_ ?_)) <;> omega), ?_⟩ | fail)
    exact h1 S' hS'
def cardK (K : Mem) (n m : Nat) : Nat → Nat → Int32 → Int32 → Int32
  | 0, _, a, _ => a
  | k + 1, i, a, f => if bt (K 0 2) i = 0 ∧ pcI (longK m n K 0 1) ≤ pcI (longK m n (flipK K 2 i) 0 1) ∧ longK m n (flipK K 2 i) 5 m - K 5 m < f then cardK K n m k (i + 1) (nI i) (longK m n (flipK K 2 i) 5 m - K 5 m) else cardK K n m k (i + 1) a f
set_option maxRecDepth 100000 in
theorem X4_cardBest_l (H : Rules C T) {K : Mem} {n m : Nat} (hm : m < 2) {Q : Pst} : ∀ (k i : Nat) (a f : Int32) (S : Mem), i + k = n → XK S K n → (∀ S', Fr 7 12 S S' → Q (some (.int (cardK K n m k i a f))) S') → T mX4_cardBest Q 50 [some (.ref 0), some (.int (nI m)), some (.int (pcI (longK m n K 0 1))), some (.int f), some (.int a), some (.int (nI i))] [] S := by
  intro k
  induction k with
  | zero =>
    intro i a f S hi X h1
    obtain ⟨R, hn, hn8, hz⟩ := X
    have hge : nI n ≤ nI i := nI_le (by omega) (by omega)
    skip
    repeat' (first | (refine Rules.st H okX4_cardBest [50] ?_; conv => whnf) | refine br_t (by first | decide | assumption) ?_ | refine br_f (by first | decide | assumption) ?_ | refine br_c (fun _ => ?_) (fun _ => ?_) | refine ⟨by decide, ?_⟩ | refine ⟨by first | assumption | (unfold vp_in; decide) | ((with_reducible (refine vp_in_nI ?_ ?_)) <;> omega), ?_⟩ | fail)
    refine X1_rooms H (Or.inl rfl) R ?_
    rw [hn]
    repeat' (first | (refine Rules.st H okX4_cardBest [50] ?_; conv => whnf) | refine br_t (by first | decide | assumption) ?_ | refine br_f (by first | decide | assumption) ?_ | refine br_c (fun _ => ?_) (fun _ => ?_) | refine ⟨by decide, ?_⟩ | refine ⟨by first | assumption | (unfold vp_in; decide) | ((with_reducible (refine vp_in_nI ?_ ?_)) <;> omega), ?_⟩ | fail)
    exact h1 S Fr.rf
  | succ k ih =>
    intro i a f S hi X h1
    obtain ⟨R, hn, hn8, hz⟩ := X
    have hge : ¬ nI n ≤ nI i := nI_ge (by omega) (by omega)
    unfold cardK at h1
    have nx : ∀ (a' f' : Int32) (S1 : Mem), Fr 7 12 S S1 → (∀ S', Fr 7 12 S S' → Q (some (.int (cardK K n m k (i + 1) a' f'))) S') → Halt (T mX4_cardBest Q 50 [some (.ref 0), some (.int (nI m)), some (.int (pcI (longK m n K 0 1))), some (.int f'), some (.int a'), some (.int (nI i + 1))] [] S1) := fun a' f' S1 F e => Halt.mk (by
      rw [nI_1]
      exact ih (i + 1) a' f' S1 (by omega) ⟨R.fr F (by omega), hn, hn8, hz⟩ (fun S' F' => e S' (F.tr F')))
    skip
    repeat' (first | (refine Rules.st H okX4_cardBest [50] ?_; conv => whnf) | refine br_t (by first | decide | assumption) ?_ | refine br_f (by first | decide | assumption) ?_ | refine br_c (fun _ => ?_) (fun _ => ?_) | refine ⟨by decide, ?_⟩ | refine ⟨by first | assumption | (unfold vp_in; decide) | ((with_reducible (refine vp_in_nI ?_ ?_)) <;> omega), ?_⟩ | fail)
    refine X1_rooms H (Or.inl rfl) R ?_
    rw [hn]
    repeat' (first | (refine Rules.st H okX4_cardBest [50] ?_; conv => whnf) | refine br_t (by first | decide | assumption) ?_ | refine br_f (by first | decide | assumption) ?_ | refine br_c (fun _ => ?_) (fun _ => ?_) | refine ⟨by decide, ?_⟩ | refine ⟨by first | assumption | (unfold vp_in; decide) | ((with_reducible (refine vp_in_nI ?_ ?_)) <;> omega), ?_⟩ | fail)
    refine X1_hasCard H (Or.inl rfl) R (fun g => ?_) (fun g => ?_)
    · repeat' (first | (refine Rules.st H okX4_cardBest [50] ?_; conv => whnf) | refine br_t (by first | decide | assumption) ?_ | refine br_f (by first | decide | assumption) ?_ | refine br_c (fun _ => ?_) (fun _ => ?_) | refine ⟨by decide, ?_⟩ | refine ⟨by first | assumption | (unfold vp_in; decide) | ((with_reducible (refine vp_in_nI ?_ ?_)) <;> omega), ?_⟩ | fail)
      rw [if_neg (fun z => g z.1)] at h1
      exact nx a f S Fr.rf h1
    · repeat' (first | (refine Rules.st H okX4_cardBest [50] ?_; conv => whnf) | refine br_t (by first | decide | assumption) ?_ | refine br_f (by first | decide | assumption) ?_ | refine br_c (fun _ => ?_) (fun _ => ?_) | refine ⟨by decide, ?_⟩ | refine ⟨by first | assumption | (unfold vp_in; decide) | ((with_reducible (refine vp_in_nI ?_ ?_)) <;> omega), ?_⟩ | fail)
      refine X4_think H R hz (fun S1 R1 F1 => ?_)
      repeat' (first | (refine Rules.st H okX4_cardBest [50] ?_; conv => whnf) | refine br_t (by first | decide | assumption) ?_ | refine br_f (by first | decide | assumption) ?_ | refine br_c (fun _ => ?_) (fun _ => ?_) | refine ⟨by decide, ?_⟩ | refine ⟨by first | assumption | (unfold vp_in; decide) | ((with_reducible (refine vp_in_nI ?_ ?_)) <;> omega), ?_⟩ | fail)
      refine X1_changeCard H (Or.inr (Or.inl rfl)) R1 (fun S2 R2 F2 => ?_)
      repeat' (first | (refine Rules.st H okX4_cardBest [50] ?_; conv => whnf) | refine br_t (by first | decide | assumption) ?_ | refine br_f (by first | decide | assumption) ?_ | refine br_c (fun _ => ?_) (fun _ => ?_) | refine ⟨by decide, ?_⟩ | refine ⟨by first | assumption | (unfold vp_in; decide) | ((with_reducible (refine vp_in_nI ?_ ?_)) <;> omega), ?_⟩ | fail)
      refine X1_longRound H (Or.inr (Or.inl rfl)) hn8 hm R2 (by rw [up_j (by omega)]; exact hn) (fun S3 R3 F3 => ?_)
      have F : Fr 7 12 S S3 := (F1.tr F2).tr F3
      have R0 := R.fr F (by omega)
      repeat' (first | (refine Rules.st H okX4_cardBest [50] ?_; conv => whnf) | refine br_t (by first | decide | assumption) ?_ | refine br_f (by first | decide | assumption) ?_ | refine br_c (fun _ => ?_) (fun _ => ?_) | refine ⟨by decide, ?_⟩ | refine ⟨by first | assumption | (unfold vp_in; decide) | ((with_reducible (refine vp_in_nI ?_ ?_)) <;> omega), ?_⟩ | fail)
      refine X1_doneCount H (Or.inr (Or.inl rfl)) R3 ?_
      repeat' (first | (refine Rules.st H okX4_cardBest [50] ?_; conv => whnf) | refine br_t (by first | decide | assumption) ?_ | refine br_f (by first | decide | assumption) ?_ | refine br_c (fun _ => ?_) (fun _ => ?_) | refine ⟨by decide, ?_⟩ | refine ⟨by first | assumption | (unfold vp_in; decide) | ((with_reducible (refine vp_in_nI ?_ ?_)) <;> omega), ?_⟩ | fail)
      · rw [if_neg (fun z => absurd z.2.1 (Int32.not_le.mpr (by assumption)))] at h1
        exact nx a f S3 F h1
      · refine X4_thoughtMinutes H R0 R3 hm ?_
        repeat' (first | (refine Rules.st H okX4_cardBest [50] ?_; conv => whnf) | refine br_t (by first | decide | assumption) ?_ | refine br_f (by first | decide | assumption) ?_ | refine br_c (fun _ => ?_) (fun _ => ?_) | refine ⟨by decide, ?_⟩ | refine ⟨by first | assumption | (unfold vp_in; decide) | ((with_reducible (refine vp_in_nI ?_ ?_)) <;> omega), ?_⟩ | fail)
        · rw [if_neg (fun z => absurd z.2.2 (Int32.not_lt.mpr (by assumption)))] at h1
          exact nx a f S3 F h1
        · rw [if_pos ⟨g, Int32.not_lt.mp (by assumption), Int32.not_le.mp (by assumption)⟩] at h1
          refine X4_thoughtMinutes H R0 R3 hm ?_
          repeat' (first | (refine Rules.st H okX4_cardBest [50] ?_; conv => whnf) | refine br_t (by first | decide | assumption) ?_ | refine br_f (by first | decide | assumption) ?_ | refine br_c (fun _ => ?_) (fun _ => ?_) | refine ⟨by decide, ?_⟩ | refine ⟨by first | assumption | (unfold vp_in; decide) | ((with_reducible (refine vp_in_nI ?_ ?_)) <;> omega), ?_⟩ | fail)
          exact nx _ _ S3 F h1
def F_cardBest (K : Mem) (n : Nat) (m : Int32) : Ans := if okM m then (0, cardK K n (ix m) n 0 (-9) (longK (ix m) n K 5 (ix m) - K 5 (ix m))) else (1, -1)
set_option maxRecDepth 100000 in
theorem X4_cardBest (H : Rules C T) {S K : Mem} {n : Nat} (X : XK S K n) {m : Int32} {Q : Pst} (h1 : AnsX S (F_cardBest K n m) Q) : C mX4_cardBest [.ref 0, .int m] S Q := by
  obtain ⟨R, hn, hn8, hz⟩ := X
  unfold F_cardBest at h1
  refine Rules.go H (by decide) (Nat.le_of_ble_eq_true rfl) ?_
  repeat' (first | (refine Rules.st H okX4_cardBest [50] ?_; conv => whnf) | refine br_t (by first | decide | assumption) ?_ | refine br_f (by first | decide | assumption) ?_ | refine br_c (fun _ => ?_) (fun _ => ?_) | refine ⟨by decide, ?_⟩ | refine ⟨by first | assumption | (unfold vp_in; decide) | ((with_reducible (refine vp_in_nI ?_ ?_)) <;> omega), ?_⟩ | fail)
  refine X1_hasMaid H (fun i hi e => ?_) (fun hno => ?_)
  · subst e
    rw [show ix (nI i) = i from nIc (by omega), if_pos (okM_nI hi)] at h1
    repeat' (first | (refine Rules.st H okX4_cardBest [50] ?_; conv => whnf) | refine br_t (by first | decide | assumption) ?_ | refine br_f (by first | decide | assumption) ?_ | refine br_c (fun _ => ?_) (fun _ => ?_) | refine ⟨by decide, ?_⟩ | refine ⟨by first | assumption | (unfold vp_in; decide) | ((with_reducible (refine vp_in_nI ?_ ?_)) <;> omega), ?_⟩ | fail)
    refine X4_think H R hz (fun S1 R1 F1 => ?_)
    repeat' (first | (refine Rules.st H okX4_cardBest [50] ?_; conv => whnf) | refine br_t (by first | decide | assumption) ?_ | refine br_f (by first | decide | assumption) ?_ | refine br_c (fun _ => ?_) (fun _ => ?_) | refine ⟨by decide, ?_⟩ | refine ⟨by first | assumption | (unfold vp_in; decide) | ((with_reducible (refine vp_in_nI ?_ ?_)) <;> omega), ?_⟩ | fail)
    refine X1_longRound H (Or.inr (Or.inl rfl)) hn8 hi R1 hn (fun S2 R2 F2 => ?_)
    have R0 := R.fr (F1.tr F2) (by omega)
    repeat' (first | (refine Rules.st H okX4_cardBest [50] ?_; conv => whnf) | refine br_t (by first | decide | assumption) ?_ | refine br_f (by first | decide | assumption) ?_ | refine br_c (fun _ => ?_) (fun _ => ?_) | refine ⟨by decide, ?_⟩ | refine ⟨by first | assumption | (unfold vp_in; decide) | ((with_reducible (refine vp_in_nI ?_ ?_)) <;> omega), ?_⟩ | fail)
    refine X1_doneCount H (Or.inr (Or.inl rfl)) R2 ?_
    repeat' (first | (refine Rules.st H okX4_cardBest [50] ?_; conv => whnf) | refine br_t (by first | decide | assumption) ?_ | refine br_f (by first | decide | assumption) ?_ | refine br_c (fun _ => ?_) (fun _ => ?_) | refine ⟨by decide, ?_⟩ | refine ⟨by first | assumption | (unfold vp_in; decide) | ((with_reducible (refine vp_in_nI ?_ ?_)) <;> omega), ?_⟩ | fail)
    refine X4_thoughtMinutes H R0 R2 hi ?_
    repeat' (first | (refine Rules.st H okX4_cardBest [50] ?_; conv => whnf) | refine br_t (by first | decide | assumption) ?_ | refine br_f (by first | decide | assumption) ?_ | refine br_c (fun _ => ?_) (fun _ => ?_) | refine ⟨by decide, ?_⟩ | refine ⟨by first | assumption | (unfold vp_in; decide) | ((with_reducible (refine vp_in_nI ?_ ?_)) <;> omega), ?_⟩ | fail)
    exact Halt.mk (X4_cardBest_l H hi n 0 _ _ S2 (by omega) ⟨R0, hn, hn8, hz⟩ (fun S' F' => h1 S' (ScX.f7 ((F1.tr F2).tr F'))))
  · rw [if_neg (okM_neg hno)] at h1
    repeat' (first | (refine Rules.st H okX4_cardBest [50] ?_; conv => whnf) | refine br_t (by first | decide | assumption) ?_ | refine br_f (by first | decide | assumption) ?_ | refine br_c (fun _ => ?_) (fun _ => ?_) | refine ⟨by decide, ?_⟩ | refine ⟨by first | assumption | (unfold vp_in; decide) | ((with_reducible (refine vp_in_nI ?_ ?_)) <;> omega), ?_⟩ | fail)
    refine X4_ref H (ScX.rf) (k := 1) (by omega) (by omega) (by decide) (fun S' hS' => ?_)
    repeat' (first | (refine Rules.st H okX4_cardBest [50] ?_; conv => whnf) | refine br_t (by first | decide | assumption) ?_ | refine br_f (by first | decide | assumption) ?_ | refine br_c (fun _ => ?_) (fun _ => ?_) | refine ⟨by decide, ?_⟩ | refine ⟨by first | assumption | (unfold vp_in; decide) | ((with_reducible (refine vp_in_nI ?_ ?_)) <;> omega), ?_⟩ | fail)
    exact h1 S' hS'
/-! together -/
def toge (d0 c0 d1 c1 : Int32) : Int32 := if d1 = d0 ∧ c1 = c0 then -9 else if d0 < d1 ∨ (d1 = d0 ∧ c1 < c0) then 1 else 0
def bothsK (K : Mem) (a b : Nat) : Mem := (bothK (bothK K a).2 b).2
def aloneK (K : Mem) (a b : Nat) : Mem := (visitK (visitK K 0 a).2 1 b).2
def togeK (K : Mem) (a b : Nat) : Int32 := toge (pcI (bothsK K a b 0 1)) (laterK (bothsK K a b)) (pcI (aloneK K a b 0 1)) (laterK (aloneK K a b))
def two2 (n : Nat) (a b : Int32) : Prop := okR n a ∧ okR n b ∧ ¬ a = b
set_option maxRecDepth 100000 in
theorem X4_together (H : Rules C T) {S K : Mem} {n : Nat} (X : XK S K n) {a b : Int32} {Q : Pst} (h1 : two2 n a b → AnsX S (0, togeK K (ix a) (ix b)) Q) (h0 : ¬ two2 n a b → AnsX S (1, -1) Q) : C mX4_together [.ref 0, .int a, .int b] S Q := by
  obtain ⟨R, hn, hn8, hz⟩ := X
  refine Rules.go H (by decide) (Nat.le_of_ble_eq_true rfl) ?_
  repeat' (first | (refine Rules.st H okX4_together [] ?_; conv => whnf) | refine br_t (by first | decide | assumption) ?_ | refine br_f (by first | decide | assumption) ?_ | refine br_c (fun _ => ?_) (fun _ => ?_) | refine ⟨by decide, ?_⟩ | refine ⟨by first | assumption | (unfold vp_in; decide) | ((with_reducible (refine vp_in_nI ?_ ?_)) <;> omega), ?_⟩ | fail)
  refine X4_areTwoRooms H hn8 R hn (fun i j hi hj hne e1 e2 => ?_) (fun hno => ?_)
  · have h1 := h1 ⟨by rw [e1]; exact okR_nI hn8 hi, by rw [e2]; exact okR_nI hn8 hj, fun z => hne ((nI_eq (by omega) (by omega)).mp (e1.symm.trans (z.trans e2)))⟩
    subst e1
    subst e2
    rw [show ix (nI i) = i from nIc (by omega), show ix (nI j) = j from nIc (by omega)] at h1
    unfold togeK toge at h1
    repeat' (first | (refine Rules.st H okX4_together [] ?_; conv => whnf) | refine br_t (by first | decide | assumption) ?_ | refine br_f (by first | decide | assumption) ?_ | refine br_c (fun _ => ?_) (fun _ => ?_) | refine ⟨by decide, ?_⟩ | refine ⟨by first | assumption | (unfold vp_in; decide) | ((with_reducible (refine vp_in_nI ?_ ?_)) <;> omega), ?_⟩ | fail)
    refine X0_forget H (fun S1 B1 F1 => ?_)
    repeat' (first | (refine Rules.st H okX4_together [] ?_; conv => whnf) | refine br_t (by first | decide | assumption) ?_ | refine br_f (by first | decide | assumption) ?_ | refine br_c (fun _ => ?_) (fun _ => ?_) | refine ⟨by decide, ?_⟩ | refine ⟨by first | assumption | (unfold vp_in; decide) | ((with_reducible (refine vp_in_nI ?_ ?_)) <;> omega), ?_⟩ | fail)
    have R1 := R.fr F1 (by omega)
    refine X4_think H R1 hz (fun S2 R2 F2 => ?_)
    repeat' (first | (refine Rules.st H okX4_together [] ?_; conv => whnf) | refine br_t (by first | decide | assumption) ?_ | refine br_f (by first | decide | assumption) ?_ | refine br_c (fun _ => ?_) (fun _ => ?_) | refine ⟨by decide, ?_⟩ | refine ⟨by first | assumption | (unfold vp_in; decide) | ((with_reducible (refine vp_in_nI ?_ ?_)) <;> omega), ?_⟩ | fail)
    refine X1_visitByBoth H (Or.inr (Or.inl rfl)) R2 (by omega) (fun S3 R3 F3 => ?_)
    repeat' (first | (refine Rules.st H okX4_together [] ?_; conv => whnf) | refine br_t (by first | decide | assumption) ?_ | refine br_f (by first | decide | assumption) ?_ | refine br_c (fun _ => ?_) (fun _ => ?_) | refine ⟨by decide, ?_⟩ | refine ⟨by first | assumption | (unfold vp_in; decide) | ((with_reducible (refine vp_in_nI ?_ ?_)) <;> omega), ?_⟩ | fail)
    refine X1_visitByBoth H (Or.inr (Or.inl rfl)) R3 (by omega) (fun S4 R4 F4 => ?_)
    repeat' (first | (refine Rules.st H okX4_together [] ?_; conv => whnf) | refine br_t (by first | decide | assumption) ?_ | refine br_f (by first | decide | assumption) ?_ | refine br_c (fun _ => ?_) (fun _ => ?_) | refine ⟨by decide, ?_⟩ | refine ⟨by first | assumption | (unfold vp_in; decide) | ((with_reducible (refine vp_in_nI ?_ ?_)) <;> omega), ?_⟩ | fail)
    refine X1_doneCount H (Or.inr (Or.inl rfl)) R4 ?_
    repeat' (first | (refine Rules.st H okX4_together [] ?_; conv => whnf) | refine br_t (by first | decide | assumption) ?_ | refine br_f (by first | decide | assumption) ?_ | refine br_c (fun _ => ?_) (fun _ => ?_) | refine ⟨by decide, ?_⟩ | refine ⟨by first | assumption | (unfold vp_in; decide) | ((with_reducible (refine vp_in_nI ?_ ?_)) <;> omega), ?_⟩ | fail)
    refine X1_laterClock H (Or.inr (Or.inl rfl)) R4 ?_
    repeat' (first | (refine Rules.st H okX4_together [] ?_; conv => whnf) | refine br_t (by first | decide | assumption) ?_ | refine br_f (by first | decide | assumption) ?_ | refine br_c (fun _ => ?_) (fun _ => ?_) | refine ⟨by decide, ?_⟩ | refine ⟨by first | assumption | (unfold vp_in; decide) | ((with_reducible (refine vp_in_nI ?_ ?_)) <;> omega), ?_⟩ | fail)
    have B4 : RepB S4 none := by
      have F := (F2.tr F3).tr F4
      show S4 24 0 = 0
      rw [F 24 0 (by omega)]
      exact B1
    refine X0_offer H B4 (fun S5 B5 F5 => ?_)
    repeat' (first | (refine Rules.st H okX4_together [] ?_; conv => whnf) | refine br_t (by first | decide | assumption) ?_ | refine br_f (by first | decide | assumption) ?_ | refine br_c (fun _ => ?_) (fun _ => ?_) | refine ⟨by decide, ?_⟩ | refine ⟨by first | assumption | (unfold vp_in; decide) | ((with_reducible (refine vp_in_nI ?_ ?_)) <;> omega), ?_⟩ | fail)
    have s5 : ScX 0 S S5 := (ScX.f24 F1).tr ((ScX.f7 ((F2.tr F3).tr F4)).tr (ScX.f24 F5))
    have R5 : RepC 1 S5 K := s5.rep R (Or.inl rfl)
    refine X4_think H R5 hz (fun S6 R6 F6 => ?_)
    repeat' (first | (refine Rules.st H okX4_together [] ?_; conv => whnf) | refine br_t (by first | decide | assumption) ?_ | refine br_f (by first | decide | assumption) ?_ | refine br_c (fun _ => ?_) (fun _ => ?_) | refine ⟨by decide, ?_⟩ | refine ⟨by first | assumption | (unfold vp_in; decide) | ((with_reducible (refine vp_in_nI ?_ ?_)) <;> omega), ?_⟩ | fail)
    refine X1_visitBy H (Or.inr (Or.inl rfl)) R6 (m := 0) (by omega) (by omega) (fun S7 R7 F7 => ?_)
    repeat' (first | (refine Rules.st H okX4_together [] ?_; conv => whnf) | refine br_t (by first | decide | assumption) ?_ | refine br_f (by first | decide | assumption) ?_ | refine br_c (fun _ => ?_) (fun _ => ?_) | refine ⟨by decide, ?_⟩ | refine ⟨by first | assumption | (unfold vp_in; decide) | ((with_reducible (refine vp_in_nI ?_ ?_)) <;> omega), ?_⟩ | fail)
    refine X1_visitBy H (Or.inr (Or.inl rfl)) R7 (m := 1) (by omega) (by omega) (fun S8 R8 F8 => ?_)
    repeat' (first | (refine Rules.st H okX4_together [] ?_; conv => whnf) | refine br_t (by first | decide | assumption) ?_ | refine br_f (by first | decide | assumption) ?_ | refine br_c (fun _ => ?_) (fun _ => ?_) | refine ⟨by decide, ?_⟩ | refine ⟨by first | assumption | (unfold vp_in; decide) | ((with_reducible (refine vp_in_nI ?_ ?_)) <;> omega), ?_⟩ | fail)
    have s8 : ScX 0 S S8 := s5.tr (ScX.f7 ((F6.tr F7).tr F8))
    have B8 : RepB S8 (some (0, pcI (bothsK K i j 0 1), laterK (bothsK K i j))) := by
      have F := (F6.tr F7).tr F8
      have B5' : RepB S5 (some (0, pcI (bothsK K i j 0 1), laterK (bothsK K i j))) := B5
      unfold RepB at B5' ⊢
      rw [F 24 0 (by omega), F 24 1 (by omega), F 24 2 (by omega), F 24 3 (by omega)]
      exact B5'
    refine X1_doneCount H (Or.inr (Or.inl rfl)) R8 ?_
    repeat' (first | (refine Rules.st H okX4_together [] ?_; conv => whnf) | refine br_t (by first | decide | assumption) ?_ | refine br_f (by first | decide | assumption) ?_ | refine br_c (fun _ => ?_) (fun _ => ?_) | refine ⟨by decide, ?_⟩ | refine ⟨by first | assumption | (unfold vp_in; decide) | ((with_reducible (refine vp_in_nI ?_ ?_)) <;> omega), ?_⟩ | fail)
    · refine X1_laterClock H (Or.inr (Or.inl rfl)) R8 ?_
      repeat' (first | (refine Rules.st H okX4_together [] ?_; conv => whnf) | refine br_t (by first | decide | assumption) ?_ | refine br_f (by first | decide | assumption) ?_ | refine br_c (fun _ => ?_) (fun _ => ?_) | refine ⟨by decide, ?_⟩ | refine ⟨by first | assumption | (unfold vp_in; decide) | ((with_reducible (refine vp_in_nI ?_ ?_)) <;> omega), ?_⟩ | fail)
      · rw [if_pos ⟨by assumption, by assumption⟩] at h1
        exact h1 S8 s8
      · rw [if_neg (fun z => absurd z.2 (by assumption))] at h1
        refine X1_doneCount H (Or.inr (Or.inl rfl)) R8 ?_
        repeat' (first | (refine Rules.st H okX4_together [] ?_; conv => whnf) | refine br_t (by first | decide | assumption) ?_ | refine br_f (by first | decide | assumption) ?_ | refine br_c (fun _ => ?_) (fun _ => ?_) | refine ⟨by decide, ?_⟩ | refine ⟨by first | assumption | (unfold vp_in; decide) | ((with_reducible (refine vp_in_nI ?_ ?_)) <;> omega), ?_⟩ | fail)
        refine X1_laterClock H (Or.inr (Or.inl rfl)) R8 ?_
        repeat' (first | (refine Rules.st H okX4_together [] ?_; conv => whnf) | refine br_t (by first | decide | assumption) ?_ | refine br_f (by first | decide | assumption) ?_ | refine br_c (fun _ => ?_) (fun _ => ?_) | refine ⟨by decide, ?_⟩ | refine ⟨by first | assumption | (unfold vp_in; decide) | ((with_reducible (refine vp_in_nI ?_ ?_)) <;> omega), ?_⟩ | fail)
        refine X0_offer H B8 (fun S9 B9 F9 => ?_)
        repeat' (first | (refine Rules.st H okX4_together [] ?_; conv => whnf) | refine br_t (by first | decide | assumption) ?_ | refine br_f (by first | decide | assumption) ?_ | refine br_c (fun _ => ?_) (fun _ => ?_) | refine ⟨by decide, ?_⟩ | refine ⟨by first | assumption | (unfold vp_in; decide) | ((with_reducible (refine vp_in_nI ?_ ?_)) <;> omega), ?_⟩ | fail)
        have h1 := h1 S9 (s8.tr (ScX.f24 F9))
        by_cases hb : pcI (bothsK K i j 0 1) < pcI (aloneK K i j 0 1) ∨ (pcI (aloneK K i j 0 1) = pcI (bothsK K i j 0 1) ∧ laterK (aloneK K i j) < laterK (bothsK K i j))
        · have B9 : RepB S9 (some (1, pcI (aloneK K i j 0 1), laterK (aloneK K i j))) := by
            rw [← show offB (some (0, pcI (bothsK K i j 0 1), laterK (bothsK K i j))) 1 (pcI (aloneK K i j 0 1)) (laterK (aloneK K i j)) = some (1, pcI (aloneK K i j 0 1), laterK (aloneK K i j)) from if_pos hb]
            exact B9
          rw [if_pos hb] at h1
          refine X0_answer H B9 ?_
          rw [if_pos rfl]
          repeat' (first | (refine Rules.st H okX4_together [] ?_; conv => whnf) | refine br_t (by first | decide | assumption) ?_ | refine br_f (by first | decide | assumption) ?_ | refine br_c (fun _ => ?_) (fun _ => ?_) | refine ⟨by decide, ?_⟩ | refine ⟨by first | assumption | (unfold vp_in; decide) | ((with_reducible (refine vp_in_nI ?_ ?_)) <;> omega), ?_⟩ | fail)
          exact h1
        · have B9 : RepB S9 (some (0, pcI (bothsK K i j 0 1), laterK (bothsK K i j))) := by
            rw [← show offB (some (0, pcI (bothsK K i j 0 1), laterK (bothsK K i j))) 1 (pcI (aloneK K i j 0 1)) (laterK (aloneK K i j)) = some (0, pcI (bothsK K i j 0 1), laterK (bothsK K i j)) from if_neg hb]
            exact B9
          rw [if_neg hb] at h1
          refine X0_answer H B9 ?_
          rw [if_pos rfl]
          repeat' (first | (refine Rules.st H okX4_together [] ?_; conv => whnf) | refine br_t (by first | decide | assumption) ?_ | refine br_f (by first | decide | assumption) ?_ | refine br_c (fun _ => ?_) (fun _ => ?_) | refine ⟨by decide, ?_⟩ | refine ⟨by first | assumption | (unfold vp_in; decide) | ((with_reducible (refine vp_in_nI ?_ ?_)) <;> omega), ?_⟩ | fail)
          exact h1
    · rw [if_neg (fun z => absurd z.1 (by assumption))] at h1
      refine X1_doneCount H (Or.inr (Or.inl rfl)) R8 ?_
      repeat' (first | (refine Rules.st H okX4_together [] ?_; conv => whnf) | refine br_t (by first | decide | assumption) ?_ | refine br_f (by first | decide | assumption) ?_ | refine br_c (fun _ => ?_) (fun _ => ?_) | refine ⟨by decide, ?_⟩ | refine ⟨by first | assumption | (unfold vp_in; decide) | ((with_reducible (refine vp_in_nI ?_ ?_)) <;> omega), ?_⟩ | fail)
      refine X1_laterClock H (Or.inr (Or.inl rfl)) R8 ?_
      repeat' (first | (refine Rules.st H okX4_together [] ?_; conv => whnf) | refine br_t (by first | decide | assumption) ?_ | refine br_f (by first | decide | assumption) ?_ | refine br_c (fun _ => ?_) (fun _ => ?_) | refine ⟨by decide, ?_⟩ | refine ⟨by first | assumption | (unfold vp_in; decide) | ((with_reducible (refine vp_in_nI ?_ ?_)) <;> omega), ?_⟩ | fail)
      refine X0_offer H B8 (fun S9 B9 F9 => ?_)
      repeat' (first | (refine Rules.st H okX4_together [] ?_; conv => whnf) | refine br_t (by first | decide | assumption) ?_ | refine br_f (by first | decide | assumption) ?_ | refine br_c (fun _ => ?_) (fun _ => ?_) | refine ⟨by decide, ?_⟩ | refine ⟨by first | assumption | (unfold vp_in; decide) | ((with_reducible (refine vp_in_nI ?_ ?_)) <;> omega), ?_⟩ | fail)
      have h1 := h1 S9 (s8.tr (ScX.f24 F9))
      by_cases hb : pcI (bothsK K i j 0 1) < pcI (aloneK K i j 0 1) ∨ (pcI (aloneK K i j 0 1) = pcI (bothsK K i j 0 1) ∧ laterK (aloneK K i j) < laterK (bothsK K i j))
      · have B9 : RepB S9 (some (1, pcI (aloneK K i j 0 1), laterK (aloneK K i j))) := by
          rw [← show offB (some (0, pcI (bothsK K i j 0 1), laterK (bothsK K i j))) 1 (pcI (aloneK K i j 0 1)) (laterK (aloneK K i j)) = some (1, pcI (aloneK K i j 0 1), laterK (aloneK K i j)) from if_pos hb]
          exact B9
        rw [if_pos hb] at h1
        refine X0_answer H B9 ?_
        rw [if_pos rfl]
        repeat' (first | (refine Rules.st H okX4_together [] ?_; conv => whnf) | refine br_t (by first | decide | assumption) ?_ | refine br_f (by first | decide | assumption) ?_ | refine br_c (fun _ => ?_) (fun _ => ?_) | refine ⟨by decide, ?_⟩ | refine ⟨by first | assumption | (unfold vp_in; decide) | ((with_reducible (refine vp_in_nI ?_ ?_)) <;> omega), ?_⟩ | fail)
        exact h1
      · have B9 : RepB S9 (some (0, pcI (bothsK K i j 0 1), laterK (bothsK K i j))) := by
          rw [← show offB (some (0, pcI (bothsK K i j 0 1), laterK (bothsK K i j))) 1 (pcI (aloneK K i j 0 1)) (laterK (aloneK K i j)) = some (0, pcI (bothsK K i j 0 1), laterK (bothsK K i j)) from if_neg hb]
          exact B9
        rw [if_neg hb] at h1
        refine X0_answer H B9 ?_
        rw [if_pos rfl]
        repeat' (first | (refine Rules.st H okX4_together [] ?_; conv => whnf) | refine br_t (by first | decide | assumption) ?_ | refine br_f (by first | decide | assumption) ?_ | refine br_c (fun _ => ?_) (fun _ => ?_) | refine ⟨by decide, ?_⟩ | refine ⟨by first | assumption | (unfold vp_in; decide) | ((with_reducible (refine vp_in_nI ?_ ?_)) <;> omega), ?_⟩ | fail)
        exact h1
  · repeat' (first | (refine Rules.st H okX4_together [] ?_; conv => whnf) | refine br_t (by first | decide | assumption) ?_ | refine br_f (by first | decide | assumption) ?_ | refine br_c (fun _ => ?_) (fun _ => ?_) | refine ⟨by decide, ?_⟩ | refine ⟨by first | assumption | (unfold vp_in; decide) | ((with_reducible (refine vp_in_nI ?_ ?_)) <;> omega), ?_⟩ | fail)
    refine X4_ref H (ScX.rf) (k := 1) (by omega) (by omega) (by decide) (fun S' hS' => ?_)
    repeat' (first | (refine Rules.st H okX4_together [] ?_; conv => whnf) | refine br_t (by first | decide | assumption) ?_ | refine br_f (by first | decide | assumption) ?_ | refine br_c (fun _ => ?_) (fun _ => ?_) | refine ⟨by decide, ?_⟩ | refine ⟨by first | assumption | (unfold vp_in; decide) | ((with_reducible (refine vp_in_nI ?_ ?_)) <;> omega), ?_⟩ | fail)
    exact h0 hno S' hS'
end X7
