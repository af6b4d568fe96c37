section M30
variable {C : Cst} {T : Nat → Pst → Nat → Lcs → List Value → Mem → Prop}
set_option maxRecDepth 100000 in
theorem X5_dearestNow_l (H : Rules C T) {S K : Mem} {d : Int32} {n : Nat} (R : RepM S K d) (g : Gd K n) {b : Int} (B : BK b K) {Q : Pst} : ∀ (k i : Nat) (a w : Int32), i + k = n → ((a = -9 ∧ w = 0) ∨ ∃ j, j < 8 ∧ a = nI j ∧ w = workK K j) → Q (some (.int (mostK K k i a w))) S → T mX5_dearestNow Q 5 [some (.ref 25), some (.int a), some (.int (nI i))] [] S := by
  have h8 := g.2.1
  intro k
  induction k with
  | zero =>
    intro i a w hi ha h1
    have hge : S 25 8 ≤ nI i := by rw [R.rm, g.1]; exact nI_le (by omega) (by omega)
    skip
    repeat' (first | (refine Rules.st H okX5_dearestNow [5] ?_; (conv => whnf); try (show T _ _ _ [_, _, _] _ _)) | refine br_t (by first | decide | assumption) ?_ | refine br_f (by first | decide | assumption) ?_ | refine br_c (fun _ => ?_) (fun _ => ?_) | refine ⟨by decide, ?_⟩ | refine ⟨by first | assumption | (unfold vp_in; decide) | ((with_reducible (refine vp_in_nI ?_ ?_)) <;> omega), ?_⟩ | fail)
    exact h1
  | succ k ih =>
    intro i a w hi ha h1
    have hge : ¬ S 25 8 ≤ nI i := by rw [R.rm, g.1]; exact nI_ge (by omega) (by omega)
    have e29 : S 29 (nI i).toNatClampNeg = bt (K 0 1) i := by rw [nIc (by omega)]; exact R.de (by omega)
    unfold mostK at h1
    by_cases q : bt (K 0 1) i = 0
    · have q2 : S 29 (nI i).toNatClampNeg = 0 := e29.trans q
      rcases ha with ⟨rfl, rfl⟩ | ⟨j, hj, rfl, rfl⟩
      · have p : (0 : Int32) < workK K i := by
          rw [ltT]
          have z : (0 : Int32).toInt = 0 := by decide
          have := (wk_t (k := K 1 i) (B.1 i (by omega))).2.2
          unfold workK
          omega
        rw [if_pos ⟨q, p⟩] at h1
        have p9 : (-9 : Int32) < 0 := by decide
        skip
        repeat' (first | (refine Rules.st H okX5_dearestNow [5] ?_; (conv => whnf); try (show T _ _ _ [_, _, _] _ _)) | refine br_t (by first | decide | assumption) ?_ | refine br_f (by first | decide | assumption) ?_ | refine br_c (fun _ => ?_) (fun _ => ?_) | refine ⟨by decide, ?_⟩ | refine ⟨by first | assumption | (unfold vp_in; decide) | ((with_reducible (refine vp_in_nI ?_ ?_)) <;> omega), ?_⟩ | fail)
        refine Halt.mk ?_
        rw [nI_1]
        exact ih (i + 1) _ _ (by omega) (Or.inr ⟨i, by omega, rfl, rfl⟩) h1
      · have p0 : ¬ nI j < 0 := nI_pos (by omega)
        skip
        repeat' (first | (refine Rules.st H okX5_dearestNow [5] ?_; (conv => whnf); try (show T _ _ _ [_, _, _] _ _)) | refine br_t (by first | decide | assumption) ?_ | refine br_f (by first | decide | assumption) ?_ | refine br_c (fun _ => ?_) (fun _ => ?_) | refine ⟨by decide, ?_⟩ | refine ⟨by first | assumption | (unfold vp_in; decide) | ((with_reducible (refine vp_in_nI ?_ ?_)) <;> omega), ?_⟩ | fail)
        refine X5_work H R (by omega) ?_
        repeat' (first | (refine Rules.st H okX5_dearestNow [5] ?_; (conv => whnf); try (show T _ _ _ [_, _, _] _ _)) | refine br_t (by first | decide | assumption) ?_ | refine br_f (by first | decide | assumption) ?_ | refine br_c (fun _ => ?_) (fun _ => ?_) | refine ⟨by decide, ?_⟩ | refine ⟨by first | assumption | (unfold vp_in; decide) | ((with_reducible (refine vp_in_nI ?_ ?_)) <;> omega), ?_⟩ | fail)
        refine X5_work H R hj ?_
        by_cases q3 : workK K j < workK K i
        · have q4 := Int32.not_le.mpr q3
          rw [if_pos ⟨q, q3⟩] at h1
          repeat' (first | (refine Rules.st H okX5_dearestNow [5] ?_; (conv => whnf); try (show T _ _ _ [_, _, _] _ _)) | refine br_t (by first | decide | assumption) ?_ | refine br_f (by first | decide | assumption) ?_ | refine br_c (fun _ => ?_) (fun _ => ?_) | refine ⟨by decide, ?_⟩ | refine ⟨by first | assumption | (unfold vp_in; decide) | ((with_reducible (refine vp_in_nI ?_ ?_)) <;> omega), ?_⟩ | fail)
          refine Halt.mk ?_
          rw [nI_1]
          exact ih (i + 1) _ _ (by omega) (Or.inr ⟨i, by omega, rfl, rfl⟩) h1
        · have q4 := Int32.not_lt.mp q3
          rw [if_neg (fun z => q3 z.2)] at h1
          repeat' (first | (refine Rules.st H okX5_dearestNow [5] ?_; (conv => whnf); try (show T _ _ _ [_, _, _] _ _)) | refine br_t (by first | decide | assumption) ?_ | refine br_f (by first | decide | assumption) ?_ | refine br_c (fun _ => ?_) (fun _ => ?_) | refine ⟨by decide, ?_⟩ | refine ⟨by first | assumption | (unfold vp_in; decide) | ((with_reducible (refine vp_in_nI ?_ ?_)) <;> omega), ?_⟩ | fail)
          refine Halt.mk ?_
          rw [nI_1]
          exact ih (i + 1) _ _ (by omega) (Or.inr ⟨j, by omega, rfl, rfl⟩) h1
    · have q2 : ¬ S 29 (nI i).toNatClampNeg = 0 := fun z => q (e29.symm.trans z)
      rw [if_neg (fun z => q z.1)] at h1
      skip
      repeat' (first | (refine Rules.st H okX5_dearestNow [5] ?_; (conv => whnf); try (show T _ _ _ [_, _, _] _ _)) | refine br_t (by first | decide | assumption) ?_ | refine br_f (by first | decide | assumption) ?_ | refine br_c (fun _ => ?_) (fun _ => ?_) | refine ⟨by decide, ?_⟩ | refine ⟨by first | assumption | (unfold vp_in; decide) | ((with_reducible (refine vp_in_nI ?_ ?_)) <;> omega), ?_⟩ | fail)
      refine Halt.mk ?_
      rw [nI_1]
      exact ih (i + 1) _ _ (by omega) ha h1
set_option maxRecDepth 100000 in
theorem X5_outNow_l (H : Rules C T) {S K : Mem} {d : Int32} {n : Nat} (R : RepM S K d) (g : Gd K n) {Q : Pst} : ∀ (k i : Nat) (a : Int32), i + k = n → Q (some (.int (outsK K (K 5 0) k i a))) S → T mX5_outNow Q 4 [some (.ref 25), some (.int a), some (.int (nI i))] [] S := by
  have h8 := g.2.1
  have c0 : S 33 (0 : Int32).toNatClampNeg = K 5 0 := R.ck (m := 0) (by omega)
  intro k
  induction k with
  | zero =>
    intro i a hi h1
    have hge : S 25 8 ≤ nI i := by rw [R.rm, g.1]; exact nI_le (by omega) (by omega)
    skip
    repeat' (first | (refine Rules.st H okX5_outNow [4] ?_; (conv => whnf); try (show T _ _ _ [_, _, _] _ _)) | refine br_t (by first | decide | assumption) ?_ | refine br_f (by first | decide | assumption) ?_ | refine br_c (fun _ => ?_) (fun _ => ?_) | refine ⟨by decide, ?_⟩ | refine ⟨by first | assumption | (unfold vp_in; decide) | ((with_reducible (refine vp_in_nI ?_ ?_)) <;> omega), ?_⟩ | fail)
    exact h1
  | succ k ih =>
    intro i a hi h1
    have hge : ¬ S 25 8 ≤ nI i := by rw [R.rm, g.1]; exact nI_ge (by omega) (by omega)
    unfold outsK at h1
    skip
    repeat' (first | (refine Rules.st H okX5_outNow [4] ?_; (conv => whnf); try (show T _ _ _ [_, _, _] _ _)) | refine br_t (by first | decide | assumption) ?_ | refine br_f (by first | decide | assumption) ?_ | refine br_c (fun _ => ?_) (fun _ => ?_) | refine ⟨by decide, ?_⟩ | refine ⟨by first | assumption | (unfold vp_in; decide) | ((with_reducible (refine vp_in_nI ?_ ?_)) <;> omega), ?_⟩ | fail)
    rw [c0]
    refine X5_isOut H R (by omega) (fun q => ?_) (fun q => ?_)
    · rw [if_pos q] at h1
      repeat' (first | (refine Rules.st H okX5_outNow [4] ?_; (conv => whnf); try (show T _ _ _ [_, _, _] _ _)) | refine br_t (by first | decide | assumption) ?_ | refine br_f (by first | decide | assumption) ?_ | refine br_c (fun _ => ?_) (fun _ => ?_) | refine ⟨by decide, ?_⟩ | refine ⟨by first | assumption | (unfold vp_in; decide) | ((with_reducible (refine vp_in_nI ?_ ?_)) <;> omega), ?_⟩ | fail)
      refine Halt.mk ?_
      rw [nI_1]
      exact ih (i + 1) _ (by omega) h1
    · rw [if_neg (by rw [q]; decide)] at h1
      repeat' (first | (refine Rules.st H okX5_outNow [4] ?_; (conv => whnf); try (show T _ _ _ [_, _, _] _ _)) | refine br_t (by first | decide | assumption) ?_ | refine br_f (by first | decide | assumption) ?_ | refine br_c (fun _ => ?_) (fun _ => ?_) | refine ⟨by decide, ?_⟩ | refine ⟨by first | assumption | (unfold vp_in; decide) | ((with_reducible (refine vp_in_nI ?_ ?_)) <;> omega), ?_⟩ | fail)
      refine Halt.mk ?_
      rw [nI_1, Int32.or_zero]
      exact ih (i + 1) _ (by omega) h1
set_option maxRecDepth 100000 in
theorem X5_linenLeft_l (H : Rules C T) {S K : Mem} {d : Int32} {n : Nat} (R : RepM S K d) (g : Gd K n) {Q : Pst} : ∀ (k i : Nat) (a : Int32), i + k = n → Q (some (.int (lensK K k i a))) S → T mX5_linenLeft Q 4 [some (.ref 25), some (.int a), some (.int (nI i))] [] S := by
  have h8 := g.2.1
  intro k
  induction k with
  | zero =>
    intro i a hi h1
    have hge : S 25 8 ≤ nI i := by rw [R.rm, g.1]; exact nI_le (by omega) (by omega)
    skip
    repeat' (first | (refine Rules.st H okX5_linenLeft [4] ?_; (conv => whnf); try (show T _ _ _ [_, _, _] _ _)) | refine br_t (by first | decide | assumption) ?_ | refine br_f (by first | decide | assumption) ?_ | refine br_c (fun _ => ?_) (fun _ => ?_) | refine ⟨by decide, ?_⟩ | refine ⟨by first | assumption | (unfold vp_in; decide) | ((with_reducible (refine vp_in_nI ?_ ?_)) <;> omega), ?_⟩ | fail)
    exact h1
  | succ k ih =>
    intro i a hi h1
    have hge : ¬ S 25 8 ≤ nI i := by rw [R.rm, g.1]; exact nI_ge (by omega) (by omega)
    have e29 : S 29 (nI i).toNatClampNeg = bt (K 0 1) i := by rw [nIc (by omega)]; exact R.de (by omega)
    unfold lensK at h1
    by_cases q : bt (K 0 1) i = 0
    · have q2 : S 29 (nI i).toNatClampNeg = 0 := e29.trans q
      rw [if_pos q] at h1
      skip
      repeat' (first | (refine Rules.st H okX5_linenLeft [4] ?_; (conv => whnf); try (show T _ _ _ [_, _, _] _ _)) | refine br_t (by first | decide | assumption) ?_ | refine br_f (by first | decide | assumption) ?_ | refine br_c (fun _ => ?_) (fun _ => ?_) | refine ⟨by decide, ?_⟩ | refine ⟨by first | assumption | (unfold vp_in; decide) | ((with_reducible (refine vp_in_nI ?_ ?_)) <;> omega), ?_⟩ | fail)
      refine X5_linen H R (by omega) ?_
      repeat' (first | (refine Rules.st H okX5_linenLeft [4] ?_; (conv => whnf); try (show T _ _ _ [_, _, _] _ _)) | refine br_t (by first | decide | assumption) ?_ | refine br_f (by first | decide | assumption) ?_ | refine br_c (fun _ => ?_) (fun _ => ?_) | refine ⟨by decide, ?_⟩ | refine ⟨by first | assumption | (unfold vp_in; decide) | ((with_reducible (refine vp_in_nI ?_ ?_)) <;> omega), ?_⟩ | fail)
      refine Halt.mk ?_
      rw [nI_1]
      exact ih (i + 1) _ (by omega) h1
    · have q2 : ¬ S 29 (nI i).toNatClampNeg = 0 := fun z => q (e29.symm.trans z)
      rw [if_neg q] at h1
      skip
      repeat' (first | (refine Rules.st H okX5_linenLeft [4] ?_; (conv => whnf); try (show T _ _ _ [_, _, _] _ _)) | refine br_t (by first | decide | assumption) ?_ | refine br_f (by first | decide | assumption) ?_ | refine br_c (fun _ => ?_) (fun _ => ?_) | refine ⟨by decide, ?_⟩ | refine ⟨by first | assumption | (unfold vp_in; decide) | ((with_reducible (refine vp_in_nI ?_ ?_)) <;> omega), ?_⟩ | fail)
      refine Halt.mk ?_
      rw [nI_1, Int32.add_zero]
      exact ih (i + 1) _ (by omega) h1
set_option maxRecDepth 100000 in
theorem X5_dearest (H : Rules C T) {S K : Mem} {n : Nat} (X : XM S K n) {b : Int} (B : BK b K) {w : Int32} {Q : Pst} (h1 : AnsM S (F_dearest K n w) Q) : C mX5_dearest [.ref 25, .int w] S Q := by
  obtain ⟨⟨d, R⟩, g, hz⟩ := X
  have h8 := g.2.1
  unfold F_dearest at h1
  have d1 : ∀ {Q : Pst}, Q (some (.int (mostK K n 0 (-9) 0))) S → C mX5_dearestNow [.ref 25] S Q := fun {Q} h => by
    refine Rules.go H (by decide) (Nat.le_of_ble_eq_true rfl) ?_
    repeat' (first | (refine Rules.st H okX5_dearestNow [5] ?_; (conv => whnf); try (show T _ _ _ [_, _, _] _ _)) | refine br_t (by first | decide | assumption) ?_ | refine br_f (by first | decide | assumption) ?_ | refine br_c (fun _ => ?_) (fun _ => ?_) | refine ⟨by decide, ?_⟩ | refine ⟨by first | assumption | (unfold vp_in; decide) | ((with_reducible (refine vp_in_nI ?_ ?_)) <;> omega), ?_⟩ | fail)
    exact Halt.mk (X5_dearestNow_l H R g B n 0 _ 0 (by omega) (Or.inl ⟨rfl, rfl⟩) h)
  have d2 : ∀ {Q : Pst}, Q (some (.int (outsK K (K 5 0) n 0 0))) S → C mX5_outNow [.ref 25] S Q := fun {Q} h => by
    refine Rules.go H (by decide) (Nat.le_of_ble_eq_true rfl) ?_
    repeat' (first | (refine Rules.st H okX5_outNow [4] ?_; (conv => whnf); try (show T _ _ _ [_, _, _] _ _)) | refine br_t (by first | decide | assumption) ?_ | refine br_f (by first | decide | assumption) ?_ | refine br_c (fun _ => ?_) (fun _ => ?_) | refine ⟨by decide, ?_⟩ | refine ⟨by first | assumption | (unfold vp_in; decide) | ((with_reducible (refine vp_in_nI ?_ ?_)) <;> omega), ?_⟩ | fail)
    exact Halt.mk (X5_outNow_l H R g n 0 _ (by omega) h)
  have d3 : ∀ {Q : Pst}, Q (some (.int (lensK K n 0 0))) S → C mX5_linenLeft [.ref 25] S Q := fun {Q} h => by
    refine Rules.go H (by decide) (Nat.le_of_ble_eq_true rfl) ?_
    repeat' (first | (refine Rules.st H okX5_linenLeft [4] ?_; (conv => whnf); try (show T _ _ _ [_, _, _] _ _)) | refine br_t (by first | decide | assumption) ?_ | refine br_f (by first | decide | assumption) ?_ | refine br_c (fun _ => ?_) (fun _ => ?_) | refine ⟨by decide, ?_⟩ | refine ⟨by first | assumption | (unfold vp_in; decide) | ((with_reducible (refine vp_in_nI ?_ ?_)) <;> omega), ?_⟩ | fail)
    exact Halt.mk (X5_linenLeft_l H R g n 0 _ (by omega) h)
  refine Rules.go H (by decide) (Nat.le_of_ble_eq_true rfl) ?_
  repeat' (first | (refine Rules.st H okX5_dearest [] ?_; (conv => whnf); try (show T _ _ _ [_, _] _ _)) | refine br_t (by first | decide | assumption) ?_ | refine br_f (by first | decide | assumption) ?_ | refine br_c (fun _ => ?_) (fun _ => ?_) | refine ⟨by decide, ?_⟩ | refine ⟨by first | assumption | (unfold vp_in; decide) | ((with_reducible (refine vp_in_nI ?_ ?_)) <;> omega), ?_⟩ | fail)
  · rw [if_pos (by assumption)] at h1
    refine d1 ?_
    repeat' (first | (refine Rules.st H okX5_dearest [] ?_; (conv => whnf); try (show T _ _ _ [_, _] _ _)) | refine br_t (by first | decide | assumption) ?_ | refine br_f (by first | decide | assumption) ?_ | refine br_c (fun _ => ?_) (fun _ => ?_) | refine ⟨by decide, ?_⟩ | refine ⟨by first | assumption | (unfold vp_in; decide) | ((with_reducible (refine vp_in_nI ?_ ?_)) <;> omega), ?_⟩ | fail)
    exact h1 S ScM.rf
  · rw [if_neg (by assumption), if_pos (by assumption)] at h1
    refine d2 ?_
    repeat' (first | (refine Rules.st H okX5_dearest [] ?_; (conv => whnf); try (show T _ _ _ [_, _] _ _)) | refine br_t (by first | decide | assumption) ?_ | refine br_f (by first | decide | assumption) ?_ | refine br_c (fun _ => ?_) (fun _ => ?_) | refine ⟨by decide, ?_⟩ | refine ⟨by first | assumption | (unfold vp_in; decide) | ((with_reducible (refine vp_in_nI ?_ ?_)) <;> omega), ?_⟩ | fail)
    exact h1 S ScM.rf
  · rw [if_neg (by assumption), if_neg (by assumption), if_pos (by assumption)] at h1
    refine d3 ?_
    repeat' (first | (refine Rules.st H okX5_dearest [] ?_; (conv => whnf); try (show T _ _ _ [_, _] _ _)) | refine br_t (by first | decide | assumption) ?_ | refine br_f (by first | decide | assumption) ?_ | refine br_c (fun _ => ?_) (fun _ => ?_) | refine ⟨by decide, ?_⟩ | refine ⟨by first | assumption | (unfold vp_in; decide) | ((with_reducible (refine vp_in_nI ?_ ?_)) <;> omega), ?_⟩ | fail)
    exact h1 S ScM.rf
  · rw [if_neg (by assumption), if_neg (by assumption), if_neg (by assumption)] at h1
    refine X5_no H ScM.rf (k := 2) (by omega) (by omega) (by decide) (fun S' hS' => ?_)
    repeat' (first | (refine Rules.st H okX5_dearest [] ?_; (conv => whnf); try (show T _ _ _ [_, _] _ _)) | refine br_t (by first | decide | assumption) ?_ | refine br_f (by first | decide | assumption) ?_ | refine br_c (fun _ => ?_) (fun _ => ?_) | refine ⟨by decide, ?_⟩ | refine ⟨by first | assumption | (unfold vp_in; decide) | ((with_reducible (refine vp_in_nI ?_ ?_)) <;> omega), ?_⟩ | fail)
    exact h1 S' hS'
set_option maxRecDepth 100000 in
theorem X5_isToldSo_l (H : Rules C T) {q : Nat} (hq : q ≤ 8) {row : Nat → Int32} {S : Mem} (h6 : S 25 25 = nI (2 * q)) (hrow : ∀ j, j < 16 → S 39 j = row j) {kd f : Int32} {Q : Pst} : ∀ (k i : Nat), i + 2 * k = 2 * q → (soK row kd f k i = true → Q (some (.int 1)) S) → (soK row kd f k i = false → Q (some (.int 0)) S) → T mX5_isToldSo Q 2 [some (.ref 25), some (.int kd), some (.int f), some (.int (nI i))] [] S := by
  intro k
  induction k with
  | zero =>
    intro i hi h1 h0
    have hge : S 25 25 ≤ nI i := by rw [h6]; exact nI_le (by omega) (by omega)
    skip
    repeat' (first | (refine Rules.st H okX5_isToldSo [2] ?_; (conv => whnf); try (show T _ _ _ [_, _, _, _] _ _)) | refine br_t (by first | decide | assumption) ?_ | refine br_f (by first | decide | assumption) ?_ | refine br_c (fun _ => ?_) (fun _ => ?_) | refine ⟨by decide, ?_⟩ | refine ⟨by first | assumption | (unfold vp_in; decide) | ((with_reducible (refine vp_in_nI ?_ ?_)) <;> omega), ?_⟩ | fail)
    exact h1 rfl
  | succ k ih =>
    intro i hi h1 h0
    have hge : ¬ S 25 25 ≤ nI i := by rw [h6]; exact nI_ge (by omega) (by omega)
    have v1 : vp_in (nI i + 1) 16 := by rw [nI_1]; exact vp_in_nI (by omega) (by omega)
    have e1 : S 39 (nI i).toNatClampNeg = row i := by rw [nIc (by omega)]; exact hrow i (by omega)
    have e2 : S 39 (nI i + 1).toNatClampNeg = row (i + 1) := by rw [nI_1, nIc (by omega)]; exact hrow (i + 1) (by omega)
    have nx : (outB kd f (row i) = decide (¬ row (i + 1) = 0)) → T mX5_isToldSo Q 2 [some (.ref 25), some (.int kd), some (.int f), some (.int (nI i + 2))] [] S := fun z => by
      rw [show nI i + 2 = nI (i + 2) from nI_add i 2]
      exact ih (i + 2) (by omega) (fun y => h1 (by unfold soK; rw [if_pos z]; exact y)) (fun y => h0 (by unfold soK; rw [if_pos z]; exact y))
    have no : ¬ (outB kd f (row i) = decide (¬ row (i + 1) = 0)) → Q (some (.int 0)) S := fun z => h0 (by unfold soK; rw [if_neg z])
    skip
    repeat' (first | (refine Rules.st H okX5_isToldSo [2] ?_; (conv => whnf); try (show T _ _ _ [_, _, _, _] _ _)) | refine br_t (by first | decide | assumption) ?_ | refine br_f (by first | decide | assumption) ?_ | refine br_c (fun _ => ?_) (fun _ => ?_) | refine ⟨by decide, ?_⟩ | refine ⟨by first | assumption | (unfold vp_in; decide) | ((with_reducible (refine vp_in_nI ?_ ?_)) <;> omega), ?_⟩ | fail)
    rw [e1]
    refine X5_isOutBy H (fun g => ?_) (fun g => ?_)
    · rw [g] at nx no
      by_cases r0 : row (i + 1) = 0
      · have r1 : S 39 (nI i + 1).toNatClampNeg = 0 := e2.trans r0
        repeat' (first | (refine Rules.st H okX5_isToldSo [2] ?_; (conv => whnf); try (show T _ _ _ [_, _, _, _] _ _)) | refine br_t (by first | decide | assumption) ?_ | refine br_f (by first | decide | assumption) ?_ | refine br_c (fun _ => ?_) (fun _ => ?_) | refine ⟨by decide, ?_⟩ | refine ⟨by first | assumption | (unfold vp_in; decide) | ((with_reducible (refine vp_in_nI ?_ ?_)) <;> omega), ?_⟩ | fail)
        exact no (by rw [decide_eq_false (fun z => z r0)]; decide)
      · have r1 : ¬ S 39 (nI i + 1).toNatClampNeg = 0 := fun z => r0 (e2.symm.trans z)
        repeat' (first | (refine Rules.st H okX5_isToldSo [2] ?_; (conv => whnf); try (show T _ _ _ [_, _, _, _] _ _)) | refine br_t (by first | decide | assumption) ?_ | refine br_f (by first | decide | assumption) ?_ | refine br_c (fun _ => ?_) (fun _ => ?_) | refine ⟨by decide, ?_⟩ | refine ⟨by first | assumption | (unfold vp_in; decide) | ((with_reducible (refine vp_in_nI ?_ ?_)) <;> omega), ?_⟩ | fail)
        exact Halt.mk (nx (by rw [decide_eq_true r0]))
    · rw [g] at nx no
      by_cases r0 : row (i + 1) = 0
      · have r1 : S 39 (nI i + 1).toNatClampNeg = 0 := e2.trans r0
        repeat' (first | (refine Rules.st H okX5_isToldSo [2] ?_; (conv => whnf); try (show T _ _ _ [_, _, _, _] _ _)) | refine br_t (by first | decide | assumption) ?_ | refine br_f (by first | decide | assumption) ?_ | refine br_c (fun _ => ?_) (fun _ => ?_) | refine ⟨by decide, ?_⟩ | refine ⟨by first | assumption | (unfold vp_in; decide) | ((with_reducible (refine vp_in_nI ?_ ?_)) <;> omega), ?_⟩ | fail)
        exact Halt.mk (nx (by rw [decide_eq_false (fun z => z r0)]))
      · have r1 : ¬ S 39 (nI i + 1).toNatClampNeg = 0 := fun z => r0 (e2.symm.trans z)
        repeat' (first | (refine Rules.st H okX5_isToldSo [2] ?_; (conv => whnf); try (show T _ _ _ [_, _, _, _] _ _)) | refine br_t (by first | decide | assumption) ?_ | refine br_f (by first | decide | assumption) ?_ | refine br_c (fun _ => ?_) (fun _ => ?_) | refine ⟨by decide, ?_⟩ | refine ⟨by first | assumption | (unfold vp_in; decide) | ((with_reducible (refine vp_in_nI ?_ ?_)) <;> omega), ?_⟩ | fail)
        exact no (by rw [decide_eq_true r0]; decide)
set_option maxRecDepth 100000 in
theorem X5_isToldSo (H : Rules C T) {q : Nat} (hq : q ≤ 8) {row : Nat → Int32} {S : Mem} (h6 : S 25 25 = nI (2 * q)) (hrow : ∀ j, j < 16 → S 39 j = row j) {kd f : Int32} {Q : Pst} (h1 : soK row kd f q 0 = true → Q (some (.int 1)) S) (h0 : soK row kd f q 0 = false → Q (some (.int 0)) S) : C mX5_isToldSo [.ref 25, .int kd, .int f] S Q := by
  refine Rules.go H (by decide) (Nat.le_of_ble_eq_true rfl) ?_
  repeat' (first | (refine Rules.st H okX5_isToldSo [2] ?_; (conv => whnf); try (show T _ _ _ [_, _, _, _] _ _)) | refine br_t (by first | decide | assumption) ?_ | refine br_f (by first | decide | assumption) ?_ | refine br_c (fun _ => ?_) (fun _ => ?_) | refine ⟨by decide, ?_⟩ | refine ⟨by first | assumption | (unfold vp_in; decide) | ((with_reducible (refine vp_in_nI ?_ ?_)) <;> omega), ?_⟩ | fail)
  exact Halt.mk (X5_isToldSo_l H hq h6 hrow q 0 (by omega) h1 h0)
set_option maxRecDepth 100000 in
theorem irm1 : ∀ q, q ≤ 16 → (irm (nI q) 2 = 1 ↔ q % 2 = 1) := by decide +kernel
set_option maxRecDepth 100000 in
theorem X5_whatIs_0 (H : Rules C T) {S K : Mem} {d : Int32} {n q r : Nat} {row : Nat → Int32} (R : RepM S K d) (hr : r < 8) (hq : q ≤ 8) (h6 : S 25 25 = nI (2 * q)) (hrow : ∀ j, j < 16 → S 39 j = row j) {Q : Pst} : ∀ (k i : Nat) (a : Int32) (y : Option Value), i + k = 7 → Q (some (.int (kindsK row q (K 2 r) k i a))) S → T mX5_whatIs Q 59 [some (.ref 25), some (.int (nI r)), some (.int 0), some (.int 0), some (.int a), some (.int (nI i)), y] [] S := by
  have e28 : S 28 (nI r).toNatClampNeg = K 2 r := by rw [nIc (by omega)]; exact R.fg hr
  intro k
  induction k with
  | zero =>
    intro i a y hi h1
    have hge : 7 ≤ nI i := nI_le (a := 7) (by omega) (by omega)
    skip
    repeat' (first | (refine Rules.st H okX5_whatIs [59] ?_; (conv => whnf); try (show T _ _ _ [_, _, _, _, _, _, _] _ _)) | refine br_t (by first | decide | assumption) ?_ | refine br_f (by first | decide | assumption) ?_ | refine br_c (fun _ => ?_) (fun _ => ?_) | refine ⟨by decide, ?_⟩ | refine ⟨by first | assumption | (unfold vp_in; decide) | ((with_reducible (refine vp_in_nI ?_ ?_)) <;> omega), ?_⟩ | fail)
    exact h1
  | succ k ih =>
    intro i a y hi h1
    have hge : ¬ 7 ≤ nI i := nI_ge (b := 7) (by omega) (by omega)
    unfold kindsK at h1
    skip
    repeat' (first | (refine Rules.st H okX5_whatIs [59] ?_; (conv => whnf); try (show T _ _ _ [_, _, _, _, _, _, _] _ _)) | refine br_t (by first | decide | assumption) ?_ | refine br_f (by first | decide | assumption) ?_ | refine br_c (fun _ => ?_) (fun _ => ?_) | refine ⟨by decide, ?_⟩ | refine ⟨by first | assumption | (unfold vp_in; decide) | ((with_reducible (refine vp_in_nI ?_ ?_)) <;> omega), ?_⟩ | fail)
    rw [e28]
    refine X5_isToldSo H hq h6 hrow (fun g => ?_) (fun g => ?_)
    · rw [if_pos g] at h1
      repeat' (first | (refine Rules.st H okX5_whatIs [59] ?_; (conv => whnf); try (show T _ _ _ [_, _, _, _, _, _, _] _ _)) | refine br_t (by first | decide | assumption) ?_ | refine br_f (by first | decide | assumption) ?_ | refine br_c (fun _ => ?_) (fun _ => ?_) | refine ⟨by decide, ?_⟩ | refine ⟨by first | assumption | (unfold vp_in; decide) | ((with_reducible (refine vp_in_nI ?_ ?_)) <;> omega), ?_⟩ | fail)
      refine Halt.mk ?_
      rw [nI_1]
      exact ih (i + 1) _ _ (by omega) h1
    · rw [if_neg (by rw [g]; decide)] at h1
      repeat' (first | (refine Rules.st H okX5_whatIs [59] ?_; (conv => whnf); try (show T _ _ _ [_, _, _, _, _, _, _] _ _)) | refine br_t (by first | decide | assumption) ?_ | refine br_f (by first | decide | assumption) ?_ | refine br_c (fun _ => ?_) (fun _ => ?_) | refine ⟨by decide, ?_⟩ | refine ⟨by first | assumption | (unfold vp_in; decide) | ((with_reducible (refine vp_in_nI ?_ ?_)) <;> omega), ?_⟩ | fail)
      refine Halt.mk ?_
      rw [nI_1, Int32.or_zero]
      exact ih (i + 1) _ _ (by omega) h1
set_option maxRecDepth 100000 in
theorem X5_whatIs_1 (H : Rules C T) {S K : Mem} {d : Int32} {n q r : Nat} {row : Nat → Int32} (R : RepM S K d) (hr : r < 8) (hq : q ≤ 8) (h6 : S 25 25 = nI (2 * q)) (hrow : ∀ j, j < 16 → S 39 j = row j) {w : Int32} (hw : ¬ w = 0) {Q : Pst} : ∀ (k i : Nat) (a : Int32) (y : Option Value), i + k = 10 → Q (some (.int (figsK row q (K 1 r) k i a))) S → T mX5_whatIs Q 59 [some (.ref 25), some (.int (nI r)), some (.int w), some (.int 0), some (.int a), some (.int (nI i)), y] [] S := by
  have e27 : S 27 (nI r).toNatClampNeg = K 1 r := by rw [nIc (by omega)]; exact R.kd hr
  intro k
  induction k with
  | zero =>
    intro i a y hi h1
    have hge : 10 ≤ nI i := nI_le (a := 10) (by omega) (by omega)
    skip
    repeat' (first | (refine Rules.st H okX5_whatIs [59] ?_; (conv => whnf); try (show T _ _ _ [_, _, _, _, _, _, _] _ _)) | refine br_t (by first | decide | assumption) ?_ | refine br_f (by first | decide | assumption) ?_ | refine br_c (fun _ => ?_) (fun _ => ?_) | refine ⟨by decide, ?_⟩ | refine ⟨by first | assumption | (unfold vp_in; decide) | ((with_reducible (refine vp_in_nI ?_ ?_)) <;> omega), ?_⟩ | fail)
    exact h1
  | succ k ih =>
    intro i a y hi h1
    have hge : ¬ 10 ≤ nI i := nI_ge (b := 10) (by omega) (by omega)
    unfold figsK at h1
    skip
    repeat' (first | (refine Rules.st H okX5_whatIs [59] ?_; (conv => whnf); try (show T _ _ _ [_, _, _, _, _, _, _] _ _)) | refine br_t (by first | decide | assumption) ?_ | refine br_f (by first | decide | assumption) ?_ | refine br_c (fun _ => ?_) (fun _ => ?_) | refine ⟨by decide, ?_⟩ | refine ⟨by first | assumption | (unfold vp_in; decide) | ((with_reducible (refine vp_in_nI ?_ ?_)) <;> omega), ?_⟩ | fail)
    rw [e27]
    refine X5_isToldSo H hq h6 hrow (fun g => ?_) (fun g => ?_)
    · rw [if_pos g] at h1
      repeat' (first | (refine Rules.st H okX5_whatIs [59] ?_; (conv => whnf); try (show T _ _ _ [_, _, _, _, _, _, _] _ _)) | refine br_t (by first | decide | assumption) ?_ | refine br_f (by first | decide | assumption) ?_ | refine br_c (fun _ => ?_) (fun _ => ?_) | refine ⟨by decide, ?_⟩ | refine ⟨by first | assumption | (unfold vp_in; decide) | ((with_reducible (refine vp_in_nI ?_ ?_)) <;> omega), ?_⟩ | fail)
      refine Halt.mk ?_
      rw [nI_1]
      exact ih (i + 1) _ _ (by omega) h1
    · rw [if_neg (by rw [g]; decide)] at h1
      repeat' (first | (refine Rules.st H okX5_whatIs [59] ?_; (conv => whnf); try (show T _ _ _ [_, _, _, _, _, _, _] _ _)) | refine br_t (by first | decide | assumption) ?_ | refine br_f (by first | decide | assumption) ?_ | refine br_c (fun _ => ?_) (fun _ => ?_) | refine ⟨by decide, ?_⟩ | refine ⟨by first | assumption | (unfold vp_in; decide) | ((with_reducible (refine vp_in_nI ?_ ?_)) <;> omega), ?_⟩ | fail)
      refine Halt.mk ?_
      rw [nI_1, Int32.or_zero]
      exact ih (i + 1) _ _ (by omega) h1
set_option maxRecDepth 100000 in
theorem X5_whatIs (H : Rules C T) {S K : Mem} {n q : Nat} {row : Nat → Int32} (X : XM S K n) (XQ : XRM S row q) {r w : Int32} {Q : Pst} (h1 : AnsM S (F_whatIs K n row q r w) Q) : C mX5_whatIs [.ref 25, .int r, .int w] S Q := by
  obtain ⟨⟨d, R⟩, g, hz⟩ := X
  obtain ⟨h6, hq, hrow⟩ := XQ
  have hn8 := g.2.1
  unfold F_whatIs at h1
  refine Rules.go H (by decide) (Nat.le_of_ble_eq_true rfl) ?_
  repeat' (first | (refine Rules.st H okX5_whatIs [59] ?_; (conv => whnf); try (show T _ _ _ [_, _, _, _, _, _, _] _ _)) | refine br_t (by first | decide | assumption) ?_ | refine br_f (by first | decide | assumption) ?_ | refine br_c (fun _ => ?_) (fun _ => ?_) | refine ⟨by decide, ?_⟩ | refine ⟨by first | assumption | (unfold vp_in; decide) | ((with_reducible (refine vp_in_nI ?_ ?_)) <;> omega), ?_⟩ | fail)
  refine X5_isRoom H (R.rm.trans g.1) hn8 (fun j hj e => ?_) (fun hno => ?_)
  · subst e
    rw [if_pos (okR_nI hn8 hj), show ix (nI j) = j from nIc (by omega)] at h1
    repeat' (first | (refine Rules.st H okX5_whatIs [59] ?_; (conv => whnf); try (show T _ _ _ [_, _, _, _, _, _, _] _ _)) | refine br_t (by first | decide | assumption) ?_ | refine br_f (by first | decide | assumption) ?_ | refine br_c (fun _ => ?_) (fun _ => ?_) | refine ⟨by decide, ?_⟩ | refine ⟨by first | assumption | (unfold vp_in; decide) | ((with_reducible (refine vp_in_nI ?_ ?_)) <;> omega), ?_⟩ | fail)
    refine X5_isIn H (fun q1 q2 => ?_) (fun q => ?_)
    · rw [if_neg (w2y q1 q2)] at h1
      by_cases he : q % 2 = 1
      · have hr : irm (S 25 25) 2 = 1 := by rw [h6]; exact (irm1 q hq).mpr he
        rw [if_pos he] at h1
        repeat' (first | (refine Rules.st H okX5_whatIs [59] ?_; (conv => whnf); try (show T _ _ _ [_, _, _, _, _, _, _] _ _)) | refine br_t (by first | decide | assumption) ?_ | refine br_f (by first | decide | assumption) ?_ | refine br_c (fun _ => ?_) (fun _ => ?_) | refine ⟨by decide, ?_⟩ | refine ⟨by first | assumption | (unfold vp_in; decide) | ((with_reducible (refine vp_in_nI ?_ ?_)) <;> omega), ?_⟩ | fail)
        refine X5_no H ScM.rf (k := 3) (by omega) (by omega) (by decide) (fun S' hS' => ?_)
        repeat' (first | (refine Rules.st H okX5_whatIs [59] ?_; (conv => whnf); try (show T _ _ _ [_, _, _, _, _, _, _] _ _)) | refine br_t (by first | decide | assumption) ?_ | refine br_f (by first | decide | assumption) ?_ | refine br_c (fun _ => ?_) (fun _ => ?_) | refine ⟨by decide, ?_⟩ | refine ⟨by first | assumption | (unfold vp_in; decide) | ((with_reducible (refine vp_in_nI ?_ ?_)) <;> omega), ?_⟩ | fail)
        exact h1 S' hS'
      · have hr : ¬ irm (S 25 25) 2 = 1 := by rw [h6]; exact fun z => he ((irm1 q hq).mp z)
        have h6' : S 25 25 = nI (2 * (q / 2)) := by rw [h6]; congr 1; omega
        rw [if_neg he] at h1
        have h1 := h1 S ScM.rf
        repeat' (first | (refine Rules.st H okX5_whatIs [59] ?_; (conv => whnf); try (show T _ _ _ [_, _, _, _, _, _, _] _ _)) | refine br_t (by first | decide | assumption) ?_ | refine br_f (by first | decide | assumption) ?_ | refine br_c (fun _ => ?_) (fun _ => ?_) | refine ⟨by decide, ?_⟩ | refine ⟨by first | assumption | (unfold vp_in; decide) | ((with_reducible (refine vp_in_nI ?_ ?_)) <;> omega), ?_⟩ | fail)
        refine Halt.mk ?_
        by_cases hw : w = 0
        · subst hw
          exact X5_whatIs_0 H (n := n) R (by omega) (by omega) h6' hrow 7 0 0 _ (by omega) h1
        · rw [if_neg hw] at h1
          exact X5_whatIs_1 H (n := n) R (by omega) (by omega) h6' hrow hw 10 0 0 _ (by omega) h1
    · rw [if_pos (w2n q)] at h1
      repeat' (first | (refine Rules.st H okX5_whatIs [59] ?_; (conv => whnf); try (show T _ _ _ [_, _, _, _, _, _, _] _ _)) | refine br_t (by first | decide | assumption) ?_ | refine br_f (by first | decide | assumption) ?_ | refine br_c (fun _ => ?_) (fun _ => ?_) | refine ⟨by decide, ?_⟩ | refine ⟨by first | assumption | (unfold vp_in; decide) | ((with_reducible (refine vp_in_nI ?_ ?_)) <;> omega), ?_⟩ | fail)
      refine X5_no H ScM.rf (k := 2) (by omega) (by omega) (by decide) (fun S' hS' => ?_)
      repeat' (first | (refine Rules.st H okX5_whatIs [59] ?_; (conv => whnf); try (show T _ _ _ [_, _, _, _, _, _, _] _ _)) | refine br_t (by first | decide | assumption) ?_ | refine br_f (by first | decide | assumption) ?_ | refine br_c (fun _ => ?_) (fun _ => ?_) | refine ⟨by decide, ?_⟩ | refine ⟨by first | assumption | (unfold vp_in; decide) | ((with_reducible (refine vp_in_nI ?_ ?_)) <;> omega), ?_⟩ | fail)
      exact h1 S' hS'
  · rw [if_neg (okR_neg hn8 hno)] at h1
    repeat' (first | (refine Rules.st H okX5_whatIs [59] ?_; (conv => whnf); try (show T _ _ _ [_, _, _, _, _, _, _] _ _)) | refine br_t (by first | decide | assumption) ?_ | refine br_f (by first | decide | assumption) ?_ | refine br_c (fun _ => ?_) (fun _ => ?_) | refine ⟨by decide, ?_⟩ | refine ⟨by first | assumption | (unfold vp_in; decide) | ((with_reducible (refine vp_in_nI ?_ ?_)) <;> omega), ?_⟩ | fail)
    refine X5_no H ScM.rf (k := 1) (by omega) (by omega) (by decide) (fun S' hS' => ?_)
    repeat' (first | (refine Rules.st H okX5_whatIs [59] ?_; (conv => whnf); try (show T _ _ _ [_, _, _, _, _, _, _] _ _)) | refine br_t (by first | decide | assumption) ?_ | refine br_f (by first | decide | assumption) ?_ | refine br_c (fun _ => ?_) (fun _ => ?_) | refine ⟨by decide, ?_⟩ | refine ⟨by first | assumption | (unfold vp_in; decide) | ((with_reducible (refine vp_in_nI ?_ ?_)) <;> omega), ?_⟩ | fail)
    exact h1 S' hS'
end M30
