section M21
variable {C : Cst} {T : Nat → Pst → Nat → Lcs → List Value → Mem → Prop}
set_option maxRecDepth 100000 in
theorem w3 {w : Int32} (h0 : 0 ≤ w) (h2 : w ≤ 2) : w = 0 ∨ w = 1 ∨ w = 2 := by
  obtain ⟨j, hj, e⟩ := w2 (Int32.not_lt.mpr h0) (Int32.not_lt.mpr h2)
  rcases (show j = 0 ∨ j = 1 ∨ j = 2 by omega) with rfl | rfl | rfl
  · exact Or.inl e
  · exact Or.inr (Or.inl e)
  · exact Or.inr (Or.inr e)
set_option maxRecDepth 100000 in
theorem w2n {w a : Int32} (q : ¬ (0 ≤ w ∧ w ≤ a)) : w < 0 ∨ a < w := by
  by_cases q1 : 0 ≤ w
  · exact Or.inr (Int32.not_le.mp (fun z => q ⟨q1, z⟩))
  · exact Or.inl (Int32.not_le.mp q1)
set_option maxRecDepth 100000 in
theorem w2y {w a : Int32} (q1 : 0 ≤ w) (q2 : w ≤ a) : ¬ (w < 0 ∨ a < w) := fun z => z.elim (Int32.not_lt.mpr q1) (Int32.not_lt.mpr q2)
set_option maxRecDepth 100000 in
theorem X5_bothLong (H : Rules C T) {S K : Mem} {n : Nat} (X : XM S K n) {r w : Int32} {Q : Pst} (h1 : AnsM S (F_bothLong K n r w) Q) : C mX5_bothLong [.ref 25, .int r, .int w] S Q := by
  obtain ⟨⟨d, R⟩, g, hz⟩ := X
  have hn8 := g.2.1
  have c0 : (0 : Int32).toNatClampNeg = 0 := rfl
  have c1 : (1 : Int32).toNatClampNeg = 1 := rfl
  unfold F_bothLong at h1
  refine Rules.go H (by decide) (Nat.le_of_ble_eq_true rfl) ?_
  repeat' (first | (refine Rules.st H okX5_bothLong [] ?_; (conv => whnf); try (show T _ _ _ [_, _, _, _, _, _, _] _ _)) | refine br_t (by first | decide | assumption) ?_ | refine br_f (by first | decide | assumption) ?_ | refine br_c (fun _ => ?_) (fun _ => ?_) | refine ⟨by decide, ?_⟩ | refine ⟨by first | assumption | (unfold vp_in; decide) | ((with_reducible (refine vp_in_nI ?_ ?_)) <;> omega), ?_⟩ | fail)
  refine X5_isRoom H (R.rm.trans g.1) hn8 (fun j hj e => ?_) (fun hno => ?_)
  · subst e
    rw [if_pos (okR_nI hn8 hj), show ix (nI j) = j from nIc (by omega)] at h1
    repeat' (first | (refine Rules.st H okX5_bothLong [] ?_; (conv => whnf); try (show T _ _ _ [_, _, _, _, _, _, _] _ _)) | refine br_t (by first | decide | assumption) ?_ | refine br_f (by first | decide | assumption) ?_ | refine br_c (fun _ => ?_) (fun _ => ?_) | refine ⟨by decide, ?_⟩ | refine ⟨by first | assumption | (unfold vp_in; decide) | ((with_reducible (refine vp_in_nI ?_ ?_)) <;> omega), ?_⟩ | fail)
    refine X5_isIn H (fun q1 q2 => ?_) (fun q => ?_)
    · rw [if_neg (w2y q1 q2)] at h1
      repeat' (first | (refine Rules.st H okX5_bothLong [] ?_; (conv => whnf); try (show T _ _ _ [_, _, _, _, _, _, _] _ _)) | refine br_t (by first | decide | assumption) ?_ | refine br_f (by first | decide | assumption) ?_ | refine br_c (fun _ => ?_) (fun _ => ?_) | refine ⟨by decide, ?_⟩ | refine ⟨by first | assumption | (unfold vp_in; decide) | ((with_reducible (refine vp_in_nI ?_ ?_)) <;> omega), ?_⟩ | fail)
      refine X5_minds H (fun S1 k1 f1 => ?_)
      have R1 := R.frP f1
      repeat' (first | (refine Rules.st H okX5_bothLong [] ?_; (conv => whnf); try (show T _ _ _ [_, _, _, _, _, _, _] _ _)) | refine br_t (by first | decide | assumption) ?_ | refine br_f (by first | decide | assumption) ?_ | refine br_c (fun _ => ?_) (fun _ => ?_) | refine ⟨by decide, ?_⟩ | refine ⟨by first | assumption | (unfold vp_in; decide) | ((with_reducible (refine vp_in_nI ?_ ?_)) <;> omega), ?_⟩ | fail)
      refine X5_visitBoth H R1 g hj (fun S2 R2 F2 => ?_)
      have a0 := R1.ck (m := 0) (by omega)
      have a1 := R1.ck (m := 1) (by omega)
      have b0 := R2.ck (m := 0) (by omega)
      have b1 := R2.ck (m := 1) (by omega)
      rw [← c0] at a0 b0
      rw [← c1] at a1 b1
      rw [a0, a1]
      repeat' (first | (refine Rules.st H okX5_bothLong [] ?_; (conv => whnf); try (show T _ _ _ [_, _, _, _, _, _, _] _ _)) | refine br_t (by first | decide | assumption) ?_ | refine br_f (by first | decide | assumption) ?_ | refine br_c (fun _ => ?_) (fun _ => ?_) | refine ⟨by decide, ?_⟩ | refine ⟨by first | assumption | (unfold vp_in; decide) | ((with_reducible (refine vp_in_nI ?_ ?_)) <;> omega), ?_⟩ | fail)
      rw [b0, b1]
      refine X5_forgets H (k1.fr F2) (fun S3 b1 b2 => ?_)
      have s3 : ScM 0 S S3 := back (by omega) f1 (ScMY.fr F2) (by rw [R2.st, R.st, bothK_s]) b1 b2
      have h1 := h1 S3 s3
      dsimp only at h1
      rcases w3 q1 q2 with rfl | rfl | rfl
      · repeat' (first | (refine Rules.st H okX5_bothLong [] ?_; (conv => whnf); try (show T _ _ _ [_, _, _, _, _, _, _] _ _)) | refine br_t (by first | decide | assumption) ?_ | refine br_f (by first | decide | assumption) ?_ | refine br_c (fun _ => ?_) (fun _ => ?_) | refine ⟨by decide, ?_⟩ | refine ⟨by first | assumption | (unfold vp_in; decide) | ((with_reducible (refine vp_in_nI ?_ ?_)) <;> omega), ?_⟩ | fail)
        exact h1
      · repeat' (first | (refine Rules.st H okX5_bothLong [] ?_; (conv => whnf); try (show T _ _ _ [_, _, _, _, _, _, _] _ _)) | refine br_t (by first | decide | assumption) ?_ | refine br_f (by first | decide | assumption) ?_ | refine br_c (fun _ => ?_) (fun _ => ?_) | refine ⟨by decide, ?_⟩ | refine ⟨by first | assumption | (unfold vp_in; decide) | ((with_reducible (refine vp_in_nI ?_ ?_)) <;> omega), ?_⟩ | fail)
        exact h1
      · repeat' (first | (refine Rules.st H okX5_bothLong [] ?_; (conv => whnf); try (show T _ _ _ [_, _, _, _, _, _, _] _ _)) | refine br_t (by first | decide | assumption) ?_ | refine br_f (by first | decide | assumption) ?_ | refine br_c (fun _ => ?_) (fun _ => ?_) | refine ⟨by decide, ?_⟩ | refine ⟨by first | assumption | (unfold vp_in; decide) | ((with_reducible (refine vp_in_nI ?_ ?_)) <;> omega), ?_⟩ | fail)
        exact h1
    · rw [if_pos (w2n q)] at h1
      repeat' (first | (refine Rules.st H okX5_bothLong [] ?_; (conv => whnf); try (show T _ _ _ [_, _, _, _, _, _, _] _ _)) | refine br_t (by first | decide | assumption) ?_ | refine br_f (by first | decide | assumption) ?_ | refine br_c (fun _ => ?_) (fun _ => ?_) | refine ⟨by decide, ?_⟩ | refine ⟨by first | assumption | (unfold vp_in; decide) | ((with_reducible (refine vp_in_nI ?_ ?_)) <;> omega), ?_⟩ | fail)
      refine X5_no H ScM.rf (k := 2) (by omega) (by omega) (by decide) (fun S' hS' => ?_)
      repeat' (first | (refine Rules.st H okX5_bothLong [] ?_; (conv => whnf); try (show T _ _ _ [_, _, _, _, _, _, _] _ _)) | refine br_t (by first | decide | assumption) ?_ | refine br_f (by first | decide | assumption) ?_ | refine br_c (fun _ => ?_) (fun _ => ?_) | refine ⟨by decide, ?_⟩ | refine ⟨by first | assumption | (unfold vp_in; decide) | ((with_reducible (refine vp_in_nI ?_ ?_)) <;> omega), ?_⟩ | fail)
      exact h1 S' hS'
  · rw [if_neg (okR_neg hn8 hno)] at h1
    repeat' (first | (refine Rules.st H okX5_bothLong [] ?_; (conv => whnf); try (show T _ _ _ [_, _, _, _, _, _, _] _ _)) | refine br_t (by first | decide | assumption) ?_ | refine br_f (by first | decide | assumption) ?_ | refine br_c (fun _ => ?_) (fun _ => ?_) | refine ⟨by decide, ?_⟩ | refine ⟨by first | assumption | (unfold vp_in; decide) | ((with_reducible (refine vp_in_nI ?_ ?_)) <;> omega), ?_⟩ | fail)
    refine X5_no H ScM.rf (k := 1) (by omega) (by omega) (by decide) (fun S' hS' => ?_)
    repeat' (first | (refine Rules.st H okX5_bothLong [] ?_; (conv => whnf); try (show T _ _ _ [_, _, _, _, _, _, _] _ _)) | refine br_t (by first | decide | assumption) ?_ | refine br_f (by first | decide | assumption) ?_ | refine br_c (fun _ => ?_) (fun _ => ?_) | refine ⟨by decide, ?_⟩ | refine ⟨by first | assumption | (unfold vp_in; decide) | ((with_reducible (refine vp_in_nI ?_ ?_)) <;> omega), ?_⟩ | fail)
    exact h1 S' hS'
set_option maxRecDepth 100000 in
theorem X5_count (H : Rules C T) {S K Sc : Mem} {n : Nat} (X : XM S K n) {row : Nat → Int32} {q l : Nat} (XQ : XRM S row q) (XL : XTM S l) (hc : ∀ j, 1 ≤ j → j ≤ 6 → S 26 j = Sc 22 j) {w : Int32} {Q : Pst} (h1 : Q (some (.int (F_count Sc K n q l w))) S) : C mX5_count [.ref 25, .int w] S Q := by
  obtain ⟨⟨d, R⟩, g, hz⟩ := X
  have hn8 := g.2.1
  obtain ⟨h6, hq, hrow⟩ := XQ
  obtain ⟨hl1, hl⟩ := XL
  unfold F_count at h1
  refine Rules.go H (by decide) (Nat.le_of_ble_eq_true rfl) ?_
  repeat' (first | (refine Rules.st H okX5_count [] ?_; (conv => whnf); try (show T _ _ _ [_, _] _ _)) | refine br_t (by first | decide | assumption) ?_ | refine br_f (by first | decide | assumption) ?_ | refine br_c (fun _ => ?_) (fun _ => ?_) | refine ⟨by decide, ?_⟩ | refine ⟨by first | assumption | (unfold vp_in; decide) | ((with_reducible (refine vp_in_nI ?_ ?_)) <;> omega), ?_⟩ | fail)
  refine X5_isIn H (fun q1 q2 => ?_) (fun q => ?_)
  · rw [if_pos ⟨q1, q2⟩] at h1
    rcases w11 ⟨q1, q2⟩ with rfl | rfl | rfl | rfl | rfl | rfl
    all_goals
      rw [← hc _ (by decide) (by decide)] at h1
      repeat' (first | (refine Rules.st H okX5_count [] ?_; (conv => whnf); try (show T _ _ _ [_, _] _ _)) | refine br_t (by first | decide | assumption) ?_ | refine br_f (by first | decide | assumption) ?_ | refine br_c (fun _ => ?_) (fun _ => ?_) | refine ⟨by decide, ?_⟩ | refine ⟨by first | assumption | (unfold vp_in; decide) | ((with_reducible (refine vp_in_nI ?_ ?_)) <;> omega), ?_⟩ | fail)
      exact h1
  · rw [if_neg q] at h1
    repeat' (first | (refine Rules.st H okX5_count [] ?_; (conv => whnf); try (show T _ _ _ [_, _] _ _)) | refine br_t (by first | decide | assumption) ?_ | refine br_f (by first | decide | assumption) ?_ | refine br_c (fun _ => ?_) (fun _ => ?_) | refine ⟨by decide, ?_⟩ | refine ⟨by first | assumption | (unfold vp_in; decide) | ((with_reducible (refine vp_in_nI ?_ ?_)) <;> omega), ?_⟩ | fail)
    · rw [if_pos (by assumption)] at h1
      rw [R.rm, g.1]
      exact h1
    · rw [if_neg (by assumption), if_pos (by assumption)] at h1
      refine X5_setOf H (f := 1) (Or.inl rfl) R g ?_
      repeat' (first | (refine Rules.st H okX5_count [] ?_; (conv => whnf); try (show T _ _ _ [_, _] _ _)) | refine br_t (by first | decide | assumption) ?_ | refine br_f (by first | decide | assumption) ?_ | refine br_c (fun _ => ?_) (fun _ => ?_) | refine ⟨by decide, ?_⟩ | refine ⟨by first | assumption | (unfold vp_in; decide) | ((with_reducible (refine vp_in_nI ?_ ?_)) <;> omega), ?_⟩ | fail)
      exact h1
    · rw [if_neg (by assumption), if_neg (by assumption), if_pos (by assumption)] at h1
      refine X5_setOf H (f := 2) (Or.inr rfl) R g ?_
      repeat' (first | (refine Rules.st H okX5_count [] ?_; (conv => whnf); try (show T _ _ _ [_, _] _ _)) | refine br_t (by first | decide | assumption) ?_ | refine br_f (by first | decide | assumption) ?_ | refine br_c (fun _ => ?_) (fun _ => ?_) | refine ⟨by decide, ?_⟩ | refine ⟨by first | assumption | (unfold vp_in; decide) | ((with_reducible (refine vp_in_nI ?_ ?_)) <;> omega), ?_⟩ | fail)
      exact h1
    · rw [if_neg (by assumption), if_neg (by assumption), if_neg (by assumption), if_pos (by assumption)] at h1
      refine X5_manyDone H R g ?_
      repeat' (first | (refine Rules.st H okX5_count [] ?_; (conv => whnf); try (show T _ _ _ [_, _] _ _)) | refine br_t (by first | decide | assumption) ?_ | refine br_f (by first | decide | assumption) ?_ | refine br_c (fun _ => ?_) (fun _ => ?_) | refine ⟨by decide, ?_⟩ | refine ⟨by first | assumption | (unfold vp_in; decide) | ((with_reducible (refine vp_in_nI ?_ ?_)) <;> omega), ?_⟩ | fail)
      exact h1
    · rw [if_neg (by assumption), if_neg (by assumption), if_neg (by assumption), if_neg (by assumption), if_pos (by assumption)] at h1
      refine X5_later H R ?_
      repeat' (first | (refine Rules.st H okX5_count [] ?_; (conv => whnf); try (show T _ _ _ [_, _] _ _)) | refine br_t (by first | decide | assumption) ?_ | refine br_f (by first | decide | assumption) ?_ | refine br_c (fun _ => ?_) (fun _ => ?_) | refine ⟨by decide, ?_⟩ | refine ⟨by first | assumption | (unfold vp_in; decide) | ((with_reducible (refine vp_in_nI ?_ ?_)) <;> omega), ?_⟩ | fail)
      exact h1
    · rw [if_neg (by assumption), if_neg (by assumption), if_neg (by assumption), if_neg (by assumption), if_neg (by assumption), if_pos (by assumption)] at h1
      rw [show (0 : Int32).toNatClampNeg = 0 from rfl, show (1 : Int32).toNatClampNeg = 1 from rfl, R.ld (m := 0) (by omega), R.ld (m := 1) (by omega)]
      exact h1
    · rw [if_neg (by assumption), if_neg (by assumption), if_neg (by assumption), if_neg (by assumption), if_neg (by assumption), if_neg (by assumption), if_pos (by assumption)] at h1
      rw [← h6] at h1
      exact h1
    · rw [if_neg (by assumption), if_neg (by assumption), if_neg (by assumption), if_neg (by assumption), if_neg (by assumption), if_neg (by assumption), if_neg (by assumption), if_pos (by assumption)] at h1
      rw [← hl1] at h1
      exact h1
    · rw [if_neg (by assumption), if_neg (by assumption), if_neg (by assumption), if_neg (by assumption), if_neg (by assumption), if_neg (by assumption), if_neg (by assumption), if_neg (by assumption)] at h1
      exact h1
end M21
