section M28
variable {C : Cst} {T : Nat → Pst → Nat → Lcs → List Value → Mem → Prop}
set_option maxRecDepth 100000 in
theorem X5_findEnds_e (H : Rules C T) {S0 K : Mem} {n ra rb x y k : Nat} (X : XM S0 K n) (hx : x < n) (hy : y < n) (hk : k < 4) {S : Mem} {d : Int32} (k1 : KeptM 2 S S0) (f1 : FrP 2 S0 S) (R : RepM S K d) {Q : Pst} (h1 : ∀ S2, ScM 0 S0 S2 → S2 41 (2 * k) = behindK K x y 5 0 → S2 41 (2 * k + 1) = behindK K x y 5 1 → (∀ j, ¬ j = 2 * k → ¬ j = 2 * k + 1 → S2 41 j = S0 41 j) → T mX5_findEnds Q 2 [some (.ref 25), some (.int (nI ra)), some (.int (nI rb)), some (.int (nI (k + 1))), some (.int (nI x)), some (.int (nI y))] [] S2) : T mX5_findEnds Q 37 [some (.ref 25), some (.int (nI ra)), some (.int (nI rb)), some (.int (nI k)), some (.int (nI x)), some (.int (nI y))] [] S := by
  obtain ⟨_, g, hz⟩ := X
  have h8 := g.2.1
  have c0 : (0 : Int32).toNatClampNeg = 0 := rfl
  have c1 : (1 : Int32).toNatClampNeg = 1 := rfl
  have ck : (2 * nI k).toNatClampNeg = 2 * k := by
    rcases (show k = 0 ∨ k = 1 ∨ k = 2 ∨ k = 3 by omega) with rfl | rfl | rfl | rfl <;> decide
  have ck1 : (2 * nI k + 1).toNatClampNeg = 2 * k + 1 := by
    rcases (show k = 0 ∨ k = 1 ∨ k = 2 ∨ k = 3 by omega) with rfl | rfl | rfl | rfl <;> decide
  have v0 : vp_in (2 * nI k) 8 := by
    rcases (show k = 0 ∨ k = 1 ∨ k = 2 ∨ k = 3 by omega) with rfl | rfl | rfl | rfl <;> (unfold vp_in; decide)
  have v1 : vp_in (2 * nI k + 1) 8 := by
    rcases (show k = 0 ∨ k = 1 ∨ k = 2 ∨ k = 3 by omega) with rfl | rfl | rfl | rfl <;> (unfold vp_in; decide)
  have tail : ∀ (S1 : Mem), RepM S1 (behindK K x y) d → FrM S S1 → T mX5_findEnds Q 70 [some (.ref 25), some (.int (nI ra)), some (.int (nI rb)), some (.int (nI k)), some (.int (nI x)), some (.int (nI y))] [] S1 := fun S1 R1 F1 => by
    have a0 := R1.ck (m := 0) (by omega)
    have a1 : ∀ i v, up S1 41 i v 33 1 = behindK K x y 5 1 := fun i v => by rw [up_k (by omega)]; exact R1.ck (m := 1) (by omega)
    skip
    repeat' (first | (refine Rules.st H okX5_findEnds [2] ?_; (conv => whnf); try (show T _ _ _ [_, _, _, _, _, _] _ _)) | refine br_t (by first | decide | assumption) ?_ | refine br_f (by first | decide | assumption) ?_ | refine br_c (fun _ => ?_) (fun _ => ?_) | refine ⟨by decide, ?_⟩ | refine ⟨by first | assumption | (unfold vp_in; decide) | ((with_reducible (refine vp_in_nI ?_ ?_)) <;> omega), ?_⟩ | fail)
    rw [c0, c1, ck, ck1, a0, a1]
    have s21 : (behindK K x y) 0 3 = K 0 3 := by
      unfold behindK
      split
      · exact bothK_s K x
      · rw [visitK_s, visitK_s]
    have F2 : ScMY 0 S (up (up S1 41 (2 * k) (behindK K x y 5 0)) 41 (2 * k + 1) (behindK K x y 5 1)) := ((ScMY.fr F1).tr (ScMY.put (by unfold scrM; omega))).tr (ScMY.put (by unfold scrM; omega))
    have k2 : KeptM 2 (up (up S1 41 (2 * k) (behindK K x y 5 0)) 41 (2 * k + 1) (behindK K x y 5 1)) S0 := ((k1.fr F1).put (by omega)).put (by omega)
    have e0 : up (up S1 41 (2 * k) (behindK K x y 5 0)) 41 (2 * k + 1) (behindK K x y 5 1) 41 (2 * k) = behindK K x y 5 0 := by rw [up_j (by omega), up_at]
    have e1 : up (up S1 41 (2 * k) (behindK K x y 5 0)) 41 (2 * k + 1) (behindK K x y 5 1) 41 (2 * k + 1) = behindK K x y 5 1 := up_at
    have e2 : ∀ j, ¬ j = 2 * k → ¬ j = 2 * k + 1 → up (up S1 41 (2 * k) (behindK K x y 5 0)) 41 (2 * k + 1) (behindK K x y 5 1) 41 j = S0 41 j := fun j q1 q2 => by rw [up_j q2, up_j q1, F1 41 j (by unfold inM; omega), f1 41 j (by omega) (by omega)]
    have e21 : up (up S1 41 (2 * k) (behindK K x y 5 0)) 41 (2 * k + 1) (behindK K x y 5 1) 25 21 = S0 25 21 := by rw [up_k (by omega), up_k (by omega), R1.st, s21, ← R.st, f1 25 21 (by omega) (by omega)]
    generalize up (up S1 41 (2 * k) _) 41 _ _ = S2 at F2 k2 e0 e1 e2 e21 ⊢
    refine X5_forgets H k2 (fun S3 b1 b2 => ?_)
    have s3 : ScM 0 S0 S3 := back (by omega) f1 F2 e21 b1 b2
    repeat' (first | (refine Rules.st H okX5_findEnds [2] ?_; (conv => whnf); try (show T _ _ _ [_, _, _, _, _, _] _ _)) | refine br_t (by first | decide | assumption) ?_ | refine br_f (by first | decide | assumption) ?_ | refine br_c (fun _ => ?_) (fun _ => ?_) | refine ⟨by decide, ?_⟩ | refine ⟨by first | assumption | (unfold vp_in; decide) | ((with_reducible (refine vp_in_nI ?_ ?_)) <;> omega), ?_⟩ | fail)
    refine Halt.mk ?_
    rw [nI_1]
    exact h1 S3 s3 (by rw [b2 41 _ (by unfold inP; omega) (by omega), e0]) (by rw [b2 41 _ (by unfold inP; omega) (by omega), e1]) (fun j q1 q2 => by rw [b2 41 _ (by unfold inP; omega) (by omega), e2 j q1 q2])
  by_cases q : x = y
  · have q2 : nI x = nI y := by rw [q]
    unfold behindK at tail
    rw [if_pos q] at tail
    skip
    repeat' (first | (refine Rules.st H okX5_findEnds [70] ?_; (conv => whnf); try (show T _ _ _ [_, _, _, _, _, _] _ _)) | refine br_t (by first | decide | assumption) ?_ | refine br_f (by first | decide | assumption) ?_ | refine br_c (fun _ => ?_) (fun _ => ?_) | refine ⟨by decide, ?_⟩ | refine ⟨by first | assumption | (unfold vp_in; decide) | ((with_reducible (refine vp_in_nI ?_ ?_)) <;> omega), ?_⟩ | fail)
    refine X5_visitBoth H R g hx (fun S1 R1 F1 => ?_)
    repeat' (first | (refine Rules.st H okX5_findEnds [70] ?_; (conv => whnf); try (show T _ _ _ [_, _, _, _, _, _] _ _)) | refine br_t (by first | decide | assumption) ?_ | refine br_f (by first | decide | assumption) ?_ | refine br_c (fun _ => ?_) (fun _ => ?_) | refine ⟨by decide, ?_⟩ | refine ⟨by first | assumption | (unfold vp_in; decide) | ((with_reducible (refine vp_in_nI ?_ ?_)) <;> omega), ?_⟩ | fail)
    exact Halt.mk (tail S1 R1 F1)
  · have q2 : ¬ nI x = nI y := fun z => q ((nI_eq (by omega) (by omega)).mp z)
    unfold behindK at tail
    rw [if_neg q] at tail
    skip
    repeat' (first | (refine Rules.st H okX5_findEnds [70] ?_; (conv => whnf); try (show T _ _ _ [_, _, _, _, _, _] _ _)) | refine br_t (by first | decide | assumption) ?_ | refine br_f (by first | decide | assumption) ?_ | refine br_c (fun _ => ?_) (fun _ => ?_) | refine ⟨by decide, ?_⟩ | refine ⟨by first | assumption | (unfold vp_in; decide) | ((with_reducible (refine vp_in_nI ?_ ?_)) <;> omega), ?_⟩ | fail)
    refine X5_visit H R (m := 0) g (by omega) hx (fun S1 R1 F1 => ?_)
    repeat' (first | (refine Rules.st H okX5_findEnds [70] ?_; (conv => whnf); try (show T _ _ _ [_, _, _, _, _, _] _ _)) | refine br_t (by first | decide | assumption) ?_ | refine br_f (by first | decide | assumption) ?_ | refine br_c (fun _ => ?_) (fun _ => ?_) | refine ⟨by decide, ?_⟩ | refine ⟨by first | assumption | (unfold vp_in; decide) | ((with_reducible (refine vp_in_nI ?_ ?_)) <;> omega), ?_⟩ | fail)
    refine X5_visit H R1 (m := 1) (g.visit hx) (by omega) hy (fun S2 R2 F2 => ?_)
    repeat' (first | (refine Rules.st H okX5_findEnds [70] ?_; (conv => whnf); try (show T _ _ _ [_, _, _, _, _, _] _ _)) | refine br_t (by first | decide | assumption) ?_ | refine br_f (by first | decide | assumption) ?_ | refine br_c (fun _ => ?_) (fun _ => ?_) | refine ⟨by decide, ?_⟩ | refine ⟨by first | assumption | (unfold vp_in; decide) | ((with_reducible (refine vp_in_nI ?_ ?_)) <;> omega), ?_⟩ | fail)
    exact Halt.mk (tail S2 R2 (F1.tr F2))

set_option maxRecDepth 100000 in
theorem X5_findEnds_0 (H : Rules C T) {S0 K : Mem} {n ra rb : Nat} (X : XM S0 K n) (ha : ra < n) (hb : rb < n) {z1 z2 : Option Value} {Q : Pst} (h1 : ∀ S2, ScM 0 S0 S2 → S2 41 0 = behindK K ra ra 5 0 → S2 41 1 = behindK K ra ra 5 1 → (∀ j, ¬ j = 0 → ¬ j = 1 → S2 41 j = S0 41 j) → T mX5_findEnds Q 2 [some (.ref 25), some (.int (nI ra)), some (.int (nI rb)), some (.int (nI 1)), some (.int (nI ra)), some (.int (nI ra))] [] S2) : T mX5_findEnds Q 2 [some (.ref 25), some (.int (nI ra)), some (.int (nI rb)), some (.int (nI 0)), z1, z2] [] S0 := by
  have X0 := X
  obtain ⟨⟨d, R⟩, g, hz⟩ := X
  skip
  repeat' (first | (refine Rules.st H okX5_findEnds [37] ?_; (conv => whnf); try (show T _ _ _ [_, _, _, _, _, _] _ _)) | refine br_t (by first | decide | assumption) ?_ | refine br_f (by first | decide | assumption) ?_ | refine br_c (fun _ => ?_) (fun _ => ?_) | refine ⟨by decide, ?_⟩ | refine ⟨by first | assumption | (unfold vp_in; decide) | ((with_reducible (refine vp_in_nI ?_ ?_)) <;> omega), ?_⟩ | fail)
  refine X5_minds H (fun S1 k1 f1 => ?_)
  repeat' (first | (refine Rules.st H okX5_findEnds [37] ?_; (conv => whnf); try (show T _ _ _ [_, _, _, _, _, _] _ _)) | refine br_t (by first | decide | assumption) ?_ | refine br_f (by first | decide | assumption) ?_ | refine br_c (fun _ => ?_) (fun _ => ?_) | refine ⟨by decide, ?_⟩ | refine ⟨by first | assumption | (unfold vp_in; decide) | ((with_reducible (refine vp_in_nI ?_ ?_)) <;> omega), ?_⟩ | fail)
  exact Halt.mk (X5_findEnds_e H (k := 0) X0 ha ha (by omega) k1 f1 (R.frP f1) h1)

set_option maxRecDepth 100000 in
theorem X5_findEnds_1 (H : Rules C T) {S0 K : Mem} {n ra rb : Nat} (X : XM S0 K n) (ha : ra < n) (hb : rb < n) {z1 z2 : Option Value} {Q : Pst} (h1 : ∀ S2, ScM 0 S0 S2 → S2 41 2 = behindK K ra rb 5 0 → S2 41 3 = behindK K ra rb 5 1 → (∀ j, ¬ j = 2 → ¬ j = 3 → S2 41 j = S0 41 j) → T mX5_findEnds Q 2 [some (.ref 25), some (.int (nI ra)), some (.int (nI rb)), some (.int (nI 2)), some (.int (nI ra)), some (.int (nI rb))] [] S2) : T mX5_findEnds Q 2 [some (.ref 25), some (.int (nI ra)), some (.int (nI rb)), some (.int (nI 1)), z1, z2] [] S0 := by
  have X0 := X
  obtain ⟨⟨d, R⟩, g, hz⟩ := X
  skip
  repeat' (first | (refine Rules.st H okX5_findEnds [37] ?_; (conv => whnf); try (show T _ _ _ [_, _, _, _, _, _] _ _)) | refine br_t (by first | decide | assumption) ?_ | refine br_f (by first | decide | assumption) ?_ | refine br_c (fun _ => ?_) (fun _ => ?_) | refine ⟨by decide, ?_⟩ | refine ⟨by first | assumption | (unfold vp_in; decide) | ((with_reducible (refine vp_in_nI ?_ ?_)) <;> omega), ?_⟩ | fail)
  refine X5_minds H (fun S1 k1 f1 => ?_)
  repeat' (first | (refine Rules.st H okX5_findEnds [37] ?_; (conv => whnf); try (show T _ _ _ [_, _, _, _, _, _] _ _)) | refine br_t (by first | decide | assumption) ?_ | refine br_f (by first | decide | assumption) ?_ | refine br_c (fun _ => ?_) (fun _ => ?_) | refine ⟨by decide, ?_⟩ | refine ⟨by first | assumption | (unfold vp_in; decide) | ((with_reducible (refine vp_in_nI ?_ ?_)) <;> omega), ?_⟩ | fail)
  exact Halt.mk (X5_findEnds_e H (k := 1) X0 ha hb (by omega) k1 f1 (R.frP f1) h1)

set_option maxRecDepth 100000 in
theorem X5_findEnds_2 (H : Rules C T) {S0 K : Mem} {n ra rb : Nat} (X : XM S0 K n) (ha : ra < n) (hb : rb < n) {z1 z2 : Option Value} {Q : Pst} (h1 : ∀ S2, ScM 0 S0 S2 → S2 41 4 = behindK K rb ra 5 0 → S2 41 5 = behindK K rb ra 5 1 → (∀ j, ¬ j = 4 → ¬ j = 5 → S2 41 j = S0 41 j) → T mX5_findEnds Q 2 [some (.ref 25), some (.int (nI ra)), some (.int (nI rb)), some (.int (nI 3)), some (.int (nI rb)), some (.int (nI ra))] [] S2) : T mX5_findEnds Q 2 [some (.ref 25), some (.int (nI ra)), some (.int (nI rb)), some (.int (nI 2)), z1, z2] [] S0 := by
  have X0 := X
  obtain ⟨⟨d, R⟩, g, hz⟩ := X
  skip
  repeat' (first | (refine Rules.st H okX5_findEnds [37] ?_; (conv => whnf); try (show T _ _ _ [_, _, _, _, _, _] _ _)) | refine br_t (by first | decide | assumption) ?_ | refine br_f (by first | decide | assumption) ?_ | refine br_c (fun _ => ?_) (fun _ => ?_) | refine ⟨by decide, ?_⟩ | refine ⟨by first | assumption | (unfold vp_in; decide) | ((with_reducible (refine vp_in_nI ?_ ?_)) <;> omega), ?_⟩ | fail)
  refine X5_minds H (fun S1 k1 f1 => ?_)
  repeat' (first | (refine Rules.st H okX5_findEnds [37] ?_; (conv => whnf); try (show T _ _ _ [_, _, _, _, _, _] _ _)) | refine br_t (by first | decide | assumption) ?_ | refine br_f (by first | decide | assumption) ?_ | refine br_c (fun _ => ?_) (fun _ => ?_) | refine ⟨by decide, ?_⟩ | refine ⟨by first | assumption | (unfold vp_in; decide) | ((with_reducible (refine vp_in_nI ?_ ?_)) <;> omega), ?_⟩ | fail)
  exact Halt.mk (X5_findEnds_e H (k := 2) X0 hb ha (by omega) k1 f1 (R.frP f1) h1)

set_option maxRecDepth 100000 in
theorem X5_findEnds_3 (H : Rules C T) {S0 K : Mem} {n ra rb : Nat} (X : XM S0 K n) (ha : ra < n) (hb : rb < n) {z1 z2 : Option Value} {Q : Pst} (h1 : ∀ S2, ScM 0 S0 S2 → S2 41 6 = behindK K rb rb 5 0 → S2 41 7 = behindK K rb rb 5 1 → (∀ j, ¬ j = 6 → ¬ j = 7 → S2 41 j = S0 41 j) → T mX5_findEnds Q 2 [some (.ref 25), some (.int (nI ra)), some (.int (nI rb)), some (.int (nI 4)), some (.int (nI rb)), some (.int (nI rb))] [] S2) : T mX5_findEnds Q 2 [some (.ref 25), some (.int (nI ra)), some (.int (nI rb)), some (.int (nI 3)), z1, z2] [] S0 := by
  have X0 := X
  obtain ⟨⟨d, R⟩, g, hz⟩ := X
  skip
  repeat' (first | (refine Rules.st H okX5_findEnds [37] ?_; (conv => whnf); try (show T _ _ _ [_, _, _, _, _, _] _ _)) | refine br_t (by first | decide | assumption) ?_ | refine br_f (by first | decide | assumption) ?_ | refine br_c (fun _ => ?_) (fun _ => ?_) | refine ⟨by decide, ?_⟩ | refine ⟨by first | assumption | (unfold vp_in; decide) | ((with_reducible (refine vp_in_nI ?_ ?_)) <;> omega), ?_⟩ | fail)
  refine X5_minds H (fun S1 k1 f1 => ?_)
  repeat' (first | (refine Rules.st H okX5_findEnds [37] ?_; (conv => whnf); try (show T _ _ _ [_, _, _, _, _, _] _ _)) | refine br_t (by first | decide | assumption) ?_ | refine br_f (by first | decide | assumption) ?_ | refine br_c (fun _ => ?_) (fun _ => ?_) | refine ⟨by decide, ?_⟩ | refine ⟨by first | assumption | (unfold vp_in; decide) | ((with_reducible (refine vp_in_nI ?_ ?_)) <;> omega), ?_⟩ | fail)
  exact Halt.mk (X5_findEnds_e H (k := 3) X0 hb hb (by omega) k1 f1 (R.frP f1) h1)

set_option maxRecDepth 100000 in
theorem X5_findEnds (H : Rules C T) {S K : Mem} {n a b : Nat} (X : XM S K n) (ha : a < n) (hb : b < n) {Q : Pst} (h1 : ∀ S', ScM 0 S S' → S' 41 0 = behindK K a a 5 0 → S' 41 1 = behindK K a a 5 1 → S' 41 2 = behindK K a b 5 0 → S' 41 3 = behindK K a b 5 1 → S' 41 4 = behindK K b a 5 0 → S' 41 5 = behindK K b a 5 1 → S' 41 6 = behindK K b b 5 0 → S' 41 7 = behindK K b b 5 1 → Q none S') : C mX5_findEnds [.ref 25, .int (nI a), .int (nI b)] S Q := by
  have nx : ∀ {S1 S2 : Mem}, XM S1 K n → ScM 0 S1 S2 → XM S2 K n := fun {S1 S2} X1 s => ⟨by obtain ⟨⟨d, R⟩, _⟩ := X1; exact s.rep R, X1.2⟩
  refine Rules.go H (by decide) (Nat.le_of_ble_eq_true rfl) ?_
  repeat' (first | (refine Rules.st H okX5_findEnds [2] ?_; (conv => whnf); try (show T _ _ _ [_, _, _, _, _, _] _ _)) | refine br_t (by first | decide | assumption) ?_ | refine br_f (by first | decide | assumption) ?_ | refine br_c (fun _ => ?_) (fun _ => ?_) | refine ⟨by decide, ?_⟩ | refine ⟨by first | assumption | (unfold vp_in; decide) | ((with_reducible (refine vp_in_nI ?_ ?_)) <;> omega), ?_⟩ | fail)
  refine Halt.mk ?_
  refine X5_findEnds_0 H X ha hb (fun S1 s1 a0 a1 o1 => ?_)
  have X1 := nx X s1
  refine X5_findEnds_1 H X1 ha hb (fun S2 s2 a2 a3 o2 => ?_)
  have X2 := nx X1 s2
  refine X5_findEnds_2 H X2 ha hb (fun S3 s3 a4 a5 o3 => ?_)
  have X3 := nx X2 s3
  refine X5_findEnds_3 H X3 ha hb (fun S4 s4 a6 a7 o4 => ?_)
  have h1 := h1 S4 (((s1.tr s2).tr s3).tr s4) (by rw [o4 0 (by omega) (by omega), o3 0 (by omega) (by omega), o2 0 (by omega) (by omega), a0]) (by rw [o4 1 (by omega) (by omega), o3 1 (by omega) (by omega), o2 1 (by omega) (by omega), a1]) (by rw [o4 2 (by omega) (by omega), o3 2 (by omega) (by omega), a2]) (by rw [o4 3 (by omega) (by omega), o3 3 (by omega) (by omega), a3]) (by rw [o4 4 (by omega) (by omega), a4]) (by rw [o4 5 (by omega) (by omega), a5]) a6 a7
  skip
  repeat' (first | (refine Rules.st H okX5_findEnds [] ?_; (conv => whnf); try (show T _ _ _ [_, _, _, _, _, _] _ _)) | refine br_t (by first | decide | assumption) ?_ | refine br_f (by first | decide | assumption) ?_ | refine br_c (fun _ => ?_) (fun _ => ?_) | refine ⟨by decide, ?_⟩ | refine ⟨by first | assumption | (unfold vp_in; decide) | ((with_reducible (refine vp_in_nI ?_ ?_)) <;> omega), ?_⟩ | fail)
  exact h1

set_option maxRecDepth 100000 in
theorem X5_two_0 (H : Rules C T) {a b : Int32} {S : Mem} {Q : Pst} (h1 : S 41 0 ≤ S 41 4 ∧ S 41 1 ≤ S 41 3 → Q (some (.int 0)) S) (h0 : ¬ (S 41 0 ≤ S 41 4 ∧ S 41 1 ≤ S 41 3) → T mX5_two Q 23 [some (.ref 25), some (.int a), some (.int b), some (.int (nI 1))] [] S) : T mX5_two Q 23 [some (.ref 25), some (.int a), some (.int b), some (.int (nI 0))] [] S := by
  have e1 : (2 * (nI 0 ^^^ 2)).toNatClampNeg = 4 := by decide
  have e2 : (2 * nI 0).toNatClampNeg = 0 := by decide
  have e3 : (2 * (nI 0 ^^^ 1) + 1).toNatClampNeg = 3 := by decide
  have e4 : (2 * nI 0 + 1).toNatClampNeg = 1 := by decide
  rw [← e1, ← e2, ← e3, ← e4] at h1 h0
  by_cases c1 : S 41 (2 * (nI 0 ^^^ 2)).toNatClampNeg < S 41 (2 * nI 0).toNatClampNeg
  · have h0 := h0 (fun z => absurd z.1 (Int32.not_le.mpr c1))
    skip
    repeat' (first | (refine Rules.st H okX5_two [23] ?_; (conv => whnf); try (show T _ _ _ [_, _, _, _] _ _)) | refine br_t (by first | decide | assumption) ?_ | refine br_f (by first | decide | assumption) ?_ | refine br_c (fun _ => ?_) (fun _ => ?_) | refine ⟨by decide, ?_⟩ | refine ⟨by first | assumption | (unfold vp_in; decide) | ((with_reducible (refine vp_in_nI ?_ ?_)) <;> omega), ?_⟩ | fail)
    exact Halt.mk h0
  · by_cases c2 : S 41 (2 * (nI 0 ^^^ 1) + 1).toNatClampNeg < S 41 (2 * nI 0 + 1).toNatClampNeg
    · have h0 := h0 (fun z => absurd z.2 (Int32.not_le.mpr c2))
      skip
      repeat' (first | (refine Rules.st H okX5_two [23] ?_; (conv => whnf); try (show T _ _ _ [_, _, _, _] _ _)) | refine br_t (by first | decide | assumption) ?_ | refine br_f (by first | decide | assumption) ?_ | refine br_c (fun _ => ?_) (fun _ => ?_) | refine ⟨by decide, ?_⟩ | refine ⟨by first | assumption | (unfold vp_in; decide) | ((with_reducible (refine vp_in_nI ?_ ?_)) <;> omega), ?_⟩ | fail)
      exact Halt.mk h0
    · have h1 := h1 ⟨Int32.not_lt.mp c1, Int32.not_lt.mp c2⟩
      skip
      repeat' (first | (refine Rules.st H okX5_two [23] ?_; (conv => whnf); try (show T _ _ _ [_, _, _, _] _ _)) | refine br_t (by first | decide | assumption) ?_ | refine br_f (by first | decide | assumption) ?_ | refine br_c (fun _ => ?_) (fun _ => ?_) | refine ⟨by decide, ?_⟩ | refine ⟨by first | assumption | (unfold vp_in; decide) | ((with_reducible (refine vp_in_nI ?_ ?_)) <;> omega), ?_⟩ | fail)
      exact h1

set_option maxRecDepth 100000 in
theorem X5_two_1 (H : Rules C T) {a b : Int32} {S : Mem} {Q : Pst} (h1 : S 41 2 ≤ S 41 6 ∧ S 41 3 ≤ S 41 1 → Q (some (.int 1)) S) (h0 : ¬ (S 41 2 ≤ S 41 6 ∧ S 41 3 ≤ S 41 1) → T mX5_two Q 23 [some (.ref 25), some (.int a), some (.int b), some (.int (nI 2))] [] S) : T mX5_two Q 23 [some (.ref 25), some (.int a), some (.int b), some (.int (nI 1))] [] S := by
  have e1 : (2 * (nI 1 ^^^ 2)).toNatClampNeg = 6 := by decide
  have e2 : (2 * nI 1).toNatClampNeg = 2 := by decide
  have e3 : (2 * (nI 1 ^^^ 1) + 1).toNatClampNeg = 1 := by decide
  have e4 : (2 * nI 1 + 1).toNatClampNeg = 3 := by decide
  rw [← e1, ← e2, ← e3, ← e4] at h1 h0
  by_cases c1 : S 41 (2 * (nI 1 ^^^ 2)).toNatClampNeg < S 41 (2 * nI 1).toNatClampNeg
  · have h0 := h0 (fun z => absurd z.1 (Int32.not_le.mpr c1))
    skip
    repeat' (first | (refine Rules.st H okX5_two [23] ?_; (conv => whnf); try (show T _ _ _ [_, _, _, _] _ _)) | refine br_t (by first | decide | assumption) ?_ | refine br_f (by first | decide | assumption) ?_ | refine br_c (fun _ => ?_) (fun _ => ?_) | refine ⟨by decide, ?_⟩ | refine ⟨by first | assumption | (unfold vp_in; decide) | ((with_reducible (refine vp_in_nI ?_ ?_)) <;> omega), ?_⟩ | fail)
    exact Halt.mk h0
  · by_cases c2 : S 41 (2 * (nI 1 ^^^ 1) + 1).toNatClampNeg < S 41 (2 * nI 1 + 1).toNatClampNeg
    · have h0 := h0 (fun z => absurd z.2 (Int32.not_le.mpr c2))
      skip
      repeat' (first | (refine Rules.st H okX5_two [23] ?_; (conv => whnf); try (show T _ _ _ [_, _, _, _] _ _)) | refine br_t (by first | decide | assumption) ?_ | refine br_f (by first | decide | assumption) ?_ | refine br_c (fun _ => ?_) (fun _ => ?_) | refine ⟨by decide, ?_⟩ | refine ⟨by first | assumption | (unfold vp_in; decide) | ((with_reducible (refine vp_in_nI ?_ ?_)) <;> omega), ?_⟩ | fail)
      exact Halt.mk h0
    · have h1 := h1 ⟨Int32.not_lt.mp c1, Int32.not_lt.mp c2⟩
      skip
      repeat' (first | (refine Rules.st H okX5_two [23] ?_; (conv => whnf); try (show T _ _ _ [_, _, _, _] _ _)) | refine br_t (by first | decide | assumption) ?_ | refine br_f (by first | decide | assumption) ?_ | refine br_c (fun _ => ?_) (fun _ => ?_) | refine ⟨by decide, ?_⟩ | refine ⟨by first | assumption | (unfold vp_in; decide) | ((with_reducible (refine vp_in_nI ?_ ?_)) <;> omega), ?_⟩ | fail)
      exact h1

set_option maxRecDepth 100000 in
theorem X5_two_2 (H : Rules C T) {a b : Int32} {S : Mem} {Q : Pst} (h1 : S 41 4 ≤ S 41 0 ∧ S 41 5 ≤ S 41 7 → Q (some (.int 10)) S) (h0 : ¬ (S 41 4 ≤ S 41 0 ∧ S 41 5 ≤ S 41 7) → T mX5_two Q 23 [some (.ref 25), some (.int a), some (.int b), some (.int (nI 3))] [] S) : T mX5_two Q 23 [some (.ref 25), some (.int a), some (.int b), some (.int (nI 2))] [] S := by
  have e1 : (2 * (nI 2 ^^^ 2)).toNatClampNeg = 0 := by decide
  have e2 : (2 * nI 2).toNatClampNeg = 4 := by decide
  have e3 : (2 * (nI 2 ^^^ 1) + 1).toNatClampNeg = 7 := by decide
  have e4 : (2 * nI 2 + 1).toNatClampNeg = 5 := by decide
  rw [← e1, ← e2, ← e3, ← e4] at h1 h0
  by_cases c1 : S 41 (2 * (nI 2 ^^^ 2)).toNatClampNeg < S 41 (2 * nI 2).toNatClampNeg
  · have h0 := h0 (fun z => absurd z.1 (Int32.not_le.mpr c1))
    skip
    repeat' (first | (refine Rules.st H okX5_two [23] ?_; (conv => whnf); try (show T _ _ _ [_, _, _, _] _ _)) | refine br_t (by first | decide | assumption) ?_ | refine br_f (by first | decide | assumption) ?_ | refine br_c (fun _ => ?_) (fun _ => ?_) | refine ⟨by decide, ?_⟩ | refine ⟨by first | assumption | (unfold vp_in; decide) | ((with_reducible (refine vp_in_nI ?_ ?_)) <;> omega), ?_⟩ | fail)
    exact Halt.mk h0
  · by_cases c2 : S 41 (2 * (nI 2 ^^^ 1) + 1).toNatClampNeg < S 41 (2 * nI 2 + 1).toNatClampNeg
    · have h0 := h0 (fun z => absurd z.2 (Int32.not_le.mpr c2))
      skip
      repeat' (first | (refine Rules.st H okX5_two [23] ?_; (conv => whnf); try (show T _ _ _ [_, _, _, _] _ _)) | refine br_t (by first | decide | assumption) ?_ | refine br_f (by first | decide | assumption) ?_ | refine br_c (fun _ => ?_) (fun _ => ?_) | refine ⟨by decide, ?_⟩ | refine ⟨by first | assumption | (unfold vp_in; decide) | ((with_reducible (refine vp_in_nI ?_ ?_)) <;> omega), ?_⟩ | fail)
      exact Halt.mk h0
    · have h1 := h1 ⟨Int32.not_lt.mp c1, Int32.not_lt.mp c2⟩
      skip
      repeat' (first | (refine Rules.st H okX5_two [23] ?_; (conv => whnf); try (show T _ _ _ [_, _, _, _] _ _)) | refine br_t (by first | decide | assumption) ?_ | refine br_f (by first | decide | assumption) ?_ | refine br_c (fun _ => ?_) (fun _ => ?_) | refine ⟨by decide, ?_⟩ | refine ⟨by first | assumption | (unfold vp_in; decide) | ((with_reducible (refine vp_in_nI ?_ ?_)) <;> omega), ?_⟩ | fail)
      exact h1

set_option maxRecDepth 100000 in
theorem X5_two_3 (H : Rules C T) {a b : Int32} {S : Mem} {Q : Pst} (h1 : S 41 6 ≤ S 41 2 ∧ S 41 7 ≤ S 41 5 → Q (some (.int 11)) S) (h0 : ¬ (S 41 6 ≤ S 41 2 ∧ S 41 7 ≤ S 41 5) → T mX5_two Q 23 [some (.ref 25), some (.int a), some (.int b), some (.int (nI 4))] [] S) : T mX5_two Q 23 [some (.ref 25), some (.int a), some (.int b), some (.int (nI 3))] [] S := by
  have e1 : (2 * (nI 3 ^^^ 2)).toNatClampNeg = 2 := by decide
  have e2 : (2 * nI 3).toNatClampNeg = 6 := by decide
  have e3 : (2 * (nI 3 ^^^ 1) + 1).toNatClampNeg = 5 := by decide
  have e4 : (2 * nI 3 + 1).toNatClampNeg = 7 := by decide
  rw [← e1, ← e2, ← e3, ← e4] at h1 h0
  by_cases c1 : S 41 (2 * (nI 3 ^^^ 2)).toNatClampNeg < S 41 (2 * nI 3).toNatClampNeg
  · have h0 := h0 (fun z => absurd z.1 (Int32.not_le.mpr c1))
    skip
    repeat' (first | (refine Rules.st H okX5_two [23] ?_; (conv => whnf); try (show T _ _ _ [_, _, _, _] _ _)) | refine br_t (by first | decide | assumption) ?_ | refine br_f (by first | decide | assumption) ?_ | refine br_c (fun _ => ?_) (fun _ => ?_) | refine ⟨by decide, ?_⟩ | refine ⟨by first | assumption | (unfold vp_in; decide) | ((with_reducible (refine vp_in_nI ?_ ?_)) <;> omega), ?_⟩ | fail)
    exact Halt.mk h0
  · by_cases c2 : S 41 (2 * (nI 3 ^^^ 1) + 1).toNatClampNeg < S 41 (2 * nI 3 + 1).toNatClampNeg
    · have h0 := h0 (fun z => absurd z.2 (Int32.not_le.mpr c2))
      skip
      repeat' (first | (refine Rules.st H okX5_two [23] ?_; (conv => whnf); try (show T _ _ _ [_, _, _, _] _ _)) | refine br_t (by first | decide | assumption) ?_ | refine br_f (by first | decide | assumption) ?_ | refine br_c (fun _ => ?_) (fun _ => ?_) | refine ⟨by decide, ?_⟩ | refine ⟨by first | assumption | (unfold vp_in; decide) | ((with_reducible (refine vp_in_nI ?_ ?_)) <;> omega), ?_⟩ | fail)
      exact Halt.mk h0
    · have h1 := h1 ⟨Int32.not_lt.mp c1, Int32.not_lt.mp c2⟩
      skip
      repeat' (first | (refine Rules.st H okX5_two [23] ?_; (conv => whnf); try (show T _ _ _ [_, _, _, _] _ _)) | refine br_t (by first | decide | assumption) ?_ | refine br_f (by first | decide | assumption) ?_ | refine br_c (fun _ => ?_) (fun _ => ?_) | refine ⟨by decide, ?_⟩ | refine ⟨by first | assumption | (unfold vp_in; decide) | ((with_reducible (refine vp_in_nI ?_ ?_)) <;> omega), ?_⟩ | fail)
      exact h1

set_option maxRecDepth 100000 in
theorem X5_two (H : Rules C T) {S K : Mem} {n : Nat} (X : XM S K n) {x y : Int32} {Q : Pst} (h1 : two2 n x y → AnsM S (0, twoK K (ix x) (ix y)) Q) (h0 : ¬ two2 n x y → AnsM S (1, -1) Q) : C mX5_two [.ref 25, .int x, .int y] S Q := by
  have X0 := X
  obtain ⟨⟨d, R⟩, g, hz⟩ := X
  have h8 := g.2.1
  refine Rules.go H (by decide) (Nat.le_of_ble_eq_true rfl) ?_
  repeat' (first | (refine Rules.st H okX5_two [23] ?_; (conv => whnf); try (show T _ _ _ [_, _, _, _] _ _)) | refine br_t (by first | decide | assumption) ?_ | refine br_f (by first | decide | assumption) ?_ | refine br_c (fun _ => ?_) (fun _ => ?_) | refine ⟨by decide, ?_⟩ | refine ⟨by first | assumption | (unfold vp_in; decide) | ((with_reducible (refine vp_in_nI ?_ ?_)) <;> omega), ?_⟩ | fail)
  refine X5_areTwo H h8 R g.1 (fun a b ha hb hab ea eb => ?_) (fun hno => ?_)
  · replace h1 := h1 ⟨by rw [ea]; exact okR_nI h8 ha, by rw [eb]; exact okR_nI h8 hb, fun z => hab (by rw [ea, eb] at z; exact (nI_eq (by omega) (by omega)).mp z)⟩
    rw [ea, eb, show ix (nI a) = a from nIc (by omega), show ix (nI b) = b from nIc (by omega)] at h1
    subst ea eb
    repeat' (first | (refine Rules.st H okX5_two [23] ?_; (conv => whnf); try (show T _ _ _ [_, _, _, _] _ _)) | refine br_t (by first | decide | assumption) ?_ | refine br_f (by first | decide | assumption) ?_ | refine br_c (fun _ => ?_) (fun _ => ?_) | refine ⟨by decide, ?_⟩ | refine ⟨by first | assumption | (unfold vp_in; decide) | ((with_reducible (refine vp_in_nI ?_ ?_)) <;> omega), ?_⟩ | fail)
    refine X5_findEnds H X0 ha hb (fun S1 s1 a0 a1 a2 a3 a4 a5 a6 a7 => ?_)
    have h1 := h1 S1 s1
    change Q (some (.int (twoK K a b))) S1 at h1
    unfold twoK neitherK at h1
    rw [← a0, ← a1, ← a2, ← a3, ← a4, ← a5, ← a6, ← a7] at h1
    repeat' (first | (refine Rules.st H okX5_two [23] ?_; (conv => whnf); try (show T _ _ _ [_, _, _, _] _ _)) | refine br_t (by first | decide | assumption) ?_ | refine br_f (by first | decide | assumption) ?_ | refine br_c (fun _ => ?_) (fun _ => ?_) | refine ⟨by decide, ?_⟩ | refine ⟨by first | assumption | (unfold vp_in; decide) | ((with_reducible (refine vp_in_nI ?_ ?_)) <;> omega), ?_⟩ | fail)
    refine Halt.mk ?_
    refine X5_two_0 H (fun q => ?_) (fun q => ?_)
    · rw [if_pos q] at h1
      exact h1
    rw [if_neg q] at h1
    refine X5_two_1 H (fun q => ?_) (fun q => ?_)
    · rw [if_pos q] at h1
      exact h1
    rw [if_neg q] at h1
    refine X5_two_2 H (fun q => ?_) (fun q => ?_)
    · rw [if_pos q] at h1
      exact h1
    rw [if_neg q] at h1
    refine X5_two_3 H (fun q => ?_) (fun q => ?_)
    · rw [if_pos q] at h1
      exact h1
    rw [if_neg q] at h1
    skip
    repeat' (first | (refine Rules.st H okX5_two [] ?_; (conv => whnf); try (show T _ _ _ [_, _, _, _] _ _)) | refine br_t (by first | decide | assumption) ?_ | refine br_f (by first | decide | assumption) ?_ | refine br_c (fun _ => ?_) (fun _ => ?_) | refine ⟨by decide, ?_⟩ | refine ⟨by first | assumption | (unfold vp_in; decide) | ((with_reducible (refine vp_in_nI ?_ ?_)) <;> omega), ?_⟩ | fail)
    exact h1
  · have h0 := h0 hno
    repeat' (first | (refine Rules.st H okX5_two [] ?_; (conv => whnf); try (show T _ _ _ [_, _, _, _] _ _)) | refine br_t (by first | decide | assumption) ?_ | refine br_f (by first | decide | assumption) ?_ | refine br_c (fun _ => ?_) (fun _ => ?_) | refine ⟨by decide, ?_⟩ | refine ⟨by first | assumption | (unfold vp_in; decide) | ((with_reducible (refine vp_in_nI ?_ ?_)) <;> omega), ?_⟩ | fail)
    refine X5_no H ScM.rf (k := 1) (by omega) (by omega) (by decide) (fun S' hS' => ?_)
    repeat' (first | (refine Rules.st H okX5_two [] ?_; (conv => whnf); try (show T _ _ _ [_, _, _, _] _ _)) | refine br_t (by first | decide | assumption) ?_ | refine br_f (by first | decide | assumption) ?_ | refine br_c (fun _ => ?_) (fun _ => ?_) | refine ⟨by decide, ?_⟩ | refine ⟨by first | assumption | (unfold vp_in; decide) | ((with_reducible (refine vp_in_nI ?_ ?_)) <;> omega), ?_⟩ | fail)
    exact h0 S' hS'
set_option maxRecDepth 100000 in
theorem X5_overlap_l (H : Rules C T) {S K : Mem} {n a b q : Nat} (X : XM S K n) (B : BK 999 K) (ha : a < n) (hb : b < n) (hq : q < 100) {Q : Pst} : ∀ (k i : Nat) (x : Int32), i + k = q → Q (some (.int (overK K a b k i x))) S → T mX5_overlap Q 45 [some (.ref 25), some (.int (nI a)), some (.int (nI b)), some (.int (nI q)), some (.int 0), some (.int x), some (.int (K 5 0 + nI i))] [] S := by
  obtain ⟨⟨d, R⟩, g, hz⟩ := X
  have h8 := g.2.1
  have e33 : S 33 (0 : Int32).toNatClampNeg = K 5 0 := R.ck (m := 0) (by omega)
  obtain ⟨c, hc, hc2, ec⟩ := (B.2 0 (by omega)).get
  intro k
  induction k with
  | zero =>
    intro i x hi h1
    have hge : S 33 (0 : Int32).toNatClampNeg + nI q ≤ K 5 0 + nI i := by
      rw [e33, ec, nI_add, nI_add]
      exact nI_le (by omega) (by omega)
    skip
    repeat' (first | (refine Rules.st H okX5_overlap [45] ?_; (conv => whnf); try (show T _ _ _ [_, _, _, _, _, _, _] _ _)) | refine br_t (by first | decide | assumption) ?_ | refine br_f (by first | decide | assumption) ?_ | refine br_c (fun _ => ?_) (fun _ => ?_) | refine ⟨by decide, ?_⟩ | refine ⟨by first | assumption | (unfold vp_in; decide) | ((with_reducible (refine vp_in_nI ?_ ?_)) <;> omega), ?_⟩ | fail)
    exact h1
  | succ k ih =>
    intro i x hi h1
    have hge : ¬ S 33 (0 : Int32).toNatClampNeg + nI q ≤ K 5 0 + nI i := by
      rw [e33, ec, nI_add, nI_add]
      exact nI_ge (by omega) (by omega)
    unfold overK at h1
    have go : ∀ x', Q (some (.int (overK K a b k (i + 1) x'))) S → T mX5_overlap Q 45 [some (.ref 25), some (.int (nI a)), some (.int (nI b)), some (.int (nI q)), some (.int 0), some (.int x'), some (.int (K 5 0 + nI i + 1))] [] S := fun x' h => by
      rw [Int32.add_assoc, nI_1]
      exact ih (i + 1) x' (by omega) h
    skip
    repeat' (first | (refine Rules.st H okX5_overlap [45] ?_; (conv => whnf); try (show T _ _ _ [_, _, _, _, _, _, _] _ _)) | refine br_t (by first | decide | assumption) ?_ | refine br_f (by first | decide | assumption) ?_ | refine br_c (fun _ => ?_) (fun _ => ?_) | refine ⟨by decide, ?_⟩ | refine ⟨by first | assumption | (unfold vp_in; decide) | ((with_reducible (refine vp_in_nI ?_ ?_)) <;> omega), ?_⟩ | fail)
    refine X5_isOut H R (by omega) (fun q2 => ?_) (fun q2 => ?_)
    · repeat' (first | (refine Rules.st H okX5_overlap [45] ?_; (conv => whnf); try (show T _ _ _ [_, _, _, _, _, _, _] _ _)) | refine br_t (by first | decide | assumption) ?_ | refine br_f (by first | decide | assumption) ?_ | refine br_c (fun _ => ?_) (fun _ => ?_) | refine ⟨by decide, ?_⟩ | refine ⟨by first | assumption | (unfold vp_in; decide) | ((with_reducible (refine vp_in_nI ?_ ?_)) <;> omega), ?_⟩ | fail)
      refine X5_isOut H R (by omega) (fun q3 => ?_) (fun q3 => ?_)
      · rw [if_pos ⟨q2, q3⟩] at h1
        repeat' (first | (refine Rules.st H okX5_overlap [45] ?_; (conv => whnf); try (show T _ _ _ [_, _, _, _, _, _, _] _ _)) | refine br_t (by first | decide | assumption) ?_ | refine br_f (by first | decide | assumption) ?_ | refine br_c (fun _ => ?_) (fun _ => ?_) | refine ⟨by decide, ?_⟩ | refine ⟨by first | assumption | (unfold vp_in; decide) | ((with_reducible (refine vp_in_nI ?_ ?_)) <;> omega), ?_⟩ | fail)
        exact Halt.mk (go _ h1)
      · rw [if_neg (fun z => by rw [q3] at z; exact absurd z.2 (by decide))] at h1
        repeat' (first | (refine Rules.st H okX5_overlap [45] ?_; (conv => whnf); try (show T _ _ _ [_, _, _, _, _, _, _] _ _)) | refine br_t (by first | decide | assumption) ?_ | refine br_f (by first | decide | assumption) ?_ | refine br_c (fun _ => ?_) (fun _ => ?_) | refine ⟨by decide, ?_⟩ | refine ⟨by first | assumption | (unfold vp_in; decide) | ((with_reducible (refine vp_in_nI ?_ ?_)) <;> omega), ?_⟩ | fail)
        rw [Int32.add_zero]
        exact Halt.mk (go _ h1)
    · rw [if_neg (fun z => by rw [q2] at z; exact absurd z.1 (by decide))] at h1
      repeat' (first | (refine Rules.st H okX5_overlap [45] ?_; (conv => whnf); try (show T _ _ _ [_, _, _, _, _, _, _] _ _)) | refine br_t (by first | decide | assumption) ?_ | refine br_f (by first | decide | assumption) ?_ | refine br_c (fun _ => ?_) (fun _ => ?_) | refine ⟨by decide, ?_⟩ | refine ⟨by first | assumption | (unfold vp_in; decide) | ((with_reducible (refine vp_in_nI ?_ ?_)) <;> omega), ?_⟩ | fail)
      rw [Int32.add_zero]
      exact Halt.mk (go _ h1)
set_option maxRecDepth 100000 in
theorem X5_overlap (H : Rules C T) {S K : Mem} {n : Nat} (X : XM S K n) (B : BK 999 K) {x y t : Int32} {Q : Pst} (h1 : two2 n x y → AnsM S (F_overlap K x y t) Q) (h0 : ¬ two2 n x y → AnsM S (1, -1) Q) : C mX5_overlap [.ref 25, .int x, .int y, .int t] S Q := by
  have X0 := X
  obtain ⟨⟨d, R⟩, g, hz⟩ := X
  have h8 := g.2.1
  refine Rules.go H (by decide) (Nat.le_of_ble_eq_true rfl) ?_
  repeat' (first | (refine Rules.st H okX5_overlap [45] ?_; (conv => whnf); try (show T _ _ _ [_, _, _, _, _, _, _] _ _)) | refine br_t (by first | decide | assumption) ?_ | refine br_f (by first | decide | assumption) ?_ | refine br_c (fun _ => ?_) (fun _ => ?_) | refine ⟨by decide, ?_⟩ | refine ⟨by first | assumption | (unfold vp_in; decide) | ((with_reducible (refine vp_in_nI ?_ ?_)) <;> omega), ?_⟩ | fail)
  refine X5_areTwo H h8 R g.1 (fun a b ha hb hab ea eb => ?_) (fun hno => ?_)
  · replace h1 := h1 ⟨by rw [ea]; exact okR_nI h8 ha, by rw [eb]; exact okR_nI h8 hb, fun z => hab (by rw [ea, eb] at z; exact (nI_eq (by omega) (by omega)).mp z)⟩
    unfold F_overlap at h1
    rw [ea, eb, show ix (nI a) = a from nIc (by omega), show ix (nI b) = b from nIc (by omega)] at h1
    subst ea eb
    repeat' (first | (refine Rules.st H okX5_overlap [45] ?_; (conv => whnf); try (show T _ _ _ [_, _, _, _, _, _, _] _ _)) | refine br_t (by first | decide | assumption) ?_ | refine br_f (by first | decide | assumption) ?_ | refine br_c (fun _ => ?_) (fun _ => ?_) | refine ⟨by decide, ?_⟩ | refine ⟨by first | assumption | (unfold vp_in; decide) | ((with_reducible (refine vp_in_nI ?_ ?_)) <;> omega), ?_⟩ | fail)
    refine X5_bound H (fun q3 => ?_) (fun q3 q4 => ?_) (fun q3 q4 => ?_)
    · rw [if_pos q3] at h1
      repeat' (first | (refine Rules.st H okX5_overlap [45] ?_; (conv => whnf); try (show T _ _ _ [_, _, _, _, _, _, _] _ _)) | refine br_t (by first | decide | assumption) ?_ | refine br_f (by first | decide | assumption) ?_ | refine br_c (fun _ => ?_) (fun _ => ?_) | refine ⟨by decide, ?_⟩ | refine ⟨by first | assumption | (unfold vp_in; decide) | ((with_reducible (refine vp_in_nI ?_ ?_)) <;> omega), ?_⟩ | fail)
      refine X5_no H ScM.rf (k := 4) (by omega) (by omega) (by decide) (fun S' hS' => ?_)
      repeat' (first | (refine Rules.st H okX5_overlap [45] ?_; (conv => whnf); try (show T _ _ _ [_, _, _, _, _, _, _] _ _)) | refine br_t (by first | decide | assumption) ?_ | refine br_f (by first | decide | assumption) ?_ | refine br_c (fun _ => ?_) (fun _ => ?_) | refine ⟨by decide, ?_⟩ | refine ⟨by first | assumption | (unfold vp_in; decide) | ((with_reducible (refine vp_in_nI ?_ ?_)) <;> omega), ?_⟩ | fail)
      exact h1 S' hS'
    · rw [if_neg q3, if_pos q4] at h1
      repeat' (first | (refine Rules.st H okX5_overlap [45] ?_; (conv => whnf); try (show T _ _ _ [_, _, _, _, _, _, _] _ _)) | refine br_t (by first | decide | assumption) ?_ | refine br_f (by first | decide | assumption) ?_ | refine br_c (fun _ => ?_) (fun _ => ?_) | refine ⟨by decide, ?_⟩ | refine ⟨by first | assumption | (unfold vp_in; decide) | ((with_reducible (refine vp_in_nI ?_ ?_)) <;> omega), ?_⟩ | fail)
      refine X5_no H ScM.rf (k := 6) (by omega) (by omega) (by decide) (fun S' hS' => ?_)
      repeat' (first | (refine Rules.st H okX5_overlap [45] ?_; (conv => whnf); try (show T _ _ _ [_, _, _, _, _, _, _] _ _)) | refine br_t (by first | decide | assumption) ?_ | refine br_f (by first | decide | assumption) ?_ | refine br_c (fun _ => ?_) (fun _ => ?_) | refine ⟨by decide, ?_⟩ | refine ⟨by first | assumption | (unfold vp_in; decide) | ((with_reducible (refine vp_in_nI ?_ ?_)) <;> omega), ?_⟩ | fail)
      exact h1 S' hS'
    · rw [if_neg q3, if_neg q4] at h1
      obtain ⟨q, hq, rfl⟩ := nI_of q3
      have hq2 : q < 100 := by
        rw [ltT, nIt hq] at q4
        have : (99 : Int32).toInt = 99 := by decide
        omega
      rw [show ix (nI q) = q from nIc (by omega)] at h1
      have e33 : S 33 (0 : Int32).toNatClampNeg = K 5 0 + nI 0 := by
        rw [show nI 0 = 0 from rfl, Int32.add_zero]
        exact R.ck (m := 0) (by omega)
      repeat' (first | (refine Rules.st H okX5_overlap [45] ?_; (conv => whnf); try (show T _ _ _ [_, _, _, _, _, _, _] _ _)) | refine br_t (by first | decide | assumption) ?_ | refine br_f (by first | decide | assumption) ?_ | refine br_c (fun _ => ?_) (fun _ => ?_) | refine ⟨by decide, ?_⟩ | refine ⟨by first | assumption | (unfold vp_in; decide) | ((with_reducible (refine vp_in_nI ?_ ?_)) <;> omega), ?_⟩ | fail)
      rw [e33]
      exact Halt.mk (X5_overlap_l H X0 B ha hb hq2 q 0 0 (by omega) (h1 S ScM.rf))
  · have h0 := h0 hno
    repeat' (first | (refine Rules.st H okX5_overlap [45] ?_; (conv => whnf); try (show T _ _ _ [_, _, _, _, _, _, _] _ _)) | refine br_t (by first | decide | assumption) ?_ | refine br_f (by first | decide | assumption) ?_ | refine br_c (fun _ => ?_) (fun _ => ?_) | refine ⟨by decide, ?_⟩ | refine ⟨by first | assumption | (unfold vp_in; decide) | ((with_reducible (refine vp_in_nI ?_ ?_)) <;> omega), ?_⟩ | fail)
    refine X5_no H ScM.rf (k := 1) (by omega) (by omega) (by decide) (fun S' hS' => ?_)
    repeat' (first | (refine Rules.st H okX5_overlap [45] ?_; (conv => whnf); try (show T _ _ _ [_, _, _, _, _, _, _] _ _)) | refine br_t (by first | decide | assumption) ?_ | refine br_f (by first | decide | assumption) ?_ | refine br_c (fun _ => ?_) (fun _ => ?_) | refine ⟨by decide, ?_⟩ | refine ⟨by first | assumption | (unfold vp_in; decide) | ((with_reducible (refine vp_in_nI ?_ ?_)) <;> omega), ?_⟩ | fail)
    exact h0 S' hS'
end M28
