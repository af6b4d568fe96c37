section M23
variable {C : Cst} {T : Nat → Pst → Nat → Lcs → List Value → Mem → Prop}
/-- two places of the reference's row changed for each other -/
def chM (S : Mem) (a b : Nat) : Mem := up (up S 39 a (S 39 b)) 39 b (S 39 a)
set_option maxRecDepth 100000 in
theorem X5_changesPlaces (H : Rules C T) {S : Mem} {a b : Nat} (ha : a < 16) (hb : b < 16) {Q : Pst} (h1 : Q none (chM S a b)) : C mX5_changesPlaces [.ref 25, .int (nI a), .int (nI b)] S Q := by
  unfold chM at h1
  have key : Q none (up (up S 39 (nI a).toNatClampNeg (S 39 (nI b).toNatClampNeg)) 39 (nI b).toNatClampNeg (S 39 (nI a).toNatClampNeg)) := by
    rw [nIc (by omega), nIc (by omega)]
    exact h1
  refine Rules.go H (by decide) (Nat.le_of_ble_eq_true rfl) ?_
  repeat' (first | (refine Rules.st H okX5_changesPlaces [] ?_; (conv => whnf); try (show T _ _ _ [_, _, _, _] _ _)) | refine br_t (by first | decide | assumption) ?_ | refine br_f (by first | decide | assumption) ?_ | refine br_c (fun _ => ?_) (fun _ => ?_) | refine ⟨by decide, ?_⟩ | refine ⟨by first | assumption | (unfold vp_in; decide) | ((with_reducible (refine vp_in_nI ?_ ?_)) <;> omega), ?_⟩ | fail)
  exact key
set_option maxRecDepth 100000 in
theorem chM_at {S : Mem} {a b c j : Nat} (hab : ¬ a = b) : chM S a b c j = if c = 39 ∧ j = b then S 39 a else if c = 39 ∧ j = a then S 39 b else S c j := by
  unfold chM up
  rfl
set_option maxRecDepth 100000 in
theorem chM_x {S : Mem} {a b q : Nat} {row : Nat → Int32} (ha : a < 16) (hb : b < 16) (hab : ¬ a = b) (X : XRM S row q) : XRM (chM S a b) (swR row a b) q := by
  refine ⟨?_, X.2.1, fun j hj => ?_⟩
  · rw [chM_at hab, if_neg (by omega), if_neg (by omega)]
    exact X.1
  · rw [chM_at hab, X.2.2 a ha, X.2.2 b hb]
    unfold swR upd
    by_cases q1 : j = b
    · rw [if_pos ⟨rfl, q1⟩, if_pos q1]
    · rw [if_neg (fun z => q1 z.2), if_neg q1]
      by_cases q2 : j = a
      · rw [if_pos ⟨rfl, q2⟩, if_pos q2]
      · rw [if_neg (fun z => q2 z.2), if_neg q2]
        exact X.2.2 j hj
set_option maxRecDepth 100000 in
theorem chM_rep {S K : Mem} {d : Int32} {a b : Nat} (hab : ¬ a = b) (R : RepM S K d) : RepM (chM S a b) K d := fun c j hi => by
  rw [chM_at hab, if_neg (by unfold inM at hi; omega), if_neg (by unfold inM at hi; omega)]
  exact R c j hi
set_option maxRecDepth 100000 in
theorem chM_2 {S S3 : Mem} {a b : Nat} (hab : ¬ a = b) (F : ScM 0 (chM S a b) S3) : ScM 0 S (chM S3 a b) := fun c j hs => by
  have e := F.at hs
  rw [chM_at hab] at e
  have ea := F.at (a := 39) (j := a) (by unfold scrM; omega)
  have eb := F.at (a := 39) (j := b) (by unfold scrM; omega)
  rw [chM_at hab, if_neg (fun z => hab z.2), if_pos ⟨rfl, rfl⟩] at ea
  rw [chM_at hab, if_pos ⟨rfl, rfl⟩] at eb
  rw [if_neg (fun z => z.2.2 rfl), chM_at hab, ea, eb]
  by_cases q1 : c = 39 ∧ j = b
  · rw [if_pos q1, q1.1, q1.2]
  · rw [if_neg q1]
    by_cases q2 : c = 39 ∧ j = a
    · rw [if_pos q2, q2.1, q2.2]
    · rw [if_neg q2]
      rw [if_neg q1, if_neg q2] at e
      exact e
set_option maxRecDepth 100000 in
theorem X5_swap_j (H : Rules C T) {S K : Mem} {n q m : Nat} {row : Nat → Int32} (hm : m < 2) (X : XM S K n) (XQ : XRM S row q) {i : Nat} {Q : Pst} : ∀ (k j : Nat) (S1 : Mem) (p : Int32 × Int32) (y : Option Value), j + k = q → i < j → ScM 0 S S1 → (∀ S2 y', ScM 0 S S2 → T mX5_swap Q 99 [some (.ref 25), some (.int (nI m)), some (.int (swJ K n m row q i k j p).1), some (.int (swJ K n m row q i k j p).2), some (.int (nI i)), some (.int (nI q)), y'] [] S2) → T mX5_swap Q 40 [some (.ref 25), some (.int (nI m)), some (.int p.1), some (.int p.2), some (.int (nI i)), some (.int (nI j)), y] [] S1 := by
  obtain ⟨⟨d, R⟩, g, hz⟩ := X
  have hq := XQ.2.1
  intro k
  induction k with
  | zero =>
    intro j S1 p y hj hij s1 h1
    have X1 := XQ.sc s1
    have hge : S1 25 25 ≤ nI j := by rw [X1.1]; exact nI_le (by omega) (by omega)
    have h1 := h1 S1 y s1
    rw [show q = j by omega] at h1
    skip
    repeat' (first | (refine Rules.st H okX5_swap [40, 99] ?_; (conv => whnf); try (show T _ _ _ [_, _, _, _, _, _, _] _ _)) | refine br_t (by first | decide | assumption) ?_ | refine br_f (by first | decide | assumption) ?_ | refine br_c (fun _ => ?_) (fun _ => ?_) | refine ⟨by decide, ?_⟩ | refine ⟨by first | assumption | (unfold vp_in; decide) | ((with_reducible (refine vp_in_nI ?_ ?_)) <;> omega), ?_⟩ | fail)
    exact Halt.mk h1
  | succ k ih =>
    intro j S1 p y hj hij s1 h1
    have X1 := XQ.sc s1
    obtain ⟨d1, R1⟩ := s1.rep R
    have hge : ¬ S1 25 25 ≤ nI j := by rw [X1.1]; exact nI_ge (by omega) (by omega)
    skip
    repeat' (first | (refine Rules.st H okX5_swap [40, 99] ?_; (conv => whnf); try (show T _ _ _ [_, _, _, _, _, _, _] _ _)) | refine br_t (by first | decide | assumption) ?_ | refine br_f (by first | decide | assumption) ?_ | refine br_c (fun _ => ?_) (fun _ => ?_) | refine ⟨by decide, ?_⟩ | refine ⟨by first | assumption | (unfold vp_in; decide) | ((with_reducible (refine vp_in_nI ?_ ?_)) <;> omega), ?_⟩ | fail)
    refine X5_changesPlaces H (by omega) (by omega) ?_
    repeat' (first | (refine Rules.st H okX5_swap [40, 99] ?_; (conv => whnf); try (show T _ _ _ [_, _, _, _, _, _, _] _ _)) | refine br_t (by first | decide | assumption) ?_ | refine br_f (by first | decide | assumption) ?_ | refine br_c (fun _ => ?_) (fun _ => ?_) | refine ⟨by decide, ?_⟩ | refine ⟨by first | assumption | (unfold vp_in; decide) | ((with_reducible (refine vp_in_nI ?_ ?_)) <;> omega), ?_⟩ | fail)
    refine X5_roundMinutes H hm (chM_rep (by omega) R1) g hz.2 (chM_x (by omega) (by omega) (by omega) X1) (fun S2 s2 _ _ => ?_)
    repeat' (first | (refine Rules.st H okX5_swap [40, 99] ?_; (conv => whnf); try (show T _ _ _ [_, _, _, _, _, _, _] _ _)) | refine br_t (by first | decide | assumption) ?_ | refine br_f (by first | decide | assumption) ?_ | refine br_c (fun _ => ?_) (fun _ => ?_) | refine ⟨by decide, ?_⟩ | refine ⟨by first | assumption | (unfold vp_in; decide) | ((with_reducible (refine vp_in_nI ?_ ?_)) <;> omega), ?_⟩ | fail)
    refine X5_changesPlaces H (by omega) (by omega) ?_
    have s3 : ScM 0 S (chM S2 i j) := s1.tr (chM_2 (by omega) s2)
    generalize chM S2 i j = S3 at s3 ⊢
    have go := fun p' y' => ih (j + 1) S3 p' y' (by omega) (by omega) s3
    unfold swJ at h1
    by_cases q1 : swM K n m row q i j < p.2
    · rw [if_pos q1] at h1
      have q2 : rowK n m (swR row i j) q 0 K 5 m - K 5 m < p.2 := q1
      repeat' (first | (refine Rules.st H okX5_swap [40, 99] ?_; (conv => whnf); try (show T _ _ _ [_, _, _, _, _, _, _] _ _)) | refine br_t (by first | decide | assumption) ?_ | refine br_f (by first | decide | assumption) ?_ | refine br_c (fun _ => ?_) (fun _ => ?_) | refine ⟨by decide, ?_⟩ | refine ⟨by first | assumption | (unfold vp_in; decide) | ((with_reducible (refine vp_in_nI ?_ ?_)) <;> omega), ?_⟩ | fail)
      refine Halt.mk ?_
      rw [nI_1]
      exact go (16 * nI i + nI j, swM K n m row q i j) _ h1
    · rw [if_neg q1] at h1
      have q2 : ¬ rowK n m (swR row i j) q 0 K 5 m - K 5 m < p.2 := q1
      repeat' (first | (refine Rules.st H okX5_swap [40, 99] ?_; (conv => whnf); try (show T _ _ _ [_, _, _, _, _, _, _] _ _)) | refine br_t (by first | decide | assumption) ?_ | refine br_f (by first | decide | assumption) ?_ | refine br_c (fun _ => ?_) (fun _ => ?_) | refine ⟨by decide, ?_⟩ | refine ⟨by first | assumption | (unfold vp_in; decide) | ((with_reducible (refine vp_in_nI ?_ ?_)) <;> omega), ?_⟩ | fail)
      refine Halt.mk ?_
      rw [nI_1]
      exact go p _ h1
set_option maxRecDepth 100000 in
theorem X5_swap_i (H : Rules C T) {S K : Mem} {n q m : Nat} {row : Nat → Int32} (hm : m < 2) (X : XM S K n) (XQ : XRM S row q) {Q : Pst} : ∀ (k i : Nat) (S1 : Mem) (p : Int32 × Int32) (y y2 : Option Value), i + k = q → ScM 0 S S1 → (∀ S2, ScM 0 S S2 → Q (some (.int (swI K n m row q k i p).1)) S2) → T mX5_swap Q 25 [some (.ref 25), some (.int (nI m)), some (.int p.1), some (.int p.2), some (.int (nI i)), y, y2] [] S1 := by
  have hq := XQ.2.1
  intro k
  induction k with
  | zero =>
    intro i S1 p y y2 hi s1 h1
    have X1 := XQ.sc s1
    have hge : S1 25 25 ≤ nI i := by rw [X1.1]; exact nI_le (by omega) (by omega)
    skip
    repeat' (first | (refine Rules.st H okX5_swap [25] ?_; (conv => whnf); try (show T _ _ _ [_, _, _, _, _, _, _] _ _)) | refine br_t (by first | decide | assumption) ?_ | refine br_f (by first | decide | assumption) ?_ | refine br_c (fun _ => ?_) (fun _ => ?_) | refine ⟨by decide, ?_⟩ | refine ⟨by first | assumption | (unfold vp_in; decide) | ((with_reducible (refine vp_in_nI ?_ ?_)) <;> omega), ?_⟩ | fail)
    exact h1 S1 s1
  | succ k ih =>
    intro i S1 p y y2 hi s1 h1
    have X1 := XQ.sc s1
    have hge : ¬ S1 25 25 ≤ nI i := by rw [X1.1]; exact nI_ge (by omega) (by omega)
    skip
    repeat' (first | (refine Rules.st H okX5_swap [25, 40] ?_; (conv => whnf); try (show T _ _ _ [_, _, _, _, _, _, _] _ _)) | refine br_t (by first | decide | assumption) ?_ | refine br_f (by first | decide | assumption) ?_ | refine br_c (fun _ => ?_) (fun _ => ?_) | refine ⟨by decide, ?_⟩ | refine ⟨by first | assumption | (unfold vp_in; decide) | ((with_reducible (refine vp_in_nI ?_ ?_)) <;> omega), ?_⟩ | fail)
    refine Halt.mk ?_
    rw [nI_1]
    refine X5_swap_j H hm X XQ k (i + 1) S1 p y2 (by omega) (by omega) s1 (fun S2 y' s2 => ?_)
    repeat' (first | (refine Rules.st H okX5_swap [25, 40] ?_; (conv => whnf); try (show T _ _ _ [_, _, _, _, _, _, _] _ _)) | refine br_t (by first | decide | assumption) ?_ | refine br_f (by first | decide | assumption) ?_ | refine br_c (fun _ => ?_) (fun _ => ?_) | refine ⟨by decide, ?_⟩ | refine ⟨by first | assumption | (unfold vp_in; decide) | ((with_reducible (refine vp_in_nI ?_ ?_)) <;> omega), ?_⟩ | fail)
    refine Halt.mk ?_
    rw [nI_1]
    exact ih (i + 1) S2 _ _ _ (by omega) s2 h1
set_option maxRecDepth 100000 in
theorem X5_swap (H : Rules C T) {S K : Mem} {n q : Nat} {row : Nat → Int32} (X : XM S K n) (XQ : XRM S row q) {m : Int32} {Q : Pst} (h1 : AnsM S (F_swap K n row q m) Q) : C mX5_swap [.ref 25, .int m] S Q := by
  have X0 := X
  obtain ⟨⟨d, R⟩, g, hz⟩ := X
  unfold F_swap at h1
  refine Rules.go H (by decide) (Nat.le_of_ble_eq_true rfl) ?_
  repeat' (first | (refine Rules.st H okX5_swap [25] ?_; (conv => whnf); try (show T _ _ _ [_, _, _, _, _, _, _] _ _)) | refine br_t (by first | decide | assumption) ?_ | refine br_f (by first | decide | assumption) ?_ | refine br_c (fun _ => ?_) (fun _ => ?_) | refine ⟨by decide, ?_⟩ | refine ⟨by first | assumption | (unfold vp_in; decide) | ((with_reducible (refine vp_in_nI ?_ ?_)) <;> omega), ?_⟩ | fail)
  refine X5_isMaid H (fun i hi e => ?_) (fun hno => ?_)
  · subst e
    rw [if_pos (okM_nI hi), show ix (nI i) = i from nIc (by omega)] at h1
    repeat' (first | (refine Rules.st H okX5_swap [25] ?_; (conv => whnf); try (show T _ _ _ [_, _, _, _, _, _, _] _ _)) | refine br_t (by first | decide | assumption) ?_ | refine br_f (by first | decide | assumption) ?_ | refine br_c (fun _ => ?_) (fun _ => ?_) | refine ⟨by decide, ?_⟩ | refine ⟨by first | assumption | (unfold vp_in; decide) | ((with_reducible (refine vp_in_nI ?_ ?_)) <;> omega), ?_⟩ | fail)
    refine X5_roundMinutes H hi R g hz.2 XQ (fun S1 s1 _ _ => ?_)
    repeat' (first | (refine Rules.st H okX5_swap [25] ?_; (conv => whnf); try (show T _ _ _ [_, _, _, _, _, _, _] _ _)) | refine br_t (by first | decide | assumption) ?_ | refine br_f (by first | decide | assumption) ?_ | refine br_c (fun _ => ?_) (fun _ => ?_) | refine ⟨by decide, ?_⟩ | refine ⟨by first | assumption | (unfold vp_in; decide) | ((with_reducible (refine vp_in_nI ?_ ?_)) <;> omega), ?_⟩ | fail)
    refine Halt.mk ?_
    exact X5_swap_i H hi X0 XQ q 0 S1 (-9, rowK n i row q 0 K 5 i - K 5 i) _ _ (by omega) s1 (fun S2 s2 => h1 S2 s2)
  · rw [if_neg (okM_neg hno)] at h1
    repeat' (first | (refine Rules.st H okX5_swap [25] ?_; (conv => whnf); try (show T _ _ _ [_, _, _, _, _, _, _] _ _)) | refine br_t (by first | decide | assumption) ?_ | refine br_f (by first | decide | assumption) ?_ | refine br_c (fun _ => ?_) (fun _ => ?_) | refine ⟨by decide, ?_⟩ | refine ⟨by first | assumption | (unfold vp_in; decide) | ((with_reducible (refine vp_in_nI ?_ ?_)) <;> omega), ?_⟩ | fail)
    refine X5_no H ScM.rf (k := 1) (by omega) (by omega) (by decide) (fun S' hS' => ?_)
    repeat' (first | (refine Rules.st H okX5_swap [25] ?_; (conv => whnf); try (show T _ _ _ [_, _, _, _, _, _, _] _ _)) | refine br_t (by first | decide | assumption) ?_ | refine br_f (by first | decide | assumption) ?_ | refine br_c (fun _ => ?_) (fun _ => ?_) | refine ⟨by decide, ?_⟩ | refine ⟨by first | assumption | (unfold vp_in; decide) | ((with_reducible (refine vp_in_nI ?_ ?_)) <;> omega), ?_⟩ | fail)
    exact h1 S' hS'
end M23
