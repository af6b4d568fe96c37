section M9
variable {C : Cst} {T : Nat → Pst → Nat → Lcs → List Value → Mem → Prop}
set_option maxRecDepth 100000 in
theorem passK_s (K : Mem) (m : Nat) (x : Int32) : passK K m x 0 3 = K 0 3 := by simp [passK, up]
set_option maxRecDepth 100000 in
theorem walkK_s (K : Mem) (m p : Nat) : walkK K m p 0 3 = K 0 3 := by simp [walkK, passK, up]
set_option maxRecDepth 100000 in
theorem fetchK_s (K : Mem) (m : Nat) : fetchK K m 0 3 = K 0 3 := by simp [fetchK, passK, up]
set_option maxRecDepth 100000 in
theorem cleanK_s (K : Mem) (m r : Nat) (w : Int32) : cleanK K m r w 0 3 = K 0 3 := by simp [cleanK, passK, up]
set_option maxRecDepth 100000 in
theorem knockK_s (K : Mem) (m r : Nat) (w : Int32) : (knockK K m r w).2 0 3 = K 0 3 := by
  unfold knockK
  dsimp only
  repeat' split
  all_goals simp only [cleanK_s, fetchK_s, passK_s]
set_option maxRecDepth 100000 in
theorem visitK_s (K : Mem) (m r : Nat) : (visitK K m r).2 0 3 = K 0 3 := by
  unfold visitK
  rw [knockK_s, walkK_s]
set_option maxRecDepth 100000 in
theorem bothK_s (K : Mem) (r : Nat) : (bothK K r).2 0 3 = K 0 3 := by
  unfold bothK
  dsimp only
  rw [up_k (by omega), knockK_s, up_k (by omega), walkK_s, walkK_s]
set_option maxRecDepth 100000 in
theorem RepM.frP {w : Nat} {S S' K : Mem} {d : Int32} (R : RepM S K d) (F : FrP w S S') : RepM S' K d := fun a j hi => by
  rw [F a j (by unfold inM at hi; omega) (by unfold inM at hi; omega)]
  exact R a j hi
set_option maxRecDepth 100000 in
theorem KeptM.fr {w : Nat} {S S' S0 : Mem} (k : KeptM w S S0) (F : FrM S S') : KeptM w S' S0 := fun j hj => by
  rw [F 38 _ (by unfold inM; omega)]
  exact k j hj
set_option maxRecDepth 100000 in
theorem back {w : Nat} (hw : 1 ≤ w) {S S1 S2 S3 : Mem} (FP : FrP w S S1) (F : ScMY 0 S1 S2) (e21 : S2 25 21 = S 25 21) (h1 : ∀ a j, inP a j → S3 a j = S a j) (h2 : ∀ a j, ¬ inP a j → ¬ (a = 25 ∧ (j = 19 ∨ j = 20)) → S3 a j = S2 a j) : ScM 0 S S3 := fun a j hs => by
  rw [if_neg (fun z => z.2.2 rfl)]
  by_cases q : inP a j
  · exact h1 a j q
  · have hn : ¬ (a = 25 ∧ (j = 19 ∨ j = 20)) := by unfold scrM at hs; omega
    rw [h2 a j q hn]
    by_cases q2 : a = 25 ∧ j = 21
    · obtain ⟨rfl, rfl⟩ := q2
      exact e21
    · have e := F a j hs (by unfold inP at q; unfold inM; unfold scrM at hs; omega)
      rw [if_neg (fun z => z.2.2 rfl)] at e
      rw [e]
      exact FP a j (by unfold scrM at hs; omega) hn
set_option maxRecDepth 100000 in
theorem ScMY.frP {w : Nat} (hw : 1 ≤ w) {S S1 S2 : Mem} (FP : FrP w S S1) (F : ScMY 0 S1 S2) : ScMY 0 S S2 := fun a j hs hi => by
  rw [F a j hs hi, if_neg (fun z => z.2.2 rfl), if_neg (fun z => z.2.2 rfl)]
  exact FP a j (by unfold scrM at hs; omega) (by unfold scrM at hs; omega)
set_option maxRecDepth 100000 in
theorem RepM.fresh {S K : Mem} {d : Int32} (R : RepM S K d) (h3 : K 0 3 = 0) : ∃ d', RepM S (freshK K) d' := ⟨d + K 0 4, fun a j hi => by
  rw [R a j hi]
  unfold inM at hi
  unfold freshK
  rcases hi with ⟨rfl, hi⟩ | ⟨rfl | rfl | rfl | rfl, hb⟩ | ⟨hb, hj⟩
  · rw [mv25, mv25, up_at, up_j (by omega), up_j (by omega), up_j (by omega), up_at, h3, Int32.add_zero]
  · rw [mv27, mv27, up_k (by omega), up_k (by omega)]
  · rw [mv28, mv28, up_k (by omega), up_k (by omega)]
  · rw [mv29, mv29, up_j (by omega), up_j (by omega)]
  · rw [mv30, mv30, up_j (by omega), up_j (by omega)]
  · rw [mv31 _ _ _ (by omega), mv31 _ _ _ (by omega), up_k (by omega), up_k (by omega)]⟩
set_option maxRecDepth 100000 in
theorem X5_visits (H : Rules C T) {S K : Mem} {n : Nat} (X : XM S K n) {m r : Int32} {Q : Pst} (h1 : AnsMY S (F_visits K n m r).1 (F_visits K n m r).2 Q) : C mX5_visits [.ref 25, .int m, .int r] S Q := by
  obtain ⟨⟨d, R⟩, g, hz⟩ := X
  have hn8 := g.2.1
  unfold F_visits at h1
  refine Rules.go H (by decide) (Nat.le_of_ble_eq_true rfl) ?_
  repeat' (first | (refine Rules.st H okX5_visits [] ?_; conv => whnf) | refine br_t (by first | decide | assumption) ?_ | refine br_f (by first | decide | assumption) ?_ | refine br_c (fun _ => ?_) (fun _ => ?_) | refine ⟨by decide, ?_⟩ | refine ⟨by first | assumption | (unfold vp_in; decide) | ((with_reducible (refine vp_in_nI ?_ ?_)) <;> omega), ?_⟩ | fail)
  refine X5_isMaid H (fun i hi e => ?_) (fun hno => ?_)
  · subst e
    have cr : (nI i).toNatClampNeg = i := nIc (by omega)
    rw [show ix (nI i) = i from cr] at h1
    repeat' (first | (refine Rules.st H okX5_visits [] ?_; conv => whnf) | refine br_t (by first | decide | assumption) ?_ | refine br_f (by first | decide | assumption) ?_ | refine br_c (fun _ => ?_) (fun _ => ?_) | refine ⟨by decide, ?_⟩ | refine ⟨by first | assumption | (unfold vp_in; decide) | ((with_reducible (refine vp_in_nI ?_ ?_)) <;> omega), ?_⟩ | fail)
    refine X5_isRoom H (R.rm.trans g.1) hn8 (fun j hj e => ?_) (fun hno => ?_)
    · subst e
      rw [if_pos ⟨okM_nI hi, okR_nI hn8 hj⟩, show ix (nI j) = j from nIc (by omega)] at h1
      repeat' (first | (refine Rules.st H okX5_visits [] ?_; conv => whnf) | refine br_t (by first | decide | assumption) ?_ | refine br_f (by first | decide | assumption) ?_ | refine br_c (fun _ => ?_) (fun _ => ?_) | refine ⟨by decide, ?_⟩ | refine ⟨by first | assumption | (unfold vp_in; decide) | ((with_reducible (refine vp_in_nI ?_ ?_)) <;> omega), ?_⟩ | fail)
      refine X5_passesAll_K H (w := 1) (by omega) (fun S1 k1 f1 => ?_)
      have R1 := R.frP f1
      repeat' (first | (refine Rules.st H okX5_visits [] ?_; conv => whnf) | refine br_t (by first | decide | assumption) ?_ | refine br_f (by first | decide | assumption) ?_ | refine br_c (fun _ => ?_) (fun _ => ?_) | refine ⟨by decide, ?_⟩ | refine ⟨by first | assumption | (unfold vp_in; decide) | ((with_reducible (refine vp_in_nI ?_ ?_)) <;> omega), ?_⟩ | fail)
      refine X5_visit H R1 g hi hj (fun S2 R2 F2 => ?_)
      have e33 : S2 33 (nI i).toNatClampNeg = (visitK K i j).2 5 i := by rw [cr]; exact R2.ck hi
      by_cases q : 999 < (visitK K i j).2 5 i
      · rw [if_pos q] at h1
        have q2 : 999 < S2 33 (nI i).toNatClampNeg := by rw [e33]; exact q
        repeat' (first | (refine Rules.st H okX5_visits [] ?_; conv => whnf) | refine br_t (by first | decide | assumption) ?_ | refine br_f (by first | decide | assumption) ?_ | refine br_c (fun _ => ?_) (fun _ => ?_) | refine ⟨by decide, ?_⟩ | refine ⟨by first | assumption | (unfold vp_in; decide) | ((with_reducible (refine vp_in_nI ?_ ?_)) <;> omega), ?_⟩ | fail)
        refine X5_passesAll_B H (w := 1) (by omega) (k1.fr F2) (fun S3 b1 b2 => ?_)
        have s3 : ScM 0 S S3 := back (by omega) f1 (ScMY.fr F2) (by rw [R2.st, R.st, visitK_s]) b1 b2
        repeat' (first | (refine Rules.st H okX5_visits [] ?_; conv => whnf) | refine br_t (by first | decide | assumption) ?_ | refine br_f (by first | decide | assumption) ?_ | refine br_c (fun _ => ?_) (fun _ => ?_) | refine ⟨by decide, ?_⟩ | refine ⟨by first | assumption | (unfold vp_in; decide) | ((with_reducible (refine vp_in_nI ?_ ?_)) <;> omega), ?_⟩ | fail)
        refine X5_no H s3 (k := 6) (by omega) (by omega) (by decide) (fun S' hS' => ?_)
        repeat' (first | (refine Rules.st H okX5_visits [] ?_; conv => whnf) | refine br_t (by first | decide | assumption) ?_ | refine br_f (by first | decide | assumption) ?_ | refine br_c (fun _ => ?_) (fun _ => ?_) | refine ⟨by decide, ?_⟩ | refine ⟨by first | assumption | (unfold vp_in; decide) | ((with_reducible (refine vp_in_nI ?_ ?_)) <;> omega), ?_⟩ | fail)
        exact h1 S' (hS'.rep R) hS'.y
      · rw [if_neg q] at h1
        have q2 : ¬ 999 < S2 33 (nI i).toNatClampNeg := by rw [e33]; exact q
        repeat' (first | (refine Rules.st H okX5_visits [] ?_; conv => whnf) | refine br_t (by first | decide | assumption) ?_ | refine br_f (by first | decide | assumption) ?_ | refine br_c (fun _ => ?_) (fun _ => ?_) | refine ⟨by decide, ?_⟩ | refine ⟨by first | assumption | (unfold vp_in; decide) | ((with_reducible (refine vp_in_nI ?_ ?_)) <;> omega), ?_⟩ | fail)
        exact h1 S2 (R2.fresh (by rw [visitK_s]; exact hz.1)) (ScMY.frP (by omega) f1 (ScMY.fr F2))
    · rw [if_neg (fun z => okR_neg hn8 hno z.2)] at h1
      repeat' (first | (refine Rules.st H okX5_visits [] ?_; conv => whnf) | refine br_t (by first | decide | assumption) ?_ | refine br_f (by first | decide | assumption) ?_ | refine br_c (fun _ => ?_) (fun _ => ?_) | refine ⟨by decide, ?_⟩ | refine ⟨by first | assumption | (unfold vp_in; decide) | ((with_reducible (refine vp_in_nI ?_ ?_)) <;> omega), ?_⟩ | fail)
      refine X5_no H ScM.rf (k := 1) (by omega) (by omega) (by decide) (fun S' hS' => ?_)
      repeat' (first | (refine Rules.st H okX5_visits [] ?_; conv => whnf) | refine br_t (by first | decide | assumption) ?_ | refine br_f (by first | decide | assumption) ?_ | refine br_c (fun _ => ?_) (fun _ => ?_) | refine ⟨by decide, ?_⟩ | refine ⟨by first | assumption | (unfold vp_in; decide) | ((with_reducible (refine vp_in_nI ?_ ?_)) <;> omega), ?_⟩ | fail)
      exact h1 S' (hS'.rep R) hS'.y
  · rw [if_neg (fun z => okM_neg hno z.1)] at h1
    repeat' (first | (refine Rules.st H okX5_visits [] ?_; conv => whnf) | refine br_t (by first | decide | assumption) ?_ | refine br_f (by first | decide | assumption) ?_ | refine br_c (fun _ => ?_) (fun _ => ?_) | refine ⟨by decide, ?_⟩ | refine ⟨by first | assumption | (unfold vp_in; decide) | ((with_reducible (refine vp_in_nI ?_ ?_)) <;> omega), ?_⟩ | fail)
    refine X5_no H ScM.rf (k := 1) (by omega) (by omega) (by decide) (fun S' hS' => ?_)
    repeat' (first | (refine Rules.st H okX5_visits [] ?_; conv => whnf) | refine br_t (by first | decide | assumption) ?_ | refine br_f (by first | decide | assumption) ?_ | refine br_c (fun _ => ?_) (fun _ => ?_) | refine ⟨by decide, ?_⟩ | refine ⟨by first | assumption | (unfold vp_in; decide) | ((with_reducible (refine vp_in_nI ?_ ?_)) <;> omega), ?_⟩ | fail)
    exact h1 S' (hS'.rep R) hS'.y
set_option maxRecDepth 100000 in
theorem X5_both (H : Rules C T) {S K : Mem} {n : Nat} (X : XM S K n) {r : Int32} {Q : Pst} (h1 : AnsMY S (F_both K n r).1 (F_both K n r).2 Q) : C mX5_both [.ref 25, .int r] S Q := by
  obtain ⟨⟨d, R⟩, g, hz⟩ := X
  have hn8 := g.2.1
  unfold F_both at h1
  refine Rules.go H (by decide) (Nat.le_of_ble_eq_true rfl) ?_
  repeat' (first | (refine Rules.st H okX5_both [] ?_; conv => whnf) | refine br_t (by first | decide | assumption) ?_ | refine br_f (by first | decide | assumption) ?_ | refine br_c (fun _ => ?_) (fun _ => ?_) | refine ⟨by decide, ?_⟩ | refine ⟨by first | assumption | (unfold vp_in; decide) | ((with_reducible (refine vp_in_nI ?_ ?_)) <;> omega), ?_⟩ | fail)
  refine X5_isRoom H (R.rm.trans g.1) hn8 (fun j hj e => ?_) (fun hno => ?_)
  · subst e
    rw [if_pos (okR_nI hn8 hj), show ix (nI j) = j from nIc (by omega)] at h1
    repeat' (first | (refine Rules.st H okX5_both [] ?_; conv => whnf) | refine br_t (by first | decide | assumption) ?_ | refine br_f (by first | decide | assumption) ?_ | refine br_c (fun _ => ?_) (fun _ => ?_) | refine ⟨by decide, ?_⟩ | refine ⟨by first | assumption | (unfold vp_in; decide) | ((with_reducible (refine vp_in_nI ?_ ?_)) <;> omega), ?_⟩ | fail)
    refine X5_passesAll_K H (w := 1) (by omega) (fun S1 k1 f1 => ?_)
    have R1 := R.frP f1
    repeat' (first | (refine Rules.st H okX5_both [] ?_; conv => whnf) | refine br_t (by first | decide | assumption) ?_ | refine br_f (by first | decide | assumption) ?_ | refine br_c (fun _ => ?_) (fun _ => ?_) | refine ⟨by decide, ?_⟩ | refine ⟨by first | assumption | (unfold vp_in; decide) | ((with_reducible (refine vp_in_nI ?_ ?_)) <;> omega), ?_⟩ | fail)
    refine X5_visitBoth H R1 g hj (fun S2 R2 F2 => ?_)
    repeat' (first | (refine Rules.st H okX5_both [] ?_; conv => whnf) | refine br_t (by first | decide | assumption) ?_ | refine br_f (by first | decide | assumption) ?_ | refine br_c (fun _ => ?_) (fun _ => ?_) | refine ⟨by decide, ?_⟩ | refine ⟨by first | assumption | (unfold vp_in; decide) | ((with_reducible (refine vp_in_nI ?_ ?_)) <;> omega), ?_⟩ | fail)
    refine X5_later H R2 ?_
    by_cases q : 999 < laterK (bothK K j).2
    · rw [if_pos q] at h1
      have q2 : ¬ laterK (bothK K j).2 ≤ 999 := Int32.not_le.mpr q
      repeat' (first | (refine Rules.st H okX5_both [] ?_; conv => whnf) | refine br_t (by first | decide | assumption) ?_ | refine br_f (by first | decide | assumption) ?_ | refine br_c (fun _ => ?_) (fun _ => ?_) | refine ⟨by decide, ?_⟩ | refine ⟨by first | assumption | (unfold vp_in; decide) | ((with_reducible (refine vp_in_nI ?_ ?_)) <;> omega), ?_⟩ | fail)
      refine X5_passesAll_B H (w := 1) (by omega) (k1.fr F2) (fun S3 b1 b2 => ?_)
      have s3 : ScM 0 S S3 := back (by omega) f1 (ScMY.fr F2) (by rw [R2.st, R.st, bothK_s]) b1 b2
      repeat' (first | (refine Rules.st H okX5_both [] ?_; conv => whnf) | refine br_t (by first | decide | assumption) ?_ | refine br_f (by first | decide | assumption) ?_ | refine br_c (fun _ => ?_) (fun _ => ?_) | refine ⟨by decide, ?_⟩ | refine ⟨by first | assumption | (unfold vp_in; decide) | ((with_reducible (refine vp_in_nI ?_ ?_)) <;> omega), ?_⟩ | fail)
      refine X5_no H s3 (k := 6) (by omega) (by omega) (by decide) (fun S' hS' => ?_)
      repeat' (first | (refine Rules.st H okX5_both [] ?_; conv => whnf) | refine br_t (by first | decide | assumption) ?_ | refine br_f (by first | decide | assumption) ?_ | refine br_c (fun _ => ?_) (fun _ => ?_) | refine ⟨by decide, ?_⟩ | refine ⟨by first | assumption | (unfold vp_in; decide) | ((with_reducible (refine vp_in_nI ?_ ?_)) <;> omega), ?_⟩ | fail)
      exact h1 S' (hS'.rep R) hS'.y
    · rw [if_neg q] at h1
      have q2 : laterK (bothK K j).2 ≤ 999 := Int32.not_lt.mp q
      repeat' (first | (refine Rules.st H okX5_both [] ?_; conv => whnf) | refine br_t (by first | decide | assumption) ?_ | refine br_f (by first | decide | assumption) ?_ | refine br_c (fun _ => ?_) (fun _ => ?_) | refine ⟨by decide, ?_⟩ | refine ⟨by first | assumption | (unfold vp_in; decide) | ((with_reducible (refine vp_in_nI ?_ ?_)) <;> omega), ?_⟩ | fail)
      exact h1 S2 (R2.fresh (by rw [bothK_s]; exact hz.1)) (ScMY.frP (by omega) f1 (ScMY.fr F2))
  · rw [if_neg (okR_neg hn8 hno)] at h1
    repeat' (first | (refine Rules.st H okX5_both [] ?_; conv => whnf) | refine br_t (by first | decide | assumption) ?_ | refine br_f (by first | decide | assumption) ?_ | refine br_c (fun _ => ?_) (fun _ => ?_) | refine ⟨by decide, ?_⟩ | refine ⟨by first | assumption | (unfold vp_in; decide) | ((with_reducible (refine vp_in_nI ?_ ?_)) <;> omega), ?_⟩ | fail)
    refine X5_no H ScM.rf (k := 1) (by omega) (by omega) (by decide) (fun S' hS' => ?_)
    repeat' (first | (refine Rules.st H okX5_both [] ?_; conv => whnf) | refine br_t (by first | decide | assumption) ?_ | refine br_f (by first | decide | assumption) ?_ | refine br_c (fun _ => ?_) (fun _ => ?_) | refine ⟨by decide, ?_⟩ | refine ⟨by first | assumption | (unfold vp_in; decide) | ((with_reducible (refine vp_in_nI ?_ ?_)) <;> omega), ?_⟩ | fail)
    exact h1 S' (hS'.rep R) hS'.y
end M9
