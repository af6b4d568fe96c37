section M24
variable {C : Cst} {T : Nat → Pst → Nat → Lcs → List Value → Mem → Prop}
set_option maxRecDepth 100000 in
theorem X5_nearest_l (H : Rules C T) {S K : Mem} {n m : Nat} (hm : m < 2) (X : XM S K n) {Q : Pst} : ∀ (k i : Nat) (b : Pck) (S1 : Mem), i + k = n → pkOK b n → ScM 0 S S1 → (∀ S2, ScM 0 S S2 → Q (some (.int (pkA (nearK K m k i b)))) S2) → T mX5_nearest Q 22 [some (.ref 25), some (.int (nI m)), some (.int (pkA b)), some (.int (pkF (-9) b)), some (.int (nI i))] [] S1 := by
  obtain ⟨⟨d, R⟩, g, hz⟩ := X
  have h8 := g.2.1
  intro k
  induction k with
  | zero =>
    intro i b S1 hi hb s1 h1
    obtain ⟨d1, R1⟩ := s1.rep R
    have hge : S1 25 8 ≤ nI i := by rw [R1.rm, g.1]; exact nI_le (by omega) (by omega)
    skip
    repeat' (first | (refine Rules.st H okX5_nearest [22] ?_; (conv => whnf); try (show T _ _ _ [_, _, _, _, _] _ _)) | refine br_t (by first | decide | assumption) ?_ | refine br_f (by first | decide | assumption) ?_ | refine br_c (fun _ => ?_) (fun _ => ?_) | refine ⟨by decide, ?_⟩ | refine ⟨by first | assumption | (unfold vp_in; decide) | ((with_reducible (refine vp_in_nI ?_ ?_)) <;> omega), ?_⟩ | fail)
    exact h1 S1 s1
  | succ k ih =>
    intro i b S1 hi hb s1 h1
    obtain ⟨d1, R1⟩ := s1.rep R
    have hge : ¬ S1 25 8 ≤ nI i := by rw [R1.rm, g.1]; exact nI_ge (by omega) (by omega)
    unfold nearK at h1
    skip
    repeat' (first | (refine Rules.st H okX5_nearest [22] ?_; (conv => whnf); try (show T _ _ _ [_, _, _, _, _] _ _)) | refine br_t (by first | decide | assumption) ?_ | refine br_f (by first | decide | assumption) ?_ | refine br_c (fun _ => ?_) (fun _ => ?_) | refine ⟨by decide, ?_⟩ | refine ⟨by first | assumption | (unfold vp_in; decide) | ((with_reducible (refine vp_in_nI ?_ ?_)) <;> omega), ?_⟩ | fail)
    refine X5_visitThought H R1 g hm (by omega) (fun S2 s2 e23 => ?_)
    rw [passK_0] at e23 ⊢
    have nx : ∀ (b' : Pck), pick b i (decide ((visitK K m i).1 = 3)) ((visitK K m i).2 5 m - K 5 m) = b' → T mX5_nearest Q 22 [some (.ref 25), some (.int (nI m)), some (.int (pkA b')), some (.int (pkF (-9) b')), some (.int (nI i + 1))] [] S2 := fun b' e => by
      rw [nI_1]
      exact ih (i + 1) b' S2 (by omega) (by rw [← e]; exact pick_ok hb (by omega)) (s1.tr s2) (fun S' F' => by rw [← e]; exact h1 S' F')
    rw [← e23] at nx
    by_cases h3 : (visitK K m i).1 = 3
    · have set := fun e => nx (some (i, S2 25 23)) e
      cases b with
      | none =>
        have p : pkA none < 0 := by decide
        repeat' (first | (refine Rules.st H okX5_nearest [22] ?_; (conv => whnf); try (show T _ _ _ [_, _, _, _, _] _ _)) | refine br_t (by first | decide | assumption) ?_ | refine br_f (by first | decide | assumption) ?_ | refine br_c (fun _ => ?_) (fun _ => ?_) | refine ⟨by decide, ?_⟩ | refine ⟨by first | assumption | (unfold vp_in; decide) | ((with_reducible (refine vp_in_nI ?_ ?_)) <;> omega), ?_⟩ | fail)
        exact Halt.mk (set (by simp [pick, h3]))
      | some b =>
        obtain ⟨j, f⟩ := b
        have hj : ¬ pkA (some (j, f)) < 0 := nI_pos (by have := hb j f rfl; omega)
        by_cases hf : S2 25 23 < pkF (-9) (some (j, f))
        · repeat' (first | (refine Rules.st H okX5_nearest [22] ?_; (conv => whnf); try (show T _ _ _ [_, _, _, _, _] _ _)) | refine br_t (by first | decide | assumption) ?_ | refine br_f (by first | decide | assumption) ?_ | refine br_c (fun _ => ?_) (fun _ => ?_) | refine ⟨by decide, ?_⟩ | refine ⟨by first | assumption | (unfold vp_in; decide) | ((with_reducible (refine vp_in_nI ?_ ?_)) <;> omega), ?_⟩ | fail)
          exact Halt.mk (set (if_pos ⟨by simp [h3], hf⟩))
        · repeat' (first | (refine Rules.st H okX5_nearest [22] ?_; (conv => whnf); try (show T _ _ _ [_, _, _, _, _] _ _)) | refine br_t (by first | decide | assumption) ?_ | refine br_f (by first | decide | assumption) ?_ | refine br_c (fun _ => ?_) (fun _ => ?_) | refine ⟨by decide, ?_⟩ | refine ⟨by first | assumption | (unfold vp_in; decide) | ((with_reducible (refine vp_in_nI ?_ ?_)) <;> omega), ?_⟩ | fail)
          exact Halt.mk (nx (some (j, f)) (if_neg (fun z => hf z.2)))
    · repeat' (first | (refine Rules.st H okX5_nearest [22] ?_; (conv => whnf); try (show T _ _ _ [_, _, _, _, _] _ _)) | refine br_t (by first | decide | assumption) ?_ | refine br_f (by first | decide | assumption) ?_ | refine br_c (fun _ => ?_) (fun _ => ?_) | refine ⟨by decide, ?_⟩ | refine ⟨by first | assumption | (unfold vp_in; decide) | ((with_reducible (refine vp_in_nI ?_ ?_)) <;> omega), ?_⟩ | fail)
      exact Halt.mk (nx b (by cases b <;> simp [pick, h3]))
set_option maxRecDepth 100000 in
theorem X5_nearest (H : Rules C T) {S K : Mem} {n : Nat} (X : XM S K n) {m : Int32} {Q : Pst} (h1 : AnsM S (F_nearest K n m) Q) : C mX5_nearest [.ref 25, .int m] S Q := by
  unfold F_nearest at h1
  refine Rules.go H (by decide) (Nat.le_of_ble_eq_true rfl) ?_
  repeat' (first | (refine Rules.st H okX5_nearest [22] ?_; (conv => whnf); try (show T _ _ _ [_, _, _, _, _] _ _)) | refine br_t (by first | decide | assumption) ?_ | refine br_f (by first | decide | assumption) ?_ | refine br_c (fun _ => ?_) (fun _ => ?_) | refine ⟨by decide, ?_⟩ | refine ⟨by first | assumption | (unfold vp_in; decide) | ((with_reducible (refine vp_in_nI ?_ ?_)) <;> omega), ?_⟩ | fail)
  refine X5_isMaid H (fun i hi e => ?_) (fun hno => ?_)
  · subst e
    rw [if_pos (okM_nI hi), show ix (nI i) = i from nIc (by omega)] at h1
    repeat' (first | (refine Rules.st H okX5_nearest [22] ?_; (conv => whnf); try (show T _ _ _ [_, _, _, _, _] _ _)) | refine br_t (by first | decide | assumption) ?_ | refine br_f (by first | decide | assumption) ?_ | refine br_c (fun _ => ?_) (fun _ => ?_) | refine ⟨by decide, ?_⟩ | refine ⟨by first | assumption | (unfold vp_in; decide) | ((with_reducible (refine vp_in_nI ?_ ?_)) <;> omega), ?_⟩ | fail)
    refine Halt.mk ?_
    exact X5_nearest_l H hi X n 0 none S (by omega) (fun _ _ z => by cases z) ScM.rf (fun S2 s2 => h1 S2 s2)
  · rw [if_neg (okM_neg hno)] at h1
    repeat' (first | (refine Rules.st H okX5_nearest [22] ?_; (conv => whnf); try (show T _ _ _ [_, _, _, _, _] _ _)) | refine br_t (by first | decide | assumption) ?_ | refine br_f (by first | decide | assumption) ?_ | refine br_c (fun _ => ?_) (fun _ => ?_) | refine ⟨by decide, ?_⟩ | refine ⟨by first | assumption | (unfold vp_in; decide) | ((with_reducible (refine vp_in_nI ?_ ?_)) <;> omega), ?_⟩ | fail)
    refine X5_no H ScM.rf (k := 1) (by omega) (by omega) (by decide) (fun S' hS' => ?_)
    repeat' (first | (refine Rules.st H okX5_nearest [22] ?_; (conv => whnf); try (show T _ _ _ [_, _, _, _, _] _ _)) | refine br_t (by first | decide | assumption) ?_ | refine br_f (by first | decide | assumption) ?_ | refine br_c (fun _ => ?_) (fun _ => ?_) | refine ⟨by decide, ?_⟩ | refine ⟨by first | assumption | (unfold vp_in; decide) | ((with_reducible (refine vp_in_nI ?_ ?_)) <;> omega), ?_⟩ | fail)
    exact h1 S' hS'
set_option maxRecDepth 100000 in
theorem X5_waitFor_l (H : Rules C T) {S K : Mem} {n m r : Nat} {w : Int32} (hm : m < 2) (hr : r < n) (X : XM S K n) {Q : Pst} : ∀ (k i : Nat) (b : Pck) (S1 : Mem), i + k = 31 → pkOK b 31 → ScM 0 S S1 → (∀ S2, ScM 0 S S2 → Q (some (.int (if w = 0 then pkA (waitK K m r k i b) else pkF (-9) (waitK K m r k i b)))) S2) → T mX5_waitFor Q 59 [some (.ref 25), some (.int (nI m)), some (.int (nI r)), some (.int w), some (.int 0), some (.int (pkA b)), some (.int (pkF (-9) b)), some (.int (nI i))] [] S1 := by
  obtain ⟨⟨d, R⟩, g, hz⟩ := X
  have h8 := g.2.1
  intro k
  induction k with
  | zero =>
    intro i b S1 hi hb s1 h1
    have hge : 30 < nI i := nI_lt (a := 30) (by omega) (by omega)
    have h1 := h1 S1 s1
    unfold waitK at h1
    by_cases q : w = 0
    · rw [if_pos q] at h1
      skip
      repeat' (first | (refine Rules.st H okX5_waitFor [59] ?_; (conv => whnf); try (show T _ _ _ [_, _, _, _, _, _, _, _] _ _)) | refine br_t (by first | decide | assumption) ?_ | refine br_f (by first | decide | assumption) ?_ | refine br_c (fun _ => ?_) (fun _ => ?_) | refine ⟨by decide, ?_⟩ | refine ⟨by first | assumption | (unfold vp_in; decide) | ((with_reducible (refine vp_in_nI ?_ ?_)) <;> omega), ?_⟩ | fail)
      exact h1
    · rw [if_neg q] at h1
      skip
      repeat' (first | (refine Rules.st H okX5_waitFor [59] ?_; (conv => whnf); try (show T _ _ _ [_, _, _, _, _, _, _, _] _ _)) | refine br_t (by first | decide | assumption) ?_ | refine br_f (by first | decide | assumption) ?_ | refine br_c (fun _ => ?_) (fun _ => ?_) | refine ⟨by decide, ?_⟩ | refine ⟨by first | assumption | (unfold vp_in; decide) | ((with_reducible (refine vp_in_nI ?_ ?_)) <;> omega), ?_⟩ | fail)
      exact h1
  | succ k ih =>
    intro i b S1 hi hb s1 h1
    obtain ⟨d1, R1⟩ := s1.rep R
    have hge : ¬ 30 < nI i := Int32.not_lt.mpr (nI_le (b := 30) (by omega) (by omega))
    unfold waitK at h1
    skip
    repeat' (first | (refine Rules.st H okX5_waitFor [59] ?_; (conv => whnf); try (show T _ _ _ [_, _, _, _, _, _, _, _] _ _)) | refine br_t (by first | decide | assumption) ?_ | refine br_f (by first | decide | assumption) ?_ | refine br_c (fun _ => ?_) (fun _ => ?_) | refine ⟨by decide, ?_⟩ | refine ⟨by first | assumption | (unfold vp_in; decide) | ((with_reducible (refine vp_in_nI ?_ ?_)) <;> omega), ?_⟩ | fail)
    refine X5_visitThought H R1 g hm hr (fun S2 s2 e23 => ?_)
    have nx : ∀ (b' : Pck), pick b i (decide ((visitK (passK K m (nI i)) m r).1 = 3)) ((visitK (passK K m (nI i)) m r).2 5 m - K 5 m) = b' → T mX5_waitFor Q 59 [some (.ref 25), some (.int (nI m)), some (.int (nI r)), some (.int w), some (.int 0), some (.int (pkA b')), some (.int (pkF (-9) b')), some (.int (nI i + 1))] [] S2 := fun b' e => by
      rw [nI_1]
      exact ih (i + 1) b' S2 (by omega) (by rw [← e]; exact pick_ok hb (by omega)) (s1.tr s2) (fun S' F' => by rw [← e]; exact h1 S' F')
    rw [← e23] at nx
    by_cases h3 : (visitK (passK K m (nI i)) m r).1 = 3
    · have set := fun e => nx (some (i, S2 25 23)) e
      cases b with
      | none =>
        have p : pkA none < 0 := by decide
        repeat' (first | (refine Rules.st H okX5_waitFor [59] ?_; (conv => whnf); try (show T _ _ _ [_, _, _, _, _, _, _, _] _ _)) | refine br_t (by first | decide | assumption) ?_ | refine br_f (by first | decide | assumption) ?_ | refine br_c (fun _ => ?_) (fun _ => ?_) | refine ⟨by decide, ?_⟩ | refine ⟨by first | assumption | (unfold vp_in; decide) | ((with_reducible (refine vp_in_nI ?_ ?_)) <;> omega), ?_⟩ | fail)
        exact Halt.mk (set (by simp [pick, h3]))
      | some b =>
        obtain ⟨j, f⟩ := b
        have hj : ¬ pkA (some (j, f)) < 0 := nI_pos (by have := hb j f rfl; omega)
        by_cases hf : S2 25 23 < pkF (-9) (some (j, f))
        · repeat' (first | (refine Rules.st H okX5_waitFor [59] ?_; (conv => whnf); try (show T _ _ _ [_, _, _, _, _, _, _, _] _ _)) | refine br_t (by first | decide | assumption) ?_ | refine br_f (by first | decide | assumption) ?_ | refine br_c (fun _ => ?_) (fun _ => ?_) | refine ⟨by decide, ?_⟩ | refine ⟨by first | assumption | (unfold vp_in; decide) | ((with_reducible (refine vp_in_nI ?_ ?_)) <;> omega), ?_⟩ | fail)
          exact Halt.mk (set (if_pos ⟨by simp [h3], hf⟩))
        · repeat' (first | (refine Rules.st H okX5_waitFor [59] ?_; (conv => whnf); try (show T _ _ _ [_, _, _, _, _, _, _, _] _ _)) | refine br_t (by first | decide | assumption) ?_ | refine br_f (by first | decide | assumption) ?_ | refine br_c (fun _ => ?_) (fun _ => ?_) | refine ⟨by decide, ?_⟩ | refine ⟨by first | assumption | (unfold vp_in; decide) | ((with_reducible (refine vp_in_nI ?_ ?_)) <;> omega), ?_⟩ | fail)
          exact Halt.mk (nx (some (j, f)) (if_neg (fun z => hf z.2)))
    · repeat' (first | (refine Rules.st H okX5_waitFor [59] ?_; (conv => whnf); try (show T _ _ _ [_, _, _, _, _, _, _, _] _ _)) | refine br_t (by first | decide | assumption) ?_ | refine br_f (by first | decide | assumption) ?_ | refine br_c (fun _ => ?_) (fun _ => ?_) | refine ⟨by decide, ?_⟩ | refine ⟨by first | assumption | (unfold vp_in; decide) | ((with_reducible (refine vp_in_nI ?_ ?_)) <;> omega), ?_⟩ | fail)
      exact Halt.mk (nx b (by cases b <;> simp [pick, h3]))
set_option maxRecDepth 100000 in
theorem X5_waitFor (H : Rules C T) {S K : Mem} {n : Nat} (X : XM S K n) {m r w : Int32} {Q : Pst} (h1 : AnsM S (F_waitFor K n m r w) Q) : C mX5_waitFor [.ref 25, .int m, .int r, .int w] S Q := by
  have X0 := X
  obtain ⟨⟨d, R⟩, g, hz⟩ := X
  have hn8 := g.2.1
  unfold F_waitFor at h1
  refine Rules.go H (by decide) (Nat.le_of_ble_eq_true rfl) ?_
  repeat' (first | (refine Rules.st H okX5_waitFor [59] ?_; (conv => whnf); try (show T _ _ _ [_, _, _, _, _, _, _, _] _ _)) | refine br_t (by first | decide | assumption) ?_ | refine br_f (by first | decide | assumption) ?_ | refine br_c (fun _ => ?_) (fun _ => ?_) | refine ⟨by decide, ?_⟩ | refine ⟨by first | assumption | (unfold vp_in; decide) | ((with_reducible (refine vp_in_nI ?_ ?_)) <;> omega), ?_⟩ | fail)
  refine X5_isMaid H (fun i hi e => ?_) (fun hno => ?_)
  · subst e
    rw [show ix (nI i) = i from nIc (by omega)] at h1
    repeat' (first | (refine Rules.st H okX5_waitFor [59] ?_; (conv => whnf); try (show T _ _ _ [_, _, _, _, _, _, _, _] _ _)) | refine br_t (by first | decide | assumption) ?_ | refine br_f (by first | decide | assumption) ?_ | refine br_c (fun _ => ?_) (fun _ => ?_) | refine ⟨by decide, ?_⟩ | refine ⟨by first | assumption | (unfold vp_in; decide) | ((with_reducible (refine vp_in_nI ?_ ?_)) <;> omega), ?_⟩ | fail)
    refine X5_isRoom H (R.rm.trans g.1) hn8 (fun j hj e => ?_) (fun hno => ?_)
    · subst e
      rw [if_pos ⟨okM_nI hi, okR_nI hn8 hj⟩, show ix (nI j) = j from nIc (by omega)] at h1
      repeat' (first | (refine Rules.st H okX5_waitFor [59] ?_; (conv => whnf); try (show T _ _ _ [_, _, _, _, _, _, _, _] _ _)) | refine br_t (by first | decide | assumption) ?_ | refine br_f (by first | decide | assumption) ?_ | refine br_c (fun _ => ?_) (fun _ => ?_) | refine ⟨by decide, ?_⟩ | refine ⟨by first | assumption | (unfold vp_in; decide) | ((with_reducible (refine vp_in_nI ?_ ?_)) <;> omega), ?_⟩ | fail)
      refine X5_isIn H (fun q1 q2 => ?_) (fun q => ?_)
      · rw [if_neg (w2y q1 q2)] at h1
        repeat' (first | (refine Rules.st H okX5_waitFor [59] ?_; (conv => whnf); try (show T _ _ _ [_, _, _, _, _, _, _, _] _ _)) | refine br_t (by first | decide | assumption) ?_ | refine br_f (by first | decide | assumption) ?_ | refine br_c (fun _ => ?_) (fun _ => ?_) | refine ⟨by decide, ?_⟩ | refine ⟨by first | assumption | (unfold vp_in; decide) | ((with_reducible (refine vp_in_nI ?_ ?_)) <;> omega), ?_⟩ | fail)
        refine Halt.mk ?_
        exact X5_waitFor_l H hi hj X0 31 0 none S (by omega) (fun _ _ z => by cases z) ScM.rf (fun S2 s2 => h1 S2 s2)
      · rw [if_pos (w2n q)] at h1
        repeat' (first | (refine Rules.st H okX5_waitFor [59] ?_; (conv => whnf); try (show T _ _ _ [_, _, _, _, _, _, _, _] _ _)) | refine br_t (by first | decide | assumption) ?_ | refine br_f (by first | decide | assumption) ?_ | refine br_c (fun _ => ?_) (fun _ => ?_) | refine ⟨by decide, ?_⟩ | refine ⟨by first | assumption | (unfold vp_in; decide) | ((with_reducible (refine vp_in_nI ?_ ?_)) <;> omega), ?_⟩ | fail)
        refine X5_no H ScM.rf (k := 2) (by omega) (by omega) (by decide) (fun S' hS' => ?_)
        repeat' (first | (refine Rules.st H okX5_waitFor [59] ?_; (conv => whnf); try (show T _ _ _ [_, _, _, _, _, _, _, _] _ _)) | refine br_t (by first | decide | assumption) ?_ | refine br_f (by first | decide | assumption) ?_ | refine br_c (fun _ => ?_) (fun _ => ?_) | refine ⟨by decide, ?_⟩ | refine ⟨by first | assumption | (unfold vp_in; decide) | ((with_reducible (refine vp_in_nI ?_ ?_)) <;> omega), ?_⟩ | fail)
        exact h1 S' hS'
    · rw [if_neg (fun z => okR_neg hn8 hno z.2)] at h1
      repeat' (first | (refine Rules.st H okX5_waitFor [59] ?_; (conv => whnf); try (show T _ _ _ [_, _, _, _, _, _, _, _] _ _)) | refine br_t (by first | decide | assumption) ?_ | refine br_f (by first | decide | assumption) ?_ | refine br_c (fun _ => ?_) (fun _ => ?_) | refine ⟨by decide, ?_⟩ | refine ⟨by first | assumption | (unfold vp_in; decide) | ((with_reducible (refine vp_in_nI ?_ ?_)) <;> omega), ?_⟩ | fail)
      refine X5_no H ScM.rf (k := 1) (by omega) (by omega) (by decide) (fun S' hS' => ?_)
      repeat' (first | (refine Rules.st H okX5_waitFor [59] ?_; (conv => whnf); try (show T _ _ _ [_, _, _, _, _, _, _, _] _ _)) | refine br_t (by first | decide | assumption) ?_ | refine br_f (by first | decide | assumption) ?_ | refine br_c (fun _ => ?_) (fun _ => ?_) | refine ⟨by decide, ?_⟩ | refine ⟨by first | assumption | (unfold vp_in; decide) | ((with_reducible (refine vp_in_nI ?_ ?_)) <;> omega), ?_⟩ | fail)
      exact h1 S' hS'
  · rw [if_neg (fun z => okM_neg hno z.1)] at h1
    repeat' (first | (refine Rules.st H okX5_waitFor [59] ?_; (conv => whnf); try (show T _ _ _ [_, _, _, _, _, _, _, _] _ _)) | refine br_t (by first | decide | assumption) ?_ | refine br_f (by first | decide | assumption) ?_ | refine br_c (fun _ => ?_) (fun _ => ?_) | refine ⟨by decide, ?_⟩ | refine ⟨by first | assumption | (unfold vp_in; decide) | ((with_reducible (refine vp_in_nI ?_ ?_)) <;> omega), ?_⟩ | fail)
    refine X5_no H ScM.rf (k := 1) (by omega) (by omega) (by decide) (fun S' hS' => ?_)
    repeat' (first | (refine Rules.st H okX5_waitFor [59] ?_; (conv => whnf); try (show T _ _ _ [_, _, _, _, _, _, _, _] _ _)) | refine br_t (by first | decide | assumption) ?_ | refine br_f (by first | decide | assumption) ?_ | refine br_c (fun _ => ?_) (fun _ => ?_) | refine ⟨by decide, ?_⟩ | refine ⟨by first | assumption | (unfold vp_in; decide) | ((with_reducible (refine vp_in_nI ?_ ?_)) <;> omega), ?_⟩ | fail)
    exact h1 S' hS'
end M24
